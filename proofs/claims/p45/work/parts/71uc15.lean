/-! join, open: both sides -/
theorem zany_app {p : Int → Bool} : ∀ (j : Nat) (k : Int), zany p (j + 1) k = (zany p j k || p (k + j))
  | 0, k => by simp [zany]
  | j + 1, k => by
    rw [zany, zany_app j (k + 1), zany]
    have e : k + 1 + (j : Int) = k + ((j + 1 : Nat) : Int) := by omega
    rw [e, Bool.or_assoc]
/-- distinct numbers below 16 are at most 16 -/
theorem zpig {q : Int → Int} : ∀ (n : Nat), (∀ k : Int, 0 ≤ k → k < n → 0 ≤ q k ∧ q k < 16) → (∀ j k : Int, 0 ≤ j → j < k → k < n → q j ≠ q k) → zcnt (fun v => zany (fun k => decide (q k = v)) n 0) 16 0 = n
  | 0, _, _ => rfl
  | n + 1, h1, h2 => by
    have ih := zpig n (fun k a b => h1 k a (by omega)) (fun j k a b d => h2 j k a b (by omega))
    have e0 : (0 : Int) + (n : Int) = n := by omega
    have hb : (fun v => zany (fun k => decide (q k = v)) (n + 1) 0) (q n) = true := by
      show zany (fun k => decide (q k = q n)) (n + 1) 0 = true
      rw [zany_app, e0, decide_eq_true rfl, Bool.or_true]
    have hq := h1 n (by omega) (by omega)
    rw [zcnt_one (p := fun v => zany (fun k => decide (q k = v)) (n + 1) 0) (b := q n) hb 16 0 hq.1 (by omega)]
    have e : zcnt (fun v => (fun v => zany (fun k => decide (q k = v)) (n + 1) 0) v && decide (v ≠ q n)) 16 0 = zcnt (fun v => zany (fun k => decide (q k = v)) n 0) 16 0 := zcnt_cg 16 0 (fun v v0 v1 => by
      show (zany (fun k => decide (q k = v)) (n + 1) 0 && decide (v ≠ q n)) = zany (fun k => decide (q k = v)) n 0
      rw [zany_app, e0]
      by_cases w : v = q n
      · rw [decide_eq_false (show ¬ (v ≠ q n) from fun z => z w), Bool.and_false]
        symm
        rw [← Bool.not_eq_true, zany_iff]
        rintro ⟨i, i0, i1, i2⟩
        have i2 := of_decide_eq_true i2
        exact h2 i n i0 (by omega) (by omega) (i2.trans w)
      · rw [decide_eq_true (show v ≠ q n from w), decide_eq_false (show ¬ q n = v from fun z => w z.symm), Bool.or_false, Bool.and_true])
    rw [e, ih]
    omega
theorem zpig2 {q : Int → Int} {n p : Int} (n0 : 0 ≤ n) (h1 : ∀ k : Int, 0 ≤ k → k < n → 0 ≤ q k ∧ q k < 16) (h2 : ∀ j k : Int, 0 ≤ j → j < k → k < n → q j ≠ q k) (p0 : 0 ≤ p) (p1 : p < 16) (h3 : ∀ k : Int, 0 ≤ k → k < n → q k ≠ p) : n < 16 := by
  have e : ((n.toNat + 1 : Nat) : Int) = n + 1 := by omega
  have := zpig (q := fun k => if k = n then p else q k) (n.toNat + 1) (fun k a b => by
    (try dsimp only)
    by_cases w : k = n
    · rw [if_pos w]
      exact ⟨p0, p1⟩
    · rw [if_neg w]
      exact h1 k a (by omega)) (fun j k a b d => by
    (try dsimp only)
    rw [if_neg (show ¬ j = n by omega)]
    by_cases w : k = n
    · rw [if_pos w]
      exact h3 j a (by omega)
    · rw [if_neg w]
      exact h2 j k a b (by omega))
  have h4 := zcnt_le (fun v => zany (fun k => decide ((if k = n then p else q k) = v)) (n.toNat + 1) 0) 16 0
  omega
def zwt (c : ZS) (s p k : Int) : Bool := decide (c r_Show_queue s 0 k = p)
theorem q_awaited {c m : ZS} (h : zQu c m) {s p : Int} (s0 : 0 ≤ s) (s1 : s < 60) : f_Show_isAwaitedBy [s, p] c = ((0, [zb (zany (zwt c s p) (c r_Show_waiting s 0 0).toNat 0)]), c) ∧ f_m_waitsFor [p, s] m = ((0, [zb (zany (zwt c s p) (c r_Show_waiting s 0 0).toNat 0)]), m) := by
  obtain ⟨-, ⟨w0, w1, w2⟩, qu, -⟩ := h s s0 s1
  constructor
  · show g_Show_isAwaitedBy ((1000, [s, p]), c) = _
    rw [g_Show_isAwaitedBy_0]
    refine (zl_any (n := c r_Show_waiting s 0 0) (p := zwt c s p) (A := ((0, [1]), c)) (B := ((0, [0]), c)) (G := fun k => g_Show_isAwaitedBy ((1002, [s, p, k]), c)) (fun k hk => ?_) (fun k h0 h1 => ?_) (c r_Show_waiting s 0 0).toNat 0 (Int.le_refl _) (by omega)).trans ?_
    · rw [g_Show_isAwaitedBy_2, zb_d, if_pos (by omega)]
    · have hk : e_wr (k + 1) = k + 1 := e_wr_id (by omega) (by omega)
      rw [g_Show_isAwaitedBy_2, zb_d, if_neg (by omega), hk, zb_n]
      unfold zwt
      simp only [decide_eq_true_eq]
    · unfold zb
      split <;> rfl
  · show g_m_waitsFor ((1000, [p, s]), m) = _
    rw [g_m_waitsFor_0]
    refine zl_set (n := c r_Show_waiting s 0 0) (z := 1) (p := zwt c s p) (P := zbit) zbit1 (fin := fun v => ((0, [v]), m)) (G := fun v k => g_m_waitsFor ((1005, [p, s, v, k]), m)) (fun v k e hv => ?_) (fun v k h0 h1 hv => ?_) (c r_Show_waiting s 0 0).toNat 0 0 (Int.le_refl _) (by omega) zbit0
    · rw [g_m_waitsFor_5, zb_d, if_pos (by omega)]
    · have hk : e_wr (k + 1) = k + 1 := e_wr_id (by omega) (by omega)
      rw [g_m_waitsFor_5, zb_d, if_neg (by omega), hk, (qu k h0 h1).1, e_or0 hv, e_or1 hv, zb_n]
      unfold zwt
      simp only [decide_eq_true_eq]
      split <;> rfl
theorem q_noPass {p : Int} {S : ZS} (h0 : 0 ≤ S r_m_passes 0 0 0) (h1 : S r_m_passes 0 0 0 ≤ 1000) : v_m_isIn p 0 (e_wr (S r_m_passes 0 0 0 - 1)) S = if 0 ≤ p ∧ p < S r_m_passes 0 0 0 then 1 else 0 := by
  rw [q_isIn, e_wr_id (by omega) (by omega)]
  repeat' split
  all_goals first | rfl | omega
theorem o_join {p s : Int} {c m : ZS} (hP : zPa c m) (h : zGr c m) : zBo zGr (f_w_join [p, s] c) (f_m_join [p, s] m) := by
  obtain ⟨⟨p0, p1, p2⟩, -⟩ := id hP
  obtain ⟨g1, g2, g3, g4, g5, g6, g7, g8, g9, g10⟩ := id h
  obtain ⟨⟨n0, n1, n2⟩, -⟩ := id g7
  show zBo zGr (e_try (f_x_join [p, s] c) (fun v1 S1 => ((0, [0]), e_upd S1 r_out 0 0 0 v1)) [(0, 1), (3, 2)]) (f_m_join [p, s] m)
  unfold f_x_join f_m_join
  dsimp only
  rw [q_pass p0 (by omega), q_noPass (by omega) (by omega), q_noShow (by omega) (by omega), p2, n2]
  by_cases hp : 0 ≤ p ∧ p < c r_Passes_passCount 0 0 0
  · rw [if_pos hp, if_pos hp, e_b_ok, q_show n0 (by omega)]
    by_cases hs : 0 ≤ s ∧ s < c r_Grid_showCount 0 0 0
    · rw [if_pos hs, if_pos hs, e_b_ok]
      have h1 : zGr c (e_upd m r_m_thrown 0 0 0 0) := h.thr
      obtain ⟨x1, x2, x3, x4, x5, x6, x7, x8, x9, x10⟩ := id h1
      have hst := (q_state x7 x1 x5 hs.1 hs.2).1
      obtain ⟨y1, ⟨y2, y3, y4⟩, y5, y6, y7⟩ := g9 s hs.1 (by omega)
      obtain ⟨a1, a2⟩ := q_awaited x9 (p := p) hs.1 (show s < 60 by omega)
      simp (decide := true) only [zb_n, zb_d, ↓reduceIte, Int.reduceEq, hst, y1]
      by_cases q1 : v_Grid_stateOf s c = 116
      · by_cases q2 : c r_Show_isOpened s 0 0 = 0
        · simp only [if_pos q1, if_pos q2]
          rw [a1, a2, e_bnd, e_bnd]
          by_cases q3 : zany (zwt c s p) (c r_Show_waiting s 0 0).toNat 0 = true
          · rw [q3]
            simp (decide := true) only [zb, ↓reduceIte, Int.reduceEq]
            exact ⟨2, 0, _, _, rfl, rfl, h.thr.thr, e_us, fun q => absurd q (by decide)⟩
          · have q4 : zany (zwt c s p) (c r_Show_waiting s 0 0).toNat 0 = false := by simpa using q3
            have hno : ∀ k : Int, 0 ≤ k → k < c r_Show_waiting s 0 0 → c r_Show_queue s 0 k ≠ p := fun k k0 k1 z => q3 ((zany_iff _ 0).mpr ⟨k, k0, by omega, decide_eq_true z⟩)
            have hlt : c r_Show_waiting s 0 0 < 16 := zpig2 (q := fun k => c r_Show_queue s 0 k) (p := p) y2 (fun k a b => (y5 k a b).2) (fun j k a b d => y6 j k a b d) hp.1 (by omega) hno
            have hw : e_wr (c r_Show_waiting s 0 0 + 1) = c r_Show_waiting s 0 0 + 1 := e_wr_id (by omega) (by omega)
            have ea : f_Show_addWaiting [s, p] c = ((0, []), e_upd (e_upd c r_Show_queue s 0 (c r_Show_waiting s 0 0) p) r_Show_waiting s 0 0 (c r_Show_waiting s 0 0 + 1)) := by
              unfold f_Show_addWaiting
              dsimp only
              rw [zb_d, if_neg (by omega), hw]
            rw [q4, ea]
            simp (decide := true) only [zb, ↓reduceIte, Int.reduceEq, e_bnd0, e_us, e_un, y4, hw]
            refine ⟨0, _, _, _, rfl, rfl, zGr.out ⟨?_, ?_, ?_, ?_, ?_, ?_, ?_, ?_, ?_, zAr_rel.uc (zAr_rel.uc (zAr_rel.um (zAr_rel.um x10.thr (by decide)) (by decide)) (by decide)) (by decide)⟩, ?_, fun _ => e_us⟩
            · exact zFs_rel.uc (zFs_rel.uc (zFs_rel.um (zFs_rel.um x1.thr (by decide)) (by decide)) (by decide)) (by decide)
            · exact zVe_rel.uc (zVe_rel.uc (zVe_rel.um (zVe_rel.um x2.thr (by decide)) (by decide)) (by decide)) (by decide)
            · exact zPk_rel.uc (zPk_rel.uc (zPk_rel.um (zPk_rel.um x3.thr (by decide)) (by decide)) (by decide)) (by decide)
            · exact zPh_rel.uc (zPh_rel.uc (zPh_rel.um (zPh_rel.um x4.thr (by decide)) (by decide)) (by decide)) (by decide)
            · exact zHr_rel.uc (zHr_rel.uc (zHr_rel.um (zHr_rel.um x5.thr (by decide)) (by decide)) (by decide)) (by decide)
            · exact zSt_rel.uc (zSt_rel.uc (zSt_rel.um (zSt_rel.um x6.thr (by decide)) (by decide)) (by decide)) (by decide)
            · exact zSw_rel.uc (zSw_rel.uc (zSw_rel.um (zSw_rel.um x7.thr (by decide)) (by decide)) (by decide)) (by decide)
            · exact zTo_rel.uc (zTo_rel.uc (zTo_rel.um (zTo_rel.um x8.thr (by decide)) (by decide)) (by decide)) (by decide)
            · intro i i0 i1
              obtain ⟨b1, ⟨b2, b3, b4⟩, b5, b6, b7⟩ := g9 i i0 i1
              simp (decide := true) only [e_un, e_ur]
              by_cases w : i = s
              · subst w
                simp (decide := true) only [and_self, ↓reduceIte, true_and]
                refine ⟨b1, ⟨by omega, by first | omega | exact ⟨by omega, trivial⟩ | exact ⟨by omega, rfl⟩⟩, fun k k0 k1 => ?_, fun j k j0 jk k1 => ?_, fun z => by omega⟩
                · by_cases v : k = c r_Show_waiting i 0 0
                  · rw [if_pos v, if_pos v]
                    exact ⟨rfl, hp.1, by omega⟩
                  · rw [if_neg v, if_neg v]
                    exact b5 k k0 (by omega)
                · rw [if_neg (show ¬ j = c r_Show_waiting i 0 0 by omega)]
                  by_cases v : k = c r_Show_waiting i 0 0
                  · rw [if_pos v]
                    exact hno j j0 (by omega)
                  · rw [if_neg v]
                    exact b6 j k j0 jk (by omega)
              · simp only [w, and_false, false_and, ↓reduceIte]
                exact ⟨b1, ⟨b2, b3, b4⟩, b5, b6, b7⟩
            · simp (decide := true) only [e_un, e_us]
        · simp only [if_pos q1, if_neg q2]
          exact ⟨2, 0, _, _, rfl, rfl, h.thr.thr, e_us, fun q => absurd q (by decide)⟩
      · simp only [if_neg q1]
        exact ⟨2, 0, _, _, rfl, rfl, h.thr.thr, e_us, fun q => absurd q (by decide)⟩
    · rw [if_neg hs, if_neg hs, e_b_x (by decide) (by decide)]
      simp (decide := true) only [zb_n, zb_d, ↓reduceIte]
      exact ⟨1, 0, _, _, rfl, rfl, h.thr, e_us, fun q => absurd q (by decide)⟩
  · rw [if_neg hp, if_neg hp, e_b_x (by decide) (by decide)]
    simp (decide := true) only [zb_n, zb_d, ↓reduceIte]
    exact ⟨1, 0, _, _, rfl, rfl, h.thr, e_us, fun q => absurd q (by decide)⟩
/-- a pass has a seat at another show in one of the hours of a show -/
def zel (c : ZS) (p s i : Int) : Bool := decide (i ≠ s) && (decide (c r_Show_isSeated i 0 p ≠ 0) && zin c i (c r_Show_first s 0 0) (zln c (c r_Show_film s 0 0)))
theorem zin2 {c : ZS} {i x : Int} : zin c i x 2 = (zin c i x 1 || zin c i (x + 1) 1) := by
  have hr := zln_r (c := c) (f := c r_Show_film i 0 0)
  unfold zin
  rw [← Bool.decide_or]
  apply decide_eq_decide.mpr
  omega
theorem q_elsewhereC {c m : ZS} (h : zSw c m) {p s : Int} (s0 : 0 ≤ s) (s1 : s < c r_Grid_showCount 0 0 0) : f_Grid_isSeatedElsewhere [p, s] c = ((0, [zb (zany (zel c p s) (c r_Grid_showCount 0 0 0).toNat 0)]), c) := by
  obtain ⟨⟨n0, n1, -⟩, sw, -⟩ := id h
  obtain ⟨-, -, ⟨-, x0, x1⟩, xl⟩ := sw s s0 s1
  have xl : c r_Show_length s 0 0 = zln c (c r_Show_film s 0 0) := xl
  have hr := zln_r (c := c) (f := c r_Show_film s 0 0)
  show g_Grid_isSeatedElsewhere ((1000, [p, s]), c) = _
  rw [g_Grid_isSeatedElsewhere_0]
  refine (zl_any (n := c r_Grid_showCount 0 0 0) (p := zel c p s) (A := ((0, [1]), c)) (B := ((0, [0]), c)) (G := fun k => g_Grid_isSeatedElsewhere ((1002, [p, s, k]), c)) (fun k hk => ?_) (fun k h0 h1 => ?_) (c r_Grid_showCount 0 0 0).toNat 0 (Int.le_refl _) (by omega)).trans ?_
  · rw [g_Grid_isSeatedElsewhere_2, zb_d, if_pos (by omega)]
  · have hk : e_wr (k + 1) = k + 1 := e_wr_id (by omega) (by omega)
    rw [g_Grid_isSeatedElsewhere_2, zb_d, if_neg (by omega), hk, xl, q_standsIn h h0 h1 x0 (by omega) (by omega) (by omega)]
    unfold zel
    simp only [zb_d, zb0]
    by_cases q1 : k = s
    · rw [if_pos q1, decide_eq_false (fun z => z q1), Bool.false_and, if_neg (by decide)]
    · rw [if_neg q1, decide_eq_true q1, Bool.true_and]
      by_cases q2 : c r_Show_isSeated k 0 p = 0
      · rw [if_pos q2, decide_eq_false (fun z => z q2), Bool.false_and, if_neg (by decide)]
      · rw [if_neg q2, decide_eq_true q2, Bool.true_and]
        cases zin c k (c r_Show_first s 0 0) (zln c (c r_Show_film s 0 0)) <;> rfl
  · unfold zb
    split <;> rfl
theorem q_elsewhereM {c m : ZS} (h : zSw c m) (hf : zFs c m) (hS : zSs c m) {p s : Int} (s0 : 0 ≤ s) (s1 : s < c r_Grid_showCount 0 0 0) (p0 : 0 ≤ p) (p1 : p < 16) : f_m_isElsewhere [p, s] m = ((0, [zb (zany (zel c p s) (c r_Grid_showCount 0 0 0).toNat 0)]), m) := by
  obtain ⟨⟨n0, n1, n2⟩, sw, -⟩ := id h
  obtain ⟨-, -, ⟨-, x0, x1⟩, -⟩ := sw s s0 s1
  obtain ⟨-, -, e3, -, -⟩ := h.row hf s0 s1
  have hl := q_lastOf h hf s0 s1
  have hr := zln_r (c := c) (f := c r_Show_film s 0 0)
  show g_m_isElsewhere ((1000, [p, s]), m) = _
  rw [g_m_isElsewhere_0]
  refine zl_set (n := c r_Grid_showCount 0 0 0) (z := 1) (p := zel c p s) (P := zbit) zbit1 (fin := fun v => ((0, [v]), m)) (G := fun v k => g_m_isElsewhere ((1005, [p, s, v, k]), m)) (fun v k e hv => ?_) (fun v k h0 h1 hv => ?_) (c r_Grid_showCount 0 0 0).toNat 0 0 (Int.le_refl _) (by omega) zbit0
  · rw [g_m_isElsewhere_5, zb_d, if_pos (by omega)]
  · have hk : e_wr (k + 1) = k + 1 := e_wr_id (by omega) (by omega)
    have step : ∀ (u y : Int), zbit u → 0 ≤ y → y < 100 → ¬ v_m_lastOf s m < y → g_m_isElsewhere ((1022, [p, s, u, k, y]), m) = g_m_isElsewhere ((1022, [p, s, if (decide (k ≠ s) && (decide (c r_Show_isSeated k 0 p ≠ 0) && zin c k y 1)) = true then 1 else u, k, y + 1]), m) := fun u y hu y0 y1 hy => by
      have hyw : e_wr (y + 1) = y + 1 := e_wr_id (by omega) (by omega)
      rw [g_m_isElsewhere_22, zb_d, if_neg hy, e_or0 hu, e_or1 hu, hyw, q_hasHour h hf h0 h1, hS k p h0 (by omega) p0 p1]
      simp only [zb_d, zb0]
      by_cases q1 : k = s
      · rw [if_pos q1, decide_eq_false (fun z => z q1), Bool.false_and, if_neg (by decide)]
      · rw [if_neg q1, decide_eq_true q1, Bool.true_and]
        by_cases q2 : c r_Show_isSeated k 0 p = 0
        · rw [if_pos q2, decide_eq_false (fun z => z q2), Bool.false_and, if_neg (by decide)]
        · rw [if_neg q2, decide_eq_true q2, Bool.true_and]
          cases zin c k y 1 <;> rfl
    have last : ∀ (u y : Int), v_m_lastOf s m < y → g_m_isElsewhere ((1022, [p, s, u, k, y]), m) = g_m_isElsewhere ((1005, [p, s, u, k + 1]), m) := fun u y hy => by
      rw [g_m_isElsewhere_22, zb_d, if_pos hy, hk]
    have hb : ∀ (b : Bool) (u : Int), zbit u → zbit (if b = true then 1 else u) := fun b u hu => by
      cases b
      · exact hu
      · exact zbit1
    rw [g_m_isElsewhere_5, zb_d, if_neg (by omega), e3, step v _ hv x0 (by omega) (by omega)]
    unfold zel
    by_cases q : zln c (c r_Show_film s 0 0) = 1
    · rw [last _ _ (by omega), q]
    · have q2 : zln c (c r_Show_film s 0 0) = 2 := by omega
      rw [step _ _ (hb _ _ hv) (by omega) (by omega) (by omega), last _ _ (by omega), q2, zin2]
      cases decide (k ≠ s) <;> cases decide (c r_Show_isSeated k 0 p ≠ 0) <;> cases zin c k (c r_Show_first s 0 0) 1 <;> cases zin c k (c r_Show_first s 0 0 + 1) 1 <;> rfl
def zopW : List Nat := [r_Show_isSeated]
def zopX : List Nat := [r_m_haveSeats_r]
theorem q_seat1 {c m : ZS} {s w : Int} (g1 : zFs c m) (g7 : zSw c m) (hq : (0 ≤ c r_Show_waiting s 0 0 ∧ c r_Show_waiting s 0 0 ≤ 16 ∧ m r_m_waitMany 0 0 s = c r_Show_waiting s 0 0) ∧ ∀ k, 0 ≤ k → k < c r_Show_waiting s 0 0 → m r_m_waits_r s 0 k = c r_Show_queue s 0 k ∧ 0 ≤ c r_Show_queue s 0 k ∧ c r_Show_queue s 0 k < 16) (hP : zPa c m) (s0 : 0 ≤ s) (s1 : s < c r_Grid_showCount 0 0 0) (hw : w = m r_m_seats 0 0 (m r_m_showScreens 0 0 s)) {y : Int} {Goal : ZR → ZR → Prop} (y0 : 0 ≤ y) (y1 : y ≤ 3) (hN : ∀ u C M, 0 ≤ u → u ≤ 16 * (y + 1) → (∀ r, zopW.contains r = false → C r = c r) → (∀ r, zopX.contains r = false → M r = m r) → zSs C M → Goal (g_Passes_giveSeats ((1006, [s, w, u, y + 1]), C)) (g_m_open ((1063, [s, u, y + 1]), M))) : ∀ (t : Nat) (k u : Int) (C M : ZS), 0 ≤ k → k + t = c r_Show_waiting s 0 0 → 0 ≤ u → u ≤ 16 * y + k → (∀ r, zopW.contains r = false → C r = c r) → (∀ r, zopX.contains r = false → M r = m r) → zSs C M → Goal (g_Passes_giveSeats ((1015, [s, w, u, y, k]), C)) (g_m_open ((1071, [s, u, y, k]), M)) := by
  have n60 := g7.1.2.1
  obtain ⟨⟨w0, w1, w2⟩, qu⟩ := id hq
  have hy : e_wr (y + 1) = y + 1 := e_wr_id (by omega) (by omega)
  intro t
  induction t with
  | zero =>
    intro k u C M k0 k1 u0 u1 fr fm hS
    rw [g_Passes_giveSeats_15, zb_d, fr r_Show_waiting (by decide), if_pos (by omega), g_m_open_71, zb_d, fm r_m_waitMany (by decide), if_pos (by omega), hy]
    exact hN u C M u0 (by omega) fr fm hS
  | succ t ih =>
    intro k u C M k0 k1 u0 u1 fr fm hS
    have hk : e_wr (k + 1) = k + 1 := e_wr_id (by omega) (by omega)
    have hu : e_wr (u + 1) = u + 1 := e_wr_id (by omega) (by omega)
    obtain ⟨z1, z2, z3⟩ := qu k k0 (by omega)
    have kC : ∀ {R : ZS → ZS → Prop} {KC KM : List Nat}, zRel R KC KM → z_nin KC zopW = true → z_nin KM zopX = true → R c m → R C M := fun hr hq hq' h => hr h (fun r hr' => fr r (z_nin_ok hq hr')) (fun r hr' => fm r (z_nin_ok hq' hr'))
    have hSw := kC zSw_rel (by decide) (by decide) g7
    have hFs := kC zFs_rel (by decide) (by decide) g1
    have eN : C r_Grid_showCount = c r_Grid_showCount := fr _ (by decide)
    have e1 := q_elsewhereC hSw (p := c r_Show_queue s 0 k) s0 (by rw [eN]; exact s1)
    have e2 := q_elsewhereM hSw hFs hS s0 (by rw [eN]; exact s1) z2 z3
    have rk := hP.2 _ z2 z3
    have eC := g_Passes_giveSeats_15 (x1 := s) (x2 := w) (x3 := u) (x4 := y) (x5 := k) (S := C)
    rw [zb_d, fr r_Show_waiting (by decide), if_neg (by omega), zb_d, zb_n, fr r_Show_queue (by decide), fr r_Passes_ranks (by decide), e1, e_bnd, zb_n, e_nb1, hk, hu] at eC
    have eM := g_m_open_71 (x1 := s) (x2 := u) (x3 := y) (x4 := k) (S := M)
    rw [zb_d, fm r_m_waitMany (by decide), if_neg (by omega), zb_n, zb_d, fm r_m_waits_r (by decide), fm r_m_ranks (by decide), fm r_m_seats (by decide), fm r_m_showScreens (by decide), z1, rk, e2, e_bnd, zb_n, e_nb1, hk, hu, ← hw] at eM
    rw [eC, eM]
    by_cases q1 : w ≤ u
    · rw [if_pos q1]
      by_cases q2 : c r_Passes_ranks 0 0 (c r_Show_queue s 0 k) = y
      · rw [if_pos q2, if_pos q1]
        exact ih (k + 1) u C M (by omega) (by omega) u0 (by omega) fr fm hS
      · rw [if_neg q2]
        exact ih (k + 1) u C M (by omega) (by omega) u0 (by omega) fr fm hS
    · rw [if_neg q1]
      by_cases q2 : c r_Passes_ranks 0 0 (c r_Show_queue s 0 k) = y
      · rw [if_pos q2, if_pos q2, if_neg q1]
        by_cases q3 : zany (zel C (c r_Show_queue s 0 k) s) (C r_Grid_showCount 0 0 0).toNat 0 = true
        · rw [q3, if_neg (by decide), if_neg (by decide)]
          exact ih (k + 1) u C M (by omega) (by omega) u0 (by omega) fr fm hS
        · have q4 : zany (zel C (c r_Show_queue s 0 k) s) (C r_Grid_showCount 0 0 0).toNat 0 = false := by simpa using q3
          rw [q4, if_pos (by decide), if_pos (by decide)]
          refine ih (k + 1) (u + 1) _ _ (by omega) (by omega) (by omega) (by omega) (fun r hr => ?_) (fun r hr => ?_) (fun i p i0 i1 p0 p1 => ?_)
          · rw [← fr r hr]
            funext a b d
            exact e_un (by
              cases e : r == r_Show_isSeated with
              | false => rfl
              | true => rw [beq_iff_eq] at e; rw [e] at hr; exact absurd hr (by decide))
          · rw [← fm r hr]
            funext a b d
            exact e_un (by
              cases e : r == r_m_haveSeats_r with
              | false => rfl
              | true => rw [beq_iff_eq] at e; rw [e] at hr; exact absurd hr (by decide))
          · rw [e_ur, e_ur, hS i p i0 i1 p0 p1]
      · rw [if_neg q2, if_neg q2]
        exact ih (k + 1) u C M (by omega) (by omega) u0 (by omega) fr fm hS
theorem q_seats {c m : ZS} {s w : Int} (g1 : zFs c m) (g7 : zSw c m) (hq : (0 ≤ c r_Show_waiting s 0 0 ∧ c r_Show_waiting s 0 0 ≤ 16 ∧ m r_m_waitMany 0 0 s = c r_Show_waiting s 0 0) ∧ ∀ k, 0 ≤ k → k < c r_Show_waiting s 0 0 → m r_m_waits_r s 0 k = c r_Show_queue s 0 k ∧ 0 ≤ c r_Show_queue s 0 k ∧ c r_Show_queue s 0 k < 16) (hP : zPa c m) (s0 : 0 ≤ s) (s1 : s < c r_Grid_showCount 0 0 0) (hw : w = m r_m_seats 0 0 (m r_m_showScreens 0 0 s)) : ∀ (t : Nat) (y u : Int) (C M : ZS), 0 ≤ y → y + t = 4 → 0 ≤ u → u ≤ 16 * y → (∀ r, zopW.contains r = false → C r = c r) → (∀ r, zopX.contains r = false → M r = m r) → zSs C M → ∃ v C' M', g_Passes_giveSeats ((1006, [s, w, u, y]), C) = ((0, [v]), C') ∧ g_m_open ((1063, [s, u, y]), M) = ((0, [v]), zmA 111 (m r_m_showFilms 0 0 s) (e_upd M' r_m_areOpened 0 0 s 1)) ∧ (∀ r, zopW.contains r = false → C' r = c r) ∧ (∀ r, zopX.contains r = false → M' r = m r) ∧ zSs C' M' := by
  have n60 := g7.1.2.1
  obtain ⟨⟨w0, w1, w2⟩, -⟩ := id hq
  intro t
  induction t with
  | zero =>
    intro y u C M y0 y1 u0 u1 fr fm hS
    refine ⟨u, C, M, ?_, ?_, fr, fm, hS⟩
    · rw [g_Passes_giveSeats_6, zb_d, if_pos (by omega)]
    · rw [g_m_open_63, zb_d, if_pos (by omega), q_zmA, e_bnd0, e_nb1, fm r_m_showFilms (by decide)]
  | succ t ih =>
    intro y u C M y0 y1 u0 u1 fr fm hS
    rw [g_Passes_giveSeats_6, zb_d, if_neg (by omega), g_m_open_63, zb_d, if_neg (by omega)]
    exact q_seat1 g1 g7 hq hP s0 s1 hw (Goal := fun A B => ∃ v C' M', A = ((0, [v]), C') ∧ B = ((0, [v]), zmA 111 (m r_m_showFilms 0 0 s) (e_upd M' r_m_areOpened 0 0 s 1)) ∧ (∀ r, zopW.contains r = false → C' r = c r) ∧ (∀ r, zopX.contains r = false → M' r = m r) ∧ zSs C' M') y0 (by omega) (fun u C M a b fr fm hS => ih (y + 1) u C M (by omega) (by omega) a b fr fm hS) (c r_Show_waiting s 0 0).toNat 0 u C M (Int.le_refl _) (by omega) u0 (by omega) fr fm hS
theorem o_open {s : Int} {c m : ZS} (h : zGr c m) (hS : zSs c m) (hP : zPa c m) : zBo (zAnd zGr zSs) (f_w_open [s] c) (f_m_open [s] m) := by
  obtain ⟨g1, g2, g3, g4, g5, g6, g7, g8, g9, g10⟩ := id h
  obtain ⟨⟨n0, n1, n2⟩, sw, sc⟩ := id g7
  show zBo (zAnd zGr zSs) (e_try (f_x_open [s] c) (fun v1 S1 => ((0, [0]), e_upd S1 r_out 0 0 0 v1)) [(0, 1), (3, 2)]) (g_m_open ((1000, [s]), m))
  rw [g_m_open_0, q_noShow (by omega) (by omega), n2]
  unfold f_x_open
  dsimp only
  rw [q_show n0 (by omega)]
  by_cases hs : 0 ≤ s ∧ s < c r_Grid_showCount 0 0 0
  · rw [if_pos hs, if_pos hs, e_b_ok]
    have hst := (q_state g7 g1 g5 hs.1 hs.2).2
    have hcs := (sc s hs.1 (by omega)).1
    have hop := (g9 s hs.1 (by omega)).1
    have hho := (g7.row g1 hs.1 hs.2).2.2.1
    have hr := zln_r (c := c) (f := c r_Show_film s 0 0)
    have hh := g5.2.2
    simp (decide := true) only [zb_n, zb_d, ↓reduceIte, Int.reduceEq, hop, hho, hh]
    have bad : v_Grid_stateOf s c ≠ 116 → v_Grid_stateOf s c ≠ 110 → m r_m_gone 0 0 s ≠ 0 ∨ ¬ c r_Grid_hour 0 0 0 ≤ c r_Show_first s 0 0 := fun q1 q2 => by
      rw [hst] at q1 q2
      by_cases w : c r_Show_cause s 0 0 = 45
      · rw [if_pos w] at q1 q2
        right
        by_cases w2 : c r_Grid_hour 0 0 0 < c r_Show_first s 0 0
        · rw [if_pos w2] at q1
          exact absurd rfl q1
        · rw [if_neg w2] at q2
          by_cases w3 : c r_Grid_hour 0 0 0 < c r_Show_first s 0 0 + zln c (c r_Show_film s 0 0)
          · rw [if_pos w3] at q2
            exact absurd rfl q2
          · omega
      · left
        omega
    have good : v_Grid_stateOf s c = 116 ∨ v_Grid_stateOf s c = 110 → m r_m_gone 0 0 s = 0 := fun q => by
      rw [hst] at q
      by_cases w : c r_Show_cause s 0 0 = 45
      · omega
      · rw [if_neg w] at q
        omega
    have hno : zBo (zAnd zGr zSs) (e_try ((4, []), c) (fun v1 S1 => ((0, [0]), e_upd S1 r_out 0 0 0 v1)) [(0, 1), (3, 2)]) ((0, [0]), e_upd (e_upd m r_m_thrown 0 0 0 0) r_m_thrown 0 0 0 2) := ⟨2, 0, _, _, rfl, rfl, ⟨h.thr.thr, hS.thr.thr⟩, e_us, fun q => absurd q (by decide)⟩
    have main : c r_Show_isOpened s 0 0 = 0 → c r_Grid_hour 0 0 0 ≤ c r_Show_first s 0 0 → zBo (zAnd zGr zSs) (e_try (e_bind (f_Archive_add [111, c r_Show_film s 0 0] (e_upd c r_Show_isOpened s 0 0 1)) (fun v2 S2 => (e_bind (f_Passes_giveSeats [s, (S2 r_Venue_seats 0 0 (S2 r_Show_screen s 0 0))] S2) (fun v3 S3 => ((0, [v3]), S3))))) (fun v1 S1 => ((0, [0]), e_upd S1 r_out 0 0 0 v1)) [(0, 1), (3, 2)]) (g_m_open ((1063, [s, 0, 0]), e_upd (e_upd m r_m_thrown 0 0 0 0) r_m_thrown 0 0 0 0)) := fun q1 q2 => by
      obtain ⟨-, ⟨y1, y2, y3⟩, -, -⟩ := sw s hs.1 hs.2
      have y4 := (g2.2.1 _ y2 y3).1
      have h1 : zGr c (e_upd (e_upd m r_m_thrown 0 0 0 0) r_m_thrown 0 0 0 0) := h.thr.thr
      obtain ⟨k1, k2, k3, k4, k5, k6, k7, k8, k9, k10⟩ := id h1
      generalize hm1 : e_upd (e_upd m r_m_thrown 0 0 0 0) r_m_thrown 0 0 0 0 = m1 at h1 k1 k2 k3 k4 k5 k6 k7 k8 k9 k10 ⊢
      have hSs : zSs c m1 := by
        rw [← hm1]
        exact hS.thr.thr
      have hPa : zPa c m1 := by
        rw [← hm1]
        exact hP.thr.thr
      have eth : m1 r_m_thrown 0 0 0 = 0 := by rw [← hm1, e_us]
      obtain ⟨b1, b2, b3, b4, b5⟩ := k9 s hs.1 (by omega)
      have kk : ∀ {R : ZS → ZS → Prop} {KC KM : List Nat}, zRel R KC KM → z_nin KC ([r_Show_isOpened] ++ zArC) = true → R c m1 → R (zcA 111 (c r_Show_film s 0 0) (e_upd c r_Show_isOpened s 0 0 1)) m1 := fun hr hq h => hr h (fun r hr' => by
        have hz := z_nin_ok hq hr'
        rw [zcA_r hz]
        funext a b d
        exact e_un (z_ne1 hz)) (fun _ _ => rfl)
      have cO : ∀ {r : Nat}, ([r_Show_isOpened] ++ zArC).contains r = false → (zcA 111 (c r_Show_film s 0 0) (e_upd c r_Show_isOpened s 0 0 1)) r = c r := fun {r} hz => by
        rw [zcA_r hz]
        funext a b d
        exact e_un (z_ne1 hz)
      have z1 := (kk zSs_rel (by decide) hSs)
      have z2 := (kk zPa_rel (by decide) hPa)
      have z3 := (kk zFs_rel (by decide) k1)
      have z4 := (kk zSw_rel (by decide) k7)
      have hcO : (zcA 111 (c r_Show_film s 0 0) (e_upd c r_Show_isOpened s 0 0 1)) r_Show_isOpened = (e_upd c r_Show_isOpened s 0 0 1) r_Show_isOpened := zcA_o (by decide)
      rw [q_zcA, e_bnd0]
      generalize hc1 : zcA 111 (c r_Show_film s 0 0) (e_upd c r_Show_isOpened s 0 0 1) = c1 at cO hcO z1 z2 z3 z4 ⊢
      obtain ⟨v, C', M', p1, p2, p3, p4, p5⟩ := q_seats (c := c1) (m := m1) (w := c1 r_Venue_seats 0 0 (c1 r_Show_screen s 0 0)) (s := s) z3 z4 (by
        rw [cO (r := r_Show_waiting) (by decide), cO (r := r_Show_queue) (by decide)]
        exact ⟨b2, b3⟩) z2 hs.1 (by rw [cO (r := r_Grid_showCount) (by decide)]; exact hs.2) (by
        rw [cO (r := r_Venue_seats) (by decide), cO (r := r_Show_screen) (by decide), (k7.2.1 s hs.1 hs.2).2.1.1, (k2.2.1 _ y2 y3).1]) 4 0 0 c1 m1 (Int.le_refl _) (by decide) (Int.le_refl _) (by decide) (fun _ _ => rfl) (fun _ _ => rfl) z1
      have e1 : f_Passes_giveSeats [s, c1 r_Venue_seats 0 0 (c1 r_Show_screen s 0 0)] c1 = ((0, [v]), C') := by
        show g_Passes_giveSeats ((1000, [s, c1 r_Venue_seats 0 0 (c1 r_Show_screen s 0 0)]), c1) = _
        rw [g_Passes_giveSeats_0]
        exact p1
      rw [e1, e_bnd, p2]
      have mO : ∀ r, zArM.contains r = false → (r == r_m_haveSeats_r) = false → (zmA 111 (m1 r_m_showFilms 0 0 s) (e_upd M' r_m_areOpened 0 0 s 1)) r = (e_upd m1 r_m_areOpened 0 0 s 1) r := fun r h1 h2 => by
        rw [zmA_o h1]
        have e := p4 r (by
          cases e : zopX.contains r with
          | false => rfl
          | true =>
            rw [List.contains_iff_mem] at e
            unfold zopX at e
            rw [List.mem_singleton] at e
            rw [e, beq_self_eq_true] at h2
            cases h2)
        funext a b d
        unfold e_upd
        rw [e]
      have kM : ∀ {R : ZS → ZS → Prop} {KC KM : List Nat}, zRel R KC KM → z_nin KC ([r_Show_isOpened, r_Show_isSeated] ++ zArC) = true → z_nin KM ([r_m_areOpened, r_m_haveSeats_r] ++ zArM) = true → R c m1 → R C' (zmA 111 (m1 r_m_showFilms 0 0 s) (e_upd M' r_m_areOpened 0 0 s 1)) := fun hr hq hq' h => hr h (fun r hr' => by
        have hz := z_nin_ok hq hr'
        have w1 : zopW.contains r = false := by
          cases e : zopW.contains r with
          | false => rfl
          | true =>
            rw [List.contains_iff_mem] at e
            unfold zopW at e
            rw [List.mem_singleton] at e
            rw [e] at hz
            exact absurd hz (by decide)
        rw [p3 r w1]
        refine cO ?_
        cases e : ([r_Show_isOpened] ++ zArC).contains r with
        | false => rfl
        | true =>
          rw [List.contains_iff_mem] at e
          have := List.contains_iff_mem.mpr (show r ∈ [r_Show_isOpened, r_Show_isSeated] ++ zArC by
            rcases List.mem_append.mp e with e | e
            · rw [List.mem_singleton] at e
              rw [e]
              exact List.mem_cons_self
            · exact List.mem_append_right _ e)
          rw [hz] at this
          cases this) (fun r hr' => by
        have hz := z_nin_ok hq' hr'
        have w1 : (r == r_m_areOpened) = false := by
          cases e : r == r_m_areOpened with
          | false => rfl
          | true => rw [beq_iff_eq] at e; rw [e] at hz; exact absurd hz (by decide)
        have w2 : (r == r_m_haveSeats_r) = false := by
          cases e : r == r_m_haveSeats_r with
          | false => rfl
          | true => rw [beq_iff_eq] at e; rw [e] at hz; exact absurd hz (by decide)
        have w3 : zArM.contains r = false := by
          cases e : zArM.contains r with
          | false => rfl
          | true =>
            rw [List.contains_iff_mem] at e
            have := List.contains_iff_mem.mpr (List.mem_append_right [r_m_areOpened, r_m_haveSeats_r] e)
            rw [hz] at this
            cases this
        rw [mO r w3 w2]
        funext a b d
        exact e_un w1)
      have hQ : zQu C' (zmA 111 (m1 r_m_showFilms 0 0 s) (e_upd M' r_m_areOpened 0 0 s 1)) := by
        unfold zQu
        rw [p3 r_Show_isOpened (by decide), p3 r_Show_waiting (by decide), p3 r_Show_queue (by decide), p3 r_Grid_showCount (by decide), cO (r := r_Show_waiting) (by decide), cO (r := r_Show_queue) (by decide), cO (r := r_Grid_showCount) (by decide), hcO, mO r_m_areOpened (by decide) (by decide), mO r_m_waitMany (by decide) (by decide), mO r_m_waits_r (by decide) (by decide)]
        intro i i0 i1
        obtain ⟨b1, b2, b3, b4, b5⟩ := k9 i i0 i1
        simp (decide := true) only [e_un, e_ur]
        by_cases w : i = s
        · simp (decide := true) only [w, and_self, ↓reduceIte, true_and]
          rw [w] at b2 b3 b4
          exact ⟨b2, b3, b4, fun z => by omega⟩
        · simp only [w, and_false, false_and, ↓reduceIte]
          exact ⟨b1, b2, b3, b4, b5⟩
      have hA : zAr C' (zmA 111 (m1 r_m_showFilms 0 0 s) (e_upd M' r_m_areOpened 0 0 s 1)) := by
        have a1 : zAr (e_upd c r_Show_isOpened s 0 0 1) (e_upd M' r_m_areOpened 0 0 s 1) := zAr_rel.uc (zAr_rel.um (zAr_rel k10 (fun _ _ => rfl) (fun r hr => p4 r (z_nin_ok (by decide : z_nin zArM zopX = true) hr))) (by decide)) (by decide)
        have a2 := zAr.add a1 (l := 111) (f := c r_Show_film s 0 0)
        rw [hc1] at a2
        rw [(k7.row k1 hs.1 hs.2).1]
        exact zAr_rel a2 (fun r hr => p3 r (z_nin_ok (by decide : z_nin zArC zopW = true) hr)) (fun _ _ => rfl)
      refine ⟨0, _, _, _, rfl, rfl, ⟨zGr.out ⟨kM zFs_rel (by decide) (by decide) k1, kM zVe_rel (by decide) (by decide) k2, kM zPk_rel (by decide) (by decide) k3, kM zPh_rel (by decide) (by decide) k4, kM zHr_rel (by decide) (by decide) k5, kM zSt_rel (by decide) (by decide) k6, kM zSw_rel (by decide) (by decide) k7, kM zTo_rel (by decide) (by decide) k8, hQ, hA⟩, zSs.out (zSs_rel.zmA (by decide) (zSs_rel.um p5 (by decide)))⟩, ?_, fun _ => e_us⟩
      rw [mO r_m_thrown (by decide) (by decide), e_un (by decide)]
      exact eth
    by_cases q1 : c r_Show_isOpened s 0 0 = 0
    · by_cases q2 : c r_Grid_hour 0 0 0 ≤ c r_Show_first s 0 0
      · have hm := main q1 q2
        simp only [if_pos q1, if_pos q2]
        by_cases q3 : v_Grid_stateOf s c = 116
        · rw [if_pos q3, if_pos (good (Or.inl q3))]
          exact hm
        · by_cases q4 : v_Grid_stateOf s c = 110
          · rw [if_neg q3, if_pos q4, if_pos (good (Or.inr q4))]
            exact hm
          · rw [if_neg q3, if_neg q4]
            have q5 : ¬ m r_m_gone 0 0 s = 0 := by
              rcases bad q3 q4 with z | z
              · exact z
              · exact absurd q2 z
            rw [if_neg q5]
            exact hno
      · simp only [if_pos q1, if_neg q2, ite_self]
        exact hno
    · simp only [if_neg q1, ite_self]
      exact hno
  · rw [if_neg hs, if_neg hs, e_b_x (by decide) (by decide)]
    simp (decide := true) only [zb_n, zb_d, ↓reduceIte]
    exact ⟨1, 0, _, _, rfl, rfl, ⟨h.thr, hS.thr⟩, e_us, fun q => absurd q (by decide)⟩
