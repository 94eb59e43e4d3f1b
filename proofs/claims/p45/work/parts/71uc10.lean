/-! plan: both sides -/
def ztc (c : ZS) (f i : Int) : Bool := decide (c r_Show_film i 0 0 = f ∧ v_Grid_stateOf i c = 116)
theorem q_hasToCome {c m : ZS} (h : zSw c m) (hf : zFs c m) (hh : zHr c m) {f : Int} : f_Grid_hasToCome [f] c = ((0, [zb (zany (ztc c f) (c r_Grid_showCount 0 0 0).toNat 0)]), c) ∧ f_m_hasToCome [f] m = ((0, [zb (zany (ztc c f) (c r_Grid_showCount 0 0 0).toNat 0)]), m) := by
  obtain ⟨⟨n0, n1, n2⟩, -⟩ := id h
  constructor
  · show g_Grid_hasToCome ((1000, [f]), c) = _
    rw [g_Grid_hasToCome_0]
    refine (zl_any (n := c r_Grid_showCount 0 0 0) (p := ztc c f) (A := ((0, [1]), c)) (B := ((0, [0]), c)) (G := fun k => g_Grid_hasToCome ((1002, [f, k]), c)) (fun k hk => ?_) (fun k h0 h1 => ?_) (c r_Grid_showCount 0 0 0).toNat 0 (Int.le_refl _) (by omega)).trans ?_
    · rw [g_Grid_hasToCome_2, zb_d, if_pos (by omega)]
    · have hk : e_wr (k + 1) = k + 1 := e_wr_id (by omega) (by omega)
      rw [g_Grid_hasToCome_2, zb_d, if_neg (by omega), hk]
      unfold ztc
      simp only [zb_d, zb_n, decide_eq_true_eq]
      repeat' split
      all_goals first | rfl | (exfalso; omega)
    · unfold zb
      split <;> rfl
  · show g_m_hasToCome ((1000, [f]), m) = _
    rw [g_m_hasToCome_0]
    refine zl_set (n := c r_Grid_showCount 0 0 0) (z := 1) (p := ztc c f) (P := zbit) zbit1 (fin := fun v => ((0, [v]), m)) (G := fun v k => g_m_hasToCome ((1004, [f, v, k]), m)) (fun v k e hv => ?_) (fun v k h0 h1 hv => ?_) (c r_Grid_showCount 0 0 0).toNat 0 0 (Int.le_refl _) (by omega) zbit0
    · rw [g_m_hasToCome_4, zb_d, if_pos (by omega)]
    · have hk : e_wr (k + 1) = k + 1 := e_wr_id (by omega) (by omega)
      rw [g_m_hasToCome_4, zb_d, if_neg (by omega), hk, (h.row hf h0 h1).1, (q_state h hf hh h0 h1).1, e_or0 hv, e_or1 hv]
      unfold ztc
      simp only [zb_d, zb_n, decide_eq_true_eq]
      repeat' split
      all_goals first | rfl | (exfalso; omega)
/-- which films a section has that want a show -/
def zun (c : ZS) (s f : Int) : Bool := decide (c r_Film_section f 0 0 = s) && !zany (ztc c f) (c r_Grid_showCount 0 0 0).toNat 0
theorem zun_cg {c c' : ZS} (hc : ∀ r, [r_x_order, r_x_weights].contains r = false → c' r = c r) {s f : Int} : zun c' s f = zun c s f := by
  unfold zun ztc v_Grid_stateOf
  rw [hc r_Film_section (by decide), hc r_Grid_showCount (by decide), hc r_Show_film (by decide), hc r_Show_cause (by decide), hc r_Show_first (by decide), hc r_Show_length (by decide), hc r_Grid_hour (by decide)]
theorem q_unset1 {c m : ZS} (hR : zR c m) (h : zSw c m) (hf : zFs c m) (hh : zHr c m) {s : Int} : ∀ (j : Nat) (k n : Int) (S M : ZS), 0 ≤ k → k + j = c r_x_filmCount 0 0 0 → 0 ≤ n → n ≤ k → (∀ r, [r_x_order, r_x_weights].contains r = false → S r = c r) → (∀ r, (r == r_m_areLeft) = false → M r = m r) → zOrd (fun i => S r_x_order 0 0 i) (fun i => S r_x_weights 0 0 i) (fun f => c r_Film_minutes f 0 0) (zun c s) n k → (∀ f, 0 ≤ f → f < k → (M r_m_areLeft 0 0 f ≠ 0 ↔ zun c s f = true)) → ∃ n' S' M', g_x_orderUnsetByMinutes ((1004, [s, n, k]), S) = ((0, [n']), S') ∧ g_m_plan ((1019, [s, n, k]), M) = g_m_plan ((1019, [s, n', c r_x_filmCount 0 0 0]), M') ∧ 0 ≤ n' ∧ n' ≤ c r_x_filmCount 0 0 0 ∧ (∀ r, [r_x_order, r_x_weights].contains r = false → S' r = c r) ∧ (∀ r, (r == r_m_areLeft) = false → M' r = m r) ∧ zOrd (fun i => S' r_x_order 0 0 i) (fun i => S' r_x_weights 0 0 i) (fun f => c r_Film_minutes f 0 0) (zun c s) n' (c r_x_filmCount 0 0 0) ∧ ∀ f, 0 ≤ f → f < c r_x_filmCount 0 0 0 → (M' r_m_areLeft 0 0 f ≠ 0 ↔ zun c s f = true) := by
  obtain ⟨⟨a1, a2, a3⟩, -⟩ := id hR
  intro j
  induction j with
  | zero =>
    intro k n S M k0 k1 n0 n1 fr fm ho hl
    have e1 : S r_x_filmCount = c r_x_filmCount := fr _ (by decide)
    have hk : k = c r_x_filmCount 0 0 0 := by omega
    refine ⟨n, S, M, ?_, ?_, n0, by omega, fr, fm, ?_, ?_⟩
    · rw [g_x_orderUnsetByMinutes_4, zb_d, e1, if_pos (by omega)]
    · rw [hk]
    · rw [hk] at ho
      exact ho
    · rw [hk] at hl
      exact hl
  | succ j ih =>
    intro k n S M k0 k1 n0 n1 fr fm ho hl
    have e1 : S r_x_filmCount = c r_x_filmCount := fr _ (by decide)
    have e2 : S r_Film_section = c r_Film_section := fr _ (by decide)
    have e3 : S r_Film_minutes = c r_Film_minutes := fr _ (by decide)
    have e4 : M r_m_films = m r_m_films := fm _ (by decide)
    have e5 : M r_m_sections = m r_m_sections := fm _ (by decide)
    have hk : e_wr (k + 1) = k + 1 := e_wr_id (by omega) (by omega)
    have hn : e_wr (n + 1) = n + 1 := e_wr_id (by omega) (by omega)
    have hn0 : e_wr (n + 0) = n := by rw [Int.add_zero]; exact e_wr_id (by omega) (by omega)
    have s4 := (hf.1 k k0 (by omega)).2.2.2
    have kS : ∀ {R : ZS → ZS → Prop} {KC KM : List Nat}, zRel R KC KM → z_nin KC [r_x_order, r_x_weights] = true → z_nin KM [r_m_areLeft] = true → R c m → R S M := fun hr hq hq' h => hr h (fun r hr' => fr r (z_nin_ok hq hr')) (fun r hr' => fm r (by
      have := z_nin_ok hq' hr'
      cases e : r == r_m_areLeft with
      | false => rfl
      | true =>
        rw [beq_iff_eq] at e
        rw [e] at this
        exact absurd this (by decide)))
    have hC := q_hasToCome (kS zSw_rel (by decide) (by decide) h) (kS zFs_rel (by decide) (by decide) hf) (kS zHr_rel (by decide) (by decide) hh) (f := k)
    have ez : zany (ztc S k) (S r_Grid_showCount 0 0 0).toNat 0 = zany (ztc c k) (c r_Grid_showCount 0 0 0).toNat 0 := by
      unfold ztc v_Grid_stateOf
      rw [fr r_Grid_showCount (by decide), fr r_Show_film (by decide), fr r_Show_cause (by decide), fr r_Show_first (by decide), fr r_Show_length (by decide), fr r_Grid_hour (by decide)]
    rw [ez] at hC
    have step : ∀ x, (x ≠ 0 ↔ zun c s k = true) → (∀ r, (r == r_m_areLeft) = false → (e_upd M r_m_areLeft 0 0 k x) r = m r) ∧ ∀ f, 0 ≤ f → f < k + 1 → ((e_upd M r_m_areLeft 0 0 k x) r_m_areLeft 0 0 f ≠ 0 ↔ zun c s f = true) := fun x hx => by
      refine ⟨fun r hr => ?_, fun f f0 f1 => ?_⟩
      · rw [← fm r hr]
        funext a b d
        exact e_un hr
      · rw [e_ur]
        by_cases e : f = k
        · rw [if_pos ⟨rfl, rfl, e⟩, e]
          exact hx
        · rw [if_neg (fun z => e z.2.2)]
          exact hl f f0 (by omega)
    have eC := g_x_orderUnsetByMinutes_4 (x1 := s) (x2 := n) (x3 := k) (S := S)
    rw [zb_d, e1, if_neg (by omega), zb_n, e2, hk] at eC
    have eM := g_m_plan_19 (x1 := s) (x2 := n) (x3 := k) (S := M)
    rw [zb_d, e4, if_neg (by omega), zb_n, hk, e5, s4] at eM
    rw [eC, eM]
    by_cases q : c r_Film_section k 0 0 = s
    · rw [if_pos q, if_pos q, hC.1, e_bnd, hC.2, e_bnd, zb_n, zb_n]
      by_cases q2 : zany (ztc c k) (c r_Grid_showCount 0 0 0).toNat 0 = true
      · have hu : zun c s k = false := by
          unfold zun
          rw [q2]
          simp
        obtain ⟨st1, st2⟩ := step 0 (by rw [hu]; exact ⟨fun z => absurd rfl z, fun z => by cases z⟩)
        rw [q2, if_neg (by decide), if_neg (by decide), e_nb0, zb_d, e_us, if_pos rfl, hn0]
        exact ih (k + 1) n S _ (by omega) (by omega) n0 (by omega) fr st1 (ho.skip hu) st2
      · have q3 : zany (ztc c k) (c r_Grid_showCount 0 0 0).toNat 0 = false := by simpa using q2
        have hu : zun c s k = true := by
          unfold zun
          rw [q3, decide_eq_true q]
          rfl
        obtain ⟨st1, st2⟩ := step 1 (by rw [hu]; exact ⟨fun _ => rfl, fun _ => by decide⟩)
        obtain ⟨S', p1, p2, p3⟩ := q_putInOrder (f := k) (W := c r_Film_minutes k 0 0) (S := S) n0 (by omega)
        rw [q3, if_pos (by decide), if_pos (by decide), e_nb1, zb_d, e_us, if_neg (by decide), hn, e3, p1, e_bnd0]
        exact ih (k + 1) (n + 1) S' _ (by omega) (by omega) (by omega) (by omega) (fun r hr => (p2 r hr).trans (fr r hr)) st1 (p3 ho k0 hu rfl rfl) st2
    · have hu : zun c s k = false := by
        unfold zun
        rw [decide_eq_false q]
        rfl
      obtain ⟨st1, st2⟩ := step 0 (by rw [hu]; exact ⟨fun z => absurd rfl z, fun z => by cases z⟩)
      rw [if_neg q, if_neg q, e_nb0, zb_d, e_us, if_pos rfl, hn0]
      exact ih (k + 1) n S _ (by omega) (by omega) n0 (by omega) fr st1 (ho.skip hu) st2
theorem zGr.thr {c m : ZS} (h : zGr c m) {z : Int} : zGr c (e_upd m r_m_thrown 0 0 0 z) := by
  obtain ⟨g1, g2, g3, g4, g5, g6, g7, g8, g9, g10⟩ := h
  exact ⟨g1.thr, g2.thr, g3.thr, g4.thr, g5.thr, g6.thr, g7.thr, g8.thr, g9.thr, g10.thr⟩
theorem zGr.out {c m : ZS} (h : zGr c m) {z : Int} : zGr (e_upd c r_out 0 0 0 z) m := by
  obtain ⟨g1, g2, g3, g4, g5, g6, g7, g8, g9, g10⟩ := h
  exact ⟨g1.out, g2.out, g3.out, g4.out, g5.out, g6.out, g7.out, g8.out, g9.out, g10.out⟩
/-- scratch of both sides -/
def zscC : List Nat := [r_x_order, r_x_weights, r_Grid_found, r_Grid_foundCount]
def zscM : List Nat := [r_m_areLeft, r_new, z_rA]
theorem zGr.fr {c m c' m' : ZS} (h : zGr c m) (hc : ∀ r, zscC.contains r = false → c' r = c r) (hm : ∀ r, zscM.contains r = false → m' r = m r) : zGr c' m' := by
  have k : ∀ {R : ZS → ZS → Prop} {KC KM : List Nat}, zRel R KC KM → z_nin KC zscC = true → z_nin KM zscM = true → R c m → R c' m' := fun hr hq hq' h => hr h (fun r hr' => hc r (z_nin_ok hq hr')) (fun r hr' => hm r (z_nin_ok hq' hr'))
  obtain ⟨g1, g2, g3, g4, g5, g6, g7, g8, g9, g10⟩ := h
  exact ⟨k zFs_rel (by decide) (by decide) g1, k zVe_rel (by decide) (by decide) g2, k zPk_rel (by decide) (by decide) g3, k zPh_rel (by decide) (by decide) g4, k zHr_rel (by decide) (by decide) g5, k zSt_rel (by decide) (by decide) g6, k zSw_rel (by decide) (by decide) g7, k zTo_rel (by decide) (by decide) g8, k zQu_rel (by decide) (by decide) g9, k zAr_rel (by decide) (by decide) g10⟩
theorem q_plan1 {c1 : ZS} {o w : Int → Int} {p : Int → Bool} {n : Int} (n20 : n ≤ 20) (N20 : c1 r_x_filmCount 0 0 0 ≤ 20) (hO : zOrd o w (fun f => c1 r_Film_minutes f 0 0) p n (c1 r_x_filmCount 0 0 0)) (hp : ∀ f, p f = true → 0 ≤ c1 r_Film_section f 0 0) : ∀ (j : Nat) (i y : Int) (C M : ZS), i + j = n → 0 ≤ i → 0 ≤ y → y ≤ i → C r_Grid_showCount 0 0 0 + j ≤ 60 → zGr C M → M r_m_films 0 0 0 = c1 r_x_filmCount 0 0 0 → (∀ r, zsW.contains r = false → C r = c1 r) → (∀ i, c1 r_x_order 0 0 i = o i) → (∀ f, 0 ≤ f → f < c1 r_x_filmCount 0 0 0 → (M r_m_areLeft 0 0 f ≠ 0 ↔ ∃ q, i ≤ q ∧ q < n ∧ o q = f)) → ∃ v C' M', g_x_plan ((1041, [n, y, i]), C) = ((0, [v]), C') ∧ g_m_plan ((1110, [n, y, i]), M) = ((0, [v]), M') ∧ zGr C' M' ∧ M' r_m_thrown = M r_m_thrown := by
  intro j
  induction j with
  | zero =>
    intro i y C M ij i0 y0 y1 hN hg hF fr ho hl
    exact ⟨y, C, M, by rw [g_x_plan_41, zb_d, if_pos (by omega)], by rw [g_m_plan_110, zb_d, if_pos (by omega)], hg, rfl⟩
  | succ j ih =>
    intro i y C M ij i0 y0 y1 hN hg hF fr ho hl
    have hi : e_wr (i + 1) = i + 1 := e_wr_id (by omega) (by omega)
    have hy : e_wr (y + 1) = y + 1 := e_wr_id (by omega) (by omega)
    have hy0 : e_wr (y + 0) = y := by rw [Int.add_zero]; exact e_wr_id (by omega) (by omega)
    obtain ⟨o1, o2, o3, o4⟩ := hO.1 i i0 (by omega)
    have f1 : C r_x_filmCount = c1 r_x_filmCount := fr _ (by decide)
    have f2 : C r_Film_section = c1 r_Film_section := fr _ (by decide)
    have f3 : C r_Film_minutes = c1 r_Film_minutes := fr _ (by decide)
    have f4 : C r_x_order = c1 r_x_order := fr _ (by decide)
    have hbest := hO.best i0 (by omega) (l := fun f => decide (M r_m_areLeft 0 0 f ≠ 0)) (fun f f0 f1 => by
      rw [decide_eq_true_eq]
      exact hl f f0 f1)
    have hx : g_m_plan ((1110, [n, y, i]), M) = e_bind (f_m_setAnywhere [o i] (e_upd M r_m_areLeft 0 0 (o i) (e_nar 1 0))) (fun v1 S1 => (bif decide (0 ≤ v1) then (g_m_plan ((1110, [n, (e_wr (y + 1)), (e_wr (i + 1))]), S1)) else (g_m_plan ((1110, [n, (e_wr (y + 0)), (e_wr (i + 1))]), S1)))) := by
      rw [g_m_plan_110, zb_d, if_neg (by omega), ← hbest]
      refine zl_best (n := c1 r_x_filmCount 0 0 0) (p := fun f => decide (M r_m_areLeft 0 0 f ≠ 0)) (w := fun f => - c1 r_Film_minutes f 0 0) (fin := fun b => e_bind (f_m_setAnywhere [b] (e_upd M r_m_areLeft 0 0 b (e_nar 1 0))) (fun v1 S1 => (bif decide (0 ≤ v1) then (g_m_plan ((1110, [n, (e_wr (y + 1)), (e_wr (i + 1))]), S1)) else (g_m_plan ((1110, [n, (e_wr (y + 0)), (e_wr (i + 1))]), S1))))) (G := fun b k => g_m_plan ((1122, [n, y, i, b, k]), M)) (fun b k e _ _ => ?_) (fun b k k0 k1 b0 b1 => ?_) (c1 r_x_filmCount 0 0 0).toNat (-1) 0 (Int.le_refl _) (by omega) (by omega) (by omega)
      · rw [g_m_plan_122, zb_d (p := M r_m_films 0 0 0 ≤ k), if_pos (by omega)]
      · have hk : e_wr (k + 1) = k + 1 := e_wr_id (by omega) (by omega)
        rw [g_m_plan_122, zb_d, if_neg (by omega), zb_d, hk]
        by_cases q : M r_m_areLeft 0 0 k = 0
        · rw [if_pos q, if_neg (by rw [decide_eq_true_eq]; exact fun z => z q)]
        · rw [if_neg q, if_pos (by rw [decide_eq_true_eq]; exact q), zb_d]
          by_cases q2 : b < 0
          · rw [if_pos q2, if_pos q2]
          · have m1 := (hg.1.1 k k0 (by rw [f1]; exact k1)).2.1
            have m2 := (hg.1.1 b (by omega) (by rw [f1]; omega)).2.1
            rw [if_neg q2, if_neg q2, zb_d, m1, m2, f3]
            by_cases q3 : c1 r_Film_minutes k 0 0 ≤ c1 r_Film_minutes b 0 0
            · rw [if_pos q3, if_neg (by omega)]
            · rw [if_neg q3, if_pos (by omega)]
    have hg2 : zGr C (e_upd M r_m_areLeft 0 0 (o i) 0) := hg.fr (fun _ _ => rfl) (fun r hr => by
      funext a b d
      exact e_un (by
        cases e : r == r_m_areLeft with
        | false => rfl
        | true =>
          rw [beq_iff_eq] at e
          rw [e] at hr
          exact absurd hr (by decide)))
    have hpl := (q_place hg2 (f := o i) (by omega) o1 (by rw [f1]; exact o2) (by omega) (by rw [f2]; exact hp _ o3)).ok hg2 (by omega) o1 (by rw [f1]; exact o2) (by rw [f2]; exact hp _ o3)
    obtain ⟨v, C', M', e1, e2, g, k1, k2, -, k3⟩ := hpl
    have hn0 := hg.2.2.2.2.2.2.1.1.1
    have hl2 : ∀ f, 0 ≤ f → f < c1 r_x_filmCount 0 0 0 → (M' r_m_areLeft 0 0 f ≠ 0 ↔ ∃ q, i + 1 ≤ q ∧ q < n ∧ o q = f) := fun f f0 f1 => by
      rw [k2 r_m_areLeft (by decide), e_ur]
      by_cases e : f = o i
      · rw [if_pos ⟨rfl, rfl, e⟩]
        refine ⟨fun z => absurd rfl z, fun ⟨q, q0, q1, q2⟩ => ?_⟩
        have := hO.2.1 i q i0 (by omega) q1
        rw [q2, e] at this
        (try dsimp only at this)
        omega
      · rw [if_neg (fun z => e z.2.2), hl f f0 f1]
        constructor
        · rintro ⟨q, q0, q1, q2⟩
          refine ⟨q, ?_, q1, q2⟩
          by_cases e2 : q = i
          · rw [e2] at q2
            exact absurd q2.symm e
          · omega
        · rintro ⟨q, q0, q1, q2⟩
          exact ⟨q, by omega, q1, q2⟩
    have hF2 : M' r_m_films 0 0 0 = c1 r_x_filmCount 0 0 0 := by
      rw [k2 r_m_films (by decide), e_un (by decide)]
      exact hF
    have hth : M' r_m_thrown = M r_m_thrown := by
      rw [k2 r_m_thrown (by decide)]
      funext a b d
      exact e_un (by decide)
    have next : ∀ y', 0 ≤ y' → y' ≤ i + 1 → ∃ v C2 M2, g_x_plan ((1041, [n, y', i + 1]), C') = ((0, [v]), C2) ∧ g_m_plan ((1110, [n, y', i + 1]), M') = ((0, [v]), M2) ∧ zGr C2 M2 ∧ M2 r_m_thrown = M r_m_thrown := fun y' a b => by
      obtain ⟨v, C2, M2, x1, x2, x3, x4⟩ := ih (i + 1) y' C' M' (by omega) (by omega) a b (by
        rcases k3 with ⟨-, z, -⟩ | ⟨-, z⟩
        · rw [z]
          omega
        · omega) g hF2 (fun r hr => (k1 r hr).trans (fr r hr)) ho hl2
      exact ⟨v, C2, M2, x1, x2, x3, x4.trans hth⟩
    rw [g_x_plan_41, zb_d, if_neg (by omega), f4, ho, e1, e_bnd, zb_d, hx, e_nb0, e2, e_bnd, zb_d, hi, hy, hy0]
    by_cases q : v = -1
    · rw [if_pos q, if_neg (by omega)]
      exact next y y0 (by omega)
    · rw [if_neg q, if_pos (by omega)]
      exact next (y + 1) (by omega) (by omega)
theorem o_plan {s : Int} {c m : ZS} (hR : zR c m) (hS : zSe c m) (h : zGr c m) : zBo zGr (f_w_plan [s] c) (f_m_plan [s] m) := by
  obtain ⟨⟨a1, a2, a3⟩, -⟩ := id hR
  obtain ⟨⟨d1, d2, d3⟩, -⟩ := id hS
  show zBo zGr (e_try (g_x_plan ((1000, [s]), c)) (fun v1 S1 => ((0, [0]), e_upd S1 r_out 0 0 0 v1)) [(0, 1), (2, 2)]) (g_m_plan ((1000, [s]), m))
  rw [g_x_plan_0, g_m_plan_0, q_section d1 (by omega), q_noSection (by omega) (by omega), d3]
  by_cases hs : 0 ≤ s ∧ s < c r_x_sectionCount 0 0 0
  · rw [if_pos hs, if_pos hs, e_b_ok]
    simp (decide := true) only [zb_n, zb_d, ↓reduceIte, Int.reduceEq]
    have hR1 : zR c (e_upd m r_m_thrown 0 0 0 0) := hR.thr
    have h1 : zGr c (e_upd m r_m_thrown 0 0 0 0) := h.thr
    obtain ⟨g1, g2, g3, g4, g5, g6, g7, g8, g9, g10⟩ := id h1
    obtain ⟨⟨n0, n1, n2⟩, -⟩ := id g7
    obtain ⟨n, S, M, e1, e2, k0, k1, fr, fm, hO, hl⟩ := q_unset1 hR1 g7 g1 g5 (s := s) (c r_x_filmCount 0 0 0).toNat 0 0 c (e_upd m r_m_thrown 0 0 0 0) (Int.le_refl _) (by omega) (Int.le_refl _) (Int.le_refl _) (fun _ _ => rfl) (fun _ _ => rfl) ⟨fun i a b => by omega, fun i j a b d => by omega, fun f a b => by omega⟩ (fun f a b => by omega)
    show zBo zGr (e_try (e_bind (g_x_orderUnsetByMinutes ((1000, [s]), c)) _) _ _) _
    rw [g_x_orderUnsetByMinutes_0, e1, e_bnd, e2]
    have fF : M r_m_films 0 0 0 = c r_x_filmCount 0 0 0 := by rw [fm _ (by decide)]; exact hR1.1.2.2
    have fN : M r_m_shows 0 0 0 = c r_Grid_showCount 0 0 0 := by rw [fm _ (by decide)]; exact n2
    have fS : S r_Grid_showCount = c r_Grid_showCount := fr _ (by decide)
    have hw : e_wr (c r_Grid_showCount 0 0 0 + n) = c r_Grid_showCount 0 0 0 + n := e_wr_id (by omega) (by omega)
    have eM := g_m_plan_19 (x1 := s) (x2 := n) (x3 := c r_x_filmCount 0 0 0) (S := M)
    rw [zb_d, if_pos (by omega)] at eM
    rw [eM, fN, fS, hw, zb_d]
    have kG : zGr S M := h1.fr (fun r hr => fr r (by
      cases e : [r_x_order, r_x_weights].contains r with
      | false => rfl
      | true =>
        rw [List.contains_iff_mem] at e
        have := List.contains_iff_mem.mpr (show r ∈ zscC by
          simp only [List.mem_cons, List.not_mem_nil, or_false] at e
          rcases e with rfl | rfl <;> decide)
        rw [hr] at this
        cases this)) (fun r hr => fm r (by
      cases e : r == r_m_areLeft with
      | false => rfl
      | true =>
        rw [beq_iff_eq] at e
        rw [e] at hr
        exact absurd hr (by decide)))
    by_cases q : c r_Grid_showCount 0 0 0 + n ≤ 60
    · rw [if_pos q, if_pos q]
      have eO : S r_x_filmCount = c r_x_filmCount := fr _ (by decide)
      have eX : S r_Film_minutes = c r_Film_minutes := fr _ (by decide)
      have eY : S r_Film_section = c r_Film_section := fr _ (by decide)
      obtain ⟨v, C2, M2, x1, x2, x3, x4⟩ := q_plan1 (c1 := S) (o := fun i => S r_x_order 0 0 i) (w := fun i => S r_x_weights 0 0 i) (p := zun c s) (n := n) (by omega) (by rw [eO]; exact a2) (by rw [eO, eX]; exact hO) (fun f hf => by
        unfold zun at hf
        rw [Bool.and_eq_true, decide_eq_true_eq] at hf
        rw [eY, hf.1]
        exact hs.1) n.toNat 0 0 S (e_upd M r_m_thrown 0 0 0 0) (by omega) (Int.le_refl _) (Int.le_refl _) (Int.le_refl _) (by rw [fS]; omega) kG.thr (by rw [e_un (by decide), eO]; exact fF) (fun _ _ => rfl) (fun _ => rfl) (fun f f0 f1 => by
        rw [eO] at f1
        rw [e_un (by decide), hl f f0 f1]
        constructor
        · intro z
          obtain ⟨i, i0, i1, i2⟩ := hO.2.2 f f0 f1 z
          exact ⟨i, i0, i1, i2⟩
        · rintro ⟨i, i0, i1, i2⟩
          have := (hO.1 i i0 i1).2.2.1
          (try dsimp only at i2 this)
          rw [i2] at this
          exact this)
      rw [x1, x2]
      refine ⟨0, _, _, _, rfl, rfl, x3.out, ?_, fun _ => e_us⟩
      rw [x4, e_us]
    · rw [if_neg q, if_neg q]
      exact ⟨2, 0, _, _, rfl, rfl, kG.thr, e_us, fun q => absurd q (by decide)⟩
  · rw [if_neg hs, if_neg hs, e_b_x (by decide) (by decide)]
    simp (decide := true) only [zb_n, zb_d, ↓reduceIte]
    exact ⟨1, 0, _, _, rfl, rfl, h.thr, e_us, fun q => absurd q (by decide)⟩
