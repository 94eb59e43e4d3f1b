/-! sell, line: both sides -/
def zRt (c m : ZS) : Prop := (0 ≤ c r_Rights_dealCount 0 0 0 ∧ c r_Rights_dealCount 0 0 0 ≤ 40 ∧ m r_m_dealMany 0 0 0 = c r_Rights_dealCount 0 0 0) ∧ ∀ k, 0 ≤ k → k < c r_Rights_dealCount 0 0 0 → m r_m_deals_r k 0 0 = c r_Rights_soldFilms 0 0 k ∧ m r_m_deals_r k 0 1 = c r_Rights_lands 0 0 k ∧ m r_m_deals_r k 0 2 = c r_Rights_firstMonths 0 0 k ∧ m r_m_deals_r k 0 3 = c r_Rights_lastMonths 0 0 k
def zRtC : List Nat := [r_Rights_dealCount, r_Rights_soldFilms, r_Rights_lands, r_Rights_firstMonths, r_Rights_lastMonths]
def zRtM : List Nat := [r_m_dealMany, r_m_deals_r]
theorem zRt_rel : zRel zRt zRtC zRtM := fun {c m c' m'} h hc hm => by
  unfold zRt
  rw [hc r_Rights_dealCount (by decide), hc r_Rights_soldFilms (by decide), hc r_Rights_lands (by decide), hc r_Rights_firstMonths (by decide), hc r_Rights_lastMonths (by decide), hm r_m_dealMany (by decide), hm r_m_deals_r (by decide)]
  exact h
theorem zRt.out {c m : ZS} (h : zRt c m) {z : Int} : zRt (e_upd c r_out 0 0 0 z) m := zRt_rel.uc h (by decide)
theorem zRt.thr {c m : ZS} (h : zRt c m) {z : Int} : zRt c (e_upd m r_m_thrown 0 0 0 z) := zRt_rel.um h (by decide)
theorem e_ar {S : ZS} {r r' : Nat} {x y sp x' y' dp n i j k : Int} : e_acp S r x y sp r' x' y' dp n r' i j k = if i = x' ∧ j = y' ∧ (dp ≤ k ∧ k < dp + n) then S r x y (k - dp + sp) else S r' i j k := by
  unfold e_acp
  by_cases h : i = x' ∧ j = y' ∧ (dp ≤ k ∧ k < dp + n)
  · rw [if_pos ⟨rfl, h⟩, if_pos h]
  · rw [if_neg (fun q => h q.2), if_neg h]
def zov (c : ZS) (f l a b k : Int) : Bool := (decide (c r_Rights_soldFilms 0 0 k = f) && decide (c r_Rights_lands 0 0 k = l)) && (!decide (b < c r_Rights_firstMonths 0 0 k) && !decide (c r_Rights_lastMonths 0 0 k < a))
theorem q_over {c : ZS} {f l a b k : Int} : v_Rights_isOver k f l a b c = zb (zov c f l a b k) := by
  unfold v_Rights_isOver zov
  rw [zb_n, zb_n, zb_d, zb_d]
  by_cases q1 : c r_Rights_soldFilms 0 0 k = f
  · by_cases q2 : c r_Rights_lands 0 0 k = l
    · by_cases q3 : b < c r_Rights_firstMonths 0 0 k
      · rw [if_pos q1, if_pos q2, if_pos q3, decide_eq_true q1, decide_eq_true q2, decide_eq_true q3]
        rfl
      · by_cases q4 : c r_Rights_lastMonths 0 0 k < a
        · rw [if_pos q1, if_pos q2, if_neg q3, if_pos q4, decide_eq_true q1, decide_eq_true q2, decide_eq_false q3, decide_eq_true q4]
          rfl
        · rw [if_pos q1, if_pos q2, if_neg q3, if_neg q4, decide_eq_true q1, decide_eq_true q2, decide_eq_false q3, decide_eq_false q4]
          rfl
    · rw [if_pos q1, if_neg q2, decide_eq_false q2, Bool.and_false, Bool.false_and]
      rfl
  · rw [if_neg q1, decide_eq_false q1, Bool.false_and, Bool.false_and]
    rfl
theorem q_sold {c : ZS} {f l a b : Int} (h0 : 0 ≤ c r_Rights_dealCount 0 0 0) (h1 : c r_Rights_dealCount 0 0 0 ≤ 40) : f_Rights_isSoldWithin [f, l, a, b] c = ((0, [zb (zany (zov c f l a b) (c r_Rights_dealCount 0 0 0).toNat 0)]), c) := by
  show g_Rights_isSoldWithin ((1000, [f, l, a, b]), c) = _
  rw [g_Rights_isSoldWithin_0]
  refine (zl_any (n := c r_Rights_dealCount 0 0 0) (p := zov c f l a b) (A := ((0, [1]), c)) (B := ((0, [0]), c)) (G := fun k => g_Rights_isSoldWithin ((1003, [f, l, a, b, k]), c)) (fun k hk => ?_) (fun k k0 k1 => ?_) (c r_Rights_dealCount 0 0 0).toNat 0 (Int.le_refl _) (by omega)).trans ?_
  · rw [g_Rights_isSoldWithin_3, zb_d, if_pos (by omega)]
  · have hk : e_wr (k + 1) = k + 1 := e_wr_id (by omega) (by omega)
    rw [g_Rights_isSoldWithin_3, zb_d, if_neg (by omega), q_over, zb_d, hk]
    cases zov c f l a b k <;> rfl
  · cases zany (zov c f l a b) (c r_Rights_dealCount 0 0 0).toNat 0 <;> rfl
theorem o_sell {f l a b u : Int} {c m : ZS} (hR : zR c m) (hW : zWd c m) (hT : zRt c m) (hA : zAr c m) : zBo (zAnd zRt zAr) (f_w_sell [f, l, a, b, u] c) (f_m_sell [f, l, a, b, u] m) := by
  obtain ⟨⟨a1, a2, a3⟩, -⟩ := id hR
  show zBo (zAnd zRt zAr) (e_try (f_x_sell [f, l, a, b, u] c) (fun v1 S1 => ((0, [0]), e_upd S1 r_out 0 0 0 v1)) [(0, 1), (1, 2), (3, 3), (2, 4)]) (g_m_sell ((1000, [f, l, a, b, u]), m))
  rw [g_m_sell_0]
  unfold f_x_sell
  dsimp only
  rw [q_film a1 (by omega), q_noFilm (by omega) (by omega), a3]
  by_cases hf : 0 ≤ f ∧ f < c r_x_filmCount 0 0 0
  · obtain ⟨w1, w2⟩ := hW f hf.1 (by omega)
    rw [if_pos hf, if_pos hf, e_b_ok]
    simp (decide := true) only [zb_n, zb_d, q_within, q_isIn, ↓reduceIte, Int.reduceEq, w1]
    have hbad : zBo (zAnd zRt zAr) (e_try ((2, []), c) (fun v1 S1 => ((0, [0]), e_upd S1 r_out 0 0 0 v1)) [(0, 1), (1, 2), (3, 3), (2, 4)]) ((0, [0]), e_upd (e_upd m r_m_thrown 0 0 0 0) r_m_thrown 0 0 0 2) := ⟨2, 0, _, _, rfl, rfl, ⟨hT.thr.thr, hA.thr.thr⟩, e_us, fun q => absurd q (by decide)⟩
    by_cases h2 : 0 ≤ l ∧ l ≤ 9
    · by_cases h5 : 0 ≤ u ∧ u ≤ 9
      · by_cases h3 : 0 ≤ a ∧ a ≤ 99
        · by_cases h4 : a ≤ b ∧ b ≤ 99
          · simp (decide := true) only [if_pos h2, if_pos h5, if_pos h3, if_pos h4, ↓reduceIte, Int.reduceEq]
            have hT1 : zRt c (e_upd (e_upd m r_m_thrown 0 0 0 0) r_m_thrown 0 0 0 0) := hT.thr.thr
            have hA1 : zAr c (e_upd (e_upd m r_m_thrown 0 0 0 0) r_m_thrown 0 0 0 0) := hA.thr.thr
            generalize e_upd (e_upd m r_m_thrown 0 0 0 0) r_m_thrown 0 0 0 0 = m1 at hT1 hA1 ⊢
            obtain ⟨⟨t0, t1, t2⟩, td⟩ := id hT1
            have loop := zl_set (n := c r_Rights_dealCount 0 0 0) (z := 1) (p := zov c f l a b) (P := zbit) zbit1 (fin := fun x => g_m_sell ((1093, [f, l, a, b, u, x, c r_Rights_dealCount 0 0 0]), m1)) (G := fun x k => g_m_sell ((1093, [f, l, a, b, u, x, k]), m1)) (fun x k e _ => by rw [e]) (fun x k k0 k1 hx => by
              have hk : e_wr (k + 1) = k + 1 := e_wr_id (by omega) (by omega)
              obtain ⟨y1, y2, y3, y4⟩ := td k k0 k1
              have eM := g_m_sell_93 (x1 := f) (x2 := l) (x3 := a) (x4 := b) (x5 := u) (x6 := x) (x7 := k) (S := m1)
              rw [zb_d, if_neg (by omega), zb_n, zb_n, zb_d, zb_d, hk, e_or0 hx, e_or1 hx, y1, y2, y3, y4] at eM
              show g_m_sell ((1093, [f, l, a, b, u, x, k]), m1) = g_m_sell ((1093, [f, l, a, b, u, if zov c f l a b k = true then 1 else x, k + 1]), m1)
              rw [eM]
              unfold zov
              by_cases q1 : c r_Rights_soldFilms 0 0 k = f
              · by_cases q2 : c r_Rights_lands 0 0 k = l
                · by_cases q3 : b < c r_Rights_firstMonths 0 0 k
                  · rw [if_pos q1, if_pos q2, if_pos q3, decide_eq_true q3, Bool.not_true, Bool.false_and, Bool.and_false, if_neg (by decide)]
                  · by_cases q4 : c r_Rights_lastMonths 0 0 k < a
                    · rw [if_pos q1, if_pos q2, if_neg q3, if_pos q4, decide_eq_true q4, Bool.not_true, Bool.and_false, Bool.and_false, if_neg (by decide)]
                    · rw [if_pos q1, if_pos q2, if_neg q3, if_neg q4, decide_eq_true q1, decide_eq_true q2, decide_eq_false q3, decide_eq_false q4]
                      rfl
                · rw [if_pos q1, if_neg q2, decide_eq_false q2, Bool.and_false, Bool.false_and, if_neg (by decide)]
              · rw [if_neg q1, decide_eq_false q1, Bool.false_and, Bool.false_and, if_neg (by decide)]) (c r_Rights_dealCount 0 0 0).toNat (c r_Film_isWithdrawn f 0 0) 0 (Int.le_refl _) (by omega) w2
            have loop : g_m_sell ((1093, [f, l, a, b, u, c r_Film_isWithdrawn f 0 0, 0]), m1) = g_m_sell ((1093, [f, l, a, b, u, if zany (zov c f l a b) (c r_Rights_dealCount 0 0 0).toNat 0 = true then 1 else c r_Film_isWithdrawn f 0 0, c r_Rights_dealCount 0 0 0]), m1) := loop
            rw [loop, q_sold t0 t1, e_bnd]
            have hno : zBo (zAnd zRt zAr) (e_try ((4, []), c) (fun v1 S1 => ((0, [0]), e_upd S1 r_out 0 0 0 v1)) [(0, 1), (1, 2), (3, 3), (2, 4)]) (g_m_sell ((1093, [f, l, a, b, u, 1, c r_Rights_dealCount 0 0 0]), m1)) := by
              have eM := g_m_sell_93 (x1 := f) (x2 := l) (x3 := a) (x4 := b) (x5 := u) (x6 := 1) (x7 := c r_Rights_dealCount 0 0 0) (S := m1)
              rw [zb_d, if_pos (by omega)] at eM
              rw [eM]
              simp (decide := true) only [zb_n, ↓reduceIte, Int.reduceEq]
              exact ⟨3, 0, _, _, rfl, rfl, ⟨hT1.thr, hA1.thr⟩, e_us, fun q => absurd q (by decide)⟩
            by_cases q1 : c r_Film_isWithdrawn f 0 0 = 0
            · rw [if_pos q1, q1]
              cases hz : zany (zov c f l a b) (c r_Rights_dealCount 0 0 0).toNat 0
              · rw [if_pos (show zb false = 0 from rfl), if_neg (show ¬ (false = true) by decide)]
                have eM := g_m_sell_93 (x1 := f) (x2 := l) (x3 := a) (x4 := b) (x5 := u) (x6 := 0) (x7 := c r_Rights_dealCount 0 0 0) (S := m1)
                rw [zb_d, if_pos (by omega)] at eM
                rw [eM]
                simp (decide := true) only [zb_n, zb_d, ↓reduceIte, Int.reduceEq, t2]
                by_cases q2 : c r_Rights_dealCount 0 0 0 = 40
                · rw [if_pos q2, if_neg (by omega)]
                  exact ⟨4, 0, _, _, rfl, rfl, ⟨hT1.thr.thr, hA1.thr.thr⟩, e_us, fun q => absurd q (by decide)⟩
                · have hw : e_wr (c r_Rights_dealCount 0 0 0 + 1) = c r_Rights_dealCount 0 0 0 + 1 := e_wr_id (by omega) (by omega)
                  rw [if_neg q2, if_pos (by omega), q_zcA, e_bnd0, q_zmA, e_bnd0]
                  unfold f_Rights_addDeal
                  dsimp only
                  rw [e_bnd]
                  simp (decide := true) only [e_us, e_un, e_an, zcA_o, zmA_o, t2, hw]
                  refine ⟨0, _, _, _, rfl, rfl, ⟨zRt.out ⟨?_, fun k k0 k1 => ?_⟩, zAr.out ?_⟩, ?_, fun _ => e_us⟩
                  · simp (decide := true) only [e_us, e_un, e_an, zcA_o, zmA_o]
                    exact ⟨by omega, by omega, trivial⟩
                  · simp (decide := true) only [e_us] at k1
                    simp (decide := true) only [e_us, e_un, e_ur, e_an, e_ar, zcA_o, zmA_o, Int.sub_zero, Int.add_zero, true_and]
                    by_cases z : k = c r_Rights_dealCount 0 0 0
                    · simp (decide := true) only [z, and_self, true_and, ↓reduceIte]
                    · simp only [z, false_and, and_false, ↓reduceIte]
                      exact td k k0 (by omega)
                  · refine zAr_rel.uc (zAr_rel.uc (zAr_rel.uc (zAr_rel.uc (zAr_rel.uc (zAr_rel.uc (zAr.add ?_) (by decide)) (by decide)) (by decide)) (by decide)) (by decide)) (by decide)
                    refine zAr_rel hA1 (fun _ _ => rfl) (fun r hr => ?_)
                    simp only [zArM, List.mem_cons, List.not_mem_nil, or_false] at hr
                    funext x y z
                    rcases hr with rfl | rfl | rfl <;> simp (decide := true) only [e_un, e_an]
                  · simp (decide := true) only [e_un, e_us, e_an, zmA_o]
              · rw [if_neg (show ¬ zb true = 0 by decide), if_pos (show true = true from rfl)]
                exact hno
            · rw [if_neg q1]
              have q2 : c r_Film_isWithdrawn f 0 0 = 1 := by
                rcases w2 with w2 | w2
                · exact absurd w2 q1
                · exact w2
              rw [q2, ite_self]
              exact hno
          · simp (decide := true) only [if_pos h2, if_pos h5, if_pos h3, if_neg h4, ↓reduceIte, Int.reduceEq]
            exact hbad
        · simp (decide := true) only [if_pos h2, if_pos h5, if_neg h3, ↓reduceIte, Int.reduceEq]
          exact hbad
      · simp (decide := true) only [if_pos h2, if_neg h5, ↓reduceIte, Int.reduceEq, ite_self]
        exact hbad
    · simp (decide := true) only [if_neg h2, ↓reduceIte, Int.reduceEq]
      exact hbad
  · rw [if_neg hf, if_neg hf, e_b_x (by decide) (by decide)]
    simp (decide := true) only [zb_n, zb_d, ↓reduceIte, ite_self]
    exact ⟨1, 0, _, _, rfl, rfl, ⟨hT.thr, hA.thr⟩, e_us, fun q => absurd q (by decide)⟩
theorem q_placeOf {x : Int} {c : ZS} (x0 : 0 ≤ x) (x1 : x < 400) (n0 : 0 ≤ c r_Archive_next 0 0 0) (n1 : c r_Archive_next 0 0 0 < 400) : v_Archive_placeOf x c = zix (c r_Archive_next 0 0 0 - 1 - x) := by
  unfold v_Archive_placeOf zix
  rw [e_wr_id (x := c r_Archive_next 0 0 0 - 1) (by omega) (by omega), e_wr_id (x := c r_Archive_next 0 0 0 - 1 - x) (by omega) (by omega), e_wr_id (x := c r_Archive_next 0 0 0 - 1 - x + 800) (by omega) (by omega)]
  unfold e_div
  rw [Int.tdiv_eq_ediv_of_nonneg (by omega), e_wr_id (x := (c r_Archive_next 0 0 0 - 1 - x + 800) / 400) (by omega) (by omega), e_wr_id (x := (c r_Archive_next 0 0 0 - 1 - x + 800) / 400 * 400) (by omega) (by omega), e_wr_id (by omega) (by omega)]
  split <;> omega
theorem o_line {x b : Int} {c m : ZS} (h : zAr c m) : zBo zAr (f_w_line [x, b] c) (f_m_line [x, b] m) := by
  obtain ⟨⟨a1, a2, a3⟩, ⟨b1, b2, b3⟩, s⟩ := id h
  show zBo zAr (e_try (f_x_line [x, b] c) (fun v1 S1 => ((0, [0]), e_upd S1 r_out 0 0 0 v1)) [(4, 1)]) (f_m_line [x, b] m)
  unfold f_x_line f_m_line
  dsimp only
  have w1 : e_wr (c r_Archive_lineCount 0 0 0 - 1) = c r_Archive_lineCount 0 0 0 - 1 := e_wr_id (by omega) (by omega)
  simp only [zb_n, zb_d, q_within, q_isIn, a3, w1]
  by_cases hx : 0 ≤ x ∧ x ≤ c r_Archive_lineCount 0 0 0 - 1
  · obtain ⟨l1, l2⟩ := s (c r_Archive_lineCount 0 0 0 - 1 - x) (by omega) (by omega)
    rw [show c r_Archive_next 0 0 0 + (c r_Archive_lineCount 0 0 0 - 1 - x) - c r_Archive_lineCount 0 0 0 = c r_Archive_next 0 0 0 - 1 - x by omega] at l1 l2
    have w2 : e_wr (c r_Archive_lineCount 0 0 0 - 1 - x) = c r_Archive_lineCount 0 0 0 - 1 - x := e_wr_id (by omega) (by omega)
    have w3 := q_placeOf (x := x) (c := c) hx.1 (by omega) b1 b2
    simp (decide := true) only [if_pos hx, ↓reduceIte, Int.reduceEq, w2, w3, l1, l2]
    by_cases q : b = 0
    · simp only [if_pos q]
      exact ⟨0, _, _, _, rfl, rfl, h.thr.out, e_us, fun _ => e_us⟩
    · simp only [if_neg q]
      exact ⟨0, _, _, _, rfl, rfl, h.thr.out, e_us, fun _ => e_us⟩
  · simp (decide := true) only [if_neg hx, ↓reduceIte]
    exact ⟨1, 0, _, _, rfl, rfl, h.thr, e_us, fun q => absurd q (by decide)⟩
