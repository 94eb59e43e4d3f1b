/-! choose: both sides -/
noncomputable def zSc (c : ZS) (f : Int) : Int := (f_Readings_meanOfEven [f] c).1.2.getD 0 0
theorem q_sc {c m : ZS} (h : zR c m) {f : Int} (f0 : 0 ≤ f) (f1 : f < c r_x_filmCount 0 0 0) : f_Readings_meanOfEven [f] c = ((0, [zSc c f]), c) ∧ f_m_scoreOf [f] m = ((0, [zSc c f]), m) := by
  obtain ⟨v, e1, e2⟩ := q_scoreOf h f0 f1
  have e : zSc c f = v := by
    unfold zSc
    rw [e1]
    rfl
  rw [e]
  exact ⟨e1, e2⟩
theorem zSc_eq {c c' m : ZS} (h : zR c m) (h' : zR c' m) {f : Int} (f0 : 0 ≤ f) (f1 : f < c r_x_filmCount 0 0 0) (f1' : f < c' r_x_filmCount 0 0 0) : zSc c' f = zSc c f := by
  have e := (q_sc h f0 f1).2.symm.trans (q_sc h' f0 f1').2
  simp only [Prod.mk.injEq, List.cons.injEq, and_true, true_and] at e
  exact e.symm
def zTd (c : ZS) (f : Int) : Bool := decide (0 < zcnt (fun k => decide (0 ≤ c r_Readings_marks_r f 0 k)) (c r_Readings_readerCount 0 0 0).toNat 0)
theorem q_order1 {c m : ZS} (h : zR c m) : ∀ (j : Nat) (k n : Int) (S : ZS), 0 ≤ k → k + j = c r_x_filmCount 0 0 0 → 0 ≤ n → n ≤ k → (∀ r, [r_x_order, r_x_weights].contains r = false → S r = c r) → zOrd (fun i => S r_x_order 0 0 i) (fun i => S r_x_weights 0 0 i) (zSc c) (zTd c) n k → ∃ n' S', g_x_orderByScore ((1004, [n, k]), S) = ((0, [n']), S') ∧ 0 ≤ n' ∧ n' ≤ c r_x_filmCount 0 0 0 ∧ (∀ r, [r_x_order, r_x_weights].contains r = false → S' r = c r) ∧ zOrd (fun i => S' r_x_order 0 0 i) (fun i => S' r_x_weights 0 0 i) (zSc c) (zTd c) n' (c r_x_filmCount 0 0 0) := by
  obtain ⟨⟨a1, a2, a3⟩, ⟨b1, b2, b3⟩, -⟩ := id h
  intro j
  induction j with
  | zero =>
    intro k n S k0 k1 n0 n1 fr ho
    have e1 : S r_x_filmCount = c r_x_filmCount := fr _ (by decide)
    have hk : k = c r_x_filmCount 0 0 0 := by omega
    refine ⟨n, S, ?_, n0, by omega, fr, ?_⟩
    · rw [g_x_orderByScore_4, zb_d, e1, if_pos (by omega)]
    · rw [hk] at ho
      exact ho
  | succ j ih =>
    intro k n S k0 k1 n0 n1 fr ho
    have e1 : S r_x_filmCount = c r_x_filmCount := fr _ (by decide)
    have e2 : S r_Readings_marks_r = c r_Readings_marks_r := fr _ (by decide)
    have e3 : S r_Readings_readerCount = c r_Readings_readerCount := fr _ (by decide)
    have hS : zR S m := zR_rel h (fun r hr => fr r (z_nin_ok (by decide : z_nin zRC [r_x_order, r_x_weights] = true) hr)) (fun _ _ => rfl)
    have hk : e_wr (k + 1) = k + 1 := e_wr_id (by omega) (by omega)
    have hn : e_wr (n + 1) = n + 1 := e_wr_id (by omega) (by omega)
    rw [g_x_orderByScore_4, zb_d, e1, if_neg (by omega), q_countTold (by rw [e3]; exact b1) (by rw [e3]; exact b2), e_bnd, e2, e3, zb_d, hk]
    by_cases q : zcnt (fun i => decide (0 ≤ c r_Readings_marks_r k 0 i)) (c r_Readings_readerCount 0 0 0).toNat 0 ≤ 0
    · rw [if_pos q]
      exact ih (k + 1) n S (by omega) (by omega) n0 (by omega) fr (ho.skip (decide_eq_false (by omega)))
    · rw [if_neg q, (q_sc hS k0 (by rw [e1]; omega)).1, e_bnd]
      obtain ⟨S', p1, p2, p3⟩ := q_putInOrder (f := k) (W := zSc S k) (S := S) n0 (by omega)
      rw [p1, e_bnd0, hn]
      exact ih (k + 1) (n + 1) S' (by omega) (by omega) (by omega) (by omega) (fun r hr => (p2 r hr).trans (fr r hr)) (p3 ho k0 (decide_eq_true (by omega)) rfl (zSc_eq h hS k0 (by omega) (by rw [e1]; omega)))
theorem q_orderByScore {c m : ZS} (h : zR c m) : ∃ n S', f_x_orderByScore [] c = ((0, [n]), S') ∧ 0 ≤ n ∧ n ≤ c r_x_filmCount 0 0 0 ∧ (∀ r, [r_x_order, r_x_weights].contains r = false → S' r = c r) ∧ zOrd (fun i => S' r_x_order 0 0 i) (fun i => S' r_x_weights 0 0 i) (zSc c) (zTd c) n (c r_x_filmCount 0 0 0) := by
  show ∃ n S', g_x_orderByScore ((1000, []), c) = ((0, [n]), S') ∧ _
  rw [g_x_orderByScore_0]
  exact q_order1 h (c r_x_filmCount 0 0 0).toNat 0 0 c (Int.le_refl _) (by have := h.1.1; omega) (Int.le_refl _) (Int.le_refl _) (fun _ _ => rfl) ⟨fun i a b => by omega, fun i j a b d => by omega, fun f a b => by omega⟩
theorem q_filmsIn {c m : ZS} (hR : zR c m) (hF : zFs c m) {s : Int} : ∃ v, f_x_filmsIn [s] c = ((0, [v]), c) ∧ f_m_filmsOf [s] m = ((0, [v]), m) := by
  obtain ⟨⟨a1, a2, a3⟩, -⟩ := id hR
  show ∃ v, g_x_filmsIn ((1000, [s]), c) = ((0, [v]), c) ∧ g_m_filmsOf ((1000, [s]), m) = ((0, [v]), m)
  rw [g_x_filmsIn_0, g_m_filmsOf_0]
  refine z_sync (n := c r_x_filmCount 0 0 0) (A := fun (a : Int) k => g_x_filmsIn ((1004, [s, a, k]), c)) (B := fun (b : Int) k => g_m_filmsOf ((1004, [s, b, k]), m)) (R := fun k a b => a = b ∧ e_wr b = b) (Goal := fun A B => ∃ v, A = ((0, [v]), c) ∧ B = ((0, [v]), m)) ?_ ?_ (c r_x_filmCount 0 0 0).toNat 0 0 0 (Int.le_refl _) (by omega) ⟨rfl, e_wr_id (by omega) (by omega)⟩
  · rintro a b ⟨e1, e2⟩
    subst e1
    refine ⟨a, ?_, ?_⟩
    · show g_x_filmsIn ((1004, [s, a, c r_x_filmCount 0 0 0]), c) = _
      rw [g_x_filmsIn_4, zb_d, if_pos (Int.le_refl _)]
    · show g_m_filmsOf ((1004, [s, a, c r_x_filmCount 0 0 0]), m) = _
      rw [g_m_filmsOf_4, zb_d, if_pos (by omega)]
  · rintro k a b k0 k1 ⟨e1, e2⟩
    subst e1
    have hk : e_wr (k + 1) = k + 1 := e_wr_id (by omega) (by omega)
    have e4 := (hF.1 k k0 k1).2.2.2
    by_cases q : c r_Film_section k 0 0 = s
    · refine ⟨e_wr (a + 1), e_wr (a + 1), ?_, ?_, rfl, e_wr_wr⟩
      · show g_x_filmsIn ((1004, [s, a, k]), c) = _
        rw [g_x_filmsIn_4, zb_d, if_neg (by omega), zb_n, if_pos q, hk]
      · show g_m_filmsOf ((1004, [s, a, k]), m) = _
        rw [g_m_filmsOf_4, zb_d, if_neg (by omega), zb_n, e4, if_pos q, hk]
    · refine ⟨a, a, ?_, ?_, rfl, e2⟩
      · show g_x_filmsIn ((1004, [s, a, k]), c) = _
        rw [g_x_filmsIn_4, zb_d, if_neg (by omega), zb_n, if_neg q, hk]
      · show g_m_filmsOf ((1004, [s, a, k]), m) = _
        rw [g_m_filmsOf_4, zb_d, if_neg (by omega), zb_n, e4, if_neg q, hk, Int.add_zero, e2]
theorem q_minutesIn {c m : ZS} (hR : zR c m) (hF : zFs c m) {s : Int} : ∃ v, f_x_minutesIn [s] c = ((0, [v]), c) ∧ f_m_minutesOf [s] m = ((0, [v]), m) := by
  obtain ⟨⟨a1, a2, a3⟩, -⟩ := id hR
  show ∃ v, g_x_minutesIn ((1000, [s]), c) = ((0, [v]), c) ∧ g_m_minutesOf ((1000, [s]), m) = ((0, [v]), m)
  rw [g_x_minutesIn_0, g_m_minutesOf_0]
  refine z_sync (n := c r_x_filmCount 0 0 0) (A := fun (a : Int) k => g_x_minutesIn ((1004, [s, a, k]), c)) (B := fun (b : Int) k => g_m_minutesOf ((1004, [s, b, k]), m)) (R := fun k a b => a = b ∧ e_wr b = b) (Goal := fun A B => ∃ v, A = ((0, [v]), c) ∧ B = ((0, [v]), m)) ?_ ?_ (c r_x_filmCount 0 0 0).toNat 0 0 0 (Int.le_refl _) (by omega) ⟨rfl, e_wr_id (by omega) (by omega)⟩
  · rintro a b ⟨e1, e2⟩
    subst e1
    refine ⟨a, ?_, ?_⟩
    · show g_x_minutesIn ((1004, [s, a, c r_x_filmCount 0 0 0]), c) = _
      rw [g_x_minutesIn_4, zb_d, if_pos (Int.le_refl _)]
    · show g_m_minutesOf ((1004, [s, a, c r_x_filmCount 0 0 0]), m) = _
      rw [g_m_minutesOf_4, zb_d, if_pos (by omega)]
  · rintro k a b k0 k1 ⟨e1, e2⟩
    subst e1
    have hk : e_wr (k + 1) = k + 1 := e_wr_id (by omega) (by omega)
    have e4 := (hF.1 k k0 k1).2.2.2
    have e5 := (hF.1 k k0 k1).2.1
    by_cases q : c r_Film_section k 0 0 = s
    · refine ⟨e_wr (a + c r_Film_minutes k 0 0), e_wr (a + c r_Film_minutes k 0 0), ?_, ?_, rfl, e_wr_wr⟩
      · show g_x_minutesIn ((1004, [s, a, k]), c) = _
        rw [g_x_minutesIn_4, zb_d, if_neg (by omega), zb_n, if_pos q, hk]
      · show g_m_minutesOf ((1004, [s, a, k]), m) = _
        rw [g_m_minutesOf_4, zb_d, if_neg (by omega), zb_n, e4, if_pos q, hk, e5]
    · refine ⟨a, a, ?_, ?_, rfl, e2⟩
      · show g_x_minutesIn ((1004, [s, a, k]), c) = _
        rw [g_x_minutesIn_4, zb_d, if_neg (by omega), zb_n, if_neg q, hk]
      · show g_m_minutesOf ((1004, [s, a, k]), m) = _
        rw [g_m_minutesOf_4, zb_d, if_neg (by omega), zb_n, e4, if_neg q, hk, Int.add_zero, e2]
theorem q_may {c m : ZS} (hR : zR c m) (hF : zFs c m) (hW : zWd c m) (hS : zSe c m) {f s : Int} (f0 : 0 ≤ f) (f1 : f < c r_x_filmCount 0 0 0) (s0 : 0 ≤ s) (s1 : s < c r_x_sectionCount 0 0 0) : ∃ b, zbit b ∧ f_x_canBeChosen [f, zSc c f, s] c = ((0, [b]), c) ∧ f_m_mayChoose [s, f] m = ((0, [b]), m) := by
  obtain ⟨⟨a1, a2, a3⟩, -⟩ := id hR
  obtain ⟨v1, p1, p2⟩ := q_quarrel hR f0 f1
  obtain ⟨p3, p4⟩ := q_sc hR f0 f1
  obtain ⟨v2, p5, p6⟩ := q_filmsIn hR hF (s := s)
  obtain ⟨v3, p7, p8⟩ := q_minutesIn hR hF (s := s)
  obtain ⟨x1, x2, x3, x4⟩ := hF.1 f f0 f1
  have x5 := (hF.2.2 f f0 (by omega)).2
  have x6 := (hW f f0 (by omega)).1
  obtain ⟨y1, y2, y3, y4, y5⟩ := hS.2 s s0 s1
  unfold f_x_canBeChosen f_m_mayChoose
  dsimp only
  simp only [p1, p2, p4, p5, p6, p7, p8, e_bnd, zb_d, zb_n, x1, x2, x3, x4, x6, y1, y2, y3, y4, y5]
  by_cases c1 : c r_Film_section f 0 0 = -1
  · have c1' : ¬ 0 ≤ c r_Film_section f 0 0 := by omega
    by_cases c2 : c r_Film_isWithdrawn f 0 0 = 0
    · by_cases c3 : v1 ≤ 30
      · have c3' : ¬ 30 < v1 := by omega
        simp only [c1, c2, c3, c3', c1', if_pos, ↓reduceIte, Int.reduceLE, Int.reduceNeg, Int.reduceLT]
        by_cases c4 : c r_Section_form s 0 0 = 45
        · simp only [if_pos c4]
          repeat' split
          all_goals first | exact ⟨0, zbit0, rfl, rfl⟩ | exact ⟨1, zbit1, rfl, rfl⟩ | (exfalso; omega)
        · simp only [if_neg c4]
          repeat' split
          all_goals first | exact ⟨0, zbit0, rfl, rfl⟩ | exact ⟨1, zbit1, rfl, rfl⟩ | (exfalso; omega)
      · have c3' : 30 < v1 := by omega
        simp only [c1, c2, if_neg c3, if_pos c3', ↓reduceIte, Int.reduceLE, Int.reduceNeg, Int.reduceEq]
        repeat' split
        all_goals first | exact ⟨0, zbit0, rfl, rfl⟩ | (exfalso; omega)
    · simp only [c1, if_neg c2, ↓reduceIte, Int.reduceLE, Int.reduceNeg]
      repeat' split
      all_goals first | exact ⟨0, zbit0, rfl, rfl⟩ | (exfalso; omega)
  · have c1' : 0 ≤ c r_Film_section f 0 0 := by omega
    simp only [if_neg c1, if_pos c1']
    repeat' split
    all_goals first | exact ⟨0, zbit0, rfl, rfl⟩ | (exfalso; omega)
theorem q_chosen {c : ZS} {f V s : Int} (h : f_x_canBeChosen [f, V, s] c = ((0, [1]), c)) : c r_Film_section f 0 0 = -1 ∧ c r_Film_isWithdrawn f 0 0 = 0 := by
  unfold f_x_canBeChosen at h
  dsimp only at h
  rw [zb_n] at h
  by_cases q1 : c r_Film_section f 0 0 = -1
  · rw [if_pos q1, zb_n] at h
    by_cases q2 : c r_Film_isWithdrawn f 0 0 = 0
    · exact ⟨q1, q2⟩
    · rw [if_neg q2] at h
      have h2 : (0 : Int) = 1 := congrArg (fun q : ZR => q.1.2.getD 0 0) h
      omega
  · rw [if_neg q1] at h
    have h2 : (0 : Int) = 1 := congrArg (fun q : ZR => q.1.2.getD 0 0) h
    omega
def zCh (c m : ZS) : Prop := zR c m ∧ zFs c m ∧ zWd c m ∧ zSe c m ∧ zTo c m ∧ zAr c m
theorem q_choose1 {c1 : ZS} {V o w : Int → Int} {p : Int → Bool} {s n : Int} (hV : ∀ f, V f = zSc c1 f) (s0 : 0 ≤ s) (n20 : n ≤ 20) (hO : zOrd o w V p n (c1 r_x_filmCount 0 0 0)) : ∀ (j : Nat) (i y x : Int) (C M : ZS), i + j = n → 0 ≤ i → 0 ≤ y → y ≤ i → 0 ≤ x → s < C r_x_sectionCount 0 0 0 → zCh C M → zR c1 M → (∀ i, C r_x_order 0 0 i = o i) → (∀ i, C r_x_weights 0 0 i = w i) → (∀ f, 0 ≤ f → f < c1 r_x_filmCount 0 0 0 → (M r_m_areLeft 0 0 f ≠ 0 ↔ ∃ q, i ≤ q ∧ q < n ∧ o q = f)) → ∃ v C' M', g_x_choose ((1015, [s, n, y, i]), C) = ((0, [v]), C') ∧ g_m_choose ((1054, [s, y, x]), M) = ((0, [v]), M') ∧ zCh C' M' ∧ M' r_m_thrown = M r_m_thrown := by
  intro j
  induction j with
  | zero =>
    intro i y x C M ij i0 y0 y1 x0 sC hc hR1 ho hw hl
    obtain ⟨hR, hF, hW, hS, hT, hA⟩ := id hc
    obtain ⟨⟨a1, a2, a3⟩, -⟩ := id hR
    obtain ⟨⟨d1, d2, d3⟩, -⟩ := id hR1
    have hb : g_m_choose ((1063, [s, y, -1, 0]), M) = g_m_choose ((1054, [s, y, -1]), M) := by
      have hz : ∀ (t : Nat) (k : Int), 0 ≤ k → k + t = c1 r_x_filmCount 0 0 0 → g_m_choose ((1063, [s, y, -1, k]), M) = g_m_choose ((1054, [s, y, -1]), M) := by
        intro t
        induction t with
        | zero =>
          intro k k0 k1
          rw [g_m_choose_63, zb_d, if_pos (by omega), zb_d, if_pos (by omega)]
        | succ t iht =>
          intro k k0 k1
          have hk : e_wr (k + 1) = k + 1 := e_wr_id (by omega) (by omega)
          have hz : M r_m_areLeft 0 0 k = 0 := by
            by_cases e : M r_m_areLeft 0 0 k = 0
            · exact e
            · obtain ⟨q, q0, q1, -⟩ := (hl k k0 (by omega)).mp e
              omega
          rw [g_m_choose_63, zb_d, if_neg (by omega), zb_d, if_pos hz, hk]
          exact iht (k + 1) (by omega) (by omega)
      exact hz (c1 r_x_filmCount 0 0 0).toNat 0 (Int.le_refl _) (by omega)
    refine ⟨y, C, M, ?_, ?_, hc, rfl⟩
    · rw [g_x_choose_15, zb_d, if_pos (by omega)]
    · rw [g_m_choose_54, zb_d, if_neg (by omega), hb, g_m_choose_54, zb_d, if_pos (by decide)]
  | succ j ih =>
    intro i y x C M ij i0 y0 y1 x0 sC hc hR1 ho hw hl
    obtain ⟨hR, hF, hW, hS, hT, hA⟩ := id hc
    obtain ⟨⟨a1, a2, a3⟩, -⟩ := id hR
    obtain ⟨⟨d1, d2, d3⟩, -⟩ := id hR1
    have hi : e_wr (i + 1) = i + 1 := e_wr_id (by omega) (by omega)
    have hy : e_wr (y + 1) = y + 1 := e_wr_id (by omega) (by omega)
    obtain ⟨o1, o2, o3, o4⟩ := hO.1 i i0 (by omega)
    have hVo : zSc C (o i) = V (o i) := (zSc_eq hR1 hR o1 o2 (by omega)).trans (hV _).symm
    have hbest := hO.best i0 (by omega) (l := fun f => decide (M r_m_areLeft 0 0 f ≠ 0)) (fun f f0 f1 => by
      rw [decide_eq_true_eq]
      exact hl f f0 f1)
    have hx : g_m_choose ((1054, [s, y, x]), M) = (fun b => bif decide (b < 0) then (g_m_choose ((1054, [s, y, b]), M)) else (e_bind (f_m_mayChoose [s, b] (e_upd M r_m_areLeft 0 0 b (e_nar 1 0))) (fun v1 S1 => (bif decide (v1 = 0) then (g_m_choose ((1054, [s, y, b]), S1)) else (e_bind (f_m_writes [99, b] (e_upd (e_upd S1 r_m_sections 0 0 b s) r_m_promises 0 0 b (S1 r_m_premieres 0 0 s))) (fun v2 S2 => (g_m_choose ((1054, [s, (e_wr (y + 1)), b]), S2)))))))) (o i) := by
      rw [g_m_choose_54, zb_d, if_neg (by omega), ← hbest]
      refine zl_best (n := c1 r_x_filmCount 0 0 0) (p := fun f => decide (M r_m_areLeft 0 0 f ≠ 0)) (w := fun f => - V f) (fin := fun b => bif decide (b < 0) then (g_m_choose ((1054, [s, y, b]), M)) else (e_bind (f_m_mayChoose [s, b] (e_upd M r_m_areLeft 0 0 b (e_nar 1 0))) (fun v1 S1 => (bif decide (v1 = 0) then (g_m_choose ((1054, [s, y, b]), S1)) else (e_bind (f_m_writes [99, b] (e_upd (e_upd S1 r_m_sections 0 0 b s) r_m_promises 0 0 b (S1 r_m_premieres 0 0 s))) (fun v2 S2 => (g_m_choose ((1054, [s, (e_wr (y + 1)), b]), S2)))))))) (G := fun b k => g_m_choose ((1063, [s, y, b, k]), M)) (fun b k e _ _ => ?_) (fun b k k0 k1 b0 b1 => ?_) (c1 r_x_filmCount 0 0 0).toNat (-1) 0 (Int.le_refl _) (by omega) (by omega) (by omega)
      · rw [g_m_choose_63, zb_d (p := M r_m_films 0 0 0 ≤ k), if_pos (by omega)]
      · have hk : e_wr (k + 1) = k + 1 := e_wr_id (by omega) (by omega)
        rw [g_m_choose_63, zb_d, if_neg (by omega), zb_d, hk]
        by_cases q : M r_m_areLeft 0 0 k = 0
        · rw [if_pos q, if_neg (by rw [decide_eq_true_eq]; exact fun z => z q)]
        · rw [if_neg q, if_pos (by rw [decide_eq_true_eq]; exact q), zb_d]
          by_cases q2 : b < 0
          · rw [if_pos q2, if_pos q2]
          · rw [if_neg q2, if_neg q2, (q_sc hR1 k0 k1).2, e_bnd, (q_sc hR1 (f := b) (by omega) (by omega)).2, e_bnd, zb_d]
            simp only [hV]
            by_cases q3 : zSc c1 k ≤ zSc c1 b
            · rw [if_pos q3, if_neg (by omega)]
            · rw [if_neg q3, if_pos (by omega)]
    have n0 : e_nar 1 0 = 0 := e_nb0
    have kM : ∀ {R : ZS → ZS → Prop} {KC KM : List Nat}, zRel R KC KM → KM.contains r_m_areLeft = false → R C M → R C (e_upd M r_m_areLeft 0 0 (o i) 0) := fun hr hq h => hr.um h hq
    have hR2 := kM zR_rel (by decide) hR
    have hF2 := kM zFs_rel (by decide) hF
    have hW2 := kM zWd_rel (by decide) hW
    have hS2 := kM zSe_rel (by decide) hS
    have hT2 := kM zTo_rel (by decide) hT
    have hA2 := kM zAr_rel (by decide) hA
    have hR3 : zR c1 (e_upd M r_m_areLeft 0 0 (o i) 0) := zR_rel.um hR1 (by decide)
    have hl2 : ∀ f, 0 ≤ f → f < c1 r_x_filmCount 0 0 0 → ((e_upd M r_m_areLeft 0 0 (o i) 0) r_m_areLeft 0 0 f ≠ 0 ↔ ∃ q, i + 1 ≤ q ∧ q < n ∧ o q = f) := fun f f0 f1 => by
      rw [e_ur]
      by_cases e : f = o i
      · rw [if_pos ⟨rfl, rfl, e⟩]
        refine ⟨fun z => absurd rfl z, fun ⟨q, q0, q1, q2⟩ => ?_⟩
        have := hO.2.1 i q i0 (by omega) q1
        rw [q2, e] at this
        omega
      · rw [if_neg (fun z => e z.2.2), hl f f0 f1]
        constructor
        · rintro ⟨q, q0, q1, q2⟩
          refine ⟨q, ?_, q1, q2⟩
          by_cases e2 : q = i
          · rw [e2] at q2
            exact absurd q2.symm e
          · omega
        · rintro ⟨q, q0, q1, q2⟩
          exact ⟨q, by omega, q1, q2⟩
    obtain ⟨b, hb, m1, m2⟩ := q_may hR2 hF2 hW2 hS2 o1 (by omega) s0 sC
    rw [hVo] at m1
    have hcC : g_x_choose ((1015, [s, n, y, i]), C) = (bif decide (b = 0) then (g_x_choose ((1015, [s, n, y, i + 1]), C)) else (g_x_choose ((1015, [s, n, y + 1, i + 1]), zcA 99 (o i) (e_upd (e_upd C r_Film_section (o i) 0 0 s) r_Film_promise (o i) 0 0 (C r_Section_premiere s 0 0))))) := by
      rw [g_x_choose_15, zb_d (p := n ≤ i), if_neg (by omega), ho, hw, o4, m1, e_bnd, hi, hy]
      rfl
    rw [hcC, hx]
    show ∃ v C' M', _ ∧ (bif decide (o i < 0) then _ else _) = _ ∧ _
    rw [zb_d (p := o i < 0), if_neg (by omega), n0, m2, e_bnd, zb_d, zb_d]
    rcases hb with rfl | rfl
    · rw [if_pos rfl, if_pos rfl]
      exact ih (i + 1) y (o i) C _ (by omega) (by omega) y0 (by omega) o1 sC ⟨hR2, hF2, hW2, hS2, hT2, hA2⟩ hR3 ho hw hl2
    · rw [if_neg (by decide), if_neg (by decide), q_zmA, e_bnd0, hy]
      have pr := (hS2.2 s s0 sC).2.2.2.2
      have eA : ∀ {r : Nat}, ([r_Film_section, r_Film_promise] ++ zArC).contains r = false → (zcA 99 (o i) (e_upd (e_upd C r_Film_section (o i) 0 0 s) r_Film_promise (o i) 0 0 (C r_Section_premiere s 0 0))) r = C r := fun {r} hr => by
        rw [zcA_o (by
          cases e : zArC.contains r with
          | false => rfl
          | true =>
            rw [List.contains_iff_mem] at e
            have := List.contains_iff_mem.mpr (List.mem_append_right [r_Film_section, r_Film_promise] e)
            rw [hr] at this
            cases this)]
        funext x y z
        have h1 : (r == r_Film_section) = false := by
          cases e : r == r_Film_section with
          | false => rfl
          | true => rw [beq_iff_eq] at e; rw [e] at hr; exact absurd hr (by decide)
        have h2 : (r == r_Film_promise) = false := by
          cases e : r == r_Film_promise with
          | false => rfl
          | true => rw [beq_iff_eq] at e; rw [e] at hr; exact absurd hr (by decide)
        rw [e_un h2, e_un h1]
      have cS : ∀ f, (zcA 99 (o i) (e_upd (e_upd C r_Film_section (o i) 0 0 s) r_Film_promise (o i) 0 0 (C r_Section_premiere s 0 0))) r_Film_section f 0 0 = if f = o i then s else C r_Film_section f 0 0 := fun f => by
        rw [zcA_o (by decide)]
        simp (decide := true) only [e_un, e_ur, and_true]
      have cP : ∀ f, (zcA 99 (o i) (e_upd (e_upd C r_Film_section (o i) 0 0 s) r_Film_promise (o i) 0 0 (C r_Section_premiere s 0 0))) r_Film_promise f 0 0 = if f = o i then C r_Section_premiere s 0 0 else C r_Film_promise f 0 0 := fun f => by
        rw [zcA_o (by decide)]
        simp (decide := true) only [e_un, e_ur, and_true]
      generalize hC' : zcA 99 (o i) (e_upd (e_upd C r_Film_section (o i) 0 0 s) r_Film_promise (o i) 0 0 (C r_Section_premiere s 0 0)) = C' at eA cS cP ⊢
      generalize hM1 : e_upd M r_m_areLeft 0 0 (o i) 0 = M1 at hR2 hF2 hW2 hS2 hT2 hA2 hR3 hl2 pr ⊢
      have mS : ∀ f, (zmA 99 (o i) (e_upd (e_upd M1 r_m_sections 0 0 (o i) s) r_m_promises 0 0 (o i) (M1 r_m_premieres 0 0 s))) r_m_sections 0 0 f = if f = o i then s else M1 r_m_sections 0 0 f := fun f => by
        rw [zmA_o (by decide)]
        simp (decide := true) only [e_un, e_ur, true_and]
      have mP : ∀ f, (zmA 99 (o i) (e_upd (e_upd M1 r_m_sections 0 0 (o i) s) r_m_promises 0 0 (o i) (M1 r_m_premieres 0 0 s))) r_m_promises 0 0 f = if f = o i then C r_Section_premiere s 0 0 else M1 r_m_promises 0 0 f := fun f => by
        rw [zmA_o (by decide)]
        simp (decide := true) only [e_un, e_ur, true_and, pr]
      have mO : ∀ {r : Nat}, ([r_m_sections, r_m_promises] ++ zArM).contains r = false → (zmA 99 (o i) (e_upd (e_upd M1 r_m_sections 0 0 (o i) s) r_m_promises 0 0 (o i) (M1 r_m_premieres 0 0 s))) r = M1 r := fun {r} hr => by
        rw [zmA_o (by
          cases e : zArM.contains r with
          | false => rfl
          | true =>
            rw [List.contains_iff_mem] at e
            have := List.contains_iff_mem.mpr (List.mem_append_right [r_m_sections, r_m_promises] e)
            rw [hr] at this
            cases this)]
        funext x y z
        have h1 : (r == r_m_sections) = false := by
          cases e : r == r_m_sections with
          | false => rfl
          | true => rw [beq_iff_eq] at e; rw [e] at hr; exact absurd hr (by decide)
        have h2 : (r == r_m_promises) = false := by
          cases e : r == r_m_promises with
          | false => rfl
          | true => rw [beq_iff_eq] at e; rw [e] at hr; exact absurd hr (by decide)
        rw [e_un h2, e_un h1]
      generalize hM' : zmA 99 (o i) (e_upd (e_upd M1 r_m_sections 0 0 (o i) s) r_m_promises 0 0 (o i) (M1 r_m_premieres 0 0 s)) = M' at mS mP mO ⊢
      have eth : M' r_m_thrown = M r_m_thrown := by
        rw [mO (by decide), ← hM1]
        funext x y z
        exact e_un (by decide)
      have hF3 : zFs C' M' := by
        obtain ⟨s1, s2, s3⟩ := hF2
        unfold zFs
        rw [eA (r := r_x_filmCount) (by decide), eA (r := r_Film_form) (by decide), eA (r := r_Film_minutes) (by decide), eA (r := r_Film_stillIs) (by decide), mO (r := r_m_forms) (by decide), mO (r := r_m_minutes) (by decide), mO (r := r_m_still) (by decide)]
        refine ⟨fun f f0 f1 => ?_, fun f f0 f1 => ?_, fun f f0 f1 => ?_⟩
        · obtain ⟨t1, t2, t3, t4⟩ := s1 f f0 f1
          refine ⟨t1, t2, t3, ?_⟩
          rw [mS, cS, t4]
        · rw [cS, if_neg (by omega)]
          exact s2 f f0 f1
        · obtain ⟨t1, t2⟩ := s3 f f0 f1
          rw [mP, cP, cS, t1]
          refine ⟨rfl, ?_⟩
          split <;> omega
      have hT3 : zTo C' M' := by
        obtain ⟨ch1, ch2⟩ := q_chosen m1
        obtain ⟨tA, tB, tC⟩ := hT2
        have hne : ∀ i', 0 ≤ i' → i' < C r_Grid_showCount 0 0 0 → ¬ C r_Show_film i' 0 0 = o i := fun i' a b z => by
          have := tB i' a b
          rw [z] at this
          omega
        unfold zTo
        rw [eA (r := r_Grid_showCount) (by decide), eA (r := r_Show_cause) (by decide), eA (r := r_Grid_hour) (by decide), eA (r := r_Show_first) (by decide), eA (r := r_Show_film) (by decide), eA (r := r_Film_isWithdrawn) (by decide), eA (r := r_Show_length) (by decide), eA (r := r_Show_screen) (by decide)]
        refine ⟨fun i' a b => ?_, fun i' a b => ?_, fun i' j' a ij b => ?_⟩
        · rw [cS, if_neg (hne i' a b)]
          exact tA i' a b
        · rw [cS, if_neg (hne i' a b)]
          exact tB i' a b
        · rw [cS, cS, if_neg (hne i' a (by omega)), if_neg (hne j' (by omega) b)]
          exact tC i' j' a ij b
      have hA3 : zAr C' M' := by
        rw [← hC', ← hM']
        exact zAr.add (zAr_rel.uc (zAr_rel.uc (zAr_rel.um (zAr_rel.um hA2 (by decide)) (by decide)) (by decide)) (by decide))
      obtain ⟨v, C2, M2, k1, k2, k3, k4⟩ := ih (i + 1) (y + 1) (o i) C' M' (by omega) (by omega) (by omega) (by omega) o1 (by rw [eA (by decide)]; exact sC) ⟨zR_rel hR2 (fun r hr => eA (z_nin_ok (by decide : z_nin zRC ([r_Film_section, r_Film_promise] ++ zArC) = true) hr)) (fun r hr => mO (z_nin_ok (by decide : z_nin zRM ([r_m_sections, r_m_promises] ++ zArM) = true) hr)), hF3, zWd_rel hW2 (fun r hr => eA (z_nin_ok (by decide : z_nin zWdC ([r_Film_section, r_Film_promise] ++ zArC) = true) hr)) (fun r hr => mO (z_nin_ok (by decide : z_nin zWdM ([r_m_sections, r_m_promises] ++ zArM) = true) hr)), zSe_rel hS2 (fun r hr => eA (z_nin_ok (by decide : z_nin zSeC ([r_Film_section, r_Film_promise] ++ zArC) = true) hr)) (fun r hr => mO (z_nin_ok (by decide : z_nin zSeM ([r_m_sections, r_m_promises] ++ zArM) = true) hr)), hT3, hA3⟩ (zR_rel hR3 (fun _ _ => rfl) (fun r hr => mO (z_nin_ok (by decide : z_nin zRM ([r_m_sections, r_m_promises] ++ zArM) = true) hr))) (fun i' => by rw [eA (by decide)]; exact ho i') (fun i' => by rw [eA (by decide)]; exact hw i') (fun f f0 f1 => by rw [mO (by decide)]; exact hl2 f f0 f1)
      exact ⟨v, C2, M2, k1, k2, k3, k4.trans eth⟩
theorem o_choose {s : Int} {c m : ZS} (hR : zR c m) (hF : zFs c m) (hW : zWd c m) (hS : zSe c m) (hT : zTo c m) (hA : zAr c m) : zBo zCh (f_w_choose [s] c) (f_m_choose [s] m) := by
  obtain ⟨⟨a1, a2, a3⟩, ⟨b1, b2, b3⟩, -⟩ := id hR
  obtain ⟨⟨d1, d2, d3⟩, -⟩ := id hS
  have hot : ∀ {z : Int} {c' m' : ZS}, zCh c' m' → zCh (e_upd c' r_out 0 0 0 z) m' := fun {z c' m'} h' => by
    obtain ⟨g1, g2, g3, g4, g5, g6⟩ := h'
    exact ⟨g1.out, g2.out, g3.out, g4.out, g5.out, g6.out⟩
  show zBo zCh (e_try (g_x_choose ((1000, [s]), c)) (fun v1 S1 => ((0, [0]), e_upd S1 r_out 0 0 0 v1)) [(0, 1)]) (g_m_choose ((1000, [s]), m))
  rw [g_x_choose_0, g_m_choose_0, q_section d1 (by omega), q_noSection (by omega) (by omega), d3]
  by_cases hs : 0 ≤ s ∧ s < c r_x_sectionCount 0 0 0
  · rw [if_pos hs, if_pos hs, e_b_ok]
    simp (decide := true) only [zb_n, zb_d, ↓reduceIte, Int.reduceEq]
    obtain ⟨n, C, e1, n0, n1, fr, hO⟩ := q_orderByScore hR
    rw [e1, e_bnd]
    have kC : ∀ {R : ZS → ZS → Prop} {KC KM : List Nat}, zRel R KC KM → z_nin KC [r_x_order, r_x_weights] = true → R c m → R C m := fun hr hq h => hr h (fun r hr' => fr r (z_nin_ok hq hr')) (fun _ _ => rfl)
    have hRC : zR C m := kC zR_rel (by decide) hR
    have eN : C r_x_filmCount = c r_x_filmCount := fr _ (by decide)
    have eS : C r_x_sectionCount = c r_x_sectionCount := fr _ (by decide)
    have eM : C r_Readings_marks_r = c r_Readings_marks_r := fr _ (by decide)
    have eR : C r_Readings_readerCount = c r_Readings_readerCount := fr _ (by decide)
    -- the model's first loop
    have first : ∀ (t : Nat) (k : Int) (M : ZS), 0 ≤ k → k + t = c r_x_filmCount 0 0 0 → (∀ r, (r == r_m_areLeft) = false → M r = (e_upd m r_m_thrown 0 0 0 0) r) → (∀ f, 0 ≤ f → f < k → (M r_m_areLeft 0 0 f ≠ 0 ↔ zTd c f = true)) → ∃ M', g_m_choose ((1017, [s, k]), M) = g_m_choose ((1054, [s, 0, 0]), M') ∧ (∀ r, (r == r_m_areLeft) = false → M' r = (e_upd m r_m_thrown 0 0 0 0) r) ∧ ∀ f, 0 ≤ f → f < c r_x_filmCount 0 0 0 → (M' r_m_areLeft 0 0 f ≠ 0 ↔ zTd c f = true) := by
      intro t
      induction t with
      | zero =>
        intro k M k0 k1 fm hl
        have eF : M r_m_films 0 0 0 = c r_x_filmCount 0 0 0 := by rw [fm _ (by decide), e_un (by decide), a3]
        refine ⟨M, ?_, fm, fun f f0 f1 => hl f f0 (by omega)⟩
        rw [g_m_choose_17, zb_d, if_pos (by omega)]
      | succ t iht =>
        intro k M k0 k1 fm hl
        have hk : e_wr (k + 1) = k + 1 := e_wr_id (by omega) (by omega)
        have hRM : zR c M := zR_rel (hR.thr : zR c (e_upd m r_m_thrown 0 0 0 0)) (fun _ _ => rfl) (fun r hr => fm r (by
          cases e : r == r_m_areLeft with
          | false => rfl
          | true =>
            rw [beq_iff_eq] at e
            rw [e] at hr
            exact absurd hr (by decide)))
        obtain ⟨⟨-, -, z3⟩, ⟨-, -, z6⟩, -⟩ := id hRM
        have ht := hRM.told k0 (by omega)
        have step : ∀ x, (x ≠ 0 ↔ zTd c k = true) → ∃ M', g_m_choose ((1017, [s, k + 1]), e_upd M r_m_areLeft 0 0 k x) = g_m_choose ((1054, [s, 0, 0]), M') ∧ (∀ r, (r == r_m_areLeft) = false → M' r = (e_upd m r_m_thrown 0 0 0 0) r) ∧ ∀ f, 0 ≤ f → f < c r_x_filmCount 0 0 0 → (M' r_m_areLeft 0 0 f ≠ 0 ↔ zTd c f = true) := fun x hx => by
          refine iht (k + 1) _ (by omega) (by omega) (fun r hr => ?_) (fun f f0 f1 => ?_)
          · rw [← fm r hr]
            funext a b d
            exact e_un hr
          · rw [e_ur]
            by_cases e : f = k
            · rw [if_pos ⟨rfl, rfl, e⟩, e]
              exact hx
            · rw [if_neg (fun z => e z.2.2)]
              exact hl f f0 (by omega)
        rw [g_m_choose_17, zb_d, if_neg (by omega), q_scoreMany (by omega) (by omega), e_bnd, ht, zb_d, hk]
        by_cases q : zcnt (fun i => decide (0 ≤ c r_Readings_marks_r k 0 i)) (c r_Readings_readerCount 0 0 0).toNat 0 ≤ 0
        · rw [if_pos q, e_nb0]
          refine step 0 ⟨fun z => absurd rfl z, fun z => ?_⟩
          have := of_decide_eq_true z
          omega
        · rw [if_neg q, e_nb1]
          exact step 1 ⟨fun _ => decide_eq_true (by omega), fun _ => by decide⟩
    obtain ⟨M, f1, f2, f3⟩ := first (c r_x_filmCount 0 0 0).toNat 0 (e_upd m r_m_thrown 0 0 0 0) (Int.le_refl _) (by omega) (fun _ _ => rfl) (fun f f0 f1 => by omega)
    rw [f1]
    have kM : ∀ {R : ZS → ZS → Prop} {KC KM : List Nat} {d : ZS}, zRel R KC KM → KM.contains r_m_areLeft = false → R d (e_upd m r_m_thrown 0 0 0 0) → R d M := fun {R KC KM d} hr hq h => hr h (fun _ _ => rfl) (fun r hr' => f2 r (by
      cases e : r == r_m_areLeft with
      | false => rfl
      | true =>
        rw [beq_iff_eq] at e
        rw [e, ← List.contains_iff_mem] at hr'
        rw [hr'] at hq
        cases hq))
    have hV : ∀ f, 0 ≤ f → f < c r_x_filmCount 0 0 0 → zSc C f = zSc c f := fun f f0 f1 => zSc_eq hR hRC f0 f1 (by rw [eN]; exact f1)
    have hO2 : zOrd (fun i => C r_x_order 0 0 i) (fun i => C r_x_weights 0 0 i) (zSc C) (zTd c) n (C r_x_filmCount 0 0 0) := by
      rw [eN]
      obtain ⟨o1, o2, o3⟩ := hO
      refine ⟨fun i i0 i1 => ?_, fun i j i0 ij j1 => ?_, o3⟩
      · obtain ⟨p1, p2, p3, p4⟩ := o1 i i0 i1
        exact ⟨p1, p2, p3, p4.trans (hV _ p1 p2).symm⟩
      · have p1 := o1 i i0 (by omega)
        have p2 := o1 j (by omega) j1
        have e1 := hV _ p1.1 p1.2.1
        have e2 := hV _ p2.1 p2.2.1
        have p3 := o2 i j i0 ij j1
        (try dsimp only at e1 e2 p3 ⊢)
        rw [e1, e2]
        exact p3
    obtain ⟨v, C', M', k1, k2, k3, k4⟩ := q_choose1 (c1 := C) (V := zSc C) (o := fun i => C r_x_order 0 0 i) (w := fun i => C r_x_weights 0 0 i) (p := zTd c) (fun _ => rfl) hs.1 (by omega) hO2 n.toNat 0 0 0 C M (by omega) (Int.le_refl _) (Int.le_refl _) (Int.le_refl _) (Int.le_refl _) (by rw [eS]; exact hs.2) ⟨kM zR_rel (by decide) hRC.thr, kM zFs_rel (by decide) (kC zFs_rel (by decide) hF).thr, kM zWd_rel (by decide) (kC zWd_rel (by decide) hW).thr, kM zSe_rel (by decide) (kC zSe_rel (by decide) hS).thr, kM zTo_rel (by decide) (kC zTo_rel (by decide) hT).thr, kM zAr_rel (by decide) (kC zAr_rel (by decide) hA).thr⟩ (kM zR_rel (by decide) hRC.thr) (fun _ => rfl) (fun _ => rfl) (fun f f0 f1 => by
      rw [eN] at f1
      rw [f3 f f0 f1]
      constructor
      · intro z
        obtain ⟨i, i0, i1, i2⟩ := hO.2.2 f f0 f1 z
        exact ⟨i, i0, i1, i2⟩
      · rintro ⟨i, i0, i1, i2⟩
        have := (hO.1 i i0 i1).2.2.1
        (try dsimp only at i2 this)
        rw [i2] at this
        exact this)
    rw [k1, k2]
    refine ⟨0, _, _, _, rfl, rfl, hot k3, ?_, fun _ => e_us⟩
    rw [k4, f2 _ (by decide), e_us]
  · rw [if_neg hs, if_neg hs, e_b_x (by decide) (by decide)]
    simp (decide := true) only [zb_n, zb_d, ↓reduceIte]
    exact ⟨1, 0, _, _, rfl, rfl, ⟨hR.thr, hF.thr, hW.thr, hS.thr, hT.thr, hA.thr⟩, e_us, fun q => absurd q (by decide)⟩
theorem o_minutes {s : Int} {c m : ZS} (hR : zR c m) (hF : zFs c m) (hS : zSe c m) : zBo zFs (f_w_minutes [s] c) (f_m_minutes [s] m) := by
  obtain ⟨⟨d1, d2, d3⟩, -⟩ := id hS
  show zBo zFs (e_try (f_x_minutes [s] c) (fun v1 S1 => ((0, [0]), e_upd S1 r_out 0 0 0 v1)) [(0, 1)]) (f_m_minutes [s] m)
  unfold f_x_minutes f_m_minutes
  dsimp only
  rw [q_section d1 (by omega), q_noSection (by omega) (by omega), d3]
  by_cases hs : 0 ≤ s ∧ s < c r_x_sectionCount 0 0 0
  · obtain ⟨v, e1, e2⟩ := q_minutesIn (hR.thr : zR c (e_upd m r_m_thrown 0 0 0 0)) hF.thr (s := s)
    rw [if_pos hs, if_pos hs, e_b_ok, e1, e_bnd]
    simp (decide := true) only [zb_n, zb_d, ↓reduceIte, Int.reduceEq]
    rw [e2, e_bnd]
    exact ⟨0, _, _, _, rfl, rfl, hF.thr.out, e_us, fun _ => e_us⟩
  · rw [if_neg hs, if_neg hs, e_b_x (by decide) (by decide)]
    simp (decide := true) only [zb_n, zb_d, ↓reduceIte]
    exact ⟨1, 0, _, _, rfl, rfl, hF.thr, e_us, fun q => absurd q (by decide)⟩
theorem o_sectionOf {f : Int} {c m : ZS} (hR : zR c m) (hS : zFs c m) : zBo zFs (f_w_sectionOf [f] c) (f_m_sectionOf [f] m) := by
  obtain ⟨k, v, c', m', e1, e2, h1, h2, h3⟩ := oB_sectionOf (show zAnd zR zFs c m from ⟨hR, hS⟩)
  exact ⟨k, v, c', m', e1, e2, h1.2, h2, h3⟩
theorem o_rival {f w : Int} {c m : ZS} (hR : zR c m) (hS : zFs c m) : zBo zFs (f_w_rival [f, w] c) (f_m_rival [f, w] m) := by
  obtain ⟨k, v, c', m', e1, e2, h1, h2, h3⟩ := oB_rival (show zAnd zR zFs c m from ⟨hR, hS⟩)
  exact ⟨k, v, c', m', e1, e2, h1.2, h2, h3⟩
theorem o_giveUp {f : Int} {c m : ZS} (hR : zR c m) (hS : zFs c m) (hA : zAr c m) : zBo (zAnd zFs zAr) (f_w_giveUp [f] c) (f_m_giveUp [f] m) := by
  obtain ⟨⟨a1, a2, a3⟩, -⟩ := id hR
  show zBo _ (e_try (f_x_giveUp [f] c) (fun v1 S1 => ((0, [0]), e_upd S1 r_out 0 0 0 v1)) [(0, 1), (3, 2)]) _
  unfold f_x_giveUp f_m_giveUp
  dsimp only
  rw [q_film a1 (by omega), q_noFilm (by omega) (by omega), a3]
  by_cases hf : 0 ≤ f ∧ f < c r_x_filmCount 0 0 0
  · have e4 := (hS.2.2 f hf.1 (by omega)).1
    rw [if_pos hf, if_pos hf, e_b_ok]
    simp only [zb_n, zb_d, e4]
    by_cases q : c r_Film_promise f 0 0 = 0
    · simp (decide := true) only [q, ↓reduceIte]
      exact ⟨2, 32, _, _, rfl, rfl, ⟨hS.thr.thr, hA.thr.thr⟩, e_us, fun q => absurd q (by decide)⟩
    · simp (decide := true) only [q, ↓reduceIte]
      rw [q_zcA, q_zmA, e_bnd0, e_bnd0]
      refine ⟨0, _, _, _, rfl, rfl, ⟨?_, zAr.out (zAr.add (zAr_rel.uc (zAr_rel.um hA.thr.thr (by decide)) (by decide)))⟩, ?_, fun _ => ?_⟩
      · refine zFs.out (zFs_rel.zcA (by decide) (zFs_rel.zmA (by decide) ?_))
        obtain ⟨s1, s2, s3⟩ := hS
        refine ⟨fun g g0 g1 => ?_, fun g g0 g1 => ?_, fun g g0 g1 => ?_⟩
        · simp (decide := true) only [e_un] at g1 ⊢
          exact s1 g g0 g1
        · simp (decide := true) only [e_un] at g0 ⊢
          exact s2 g g0 g1
        · simp (decide := true) only [e_un, e_ur]
          by_cases w : g = f
          · simp (decide := true) only [w, and_self, ↓reduceIte, true_and]
            exact (s3 f hf.1 (by omega)).2
          · simp only [w, and_false, false_and, ↓reduceIte]
            exact s3 g g0 g1
      · rw [zmA_o (by decide)]
        simp (decide := true) only [e_un, e_us]
      · rw [e_us]
        rfl
  · rw [if_neg hf, if_neg hf, e_b_x (by decide) (by decide)]
    simp (decide := true) only [zb_n, zb_d, ↓reduceIte]
    exact ⟨1, 32, _, _, rfl, rfl, ⟨hS.thr, hA.thr⟩, e_us, fun q => absurd q (by decide)⟩
theorem o_isBroken {f : Int} {c m : ZS} (hR : zR c m) (hS : zFs c m) : zBo zFs (f_w_isBroken [f] c) (f_m_isBroken [f] m) := by
  obtain ⟨⟨a1, a2, a3⟩, -⟩ := id hR
  show zBo _ (e_try (f_x_isBroken [f] c) (fun v1 S1 => (bif decide (v1 = 0) then ((0, [0]), (e_upd S1 r_out 0 0 0 0)) else ((0, [0]), (e_upd S1 r_out 0 0 0 1)))) [(0, 1)]) _
  unfold f_x_isBroken f_m_isBroken v_Film_breaksPromise
  dsimp only
  rw [q_film a1 (by omega), q_noFilm (by omega) (by omega), a3]
  by_cases hf : 0 ≤ f ∧ f < c r_x_filmCount 0 0 0
  · have e3 := (hS.1 f hf.1 hf.2).2.2.1
    have e4 := (hS.2.2 f hf.1 (by omega)).1
    rw [if_pos hf, if_pos hf, e_b_ok]
    simp only [zb_n, zb_d, e3, e4]
    by_cases q : c r_Film_promise f 0 0 ≤ c r_Film_stillIs f 0 0
    · simp (decide := true) only [if_pos q, ↓reduceIte, Int.reduceEq]
      exact ⟨0, _, _, _, rfl, rfl, hS.thr.out, e_us, fun _ => e_us⟩
    · simp (decide := true) only [if_neg q, ↓reduceIte, Int.reduceEq]
      exact ⟨0, _, _, _, rfl, rfl, hS.thr.out, e_us, fun _ => e_us⟩
  · rw [if_neg hf, if_neg hf, e_b_x (by decide) (by decide)]
    simp (decide := true) only [zb_n, zb_d, ↓reduceIte]
    exact ⟨1, 0, _, _, rfl, rfl, hS.thr, e_us, fun q => absurd q (by decide)⟩
theorem b_isBroken {a v : Int} {S S2 : ZS} (h : f_m_isBroken [a] S = ((0, [v]), S2)) : v = 0 ∨ v = 1 := by
  unfold f_m_isBroken at h
  dsimp only at h
  exact e_bool h e_bool0 (fun h => e_bool h e_bool0 e_bool1)
