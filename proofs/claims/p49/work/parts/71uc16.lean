/-! part 71uc16 -/
section
/-! Screens, prints, keys, hours, passes; what is asked of the grid: both sides -/
theorem o_screen {n b : Int} {c m : ZS} (hb : zbit b) (h : zVe c m) : zBo zVe (f_w_screen [n, b] c) (f_m_screen [n, b] m) := by
  obtain ⟨⟨v0, v1, v2⟩, sg, ⟨k0, k1, k2⟩, ky⟩ := id h
  show zBo zVe (e_try (f_x_screen [n, b] c) (fun v1 S1 => ((0, [0]), e_upd S1 r_out 0 0 0 v1)) [(1, 1), (2, 2)]) (f_m_screen [n, b] m)
  have hw : e_wr (c r_Venue_screenCount 0 0 0 + 1) = c r_Venue_screenCount 0 0 0 + 1 := e_wr_id (by omega) (by omega)
  have hw2 : e_wr (c r_Venue_screenCount 0 0 0 + 1 - 1) = c r_Venue_screenCount 0 0 0 := by rw [e_wr_id (by omega) (by omega), Int.add_sub_cancel]
  have hnb : e_nar 1 b = b := by
    rcases hb with rfl | rfl
    · exact e_nb0
    · exact e_nb1
  unfold f_x_screen f_m_screen f_Venue_addScreen
  dsimp only
  simp only [zb_n, zb_d, q_within, q_isIn, v2, e_bnd, hnb]
  by_cases hn : 1 ≤ n ∧ n ≤ 9
  · by_cases hs : c r_Venue_screenCount 0 0 0 = 4
    · simp (decide := true) only [if_pos hn, if_pos hs, if_neg (show ¬ c r_Venue_screenCount 0 0 0 < 4 by omega), ↓reduceIte, Int.reduceEq]
      exact ⟨2, 0, _, _, rfl, rfl, h.thr.thr, e_us, fun q => absurd q (by decide)⟩
    · simp (decide := true) only [if_pos hn, if_neg hs, if_pos (show c r_Venue_screenCount 0 0 0 < 4 by omega), ↓reduceIte, Int.reduceEq, e_us, hw, hw2]
      refine ⟨0, _, _, _, rfl, rfl, zVe.out ⟨?_, fun s s0 s1 => ?_, ?_, ?_⟩, by simp (decide := true) only [e_un, e_us], fun _ => e_us⟩
      · simp (decide := true) only [e_us]
        exact ⟨by omega, by omega, trivial⟩
      · simp (decide := true) only [e_un, e_ur]
        obtain ⟨a1, a2, a3⟩ := sg s s0 s1
        by_cases q : s = c r_Venue_screenCount 0 0 0
        · simp (decide := true) only [q, and_self, ↓reduceIte, true_and]
          exact hb
        · simp only [q, and_false, false_and, ↓reduceIte]
          exact ⟨a1, a2, a3⟩
      · simp (decide := true) only [e_un]
        exact ⟨k0, k1, k2⟩
      · simp (decide := true) only [e_un]
        exact ky
  · simp (decide := true) only [if_neg hn, ↓reduceIte]
    exact ⟨1, 0, _, _, rfl, rfl, h.thr, e_us, fun q => absurd q (by decide)⟩
theorem o_go {n : Int} {c m : ZS} (h : zHr c m) (hT : zTo c m) : zBo (zAnd zHr zTo) (f_w_go [n] c) (f_m_go [n] m) := by
  obtain ⟨h0, h1, h2⟩ := id h
  show zBo _ (e_try (f_x_go [n] c) (fun v1 S1 => ((0, [0]), e_upd S1 r_out 0 0 0 v1)) [(1, 1), (2, 2)]) (f_m_go [n] m)
  unfold f_x_go f_m_go
  dsimp only
  simp only [zb_n, zb_d, q_within, q_isIn, h2, e_us]
  by_cases hn : 1 ≤ n ∧ n ≤ 50
  · have hw : e_wr (c r_Grid_hour 0 0 0 + n) = c r_Grid_hour 0 0 0 + n := e_wr_id (by omega) (by omega)
    by_cases hs : c r_Grid_hour 0 0 0 + n ≤ 50
    · simp (decide := true) only [if_pos hn, hw, if_pos hs, ↓reduceIte, Int.reduceEq]
      refine ⟨0, _, _, _, rfl, rfl, ⟨zHr.out ?_, zTo.out ?_⟩, by simp (decide := true) only [e_un, e_us], fun _ => e_us⟩
      · unfold zHr
        simp (decide := true) only [e_us]
        exact ⟨by omega, by omega, trivial⟩
      · refine zTo_rel.um ?_ (by decide)
        obtain ⟨tA, tB, tC⟩ := hT
        refine ⟨fun i i0 i1 z1 z2 => ?_, fun i i0 i1 => ?_, fun i j i0 ij j1 => ?_⟩
        · simp (decide := true) only [e_un, e_us] at i1 z1 z2 ⊢
          exact tA i i0 i1 z1 (by omega)
        · simp (decide := true) only [e_un] at i1 ⊢
          exact tB i i0 i1
        · simp (decide := true) only [e_un] at j1 ⊢
          exact tC i j i0 ij j1
    · simp (decide := true) only [if_pos hn, hw, if_neg hs, ↓reduceIte, Int.reduceEq]
      exact ⟨2, 0, _, _, rfl, rfl, ⟨h.thr.thr, hT.thr.thr⟩, e_us, fun q => absurd q (by decide)⟩
  · simp (decide := true) only [if_neg hn, ↓reduceIte]
    exact ⟨1, 0, _, _, rfl, rfl, ⟨h.thr, hT.thr⟩, e_us, fun q => absurd q (by decide)⟩
theorem o_pass {n : Int} {c m : ZS} (h : zPa c m) : zBo zPa (f_w_pass [n] c) (f_m_pass [n] m) := by
  obtain ⟨⟨v0, v1, v2⟩, rk⟩ := id h
  show zBo zPa (e_try (f_x_pass [n] c) (fun v1 S1 => ((0, [0]), e_upd S1 r_out 0 0 0 v1)) [(1, 1), (2, 2)]) (f_m_pass [n] m)
  have hw : e_wr (c r_Passes_passCount 0 0 0 + 1) = c r_Passes_passCount 0 0 0 + 1 := e_wr_id (by omega) (by omega)
  have hw2 : e_wr (c r_Passes_passCount 0 0 0 + 1 - 1) = c r_Passes_passCount 0 0 0 := by rw [e_wr_id (by omega) (by omega), Int.add_sub_cancel]
  unfold f_x_pass f_m_pass f_Passes_addPass
  dsimp only
  simp only [zb_n, zb_d, q_within, q_isIn, v2, e_bnd]
  by_cases hn : 0 ≤ n ∧ n ≤ 3
  · by_cases hs : c r_Passes_passCount 0 0 0 = 16
    · simp (decide := true) only [if_pos hn, if_pos hs, if_neg (show ¬ c r_Passes_passCount 0 0 0 < 16 by omega), ↓reduceIte, Int.reduceEq]
      exact ⟨2, 0, _, _, rfl, rfl, h.thr.thr, e_us, fun q => absurd q (by decide)⟩
    · simp (decide := true) only [if_pos hn, if_neg hs, if_pos (show c r_Passes_passCount 0 0 0 < 16 by omega), ↓reduceIte, Int.reduceEq, e_us, hw, hw2]
      refine ⟨0, _, _, _, rfl, rfl, zPa.out ⟨?_, fun s s0 s1 => ?_⟩, by simp (decide := true) only [e_un, e_us], fun _ => e_us⟩
      · simp (decide := true) only [e_us]
        exact ⟨by omega, by omega, trivial⟩
      · simp (decide := true) only [e_un, e_ur]
        rw [rk s s0 s1]
  · simp (decide := true) only [if_neg hn, ↓reduceIte]
    exact ⟨1, 0, _, _, rfl, rfl, h.thr, e_us, fun q => absurd q (by decide)⟩
theorem o_print {f k x : Int} {c m : ZS} (hR : zR c m) (hk : zPk c m) (hp : zPh c m) : zBo (zAnd zPk zPh) (f_w_print [f, k, x] c) (f_m_print [f, k, x] m) := by
  obtain ⟨⟨a1, a2, a3⟩, -⟩ := id hR
  show zBo _ (e_try (f_x_print [f, k, x] c) (fun v1 S1 => (bif decide (v1 = 0) then ((0, [0]), (e_upd S1 r_out 0 0 0 0)) else ((0, [0]), (e_upd S1 r_out 0 0 0 1)))) [(0, 1), (1, 2)]) (f_m_print [f, k, x] m)
  unfold f_x_print f_m_print
  dsimp only
  rw [q_film a1 (by omega), q_noFilm (by omega) (by omega), a3]
  by_cases hf : 0 ≤ f ∧ f < c r_x_filmCount 0 0 0
  · rw [if_pos hf, if_pos hf, e_b_ok]
    simp (decide := true) only [zb_n, zb_d, q_isHour, q_hour, ↓reduceIte, Int.reduceEq]
    have hkf := hk f hf.1 (by omega)
    have main : (k = 114 ∨ k = 100) → ∀ v, (v = 0 ∨ v = 1) → zBo (zAnd zPk zPh) (e_try ((0, [v]), e_upd (e_upd c r_Film_kind f 0 0 k) r_Film_comes f 0 0 x) (fun v1 S1 => (bif decide (v1 = 0) then ((0, [0]), (e_upd S1 r_out 0 0 0 0)) else ((0, [0]), (e_upd S1 r_out 0 0 0 1)))) [(0, 1), (1, 2)]) ((0, [v]), e_upd (e_upd (e_upd (e_upd m r_m_thrown 0 0 0 0) r_m_thrown 0 0 0 0) r_m_prints 0 0 f (e_nar 2 k)) r_m_printHours 0 0 f x) := fun q v hv => by
      have hkk : e_nar 2 k = k := e_nc (by omega) (by omega)
      have hA : zPk (e_upd (e_upd c r_Film_kind f 0 0 k) r_Film_comes f 0 0 x) (e_upd (e_upd (e_upd (e_upd m r_m_thrown 0 0 0 0) r_m_thrown 0 0 0 0) r_m_prints 0 0 f (e_nar 2 k)) r_m_printHours 0 0 f x) := fun g g0 g1 => by
        simp (decide := true) only [e_un, e_ur, hkk]
        by_cases w : g = f
        · simp (decide := true) only [w, and_self, ↓reduceIte]
          exact Or.inr ⟨q, trivial⟩
        · simp only [w, and_false, false_and, ↓reduceIte]
          exact hk g g0 g1
      have hB : zPh (e_upd (e_upd c r_Film_kind f 0 0 k) r_Film_comes f 0 0 x) (e_upd (e_upd (e_upd (e_upd m r_m_thrown 0 0 0 0) r_m_thrown 0 0 0 0) r_m_prints 0 0 f (e_nar 2 k)) r_m_printHours 0 0 f x) := fun g g0 g1 => by
        simp (decide := true) only [e_un, e_ur]
        by_cases w : g = f
        · simp (decide := true) only [w, and_self, ↓reduceIte]
        · simp only [w, and_false, false_and, ↓reduceIte]
          exact hp g g0 g1
      rcases hv with rfl | rfl
      · exact ⟨0, _, _, _, rfl, rfl, ⟨hA.out, hB.out⟩, by simp (decide := true) only [e_un, e_us], fun _ => e_us⟩
      · exact ⟨0, _, _, _, rfl, rfl, ⟨hA.out, hB.out⟩, by simp (decide := true) only [e_un, e_us], fun _ => e_us⟩
    have hbad : zBo (zAnd zPk zPh) (e_try ((2, []), c) (fun v1 S1 => (bif decide (v1 = 0) then ((0, [0]), (e_upd S1 r_out 0 0 0 0)) else ((0, [0]), (e_upd S1 r_out 0 0 0 1)))) [(0, 1), (1, 2)]) ((0, [0]), e_upd (e_upd m r_m_thrown 0 0 0 0) r_m_thrown 0 0 0 2) := ⟨2, 0, _, _, rfl, rfl, ⟨hk.thr.thr, hp.thr.thr⟩, e_us, fun q => absurd q (by decide)⟩
    have hb : ∀ K, zBo (zAnd zPk zPh) (e_try (e_bind ((2, []), c) K) (fun v1 S1 => (bif decide (v1 = 0) then ((0, [0]), (e_upd S1 r_out 0 0 0 0)) else ((0, [0]), (e_upd S1 r_out 0 0 0 1)))) [(0, 1), (1, 2)]) ((0, [0]), e_upd (e_upd m r_m_thrown 0 0 0 0) r_m_thrown 0 0 0 2) := fun K => hbad
    by_cases q1 : k = 114
    · have m1 := main (Or.inl q1)
      subst q1
      by_cases hx : 0 ≤ x ∧ x ≤ 49
      · simp (decide := true) only [if_pos hx, ↓reduceIte, Int.reduceEq, e_b_ok]
        rcases hkf with ⟨w1, w2⟩ | ⟨w1, w2⟩
        · simp (decide := true) only [w1, w2, ↓reduceIte]
          exact m1 0 (Or.inl rfl)
        · rw [if_neg (by omega), if_neg (by omega)]
          exact m1 1 (Or.inr rfl)
      · simp (decide := true) only [if_neg hx, ↓reduceIte, Int.reduceEq]
        exact hb _
    · by_cases q2 : k = 100
      · have m1 := main (Or.inr q2)
        subst q2
        by_cases hx : 0 ≤ x ∧ x ≤ 49
        · simp (decide := true) only [if_pos hx, ↓reduceIte, Int.reduceEq, e_b_ok]
          rcases hkf with ⟨w1, w2⟩ | ⟨w1, w2⟩
          · simp (decide := true) only [w1, w2, ↓reduceIte]
            exact m1 0 (Or.inl rfl)
          · rw [if_neg (by omega), if_neg (by omega)]
            exact m1 1 (Or.inr rfl)
        · simp (decide := true) only [if_neg hx, ↓reduceIte, Int.reduceEq]
          exact hb _
      · simp (decide := true) only [if_neg q1, if_neg q2]
        exact hbad
  · rw [if_neg hf, if_neg hf, e_b_x (by decide) (by decide)]
    simp (decide := true) only [zb_n, zb_d, ↓reduceIte]
    exact ⟨1, 0, _, _, rfl, rfl, ⟨hk.thr, hp.thr⟩, e_us, fun q => absurd q (by decide)⟩
theorem o_key {f s x y : Int} {c m : ZS} (hR : zR c m) (h : zVe c m) : zBo zVe (f_w_key [f, s, x, y] c) (f_m_key [f, s, x, y] m) := by
  obtain ⟨⟨a1, a2, a3⟩, -⟩ := id hR
  obtain ⟨⟨v0, v1, v2⟩, sg, ⟨k0, k1, k2⟩, ky⟩ := id h
  show zBo zVe (e_try (f_x_key [f, s, x, y] c) (fun v1 S1 => ((0, [0]), e_upd S1 r_out 0 0 0 v1)) [(0, 1), (1, 2), (2, 3)]) (f_m_key [f, s, x, y] m)
  have hw : e_wr (c r_Venue_keyCount 0 0 0 + 1) = c r_Venue_keyCount 0 0 0 + 1 := e_wr_id (by omega) (by omega)
  unfold f_x_key f_m_key f_Venue_addKey
  dsimp only
  rw [q_film a1 (by omega), q_noFilm (by omega) (by omega), q_noScreen (by omega) (by omega), a3, v2]
  by_cases hf : 0 ≤ f ∧ f < c r_x_filmCount 0 0 0
  · rw [if_pos hf, if_pos hf, e_b_ok, q_screen v0 (by omega)]
    by_cases hs : 0 ≤ s ∧ s < c r_Venue_screenCount 0 0 0
    · rw [if_pos hs, if_pos hs, e_b_ok, q_hour]
      simp (decide := true) only [zb_n, zb_d, q_isHour, q_isIn, ↓reduceIte, Int.reduceEq, k2]
      by_cases hx : 0 ≤ x ∧ x ≤ 49
      · simp (decide := true) only [if_pos hx, ↓reduceIte, e_b_ok, q_hour]
        by_cases hy : x ≤ y ∧ y ≤ 49
        · simp (decide := true) only [if_pos hy, if_pos hy.1, if_pos (show 0 ≤ y ∧ y ≤ 49 by omega), ↓reduceIte, e_b_ok]
          by_cases hn : c r_Venue_keyCount 0 0 0 = 60
          · simp (decide := true) only [if_pos hn, if_neg (show ¬ c r_Venue_keyCount 0 0 0 < 60 by omega)]
            exact ⟨3, 0, _, _, rfl, rfl, h.thr.thr.thr, e_us, fun q => absurd q (by decide)⟩
          · simp (decide := true) only [if_neg hn, if_pos (show c r_Venue_keyCount 0 0 0 < 60 by omega), e_bnd, e_us, e_un, e_an, k2, hw]
            refine ⟨0, _, _, _, rfl, rfl, zVe.out ⟨?_, ?_, ?_, fun k x0 x1 => ?_⟩, by simp (decide := true) only [e_un, e_us, e_an], fun _ => e_us⟩
            · simp (decide := true) only [e_un, e_an]
              exact ⟨v0, v1, v2⟩
            · simp (decide := true) only [e_un, e_an]
              exact sg
            · simp (decide := true) only [e_us]
              exact ⟨by omega, by omega, trivial⟩
            · simp (decide := true) only [e_us] at x1
              simp (decide := true) only [e_un, e_ur]
              by_cases q : k = c r_Venue_keyCount 0 0 0
              · subst q
                simp (decide := true) only [e_as, e_us, e_un, e_ur, ↓reduceIte, Int.sub_zero, Int.add_zero, Int.reduceEq, and_self, and_true, true_and, Int.reduceLE, Int.reduceLT, Int.reduceAdd]
              · have hq : ∀ {S : ZS} {z : Int}, e_acp S r_new (m z_rA 0 0 0) 0 0 r_m_keys_r (c r_Venue_keyCount 0 0 0) 0 0 4 r_m_keys_r k 0 z = S r_m_keys_r k 0 z := fun {S z} => if_neg (fun w => q w.2.1)
                simp (decide := true) only [hq, e_un, q, and_false, false_and, ↓reduceIte]
                exact ky k x0 (by omega)
        · by_cases hy2 : 0 ≤ y ∧ y ≤ 49
          · simp (decide := true) only [if_neg hy, if_pos hy2, if_neg (show ¬ x ≤ y by omega), ↓reduceIte, e_b_ok]
            exact ⟨2, 0, _, _, rfl, rfl, h.thr.thr, e_us, fun q => absurd q (by decide)⟩
          · simp (decide := true) only [if_neg hy, if_neg hy2, ↓reduceIte]
            exact ⟨2, 0, _, _, rfl, rfl, h.thr.thr, e_us, fun q => absurd q (by decide)⟩
      · simp (decide := true) only [if_neg hx, ↓reduceIte]
        exact ⟨2, 0, _, _, rfl, rfl, h.thr.thr, e_us, fun q => absurd q (by decide)⟩
    · rw [if_neg hs, if_neg hs, e_b_x (by decide) (by decide)]
      simp (decide := true) only [zb_n, zb_d, ↓reduceIte]
      exact ⟨1, 0, _, _, rfl, rfl, h.thr, e_us, fun q => absurd q (by decide)⟩
  · rw [if_neg hf, if_neg hf, e_b_x (by decide) (by decide)]
    simp (decide := true) only [zb_n, zb_d, ↓reduceIte]
    exact ⟨1, 0, _, _, rfl, rfl, h.thr, e_us, fun q => absurd q (by decide)⟩
theorem o_canShow {f s x : Int} {c m : ZS} (hR : zR c m) (hv : zVe c m) (hk : zPk c m) (hp : zPh c m) : zBo zPk (f_w_canShow [f, s, x] c) (f_m_canShow [f, s, x] m) := by
  obtain ⟨⟨a1, a2, a3⟩, -⟩ := id hR
  obtain ⟨⟨v0, v1, v2⟩, -⟩ := id hv
  show zBo zPk (e_try (f_x_canShow [f, s, x] c) (fun v1 S1 => (bif decide (v1 = 0) then ((0, [0]), (e_upd S1 r_out 0 0 0 0)) else ((0, [0]), (e_upd S1 r_out 0 0 0 1)))) [(0, 1), (1, 2)]) (f_m_canShow [f, s, x] m)
  unfold f_x_canShow f_m_canShow
  dsimp only
  rw [q_film a1 (by omega), q_noFilm (by omega) (by omega), q_noScreen (by omega) (by omega), a3, v2]
  by_cases hf : 0 ≤ f ∧ f < c r_x_filmCount 0 0 0
  · rw [if_pos hf, if_pos hf, e_b_ok, q_screen v0 (by omega)]
    by_cases hs : 0 ≤ s ∧ s < c r_Venue_screenCount 0 0 0
    · rw [if_pos hs, if_pos hs, e_b_ok, q_hour]
      simp (decide := true) only [zb_n, zb_d, q_isHour, ↓reduceIte, Int.reduceEq]
      by_cases hx : 0 ≤ x ∧ x ≤ 49
      · rw [if_pos hx, if_pos hx, e_b_ok, q_canRun hv hs.1 (by omega), q_canShowNow hv.thr.thr hk.thr.thr hf.1 (by omega) hs.1 (by omega), e_bnd, e_bnd]
        have hpf := hp f hf.1 (by omega)
        simp (decide := true) only [e_un, hpf]
        cases zcan c f s x (c r_Film_comes f 0 0)
        · exact ⟨0, _, _, _, rfl, rfl, hk.thr.thr.out, e_us, fun _ => e_us⟩
        · exact ⟨0, _, _, _, rfl, rfl, hk.thr.thr.out, e_us, fun _ => e_us⟩
      · rw [if_neg hx, if_neg hx, e_b_x (by decide) (by decide)]
        exact ⟨2, 0, _, _, rfl, rfl, hk.thr.thr, e_us, fun q => absurd q (by decide)⟩
    · rw [if_neg hs, if_neg hs, e_b_x (by decide) (by decide)]
      simp (decide := true) only [zb_n, zb_d, ↓reduceIte]
      exact ⟨1, 0, _, _, rfl, rfl, hk.thr, e_us, fun q => absurd q (by decide)⟩
  · rw [if_neg hf, if_neg hf, e_b_x (by decide) (by decide)]
    simp (decide := true) only [zb_n, zb_d, ↓reduceIte]
    exact ⟨1, 0, _, _, rfl, rfl, hk.thr, e_us, fun q => absurd q (by decide)⟩
theorem b_canShow {a b d v : Int} {S S2 : ZS} (h : f_m_canShow [a, b, d] S = ((0, [v]), S2)) : v = 0 ∨ v = 1 := by
  unfold f_m_canShow at h
  dsimp only at h
  exact e_bool h e_bool0 (fun h => e_bool h (fun h => e_bool h (fun h => e_bool (e_bind_ok h).2 e_bool0 e_bool1) e_bool0) e_bool0)
theorem o_state {s : Int} {c m : ZS} (h : zSw c m) (hf : zFs c m) (hh : zHr c m) : zBo zHr (f_w_state [s] c) (f_m_state [s] m) := by
  obtain ⟨⟨n0, n1, n2⟩, -⟩ := id h
  show zBo zHr (e_try (f_x_state [s] c) (fun v1 S1 => ((0, [0]), e_upd S1 r_out 0 0 0 v1)) [(0, 1)]) (f_m_state [s] m)
  unfold f_x_state f_m_state
  dsimp only
  rw [q_show n0 (by omega), q_noShow (by omega) (by omega), n2]
  by_cases hs : 0 ≤ s ∧ s < c r_Grid_showCount 0 0 0
  · have e := (q_state h.thr hf.thr hh.thr hs.1 hs.2 (m := e_upd m r_m_thrown 0 0 0 0)).1
    rw [if_pos hs, if_pos hs, e_b_ok]
    simp (decide := true) only [zb_n, zb_d, ↓reduceIte, Int.reduceEq, e]
    exact ⟨0, _, _, _, rfl, rfl, hh.thr.out, e_us, fun _ => e_us⟩
  · rw [if_neg hs, if_neg hs, e_b_x (by decide) (by decide)]
    simp (decide := true) only [zb_n, zb_d, ↓reduceIte]
    exact ⟨1, 32, _, _, rfl, rfl, hh.thr, e_us, fun q => absurd q (by decide)⟩
theorem o_of {s x : Int} {c m : ZS} (h : zSw c m) (hf : zFs c m) : zBo zSw (f_w_of [s, x] c) (f_m_of [s, x] m) := by
  obtain ⟨⟨n0, n1, n2⟩, -⟩ := id h
  show zBo zSw (e_try (f_x_of [s, x] c) (fun v1 S1 => ((0, [0]), e_upd S1 r_out 0 0 0 v1)) [(0, 1), (1, 2)]) (f_m_of [s, x] m)
  unfold f_x_of f_m_of
  dsimp only
  rw [q_show n0 (by omega), q_noShow (by omega) (by omega), n2]
  by_cases hs : 0 ≤ s ∧ s < c r_Grid_showCount 0 0 0
  · obtain ⟨e1, e2, e3, e4, e5⟩ := (h.thr.thr (z := 0) : zSw c (e_upd (e_upd m r_m_thrown 0 0 0 0) r_m_thrown 0 0 0 0)).row hf.thr.thr hs.1 hs.2
    simp (decide := true) only [e_un] at e1 e2 e3 e5
    rw [e1] at e5
    rw [if_pos hs, if_pos hs, e_b_ok]
    simp (decide := true) only [zb_n, zb_d, ↓reduceIte, Int.reduceEq, e1, e2, e3, e4, e5]
    by_cases q1 : x = 102
    · simp (decide := true) only [q1, ↓reduceIte]
      exact ⟨0, _, _, _, rfl, rfl, h.thr.thr.out, e_us, fun _ => e_us⟩
    · by_cases q2 : x = 115
      · simp (decide := true) only [q2, ↓reduceIte]
        exact ⟨0, _, _, _, rfl, rfl, h.thr.thr.out, e_us, fun _ => e_us⟩
      · by_cases q3 : x = 104
        · simp (decide := true) only [q3, ↓reduceIte]
          exact ⟨0, _, _, _, rfl, rfl, h.thr.thr.out, e_us, fun _ => e_us⟩
        · by_cases q4 : x = 108
          · simp (decide := true) only [q4, ↓reduceIte]
            exact ⟨0, _, _, _, rfl, rfl, h.thr.thr.out, e_us, fun _ => e_us⟩
          · simp (decide := true) only [if_neg q1, if_neg q2, if_neg q3, if_neg q4]
            exact ⟨2, 0, _, _, rfl, rfl, h.thr.thr, e_us, fun q => absurd q (by decide)⟩
  · rw [if_neg hs, if_neg hs, e_b_x (by decide) (by decide)]
    simp (decide := true) only [zb_n, zb_d, ↓reduceIte]
    exact ⟨1, 0, _, _, rfl, rfl, h.thr, e_us, fun q => absurd q (by decide)⟩
def zat (c : ZS) (s x k : Int) : Bool := decide (c r_Show_screen k 0 0 = s) && zin c k x 1
theorem o_at {s x : Int} {c m : ZS} (hv : zVe c m) (h : zSw c m) (hf : zFs c m) (hT : zTo c m) : zBo zSw (f_w_at [s, x] c) (f_m_at [s, x] m) := by
  obtain ⟨⟨v0, v1, v2⟩, -⟩ := id hv
  obtain ⟨⟨n0, n1, n2⟩, sw, -⟩ := id h
  show zBo zSw (e_try (f_x_at [s, x] c) (fun v1 S1 => ((0, [0]), e_upd S1 r_out 0 0 0 v1)) [(0, 1), (1, 2), (4, 3)]) (g_m_at ((1000, [s, x]), m))
  rw [g_m_at_0, q_noScreen (by omega) (by omega), v2]
  unfold f_x_at
  dsimp only
  rw [q_screen v0 (by omega)]
  by_cases hs : 0 ≤ s ∧ s < c r_Venue_screenCount 0 0 0
  · rw [if_pos hs, if_pos hs, e_b_ok, q_hour]
    simp (decide := true) only [zb_n, zb_d, q_isHour, ↓reduceIte, Int.reduceEq]
    by_cases hx : 0 ≤ x ∧ x ≤ 49
    · rw [if_pos hx, if_pos hx, e_b_ok]
      have hm1 : zSw c (e_upd (e_upd m r_m_thrown 0 0 0 0) r_m_thrown 0 0 0 0) := h.thr.thr
      have hf1 : zFs c (e_upd (e_upd m r_m_thrown 0 0 0 0) r_m_thrown 0 0 0 0) := hf.thr.thr
      generalize e_upd (e_upd m r_m_thrown 0 0 0 0) r_m_thrown 0 0 0 0 = m1 at hm1 hf1
      have n3 : m1 r_m_shows 0 0 0 = c r_Grid_showCount 0 0 0 := hm1.1.2.2
      have hC : ∀ k, 0 ≤ k → k < c r_Grid_showCount 0 0 0 → g_Grid_showOn ((1002, [s, x, k]), c) = if zat c s x k = true then ((0, [k]), c) else g_Grid_showOn ((1002, [s, x, k + 1]), c) := fun k k0 k1 => by
        have hk : e_wr (k + 1) = k + 1 := e_wr_id (by omega) (by omega)
        rw [g_Grid_showOn_2, zb_d, if_neg (by omega), hk, q_standsIn h k0 k1 hx.1 (by omega) (by decide) (by decide)]
        unfold zat
        simp only [zb_d, zb_n, zb0]
        by_cases q1 : c r_Show_screen k 0 0 = s
        · rw [if_pos q1, decide_eq_true q1, Bool.true_and]
          cases zin c k x 1 <;> rfl
        · rw [if_neg q1, decide_eq_false q1, Bool.false_and, if_neg (by decide)]
      have hM : ∀ k b, 0 ≤ k → k < c r_Grid_showCount 0 0 0 → g_m_at ((1040, [s, x, b, k]), m1) = g_m_at ((1040, [s, x, if zat c s x k = true then k else b, k + 1]), m1) := fun k b k0 k1 => by
        have hk : e_wr (k + 1) = k + 1 := e_wr_id (by omega) (by omega)
        rw [g_m_at_40, zb_d, if_neg (by omega), hk, (hm1.row hf1 k0 k1).2.1, q_hasHour hm1 hf1 k0 k1]
        unfold zat
        simp only [zb_d, zb_n, zb0]
        by_cases q1 : c r_Show_screen k 0 0 = s
        · rw [if_pos q1, decide_eq_true q1, Bool.true_and]
          cases zin c k x 1 <;> rfl
        · rw [if_neg q1, decide_eq_false q1, Bool.false_and, if_neg (by decide)]
      have uniq : ∀ i j, 0 ≤ i → i < j → j < c r_Grid_showCount 0 0 0 → zat c s x i = true → zat c s x j = false := fun i j i0 ij j1 hi => by
        cases hj : zat c s x j with
        | false => rfl
        | true =>
          exfalso
          unfold zat zin at hi hj
          rw [Bool.and_eq_true, decide_eq_true_eq, decide_eq_true_eq] at hi hj
          have li : c r_Show_length i 0 0 = zln c (c r_Show_film i 0 0) := (sw i i0 (by omega)).2.2.2
          have lj : c r_Show_length j 0 0 = zln c (c r_Show_film j 0 0) := (sw j (by omega) j1).2.2.2
          exact (hT.2.2 i j i0 ij j1 hi.2.1 hj.2.1 (by omega) (by omega)).1 (hi.1.trans hj.1.symm)
      have restM : ∀ (t : Nat) (k b : Int), 0 ≤ k → k + t = c r_Grid_showCount 0 0 0 → (∀ i, k ≤ i → i < c r_Grid_showCount 0 0 0 → zat c s x i = false) → g_m_at ((1040, [s, x, b, k]), m1) = g_m_at ((1040, [s, x, b, c r_Grid_showCount 0 0 0]), m1) := by
        intro t
        induction t with
        | zero =>
          intro k b k0 k1 hz
          rw [show k = c r_Grid_showCount 0 0 0 by omega]
        | succ t ih =>
          intro k b k0 k1 hz
          rw [hM k b k0 (by omega), hz k (Int.le_refl _) (by omega), if_neg (by decide)]
          exact ih (k + 1) b (by omega) (by omega) (fun i a d => hz i (by omega) d)
      have endM : ∀ b, g_m_at ((1040, [s, x, b, c r_Grid_showCount 0 0 0]), m1) = if 0 ≤ b then ((0, [b]), e_upd m1 r_m_thrown 0 0 0 0) else ((0, [0]), e_upd m1 r_m_thrown 0 0 0 3) := fun b => by
        rw [g_m_at_40, zb_d, if_pos (by omega), zb_d]
      have key : ∀ (t : Nat) (k : Int), 0 ≤ k → k + t = c r_Grid_showCount 0 0 0 → ∃ v, g_Grid_showOn ((1002, [s, x, k]), c) = ((0, [v]), c) ∧ -1 ≤ v ∧ g_m_at ((1040, [s, x, -1, k]), m1) = if 0 ≤ v then ((0, [v]), e_upd m1 r_m_thrown 0 0 0 0) else ((0, [0]), e_upd m1 r_m_thrown 0 0 0 3) := by
        intro t
        induction t with
        | zero =>
          intro k k0 k1
          refine ⟨-1, ?_, by omega, ?_⟩
          · rw [g_Grid_showOn_2, zb_d, if_pos (by omega)]
          · rw [show k = c r_Grid_showCount 0 0 0 by omega, endM]
        | succ t ih =>
          intro k k0 k1
          rw [hC k k0 (by omega), hM k _ k0 (by omega)]
          cases hz : zat c s x k
          · rw [if_neg (by decide), if_neg (by decide)]
            exact ih (k + 1) (by omega) (by omega)
          · rw [if_pos rfl, if_pos rfl, restM t (k + 1) k (by omega) (by omega) (fun i a d => uniq k i k0 (by omega) d hz), endM]
            exact ⟨k, rfl, by omega, rfl⟩
      obtain ⟨v, e1, e2, e3⟩ := key (c r_Grid_showCount 0 0 0).toNat 0 (Int.le_refl _) (by omega)
      have e1' : f_Grid_showOn [s, x] c = ((0, [v]), c) := by
        show g_Grid_showOn ((1000, [s, x]), c) = _
        rw [g_Grid_showOn_0]
        exact e1
      rw [e1', e_bnd, e3]
      by_cases q : v = -1
      · simp only [q, ↓reduceIte, Int.reduceLE, Int.reduceNeg]
        exact ⟨3, 0, _, _, rfl, rfl, hm1.thr, e_us, fun q => absurd q (by decide)⟩
      · simp only [if_neg q, if_pos (show 0 ≤ v by omega)]
        exact ⟨0, _, _, _, rfl, rfl, hm1.thr.out, e_us, fun _ => e_us⟩
    · rw [if_neg hx, if_neg hx, e_b_x (by decide) (by decide)]
      exact ⟨2, 0, _, _, rfl, rfl, h.thr.thr, e_us, fun q => absurd q (by decide)⟩
  · rw [if_neg hs, if_neg hs, e_b_x (by decide) (by decide)]
    simp (decide := true) only [zb_n, zb_d, ↓reduceIte]
    exact ⟨1, 0, _, _, rfl, rfl, h.thr, e_us, fun q => absurd q (by decide)⟩
end
/-! part 71uc17 -/
section
/-! film beside the grid; the grid's relations at the start -/
theorem s_filmSw {x y z : Int} {c m : ZS} (h : zR c m) (hs : zSw c m) : zSw (f_w_film [x, y, z] c).2 (f_m_film [x, y, z] m).2 := by
  obtain ⟨⟨a1, a2, a3⟩, -⟩ := id h
  rw [q_wfilm a1 a2, q_mfilm (by omega) (by omega), a3]
  split
  · split
    · exact hs.thr.thr
    · rename_i hn
      refine zSw.out ?_
      obtain ⟨s1, s2, s3⟩ := hs
      refine ⟨?_, fun i i0 i1 => ?_, fun i i0 i1 => ?_⟩
      · simp (decide := true) only [e_un, zfl_o]
        exact s1
      · simp (decide := true) only [e_un] at i1
        obtain ⟨⟨b1, b2, b3⟩, b4, b5, b6⟩ := s2 i i0 i1
        simp (decide := true) only [e_un, e_us, e_ur, zfl_o]
        refine ⟨⟨b1, b2, by omega⟩, b4, b5, ?_⟩
        have hne : ¬ (c r_Show_film i 0 0 = c r_x_filmCount 0 0 0) := by omega
        simp only [hne, false_and, ↓reduceIte]
        exact b6
      · simp (decide := true) only [e_un, zfl_o]
        exact s3 i i0 i1
  · exact hs.thr
theorem o_filmG {x y z : Int} {c m : ZS} (h : zR c m) (h2 : zFs c m) (h3 : zSw c m) : zBo (zAnd (zAnd zR zFs) zSw) (f_w_film [x, y, z] c) (f_m_film [x, y, z] m) := ((o_film h).bo.and (s_film h h2)).and (s_filmSw h h3)
/-- a relation that neither call's regions touch -/
theorem zKeep {R : ZS → ZS → Prop} {KC KM : List Nat} (hr : zRel R KC KM) {nv nv' : Nat} {W W' : List Nat} {φ φ' : ZFn} (h : z_kp nv W φ) (h' : z_kp nv' W' φ') {L : List Int} (hL : L.length = nv) (hL' : L.length = nv') {c m c' m' : ZS} {k v : Int} (e1 : φ L c = ((0, [k]), c')) (e2 : φ' L m = ((0, [v]), m')) (hd : z_dis W KC = true) (hd' : z_dis W' KM = true) (hR : R c m) : R c' m' := hr hR (fun r hq => by
  have := h.r hL (S := c) (by rw [e1]) (z_dis_ok hd hq)
  rw [e1] at this
  exact this) (fun r hq => by
  have := h'.r hL' (S := m) (by rw [e2]) (z_dis_ok hd' hq)
  rw [e2] at this
  exact this)
end
/-! part 71uc17b -/
section
/-! Calls without a wrapper: both sides give one value -/
/-- both sides give one value, without exceptions; the relation holds behind -/
def zDi (R : ZS → ZS → Prop) (A B : ZR) : Prop := ∃ (v : Int) (c' m' : ZS), A = ((0, [v]), c') ∧ B = ((0, [v]), m') ∧ R c' m'
theorem zRel.twoD {R : ZS → ZS → Prop} {KC KM : List Nat} (hr : zRel R KC KM) {nv nv' : Nat} {W W' : List Nat} {φ φ' : ZFn} (h : z_kp nv W φ) (h' : z_kp nv' W' φ') {L : List Int} (hL : L.length = nv) (hL' : L.length = nv') {S : ZS} (hR : R S S) (hd : z_dis W KM = true) (hd' : z_dis W' KC = true) (hB : ∀ c m, R c m → zDi R (φ L c) (φ' L m)) : ∃ (v : Int) (S1 S2 : ZS), φ L S = ((0, [v]), S1) ∧ φ' L S1 = ((0, [v]), S2) ∧ R S2 S2 := by
  obtain ⟨v0, c0, m0, e0, -⟩ := hB S S hR
  have hS1 : R S c0 := hr hR (fun _ _ => rfl) (fun r hq => by
    have := h.r hL (S := S) (by rw [e0]) (z_dis_ok hd hq)
    rw [e0] at this
    exact this)
  obtain ⟨v, c', m', e1, e2, h3⟩ := hB S c0 hS1
  rw [e0] at e1
  have e3 : c0 = c' := congrArg Prod.snd e1
  have e4 : v0 = v := by
    have := congrArg Prod.fst e1
    simp only [Prod.mk.injEq, List.cons.injEq, and_true, true_and] at this
    exact this
  subst e3
  subst e4
  exact ⟨v0, c0, m', e0, e2, hr h3 (fun r hq => by
    have := h'.r hL' (S := c0) (by rw [e2]) (z_dis_ok hd' hq)
    rw [e2] at this
    exact this) (fun _ _ => rfl)⟩
end
/-! part 71uc19 -/
section
/-! The relations of the juries -/
def zTy (c m : ZS) : Prop := c r_x_typed_len 0 0 0 = 9 ∧ (0 ≤ c r_x_typedCount 0 0 0 ∧ c r_x_typedCount 0 0 0 ≤ 9 ∧ m r_m_typedMany 0 0 0 = c r_x_typedCount 0 0 0) ∧ ∀ k, 0 ≤ k → k < c r_x_typedCount 0 0 0 → m r_m_typed 0 0 k = c r_x_typed 0 0 k ∧ 0 ≤ c r_x_typed 0 0 k ∧ c r_x_typed 0 0 k < c r_x_filmCount 0 0 0
def zTyC : List Nat := [r_x_typed_len, r_x_typedCount, r_x_typed, r_x_filmCount]
def zTyM : List Nat := [r_m_typedMany, r_m_typed]
theorem zTy_rel : zRel zTy zTyC zTyM := fun {c m c' m'} h hc hm => by
  unfold zTy
  rw [hc r_x_typed_len (by decide), hc r_x_typedCount (by decide), hc r_x_typed (by decide), hc r_x_filmCount (by decide), hm r_m_typedMany (by decide), hm r_m_typed (by decide)]
  exact h
theorem zTy.out {c m : ZS} (h : zTy c m) {z : Int} : zTy (e_upd c r_out 0 0 0 z) m := zTy_rel.uc h (by decide)
theorem zTy.thr {c m : ZS} (h : zTy c m) {z : Int} : zTy c (e_upd m r_m_thrown 0 0 0 z) := zTy_rel.um h (by decide)
def zJu (c m : ZS) : Prop := ∀ s, 0 ≤ s → s < 5 → (0 ≤ c r_Section_jurorCount s 0 0 ∧ c r_Section_jurorCount s 0 0 ≤ 5 ∧ m r_m_jurorMany 0 0 s = c r_Section_jurorCount s 0 0) ∧ ∀ j, 0 ≤ j → j < c r_Section_jurorCount s 0 0 → m r_m_jurorLands_r s 0 j = c r_Juror_land s j 0
def zJuC : List Nat := [r_Section_jurorCount, r_Juror_land]
def zJuM : List Nat := [r_m_jurorMany, r_m_jurorLands_r]
theorem zJu_rel : zRel zJu zJuC zJuM := fun {c m c' m'} h hc hm => by
  unfold zJu
  rw [hc r_Section_jurorCount (by decide), hc r_Juror_land (by decide), hm r_m_jurorMany (by decide), hm r_m_jurorLands_r (by decide)]
  exact h
theorem zJu.out {c m : ZS} (h : zJu c m) {z : Int} : zJu (e_upd c r_out 0 0 0 z) m := zJu_rel.uc h (by decide)
theorem zJu.thr {c m : ZS} (h : zJu c m) {z : Int} : zJu c (e_upd m r_m_thrown 0 0 0 z) := zJu_rel.um h (by decide)
def zSn (c m : ZS) : Prop := ∀ s j f, 0 ≤ s → s < 5 → 0 ≤ j → j < 5 → 0 ≤ f → f < 20 → m r_m_haveSeen_r_r s j f = c r_Juror_hasSeen s j f
def zSnC : List Nat := [r_Juror_hasSeen]
def zSnM : List Nat := [r_m_haveSeen_r_r]
theorem zSn_rel : zRel zSn zSnC zSnM := fun {c m c' m'} h hc hm => by
  unfold zSn
  rw [hc r_Juror_hasSeen (by decide), hm r_m_haveSeen_r_r (by decide)]
  exact h
theorem zSn.out {c m : ZS} (h : zSn c m) {z : Int} : zSn (e_upd c r_out 0 0 0 z) m := zSn_rel.uc h (by decide)
theorem zSn.thr {c m : ZS} (h : zSn c m) {z : Int} : zSn c (e_upd m r_m_thrown 0 0 0 z) := zSn_rel.um h (by decide)
def zSa (c m : ZS) : Prop := ∀ s j, 0 ≤ s → s < 5 → 0 ≤ j → j < 5 → (-1 ≤ c r_Juror_lastHour s j 0 ∧ c r_Juror_lastHour s j 0 ≤ c r_Grid_hour 0 0 0) ∧ (c r_Section_jurorCount s 0 0 ≤ j → c r_Juror_lastHour s j 0 = -1) ∧ (j < c r_Section_jurorCount s 0 0 → (∀ x, c r_Juror_lastHour s j 0 < x → 0 ≤ x → x ≤ 50 → m r_m_sawAt_r_r s j x = -1) ∧ (0 ≤ c r_Juror_lastHour s j 0 → m r_m_sawAt_r_r s j (c r_Juror_lastHour s j 0) = c r_Juror_lastShow s j 0 ∧ 0 ≤ c r_Juror_lastShow s j 0))
def zSaC : List Nat := [r_Juror_lastHour, r_Juror_lastShow, r_Grid_hour, r_Section_jurorCount]
def zSaM : List Nat := [r_m_sawAt_r_r]
theorem zSa_rel : zRel zSa zSaC zSaM := fun {c m c' m'} h hc hm => by
  unfold zSa
  rw [hc r_Juror_lastHour (by decide), hc r_Juror_lastShow (by decide), hc r_Grid_hour (by decide), hc r_Section_jurorCount (by decide), hm r_m_sawAt_r_r (by decide)]
  exact h
theorem zSa.out {c m : ZS} (h : zSa c m) {z : Int} : zSa (e_upd c r_out 0 0 0 z) m := zSa_rel.uc h (by decide)
theorem zSa.thr {c m : ZS} (h : zSa c m) {z : Int} : zSa c (e_upd m r_m_thrown 0 0 0 z) := zSa_rel.um h (by decide)
def zBa (c m : ZS) : Prop := ∀ s j, 0 ≤ s → s < 5 → 0 ≤ j → j < 5 → (0 ≤ c r_Juror_ballotSize s j 0 ∧ c r_Juror_ballotSize s j 0 ≤ 9 ∧ m r_m_ballotMany_r s 0 j = c r_Juror_ballotSize s j 0) ∧ (∀ k, 0 ≤ k → k < c r_Juror_ballotSize s j 0 → m r_m_ballots_r_r s j k = c r_Juror_ballot s j k ∧ 0 ≤ c r_Juror_ballot s j k ∧ c r_Juror_ballot s j k < c r_x_filmCount 0 0 0) ∧ ∀ k l, 0 ≤ k → k < l → l < c r_Juror_ballotSize s j 0 → c r_Juror_ballot s j k ≠ c r_Juror_ballot s j l
def zBaC : List Nat := [r_Juror_ballotSize, r_Juror_ballot, r_x_filmCount]
def zBaM : List Nat := [r_m_ballotMany_r, r_m_ballots_r_r]
theorem zBa_rel : zRel zBa zBaC zBaM := fun {c m c' m'} h hc hm => by
  unfold zBa
  rw [hc r_Juror_ballotSize (by decide), hc r_Juror_ballot (by decide), hc r_x_filmCount (by decide), hm r_m_ballotMany_r (by decide), hm r_m_ballots_r_r (by decide)]
  exact h
theorem zBa.out {c m : ZS} (h : zBa c m) {z : Int} : zBa (e_upd c r_out 0 0 0 z) m := zBa_rel.uc h (by decide)
theorem zBa.thr {c m : ZS} (h : zBa c m) {z : Int} : zBa c (e_upd m r_m_thrown 0 0 0 z) := zBa_rel.um h (by decide)
def zRu (c m : ZS) : Prop := (0 ≤ c r_x_sectionCount 0 0 0 ∧ c r_x_sectionCount 0 0 0 ≤ 5 ∧ m r_m_sectionMany 0 0 0 = c r_x_sectionCount 0 0 0) ∧ ∀ s, 0 ≤ s → s < 5 → (c r_Section_rule s 0 0 = 109 ∨ c r_Section_rule s 0 0 = 98 ∨ c r_Section_rule s 0 0 = 99 ∨ c r_Section_rule s 0 0 = 114) ∧ (s < c r_x_sectionCount 0 0 0 → m r_m_rules 0 0 s = c r_Section_rule s 0 0) ∧ (c r_x_sectionCount 0 0 0 ≤ s → c r_Section_rule s 0 0 = 109)
def zRuC : List Nat := [r_x_sectionCount, r_Section_rule]
def zRuM : List Nat := [r_m_sectionMany, r_m_rules]
theorem zRu_rel : zRel zRu zRuC zRuM := fun {c m c' m'} h hc hm => by
  unfold zRu
  rw [hc r_x_sectionCount (by decide), hc r_Section_rule (by decide), hm r_m_sectionMany (by decide), hm r_m_rules (by decide)]
  exact h
theorem zRu.out {c m : ZS} (h : zRu c m) {z : Int} : zRu (e_upd c r_out 0 0 0 z) m := zRu_rel.uc h (by decide)
theorem zRu.thr {c m : ZS} (h : zRu c m) {z : Int} : zRu c (e_upd m r_m_thrown 0 0 0 z) := zRu_rel.um h (by decide)
def zAw (c m : ZS) : Prop := ∀ s, 0 ≤ s → s < 5 → m r_m_areGiven 0 0 s = c r_Section_isAwarded s 0 0
def zAwC : List Nat := [r_Section_isAwarded]
def zAwM : List Nat := [r_m_areGiven]
theorem zAw_rel : zRel zAw zAwC zAwM := fun {c m c' m'} h hc hm => by
  unfold zAw
  rw [hc r_Section_isAwarded (by decide), hm r_m_areGiven (by decide)]
  exact h
theorem zAw.out {c m : ZS} (h : zAw c m) {z : Int} : zAw (e_upd c r_out 0 0 0 z) m := zAw_rel.uc h (by decide)
theorem zAw.thr {c m : ZS} (h : zAw c m) {z : Int} : zAw c (e_upd m r_m_thrown 0 0 0 z) := zAw_rel.um h (by decide)
end
/-! part 71uc20 -/
section
/-! juror, rule, see, type: both sides -/
theorem q_juror {s j : Int} {S : ZS} (h0 : 0 ≤ S r_Section_jurorCount s 0 0) (h1 : S r_Section_jurorCount s 0 0 ≤ 1000) : f_x_checkJuror [s, j] S = if 0 ≤ j ∧ j < S r_Section_jurorCount s 0 0 then ((0, []), S) else ((1, []), S) := by
  show e_bind (f_x_checkNumber [j, S r_Section_jurorCount s 0 0] S) (fun _ S1 => ((0, []), S1)) = _
  rw [q_num h0 h1, e_b_if]
  rfl
theorem q_noJuror {s j : Int} {S : ZS} (h0 : 0 ≤ S r_m_sectionMany 0 0 0) (h1 : S r_m_sectionMany 0 0 0 ≤ 1000) (h2 : 0 ≤ s → s < S r_m_sectionMany 0 0 0 → 0 ≤ S r_m_jurorMany 0 0 s ∧ S r_m_jurorMany 0 0 s ≤ 1000) : v_m_isNoJuror s j S = if (0 ≤ s ∧ s < S r_m_sectionMany 0 0 0) ∧ 0 ≤ j ∧ j < S r_m_jurorMany 0 0 s then 0 else 1 := by
  unfold v_m_isNoJuror
  rw [zb_n, zb_n, q_noSection h0 h1]
  by_cases hs : 0 ≤ s ∧ s < S r_m_sectionMany 0 0 0
  · obtain ⟨h3, h4⟩ := h2 hs.1 hs.2
    rw [if_pos hs, if_pos rfl, q_isIn, e_wr_id (by omega) (by omega)]
    by_cases hj : 0 ≤ j ∧ j < S r_m_jurorMany 0 0 s
    · rw [if_pos (show 0 ≤ j ∧ j ≤ S r_m_jurorMany 0 0 s - 1 by omega), if_neg (by decide), if_pos ⟨hs, hj⟩]
    · rw [if_neg (show ¬ (0 ≤ j ∧ j ≤ S r_m_jurorMany 0 0 s - 1) by omega), if_pos rfl, if_neg (fun z => hj z.2)]
  · rw [if_neg hs, if_neg (by decide), if_neg (fun z => hs z.1)]
theorem o_rule {s x : Int} {c m : ZS} (h : zRu c m) : zBo zRu (f_w_rule [s, x] c) (f_m_rule [s, x] m) := by
  obtain ⟨⟨d1, d2, d3⟩, hr⟩ := id h
  show zBo zRu (e_try (f_x_rule [s, x] c) (fun v1 S1 => ((0, [0]), e_upd S1 r_out 0 0 0 v1)) [(0, 1), (1, 2)]) (f_m_rule [s, x] m)
  unfold f_x_rule f_m_rule
  dsimp only
  rw [q_section d1 (by omega), q_noSection (by omega) (by omega), d3]
  by_cases hs : 0 ≤ s ∧ s < c r_x_sectionCount 0 0 0
  · obtain ⟨r1, r2, r3⟩ := hr s hs.1 (by omega)
    rw [if_pos hs, if_pos hs, e_b_ok]
    simp (decide := true) only [zb_n, zb_d, ↓reduceIte, Int.reduceEq, r2 hs.2]
    have main : (x = 109 ∨ x = 98 ∨ x = 99 ∨ x = 114) → zBo zRu (e_try ((0, [c r_Section_rule s 0 0]), e_upd c r_Section_rule s 0 0 x) (fun v1 S1 => ((0, [0]), e_upd S1 r_out 0 0 0 v1)) [(0, 1), (1, 2)]) ((0, [c r_Section_rule s 0 0]), e_upd (e_upd (e_upd m r_m_thrown 0 0 0 0) r_m_thrown 0 0 0 0) r_m_rules 0 0 s (e_nar 2 x)) := fun hx => by
      have hn : e_nar 2 x = x := e_nc (by omega) (by omega)
      rw [hn]
      refine ⟨0, _, _, _, rfl, rfl, zRu.out ⟨?_, fun t t0 t1 => ?_⟩, by simp (decide := true) only [e_un, e_us], fun _ => e_us⟩
      · simp (decide := true) only [e_un]
        exact ⟨d1, d2, d3⟩
      · obtain ⟨q1, q2, q3⟩ := hr t t0 t1
        simp (decide := true) only [e_un, e_ur]
        by_cases w : t = s
        · simp (decide := true) only [w, and_self, ↓reduceIte]
          exact ⟨by omega, fun _ => trivial, fun z => by omega⟩
        · simp only [w, and_false, false_and, ↓reduceIte]
          exact ⟨q1, q2, q3⟩
    by_cases x1 : x = 109
    · have := main (Or.inl x1)
      simp only [if_pos x1]
      exact this
    · by_cases x2 : x = 98
      · have := main (Or.inr (Or.inl x2))
        simp only [if_neg x1, if_pos x2]
        exact this
      · by_cases x3 : x = 99
        · have := main (Or.inr (Or.inr (Or.inl x3)))
          simp only [if_neg x1, if_neg x2, if_pos x3]
          exact this
        · by_cases x4 : x = 114
          · have := main (Or.inr (Or.inr (Or.inr x4)))
            simp only [if_neg x1, if_neg x2, if_neg x3, if_pos x4]
            exact this
          · simp only [if_neg x1, if_neg x2, if_neg x3, if_neg x4]
            exact ⟨2, 32, _, _, rfl, rfl, h.thr.thr, e_us, fun q => absurd q (by decide)⟩
  · rw [if_neg hs, if_neg hs, e_b_x (by decide) (by decide)]
    simp (decide := true) only [zb_n, zb_d, ↓reduceIte]
    exact ⟨1, 32, _, _, rfl, rfl, h.thr, e_us, fun q => absurd q (by decide)⟩
theorem o_sectionJ {x1 x2 x3 x4 x5 : Int} {c m : ZS} (h : zSe c m) (hr : zRu c m) : zBo (zAnd zSe zRu) (f_w_section [x1, x2, x3, x4, x5] c) (f_m_section [x1, x2, x3, x4, x5] m) := by
  refine (oS_section h).and ?_
  obtain ⟨⟨d1, d2, d3⟩, ru⟩ := id hr
  rw [q_wsection d1 d2, q_msection (by omega) (by omega), d3]
  split
  · split
    · exact hr.thr.thr
    · refine zRu.out ⟨?_, fun t t0 t1 => ?_⟩
      · simp (decide := true) only [e_us]
        exact ⟨by omega, by omega, trivial⟩
      · obtain ⟨q1, q2, q3⟩ := ru t t0 t1
        simp (decide := true) only [e_un, e_us, e_ur]
        refine ⟨q1, fun z => ?_, fun z => q3 (by omega)⟩
        by_cases w : t = c r_x_sectionCount 0 0 0
        · simp (decide := true) only [w, and_self, ↓reduceIte]
          rw [← w]
          exact (q3 (by omega)).symm
        · simp only [w, and_false, false_and, ↓reduceIte]
          exact q2 (by omega)
  · exact hr.thr
theorem o_type {f : Int} {c m : ZS} (hR : zR c m) (h : zTy c m) : zBo zTy (f_w_type [f] c) (f_m_type [f] m) := by
  obtain ⟨⟨a1, a2, a3⟩, -⟩ := id hR
  obtain ⟨l, ⟨t0, t1, t2⟩, ty⟩ := id h
  show zBo zTy (e_try (f_x_type [f] c) (fun v1 S1 => ((0, [0]), e_upd S1 r_out 0 0 0 v1)) [(0, 1), (2, 2)]) (f_m_type [f] m)
  have hw : e_wr (c r_x_typedCount 0 0 0 + 1) = c r_x_typedCount 0 0 0 + 1 := e_wr_id (by omega) (by omega)
  unfold f_x_type f_m_type
  dsimp only
  rw [q_film a1 (by omega), q_noFilm (by omega) (by omega), a3]
  by_cases hf : 0 ≤ f ∧ f < c r_x_filmCount 0 0 0
  · rw [if_pos hf, if_pos hf, e_b_ok]
    simp (decide := true) only [zb_n, zb_d, ↓reduceIte, Int.reduceEq, t2, e_us, hw]
    by_cases q : c r_x_typedCount 0 0 0 = 9
    · simp (decide := true) only [if_pos q, if_neg (show ¬ c r_x_typedCount 0 0 0 < 9 by omega)]
      exact ⟨2, 0, _, _, rfl, rfl, h.thr.thr, e_us, fun q => absurd q (by decide)⟩
    · simp (decide := true) only [if_neg q, if_pos (show c r_x_typedCount 0 0 0 < 9 by omega)]
      refine ⟨0, _, _, _, rfl, rfl, zTy.out ⟨?_, ?_, fun k k0 k1 => ?_⟩, by simp (decide := true) only [e_un, e_us], fun _ => e_us⟩
      · simp (decide := true) only [e_un]
        exact l
      · simp (decide := true) only [e_us]
        exact ⟨by omega, by omega, trivial⟩
      · simp (decide := true) only [e_us] at k1
        simp (decide := true) only [e_un, e_ur]
        by_cases w : k = c r_x_typedCount 0 0 0
        · simp (decide := true) only [w, and_self, ↓reduceIte, true_and]
          exact hf
        · simp only [w, and_false, false_and, ↓reduceIte]
          exact ty k k0 (by omega)
  · rw [if_neg hf, if_neg hf, e_b_x (by decide) (by decide)]
    simp (decide := true) only [zb_n, zb_d, ↓reduceIte]
    exact ⟨1, 0, _, _, rfl, rfl, h.thr, e_us, fun q => absurd q (by decide)⟩
/-- a row of hours is filled from k on -/
theorem q_jfill {s n : Int} : ∀ (t : Nat) (k : Int) (S : ZS), 0 ≤ k → k + t = 51 → ∃ S', g_m_juror ((1080, [s, n, k]), S) = ((0, [n]), e_upd S' r_m_jurorMany 0 0 s (e_wr (S r_m_jurorMany 0 0 s + 1))) ∧ (∀ r, (r == r_m_sawAt_r_r) = false → S' r = S r) ∧ ∀ a b x, S' r_m_sawAt_r_r a b x = if a = s ∧ b = n ∧ k ≤ x ∧ x ≤ 50 then -1 else S r_m_sawAt_r_r a b x := by
  intro t
  induction t with
  | zero =>
    intro k S k0 k1
    refine ⟨S, ?_, fun _ _ => rfl, fun a b x => by rw [if_neg (fun z => by omega)]⟩
    rw [g_m_juror_80, zb_d, if_pos (by omega)]
  | succ t ih =>
    intro k S k0 k1
    have hk : e_wr (k + 1) = k + 1 := e_wr_id (by omega) (by omega)
    obtain ⟨S', h1, h2, h3⟩ := ih (k + 1) (e_upd S r_m_sawAt_r_r s n k (-1)) (by omega) (by omega)
    refine ⟨S', ?_, fun r hr => ?_, fun a b x => ?_⟩
    · rw [g_m_juror_80, zb_d, if_neg (by omega), hk, h1, e_un (by decide)]
    · rw [h2 r hr]
      funext a b d
      exact e_un hr
    · rw [h3, e_ur]
      by_cases w : a = s ∧ b = n ∧ k ≤ x ∧ x ≤ 50
      · rw [if_pos w]
        by_cases v : x = k
        · rw [if_neg (fun z => by omega), if_pos ⟨w.1, w.2.1, v⟩]
        · rw [if_pos ⟨w.1, w.2.1, by omega, by omega⟩]
      · rw [if_neg w, if_neg (fun z => w ⟨z.1, z.2.1, by omega, by omega⟩), if_neg (fun z => w ⟨z.1, z.2.1, by omega, by omega⟩)]
theorem o_juror {s x : Int} {c m : ZS} (hS : zRu c m) (h : zJu c m) (hA : zSa c m) : zBo (zAnd zJu zSa) (f_w_juror [s, x] c) (f_m_juror [s, x] m) := by
  obtain ⟨⟨d1, d2, d3⟩, -⟩ := id hS
  show zBo (zAnd zJu zSa) (e_try (f_x_juror [s, x] c) (fun v1 S1 => ((0, [0]), e_upd S1 r_out 0 0 0 v1)) [(0, 1), (1, 2), (2, 3)]) (g_m_juror ((1000, [s, x]), m))
  rw [g_m_juror_0]
  unfold f_x_juror f_Section_addJuror
  dsimp only
  rw [q_section d1 (by omega), q_noSection (by omega) (by omega), d3]
  by_cases hs : 0 ≤ s ∧ s < c r_x_sectionCount 0 0 0
  · obtain ⟨⟨j0, j1, j2⟩, jl⟩ := h s hs.1 (by omega)
    have hw : e_wr (c r_Section_jurorCount s 0 0 + 1) = c r_Section_jurorCount s 0 0 + 1 := e_wr_id (by omega) (by omega)
    have hw2 : e_wr (c r_Section_jurorCount s 0 0 + 1 - 1) = c r_Section_jurorCount s 0 0 := by rw [e_wr_id (by omega) (by omega), Int.add_sub_cancel]
    rw [if_pos hs, if_pos hs, e_b_ok]
    simp (decide := true) only [zb_n, zb_d, ↓reduceIte, Int.reduceEq, q_within, q_isIn, j2, e_us, hw, hw2, e_bnd]
    by_cases hx : 0 ≤ x ∧ x ≤ 9
    · by_cases q : c r_Section_jurorCount s 0 0 = 5
      · simp (decide := true) only [if_pos hx, if_pos q, if_neg (show ¬ c r_Section_jurorCount s 0 0 < 5 by omega), ↓reduceIte, Int.reduceEq]
        exact ⟨3, 0, _, _, rfl, rfl, ⟨h.thr.thr.thr, hA.thr.thr.thr⟩, e_us, fun q => absurd q (by decide)⟩
      · simp (decide := true) only [if_pos hx, if_neg q, if_pos (show c r_Section_jurorCount s 0 0 < 5 by omega), ↓reduceIte, Int.reduceEq]
        obtain ⟨M, p1, p2, p3⟩ := q_jfill (s := s) (n := c r_Section_jurorCount s 0 0) 51 0 (e_upd (e_upd (e_upd (e_upd m r_m_thrown 0 0 0 0) r_m_thrown 0 0 0 0) r_m_thrown 0 0 0 0) r_m_jurorLands_r s 0 (c r_Section_jurorCount s 0 0) x) (Int.le_refl _) (by decide)
        rw [p1]
        simp (decide := true) only [e_un, j2, hw]
        have q1 : M r_m_jurorMany = m r_m_jurorMany := by
          rw [p2 _ (by decide)]
          funext a b d
          simp (decide := true) only [e_un]
        have q2 : ∀ a b d, M r_m_jurorLands_r a b d = if a = s ∧ b = 0 ∧ d = c r_Section_jurorCount s 0 0 then x else m r_m_jurorLands_r a b d := fun a b d => by
          rw [p2 _ (by decide), e_ur]
          simp (decide := true) only [e_un]
        have q3 : ∀ a b d, M r_m_sawAt_r_r a b d = if a = s ∧ b = c r_Section_jurorCount s 0 0 ∧ 0 ≤ d ∧ d ≤ 50 then -1 else m r_m_sawAt_r_r a b d := fun a b d => by
          rw [p3]
          simp (decide := true) only [e_un]
        have q4 : M r_m_thrown 0 0 0 = 0 := by
          rw [p2 _ (by decide), e_un (by decide), e_us]
        refine ⟨0, _, _, _, rfl, rfl, ⟨zJu.out fun t t0 t1 => ?_, zSa.out fun t j t0 t1 i0 i1 => ?_⟩, by rw [e_un (by decide), q4], fun _ => e_us⟩
        · obtain ⟨⟨y0, y1, y2⟩, yl⟩ := h t t0 t1
          simp (decide := true) only [e_un, e_ur, q1, q2]
          by_cases w : t = s
          · subst w
            simp (decide := true) only [and_self, ↓reduceIte, true_and]
            refine ⟨⟨by omega, by first | omega | exact ⟨by omega, trivial⟩ | exact ⟨by omega, rfl⟩⟩, fun j z0 z1 => ?_⟩
            by_cases v : j = c r_Section_jurorCount t 0 0
            · rw [if_pos v, if_pos ⟨v, trivial⟩]
            · rw [if_neg v, if_neg (fun z => v z.1)]
              exact yl j z0 (by omega)
          · simp only [w, and_false, false_and, ↓reduceIte]
            exact ⟨⟨y0, y1, y2⟩, yl⟩
        · obtain ⟨y1, y2, y3⟩ := hA t j t0 t1 i0 i1
          simp (decide := true) only [e_un, e_ur, q3]
          by_cases w : t = s
          · subst w
            simp (decide := true) only [and_self, ↓reduceIte, true_and]
            refine ⟨y1, fun z => y2 (by omega), fun z => ?_⟩
            by_cases v : j = c r_Section_jurorCount t 0 0
            · have v2 := y2 (by omega)
              rw [v2]
              refine ⟨fun u u1 u2 u3 => ?_, fun u => absurd u (by decide)⟩
              rw [if_pos ⟨v, u2, u3⟩]
            · obtain ⟨y4, y5⟩ := y3 (by omega)
              refine ⟨fun u u1 u2 u3 => ?_, fun u => ?_⟩
              · rw [if_neg (fun z => v z.1)]
                exact y4 u u1 u2 u3
              · rw [if_neg (fun z => v z.1)]
                exact y5 u
          · simp only [w, and_false, false_and, ↓reduceIte]
            exact ⟨y1, y2, y3⟩
    · simp (decide := true) only [if_neg hx, ↓reduceIte, Int.reduceEq]
      exact ⟨2, 0, _, _, rfl, rfl, ⟨h.thr.thr, hA.thr.thr⟩, e_us, fun q => absurd q (by decide)⟩
  · rw [if_neg hs, if_neg hs, e_b_x (by decide) (by decide)]
    simp (decide := true) only [zb_n, zb_d, ↓reduceIte]
    exact ⟨1, 0, _, _, rfl, rfl, ⟨h.thr, hA.thr⟩, e_us, fun q => absurd q (by decide)⟩
theorem q_countSeen {c m : ZS} (hR : zR c m) (hF : zFs c m) (hN : zSn c m) {s j : Int} (s0 : 0 ≤ s) (s1 : s < 5) (j0 : 0 ≤ j) (j1 : j < 5) : ∃ v, f_x_countSeen [s, s, j] c = ((0, [v]), c) ∧ g_m_see ((1145, [s, j, 0, 0]), m) = ((0, [v]), m) := by
  obtain ⟨⟨a1, a2, a3⟩, -⟩ := id hR
  show ∃ v, g_x_countSeen ((1000, [s, s, j]), c) = ((0, [v]), c) ∧ _
  rw [g_x_countSeen_0]
  refine z_sync (n := c r_x_filmCount 0 0 0) (A := fun (a : Int) k => g_x_countSeen ((1005, [s, s, j, a, k]), c)) (B := fun (b : Int) k => g_m_see ((1145, [s, j, b, k]), m)) (R := fun k a b => a = b ∧ e_wr b = b) (Goal := fun A B => ∃ v, A = ((0, [v]), c) ∧ B = ((0, [v]), m)) ?_ ?_ (c r_x_filmCount 0 0 0).toNat 0 0 0 (Int.le_refl _) (by omega) ⟨rfl, e_wr_id (by omega) (by omega)⟩
  · rintro a b ⟨e1, e2⟩
    subst e1
    refine ⟨a, ?_, ?_⟩
    · show g_x_countSeen ((1005, [s, s, j, a, c r_x_filmCount 0 0 0]), c) = _
      rw [g_x_countSeen_5, zb_d, if_pos (Int.le_refl _)]
    · show g_m_see ((1145, [s, j, a, c r_x_filmCount 0 0 0]), m) = _
      rw [g_m_see_145, zb_d, if_pos (by omega)]
  · rintro k a b k0 k1 ⟨e1, e2⟩
    subst e1
    have hk : e_wr (k + 1) = k + 1 := e_wr_id (by omega) (by omega)
    have e4 := (hF.1 k k0 k1).2.2.2
    have e5 := hN s j k s0 s1 j0 j1 k0 (by omega)
    have eC := g_x_countSeen_5 (x1 := s) (x2 := s) (x3 := j) (x4 := a) (x5 := k) (S := c)
    rw [zb_d, if_neg (by omega), zb_n, zb_d, hk] at eC
    have eM := g_m_see_145 (x1 := s) (x2 := j) (x3 := a) (x4 := k) (S := m)
    rw [zb_d, if_neg (by omega), zb_n, zb_d, hk, e4, e5, Int.add_zero, e2] at eM
    by_cases q : c r_Film_section k 0 0 = s
    · rw [if_pos q] at eC eM
      by_cases q2 : c r_Juror_hasSeen s j k = 0
      · rw [if_pos q2] at eC eM
        exact ⟨a, a, eC, eM, rfl, e2⟩
      · rw [if_neg q2] at eC eM
        exact ⟨_, _, eC, eM, rfl, e_wr_wr⟩
    · rw [if_neg q] at eC eM
      exact ⟨a, a, eC, eM, rfl, e2⟩
theorem o_see {s j i : Int} {c m : ZS} (hR : zR c m) (hF : zFs c m) (hh : zHr c m) (hw : zSw c m) (hU : zRu c m) (hJ : zJu c m) (hN : zSn c m) (hA : zSa c m) : zBo (zAnd zSn zSa) (f_w_see [s, j, i] c) (f_m_see [s, j, i] m) := by
  obtain ⟨⟨d1, d2, d3⟩, -⟩ := id hU
  obtain ⟨⟨n0, n1, n2⟩, sw, -⟩ := id hw
  obtain ⟨x1, x2, x3⟩ := id hh
  show zBo (zAnd zSn zSa) (e_try (f_x_see [s, j, i] c) (fun v1 S1 => ((0, [0]), e_upd S1 r_out 0 0 0 v1)) [(0, 1), (3, 2)]) (g_m_see ((1000, [s, j, i]), m))
  rw [g_m_see_0, q_noJuror (by omega) (by omega) (fun a b => by have := (hJ s a (by omega)).1; omega), q_noShow (by omega) (by omega), d3, n2]
  unfold f_x_see
  dsimp only
  rw [q_section d1 (by omega)]
  by_cases hs : 0 ≤ s ∧ s < c r_x_sectionCount 0 0 0
  · obtain ⟨⟨j0, j1, j2⟩, jl⟩ := hJ s hs.1 (by omega)
    rw [if_pos hs, e_b_ok, q_juror j0 (by omega), j2]
    by_cases hj : 0 ≤ j ∧ j < c r_Section_jurorCount s 0 0
    · rw [if_pos hj, if_pos ⟨hs, hj⟩, e_b_ok, q_show n0 (by omega)]
      by_cases hi : 0 ≤ i ∧ i < c r_Grid_showCount 0 0 0
      · rw [if_pos hi, if_pos hi, e_b_ok]
        have hst := (q_state hw.thr hF.thr hh.thr hi.1 hi.2 (m := e_upd m r_m_thrown 0 0 0 0)).1
        obtain ⟨⟨f1, f2, f3⟩, -⟩ := sw i hi.1 hi.2
        have f4 := (hF.1 _ f2 f3).2.2.2
        have a1 := hR.1
        simp (decide := true) only [zb_n, zb_d, ↓reduceIte, Int.reduceEq, hst, f1, f4, x3]
        have hbad : zBo (zAnd zSn zSa) (e_try ((4, []), c) (fun v1 S1 => ((0, [0]), e_upd S1 r_out 0 0 0 v1)) [(0, 1), (3, 2)]) ((0, [0]), e_upd (e_upd m r_m_thrown 0 0 0 0) r_m_thrown 0 0 0 2) := ⟨2, 0, _, _, rfl, rfl, ⟨hN.thr.thr, hA.thr.thr⟩, e_us, fun q => absurd q (by decide)⟩
        by_cases q1 : v_Grid_stateOf i c = 110
        · by_cases q2 : c r_Film_section (c r_Show_film i 0 0) 0 0 = s
          · simp only [if_pos q1, if_pos q2]
            obtain ⟨y1, y2, y3⟩ := hA s j hs.1 (by omega) hj.1 (by omega)
            obtain ⟨y4, y5⟩ := y3 hj.2
            unfold v_Juror_sawAnother
            simp only [zb_n, zb_d]
            have main : zBo (zAnd zSn zSa) (e_try (e_bind (f_Juror_look [s, j, i, c r_Show_film i 0 0, c r_Grid_hour 0 0 0] c) (fun v4 S4 => (e_bind (f_x_countSeen [s, s, j] S4) (fun v5 S5 => ((0, [v5]), S5))))) (fun v1 S1 => ((0, [0]), e_upd S1 r_out 0 0 0 v1)) [(0, 1), (3, 2)]) (g_m_see ((1145, [s, j, 0, 0]), (e_upd (e_upd (e_upd (e_upd m r_m_thrown 0 0 0 0) r_m_thrown 0 0 0 0) r_m_sawAt_r_r s j (c r_Grid_hour 0 0 0) i) r_m_haveSeen_r_r s j (c r_Show_film i 0 0) (e_nar 1 1)))) := by
              unfold f_Juror_look
              dsimp only
              rw [e_bnd0, e_nb1]
              have hN2 : zSn (e_upd (e_upd (e_upd c r_Juror_lastHour s j 0 (c r_Grid_hour 0 0 0)) r_Juror_lastShow s j 0 i) r_Juror_hasSeen s j (c r_Show_film i 0 0) 1) (e_upd (e_upd (e_upd (e_upd m r_m_thrown 0 0 0 0) r_m_thrown 0 0 0 0) r_m_sawAt_r_r s j (c r_Grid_hour 0 0 0) i) r_m_haveSeen_r_r s j (c r_Show_film i 0 0) 1) := fun t u g t0 t1 u0 u1 g0 g1 => by
                simp (decide := true) only [e_un, e_ur]
                rw [hN t u g t0 t1 u0 u1 g0 g1]
              have hA2 : zSa (e_upd (e_upd (e_upd c r_Juror_lastHour s j 0 (c r_Grid_hour 0 0 0)) r_Juror_lastShow s j 0 i) r_Juror_hasSeen s j (c r_Show_film i 0 0) 1) (e_upd (e_upd (e_upd (e_upd m r_m_thrown 0 0 0 0) r_m_thrown 0 0 0 0) r_m_sawAt_r_r s j (c r_Grid_hour 0 0 0) i) r_m_haveSeen_r_r s j (c r_Show_film i 0 0) 1) := fun t u t0 t1 u0 u1 => by
                obtain ⟨z1, z2, z3⟩ := hA t u t0 t1 u0 u1
                simp (decide := true) only [e_un, e_ur]
                by_cases w : t = s ∧ u = j
                · obtain ⟨w1, w2⟩ := w
                  subst w1
                  subst w2
                  simp (decide := true) only [and_self, ↓reduceIte, true_and]
                  refine ⟨⟨by omega, Int.le_refl _⟩, fun z => by omega, fun _ => ⟨fun y p1 p2 p3 => ?_, fun _ => hi.1⟩⟩
                  rw [if_neg (by omega)]
                  exact y4 y (by omega) p2 p3
                · have w' : ∀ {z : Prop}, ¬ (t = s ∧ u = j ∧ z) := fun {z} y => w ⟨y.1, y.2.1⟩
                  simp only [w', ↓reduceIte]
                  exact ⟨z1, z2, z3⟩
              have hR2 := zR_rel.uc (zR_rel.uc (zR_rel.uc (zR_rel.um (zR_rel.um hR.thr.thr (by decide) : zR c (e_upd (e_upd (e_upd m r_m_thrown 0 0 0 0) r_m_thrown 0 0 0 0) r_m_sawAt_r_r s j (c r_Grid_hour 0 0 0) i)) (by decide) : zR c (e_upd (e_upd (e_upd (e_upd m r_m_thrown 0 0 0 0) r_m_thrown 0 0 0 0) r_m_sawAt_r_r s j (c r_Grid_hour 0 0 0) i) r_m_haveSeen_r_r s j (c r_Show_film i 0 0) 1)) (by decide) : zR (e_upd c r_Juror_lastHour s j 0 (c r_Grid_hour 0 0 0)) _) (by decide) : zR (e_upd (e_upd c r_Juror_lastHour s j 0 (c r_Grid_hour 0 0 0)) r_Juror_lastShow s j 0 i) _) (by decide : zRC.contains r_Juror_hasSeen = false) (i := s) (j := j) (k := c r_Show_film i 0 0) (z := 1)
              have hF2 := zFs_rel.uc (zFs_rel.uc (zFs_rel.uc (zFs_rel.um (zFs_rel.um hF.thr.thr (by decide) : zFs c (e_upd (e_upd (e_upd m r_m_thrown 0 0 0 0) r_m_thrown 0 0 0 0) r_m_sawAt_r_r s j (c r_Grid_hour 0 0 0) i)) (by decide) : zFs c (e_upd (e_upd (e_upd (e_upd m r_m_thrown 0 0 0 0) r_m_thrown 0 0 0 0) r_m_sawAt_r_r s j (c r_Grid_hour 0 0 0) i) r_m_haveSeen_r_r s j (c r_Show_film i 0 0) 1)) (by decide) : zFs (e_upd c r_Juror_lastHour s j 0 (c r_Grid_hour 0 0 0)) _) (by decide) : zFs (e_upd (e_upd c r_Juror_lastHour s j 0 (c r_Grid_hour 0 0 0)) r_Juror_lastShow s j 0 i) _) (by decide : zFsC.contains r_Juror_hasSeen = false) (i := s) (j := j) (k := c r_Show_film i 0 0) (z := 1)
              obtain ⟨v, p1, p2⟩ := q_countSeen hR2 hF2 hN2 hs.1 (show s < 5 by omega) hj.1 (show j < 5 by omega)
              rw [p1, e_bnd, p2]
              exact ⟨0, _, _, _, rfl, rfl, ⟨hN2.out, hA2.out⟩, by simp (decide := true) only [e_un, e_us], fun _ => e_us⟩
            by_cases q3 : c r_Juror_lastHour s j 0 = c r_Grid_hour 0 0 0
            · have q4 := y5 (by omega)
              rw [q3] at q4
              rw [q4.1, if_pos q3, if_neg (show ¬ c r_Juror_lastShow s j 0 < 0 by omega)]
              by_cases q5 : c r_Juror_lastShow s j 0 = i
              · rw [if_pos q5, if_pos q5, if_pos rfl]
                exact main
              · rw [if_neg q5, if_neg q5, if_neg (by decide)]
                exact hbad
            · rw [y4 _ (by omega) x1 x2, if_neg q3, if_pos rfl, if_pos (by decide)]
              exact main
          · simp only [if_pos q1, if_neg q2]
            exact hbad
        · simp only [if_neg q1]
          exact hbad
      · rw [if_neg hi, if_neg hi, e_b_x (by decide) (by decide)]
        simp (decide := true) only [zb_n, zb_d, ↓reduceIte]
        exact ⟨1, 0, _, _, rfl, rfl, ⟨hN.thr, hA.thr⟩, e_us, fun q => absurd q (by decide)⟩
    · rw [if_neg hj, if_neg (fun z => hj z.2), e_b_x (by decide) (by decide)]
      simp (decide := true) only [zb_n, zb_d, ↓reduceIte]
      exact ⟨1, 0, _, _, rfl, rfl, ⟨hN.thr, hA.thr⟩, e_us, fun q => absurd q (by decide)⟩
  · rw [if_neg hs, if_neg (fun z => hs z.1), e_b_x (by decide) (by decide)]
    simp (decide := true) only [zb_n, zb_d, ↓reduceIte]
    exact ⟨1, 0, _, _, rfl, rfl, ⟨hN.thr, hA.thr⟩, e_us, fun q => absurd q (by decide)⟩
end
/-! part 71uc21 -/
section
/-! rank: both sides -/
/-- how often a film is typed -/
def ztm (c : ZS) (f : Int) : Int := zcnt (fun k => decide (c r_x_typed 0 0 k = f)) (c r_x_typedCount 0 0 0).toNat 0
def zdu (c : ZS) (s j f : Int) : Bool := decide (c r_Film_section f 0 0 = s) && !decide (c r_Film_land f 0 0 = c r_Juror_land s j 0)
theorem zcnt_none {p : Int → Bool} : ∀ (n : Nat) (k : Int), zcnt p n k = 0 ↔ zany p n k = false
  | 0, k => by simp [zcnt, zany]
  | n + 1, k => by
    have := zcnt_le p n (k + 1)
    rw [zcnt, zany, Bool.or_eq_false_iff, ← zcnt_none n (k + 1)]
    cases p k
    · rw [if_neg (by decide)]
      simp
    · rw [if_pos rfl]
      simp
      omega
theorem zsum_add {v w : Int → Int} : ∀ (n : Nat) (k : Int), zsum (fun i => v i + w i) n k = zsum v n k + zsum w n k
  | 0, _ => rfl
  | n + 1, k => by
    rw [zsum, zsum, zsum, zsum_add n (k + 1)]
    omega
/-- all numbers that are typed, film by film -/
theorem zsum_tm {t : Int → Int} {N : Int} (N0 : 0 ≤ N) : ∀ (n : Nat), (∀ k : Int, 0 ≤ k → k < n → 0 ≤ t k ∧ t k < N) → zsum (fun f => zcnt (fun k => decide (t k = f)) n 0) N.toNat 0 = n
  | 0, _ => zsum_z (w := fun f => zcnt (fun k => decide (t k = f)) 0 0) N.toNat 0 (fun _ _ _ => rfl)
  | n + 1, h => by
    have ih := zsum_tm N0 n (fun k a b => h k a (by omega))
    obtain ⟨t0, t1⟩ := h n (by omega) (by omega)
    have e0 : (0 : Int) + (n : Int) = n := by omega
    rw [zsum_cg (w := fun f => zcnt (fun k => decide (t k = f)) n 0 + if f = t n then 1 else 0) N.toNat 0 (fun f _ _ => by
      (try dsimp only)
      rw [zcnt_app, e0]
      by_cases q : t n = f
      · rw [decide_eq_true q, if_pos rfl, if_pos q.symm]
      · rw [decide_eq_false q, if_neg (by decide), if_neg (fun z => q z.symm)]), zsum_add, ih]
    have h1 := zsum_upd (w := fun _ => 0) (b := t n) (z := 1) N.toNat 0 t0 (by omega)
    rw [zsum_z (w := fun _ => 0) N.toNat 0 (fun _ _ _ => rfl)] at h1
    rw [h1]
    omega
/-- where each is at least so much and the sums are alike, all are alike -/
theorem zsum_eq {v w : Int → Int} : ∀ (n : Nat) (k : Int), (∀ i, k ≤ i → i < k + n → v i ≤ w i) → zsum v n k ≤ zsum w n k ∧ (zsum v n k = zsum w n k → ∀ i, k ≤ i → i < k + n → v i = w i)
  | 0, k, _ => ⟨Int.le_refl _, fun _ i a b => by omega⟩
  | n + 1, k, h => by
    obtain ⟨h1, h2⟩ := zsum_eq n (k + 1) (fun i a b => h i (by omega) (by omega))
    have h3 := h k (Int.le_refl _) (by omega)
    rw [zsum, zsum]
    refine ⟨by omega, fun e i a b => ?_⟩
    by_cases q : i = k
    · rw [q]
      omega
    · exact h2 (by omega) i (by omega) (by omega)
theorem q_isTyped {c m : ZS} (h : zTy c m) {f : Int} : f_x_isTyped [f] c = ((0, [zb (zany (fun k => decide (c r_x_typed 0 0 k = f)) (c r_x_typedCount 0 0 0).toNat 0)]), c) := by
  obtain ⟨-, ⟨t0, t1, -⟩, -⟩ := h
  show g_x_isTyped ((1000, [f]), c) = _
  rw [g_x_isTyped_0]
  refine (zl_any (n := c r_x_typedCount 0 0 0) (p := fun k => decide (c r_x_typed 0 0 k = f)) (A := ((0, [1]), c)) (B := ((0, [0]), c)) (G := fun k => g_x_isTyped ((1002, [f, k]), c)) (fun k hk => ?_) (fun k h0 h1 => ?_) (c r_x_typedCount 0 0 0).toNat 0 (Int.le_refl _) (by omega)).trans ?_
  · rw [g_x_isTyped_2, zb_d, if_pos (by omega)]
  · have hk : e_wr (k + 1) = k + 1 := e_wr_id (by omega) (by omega)
    rw [g_x_isTyped_2, zb_d, if_neg (by omega), hk, zb_n]
    simp only [decide_eq_true_eq]
  · unfold zb
    split <;> rfl
/-- what the class asks of the typed films -/
def zrkC (c : ZS) (s j : Int) : Bool := !zany (fun f => zdu c s j f && (decide (c r_Juror_hasSeen s j f = 0) || !zany (fun k => decide (c r_x_typed 0 0 k = f)) (c r_x_typedCount 0 0 0).toNat 0)) (c r_x_filmCount 0 0 0).toNat 0 && (decide (0 < zcnt (zdu c s j) (c r_x_filmCount 0 0 0).toNat 0) && decide (zcnt (zdu c s j) (c r_x_filmCount 0 0 0).toNat 0 = c r_x_typedCount 0 0 0))
theorem q_ballotC {c m : ZS} (hR : zR c m) (h : zTy c m) {s j : Int} : f_x_isBallotOf [s, s, j] c = ((0, [zb (zrkC c s j)]), c) := by
  obtain ⟨⟨a1, a2, a3⟩, -⟩ := id hR
  show g_x_isBallotOf ((1000, [s, s, j]), c) = _
  rw [g_x_isBallotOf_0]
  have loop : ∀ (t : Nat) (k d : Int), 0 ≤ k → k + t = c r_x_filmCount 0 0 0 → d = zcnt (zdu c s j) k.toNat 0 → g_x_isBallotOf ((1005, [s, s, j, d, k]), c) = ((0, [zb (!zany (fun f => zdu c s j f && (decide (c r_Juror_hasSeen s j f = 0) || !zany (fun k => decide (c r_x_typed 0 0 k = f)) (c r_x_typedCount 0 0 0).toNat 0)) t k && (decide (0 < zcnt (zdu c s j) (c r_x_filmCount 0 0 0).toNat 0) && decide (zcnt (zdu c s j) (c r_x_filmCount 0 0 0).toNat 0 = c r_x_typedCount 0 0 0)))]), c) := by
    intro t
    induction t with
    | zero =>
      intro k d k0 k1 hd
      have e : k = c r_x_filmCount 0 0 0 := by omega
      rw [g_x_isBallotOf_5, zb_d, if_pos (by omega), zb_d, zb_n, hd, e, zany]
      by_cases q1 : 0 < zcnt (zdu c s j) (c r_x_filmCount 0 0 0).toNat 0
      · rw [if_neg (by omega), decide_eq_true q1]
        by_cases q2 : zcnt (zdu c s j) (c r_x_filmCount 0 0 0).toNat 0 = c r_x_typedCount 0 0 0
        · rw [if_pos q2, decide_eq_true q2]
          rfl
        · rw [if_neg q2, decide_eq_false q2]
          rfl
      · rw [if_pos (by omega), decide_eq_false q1]
        rfl
    | succ t ih =>
      intro k d k0 k1 hd
      have hk : e_wr (k + 1) = k + 1 := e_wr_id (by omega) (by omega)
      have ek : (k + 1).toNat = k.toNat + 1 := by omega
      have e0 : (0 : Int) + (k.toNat : Int) = k := by omega
      have happ := zcnt_app (p := zdu c s j) k.toNat 0
      have hle := zcnt_le (zdu c s j) k.toNat 0
      rw [e0, ← ek] at happ
      have hdw : e_wr (d + 1) = d + 1 := e_wr_id (by omega) (by omega)
      rw [g_x_isBallotOf_5, zb_d, if_neg (by omega), zb_n, zb_d, zb_d, q_isTyped h, e_bnd, zb_n, hk, hdw, zany]
      by_cases q1 : c r_Film_section k 0 0 = s
      · by_cases q2 : c r_Film_land k 0 0 = c r_Juror_land s j 0
        · have hdu : zdu c s j k = false := by
            unfold zdu
            rw [decide_eq_true q2, Bool.not_true, Bool.and_false]
          rw [hdu, if_neg (by decide), Int.add_zero] at happ
          rw [if_pos q1, if_pos q2, hdu, Bool.false_and, Bool.false_or]
          exact ih (k + 1) d (by omega) (by omega) (by omega)
        · have hdu : zdu c s j k = true := by
            unfold zdu
            rw [decide_eq_true q1, decide_eq_false q2]
            rfl
          rw [hdu, if_pos rfl] at happ
          rw [if_pos q1, if_neg q2, hdu, Bool.true_and]
          by_cases q3 : c r_Juror_hasSeen s j k = 0
          · rw [if_pos q3, decide_eq_true q3]
            rfl
          · rw [if_neg q3, decide_eq_false q3, Bool.false_or]
            cases q4 : zany (fun i => decide (c r_x_typed 0 0 i = k)) (c r_x_typedCount 0 0 0).toNat 0
            · rw [if_pos (by decide)]
              rfl
            · rw [if_neg (by decide), Bool.not_true, Bool.false_or]
              exact ih (k + 1) (d + 1) (by omega) (by omega) (by omega)
      · have hdu : zdu c s j k = false := by
          unfold zdu
          rw [decide_eq_false q1, Bool.false_and]
        rw [hdu, if_neg (by decide), Int.add_zero] at happ
        rw [if_neg q1, hdu, Bool.false_and, Bool.false_or]
        exact ih (k + 1) d (by omega) (by omega) (by omega)
  exact loop (c r_x_filmCount 0 0 0).toNat 0 0 (Int.le_refl _) (by omega) rfl
/-- what the model asks of them -/
def zrkM (c : ZS) (s j f : Int) : Bool := !decide (ztm c f = if zdu c s j f = true then 1 else 0) || (zdu c s j f && decide (c r_Juror_hasSeen s j f = 0))
theorem q_ballotM {c m : ZS} (hR : zR c m) (hF : zFs c m) (h : zTy c m) (hJ : zJu c m) (hN : zSn c m) {s j : Int} (s0 : 0 ≤ s) (s1 : s < 5) (j0 : 0 ≤ j) (j1 : j < c r_Section_jurorCount s 0 0) {v : Int} (hv : zbit v) : g_m_rank ((1032, [s, j, v, 0]), m) = g_m_rank ((1032, [s, j, if zany (zrkM c s j) (c r_x_filmCount 0 0 0).toNat 0 = true then 0 else v, c r_x_filmCount 0 0 0]), m) := by
  obtain ⟨⟨a1, a2, a3⟩, -, -, hl, -⟩ := id hR
  obtain ⟨-, ⟨t0, t1, t2⟩, ty⟩ := id h
  obtain ⟨⟨u0, u1, u2⟩, jl⟩ := hJ s s0 s1
  refine zl_set (n := c r_x_filmCount 0 0 0) (z := 0) (p := zrkM c s j) (P := zbit) zbit0 (fin := fun v => g_m_rank ((1032, [s, j, v, c r_x_filmCount 0 0 0]), m)) (G := fun v k => g_m_rank ((1032, [s, j, v, k]), m)) (fun v k e hv => by rw [e]) (fun v k h0 h1 hv => ?_) (c r_x_filmCount 0 0 0).toNat v 0 (Int.le_refl _) (by omega) hv
  have hk : e_wr (k + 1) = k + 1 := e_wr_id (by omega) (by omega)
  have s4 := (hF.1 k h0 h1).2.2.2
  have l4 := hl k h0 h1
  have jl4 := jl j j0 j1
  have n4 := hN s j k s0 s1 j0 (by omega) h0 (by omega)
  rw [g_m_rank_32, zb_d, if_neg (by omega)]
  refine (zl_cnt (n := c r_x_typedCount 0 0 0) (p := fun i => decide (c r_x_typed 0 0 i = k)) (fin := fun x => g_m_rank ((1047, [s, j, v, k, x, c r_x_typedCount 0 0 0]), m)) (G := fun x i => g_m_rank ((1047, [s, j, v, k, x, i]), m)) (fun x i e => by rw [e]) (fun x i i0 i1 x0 x1 => ?_) (c r_x_typedCount 0 0 0).toNat 0 0 (Int.le_refl _) (by omega) (Int.le_refl _) (Int.le_refl _)).trans ?_
  · have hi : e_wr (i + 1) = i + 1 := e_wr_id (by omega) (by omega)
    have hx : e_wr (x + 1) = x + 1 := e_wr_id (by omega) (by omega)
    have hx0 : e_wr (x + 0) = x := by rw [Int.add_zero]; exact e_wr_id (by omega) (by omega)
    rw [g_m_rank_47, zb_d, if_neg (by omega), zb_n, hi, hx, hx0, (ty i i0 i1).1]
    by_cases q : c r_x_typed 0 0 i = k
    · rw [if_pos q, decide_eq_true q, if_pos rfl]
    · rw [if_neg q, decide_eq_false q, if_neg (by decide)]
  · rw [Int.zero_add]
    show g_m_rank ((1047, [s, j, v, k, ztm c k, c r_x_typedCount 0 0 0]), m) = _
    rw [g_m_rank_47, zb_d, if_pos (by omega), hk, s4, l4, jl4, n4, e_and0 hv, e_and1 hv]
    have hff : (if (false = true) then (1 : Int) else 0) = 0 := rfl
    have htt : (if (true = true) then (1 : Int) else 0) = 1 := rfl
    unfold zrkM
    simp only [zb_d, zb_n]
    by_cases q1 : c r_Film_section k 0 0 = s
    · by_cases q2 : c r_Film_land k 0 0 = c r_Juror_land s j 0
      · have hdu : zdu c s j k = false := by
          unfold zdu
          rw [decide_eq_true q2, Bool.not_true, Bool.and_false]
        rw [if_pos q1, if_pos q2, hdu, Bool.false_and, Bool.or_false, hff]
        by_cases q3 : ztm c k = 0
        · rw [if_pos q3, decide_eq_true q3, if_neg (by decide)]
        · rw [if_neg q3, decide_eq_false q3, if_pos (by rfl)]
      · have hdu : zdu c s j k = true := by
          unfold zdu
          rw [decide_eq_true q1, decide_eq_false q2]
          rfl
        rw [if_pos q1, if_neg q2, hdu, Bool.true_and, htt]
        by_cases q3 : ztm c k = 1
        · rw [if_pos q3, decide_eq_true q3, Bool.not_true, Bool.false_or]
          by_cases q4 : c r_Juror_hasSeen s j k = 0
          · rw [if_pos q4, decide_eq_true q4, if_pos rfl]
          · rw [if_neg q4, decide_eq_false q4, if_neg (by decide)]
        · rw [if_neg q3, decide_eq_false q3, Bool.not_false, Bool.true_or, if_pos rfl]
    · have hdu : zdu c s j k = false := by
        unfold zdu
        rw [decide_eq_false q1, Bool.false_and]
      rw [if_neg q1, hdu, Bool.false_and, Bool.or_false, hff]
      by_cases q3 : ztm c k = 0
      · rw [if_pos q3, decide_eq_true q3, if_neg (by decide)]
      · rw [if_neg q3, decide_eq_false q3, if_pos (by rfl)]
/-- both ask for the same -/
theorem q_ballotS {c m : ZS} (hR : zR c m) (h : zTy c m) {s j : Int} : zrkC c s j = (decide (0 < c r_x_typedCount 0 0 0) && !zany (zrkM c s j) (c r_x_filmCount 0 0 0).toNat 0) := by
  obtain ⟨⟨a1, a2, a3⟩, -⟩ := id hR
  obtain ⟨-, ⟨t0, t1, t2⟩, ty⟩ := id h
  have hsum : zsum (ztm c) (c r_x_filmCount 0 0 0).toNat 0 = c r_x_typedCount 0 0 0 := by
    have := zsum_tm (t := fun k => c r_x_typed 0 0 k) a1 (c r_x_typedCount 0 0 0).toNat (fun k a b => (ty k a (by omega)).2)
    have e : ((c r_x_typedCount 0 0 0).toNat : Int) = c r_x_typedCount 0 0 0 := by omega
    rw [e] at this
    exact this
  have hD := zcnt_sum (p := zdu c s j) (c r_x_filmCount 0 0 0).toNat 0
  rw [Bool.eq_iff_iff]
  unfold zrkC
  rw [Bool.and_eq_true, Bool.and_eq_true, Bool.and_eq_true, decide_eq_true_eq, decide_eq_true_eq, decide_eq_true_eq, Bool.not_eq_true', Bool.not_eq_true', ← Bool.not_eq_true, ← Bool.not_eq_true, zany_iff, zany_iff]
  constructor
  · rintro ⟨h1, h2, h3⟩
    refine ⟨by omega, ?_⟩
    have hge : ∀ i, (0 : Int) ≤ i → i < 0 + ((c r_x_filmCount 0 0 0).toNat : Int) → (if zdu c s j i = true then 1 else 0) ≤ ztm c i := fun i i0 i1 => by
      have hle := zcnt_le (fun k => decide (c r_x_typed 0 0 k = i)) (c r_x_typedCount 0 0 0).toNat 0
      by_cases q : zdu c s j i = true
      · rw [if_pos q]
        have hne : zany (fun k => decide (c r_x_typed 0 0 k = i)) (c r_x_typedCount 0 0 0).toNat 0 = true := by
          cases e : zany (fun k => decide (c r_x_typed 0 0 k = i)) (c r_x_typedCount 0 0 0).toNat 0 with
          | true => rfl
          | false => exact absurd ⟨i, i0, i1, by rw [q, e]; simp⟩ h1
        have : ztm c i ≠ 0 := fun z => by
          have := (zcnt_none _ _).mp z
          rw [hne] at this
          cases this
        unfold ztm at this ⊢
        omega
      · rw [if_neg q]
        unfold ztm
        omega
    have heq := (zsum_eq (v := fun i => if zdu c s j i = true then 1 else 0) (w := ztm c) (c r_x_filmCount 0 0 0).toNat 0 hge).2 (by rw [hsum, ← hD]; exact h3)
    rintro ⟨i, i0, i1, hi⟩
    unfold zrkM at hi
    have e1 := heq i i0 i1
    (try dsimp only at e1)
    rw [← e1, decide_eq_true rfl, Bool.not_true, Bool.false_or, Bool.and_eq_true, decide_eq_true_eq] at hi
    exact h1 ⟨i, i0, i1, by rw [hi.1, decide_eq_true hi.2]; rfl⟩
  · rintro ⟨h1, h2⟩
    have heq : ∀ i, (0 : Int) ≤ i → i < 0 + ((c r_x_filmCount 0 0 0).toNat : Int) → ztm c i = (if zdu c s j i = true then 1 else 0) ∧ (zdu c s j i = true → c r_Juror_hasSeen s j i ≠ 0) := fun i i0 i1 => by
      have hn : zrkM c s j i = false := by
        cases e : zrkM c s j i with
        | false => rfl
        | true => exact absurd ⟨i, i0, i1, e⟩ h2
      unfold zrkM at hn
      rw [Bool.or_eq_false_iff, Bool.not_eq_false', decide_eq_true_eq] at hn
      refine ⟨hn.1, fun q z => ?_⟩
      rw [q, decide_eq_true z] at hn
      cases hn.2
    have hs2 : zsum (ztm c) (c r_x_filmCount 0 0 0).toNat 0 = zsum (fun i => if zdu c s j i = true then 1 else 0) (c r_x_filmCount 0 0 0).toNat 0 := zsum_cg _ 0 (fun i i0 i1 => (heq i i0 i1).1)
    refine ⟨?_, by omega, by omega⟩
    rintro ⟨i, i0, i1, hi⟩
    rw [Bool.and_eq_true, Bool.or_eq_true, decide_eq_true_eq, Bool.not_eq_true'] at hi
    obtain ⟨e1, e2⟩ := heq i i0 i1
    rcases hi.2 with z | z
    · exact e2 hi.1 z
    · rw [if_pos hi.1] at e1
      have := (zcnt_none _ _).mpr z
      unfold ztm at e1
      omega
/-- a ballot that is typed so has no film twice -/
theorem zrkM_inj {c m : ZS} (h : zTy c m) {s j : Int} (hz : zany (zrkM c s j) (c r_x_filmCount 0 0 0).toNat 0 = false) : ∀ k l, 0 ≤ k → k < l → l < c r_x_typedCount 0 0 0 → c r_x_typed 0 0 k ≠ c r_x_typed 0 0 l := by
  obtain ⟨-, ⟨t0, t1, t2⟩, ty⟩ := id h
  intro k l k0 kl l1 e
  obtain ⟨-, f0, f1⟩ := ty k k0 (by omega)
  have hn : zrkM c s j (c r_x_typed 0 0 k) = false := by
    cases e : zrkM c s j (c r_x_typed 0 0 k) with
    | false => rfl
    | true =>
      have := (zany_iff (p := zrkM c s j) (c r_x_filmCount 0 0 0).toNat 0).mpr ⟨_, f0, by omega, e⟩
      rw [hz] at this
      cases this
  unfold zrkM at hn
  rw [Bool.or_eq_false_iff, Bool.not_eq_false', decide_eq_true_eq] at hn
  have h1 : ztm c (c r_x_typed 0 0 k) ≤ 1 := by
    rw [hn.1]
    split <;> omega
  have hp : (fun i => decide (c r_x_typed 0 0 i = c r_x_typed 0 0 k)) k = true := decide_eq_true rfl
  have h2 := zcnt_one (p := fun i => decide (c r_x_typed 0 0 i = c r_x_typed 0 0 k)) (b := k) hp (c r_x_typedCount 0 0 0).toNat 0 k0 (by omega)
  have hp2 : (fun i => (fun i => decide (c r_x_typed 0 0 i = c r_x_typed 0 0 k)) i && decide (i ≠ k)) l = true := by
    show (decide (c r_x_typed 0 0 l = c r_x_typed 0 0 k) && decide (l ≠ k)) = true
    rw [decide_eq_true e.symm, decide_eq_true (show l ≠ k by omega)]
    rfl
  have h3 := zcnt_one (p := fun i => (fun i => decide (c r_x_typed 0 0 i = c r_x_typed 0 0 k)) i && decide (i ≠ k)) (b := l) hp2 (c r_x_typedCount 0 0 0).toNat 0 (by omega) (by omega)
  have h4 := zcnt_le (fun i => (fun i => (fun i => decide (c r_x_typed 0 0 i = c r_x_typed 0 0 k)) i && decide (i ≠ k)) i && decide (i ≠ l)) (c r_x_typedCount 0 0 0).toNat 0
  unfold ztm at h1
  (try dsimp only at h1 h2 h3 h4)
  omega
end
/-! part 71uc22 -/
section
/-! rank, wipe: both sides, the whole call -/
theorem q_vote {s j n : Int} {c : ZS} : ∀ (t : Nat) (k : Int) (S : ZS), 0 ≤ k → k + t = n → n ≤ 100 → S r_Juror_ballotSize s j 0 = n → (∀ r, (r == r_Juror_ballot) = false → S r = c r) → (∀ a b y, S r_Juror_ballot a b y = if a = s ∧ b = j ∧ 0 ≤ y ∧ y < k then c r_x_typed 0 0 y else c r_Juror_ballot a b y) → ∃ S', g_Juror_vote ((1017, [s, j, k]), S) = ((0, []), S') ∧ (∀ r, (r == r_Juror_ballot) = false → S' r = c r) ∧ ∀ a b y, S' r_Juror_ballot a b y = if a = s ∧ b = j ∧ 0 ≤ y ∧ y < n then c r_x_typed 0 0 y else c r_Juror_ballot a b y := by
  intro t
  induction t with
  | zero =>
    intro k S k0 k1 n100 hS fr h
    have e : k = n := by omega
    rw [e] at h
    exact ⟨S, by rw [g_Juror_vote_17, zb_d, hS, if_pos (by omega)], fr, h⟩
  | succ t ih =>
    intro k S k0 k1 n100 hS fr h
    have hk : e_wr (k + 1) = k + 1 := e_wr_id (by omega) (by omega)
    rw [g_Juror_vote_17, zb_d, hS, if_neg (by omega), hk, fr r_x_typed (by decide)]
    refine ih (k + 1) _ (by omega) (by omega) n100 (by rw [e_un (by decide)]; exact hS) (fun r hr => ?_) (fun a b y => ?_)
    · rw [← fr r hr]
      funext x y z
      exact e_un hr
    · rw [e_ur, h]
      by_cases q : a = s ∧ b = j ∧ y = k
      · rw [if_pos q, if_pos ⟨q.1, q.2.1, by omega, by omega⟩, q.2.2]
      · rw [if_neg q]
        by_cases w : a = s ∧ b = j ∧ 0 ≤ y ∧ y < k
        · rw [if_pos w, if_pos ⟨w.1, w.2.1, w.2.2.1, by omega⟩]
        · rw [if_neg w, if_neg (fun z => w ⟨z.1, z.2.1, z.2.2.1, by
            have : y ≠ k := fun v => q ⟨z.1, z.2.1, v⟩
            omega⟩)]
theorem q_ballots {c m : ZS} (hJ : zJu c m) (hB : zBa c m) {s : Int} (s0 : 0 ≤ s) (s1 : s < 5) : ∃ v, f_Section_countBallots [s] c = ((0, [v]), c) ∧ f_m_ballotsOf [s] m = ((0, [v]), m) := by
  obtain ⟨⟨u0, u1, u2⟩, -⟩ := hJ s s0 s1
  show ∃ v, g_Section_countBallots ((1000, [s]), c) = ((0, [v]), c) ∧ g_m_ballotsOf ((1000, [s]), m) = ((0, [v]), m)
  rw [g_Section_countBallots_0, g_m_ballotsOf_0]
  refine z_sync (n := c r_Section_jurorCount s 0 0) (A := fun (a : Int) k => g_Section_countBallots ((1004, [s, a, k]), c)) (B := fun (b : Int) k => g_m_ballotsOf ((1004, [s, b, k]), m)) (R := fun k a b => a = b ∧ e_wr b = b) (Goal := fun A B => ∃ v, A = ((0, [v]), c) ∧ B = ((0, [v]), m)) ?_ ?_ (c r_Section_jurorCount s 0 0).toNat 0 0 0 (Int.le_refl _) (by omega) ⟨rfl, e_wr_id (by omega) (by omega)⟩
  · rintro a b ⟨e1, e2⟩
    subst e1
    refine ⟨a, ?_, ?_⟩
    · show g_Section_countBallots ((1004, [s, a, c r_Section_jurorCount s 0 0]), c) = _
      rw [g_Section_countBallots_4, zb_d, if_pos (Int.le_refl _)]
    · show g_m_ballotsOf ((1004, [s, a, c r_Section_jurorCount s 0 0]), m) = _
      rw [g_m_ballotsOf_4, zb_d, if_pos (by omega)]
  · rintro k a b k0 k1 ⟨e1, e2⟩
    subst e1
    have hk : e_wr (k + 1) = k + 1 := e_wr_id (by omega) (by omega)
    have e4 := (hB s k s0 s1 k0 (by omega)).1.2.2
    have eC := g_Section_countBallots_4 (x1 := s) (x2 := a) (x3 := k) (S := c)
    rw [zb_d, if_neg (by omega), zb_d, hk] at eC
    have eM := g_m_ballotsOf_4 (x1 := s) (x2 := a) (x3 := k) (S := m)
    rw [zb_d, if_neg (by omega), zb_d, hk, e4, Int.add_zero, e2] at eM
    by_cases q : c r_Juror_ballotSize s k 0 ≤ 0
    · rw [if_pos q] at eC eM
      exact ⟨a, a, eC, eM, rfl, e2⟩
    · rw [if_neg q] at eC eM
      exact ⟨_, _, eC, eM, rfl, e_wr_wr⟩
theorem o_rank {s j : Int} {c m : ZS} (hR : zR c m) (hF : zFs c m) (hU : zRu c m) (hT : zTy c m) (hJ : zJu c m) (hN : zSn c m) (hB : zBa c m) : zBo (zAnd zTy zBa) (f_w_rank [s, j] c) (f_m_rank [s, j] m) := by
  obtain ⟨⟨d1, d2, d3⟩, -⟩ := id hU
  obtain ⟨tl, ⟨t0, t1, t2⟩, ty⟩ := id hT
  have a1 := hR.1
  show zBo (zAnd zTy zBa) (e_try (f_x_rank [s, j] c) (fun v1 S1 => ((0, [0]), e_upd S1 r_out 0 0 0 v1)) [(0, 1), (3, 2)]) (g_m_rank ((1000, [s, j]), m))
  rw [g_m_rank_0, q_noJuror (by omega) (by omega) (fun a b => by have := (hJ s a (by omega)).1; omega), d3]
  unfold f_x_rank
  dsimp only
  rw [q_section d1 (by omega)]
  by_cases hs : 0 ≤ s ∧ s < c r_x_sectionCount 0 0 0
  · obtain ⟨⟨j0, j1, j2⟩, jl⟩ := hJ s hs.1 (by omega)
    rw [if_pos hs, e_b_ok, q_juror j0 (by omega), j2]
    by_cases hj : 0 ≤ j ∧ j < c r_Section_jurorCount s 0 0
    · rw [if_pos hj, if_pos ⟨hs, hj⟩, e_b_ok, q_ballotC hR hT, e_bnd]
      simp (decide := true) only [zb_n, zb_d, ↓reduceIte, Int.reduceEq, t2]
      have hm1 : zR c (e_upd m r_m_thrown 0 0 0 0) := hR.thr
      have b0 := q_ballotM hm1 hF.thr hT.thr hJ.thr hN.thr hs.1 (show s < 5 by omega) hj.1 hj.2 zbit0
      have b1 := q_ballotM hm1 hF.thr hT.thr hJ.thr hN.thr hs.1 (show s < 5 by omega) hj.1 hj.2 zbit1
      have eM : (if c r_x_typedCount 0 0 0 ≤ 0 then g_m_rank ((1032, [s, j, 0, 0]), e_upd m r_m_thrown 0 0 0 0) else g_m_rank ((1032, [s, j, 1, 0]), e_upd m r_m_thrown 0 0 0 0)) = g_m_rank ((1032, [s, j, zb (zrkC c s j), c r_x_filmCount 0 0 0]), e_upd m r_m_thrown 0 0 0 0) := by
        rw [q_ballotS hR hT, b0, b1]
        by_cases q : c r_x_typedCount 0 0 0 ≤ 0
        · rw [if_pos q, decide_eq_false (by omega), ite_self]
          rfl
        · rw [if_neg q, decide_eq_true (by omega)]
          cases zany (zrkM c s j) (c r_x_filmCount 0 0 0).toNat 0 <;> rfl
      rw [eM]
      have eE := g_m_rank_32 (x1 := s) (x2 := j) (x3 := zb (zrkC c s j)) (x4 := c r_x_filmCount 0 0 0) (S := e_upd m r_m_thrown 0 0 0 0)
      rw [zb_d, if_pos (by rw [e_un (by decide)]; omega), zb_n] at eE
      rw [eE]
      cases hz : zrkC c s j
      · rw [if_pos (by decide), if_pos (by decide)]
        exact ⟨2, 0, _, _, rfl, rfl, ⟨hT.thr.thr, hB.thr.thr⟩, e_us, fun q => absurd q (by decide)⟩
      · rw [if_neg (by decide), if_neg (by decide)]
        rw [q_ballotS hR hT, Bool.and_eq_true, decide_eq_true_eq, Bool.not_eq_true'] at hz
        have inj := zrkM_inj hT hz.2
        have hsz : (if (if 9 < c r_x_typed_len 0 0 0 then (9 : Int) else c r_x_typed_len 0 0 0) < c r_x_typedCount 0 0 0 then (if 9 < c r_x_typed_len 0 0 0 then (9 : Int) else c r_x_typed_len 0 0 0) else c r_x_typedCount 0 0 0) = c r_x_typedCount 0 0 0 := by
          rw [tl, if_neg (show ¬ (9 : Int) < 9 by decide), if_neg (by omega)]
        obtain ⟨V, p1, p2, p3⟩ := q_vote (s := s) (j := j) (n := c r_x_typedCount 0 0 0) (c := e_upd c r_Juror_ballotSize s j 0 (c r_x_typedCount 0 0 0)) (c r_x_typedCount 0 0 0).toNat 0 _ (Int.le_refl _) (by omega) (by omega) e_us (fun _ _ => rfl) (fun a b y => by rw [if_neg (fun z => by omega)])
        have e1 : f_Juror_vote [s, j, c r_x_typedCount 0 0 0] c = ((0, []), V) := by
          show g_Juror_vote ((1000, [s, j, c r_x_typedCount 0 0 0]), c) = _
          rw [g_Juror_vote_0, hsz]
          exact p1
        rw [e1, e_bnd0]
        have v1 : ∀ r, (r == r_Juror_ballot) = false → (r == r_Juror_ballotSize) = false → V r = c r := fun r h1 h2 => by
          rw [p2 r h1]
          funext a b d
          exact e_un h2
        have v2 : ∀ a b, V r_Juror_ballotSize a b 0 = if a = s ∧ b = j then c r_x_typedCount 0 0 0 else c r_Juror_ballotSize a b 0 := fun a b => by
          rw [p2 _ (by decide), e_ur]
          by_cases w : a = s ∧ b = j
          · rw [if_pos w, if_pos ⟨w.1, w.2, rfl⟩]
          · rw [if_neg w, if_neg (fun z => w ⟨z.1, z.2.1⟩)]
        have v3 : ∀ a b y, V r_Juror_ballot a b y = if a = s ∧ b = j ∧ 0 ≤ y ∧ y < c r_x_typedCount 0 0 0 then c r_x_typed 0 0 y else c r_Juror_ballot a b y := fun a b y => by
          rw [p3, e_un (by decide), e_un (by decide)]
        have hty : (e_acp (e_upd (e_upd m r_m_thrown 0 0 0 0) r_m_thrown 0 0 0 0) r_m_typed 0 0 0 r_m_ballots_r_r s j 0 9) r_m_typedMany 0 0 0 = c r_x_typedCount 0 0 0 := by
          rw [e_an (by decide), e_un (by decide), e_un (by decide), t2]
        rw [hty]
        have hBa : zBa (e_upd V r_x_typedCount 0 0 0 0) (e_upd (e_upd (e_acp (e_upd (e_upd m r_m_thrown 0 0 0 0) r_m_thrown 0 0 0 0) r_m_typed 0 0 0 r_m_ballots_r_r s j 0 9) r_m_ballotMany_r s 0 j (c r_x_typedCount 0 0 0)) r_m_typedMany 0 0 0 0) := fun t u a0 a1 b0 b1 => by
          obtain ⟨⟨y0, y1, y2⟩, yb, yi⟩ := hB t u a0 a1 b0 b1
          simp (decide := true) only [e_un, e_ur, e_an, v2, v3]
          rw [v1 r_x_filmCount (by decide) (by decide)]
          by_cases w : t = s ∧ u = j
          · obtain ⟨w1, w2⟩ := w
            subst w1
            subst w2
            simp (decide := true) only [and_self, ↓reduceIte, true_and]
            refine ⟨⟨t0, t1, trivial⟩, fun k k0 k1 => ?_, fun k l k0 kl l1 => ?_⟩
            · rw [e_as, if_pos (by omega), if_pos ⟨k0, k1⟩]
              simp (decide := true) only [e_un, Int.sub_zero, Int.add_zero]
              exact ty k k0 k1
            · rw [if_pos ⟨k0, by omega⟩, if_pos ⟨by omega, l1⟩]
              exact inj k l k0 kl l1
          · have w2 : ∀ {z : Prop}, ¬ (t = s ∧ u = j ∧ z) := fun {z} y => w ⟨y.1, y.2.1⟩
            have w3 : ¬ (t = s ∧ True ∧ u = j) := fun y => w ⟨y.1, y.2.2⟩
            have w4 : ∀ y, e_acp (e_upd (e_upd m r_m_thrown 0 0 0 0) r_m_thrown 0 0 0 0) r_m_typed 0 0 0 r_m_ballots_r_r s j 0 9 r_m_ballots_r_r t u y = (e_upd (e_upd m r_m_thrown 0 0 0 0) r_m_thrown 0 0 0 0) r_m_ballots_r_r t u y := fun y => if_neg (fun z => w ⟨z.2.1, z.2.2.1⟩)
            rw [if_neg w, if_neg w3]
            refine ⟨⟨y0, y1, y2⟩, fun k k0 k1 => ?_, fun k l k0 kl l1 => ?_⟩
            · rw [w4, if_neg w2, e_un (by decide), e_un (by decide)]
              exact yb k k0 k1
            · rw [if_neg w2, if_neg w2]
              exact yi k l k0 kl l1
        have hTy : zTy (e_upd V r_x_typedCount 0 0 0 0) (e_upd (e_upd (e_acp (e_upd (e_upd m r_m_thrown 0 0 0 0) r_m_thrown 0 0 0 0) r_m_typed 0 0 0 r_m_ballots_r_r s j 0 9) r_m_ballotMany_r s 0 j (c r_x_typedCount 0 0 0)) r_m_typedMany 0 0 0 0) := by
          refine ⟨?_, ?_, fun k k0 k1 => ?_⟩
          · rw [e_un (by decide), v1 _ (by decide) (by decide)]
            exact tl
          · simp (decide := true) only [e_us]
          · rw [e_us] at k1
            omega
        have hJu : zJu (e_upd V r_x_typedCount 0 0 0 0) (e_upd (e_upd (e_acp (e_upd (e_upd m r_m_thrown 0 0 0 0) r_m_thrown 0 0 0 0) r_m_typed 0 0 0 r_m_ballots_r_r s j 0 9) r_m_ballotMany_r s 0 j (c r_x_typedCount 0 0 0)) r_m_typedMany 0 0 0 0) := by
          unfold zJu
          simp (decide := true) only [e_un, e_an]
          rw [v1 r_Section_jurorCount (by decide) (by decide), v1 r_Juror_land (by decide) (by decide)]
          exact hJ
        obtain ⟨v, c1, c2⟩ := q_ballots hJu hBa hs.1 (show s < 5 by omega)
        rw [c1, e_bnd, c2, e_bnd]
        refine ⟨0, _, _, _, rfl, rfl, ⟨hTy.out, hBa.out⟩, ?_, fun _ => e_us⟩
        simp (decide := true) only [e_un, e_an, e_us]
    · rw [if_neg hj, if_neg (fun z => hj z.2), e_b_x (by decide) (by decide)]
      simp (decide := true) only [zb_n, zb_d, ↓reduceIte]
      exact ⟨1, 0, _, _, rfl, rfl, ⟨hT.thr, hB.thr⟩, e_us, fun q => absurd q (by decide)⟩
  · rw [if_neg hs, if_neg (fun z => hs z.1), e_b_x (by decide) (by decide)]
    simp (decide := true) only [zb_n, zb_d, ↓reduceIte]
    exact ⟨1, 0, _, _, rfl, rfl, ⟨hT.thr, hB.thr⟩, e_us, fun q => absurd q (by decide)⟩
theorem o_wipe {c m : ZS} (hT : zTy c m) : zDi zTy (f_x_wipe [] c) (f_m_wipe [] m) := by
  obtain ⟨tl, ⟨t0, t1, t2⟩, ty⟩ := id hT
  refine ⟨c r_x_typedCount 0 0 0, _, e_upd (e_upd m r_m_thrown 0 0 0 0) r_m_typedMany 0 0 0 0, rfl, ?_, ?_⟩
  · unfold f_m_wipe
    dsimp only
    rw [t2]
  · refine ⟨?_, ?_, fun k k0 k1 => ?_⟩
    · rw [e_un (by decide)]
      exact tl
    · simp (decide := true) only [e_us]
    · rw [e_us] at k1
      omega
end
/-! part 71uc23 -/
section
/-! Ballots counted: both sides -/
def zon (c : ZS) (s j f : Int) : Bool := zany (fun k => decide (c r_Juror_ballot s j k = f)) (c r_Juror_ballotSize s j 0).toNat 0
def zob (c : ZS) (s f : Int) : Bool := zany (fun j => zon c s j f) (c r_Section_jurorCount s 0 0).toNat 0
def zrk (c : ZS) (s f : Int) : Bool := decide (c r_Count_isOut 0 0 f = 0) && zob c s f
def zLf (s : Int) (c m : ZS) : Prop := ∀ f, 0 ≤ f → f < c r_x_filmCount 0 0 0 → (m r_m_areLeft 0 0 f ≠ 0 ↔ zrk c s f = true)
def zWb (s : Int) (c m : ZS) : Prop := (0 ≤ s ∧ s < 5) ∧ (0 ≤ c r_x_filmCount 0 0 0 ∧ c r_x_filmCount 0 0 0 ≤ 20 ∧ m r_m_films 0 0 0 = c r_x_filmCount 0 0 0) ∧ zBa c m ∧ zJu c m
def zWc (s : Int) (c m : ZS) : Prop := zWb s c m ∧ zLf s c m
theorem zWc.left {s j k : Int} {c m : ZS} (h : zWc s c m) (j0 : 0 ≤ j) (j1 : j < c r_Section_jurorCount s 0 0) (k0 : 0 ≤ k) (k1 : k < c r_Juror_ballotSize s j 0) : zob c s (c r_Juror_ballot s j k) = true ∧ (m r_m_areLeft 0 0 (c r_Juror_ballot s j k) = 0 ↔ ¬ c r_Count_isOut 0 0 (c r_Juror_ballot s j k) = 0) := by
  obtain ⟨⟨⟨s0, s1⟩, -, hB, hJ⟩, hL⟩ := h
  obtain ⟨⟨u0, u1, -⟩, -⟩ := hJ s s0 s1
  obtain ⟨-, hb, -⟩ := hB s j s0 s1 j0 (by omega)
  obtain ⟨-, b0, b1⟩ := hb k k0 k1
  have ho : zob c s (c r_Juror_ballot s j k) = true := (zany_iff _ _).mpr ⟨j, j0, by omega, (zany_iff _ _).mpr ⟨k, k0, by omega, decide_eq_true rfl⟩⟩
  refine ⟨ho, ?_⟩
  have := hL _ b0 b1
  unfold zrk at this
  rw [ho, Bool.and_true, decide_eq_true_eq] at this
  constructor
  · intro z w
    exact this.mpr w z
  · intro z
    by_cases w : m r_m_areLeft 0 0 (c r_Juror_ballot s j k) = 0
    · exact w
    · exact absurd (this.mp w) z
noncomputable def zfo (c : ZS) (s j : Int) : Int := (f_Count_firstOn [s, j] c).1.2.getD 0 0
theorem q_first {s j : Int} {c m : ZS} (h : zWc s c m) (j0 : 0 ≤ j) (j1 : j < c r_Section_jurorCount s 0 0) : f_Count_firstOn [s, j] c = ((0, [zfo c s j]), c) ∧ f_m_firstOf [s, j] m = ((0, [zfo c s j]), m) ∧ (zfo c s j = -1 ∨ (0 ≤ zfo c s j ∧ zfo c s j < c r_x_filmCount 0 0 0 ∧ zrk c s (zfo c s j) = true)) ∧ (∀ k, 0 ≤ k → k < c r_Juror_ballotSize s j 0 → c r_Count_isOut 0 0 (c r_Juror_ballot s j k) = 0 → zfo c s j ≠ -1) := by
  obtain ⟨⟨⟨s0, s1⟩, -, hB, hJ⟩, -⟩ := id h
  obtain ⟨⟨u0, u1, -⟩, -⟩ := hJ s s0 s1
  obtain ⟨⟨n0, n1, n2⟩, hb, -⟩ := hB s j s0 s1 j0 (by omega)
  have key : ∀ (t : Nat) (k : Int), 0 ≤ k → k + t = c r_Juror_ballotSize s j 0 → ∃ v, g_Count_firstOn ((1002, [s, j, k]), c) = ((0, [v]), c) ∧ g_m_firstOf ((1002, [s, j, k]), m) = ((0, [v]), m) ∧ (v = -1 ∨ (0 ≤ v ∧ v < c r_x_filmCount 0 0 0 ∧ zrk c s v = true)) ∧ (∀ i, k ≤ i → i < c r_Juror_ballotSize s j 0 → c r_Count_isOut 0 0 (c r_Juror_ballot s j i) = 0 → v ≠ -1) := by
    intro t
    induction t with
    | zero =>
      intro k k0 k1
      refine ⟨-1, ?_, ?_, Or.inl rfl, fun i a b => by omega⟩
      · rw [g_Count_firstOn_2, zb_d, if_pos (by omega)]
      · rw [g_m_firstOf_2, zb_d, if_pos (by omega)]
    | succ t ih =>
      intro k k0 k1
      have hk : e_wr (k + 1) = k + 1 := e_wr_id (by omega) (by omega)
      obtain ⟨b1, b2, b3⟩ := hb k k0 (by omega)
      obtain ⟨ho, hl⟩ := h.left j0 j1 k0 (show k < c r_Juror_ballotSize s j 0 by omega)
      rw [g_Count_firstOn_2, zb_d, if_neg (by omega), zb_n, hk]
      have eM := g_m_firstOf_2 (x1 := s) (x2 := j) (x3 := k) (S := m)
      rw [zb_d, if_neg (by omega), zb_d, b1, hk] at eM
      rw [eM]
      by_cases q : c r_Count_isOut 0 0 (c r_Juror_ballot s j k) = 0
      · rw [if_pos q, if_neg (fun z => hl.mp z q)]
        refine ⟨_, rfl, rfl, Or.inr ⟨b2, b3, ?_⟩, fun i _ _ _ => by omega⟩
        unfold zrk
        rw [ho, decide_eq_true q]
        rfl
      · rw [if_neg q, if_pos (hl.mpr q)]
        obtain ⟨v, v1, v2, v3, v4⟩ := ih (k + 1) (by omega) (by omega)
        refine ⟨v, v1, v2, v3, fun i i0 i1 hi => ?_⟩
        by_cases e : i = k
        · rw [e] at hi
          exact absurd hi q
        · exact v4 i (by omega) i1 hi
  obtain ⟨v, v1, v2, v3, v4⟩ := key (c r_Juror_ballotSize s j 0).toNat 0 (Int.le_refl _) (by omega)
  have e1 : f_Count_firstOn [s, j] c = ((0, [v]), c) := by
    show g_Count_firstOn ((1000, [s, j]), c) = _
    rw [g_Count_firstOn_0]
    exact v1
  have e2 : f_m_firstOf [s, j] m = ((0, [v]), m) := by
    show g_m_firstOf ((1000, [s, j]), m) = _
    rw [g_m_firstOf_0]
    exact v2
  have e3 : zfo c s j = v := by
    unfold zfo
    rw [e1]
    rfl
  rw [e3]
  exact ⟨e1, e2, v3, v4⟩
noncomputable def zpo (c : ZS) (s j f : Int) : Int := (f_Count_placeOn [s, j, f] c).1.2.getD 0 0
theorem q_placeOn {s j f : Int} {c m : ZS} (h : zWb s c m) (j0 : 0 ≤ j) (j1 : j < c r_Section_jurorCount s 0 0) : f_Count_placeOn [s, j, f] c = ((0, [zpo c s j f]), c) ∧ f_m_placeOf [s, j, f] m = ((0, [zpo c s j f]), m) ∧ (-1 ≤ zpo c s j f ∧ zpo c s j f < 9) ∧ (zon c s j f = !decide (zpo c s j f = -1)) := by
  obtain ⟨⟨s0, s1⟩, -, hB, hJ⟩ := id h
  obtain ⟨⟨u0, u1, -⟩, -⟩ := hJ s s0 s1
  obtain ⟨⟨n0, n1, n2⟩, hb, inj⟩ := hB s j s0 s1 j0 (by omega)
  have hM : ∀ k x, 0 ≤ k → k < c r_Juror_ballotSize s j 0 → g_m_placeOf ((1006, [s, j, f, x, k]), m) = g_m_placeOf ((1006, [s, j, f, if c r_Juror_ballot s j k = f then k else x, k + 1]), m) := fun k x k0 k1 => by
    have hk : e_wr (k + 1) = k + 1 := e_wr_id (by omega) (by omega)
    rw [g_m_placeOf_6, zb_d, if_neg (by omega), zb_n, (hb k k0 k1).1, hk]
    by_cases q : c r_Juror_ballot s j k = f
    · rw [if_pos q, if_pos q]
    · rw [if_neg q, if_neg q]
  have rest : ∀ (t : Nat) (k x : Int), 0 ≤ k → k + t = c r_Juror_ballotSize s j 0 → (∀ i, k ≤ i → i < c r_Juror_ballotSize s j 0 → ¬ c r_Juror_ballot s j i = f) → g_m_placeOf ((1006, [s, j, f, x, k]), m) = ((0, [x]), m) := by
    intro t
    induction t with
    | zero =>
      intro k x k0 k1 hn
      rw [g_m_placeOf_6, zb_d, if_pos (by omega)]
    | succ t ih =>
      intro k x k0 k1 hn
      rw [hM k x k0 (by omega), if_neg (hn k (Int.le_refl _) (by omega))]
      exact ih (k + 1) x (by omega) (by omega) (fun i a b => hn i (by omega) b)
  have key : ∀ (t : Nat) (k : Int), 0 ≤ k → k + t = c r_Juror_ballotSize s j 0 → ∃ v, g_Count_placeOn ((1002, [s, j, f, k]), c) = ((0, [v]), c) ∧ g_m_placeOf ((1006, [s, j, f, -1, k]), m) = ((0, [v]), m) ∧ (-1 ≤ v ∧ v < 9) ∧ zany (fun k => decide (c r_Juror_ballot s j k = f)) t k = !decide (v = -1) := by
    intro t
    induction t with
    | zero =>
      intro k k0 k1
      refine ⟨-1, ?_, rest 0 k (-1) k0 k1 (fun i a b => by omega), by omega, rfl⟩
      rw [g_Count_placeOn_2, zb_d, if_pos (by omega)]
    | succ t ih =>
      intro k k0 k1
      have hk : e_wr (k + 1) = k + 1 := e_wr_id (by omega) (by omega)
      rw [g_Count_placeOn_2, zb_d, if_neg (by omega), zb_n, hk, hM k (-1) k0 (by omega), zany]
      by_cases q : c r_Juror_ballot s j k = f
      · rw [if_pos q, if_pos q, decide_eq_true q, Bool.true_or, rest t (k + 1) k (by omega) (by omega) (fun i a b z => inj k i k0 (by omega) b (q.trans z.symm))]
        exact ⟨k, rfl, rfl, by omega, by rw [decide_eq_false (by omega)]; rfl⟩
      · rw [if_neg q, if_neg q, decide_eq_false q, Bool.false_or]
        exact ih (k + 1) (by omega) (by omega)
  obtain ⟨v, v1, v2, v3, v4⟩ := key (c r_Juror_ballotSize s j 0).toNat 0 (Int.le_refl _) (by omega)
  have e1 : f_Count_placeOn [s, j, f] c = ((0, [v]), c) := by
    show g_Count_placeOn ((1000, [s, j, f]), c) = _
    rw [g_Count_placeOn_0]
    exact v1
  have e2 : f_m_placeOf [s, j, f] m = ((0, [v]), m) := by
    show g_m_placeOf ((1000, [s, j, f]), m) = _
    rw [g_m_placeOf_0]
    exact v2
  have e3 : zpo c s j f = v := by
    unfold zpo
    rw [e1]
    rfl
  rw [e3]
  exact ⟨e1, e2, v3, v4⟩
noncomputable def zfs (c : ZS) (s f : Int) : Int := zcnt (fun j => decide (zfo c s j = f)) (c r_Section_jurorCount s 0 0).toNat 0
theorem q_firsts {s f : Int} {c m : ZS} (h : zWc s c m) : f_Count_firstsOf [s, f] c = ((0, [zfs c s f]), c) ∧ f_m_firsts [s, f] m = ((0, [zfs c s f]), m) := by
  obtain ⟨⟨⟨s0, s1⟩, -, hB, hJ⟩, -⟩ := id h
  obtain ⟨⟨u0, u1, u2⟩, -⟩ := hJ s s0 s1
  constructor
  · show g_Count_firstsOf ((1000, [s, f]), c) = _
    rw [g_Count_firstsOf_0]
    refine (zl_cnt (n := c r_Section_jurorCount s 0 0) (p := fun j => decide (zfo c s j = f)) (fin := fun x => ((0, [x]), c)) (G := fun x k => g_Count_firstsOf ((1005, [s, f, x, k]), c)) (fun x k e => ?_) (fun x k k0 k1 x0 x1 => ?_) (c r_Section_jurorCount s 0 0).toNat 0 0 (Int.le_refl _) (by omega) (Int.le_refl _) (Int.le_refl _)).trans ?_
    · rw [g_Count_firstsOf_5, zb_d, if_pos (by omega)]
    · have hk : e_wr (k + 1) = k + 1 := e_wr_id (by omega) (by omega)
      have hx : e_wr (x + 1) = x + 1 := e_wr_id (by omega) (by omega)
      rw [g_Count_firstsOf_5, zb_d, if_neg (by omega), (q_first h k0 k1).1, e_bnd, zb_n, hk, hx]
      by_cases q : zfo c s k = f
      · rw [if_pos q, decide_eq_true q, if_pos rfl]
      · rw [if_neg q, decide_eq_false q, if_neg (by decide)]
    · rw [Int.zero_add]
      rfl
  · show g_m_firsts ((1000, [s, f]), m) = _
    rw [g_m_firsts_0]
    refine (zl_cnt (n := c r_Section_jurorCount s 0 0) (p := fun j => decide (zfo c s j = f)) (fin := fun x => ((0, [x]), m)) (G := fun x k => g_m_firsts ((1005, [s, f, x, k]), m)) (fun x k e => ?_) (fun x k k0 k1 x0 x1 => ?_) (c r_Section_jurorCount s 0 0).toNat 0 0 (Int.le_refl _) (by omega) (Int.le_refl _) (Int.le_refl _)).trans ?_
    · rw [g_m_firsts_5, zb_d, if_pos (by omega)]
    · have hk : e_wr (k + 1) = k + 1 := e_wr_id (by omega) (by omega)
      have hx : e_wr (x + 1) = x + 1 := e_wr_id (by omega) (by omega)
      have hx0 : e_wr (x + 0) = x := by rw [Int.add_zero]; exact e_wr_id (by omega) (by omega)
      rw [g_m_firsts_5, zb_d, if_neg (by omega), (q_first h k0 k1).2.1, e_bnd, zb_n, hk, hx, hx0]
      by_cases q : zfo c s k = f
      · rw [if_pos q, decide_eq_true q, if_pos rfl]
      · rw [if_neg q, decide_eq_false q, if_neg (by decide)]
    · rw [Int.zero_add]
      rfl
theorem q_isRanked {s f : Int} {c m : ZS} (h : zWc s c m) : f_Count_isRanked [s, f] c = ((0, [zb (zrk c s f)]), c) := by
  obtain ⟨⟨⟨s0, s1⟩, -, hB, hJ⟩, -⟩ := id h
  obtain ⟨⟨u0, u1, u2⟩, -⟩ := hJ s s0 s1
  show g_Count_isRanked ((1000, [s, f]), c) = _
  rw [g_Count_isRanked_0]
  refine (zl_any (n := c r_Section_jurorCount s 0 0) (p := fun j => decide (c r_Count_isOut 0 0 f = 0) && zon c s j f) (A := ((0, [1]), c)) (B := ((0, [0]), c)) (G := fun k => g_Count_isRanked ((1002, [s, f, k]), c)) (fun k hk => ?_) (fun k k0 k1 => ?_) (c r_Section_jurorCount s 0 0).toNat 0 (Int.le_refl _) (by omega)).trans ?_
  · rw [g_Count_isRanked_2, zb_d, if_pos (by omega)]
  · have hk : e_wr (k + 1) = k + 1 := e_wr_id (by omega) (by omega)
    obtain ⟨p1, -, -, p4⟩ := q_placeOn (f := f) h.1 k0 k1
    rw [g_Count_isRanked_2, zb_d, if_neg (by omega), zb_n, p1, e_bnd, zb_d, hk, p4]
    by_cases q : c r_Count_isOut 0 0 f = 0
    · rw [if_pos q, decide_eq_true q, Bool.true_and]
      by_cases w : zpo c s k f = -1
      · rw [if_pos w, decide_eq_true w, if_neg (by decide)]
      · rw [if_neg w, decide_eq_false w, if_pos (by rfl)]
    · rw [if_neg q, decide_eq_false q, Bool.false_and, if_neg (by decide)]
  · have e : zany (fun j => decide (c r_Count_isOut 0 0 f = 0) && zon c s j f) (c r_Section_jurorCount s 0 0).toNat 0 = zrk c s f := by
      unfold zrk zob
      by_cases q : c r_Count_isOut 0 0 f = 0
      · rw [decide_eq_true q, Bool.true_and]
        exact zany_cg _ 0 (fun i _ _ => Bool.true_and _)
      · rw [decide_eq_false q, Bool.false_and]
        cases e : zany (fun j => false && zon c s j f) (c r_Section_jurorCount s 0 0).toNat 0 with
        | false => rfl
        | true =>
          obtain ⟨i, -, -, hi⟩ := (zany_iff _ _).mp e
          rw [Bool.false_and] at hi
          cases hi
    rw [e]
    unfold zb
    split <;> rfl
noncomputable def zpt (c : ZS) (s f : Int) : Int := (f_Count_pointsOf [s, f] c).1.2.getD 0 0
theorem q_points {s f : Int} {c m : ZS} (h : zWc s c m) : f_Count_pointsOf [s, f] c = ((0, [zpt c s f]), c) ∧ f_m_points [s, f] m = ((0, [zpt c s f]), m) ∧ 0 ≤ zpt c s f := by
  obtain ⟨⟨⟨s0, s1⟩, -, hB, hJ⟩, -⟩ := id h
  obtain ⟨⟨u0, u1, u2⟩, -⟩ := hJ s s0 s1
  have key : ∃ v, f_Count_pointsOf [s, f] c = ((0, [v]), c) ∧ f_m_points [s, f] m = ((0, [v]), m) ∧ 0 ≤ v := by
    show ∃ v, g_Count_pointsOf ((1000, [s, f]), c) = ((0, [v]), c) ∧ g_m_points ((1000, [s, f]), m) = ((0, [v]), m) ∧ 0 ≤ v
    rw [g_Count_pointsOf_0, g_m_points_0]
    have hG : (∃ v, g_Count_pointsOf ((1005, [s, f, 0, 0]), c) = ((0, [v]), c) ∧ g_m_points ((1005, [s, f, 0, 0]), m) = ((0, [v]), m) ∧ 0 ≤ v) = (fun A B : ZR => ∃ v, A = ((0, [v]), c) ∧ B = ((0, [v]), m) ∧ 0 ≤ v) (g_Count_pointsOf ((1005, [s, f, 0, 0]), c)) (g_m_points ((1005, [s, f, 0, 0]), m)) := rfl
    rw [hG]
    refine z_sync (n := c r_Section_jurorCount s 0 0) (A := fun (a : Int) k => g_Count_pointsOf ((1005, [s, f, a, k]), c)) (B := fun (b : Int) k => g_m_points ((1005, [s, f, b, k]), m)) (R := fun k a b => a = b ∧ 0 ≤ b ∧ b ≤ 9 * k) (Goal := fun A B => ∃ v, A = ((0, [v]), c) ∧ B = ((0, [v]), m) ∧ 0 ≤ v) ?_ ?_ (c r_Section_jurorCount s 0 0).toNat 0 0 0 (Int.le_refl _) (by omega) ⟨rfl, Int.le_refl _, by omega⟩
    · rintro a b ⟨e1, e2, -⟩
      subst e1
      refine ⟨a, ?_, ?_, e2⟩
      · show g_Count_pointsOf ((1005, [s, f, a, c r_Section_jurorCount s 0 0]), c) = _
        rw [g_Count_pointsOf_5, zb_d, if_pos (Int.le_refl _)]
      · show g_m_points ((1005, [s, f, a, c r_Section_jurorCount s 0 0]), m) = _
        rw [g_m_points_5, zb_d, if_pos (by omega)]
    · rintro k a b k0 k1 ⟨e1, e2, e3⟩
      subst e1
      have hk : e_wr (k + 1) = k + 1 := e_wr_id (by omega) (by omega)
      obtain ⟨⟨n0, n1, n2⟩, hb, -⟩ := hB s k s0 s1 k0 (by omega)
      obtain ⟨p1, p2, p3, -⟩ := q_placeOn (f := f) h.1 k0 k1
      have hp1 : e_wr (zpo c s k f + 1) = zpo c s k f + 1 := e_wr_id (by omega) (by omega)
      have eC := g_Count_pointsOf_5 (x1 := s) (x2 := f) (x3 := a) (x4 := k) (S := c)
      rw [zb_d, if_neg (by omega), p1, e_bnd, hp1] at eC
      have eM := g_m_points_5 (x1 := s) (x2 := f) (x3 := a) (x4 := k) (S := m)
      rw [zb_d, if_neg (by omega), p2, e_bnd, hp1] at eM
      have inner : ∀ (t : Nat) (y x : Int), 0 ≤ y → y + t = c r_Juror_ballotSize s k 0 → 0 ≤ x → x ≤ a + y → zpo c s k f ≠ -1 → ∃ x', 0 ≤ x' ∧ x' ≤ a + 9 ∧ g_Count_pointsOf ((1038, [s, f, x, k, s, k, zpo c s k f, y]), c) = g_Count_pointsOf ((1005, [s, f, x', k + 1]), c) ∧ g_m_points ((1032, [s, f, x, k, zpo c s k f, y]), m) = g_m_points ((1005, [s, f, x', k + 1]), m) := by
        intro t
        induction t with
        | zero =>
          intro y x y0 y1 x0 x1 hp
          refine ⟨x, x0, by omega, ?_, ?_⟩
          · rw [g_Count_pointsOf_38, zb_d, if_neg hp, zb_d, if_pos (by omega), hk]
          · rw [g_m_points_32, zb_d, if_pos (by omega), hk]
        | succ t ih =>
          intro y x y0 y1 x0 x1 hp
          have hy : e_wr (y + 1) = y + 1 := e_wr_id (by omega) (by omega)
          have hx : e_wr (x + 1) = x + 1 := e_wr_id (by omega) (by omega)
          have hx0 : e_wr (x + 0) = x := by rw [Int.add_zero]; exact e_wr_id (by omega) (by omega)
          obtain ⟨b1, b2, b3⟩ := hb y y0 (by omega)
          obtain ⟨ho, hl⟩ := h.left k0 k1 y0 (show y < c r_Juror_ballotSize s k 0 by omega)
          rw [g_Count_pointsOf_38, zb_d, if_neg hp, zb_d, if_neg (by omega), zb_n, hy, hx]
          have eM := g_m_points_32 (x1 := s) (x2 := f) (x3 := x) (x4 := k) (x5 := zpo c s k f) (x6 := y) (S := m)
          rw [zb_d, if_neg (by omega), zb_d, if_neg (by omega), zb_d, b1, hy, hx, hx0] at eM
          rw [eM]
          by_cases q : c r_Count_isOut 0 0 (c r_Juror_ballot s k y) = 0
          · rw [if_pos q, if_neg (fun z => hl.mp z q)]
            exact ih (y + 1) (x + 1) (by omega) (by omega) (by omega) (by omega) hp
          · rw [if_neg q, if_pos (hl.mpr q)]
            exact ih (y + 1) x (by omega) (by omega) x0 (by omega) hp
      by_cases hp : zpo c s k f = -1
      · refine ⟨a, a, ?_, ?_, rfl, e2, by omega⟩
        · show g_Count_pointsOf ((1005, [s, f, a, k]), c) = _
          rw [eC, g_Count_pointsOf_38, zb_d, if_pos hp, hk]
        · show g_m_points ((1005, [s, f, a, k]), m) = _
          rw [eM, g_m_points_32, zb_d, zb_d, if_pos (show zpo c s k f < 0 by omega), ite_self, hk]
      · by_cases hlt : zpo c s k f + 1 ≤ c r_Juror_ballotSize s k 0
        · obtain ⟨x', x0, x1, i1, i2⟩ := inner (c r_Juror_ballotSize s k 0 - (zpo c s k f + 1)).toNat (zpo c s k f + 1) a (by omega) (by omega) e2 (by omega) hp
          exact ⟨x', x', eC.trans i1, eM.trans i2, rfl, x0, by omega⟩
        · refine ⟨a, a, ?_, ?_, rfl, e2, by omega⟩
          · show g_Count_pointsOf ((1005, [s, f, a, k]), c) = _
            rw [eC, g_Count_pointsOf_38, zb_d, if_neg hp, zb_d, if_pos (by omega), hk]
          · show g_m_points ((1005, [s, f, a, k]), m) = _
            rw [eM, g_m_points_32, zb_d, if_pos (by omega), hk]
  obtain ⟨v, e1, e2, e3⟩ := key
  have e : zpt c s f = v := by
    unfold zpt
    rw [e1]
    rfl
  rw [e]
  exact ⟨e1, e2, e3⟩
noncomputable def zld (c : ZS) (s f g : Int) : Int := (f_Count_leadOf [s, f, g] c).1.2.getD 0 0
theorem q_lead {s f g : Int} {c m : ZS} (h : zWc s c m) : f_Count_leadOf [s, f, g] c = ((0, [zld c s f g]), c) ∧ f_m_isAheadOf [s, f, g] m = ((0, [if zld c s f g ≤ 0 then 0 else 1]), m) := by
  obtain ⟨⟨⟨s0, s1⟩, -, hB, hJ⟩, -⟩ := id h
  obtain ⟨⟨u0, u1, u2⟩, -⟩ := hJ s s0 s1
  have key : ∃ v, f_Count_leadOf [s, f, g] c = ((0, [v]), c) ∧ f_m_isAheadOf [s, f, g] m = ((0, [if v ≤ 0 then 0 else 1]), m) := by
    show ∃ v, g_Count_leadOf ((1000, [s, f, g]), c) = ((0, [v]), c) ∧ g_m_isAheadOf ((1000, [s, f, g]), m) = ((0, [if v ≤ 0 then 0 else 1]), m)
    rw [g_Count_leadOf_0, g_m_isAheadOf_0]
    refine z_sync (n := c r_Section_jurorCount s 0 0) (A := fun (a : Int) k => g_Count_leadOf ((1006, [s, f, g, a, k]), c)) (B := fun (b : Int) k => g_m_isAheadOf ((1006, [s, f, g, b, k]), m)) (R := fun k a b => a = b ∧ - k ≤ b ∧ b ≤ k) (Goal := fun A B => ∃ v, A = ((0, [v]), c) ∧ B = ((0, [if v ≤ 0 then 0 else 1]), m)) ?_ ?_ (c r_Section_jurorCount s 0 0).toNat 0 0 0 (Int.le_refl _) (by omega) ⟨rfl, by omega, by omega⟩
    · rintro a b ⟨e1, e2, -⟩
      subst e1
      refine ⟨a, ?_, ?_⟩
      · show g_Count_leadOf ((1006, [s, f, g, a, c r_Section_jurorCount s 0 0]), c) = _
        rw [g_Count_leadOf_6, zb_d, if_pos (Int.le_refl _)]
      · show g_m_isAheadOf ((1006, [s, f, g, a, c r_Section_jurorCount s 0 0]), m) = _
        rw [g_m_isAheadOf_6, zb_d, if_pos (by omega), zb_d]
        split <;> rfl
    · rintro k a b k0 k1 ⟨e1, e2, e3⟩
      subst e1
      have hk : e_wr (k + 1) = k + 1 := e_wr_id (by omega) (by omega)
      have ha1 : e_wr (a + 1) = a + 1 := e_wr_id (by omega) (by omega)
      have ha2 : e_wr (a + -1) = a + -1 := e_wr_id (by omega) (by omega)
      have ha0 : e_wr (a + 0) = a := by rw [Int.add_zero]; exact e_wr_id (by omega) (by omega)
      obtain ⟨p1, p2, p3, -⟩ := q_placeOn (f := f) h.1 k0 k1
      obtain ⟨r1, r2, r3, -⟩ := q_placeOn (f := g) h.1 k0 k1
      have eC := g_Count_leadOf_6 (x1 := s) (x2 := f) (x3 := g) (x4 := a) (x5 := k) (S := c)
      rw [zb_d, if_neg (by omega), p1, e_bnd, r1, e_bnd, zb_d, zb_d, zb_d, hk, ha1, ha2] at eC
      have eM := g_m_isAheadOf_6 (x1 := s) (x2 := f) (x3 := g) (x4 := a) (x5 := k) (S := m)
      rw [zb_d, if_neg (by omega), p2, e_bnd, r2, e_bnd, zb_d, zb_d, zb_d, hk, ha1, ha2, ha0] at eM
      by_cases q1 : zpo c s k f = -1
      · rw [if_pos q1] at eC
        rw [if_pos (show zpo c s k f < 0 by omega)] at eM
        exact ⟨a, a, eC, eM, rfl, by omega, by omega⟩
      · rw [if_neg q1] at eC
        rw [if_neg (show ¬ zpo c s k f < 0 by omega)] at eM
        by_cases q2 : zpo c s k g = -1
        · rw [if_pos q2] at eC
          rw [if_neg (show ¬ 0 ≤ zpo c s k g by omega)] at eM
          exact ⟨a, a, eC, eM, rfl, by omega, by omega⟩
        · rw [if_neg q2] at eC
          rw [if_pos (show 0 ≤ zpo c s k g by omega)] at eM
          by_cases q3 : zpo c s k g ≤ zpo c s k f
          · rw [if_pos q3] at eC eM
            exact ⟨_, _, eC, eM, rfl, by omega, by omega⟩
          · rw [if_neg q3] at eC eM
            exact ⟨_, _, eC, eM, rfl, by omega, by omega⟩
  obtain ⟨v, e1, e2⟩ := key
  have e : zld c s f g = v := by
    unfold zld
    rw [e1]
    rfl
  rw [e]
  exact ⟨e1, e2⟩
end
/-! part 71uc24 -/
section
/-! The winner by the most, by duels, by rounds: both sides -/
theorem zrk_lt {s f : Int} {c m : ZS} (h : zWb s c m) (hz : zrk c s f = true) : 0 ≤ f ∧ f < c r_x_filmCount 0 0 0 := by
  obtain ⟨⟨s0, s1⟩, -, hB, hJ⟩ := h
  obtain ⟨⟨u0, u1, -⟩, -⟩ := hJ s s0 s1
  unfold zrk zob at hz
  rw [Bool.and_eq_true, zany_iff] at hz
  obtain ⟨-, j, j0, j1, hj⟩ := hz
  unfold zon at hj
  rw [zany_iff] at hj
  obtain ⟨k, k0, k1, hk⟩ := hj
  obtain ⟨⟨n0, n1, -⟩, hb, -⟩ := hB s j s0 s1 j0 (by omega)
  have hk := of_decide_eq_true hk
  obtain ⟨-, b0, b1⟩ := hb k k0 (by omega)
  rw [hk] at b0 b1
  exact ⟨b0, b1⟩
noncomputable def zvl (b : Int) (c : ZS) (s f : Int) : Int := if b = 0 then zfs c s f else zpt c s f
theorem zvl_nn {b s f : Int} {c m : ZS} (h : zWc s c m) : 0 ≤ zvl b c s f := by
  unfold zvl
  split
  · exact (zcnt_le _ _ _).1
  · exact (q_points h).2.2
theorem q_most {s b : Int} {c m : ZS} (h : zWc s c m) (hb : b = 0 ∨ b = 1) : ∃ w, f_Count_withMost [s, b] c = ((0, [w]), c) ∧ f_m_byCount [s, b] m = ((0, [w]), m) ∧ ((w = -1 ∧ ∀ f, 0 ≤ f → f < c r_x_filmCount 0 0 0 → zrk c s f = false) ∨ (0 ≤ w ∧ w < c r_x_filmCount 0 0 0 ∧ zrk c s w = true ∧ ∀ f, 0 ≤ f → f < c r_x_filmCount 0 0 0 → zrk c s f = true → zvl b c s f ≤ zvl b c s w)) := by
  obtain ⟨⟨-, ⟨a1, a2, a3⟩, -, -⟩, hL⟩ := id h
  show ∃ w, g_Count_withMost ((1000, [s, b]), c) = ((0, [w]), c) ∧ g_m_byCount ((1000, [s, b]), m) = ((0, [w]), m) ∧ _
  rw [g_Count_withMost_0, g_m_byCount_0]
  have tail : ∀ (t : Nat) (k x y : Int), c r_x_filmCount 0 0 0 ≤ k → k + t = 20 → g_Count_withMost ((1008, [s, b, x, y, k]), c) = ((0, [x]), c) := by
    intro t
    induction t with
    | zero =>
      intro k x y k0 k1
      rw [g_Count_withMost_8, zb_d, if_pos (by omega)]
    | succ t ih =>
      intro k x y k0 k1
      have hk : e_wr (k + 1) = k + 1 := e_wr_id (by omega) (by omega)
      have hz : zrk c s k = false := by
        cases e : zrk c s k with
        | false => rfl
        | true =>
          have := zrk_lt h.1 e
          omega
      rw [g_Count_withMost_8, zb_d, if_neg (by omega), q_isRanked h, e_bnd, zb_d, hz, if_pos (by rfl), hk]
      exact ih (k + 1) x y (by omega) (by omega)
  have key : ∀ (t : Nat) (k x y : Int), 0 ≤ k → k + t = c r_x_filmCount 0 0 0 → ((x = -1 ∧ y = -1 ∧ ∀ f, 0 ≤ f → f < k → zrk c s f = false) ∨ (0 ≤ x ∧ x < k ∧ zrk c s x = true ∧ y = zvl b c s x ∧ ∀ f, 0 ≤ f → f < k → zrk c s f = true → zvl b c s f ≤ zvl b c s x)) → ∃ w, g_Count_withMost ((1008, [s, b, x, y, k]), c) = ((0, [w]), c) ∧ g_m_byCount ((1005, [s, b, x, k]), m) = ((0, [w]), m) ∧ ((w = -1 ∧ ∀ f, 0 ≤ f → f < c r_x_filmCount 0 0 0 → zrk c s f = false) ∨ (0 ≤ w ∧ w < c r_x_filmCount 0 0 0 ∧ zrk c s w = true ∧ ∀ f, 0 ≤ f → f < c r_x_filmCount 0 0 0 → zrk c s f = true → zvl b c s f ≤ zvl b c s w)) := by
    intro t
    induction t with
    | zero =>
      intro k x y k0 k1 hi
      have e : k = c r_x_filmCount 0 0 0 := by omega
      refine ⟨x, tail (20 - k).toNat k x y (by omega) (by omega), ?_, ?_⟩
      · rw [g_m_byCount_5, zb_d, if_pos (by omega)]
      · rw [e] at hi
        rcases hi with ⟨i1, -, i3⟩ | ⟨i1, i2, i3, -, i5⟩
        · exact Or.inl ⟨i1, i3⟩
        · exact Or.inr ⟨i1, i2, i3, i5⟩
    | succ t ih =>
      intro k x y k0 k1 hi
      have hk : e_wr (k + 1) = k + 1 := e_wr_id (by omega) (by omega)
      have eC := g_Count_withMost_8 (x1 := s) (x2 := b) (x3 := x) (x4 := y) (x5 := k) (S := c)
      rw [zb_d, if_neg (by omega), q_isRanked h, e_bnd, zb_d, hk] at eC
      have eM := g_m_byCount_5 (x1 := s) (x2 := b) (x3 := x) (x4 := k) (S := m)
      rw [zb_d, if_neg (by omega), zb_d, hk] at eM
      have hl := hL k k0 (by omega)
      by_cases q : zrk c s k = true
      · have hml : ¬ m r_m_areLeft 0 0 k = 0 := hl.mpr q
        rw [q, if_neg (by decide), zb_d] at eC
        rw [if_neg hml, zb_d] at eM
        have hn := zvl_nn (b := b) (f := k) h
        have eC2 : g_Count_withMost ((1008, [s, b, x, y, k]), c) = if zvl b c s k ≤ y then g_Count_withMost ((1008, [s, b, x, y, k + 1]), c) else g_Count_withMost ((1008, [s, b, k, zvl b c s k, k + 1]), c) := by
          rw [eC]
          unfold zvl
          rcases hb with rfl | rfl
          · simp only [zb_d, (q_firsts h).1, e_bnd, ↓reduceIte]
          · simp only [zb_d, (q_points h).1, e_bnd, Int.reduceEq, ↓reduceIte]
        have eM2 : g_m_byCount ((1005, [s, b, x, k]), m) = if zvl b c s k ≤ (if 0 ≤ x then zvl b c s x else -1) then g_m_byCount ((1005, [s, b, x, k + 1]), m) else g_m_byCount ((1005, [s, b, k, k + 1]), m) := by
          rw [eM]
          unfold zvl
          rcases hb with rfl | rfl
          · simp only [zb_d, (q_firsts h).2, e_bnd, ↓reduceIte]
            by_cases w : 0 ≤ x
            · rw [if_pos w, if_pos w]
            · rw [if_neg w, if_neg w]
          · simp only [zb_d, (q_points h).2.1, e_bnd, Int.reduceEq, ↓reduceIte]
            by_cases w : 0 ≤ x
            · rw [if_pos w, if_pos w]
            · rw [if_neg w, if_neg w]
        rw [eC2, eM2]
        rcases hi with ⟨rfl, rfl, i3⟩ | ⟨i1, i2, i3, i4, i5⟩
        · rw [if_neg (show ¬ zvl b c s k ≤ -1 by omega), if_neg (show ¬ (0 : Int) ≤ -1 by decide), if_neg (by omega)]
          refine ih (k + 1) k _ (by omega) (by omega) (Or.inr ⟨k0, by omega, q, rfl, fun f f0 f1 hf => ?_⟩)
          by_cases w : f = k
          · rw [w]
            exact Int.le_refl _
          · rw [i3 f f0 (by omega)] at hf
            cases hf
        · rw [i4, if_pos i1]
          by_cases v : zvl b c s k ≤ zvl b c s x
          · rw [if_pos v, if_pos v, ← i4]
            refine ih (k + 1) x y (by omega) (by omega) (Or.inr ⟨i1, by omega, i3, i4, fun f f0 f1 hf => ?_⟩)
            by_cases w : f = k
            · rw [w]
              exact v
            · exact i5 f f0 (by omega) hf
          · rw [if_neg v, if_neg v]
            refine ih (k + 1) k _ (by omega) (by omega) (Or.inr ⟨k0, by omega, q, rfl, fun f f0 f1 hf => ?_⟩)
            by_cases w : f = k
            · rw [w]
              exact Int.le_refl _
            · have := i5 f f0 (by omega) hf
              omega
      · have q' : zrk c s k = false := by simpa using q
        have hml : m r_m_areLeft 0 0 k = 0 := by
          by_cases w : m r_m_areLeft 0 0 k = 0
          · exact w
          · exact absurd (hl.mp w) q
        rw [q', if_pos (by rfl)] at eC
        rw [if_pos hml] at eM
        rw [eC, eM]
        refine ih (k + 1) x y (by omega) (by omega) ?_
        rcases hi with ⟨i1, i2, i3⟩ | ⟨i1, i2, i3, i4, i5⟩
        · refine Or.inl ⟨i1, i2, fun f f0 f1 => ?_⟩
          by_cases w : f = k
          · rw [w]
            exact q'
          · exact i3 f f0 (by omega)
        · refine Or.inr ⟨i1, by omega, i3, i4, fun f f0 f1 hf => ?_⟩
          by_cases w : f = k
          · rw [w] at hf
            exact absurd hf q
          · exact i5 f f0 (by omega) hf
  exact key (c r_x_filmCount 0 0 0).toNat 0 (-1) (-1) (Int.le_refl _) (by omega) (Or.inl ⟨rfl, rfl, fun f a b => by omega⟩)
/-- who doesn't win against a film -/
def zlo (c : ZS) (L : Int → Int → Int) (s f g : Int) : Bool := decide (g ≠ f) && (zrk c s g && decide (L f g ≤ 0))
theorem zany_tail {p : Int → Bool} {a b : Nat} {k : Int} (ha : a ≤ b) (h : ∀ i, k + a ≤ i → i < k + b → p i = false) : zany p b k = zany p a k := by
  rw [Bool.eq_iff_iff, zany_iff, zany_iff]
  constructor
  · rintro ⟨i, i0, i1, hi⟩
    refine ⟨i, i0, ?_, hi⟩
    by_cases q : i < k + a
    · exact q
    · rw [h i (by omega) i1] at hi
      cases hi
  · rintro ⟨i, i0, i1, hi⟩
    exact ⟨i, i0, by omega, hi⟩
theorem q_wins {s f : Int} {c m : ZS} (h : zWc s c m) : f_Count_winsEachDuel [s, f] c = ((0, [zb (!zany (zlo c (zld c s) s f) (c r_x_filmCount 0 0 0).toNat 0)]), c) := by
  obtain ⟨⟨-, ⟨a1, a2, a3⟩, -, -⟩, hL⟩ := id h
  show g_Count_winsEachDuel ((1000, [s, f]), c) = _
  rw [g_Count_winsEachDuel_0]
  refine (zl_any (n := 20) (p := zlo c (zld c s) s f) (A := ((0, [0]), c)) (B := ((0, [1]), c)) (G := fun k => g_Count_winsEachDuel ((1002, [s, f, k]), c)) (fun k hk => ?_) (fun k k0 k1 => ?_) 20 0 (Int.le_refl _) (by omega)).trans ?_
  · rw [g_Count_winsEachDuel_2, zb_d, if_pos (by omega)]
  · have hk : e_wr (k + 1) = k + 1 := e_wr_id (by omega) (by omega)
    rw [g_Count_winsEachDuel_2, zb_d, if_neg (by omega), zb_d, q_isRanked h, e_bnd, zb_d, (q_lead h).1, e_bnd, zb_d, hk]
    unfold zlo
    by_cases q1 : k = f
    · rw [if_pos q1, decide_eq_false (fun z => z q1), Bool.false_and, if_neg (by decide)]
    · rw [if_neg q1, decide_eq_true (show k ≠ f from q1), Bool.true_and]
      cases zrk c s k
      · rw [if_pos (by rfl), Bool.false_and, if_neg (by decide)]
      · rw [if_neg (by decide), Bool.true_and]
        by_cases q2 : 0 < zld c s f k
        · rw [if_pos q2, decide_eq_false (by omega), if_neg (by decide)]
        · rw [if_neg q2, decide_eq_true (by omega), if_pos rfl]
  · rw [zany_tail (a := (c r_x_filmCount 0 0 0).toNat) (by omega) (fun i i0 i1 => by
      have hz : zrk c s i = false := by
        cases e : zrk c s i with
        | false => rfl
        | true =>
          have := zrk_lt h.1 e
          omega
      unfold zlo
      rw [hz, Bool.false_and, Bool.and_false])]
    unfold zb
    cases zany (zlo c (zld c s) s f) (c r_x_filmCount 0 0 0).toNat 0 <;> rfl
theorem q_duels {s : Int} {c m : ZS} (h : zWc s c m) : ∃ w, f_Count_byDuels [s] c = ((0, [w]), c) ∧ f_m_byDuels [s] m = ((0, [w]), m) ∧ -1 ≤ w ∧ w < c r_x_filmCount 0 0 0 := by
  obtain ⟨⟨-, ⟨a1, a2, a3⟩, -, -⟩, hL⟩ := id h
  obtain ⟨w, w1, w2, w3⟩ := q_most h (Or.inr rfl)
  have wr : -1 ≤ w ∧ w < c r_x_filmCount 0 0 0 := by
    rcases w3 with w3 | w3 <;> omega
  show ∃ w, g_Count_byDuels ((1000, [s]), c) = ((0, [w]), c) ∧ g_m_byDuels ((1000, [s]), m) = ((0, [w]), m) ∧ _
  rw [g_Count_byDuels_0, g_m_byDuels_0]
  have tail : ∀ (t : Nat) (k : Int), c r_x_filmCount 0 0 0 ≤ k → k + t = 20 → g_Count_byDuels ((1002, [s, k]), c) = ((0, [w]), c) := by
    intro t
    induction t with
    | zero =>
      intro k k0 k1
      rw [g_Count_byDuels_2, zb_d, if_pos (by omega), w1, e_bnd]
    | succ t ih =>
      intro k k0 k1
      have hk : e_wr (k + 1) = k + 1 := e_wr_id (by omega) (by omega)
      have hz : zrk c s k = false := by
        cases e : zrk c s k with
        | false => rfl
        | true =>
          have := zrk_lt h.1 e
          omega
      rw [g_Count_byDuels_2, zb_d, if_neg (by omega), q_isRanked h, e_bnd, zb_d, hz, if_pos (by rfl), hk]
      exact ih (k + 1) (by omega) (by omega)
  have inner : ∀ (f : Int), 0 ≤ f → f < c r_x_filmCount 0 0 0 → ∀ (t : Nat) (k x : Int), 0 ≤ k → k + t = c r_x_filmCount 0 0 0 → x ≠ 0 → g_m_byDuels ((1020, [s, f, x, k]), m) = if zany (zlo c (zld c s) s f) t k = true then g_m_byDuels ((1002, [s, f + 1]), m) else ((0, [f]), m) := by
    intro f f0 f1 t
    have hf : e_wr (f + 1) = f + 1 := e_wr_id (by omega) (by omega)
    induction t with
    | zero =>
      intro k x k0 k1 hx
      rw [g_m_byDuels_20, zb_d, if_pos (by omega), zb_d, if_neg hx, zany, if_neg (by decide)]
    | succ t ih =>
      intro k x k0 k1 hx
      have hk : e_wr (k + 1) = k + 1 := e_wr_id (by omega) (by omega)
      have hl := hL k k0 (by omega)
      have eM := g_m_byDuels_20 (x1 := s) (x2 := f) (x3 := x) (x4 := k) (S := m)
      rw [zb_d, if_neg (by omega), zb_d, if_neg hx, zb_d, zb_d, (q_lead h).2, e_bnd, zb_d, hk] at eM
      rw [eM, zany]
      unfold zlo
      by_cases q1 : k = f
      · rw [if_pos q1, decide_eq_false (fun z => z q1), Bool.false_and, Bool.false_or]
        exact ih (k + 1) 1 (by omega) (by omega) (by decide)
      · rw [if_neg q1, decide_eq_true (show k ≠ f from q1), Bool.true_and]
        by_cases q2 : zrk c s k = true
        · have hml : ¬ m r_m_areLeft 0 0 k = 0 := hl.mpr q2
          rw [if_neg hml, q2, Bool.true_and]
          by_cases q3 : zld c s f k ≤ 0
          · rw [if_pos q3, decide_eq_true q3, Bool.true_or, if_pos rfl, if_pos rfl]
            have e0 := g_m_byDuels_20 (x1 := s) (x2 := f) (x3 := 0) (x4 := k + 1) (S := m)
            simp only [zb_d, ↓reduceIte, hf, ite_self] at e0
            exact e0
          · rw [if_neg q3, decide_eq_false q3, Bool.false_or, if_neg (by decide)]
            exact ih (k + 1) 1 (by omega) (by omega) (by decide)
        · have q2' : zrk c s k = false := by simpa using q2
          have hml : m r_m_areLeft 0 0 k = 0 := by
            by_cases v : m r_m_areLeft 0 0 k = 0
            · exact v
            · exact absurd (hl.mp v) q2
          rw [if_pos hml, q2', Bool.false_and, Bool.false_or]
          exact ih (k + 1) 1 (by omega) (by omega) (by decide)
  have key : ∀ (t : Nat) (k : Int), 0 ≤ k → k + t = c r_x_filmCount 0 0 0 → ∃ w, g_Count_byDuels ((1002, [s, k]), c) = ((0, [w]), c) ∧ g_m_byDuels ((1002, [s, k]), m) = ((0, [w]), m) ∧ -1 ≤ w ∧ w < c r_x_filmCount 0 0 0 := by
    intro t
    induction t with
    | zero =>
      intro k k0 k1
      refine ⟨w, tail (20 - k).toNat k (by omega) (by omega), ?_, wr⟩
      rw [g_m_byDuels_2, zb_d, if_pos (by omega), w2, e_bnd]
    | succ t ih =>
      intro k k0 k1
      have hk : e_wr (k + 1) = k + 1 := e_wr_id (by omega) (by omega)
      have hl := hL k k0 (by omega)
      have eC := g_Count_byDuels_2 (x1 := s) (x2 := k) (S := c)
      rw [zb_d, if_neg (by omega), q_isRanked h, e_bnd, zb_d, q_wins h, e_bnd, zb_d, hk] at eC
      have eM := g_m_byDuels_2 (x1 := s) (x2 := k) (S := m)
      rw [zb_d, if_neg (by omega)] at eM
      rw [eC, eM]
      by_cases q2 : zrk c s k = true
      · have hml : ¬ m r_m_areLeft 0 0 k = 0 := hl.mpr q2
        rw [q2, if_neg (by decide), inner k k0 (by omega) (c r_x_filmCount 0 0 0).toNat 0 _ (Int.le_refl _) (by omega) hml]
        cases zany (zlo c (zld c s) s k) (c r_x_filmCount 0 0 0).toNat 0
        · rw [if_neg (by decide), if_neg (by decide)]
          exact ⟨k, rfl, rfl, by omega, by omega⟩
        · rw [if_pos (by rfl), if_pos rfl]
          exact ih (k + 1) (by omega) (by omega)
      · have q2' : zrk c s k = false := by simpa using q2
        have hml : m r_m_areLeft 0 0 k = 0 := by
          by_cases v : m r_m_areLeft 0 0 k = 0
          · exact v
          · exact absurd (hl.mp v) q2
        have e0 : g_m_byDuels ((1020, [s, k, 0, 0]), m) = g_m_byDuels ((1002, [s, k + 1]), m) := by
          have e0 := g_m_byDuels_20 (x1 := s) (x2 := k) (x3 := 0) (x4 := 0) (S := m)
          simp only [zb_d, ↓reduceIte, hk, ite_self] at e0
          exact e0
        rw [q2', if_pos (by rfl), hml, e0]
        exact ih (k + 1) (by omega) (by omega)
  exact key (c r_x_filmCount 0 0 0).toNat 0 (Int.le_refl _) (by omega)
end
/-! part 71uc25 -/
section
/-! The winner by rounds; winner, award: both sides -/
def zvo (c : ZS) (s : Int) (F : Int → Int) : Int := zcnt (fun j => !decide (F j = -1)) (c r_Section_jurorCount s 0 0).toNat 0
theorem zcnt_two {p q r : Int → Bool} : ∀ (n : Nat) (k : Int), (∀ i, k ≤ i → i < k + n → (p i = true → r i = true) ∧ (q i = true → r i = true) ∧ ¬ (p i = true ∧ q i = true)) → zcnt p n k + zcnt q n k ≤ zcnt r n k
  | 0, _, _ => Int.le_refl _
  | n + 1, k, h => by
    have ih := zcnt_two n (k + 1) (fun i a b => h i (by omega) (by omega))
    obtain ⟨h1, h2, h3⟩ := h k (Int.le_refl _) (by omega)
    rw [zcnt, zcnt, zcnt]
    by_cases a : p k = true
    · have b : ¬ q k = true := fun z => h3 ⟨a, z⟩
      rw [if_pos a, if_neg b, if_pos (h1 a)]
      omega
    · rw [if_neg a]
      by_cases b : q k = true
      · rw [if_pos b, if_pos (h2 b)]
        omega
      · rw [if_neg b]
        split <;> omega
theorem zcnt_mono {p q : Int → Bool} : ∀ (n : Nat) (k : Int), (∀ i, k ≤ i → i < k + n → p i = true → q i = true) → zcnt p n k ≤ zcnt q n k
  | 0, _, _ => Int.le_refl _
  | n + 1, k, h => by
    have ih := zcnt_mono n (k + 1) (fun i a b => h i (by omega) (by omega))
    rw [zcnt, zcnt]
    by_cases a : p k = true
    · rw [if_pos a, if_pos (h k (Int.le_refl _) (by omega) a)]
      omega
    · rw [if_neg a]
      split <;> omega
theorem q_fewest {s : Int} {c m : ZS} (h : zWc s c m) (hne : ∃ f, 0 ≤ f ∧ f < c r_x_filmCount 0 0 0 ∧ zrk c s f = true) (hno : ∀ f, 0 ≤ f → f < c r_x_filmCount 0 0 0 → zrk c s f = true → 2 * zfs c s f ≤ zvo c s (zfo c s)) : ∃ g, 0 ≤ g ∧ g < c r_x_filmCount 0 0 0 ∧ zrk c s g = true ∧ f_Count_withFewestFirsts [s] c = ((0, [g]), c) ∧ g_m_byRounds ((1042, [s, zvo c s (zfo c s), -1, 0]), m) = g_m_byRounds ((1042, [s, zvo c s (zfo c s), g, c r_x_filmCount 0 0 0]), m) := by
  obtain ⟨⟨⟨s0, s1⟩, ⟨a1, a2, a3⟩, -, hJ⟩, hL⟩ := id h
  obtain ⟨⟨u0, u1, -⟩, -⟩ := hJ s s0 s1
  have hv5 : ∀ f, 0 ≤ zfs c s f ∧ zfs c s f ≤ 5 := fun f => by
    have := zcnt_le (fun j => decide (zfo c s j = f)) (c r_Section_jurorCount s 0 0).toNat 0
    unfold zfs
    omega
  have tail : ∀ (t : Nat) (k x y : Int), c r_x_filmCount 0 0 0 ≤ k → k + t = 20 → g_Count_withFewestFirsts ((1008, [s, x, y, k]), c) = ((0, [x]), c) := by
    intro t
    induction t with
    | zero =>
      intro k x y k0 k1
      rw [g_Count_withFewestFirsts_8, zb_d, if_pos (by omega)]
    | succ t ih =>
      intro k x y k0 k1
      have hk : e_wr (k + 1) = k + 1 := e_wr_id (by omega) (by omega)
      have hz : zrk c s k = false := by
        cases e : zrk c s k with
        | false => rfl
        | true =>
          have := zrk_lt h.1 e
          omega
      rw [g_Count_withFewestFirsts_8, zb_d, if_neg (by omega), q_isRanked h, e_bnd, zb_d, hz, if_pos (by rfl), hk]
      exact ih (k + 1) x y (by omega) (by omega)
  have key : ∀ (t : Nat) (k x y z : Int), 0 ≤ k → k + t = c r_x_filmCount 0 0 0 → ((z = -1 ∧ x = 0 ∧ y = 6 ∧ ∃ f, k ≤ f ∧ f < c r_x_filmCount 0 0 0 ∧ zrk c s f = true) ∨ (0 ≤ z ∧ z < c r_x_filmCount 0 0 0 ∧ zrk c s z = true ∧ x = z ∧ y = zfs c s z)) → ∃ g, 0 ≤ g ∧ g < c r_x_filmCount 0 0 0 ∧ zrk c s g = true ∧ g_Count_withFewestFirsts ((1008, [s, x, y, k]), c) = ((0, [g]), c) ∧ g_m_byRounds ((1042, [s, zvo c s (zfo c s), z, k]), m) = g_m_byRounds ((1042, [s, zvo c s (zfo c s), g, c r_x_filmCount 0 0 0]), m) := by
    intro t
    induction t with
    | zero =>
      intro k x y z k0 k1 hi
      have e : k = c r_x_filmCount 0 0 0 := by omega
      rcases hi with ⟨-, -, -, f, f0, f1, -⟩ | ⟨z0, z1, z2, rfl, rfl⟩
      · omega
      · exact ⟨x, z0, z1, z2, tail (20 - k).toNat k x _ (by omega) (by omega), by rw [e]⟩
    | succ t ih =>
      intro k x y z k0 k1 hi
      have hk : e_wr (k + 1) = k + 1 := e_wr_id (by omega) (by omega)
      have hl := hL k k0 (by omega)
      have h5 := hv5 k
      have h2 : e_wr (2 * zfs c s k) = 2 * zfs c s k := e_wr_id (by omega) (by omega)
      have eC := g_Count_withFewestFirsts_8 (x1 := s) (x2 := x) (x3 := y) (x4 := k) (S := c)
      rw [zb_d, if_neg (by omega), q_isRanked h, e_bnd, zb_d, (q_firsts h).1, e_bnd, zb_d, (q_firsts h).1, e_bnd, hk] at eC
      have eM := g_m_byRounds_42 (x1 := s) (x2 := zvo c s (zfo c s)) (x3 := z) (x4 := k) (S := m)
      rw [zb_d, if_neg (by omega), zb_d, (q_firsts h).2, e_bnd, zb_d, zb_d, (q_firsts h).2, e_bnd, (q_firsts h).2, e_bnd, zb_d, hk, h2] at eM
      rw [eC, eM]
      by_cases q : zrk c s k = true
      · have hml : ¬ m r_m_areLeft 0 0 k = 0 := hl.mpr q
        rw [q, if_neg (by decide), if_neg hml, if_pos (hno k k0 (by omega) q)]
        rcases hi with ⟨rfl, rfl, rfl, hf⟩ | ⟨z0, z1, z2, rfl, rfl⟩
        · rw [if_neg (show ¬ 6 < zfs c s k by omega), if_pos (by decide)]
          exact ih (k + 1) k _ k (by omega) (by omega) (Or.inr ⟨k0, by omega, q, rfl, rfl⟩)
        · rw [if_neg (show ¬ x < 0 by omega)]
          by_cases w : zfs c s x < zfs c s k
          · rw [if_pos w, if_pos w]
            exact ih (k + 1) x _ x (by omega) (by omega) (Or.inr ⟨z0, z1, z2, rfl, rfl⟩)
          · rw [if_neg w, if_neg w]
            exact ih (k + 1) k _ k (by omega) (by omega) (Or.inr ⟨k0, by omega, q, rfl, rfl⟩)
      · have q' : zrk c s k = false := by simpa using q
        have hml : m r_m_areLeft 0 0 k = 0 := by
          by_cases v : m r_m_areLeft 0 0 k = 0
          · exact v
          · exact absurd (hl.mp v) q
        rw [q', if_pos (by rfl), if_pos hml]
        refine ih (k + 1) x y z (by omega) (by omega) ?_
        rcases hi with ⟨i1, i2, i3, f, f0, f1, f2⟩ | hi
        · refine Or.inl ⟨i1, i2, i3, f, ?_, f1, f2⟩
          by_cases e : f = k
          · rw [e] at f2
            exact absurd f2 q
          · omega
        · exact Or.inr hi
  obtain ⟨f, f0, f1, f2⟩ := hne
  obtain ⟨g, g0, g1, g2, g3, g4⟩ := key (c r_x_filmCount 0 0 0).toNat 0 0 6 (-1) (Int.le_refl _) (by omega) (Or.inl ⟨rfl, rfl, rfl, f, f0, f1, f2⟩)
  refine ⟨g, g0, g1, g2, ?_, g4⟩
  show g_Count_withFewestFirsts ((1000, [s]), c) = _
  rw [g_Count_withFewestFirsts_0]
  exact g3
/-- where one film has more than half, the model's search ends with it -/
theorem q_major {s w : Int} {c m : ZS} (h : zWc s c m) (w0 : 0 ≤ w) (w1 : w < c r_x_filmCount 0 0 0) (hw : zrk c s w = true) (hm : zvo c s (zfo c s) < 2 * zfs c s w) : g_m_byRounds ((1042, [s, zvo c s (zfo c s), -1, 0]), m) = ((0, [w]), m) := by
  obtain ⟨⟨⟨s0, s1⟩, ⟨a1, a2, a3⟩, -, hJ⟩, hL⟩ := id h
  obtain ⟨⟨u0, u1, -⟩, -⟩ := hJ s s0 s1
  have hv5 : ∀ f, 0 ≤ zfs c s f ∧ zfs c s f ≤ 5 := fun f => by
    have := zcnt_le (fun j => decide (zfo c s j = f)) (c r_Section_jurorCount s 0 0).toNat 0
    unfold zfs
    omega
  have key : ∀ (t : Nat) (k z : Int), 0 ≤ k → k + t = w → g_m_byRounds ((1042, [s, zvo c s (zfo c s), z, k]), m) = ((0, [w]), m) := by
    intro t
    induction t with
    | zero =>
      intro k z k0 k1
      have e : k = w := by omega
      rw [e]
      have h5 := hv5 w
      have h2 : e_wr (2 * zfs c s w) = 2 * zfs c s w := e_wr_id (by omega) (by omega)
      have hml : ¬ m r_m_areLeft 0 0 w = 0 := (hL w w0 w1).mpr hw
      rw [g_m_byRounds_42, zb_d, if_neg (by omega), zb_d, if_neg hml, (q_firsts h).2, e_bnd, zb_d, h2, if_neg (by omega)]
    | succ t ih =>
      intro k z k0 k1
      have hk : e_wr (k + 1) = k + 1 := e_wr_id (by omega) (by omega)
      have hl := hL k k0 (by omega)
      have h5 := hv5 k
      have h2 : e_wr (2 * zfs c s k) = 2 * zfs c s k := e_wr_id (by omega) (by omega)
      have hle : zfs c s k + zfs c s w ≤ zvo c s (zfo c s) := zcnt_two _ 0 (fun i i0 i1 => by
        simp only [decide_eq_true_eq, Bool.not_eq_true', decide_eq_false_iff_not]
        exact ⟨fun y => by omega, fun y => by omega, fun y => by omega⟩)
      have eM := g_m_byRounds_42 (x1 := s) (x2 := zvo c s (zfo c s)) (x3 := z) (x4 := k) (S := m)
      rw [zb_d, if_neg (by omega), zb_d, (q_firsts h).2, e_bnd, zb_d, zb_d, (q_firsts h).2, e_bnd, (q_firsts h).2, e_bnd, zb_d, hk, h2] at eM
      rw [eM]
      by_cases q : zrk c s k = true
      · have hml : ¬ m r_m_areLeft 0 0 k = 0 := hl.mpr q
        rw [if_neg hml, if_pos (by omega)]
        split
        · exact ih (k + 1) k (by omega) (by omega)
        · split
          · exact ih (k + 1) z (by omega) (by omega)
          · exact ih (k + 1) k (by omega) (by omega)
      · have hml : m r_m_areLeft 0 0 k = 0 := by
          by_cases v : m r_m_areLeft 0 0 k = 0
          · exact v
          · exact absurd (hl.mp v) q
        rw [if_pos hml]
        exact ih (k + 1) z (by omega) (by omega)
  exact key w.toNat 0 (-1) (Int.le_refl _) (by omega)
def zouC : List Nat := [r_Count_isOut]
def zouM : List Nat := [r_m_areLeft]
theorem q_rounds {s : Int} {c0 m0 : ZS} : ∀ (n : Nat) (x : Int) (c m : ZS), zWc s c m → zcnt (zrk c s) (c r_x_filmCount 0 0 0).toNat 0 = n → 1 ≤ n → 0 ≤ x → x + n ≤ 20 → (∀ r, zouC.contains r = false → c r = c0 r) → (∀ r, zouM.contains r = false → m r = m0 r) → ∃ w C' M', g_Count_byRounds ((1002, [s, x]), c) = ((0, [w]), C') ∧ g_m_byRounds ((1000, [s]), m) = ((0, [w]), M') ∧ (0 ≤ w ∧ w < c0 r_x_filmCount 0 0 0) ∧ (∀ r, zouC.contains r = false → C' r = c0 r) ∧ (∀ r, zouM.contains r = false → M' r = m0 r)
  | 0, _, _, _, _, _, h1, _, _, _, _ => by omega
  | n + 1, x, c, m, h, hn, h1, x0, x1, fc, fm => by
    obtain ⟨⟨⟨s0, s1⟩, ⟨a1, a2, a3⟩, hB, hJ⟩, hL⟩ := id h
    obtain ⟨⟨u0, u1, u2⟩, -⟩ := hJ s s0 s1
    have eF : c r_x_filmCount 0 0 0 = c0 r_x_filmCount 0 0 0 := by rw [fc _ (by decide)]
    have hv5 : ∀ f, 0 ≤ zfs c s f ∧ zfs c s f ≤ 5 := fun f => by
      have := zcnt_le (fun j => decide (zfo c s j = f)) (c r_Section_jurorCount s 0 0).toNat 0
      unfold zfs
      omega
    have hx : e_wr (x + 1) = x + 1 := e_wr_id (by omega) (by omega)
    -- the voting ones
    have vC : ∀ (t : Nat) (v k : Int), 0 ≤ k → k + t = c r_Section_jurorCount s 0 0 → 0 ≤ v → v ≤ k → g_Count_byRounds ((1013, [s, x, v, k]), c) = g_Count_byRounds ((1013, [s, x, v + zcnt (fun j => !decide (zfo c s j = -1)) t k, c r_Section_jurorCount s 0 0]), c) := by
      intro t
      induction t with
      | zero =>
        intro v k k0 k1 v0 v1
        rw [zcnt, Int.add_zero, show k = c r_Section_jurorCount s 0 0 by omega]
      | succ t ih =>
        intro v k k0 k1 v0 v1
        have hk : e_wr (k + 1) = k + 1 := e_wr_id (by omega) (by omega)
        have hv : e_wr (v + 1) = v + 1 := e_wr_id (by omega) (by omega)
        have eC := g_Count_byRounds_13 (x1 := s) (x2 := x) (x3 := v) (x4 := k) (S := c)
        rw [zb_d, if_neg (by omega), (q_first h k0 (by omega)).1, e_bnd, zb_d, hk, hv] at eC
        rw [eC, zcnt]
        by_cases q : zfo c s k = -1
        · rw [if_pos q, decide_eq_true q, if_neg (by decide), Int.zero_add]
          exact ih v (k + 1) (by omega) (by omega) v0 (by omega)
        · rw [if_neg q, decide_eq_false q, if_pos (by rfl), ← Int.add_assoc]
          exact ih (v + 1) (k + 1) (by omega) (by omega) (by omega) (by omega)
    have vM : ∀ (t : Nat) (v k : Int), 0 ≤ k → k + t = c r_Section_jurorCount s 0 0 → 0 ≤ v → v ≤ k → g_m_byRounds ((1004, [s, v, k]), m) = g_m_byRounds ((1042, [s, v + zcnt (fun j => !decide (zfo c s j = -1)) t k, -1, 0]), m) := by
      intro t
      induction t with
      | zero =>
        intro v k k0 k1 v0 v1
        rw [zcnt, Int.add_zero, g_m_byRounds_4, zb_d, if_pos (by omega)]
      | succ t ih =>
        intro v k k0 k1 v0 v1
        have hk : e_wr (k + 1) = k + 1 := e_wr_id (by omega) (by omega)
        have hv : e_wr (v + 1) = v + 1 := e_wr_id (by omega) (by omega)
        have hv0 : e_wr (v + 0) = v := by rw [Int.add_zero]; exact e_wr_id (by omega) (by omega)
        obtain ⟨-, f2, f3, -⟩ := q_first h k0 (show k < c r_Section_jurorCount s 0 0 by omega)
        have eM := g_m_byRounds_4 (x1 := s) (x2 := v) (x3 := k) (S := m)
        rw [zb_d, if_neg (by omega), f2, e_bnd, zb_d, hk, hv, hv0] at eM
        rw [eM, zcnt]
        by_cases q : zfo c s k = -1
        · rw [if_pos (by omega), decide_eq_true q, if_neg (by decide), Int.zero_add]
          exact ih v (k + 1) (by omega) (by omega) v0 (by omega)
        · rw [if_neg (by omega), decide_eq_false q, if_pos (by rfl), ← Int.add_assoc]
          exact ih (v + 1) (k + 1) (by omega) (by omega) (by omega) (by omega)
    have e1 : g_Count_byRounds ((1002, [s, x]), c) = g_Count_byRounds ((1013, [s, x, zvo c s (zfo c s), c r_Section_jurorCount s 0 0]), c) := by
      rw [g_Count_byRounds_2, zb_d, if_neg (by omega), vC (c r_Section_jurorCount s 0 0).toNat 0 0 (Int.le_refl _) (by omega) (Int.le_refl _) (Int.le_refl _), Int.zero_add]
      rfl
    have e2 : g_m_byRounds ((1000, [s]), m) = g_m_byRounds ((1042, [s, zvo c s (zfo c s), -1, 0]), m) := by
      rw [g_m_byRounds_0, vM (c r_Section_jurorCount s 0 0).toNat 0 0 (Int.le_refl _) (by omega) (Int.le_refl _) (Int.le_refl _), Int.zero_add]
      rfl
    rw [e1, e2]
    obtain ⟨w, w1, w2, w3⟩ := q_most h (Or.inl rfl)
    have hex : ∃ f, 0 ≤ f ∧ f < c r_x_filmCount 0 0 0 ∧ zrk c s f = true := by
      obtain ⟨i, i0, i1, hi⟩ := zcnt_pos (p := zrk c s) (c r_x_filmCount 0 0 0).toNat 0 (by omega)
      exact ⟨i, i0, by omega, hi⟩
    rcases w3 with ⟨-, w4⟩ | ⟨w4, w5, w6, w7⟩
    · obtain ⟨f, f0, f1, f2⟩ := hex
      rw [w4 f f0 f1] at f2
      cases f2
    · have h5 := hv5 w
      have h2 : e_wr (2 * zfs c s w) = 2 * zfs c s w := e_wr_id (by omega) (by omega)
      have w7 : ∀ f, 0 ≤ f → f < c r_x_filmCount 0 0 0 → zrk c s f = true → zfs c s f ≤ zfs c s w := fun f f0 f1 hf => by
        have := w7 f f0 f1 hf
        unfold zvl at this
        rw [if_pos rfl, if_pos rfl] at this
        exact this
      have eC := g_Count_byRounds_13 (x1 := s) (x2 := x) (x3 := zvo c s (zfo c s)) (x4 := c r_Section_jurorCount s 0 0) (S := c)
      rw [zb_d, if_pos (Int.le_refl _), w1, e_bnd, zb_d, if_neg (by omega), (q_firsts h).1, e_bnd, zb_d, h2] at eC
      rw [eC]
      by_cases q : 2 * zfs c s w ≤ zvo c s (zfo c s)
      · obtain ⟨g, g0, g1, g2, g3, g4⟩ := q_fewest h hex (fun f f0 f1 hf => by
          have := w7 f f0 f1 hf
          omega)
        rw [if_pos q, g3, e_bnd, g4, hx, e_nb1]
        have eM := g_m_byRounds_42 (x1 := s) (x2 := zvo c s (zfo c s)) (x3 := g) (x4 := c r_x_filmCount 0 0 0) (S := m)
        rw [zb_d, if_pos (by omega), e_nb0] at eM
        rw [eM]
        have cO : ∀ r, zouC.contains r = false → (e_upd c r_Count_isOut 0 0 g 1) r = c r := fun r hr => by
          funext a b d
          exact e_un (by
            cases e : r == r_Count_isOut with
            | false => rfl
            | true => rw [beq_iff_eq] at e; rw [e] at hr; exact absurd hr (by decide))
        have mO : ∀ r, zouM.contains r = false → (e_upd m r_m_areLeft 0 0 g 0) r = m r := fun r hr => by
          funext a b d
          exact e_un (by
            cases e : r == r_m_areLeft with
            | false => rfl
            | true => rw [beq_iff_eq] at e; rw [e] at hr; exact absurd hr (by decide))
        have rk : ∀ f, zrk (e_upd c r_Count_isOut 0 0 g 1) s f = (zrk c s f && decide (f ≠ g)) := fun f => by
          unfold zrk zob zon
          rw [cO r_Section_jurorCount (by decide), cO r_Juror_ballot (by decide), cO r_Juror_ballotSize (by decide), e_ur]
          by_cases z : f = g
          · rw [if_pos ⟨rfl, rfl, z⟩, decide_eq_false (show ¬ f ≠ g from fun y => y z), decide_eq_false (by decide), Bool.false_and, Bool.and_false]
          · rw [if_neg (fun y => z y.2.2), decide_eq_true (show f ≠ g from z), Bool.and_true]
        have h' : zWc s (e_upd c r_Count_isOut 0 0 g 1) (e_upd m r_m_areLeft 0 0 g 0) := by
          refine ⟨⟨⟨s0, s1⟩, ?_, zBa_rel.uc (zBa_rel.um hB (by decide)) (by decide), zJu_rel.uc (zJu_rel.um hJ (by decide)) (by decide)⟩, fun f f0 f1 => ?_⟩
          · rw [e_un (by decide), e_un (by decide)]
            exact ⟨a1, a2, a3⟩
          · rw [e_un (by decide)] at f1
            rw [rk, e_ur, Bool.and_eq_true, decide_eq_true_eq]
            by_cases z : f = g
            · rw [if_pos ⟨rfl, rfl, z⟩]
              exact ⟨fun y => absurd rfl y, fun y => absurd z y.2⟩
            · rw [if_neg (fun y => z y.2.2), hL f f0 f1]
              exact ⟨fun y => ⟨y, z⟩, fun y => y.1⟩
        have hcnt : zcnt (zrk (e_upd c r_Count_isOut 0 0 g 1) s) ((e_upd c r_Count_isOut 0 0 g 1) r_x_filmCount 0 0 0).toNat 0 = n := by
          rw [e_un (by decide)]
          have := zcnt_one (p := zrk c s) (b := g) g2 (c r_x_filmCount 0 0 0).toNat 0 g0 (by omega)
          rw [zcnt_cg (p := zrk (e_upd c r_Count_isOut 0 0 g 1) s) (q := fun i => zrk c s i && decide (i ≠ g)) _ 0 (fun i _ _ => rk i)]
          omega
        have hn1 : 1 ≤ n := by
          by_cases z : n = 0
          · exfalso
            -- one film alone has all votes
            subst z
            have only : ∀ f, 0 ≤ f → f < c r_x_filmCount 0 0 0 → zrk c s f = true → f = w := fun f f0 f1 hf => by
              by_cases e : f = w
              · exact e
              · have y1 := zcnt_one (p := zrk c s) (b := w) w6 (c r_x_filmCount 0 0 0).toNat 0 w4 (by omega)
                have y2 := zcnt_one (p := fun i => zrk c s i && decide (i ≠ w)) (b := f) (by
                  show (zrk c s f && decide (f ≠ w)) = true
                  rw [hf, decide_eq_true e]
                  rfl) (c r_x_filmCount 0 0 0).toNat 0 f0 (by omega)
                have y3 := zcnt_le (fun i => (fun i => zrk c s i && decide (i ≠ w)) i && decide (i ≠ f)) (c r_x_filmCount 0 0 0).toNat 0
                (try dsimp only at y1 y2 y3)
                omega
            have hall : zvo c s (zfo c s) ≤ zfs c s w := zcnt_mono _ 0 (fun j j0 j1 hj => by
              simp only [Bool.not_eq_true', decide_eq_false_iff_not] at hj
              obtain ⟨-, -, f3, -⟩ := q_first h j0 (show j < c r_Section_jurorCount s 0 0 by omega)
              rcases f3 with f3 | ⟨f3, f4, f5⟩
              · exact absurd f3 hj
              · exact decide_eq_true (only _ f3 f4 f5))
            have hpos : 0 < zvo c s (zfo c s) := by
              have w8 := w6
              unfold zrk zob at w8
              rw [Bool.and_eq_true, decide_eq_true_eq, zany_iff] at w8
              obtain ⟨w9, j, j0, j1, hj⟩ := w8
              unfold zon at hj
              rw [zany_iff] at hj
              obtain ⟨k, k0, k1, hk⟩ := hj
              have hk := of_decide_eq_true hk
              obtain ⟨-, -, -, f4⟩ := q_first h j0 (show j < c r_Section_jurorCount s 0 0 by omega)
              have bs := (hB s j s0 s1 j0 (by omega)).1.1
              have f5 := f4 k k0 (by omega) (by rw [hk]; exact w9)
              have y1 := zcnt_one (p := fun j => !decide (zfo c s j = -1)) (b := j) (by
                show (!decide (zfo c s j = -1)) = true
                rw [decide_eq_false f5]
                rfl) (c r_Section_jurorCount s 0 0).toNat 0 j0 (by omega)
              have y2 := zcnt_le (fun i => (fun j => !decide (zfo c s j = -1)) i && decide (i ≠ j)) (c r_Section_jurorCount s 0 0).toNat 0
              unfold zvo
              (try dsimp only at y1 y2)
              omega
            omega
          · omega
        exact q_rounds n (x + 1) _ _ h' hcnt hn1 (by omega) (by omega) (fun r hr => (cO r hr).trans (fc r hr)) (fun r hr => (mO r hr).trans (fm r hr))
      · rw [if_neg q, q_major h w4 w5 w6 (by omega)]
        exact ⟨w, c, m, rfl, rfl, ⟨w4, by omega⟩, fc, fm⟩
end
/-! part 71uc26 -/
section
/-! winner, award: both sides -/
def zLn (c _m : ZS) : Prop := c r_Grid_films_len 0 0 0 = 20
def zLnC : List Nat := [r_Grid_films_len]
def zLnM : List Nat := []
theorem zLn_rel : zRel zLn zLnC zLnM := fun {c m c' m'} h hc hm => by
  unfold zLn
  rw [hc r_Grid_films_len (by decide)]
  exact h
theorem q_drop {c : ZS} (hl : c r_Grid_films_len 0 0 0 = 20) (hb : ∀ f, 0 ≤ f → f < 20 → zbit (c r_Film_isWithdrawn f 0 0)) : ∃ C, f_Count_dropWithdrawn [] c = ((0, []), C) ∧ (∀ r, zouC.contains r = false → C r = c r) ∧ ∀ f, 0 ≤ f → f < 20 → C r_Count_isOut 0 0 f = c r_Film_isWithdrawn f 0 0 := by
  have key : ∀ (t : Nat) (k : Int) (S : ZS), 0 ≤ k → k + t = 20 → (∀ r, zouC.contains r = false → S r = c r) → (∀ f, 0 ≤ f → f < k → S r_Count_isOut 0 0 f = c r_Film_isWithdrawn f 0 0) → ∃ C, g_Count_dropWithdrawn ((1002, [k]), S) = ((0, []), C) ∧ (∀ r, zouC.contains r = false → C r = c r) ∧ ∀ f, 0 ≤ f → f < 20 → C r_Count_isOut 0 0 f = c r_Film_isWithdrawn f 0 0 := by
    intro t
    induction t with
    | zero =>
      intro k S k0 k1 fr h
      exact ⟨S, by rw [g_Count_dropWithdrawn_2, zb_d, if_pos (by omega)], fr, fun f f0 f1 => h f f0 (by omega)⟩
    | succ t ih =>
      intro k S k0 k1 fr h
      have hk : e_wr (k + 1) = k + 1 := e_wr_id (by omega) (by omega)
      have hn : e_nar 1 (c r_Film_isWithdrawn k 0 0) = c r_Film_isWithdrawn k 0 0 := by
        rcases hb k k0 (by omega) with e | e
        · rw [e]
          exact e_nb0
        · rw [e]
          exact e_nb1
      rw [g_Count_dropWithdrawn_2, zb_d, if_neg (by omega), zb_d, fr r_Grid_films_len (by decide), hl, if_neg (by omega), hk, fr r_Film_isWithdrawn (by decide), hn]
      refine ih (k + 1) _ (by omega) (by omega) (fun r hr => ?_) (fun f f0 f1 => ?_)
      · rw [← fr r hr]
        funext a b d
        exact e_un (by
          cases e : r == r_Count_isOut with
          | false => rfl
          | true => rw [beq_iff_eq] at e; rw [e] at hr; exact absurd hr (by decide))
      · rw [e_ur]
        by_cases e : f = k
        · rw [if_pos ⟨rfl, rfl, e⟩, e]
        · rw [if_neg (fun z => e z.2.2)]
          exact h f f0 (by omega)
  obtain ⟨C, h1, h2, h3⟩ := key 20 0 c (Int.le_refl _) (by decide) (fun _ _ => rfl) (fun f a b => by omega)
  refine ⟨C, ?_, h2, h3⟩
  show g_Count_dropWithdrawn ((1000, []), c) = _
  rw [g_Count_dropWithdrawn_0]
  exact h1
/-- the model's films that are left at first -/
theorem q_left {s : Int} {c m : ZS} (hW : zWb s c m) (hD : ∀ f, 0 ≤ f → f < c r_x_filmCount 0 0 0 → (m r_m_areWithdrawn 0 0 f = 0 ↔ c r_Count_isOut 0 0 f = 0)) : ∀ (t : Nat) (k v : Int) (M : ZS), 0 ≤ k → k + t = c r_x_filmCount 0 0 0 → zbit v → (v = 0 ↔ zcnt (zrk c s) k.toNat 0 = 0) → (∀ r, zouM.contains r = false → M r = m r) → (∀ f, 0 ≤ f → f < k → (M r_m_areLeft 0 0 f ≠ 0 ↔ zrk c s f = true)) → ∃ v' M', g_m_winnerOf ((1004, [s, v, k]), M) = g_m_winnerOf ((1004, [s, v', c r_x_filmCount 0 0 0]), M') ∧ zbit v' ∧ (v' = 0 ↔ zcnt (zrk c s) (c r_x_filmCount 0 0 0).toNat 0 = 0) ∧ (∀ r, zouM.contains r = false → M' r = m r) ∧ ∀ f, 0 ≤ f → f < c r_x_filmCount 0 0 0 → (M' r_m_areLeft 0 0 f ≠ 0 ↔ zrk c s f = true) := by
  obtain ⟨⟨s0, s1⟩, ⟨a1, a2, a3⟩, hB, hJ⟩ := id hW
  obtain ⟨⟨u0, u1, u2⟩, -⟩ := hJ s s0 s1
  intro t
  induction t with
  | zero =>
    intro k v M k0 k1 hv hz fm h
    have e : k = c r_x_filmCount 0 0 0 := by omega
    rw [e] at hz h ⊢
    exact ⟨v, M, rfl, hv, hz, fm, h⟩
  | succ t ih =>
    intro k v M k0 k1 hv hz fm h
    have hk : e_wr (k + 1) = k + 1 := e_wr_id (by omega) (by omega)
    have ek : (k + 1).toNat = k.toNat + 1 := by omega
    have e0 : (0 : Int) + (k.toNat : Int) = k := by omega
    have happ := zcnt_app (p := zrk c s) k.toNat 0
    have hle := zcnt_le (zrk c s) k.toNat 0
    rw [e0, ← ek] at happ
    rw [g_m_winnerOf_4, zb_d, fm r_m_films (by decide), if_neg (by omega), e_nb0]
    have hd := hD k k0 (by omega)
    have inner : ∀ (t : Nat) (j : Int) (P : ZS) (u : Bool), 0 ≤ j → j + t = c r_Section_jurorCount s 0 0 → (∀ r, zouM.contains r = false → P r = m r) → (∀ f, f ≠ k → P r_m_areLeft 0 0 f = M r_m_areLeft 0 0 f) → P r_m_areLeft 0 0 k = zb u → ∃ P', g_m_winnerOf ((1022, [s, v, k, j]), P) = g_m_winnerOf ((1022, [s, v, k, c r_Section_jurorCount s 0 0]), P') ∧ (∀ r, zouM.contains r = false → P' r = m r) ∧ (∀ f, f ≠ k → P' r_m_areLeft 0 0 f = M r_m_areLeft 0 0 f) ∧ P' r_m_areLeft 0 0 k = zb (u || (decide (c r_Count_isOut 0 0 k = 0) && zany (fun j => zon c s j k) t j)) := by
      intro t
      induction t with
      | zero =>
        intro j P u j0 j1 fp hp hu
        refine ⟨P, by rw [show j = c r_Section_jurorCount s 0 0 by omega], fp, hp, ?_⟩
        rw [hu, zany, Bool.and_false, Bool.or_false]
      | succ t iht =>
        intro j P u j0 j1 fp hp hu
        have hj : e_wr (j + 1) = j + 1 := e_wr_id (by omega) (by omega)
        have hWP : zWb s c P := by
          refine ⟨⟨s0, s1⟩, by rw [fp r_m_films (by decide)]; exact ⟨a1, a2, a3⟩, zBa_rel hB (fun _ _ => rfl) (fun r hr => fp r (z_nin_ok (by decide : z_nin zBaM zouM = true) hr)), zJu_rel hJ (fun _ _ => rfl) (fun r hr => fp r (z_nin_ok (by decide : z_nin zJuM zouM = true) hr))⟩
        obtain ⟨-, p2, p3, p4⟩ := q_placeOn (f := k) hWP j0 (show j < c r_Section_jurorCount s 0 0 by omega)
        have step : ∀ b, e_nar 1 (e_or (zb u) (zb b)) = zb (u || b) := fun b => by cases u <;> cases b <;> decide +kernel
        have s0' : e_nar 1 (e_or (zb u) 0) = zb (u || false) := step false
        have s1' : e_nar 1 (e_or (zb u) 1) = zb (u || true) := step true
        have next : ∀ b, ∃ P', g_m_winnerOf ((1022, [s, v, k, j + 1]), e_upd P r_m_areLeft 0 0 k (zb (u || b))) = g_m_winnerOf ((1022, [s, v, k, c r_Section_jurorCount s 0 0]), P') ∧ (∀ r, zouM.contains r = false → P' r = m r) ∧ (∀ f, f ≠ k → P' r_m_areLeft 0 0 f = M r_m_areLeft 0 0 f) ∧ P' r_m_areLeft 0 0 k = zb ((u || b) || (decide (c r_Count_isOut 0 0 k = 0) && zany (fun j => zon c s j k) t (j + 1))) := fun b => iht (j + 1) _ (u || b) (by omega) (by omega) (fun r hr => by
          rw [← fp r hr]
          funext x y z
          exact e_un (by
            cases e : r == r_m_areLeft with
            | false => rfl
            | true => rw [beq_iff_eq] at e; rw [e] at hr; exact absurd hr (by decide))) (fun f hf => by
          rw [e_ur, if_neg (fun z => hf z.2.2)]
          exact hp f hf) (by rw [e_us])
        have eM := g_m_winnerOf_22 (x1 := s) (x2 := v) (x3 := k) (x4 := j) (S := P)
        rw [zb_d, fp r_m_jurorMany (by decide), if_neg (by omega), p2, e_bnd, zb_d, zb_n, fp r_m_areWithdrawn (by decide), hu, s0', s1', hj] at eM
        rw [eM, zany, p4]
        by_cases q1 : zpo c s j k = -1
        · rw [if_pos (by omega), decide_eq_true q1, Bool.not_true, Bool.false_or]
          have := next false
          rw [Bool.or_false] at this ⊢
          exact this
        · rw [if_neg (by omega), decide_eq_false q1, Bool.not_false, Bool.true_or, Bool.and_true]
          by_cases q2 : m r_m_areWithdrawn 0 0 k = 0
          · rw [if_pos q2, decide_eq_true (hd.mp q2)]
            obtain ⟨P', x1, x2, x3, x4⟩ := next true
            exact ⟨P', x1, x2, x3, by rw [x4, Bool.or_true, Bool.true_or]⟩
          · rw [if_neg q2, decide_eq_false (fun z => q2 (hd.mpr z)), Bool.or_false]
            obtain ⟨P', x1, x2, x3, x4⟩ := next false
            refine ⟨P', ?_, x2, x3, ?_⟩
            · rw [← x1, Bool.or_false]
            · rw [x4, decide_eq_false (fun z => q2 (hd.mpr z)), Bool.false_and, Bool.or_false, Bool.or_false]
    obtain ⟨P, p1, p2, p3, p4⟩ := inner (c r_Section_jurorCount s 0 0).toNat 0 (e_upd M r_m_areLeft 0 0 k 0) false (Int.le_refl _) (by omega) (fun r hr => by
      rw [← fm r hr]
      funext x y z
      exact e_un (by
        cases e : r == r_m_areLeft with
        | false => rfl
        | true => rw [beq_iff_eq] at e; rw [e] at hr; exact absurd hr (by decide))) (fun f hf => by rw [e_ur, if_neg (fun z => hf z.2.2)]) (by rw [e_us]; rfl)
    have p5 : P r_m_areLeft 0 0 k = zb (zrk c s k) := by
      rw [p4, Bool.false_or]
      rfl
    have eM := g_m_winnerOf_22 (x1 := s) (x2 := v) (x3 := k) (x4 := c r_Section_jurorCount s 0 0) (S := P)
    rw [zb_d, p2 r_m_jurorMany (by decide), if_pos (by omega), p5, hk] at eM
    rw [p1, eM]
    have hor : e_or v (zb (zrk c s k)) = if zrk c s k = true then 1 else v := by
      cases zrk c s k
      · exact e_or0 hv
      · exact e_or1 hv
    rw [hor]
    refine ih (k + 1) _ P (by omega) (by omega) ?_ ?_ p2 (fun f f0 f1 => ?_)
    · split
      · exact zbit1
      · exact hv
    · by_cases w : zrk c s k = true
      · rw [if_pos w] at happ ⊢
        constructor
        · intro z
          cases z
        · intro z
          omega
      · rw [if_neg w] at happ ⊢
        rw [happ, Int.add_zero]
        exact hz
    · by_cases e : f = k
      · rw [e, p5]
        cases zrk c s k <;> simp [zb]
      · rw [p3 f e]
        exact h f f0 (by omega)
theorem q_winner {s : Int} {c m : ZS} (hR : zR c m) (hU : zRu c m) (hJ : zJu c m) (hB : zBa c m) (hW : zWd c m) (hL : zLn c m) (s0 : 0 ≤ s) (s1 : s < c r_x_sectionCount 0 0 0) : ∃ w C' M', f_Count_findWinner [s] c = ((0, [w]), C') ∧ f_m_winnerOf [s] m = ((0, [w]), M') ∧ (-1 ≤ w ∧ w < c r_x_filmCount 0 0 0) ∧ (∀ r, zouC.contains r = false → C' r = c r) ∧ (∀ r, zouM.contains r = false → M' r = m r) := by
  obtain ⟨a1, a2, a3⟩ := hR.1
  obtain ⟨⟨d1, d2, d3⟩, ru⟩ := id hU
  obtain ⟨r1, r2, -⟩ := ru s s0 (by omega)
  obtain ⟨C, e1, e2, e3⟩ := q_drop (c := c) hL (fun f f0 f1 => (hW f f0 f1).2)
  have hBC : zBa C m := zBa_rel hB (fun r hr => e2 r (z_nin_ok (by decide : z_nin zBaC zouC = true) hr)) (fun _ _ => rfl)
  have hJC : zJu C m := zJu_rel hJ (fun r hr => e2 r (z_nin_ok (by decide : z_nin zJuC zouC = true) hr)) (fun _ _ => rfl)
  have eN : C r_x_filmCount 0 0 0 = c r_x_filmCount 0 0 0 := by rw [e2 _ (by decide)]
  have hWC : zWb s C m := ⟨⟨s0, by omega⟩, by rw [eN]; exact ⟨a1, a2, a3⟩, hBC, hJC⟩
  obtain ⟨v, M, m1, m2, m3, m4, m5⟩ := q_left hWC (fun f f0 f1 => by
    rw [eN] at f1
    rw [e3 f f0 (by omega), (hW f f0 (by omega)).1]) (C r_x_filmCount 0 0 0).toNat 0 0 m (Int.le_refl _) (by omega) zbit0 ⟨fun _ => rfl, fun _ => rfl⟩ (fun _ _ => rfl) (fun f a b => by omega)
  have hWM : zWc s C M := ⟨⟨⟨s0, by omega⟩, by rw [eN, m4 r_m_films (by decide)]; exact ⟨a1, a2, a3⟩, zBa_rel hBC (fun _ _ => rfl) (fun r hr => m4 r (z_nin_ok (by decide : z_nin zBaM zouM = true) hr)), zJu_rel hJC (fun _ _ => rfl) (fun r hr => m4 r (z_nin_ok (by decide : z_nin zJuM zouM = true) hr))⟩, m5⟩
  have eM0 : f_m_winnerOf [s] m = g_m_winnerOf ((1004, [s, v, C r_x_filmCount 0 0 0]), M) := by
    show g_m_winnerOf ((1000, [s]), m) = _
    rw [g_m_winnerOf_0]
    exact m1
  have eM := g_m_winnerOf_4 (x1 := s) (x2 := v) (x3 := C r_x_filmCount 0 0 0) (S := M)
  rw [zb_d, m4 r_m_films (by decide), if_pos (by omega), zb_n, zb_n, zb_n, zb_n, m4 r_m_rules (by decide), r2 s1] at eM
  have eC : f_Count_findWinner [s] c = (bif !decide (c r_Section_rule s 0 0 = 98) then (bif !decide (c r_Section_rule s 0 0 = 99) then (bif !decide (c r_Section_rule s 0 0 = 114) then (e_bind (f_Count_withMost [s, 0] C) (fun v2 S2 => ((0, [v2]), S2))) else (e_bind (f_Count_byRounds [s] C) (fun v3 S3 => ((0, [v3]), S3)))) else (e_bind (f_Count_byDuels [s] C) (fun v4 S4 => ((0, [v4]), S4)))) else (e_bind (f_Count_withMost [s, 1] C) (fun v5 S5 => ((0, [v5]), S5)))) := by
    unfold f_Count_findWinner
    dsimp only
    rw [e1, e_bnd0, e2 r_Section_rule (by decide)]
  rw [zb_n, zb_n, zb_n] at eC
  have cnt0 := zcnt_le (zrk C s) (C r_x_filmCount 0 0 0).toNat 0
  by_cases hv : v = 0
  · -- nobody is left
    have hz := m3.mp hv
    have hnone : ∀ f, 0 ≤ f → f < C r_x_filmCount 0 0 0 → zrk C s f = false := fun f f0 f1 => by
      cases e : zrk C s f with
      | false => rfl
      | true =>
        have := zcnt_one (p := zrk C s) (b := f) e (C r_x_filmCount 0 0 0).toNat 0 f0 (by omega)
        have := zcnt_le (fun i => zrk C s i && decide (i ≠ f)) (C r_x_filmCount 0 0 0).toNat 0
        omega
    have most : ∀ b, (b = 0 ∨ b = 1) → f_Count_withMost [s, b] C = ((0, [-1]), C) := fun b hb => by
      obtain ⟨w, w1, -, w3⟩ := q_most hWM hb
      rcases w3 with ⟨w3, -⟩ | ⟨w3, w4, w5, -⟩
      · rw [w3] at w1
        exact w1
      · rw [hnone w w3 w4] at w5
        cases w5
    have hrk : ∀ f, zrk C s f = false := fun f => by
      cases e : zrk C s f with
      | false => rfl
      | true =>
        have := zrk_lt hWC e
        rw [hnone f this.1 this.2] at e
        cases e
    have duels : f_Count_byDuels [s] C = ((0, [-1]), C) := by
      show g_Count_byDuels ((1000, [s]), C) = _
      rw [g_Count_byDuels_0]
      have key : ∀ (t : Nat) (k : Int), 0 ≤ k → k + t = 20 → g_Count_byDuels ((1002, [s, k]), C) = ((0, [-1]), C) := by
        intro t
        induction t with
        | zero =>
          intro k k0 k1
          rw [g_Count_byDuels_2, zb_d, if_pos (by omega), most 1 (Or.inr rfl), e_bnd]
        | succ t ih =>
          intro k k0 k1
          have hk : e_wr (k + 1) = k + 1 := e_wr_id (by omega) (by omega)
          rw [g_Count_byDuels_2, zb_d, if_neg (by omega), q_isRanked hWM, e_bnd, zb_d, hrk k, if_pos (by rfl), hk]
          exact ih (k + 1) (by omega) (by omega)
      exact key 20 0 (Int.le_refl _) (by decide)
    have rounds : f_Count_byRounds [s] C = ((0, [-1]), C) := by
      show g_Count_byRounds ((1000, [s]), C) = _
      rw [g_Count_byRounds_0, g_Count_byRounds_2, zb_d, if_neg (by decide)]
      obtain ⟨⟨u0, u1, -⟩, -⟩ := hJC s s0 (by omega)
      have key : ∀ (t : Nat) (k x : Int), 0 ≤ k → k + t = C r_Section_jurorCount s 0 0 → g_Count_byRounds ((1013, [s, 0, x, k]), C) = ((0, [-1]), C) := by
        intro t
        induction t with
        | zero =>
          intro k x k0 k1
          rw [g_Count_byRounds_13, zb_d, if_pos (by omega), most 0 (Or.inl rfl), e_bnd, zb_d, if_pos rfl]
        | succ t ih =>
          intro k x k0 k1
          have hk : e_wr (k + 1) = k + 1 := e_wr_id (by omega) (by omega)
          rw [g_Count_byRounds_13, zb_d, if_neg (by omega), (q_first hWM k0 (by omega)).1, e_bnd, zb_d, hk]
          split
          · exact ih (k + 1) x (by omega) (by omega)
          · exact ih (k + 1) _ (by omega) (by omega)
      exact key (C r_Section_jurorCount s 0 0).toNat 0 0 (Int.le_refl _) (by omega)
    rw [if_pos hv] at eM
    refine ⟨-1, C, M, ?_, eM0.trans eM, ⟨by omega, by omega⟩, e2, m4⟩
    rw [eC, most 0 (Or.inl rfl), most 1 (Or.inr rfl), duels, rounds]
    simp only [e_bnd, ite_self]
  · rw [if_neg hv] at eM
    have hpos : 1 ≤ zcnt (zrk C s) (C r_x_filmCount 0 0 0).toNat 0 := by
      by_cases z : zcnt (zrk C s) (C r_x_filmCount 0 0 0).toNat 0 = 0
      · exact absurd (m3.mpr z) hv
      · omega
    by_cases q1 : c r_Section_rule s 0 0 = 98
    · obtain ⟨w, w1, w2, w3⟩ := q_most hWM (Or.inr rfl)
      rw [if_pos q1, w1, e_bnd] at eC
      rw [if_neg (show ¬ c r_Section_rule s 0 0 = 99 by omega), if_neg (show ¬ c r_Section_rule s 0 0 = 114 by omega), if_pos q1, w2, e_bnd] at eM
      refine ⟨w, C, M, eC, eM0.trans eM, ?_, e2, m4⟩
      rcases w3 with w3 | w3 <;> omega
    · rw [if_neg q1] at eC
      by_cases q2 : c r_Section_rule s 0 0 = 99
      · obtain ⟨w, w1, w2, w3, w4⟩ := q_duels hWM
        rw [if_pos q2, w1, e_bnd] at eC
        rw [if_pos q2, w2, e_bnd] at eM
        exact ⟨w, C, M, eC, eM0.trans eM, ⟨w3, by omega⟩, e2, m4⟩
      · rw [if_neg q2] at eC eM
        by_cases q3 : c r_Section_rule s 0 0 = 114
        · obtain ⟨w, C', M', w1, w2, w3, w4, w5⟩ := q_rounds (c0 := C) (m0 := M) (zcnt (zrk C s) (C r_x_filmCount 0 0 0).toNat 0).toNat 0 C M hWM (by omega) (by omega) (Int.le_refl _) (by omega) (fun _ _ => rfl) (fun _ _ => rfl)
          have w1' : f_Count_byRounds [s] C = ((0, [w]), C') := by
            show g_Count_byRounds ((1000, [s]), C) = _
            rw [g_Count_byRounds_0]
            exact w1
          have w2' : f_m_byRounds [s] M = ((0, [w]), M') := w2
          rw [if_pos q3, w1', e_bnd] at eC
          rw [if_pos q3, w2', e_bnd] at eM
          exact ⟨w, C', M', eC, eM0.trans eM, ⟨by omega, by omega⟩, fun r hr => (w4 r hr).trans (e2 r hr), fun r hr => (w5 r hr).trans (m4 r hr)⟩
        · obtain ⟨w, w1, w2, w3⟩ := q_most hWM (Or.inl rfl)
          rw [if_neg q3, w1, e_bnd] at eC
          rw [if_neg q3, if_neg q1, w2, e_bnd] at eM
          refine ⟨w, C, M, eC, eM0.trans eM, ?_, e2, m4⟩
          rcases w3 with w3 | w3 <;> omega
theorem o_winner {s : Int} {c m : ZS} (hR : zR c m) (hU : zRu c m) (hJ : zJu c m) (hB : zBa c m) (hW : zWd c m) (hL : zLn c m) : zBo zRu (f_w_winner [s] c) (f_m_winner [s] m) := by
  obtain ⟨⟨d1, d2, d3⟩, -⟩ := id hU
  show zBo zRu (e_try (f_x_winner [s] c) (fun v1 S1 => ((0, [0]), e_upd S1 r_out 0 0 0 v1)) [(0, 1), (4, 2)]) (f_m_winner [s] m)
  unfold f_x_winner f_m_winner
  dsimp only
  rw [q_section d1 (by omega), q_noSection (by omega) (by omega), d3]
  by_cases hs : 0 ≤ s ∧ s < c r_x_sectionCount 0 0 0
  · rw [if_pos hs, if_pos hs, e_b_ok]
    simp (decide := true) only [zb_n, zb_d, ↓reduceIte, Int.reduceEq]
    obtain ⟨w, C, M, e1, e2, e3, e4, e5⟩ := q_winner (zR_rel.um hR (by decide) : zR c (e_upd m r_m_thrown 0 0 0 0)) hU.thr hJ.thr hB.thr hW.thr (zLn_rel.um hL (by decide)) hs.1 hs.2
    have hU2 : zRu C M := zRu_rel hU.thr (fun r hr => e4 r (z_nin_ok (by decide : z_nin zRuC zouC = true) hr)) (fun r hr => e5 r (z_nin_ok (by decide : z_nin zRuM zouM = true) hr))
    rw [e1, e2, e_bnd, e_bnd]
    by_cases q : w = -1
    · simp only [q, ↓reduceIte, Int.reduceLE, Int.reduceNeg]
      exact ⟨2, 0, _, _, rfl, rfl, hU2.thr, e_us, fun q => absurd q (by decide)⟩
    · simp only [if_neg q, if_pos (show 0 ≤ w by omega)]
      exact ⟨0, _, _, _, rfl, rfl, hU2.thr.out, e_us, fun _ => e_us⟩
  · rw [if_neg hs, if_neg hs, e_b_x (by decide) (by decide)]
    simp (decide := true) only [zb_n, zb_d, ↓reduceIte]
    exact ⟨1, 0, _, _, rfl, rfl, hU.thr, e_us, fun q => absurd q (by decide)⟩
theorem o_award {s : Int} {c m : ZS} (hR : zR c m) (hF : zFs c m) (hU : zRu c m) (hJ : zJu c m) (hB : zBa c m) (hW : zWd c m) (hL : zLn c m) (hA : zAw c m) (hG : zAr c m) : zBo (zAnd zAw zAr) (f_w_award [s] c) (f_m_award [s] m) := by
  obtain ⟨⟨d1, d2, d3⟩, -⟩ := id hU
  show zBo (zAnd zAw zAr) (e_try (f_x_award [s] c) (fun v1 S1 => ((0, [0]), e_upd S1 r_out 0 0 0 v1)) [(0, 1), (3, 2), (4, 3)]) (f_m_award [s] m)
  unfold f_x_award f_m_award
  dsimp only
  rw [q_section d1 (by omega), q_noSection (by omega) (by omega), d3]
  by_cases hs : 0 ≤ s ∧ s < c r_x_sectionCount 0 0 0
  · rw [if_pos hs, if_pos hs, e_b_ok]
    simp (decide := true) only [zb_n, zb_d, ↓reduceIte, Int.reduceEq]
    obtain ⟨w, C, M, e1, e2, e3, e4, e5⟩ := q_winner (zR_rel.um hR (by decide) : zR c (e_upd m r_m_thrown 0 0 0 0)) hU.thr hJ.thr hB.thr hW.thr (zLn_rel.um hL (by decide)) hs.1 hs.2
    have hA0 : zAw c M := zAw_rel hA.thr (fun _ _ => rfl) (fun r hr => e5 r (z_nin_ok (by decide : z_nin zAwM zouM = true) hr))
    have hA2 : zAw C M := zAw_rel hA.thr (fun r hr => e4 r (z_nin_ok (by decide : z_nin zAwC zouC = true) hr)) (fun r hr => e5 r (z_nin_ok (by decide : z_nin zAwM zouM = true) hr))
    have hG0 : zAr c M := zAr_rel hG.thr (fun _ _ => rfl) (fun r hr => e5 r (z_nin_ok (by decide : z_nin zArM zouM = true) hr))
    have hG2 : zAr C M := zAr_rel hG.thr (fun r hr => e4 r (z_nin_ok (by decide : z_nin zArC zouC = true) hr)) (fun r hr => e5 r (z_nin_ok (by decide : z_nin zArM zouM = true) hr))
    have ga := hA0 s hs.1 (by omega)
    rw [e2, e_bnd, ga]
    by_cases q0 : c r_Section_isAwarded s 0 0 = 0
    · simp only [if_pos q0]
      rw [e1, e_bnd]
      by_cases q : w = -1
      · subst q
        simp (decide := true) only [↓reduceIte, Int.reduceLE, Int.reduceLT, Int.reduceNeg]
        exact ⟨3, 0, _, _, rfl, rfl, ⟨hA2.thr.thr, hG2.thr.thr⟩, e_us, fun q => absurd q (by decide)⟩
      · obtain ⟨s1, s2, s3⟩ := hF
        have st := (s1 w (by omega) e3.2).2.2.1
        have pr := (s3 w (by omega) (by have := hR.1; omega)).1
        simp only [if_neg q, if_neg (show ¬ w < 0 by omega), if_pos (show 0 ≤ w by omega)]
        rw [e5 r_m_promises (by decide), e5 r_m_still (by decide)]
        simp (decide := true) only [e_un, st, pr]
        unfold v_Film_breaksPromise
        rw [e4 r_Film_promise (by decide), e4 r_Film_stillIs (by decide), zb_d]
        by_cases q1 : c r_Film_promise w 0 0 ≤ c r_Film_stillIs w 0 0
        · simp (decide := true) only [if_pos q1, ↓reduceIte]
          rw [q_zcA, q_zmA, e_bnd0, e_bnd0, e_nb1]
          refine ⟨0, _, _, _, rfl, rfl, ⟨zAw.out (zAw_rel.zcA (by decide) (zAw_rel.zmA (by decide) (fun t t0 t1 => ?_))), zAr.out (zAr.add (zAr_rel.uc (zAr_rel.um hG2.thr.thr (by decide)) (by decide)))⟩, ?_, fun _ => e_us⟩
          · simp (decide := true) only [e_un, e_ur]
            by_cases z : t = s
            · simp (decide := true) only [z, and_self, ↓reduceIte]
            · simp only [z, and_false, false_and, ↓reduceIte]
              exact hA2 t t0 t1
          · rw [zmA_o (by decide)]
            simp (decide := true) only [e_un, e_us]
        · simp (decide := true) only [if_neg q1, ↓reduceIte]
          exact ⟨2, 0, _, _, rfl, rfl, ⟨hA2.thr, hG2.thr⟩, e_us, fun q => absurd q (by decide)⟩
    · simp only [if_neg q0]
      exact ⟨2, 0, _, _, rfl, rfl, ⟨hA0.thr, hG0.thr⟩, e_us, fun q => absurd q (by decide)⟩
  · rw [if_neg hs, if_neg hs, e_b_x (by decide) (by decide)]
    simp (decide := true) only [zb_n, zb_d, ↓reduceIte]
    exact ⟨1, 0, _, _, rfl, rfl, ⟨hA.thr, hG.thr⟩, e_us, fun q => absurd q (by decide)⟩
end
/-! part 71uc27 -/
section
/-! The juries beside film and go -/
theorem s_filmJ {x y z : Int} {c m : ZS} (h : zR c m) (hT : zTy c m) (hB : zBa c m) : (zAnd zTy zBa) (f_w_film [x, y, z] c).2 (f_m_film [x, y, z] m).2 := by
  obtain ⟨⟨a1, a2, a3⟩, -⟩ := id h
  rw [q_wfilm a1 a2, q_mfilm (by omega) (by omega), a3]
  split
  · split
    · exact ⟨hT.thr.thr, hB.thr.thr⟩
    · rename_i hn
      obtain ⟨tl, ⟨t0, t1, t2⟩, ty⟩ := hT
      refine ⟨zTy.out ⟨?_, ?_, fun k k0 k1 => ?_⟩, zBa.out fun s j s0 s1 j0 j1 => ?_⟩
      · simp (decide := true) only [e_un, zfl_o]
        exact tl
      · simp (decide := true) only [e_un, zfl_o]
        exact ⟨t0, t1, t2⟩
      · simp (decide := true) only [e_un, zfl_o] at k1
        obtain ⟨b1, b2, b3⟩ := ty k k0 k1
        simp (decide := true) only [e_un, e_us, zfl_o]
        exact ⟨b1, b2, by omega⟩
      · obtain ⟨y1, y2, y3⟩ := hB s j s0 s1 j0 j1
        simp (decide := true) only [e_un, e_us, zfl_o]
        refine ⟨y1, fun k k0 k1 => ?_, y3⟩
        obtain ⟨z1, z2, z3⟩ := y2 k k0 k1
        exact ⟨z1, z2, by omega⟩
  · exact ⟨hT.thr, hB.thr⟩
theorem o_filmJ {x y z : Int} {c m : ZS} (h : zR c m) (h2 : zFs c m) (h3 : zSw c m) (h4 : zTy c m) (h5 : zBa c m) : zBo (zAnd (zAnd (zAnd zR zFs) zSw) (zAnd zTy zBa)) (f_w_film [x, y, z] c) (f_m_film [x, y, z] m) := (o_filmG h h2 h3).and (s_filmJ h h4 h5)
theorem o_goJ {n : Int} {c m : ZS} (h : zHr c m) (hT : zTo c m) (hA : zSa c m) : zBo (zAnd (zAnd zHr zTo) zSa) (f_w_go [n] c) (f_m_go [n] m) := by
  refine (o_go h hT).and ?_
  obtain ⟨h0, h1, h2⟩ := id h
  show zSa (e_try (f_x_go [n] c) (fun v1 S1 => ((0, [0]), e_upd S1 r_out 0 0 0 v1)) [(1, 1), (2, 2)]).2 (f_m_go [n] m).2
  unfold f_x_go f_m_go
  dsimp only
  simp only [zb_n, zb_d, q_within, q_isIn, h2, e_us]
  by_cases hn : 1 ≤ n ∧ n ≤ 50
  · have hw : e_wr (c r_Grid_hour 0 0 0 + n) = c r_Grid_hour 0 0 0 + n := e_wr_id (by omega) (by omega)
    by_cases hs : c r_Grid_hour 0 0 0 + n ≤ 50
    · simp (decide := true) only [if_pos hn, hw, if_pos hs, ↓reduceIte, Int.reduceEq]
      have key : zSa (e_upd c r_Grid_hour 0 0 0 (c r_Grid_hour 0 0 0 + n)) m := fun s j s0 s1 j0 j1 => by
        obtain ⟨y1, y2, y3⟩ := hA s j s0 s1 j0 j1
        simp (decide := true) only [e_un, e_us]
        exact ⟨by omega, y2, y3⟩
      exact zSa.out (zSa_rel.um (zSa_rel.um (zSa_rel.um key (by decide)) (by decide)) (by decide))
    · simp (decide := true) only [if_pos hn, hw, if_neg hs, ↓reduceIte, Int.reduceEq]
      exact hA.thr.thr
  · simp (decide := true) only [if_neg hn, ↓reduceIte]
    exact hA.thr
end
/-! part 71uc28 -/
section
/-! sell, line: both sides -/
def zRt (c m : ZS) : Prop := (0 ≤ c r_Rights_dealCount 0 0 0 ∧ c r_Rights_dealCount 0 0 0 ≤ 40 ∧ m r_m_dealMany 0 0 0 = c r_Rights_dealCount 0 0 0) ∧ ∀ k, 0 ≤ k → k < c r_Rights_dealCount 0 0 0 → m r_m_deals_r k 0 0 = c r_Rights_soldFilms 0 0 k ∧ m r_m_deals_r k 0 1 = c r_Rights_lands 0 0 k ∧ m r_m_deals_r k 0 2 = c r_Rights_firstMonths 0 0 k ∧ m r_m_deals_r k 0 3 = c r_Rights_lastMonths 0 0 k
def zRtC : List Nat := [r_Rights_dealCount, r_Rights_soldFilms, r_Rights_lands, r_Rights_firstMonths, r_Rights_lastMonths]
def zRtM : List Nat := [r_m_dealMany, r_m_deals_r]
theorem zRt_rel : zRel zRt zRtC zRtM := fun {c m c' m'} h hc hm => by
  unfold zRt
  rw [hc r_Rights_dealCount (by decide), hc r_Rights_soldFilms (by decide), hc r_Rights_lands (by decide), hc r_Rights_firstMonths (by decide), hc r_Rights_lastMonths (by decide), hm r_m_dealMany (by decide), hm r_m_deals_r (by decide)]
  exact h
theorem zRt.out {c m : ZS} (h : zRt c m) {z : Int} : zRt (e_upd c r_out 0 0 0 z) m := zRt_rel.uc h (by decide)
theorem zRt.thr {c m : ZS} (h : zRt c m) {z : Int} : zRt c (e_upd m r_m_thrown 0 0 0 z) := zRt_rel.um h (by decide)
theorem e_ar {S : ZS} {r r' : Nat} {x y sp x' y' dp n i j k : Int} : e_acp S r x y sp r' x' y' dp n r' i j k = if i = x' ∧ j = y' ∧ (dp ≤ k ∧ k < dp + n) then S r x y (k - dp + sp) else S r' i j k := by
  unfold e_acp
  by_cases h : i = x' ∧ j = y' ∧ (dp ≤ k ∧ k < dp + n)
  · rw [if_pos ⟨rfl, h⟩, if_pos h]
  · rw [if_neg (fun q => h q.2), if_neg h]
def zov (c : ZS) (f l a b k : Int) : Bool := (decide (c r_Rights_soldFilms 0 0 k = f) && decide (c r_Rights_lands 0 0 k = l)) && (!decide (b < c r_Rights_firstMonths 0 0 k) && !decide (c r_Rights_lastMonths 0 0 k < a))
theorem q_over {c : ZS} {f l a b k : Int} : v_Rights_isOver k f l a b c = zb (zov c f l a b k) := by
  unfold v_Rights_isOver zov
  rw [zb_n, zb_n, zb_d, zb_d]
  by_cases q1 : c r_Rights_soldFilms 0 0 k = f
  · by_cases q2 : c r_Rights_lands 0 0 k = l
    · by_cases q3 : b < c r_Rights_firstMonths 0 0 k
      · rw [if_pos q1, if_pos q2, if_pos q3, decide_eq_true q1, decide_eq_true q2, decide_eq_true q3]
        rfl
      · by_cases q4 : c r_Rights_lastMonths 0 0 k < a
        · rw [if_pos q1, if_pos q2, if_neg q3, if_pos q4, decide_eq_true q1, decide_eq_true q2, decide_eq_false q3, decide_eq_true q4]
          rfl
        · rw [if_pos q1, if_pos q2, if_neg q3, if_neg q4, decide_eq_true q1, decide_eq_true q2, decide_eq_false q3, decide_eq_false q4]
          rfl
    · rw [if_pos q1, if_neg q2, decide_eq_false q2, Bool.and_false, Bool.false_and]
      rfl
  · rw [if_neg q1, decide_eq_false q1, Bool.false_and, Bool.false_and]
    rfl
theorem q_sold {c : ZS} {f l a b : Int} (h0 : 0 ≤ c r_Rights_dealCount 0 0 0) (h1 : c r_Rights_dealCount 0 0 0 ≤ 40) : f_Rights_isSoldWithin [f, l, a, b] c = ((0, [zb (zany (zov c f l a b) (c r_Rights_dealCount 0 0 0).toNat 0)]), c) := by
  show g_Rights_isSoldWithin ((1000, [f, l, a, b]), c) = _
  rw [g_Rights_isSoldWithin_0]
  refine (zl_any (n := c r_Rights_dealCount 0 0 0) (p := zov c f l a b) (A := ((0, [1]), c)) (B := ((0, [0]), c)) (G := fun k => g_Rights_isSoldWithin ((1003, [f, l, a, b, k]), c)) (fun k hk => ?_) (fun k k0 k1 => ?_) (c r_Rights_dealCount 0 0 0).toNat 0 (Int.le_refl _) (by omega)).trans ?_
  · rw [g_Rights_isSoldWithin_3, zb_d, if_pos (by omega)]
  · have hk : e_wr (k + 1) = k + 1 := e_wr_id (by omega) (by omega)
    rw [g_Rights_isSoldWithin_3, zb_d, if_neg (by omega), q_over, zb_d, hk]
    cases zov c f l a b k <;> rfl
  · cases zany (zov c f l a b) (c r_Rights_dealCount 0 0 0).toNat 0 <;> rfl
theorem o_sell {f l a b u : Int} {c m : ZS} (hR : zR c m) (hW : zWd c m) (hT : zRt c m) (hA : zAr c m) : zBo (zAnd zRt zAr) (f_w_sell [f, l, a, b, u] c) (f_m_sell [f, l, a, b, u] m) := by
  obtain ⟨⟨a1, a2, a3⟩, -⟩ := id hR
  show zBo (zAnd zRt zAr) (e_try (f_x_sell [f, l, a, b, u] c) (fun v1 S1 => ((0, [0]), e_upd S1 r_out 0 0 0 v1)) [(0, 1), (1, 2), (3, 3), (2, 4)]) (g_m_sell ((1000, [f, l, a, b, u]), m))
  rw [g_m_sell_0]
  unfold f_x_sell
  dsimp only
  rw [q_film a1 (by omega), q_noFilm (by omega) (by omega), a3]
  by_cases hf : 0 ≤ f ∧ f < c r_x_filmCount 0 0 0
  · obtain ⟨w1, w2⟩ := hW f hf.1 (by omega)
    rw [if_pos hf, if_pos hf, e_b_ok]
    simp (decide := true) only [zb_n, zb_d, q_within, q_isIn, ↓reduceIte, Int.reduceEq, w1]
    have hbad : zBo (zAnd zRt zAr) (e_try ((2, []), c) (fun v1 S1 => ((0, [0]), e_upd S1 r_out 0 0 0 v1)) [(0, 1), (1, 2), (3, 3), (2, 4)]) ((0, [0]), e_upd (e_upd m r_m_thrown 0 0 0 0) r_m_thrown 0 0 0 2) := ⟨2, 0, _, _, rfl, rfl, ⟨hT.thr.thr, hA.thr.thr⟩, e_us, fun q => absurd q (by decide)⟩
    by_cases h2 : 0 ≤ l ∧ l ≤ 9
    · by_cases h5 : 0 ≤ u ∧ u ≤ 9
      · by_cases h3 : 0 ≤ a ∧ a ≤ 99
        · by_cases h4 : a ≤ b ∧ b ≤ 99
          · simp (decide := true) only [if_pos h2, if_pos h5, if_pos h3, if_pos h4, ↓reduceIte, Int.reduceEq]
            have hT1 : zRt c (e_upd (e_upd m r_m_thrown 0 0 0 0) r_m_thrown 0 0 0 0) := hT.thr.thr
            have hA1 : zAr c (e_upd (e_upd m r_m_thrown 0 0 0 0) r_m_thrown 0 0 0 0) := hA.thr.thr
            generalize e_upd (e_upd m r_m_thrown 0 0 0 0) r_m_thrown 0 0 0 0 = m1 at hT1 hA1 ⊢
            obtain ⟨⟨t0, t1, t2⟩, td⟩ := id hT1
            have loop := zl_set (n := c r_Rights_dealCount 0 0 0) (z := 1) (p := zov c f l a b) (P := zbit) zbit1 (fin := fun x => g_m_sell ((1093, [f, l, a, b, u, x, c r_Rights_dealCount 0 0 0]), m1)) (G := fun x k => g_m_sell ((1093, [f, l, a, b, u, x, k]), m1)) (fun x k e _ => by rw [e]) (fun x k k0 k1 hx => by
              have hk : e_wr (k + 1) = k + 1 := e_wr_id (by omega) (by omega)
              obtain ⟨y1, y2, y3, y4⟩ := td k k0 k1
              have eM := g_m_sell_93 (x1 := f) (x2 := l) (x3 := a) (x4 := b) (x5 := u) (x6 := x) (x7 := k) (S := m1)
              rw [zb_d, if_neg (by omega), zb_n, zb_n, zb_d, zb_d, hk, e_or0 hx, e_or1 hx, y1, y2, y3, y4] at eM
              show g_m_sell ((1093, [f, l, a, b, u, x, k]), m1) = g_m_sell ((1093, [f, l, a, b, u, if zov c f l a b k = true then 1 else x, k + 1]), m1)
              rw [eM]
              unfold zov
              by_cases q1 : c r_Rights_soldFilms 0 0 k = f
              · by_cases q2 : c r_Rights_lands 0 0 k = l
                · by_cases q3 : b < c r_Rights_firstMonths 0 0 k
                  · rw [if_pos q1, if_pos q2, if_pos q3, decide_eq_true q3, Bool.not_true, Bool.false_and, Bool.and_false, if_neg (by decide)]
                  · by_cases q4 : c r_Rights_lastMonths 0 0 k < a
                    · rw [if_pos q1, if_pos q2, if_neg q3, if_pos q4, decide_eq_true q4, Bool.not_true, Bool.and_false, Bool.and_false, if_neg (by decide)]
                    · rw [if_pos q1, if_pos q2, if_neg q3, if_neg q4, decide_eq_true q1, decide_eq_true q2, decide_eq_false q3, decide_eq_false q4]
                      rfl
                · rw [if_pos q1, if_neg q2, decide_eq_false q2, Bool.and_false, Bool.false_and, if_neg (by decide)]
              · rw [if_neg q1, decide_eq_false q1, Bool.false_and, Bool.false_and, if_neg (by decide)]) (c r_Rights_dealCount 0 0 0).toNat (c r_Film_isWithdrawn f 0 0) 0 (Int.le_refl _) (by omega) w2
            have loop : g_m_sell ((1093, [f, l, a, b, u, c r_Film_isWithdrawn f 0 0, 0]), m1) = g_m_sell ((1093, [f, l, a, b, u, if zany (zov c f l a b) (c r_Rights_dealCount 0 0 0).toNat 0 = true then 1 else c r_Film_isWithdrawn f 0 0, c r_Rights_dealCount 0 0 0]), m1) := loop
            rw [loop, q_sold t0 t1, e_bnd]
            have hno : zBo (zAnd zRt zAr) (e_try ((4, []), c) (fun v1 S1 => ((0, [0]), e_upd S1 r_out 0 0 0 v1)) [(0, 1), (1, 2), (3, 3), (2, 4)]) (g_m_sell ((1093, [f, l, a, b, u, 1, c r_Rights_dealCount 0 0 0]), m1)) := by
              have eM := g_m_sell_93 (x1 := f) (x2 := l) (x3 := a) (x4 := b) (x5 := u) (x6 := 1) (x7 := c r_Rights_dealCount 0 0 0) (S := m1)
              rw [zb_d, if_pos (by omega)] at eM
              rw [eM]
              simp (decide := true) only [zb_n, ↓reduceIte, Int.reduceEq]
              exact ⟨3, 0, _, _, rfl, rfl, ⟨hT1.thr, hA1.thr⟩, e_us, fun q => absurd q (by decide)⟩
            by_cases q1 : c r_Film_isWithdrawn f 0 0 = 0
            · rw [if_pos q1, q1]
              cases hz : zany (zov c f l a b) (c r_Rights_dealCount 0 0 0).toNat 0
              · rw [if_pos (show zb false = 0 from rfl), if_neg (show ¬ (false = true) by decide)]
                have eM := g_m_sell_93 (x1 := f) (x2 := l) (x3 := a) (x4 := b) (x5 := u) (x6 := 0) (x7 := c r_Rights_dealCount 0 0 0) (S := m1)
                rw [zb_d, if_pos (by omega)] at eM
                rw [eM]
                simp (decide := true) only [zb_n, zb_d, ↓reduceIte, Int.reduceEq, t2]
                by_cases q2 : c r_Rights_dealCount 0 0 0 = 40
                · rw [if_pos q2, if_neg (by omega)]
                  exact ⟨4, 0, _, _, rfl, rfl, ⟨hT1.thr.thr, hA1.thr.thr⟩, e_us, fun q => absurd q (by decide)⟩
                · have hw : e_wr (c r_Rights_dealCount 0 0 0 + 1) = c r_Rights_dealCount 0 0 0 + 1 := e_wr_id (by omega) (by omega)
                  rw [if_neg q2, if_pos (by omega), q_zcA, e_bnd0, q_zmA, e_bnd0]
                  unfold f_Rights_addDeal
                  dsimp only
                  rw [e_bnd]
                  simp (decide := true) only [e_us, e_un, e_an, zcA_o, zmA_o, t2, hw]
                  refine ⟨0, _, _, _, rfl, rfl, ⟨zRt.out ⟨?_, fun k k0 k1 => ?_⟩, zAr.out ?_⟩, ?_, fun _ => e_us⟩
                  · simp (decide := true) only [e_us, e_un, e_an, zcA_o, zmA_o]
                    exact ⟨by omega, by omega, trivial⟩
                  · simp (decide := true) only [e_us] at k1
                    simp (decide := true) only [e_us, e_un, e_ur, e_an, e_ar, zcA_o, zmA_o, Int.sub_zero, Int.add_zero, true_and]
                    by_cases z : k = c r_Rights_dealCount 0 0 0
                    · simp (decide := true) only [z, and_self, true_and, ↓reduceIte]
                    · simp only [z, false_and, and_false, ↓reduceIte]
                      exact td k k0 (by omega)
                  · refine zAr_rel.uc (zAr_rel.uc (zAr_rel.uc (zAr_rel.uc (zAr_rel.uc (zAr_rel.uc (zAr.add ?_) (by decide)) (by decide)) (by decide)) (by decide)) (by decide)) (by decide)
                    refine zAr_rel hA1 (fun _ _ => rfl) (fun r hr => ?_)
                    simp only [zArM, List.mem_cons, List.not_mem_nil, or_false] at hr
                    funext x y z
                    rcases hr with rfl | rfl | rfl <;> simp (decide := true) only [e_un, e_an]
                  · simp (decide := true) only [e_un, e_us, e_an, zmA_o]
              · rw [if_neg (show ¬ zb true = 0 by decide), if_pos (show true = true from rfl)]
                exact hno
            · rw [if_neg q1]
              have q2 : c r_Film_isWithdrawn f 0 0 = 1 := by
                rcases w2 with w2 | w2
                · exact absurd w2 q1
                · exact w2
              rw [q2, ite_self]
              exact hno
          · simp (decide := true) only [if_pos h2, if_pos h5, if_pos h3, if_neg h4, ↓reduceIte, Int.reduceEq]
            exact hbad
        · simp (decide := true) only [if_pos h2, if_pos h5, if_neg h3, ↓reduceIte, Int.reduceEq]
          exact hbad
      · simp (decide := true) only [if_pos h2, if_neg h5, ↓reduceIte, Int.reduceEq, ite_self]
        exact hbad
    · simp (decide := true) only [if_neg h2, ↓reduceIte, Int.reduceEq]
      exact hbad
  · rw [if_neg hf, if_neg hf, e_b_x (by decide) (by decide)]
    simp (decide := true) only [zb_n, zb_d, ↓reduceIte, ite_self]
    exact ⟨1, 0, _, _, rfl, rfl, ⟨hT.thr, hA.thr⟩, e_us, fun q => absurd q (by decide)⟩
theorem q_placeOf {x : Int} {c : ZS} (x0 : 0 ≤ x) (x1 : x < 400) (n0 : 0 ≤ c r_Archive_next 0 0 0) (n1 : c r_Archive_next 0 0 0 < 400) : v_Archive_placeOf x c = zix (c r_Archive_next 0 0 0 - 1 - x) := by
  unfold v_Archive_placeOf zix
  rw [e_wr_id (x := c r_Archive_next 0 0 0 - 1) (by omega) (by omega), e_wr_id (x := c r_Archive_next 0 0 0 - 1 - x) (by omega) (by omega), e_wr_id (x := c r_Archive_next 0 0 0 - 1 - x + 800) (by omega) (by omega)]
  unfold e_div
  rw [Int.tdiv_eq_ediv_of_nonneg (by omega), e_wr_id (x := (c r_Archive_next 0 0 0 - 1 - x + 800) / 400) (by omega) (by omega), e_wr_id (x := (c r_Archive_next 0 0 0 - 1 - x + 800) / 400 * 400) (by omega) (by omega), e_wr_id (by omega) (by omega)]
  split <;> omega
theorem o_line {x b : Int} {c m : ZS} (h : zAr c m) : zBo zAr (f_w_line [x, b] c) (f_m_line [x, b] m) := by
  obtain ⟨⟨a1, a2, a3⟩, ⟨b1, b2, b3⟩, s⟩ := id h
  show zBo zAr (e_try (f_x_line [x, b] c) (fun v1 S1 => ((0, [0]), e_upd S1 r_out 0 0 0 v1)) [(4, 1)]) (f_m_line [x, b] m)
  unfold f_x_line f_m_line
  dsimp only
  have w1 : e_wr (c r_Archive_lineCount 0 0 0 - 1) = c r_Archive_lineCount 0 0 0 - 1 := e_wr_id (by omega) (by omega)
  simp only [zb_n, zb_d, q_within, q_isIn, a3, w1]
  by_cases hx : 0 ≤ x ∧ x ≤ c r_Archive_lineCount 0 0 0 - 1
  · obtain ⟨l1, l2⟩ := s (c r_Archive_lineCount 0 0 0 - 1 - x) (by omega) (by omega)
    rw [show c r_Archive_next 0 0 0 + (c r_Archive_lineCount 0 0 0 - 1 - x) - c r_Archive_lineCount 0 0 0 = c r_Archive_next 0 0 0 - 1 - x by omega] at l1 l2
    have w2 : e_wr (c r_Archive_lineCount 0 0 0 - 1 - x) = c r_Archive_lineCount 0 0 0 - 1 - x := e_wr_id (by omega) (by omega)
    have w3 := q_placeOf (x := x) (c := c) hx.1 (by omega) b1 b2
    simp (decide := true) only [if_pos hx, ↓reduceIte, Int.reduceEq, w2, w3, l1, l2]
    by_cases q : b = 0
    · simp only [if_pos q]
      exact ⟨0, _, _, _, rfl, rfl, h.thr.out, e_us, fun _ => e_us⟩
    · simp only [if_neg q]
      exact ⟨0, _, _, _, rfl, rfl, h.thr.out, e_us, fun _ => e_us⟩
  · simp (decide := true) only [if_neg hx, ↓reduceIte]
    exact ⟨1, 0, _, _, rfl, rfl, h.thr, e_us, fun q => absurd q (by decide)⟩
end
/-! part 71uc40 -/
section
/-! isSound: what the class checks of itself, I: shows apart, rights apart -/
theorem q_keepsApart {c m : ZS} (hw : zSw c m) (hT : zTo c m) : f_Grid_keepsApart [] c = ((0, [1]), c) := by
  obtain ⟨⟨n0, n1, n2⟩, sw, -⟩ := id hw
  obtain ⟨-, -, tC⟩ := hT
  show g_Grid_keepsApart ((1000, []), c) = _
  rw [g_Grid_keepsApart_0]
  have outer : ∀ (t : Nat) (i : Int), 0 ≤ i → i + t = c r_Grid_showCount 0 0 0 → g_Grid_keepsApart ((1002, [i]), c) = ((0, [1]), c) := by
    intro t
    induction t with
    | zero =>
      intro i i0 i1
      rw [g_Grid_keepsApart_2, zb_d, if_pos (by omega)]
    | succ t ih =>
      intro i i0 i1
      have hi : e_wr (i + 1) = i + 1 := e_wr_id (by omega) (by omega)
      obtain ⟨-, -, ⟨-, x0, x1⟩, xl⟩ := sw i i0 (by omega)
      have hr := zln_r (c := c) (f := c r_Show_film i 0 0)
      have xl : c r_Show_length i 0 0 = zln c (c r_Show_film i 0 0) := xl
      have inner : ∀ (u : Nat) (j : Int), 0 ≤ j → j + u = i → g_Grid_keepsApart ((1012, [i, j]), c) = ((0, [1]), c) := by
        intro u
        induction u with
        | zero =>
          intro j j0 j1
          rw [g_Grid_keepsApart_12, zb_d, if_pos (by omega), hi]
          exact ih (i + 1) (by omega) (by omega)
        | succ u ihu =>
          intro j j0 j1
          have hj : e_wr (j + 1) = j + 1 := e_wr_id (by omega) (by omega)
          have e := g_Grid_keepsApart_12 (x1 := i) (x2 := j) (S := c)
          rw [zb_d, if_neg (by omega), zb_n, zb_d, zb_d, zb_d, hj, q_standsIn hw j0 (by omega) x0 (by omega) (by rw [xl]; omega) (by rw [xl]; omega)] at e
          rw [e]
          by_cases q1 : c r_Show_cause i 0 0 = 45
          · rw [if_pos q1]
            cases hz : zin c j (c r_Show_first i 0 0) (c r_Show_length i 0 0)
            · rw [if_pos (show zb false = 0 from rfl)]
              exact ihu (j + 1) (by omega) (by omega)
            · rw [if_neg (show ¬ zb true = 0 by decide)]
              unfold zin at hz
              obtain ⟨z1, z2, z3⟩ := of_decide_eq_true hz
              obtain ⟨-, -, -, yl⟩ := sw j j0 (by omega)
              have yl : c r_Show_length j 0 0 = zln c (c r_Show_film j 0 0) := yl
              obtain ⟨w1, w2⟩ := tC j i j0 (by omega) (by omega) z1 q1 z2 (by rw [yl]; exact z3)
              rw [if_neg (fun y => w1 y.symm)]
              unfold v_Grid_areOfOneSection
              rw [zb_d, zb_n]
              by_cases q3 : c r_Film_section (c r_Show_film i 0 0) 0 0 = -1
              · rw [if_pos q3, if_pos rfl]
                exact ihu (j + 1) (by omega) (by omega)
              · rw [if_neg q3, if_neg (show ¬ c r_Film_section (c r_Show_film j 0 0) 0 0 = c r_Film_section (c r_Show_film i 0 0) 0 0 from fun y => by
                  rcases w2 with w2 | w2
                  · exact q3 (y.symm.trans w2)
                  · exact w2 y), if_pos rfl]
                exact ihu (j + 1) (by omega) (by omega)
          · rw [if_neg q1]
            exact ihu (j + 1) (by omega) (by omega)
      rw [g_Grid_keepsApart_2, zb_d, if_neg (by omega)]
      exact inner i.toNat 0 (Int.le_refl _) (by omega)
  exact outer (c r_Grid_showCount 0 0 0).toNat 0 (Int.le_refl _) (by omega)
/-- no deal is over an earlier one -/
def zRa (c _m : ZS) : Prop := ∀ i j, 0 ≤ j → j < i → i < c r_Rights_dealCount 0 0 0 → zov c (c r_Rights_soldFilms 0 0 i) (c r_Rights_lands 0 0 i) (c r_Rights_firstMonths 0 0 i) (c r_Rights_lastMonths 0 0 i) j = false
theorem q_rightsApart {c m : ZS} (hT : zRt c m) (h : zRa c m) : f_Rights_keepApart [] c = ((0, [1]), c) := by
  obtain ⟨⟨t0, t1, -⟩, -⟩ := hT
  show g_Rights_keepApart ((1000, []), c) = _
  rw [g_Rights_keepApart_0]
  have outer : ∀ (t : Nat) (i : Int), 0 ≤ i → i + t = c r_Rights_dealCount 0 0 0 → g_Rights_keepApart ((1002, [i]), c) = ((0, [1]), c) := by
    intro t
    induction t with
    | zero =>
      intro i i0 i1
      rw [g_Rights_keepApart_2, zb_d, if_pos (by omega)]
    | succ t ih =>
      intro i i0 i1
      have hi : e_wr (i + 1) = i + 1 := e_wr_id (by omega) (by omega)
      have inner : ∀ (u : Nat) (j : Int), 0 ≤ j → j + u = i → g_Rights_keepApart ((1012, [i, j]), c) = ((0, [1]), c) := by
        intro u
        induction u with
        | zero =>
          intro j j0 j1
          rw [g_Rights_keepApart_12, zb_d, if_pos (by omega), hi]
          exact ih (i + 1) (by omega) (by omega)
        | succ u ihu =>
          intro j j0 j1
          have hj : e_wr (j + 1) = j + 1 := e_wr_id (by omega) (by omega)
          rw [g_Rights_keepApart_12, zb_d, if_neg (by omega), q_over, zb_d, h i j j0 (by omega) (by omega), if_pos (show zb false = 0 from rfl), hj]
          exact ihu (j + 1) (by omega) (by omega)
      rw [g_Rights_keepApart_2, zb_d, if_neg (by omega)]
      exact inner i.toNat 0 (Int.le_refl _) (by omega)
  exact outer (c r_Rights_dealCount 0 0 0).toNat 0 (Int.le_refl _) (by omega)
end
/-! part 71uc41 -/
section
/-! What a run keeps if it ends: a rule for loops; the grid only grows -/
def zIv (I Q : Nat → List Int → ZS → Prop) (R : ZR) : Prop := (R.1.1 < 1000 → R.1.1 ≠ 999 → Q R.1.1 R.1.2 R.2) ∧ (1000 ≤ R.1.1 → I (R.1.1 - 1000) R.1.2 R.2)
theorem z_psi_inv {st : Nat → List Int → ZS → ZR} {I Q : Nat → List Int → ZS → Prop} (h : ∀ pc L S, I pc L S → zIv I Q (st pc L S)) {R : ZR} (hR : zIv I Q R) (hc : (z_psi st R).1.1 ≠ 999) : Q (z_psi st R).1.1 (z_psi st R).1.2 (z_psi st R).2 := by
  have it : ∀ (n : Nat) (R : ZR), zIv I Q R → (z_it st n R).1.1 < 1000 → (z_it st n R).1.1 ≠ 999 → Q (z_it st n R).1.1 (z_it st n R).1.2 (z_it st n R).2 := by
    intro n
    induction n with
    | zero =>
      intro R hR h1 h2
      exact hR.1 h1 h2
    | succ n ih =>
      intro R hR h1 h2
      by_cases c : R.1.1 < 1000
      · rw [z_it_fin c] at h1 h2 ⊢
        exact hR.1 h1 h2
      · rw [z_it_go c] at h1 h2 ⊢
        exact ih _ (h _ _ _ (hR.2 (by omega))) h1 h2
  by_cases q : ∃ n, (z_it st n R).1.1 < 1000
  · obtain ⟨n, hn⟩ := q
    rw [z_psi_of hn] at hc ⊢
    exact it n R hR hn hc
  · exfalso
    apply hc
    unfold z_psi
    rw [dif_neg q]
section
variable {I Q : Nat → List Int → ZS → Prop}
theorem zIv.e {k : Nat} {l : List Int} {S : ZS} (hk : k < 1000) (h : Q k l S) : zIv I Q ((k, l), S) := ⟨fun _ _ => h, fun h' => by
  have h' : 1000 ≤ k := h'
  omega⟩
theorem zIv.c {pc : Nat} {L : List Int} {S : ZS} (h : I pc L S) : zIv I Q ((1000 + pc, L), S) := ⟨fun h' => by
  have h' : 1000 + pc < 1000 := h'
  omega, fun _ => by
  show I (1000 + pc - 1000) L S
  rw [Nat.add_sub_cancel_left]
  exact h⟩
theorem zIv.b {R : ZR} {k : Int → ZS → ZR} (h0 : R.1.1 = 0 → zIv I Q (k (R.1.2.getD 0 0) R.2)) (h1 : R.1.1 ≠ 0 → R.1.1 % 1000 ≠ 999 → Q (R.1.1 % 1000) [] R.2) : zIv I Q (e_bind R k) := by
  unfold e_bind
  cases hb : (R.1.1 == 0) with
  | true => exact h0 (by simpa using hb)
  | false =>
    have hn : R.1.1 ≠ 0 := by simpa using hb
    refine ⟨fun _ h => h1 hn h, fun h => ?_⟩
    have h : 1000 ≤ R.1.1 % 1000 := h
    omega
theorem zIv.i {p : Prop} [Decidable p] {A B : ZR} (h1 : p → zIv I Q A) (h2 : ¬ p → zIv I Q B) : zIv I Q (if p then A else B) := by
  split
  · exact h1 ‹_›
  · exact h2 ‹_›
theorem zIv.out {R : ZR} (h : zIv (fun _ _ _ => False) Q R) (hc : R.1.1 ≠ 999) : Q R.1.1 R.1.2 R.2 := h.1 (by
  by_cases q : R.1.1 < 1000
  · exact q
  · exact absurd (h.2 (by omega)) id) hc
end
theorem e_tr_s {c : Nat} {S : ZS} : ∀ (hs : List (Nat × Int)), (e_tr c S hs).2 = S
  | [] => rfl
  | e :: t => by
    rw [e_tr]
    cases (e.1 + 1 == c)
    · exact e_tr_s t
    · rfl
theorem e_tr_9 {S : ZS} : ∀ (hs : List (Nat × Int)), (hs.all fun e => decide (e.1 < 900)) = true → (e_tr 999 S hs).1.1 = 999
  | [], _ => rfl
  | e :: t, h => by
    rw [List.all_cons, Bool.and_eq_true, decide_eq_true_eq] at h
    rw [e_tr]
    have q : (e.1 + 1 == 999) = false := by
      rw [beq_eq_false_iff_ne]
      omega
    rw [q]
    exact e_tr_9 t h.2
/-- a relation between the states before and behind that goes through a wrapper -/
theorem zIv.t {T : ZS → ZS → Prop} {S0 : ZS} {R : ZR} {k : Int → ZS → ZR} {hs : List (Nat × Int)} (hh : (hs.all fun e => decide (e.1 < 900)) = true) (hR : R.1.1 ≠ 999 → T S0 R.2) (hk : ∀ v S1, T S0 S1 → T S0 (k v S1).2) (hc : (e_try R k hs).1.1 ≠ 999) : T S0 (e_try R k hs).2 := by
  unfold e_try at hc ⊢
  cases hb : (R.1.1 == 0) with
  | true =>
    have h0 : R.1.1 = 0 := by simpa using hb
    exact hk _ _ (hR (by rw [h0]; decide))
  | false =>
    rw [hb] at hc
    have h9 : R.1.1 ≠ 999 := fun q => by
      rw [q] at hc
      exact hc (e_tr_9 hs hh)
    show T S0 (e_tr R.1.1 R.2 hs).2
    rw [e_tr_s]
    exact hR h9
/-- shows stay what they are, and what is gone stays gone -/
def zG (S S' : ZS) : Prop := S r_Grid_showCount 0 0 0 ≤ S' r_Grid_showCount 0 0 0 ∧ ∀ i, 0 ≤ i → i < S r_Grid_showCount 0 0 0 → S' r_Show_film i 0 0 = S r_Show_film i 0 0 ∧ S' r_Show_screen i 0 0 = S r_Show_screen i 0 0 ∧ S' r_Show_first i 0 0 = S r_Show_first i 0 0 ∧ S' r_Show_length i 0 0 = S r_Show_length i 0 0 ∧ (S' r_Show_cause i 0 0 = 45 → S r_Show_cause i 0 0 = 45)
def zGK : List Nat := [r_Grid_showCount, r_Show_film, r_Show_screen, r_Show_first, r_Show_length, r_Show_cause]
theorem zG.of {S S' : ZS} (h : ∀ r ∈ zGK, S' r = S r) : zG S S' := by
  unfold zG
  rw [h r_Grid_showCount (by decide), h r_Show_film (by decide), h r_Show_screen (by decide), h r_Show_first (by decide), h r_Show_length (by decide), h r_Show_cause (by decide)]
  exact ⟨Int.le_refl _, fun i _ _ => ⟨rfl, rfl, rfl, rfl, fun h => h⟩⟩
theorem zG.refl {S : ZS} : zG S S := zG.of (fun _ _ => rfl)
theorem zG.trans {S S' S2 : ZS} (h : zG S S') (h' : zG S' S2) : zG S S2 := ⟨Int.le_trans h.1 h'.1, fun i i0 i1 => by
  obtain ⟨a1, a2, a3, a4, a5⟩ := h.2 i i0 i1
  have := h.1
  obtain ⟨b1, b2, b3, b4, b5⟩ := h'.2 i i0 (by omega)
  exact ⟨b1.trans a1, b2.trans a2, b3.trans a3, b4.trans a4, fun q => a5 (b5 q)⟩⟩
theorem zG.kp {nv : Nat} {W : List Nat} {φ : ZFn} (h : z_kp nv W φ) (hd : z_dis W zGK = true) {L : List Int} {S : ZS} (hL : L.length = nv) (hc : (φ L S).1.1 ≠ 999) : zG S (φ L S).2 := zG.of (fun r hr => funext fun i => funext fun j => funext fun k => h L S hL hc r i j k (z_dis_ok hd hr))
theorem zG.u {S S' : ZS} (h : zG S S') {r : Nat} {i j k z : Int} (hr : zGK.contains r = false) : zG S (e_upd S' r i j k z) := h.trans (zG.of fun r' hr' => funext fun a => funext fun b => funext fun d => e_un (by
  cases e : r' == r with
  | false => rfl
  | true =>
    rw [beq_iff_eq] at e
    rw [e] at hr'
    rw [List.contains_iff_mem.mpr hr'] at hr
    cases hr))
theorem zG.b {I : Nat → List Int → ZS → Prop} {S0 S' : ZS} {R : ZR} {k : Int → ZS → ZR} (hR : R.1.1 ≠ 999 → zG S' R.2) (hG : zG S0 S') (h0 : ∀ v S1, zG S0 S1 → zIv I (fun _ _ S => zG S0 S) (k v S1)) : zIv I (fun _ _ S => zG S0 S) (e_bind R k) := zIv.b (fun h => h0 _ _ (hG.trans (hR (by rw [h]; decide)))) (fun _ h => hG.trans (hR (fun q => by rw [q] at h; exact h (by decide))))
theorem e_wr_up {x : Int} (h : x < 60) : x ≤ e_wr (x + 1) := by
  by_cases q : -2147483648 ≤ x + 1
  · rw [e_wr_id q (by omega)]
    omega
  · have : -((2 ^ 32 : Nat) / 2 : Int) ≤ e_wr (x + 1) := Int.le_bmod (by decide)
    have e : ((2 ^ 32 : Nat) / 2 : Int) = 2147483648 := by decide
    rw [e] at this
    omega
theorem zG_setShow {x1 x2 x3 : Int} {S : ZS} : zG S (f_Grid_setShow [x1, x2, x3] S).2 := by
  unfold f_Grid_setShow f_Show_begin
  dsimp only
  rw [zb_d]
  split
  · rename_i h
    rw [e_bnd0, q_zcA, e_bnd0]
    refine ⟨?_, fun i i0 i1 => ?_⟩
    · dsimp only
      simp (decide := true) only [zcA_o, e_us, e_un]
      exact e_wr_up h
    · have hne : ¬ (i = S r_Grid_showCount 0 0 0) := by omega
      dsimp only
      simp (decide := true) only [zcA_o, e_un, e_ur]
      simp only [hne, false_and, ↓reduceIte, true_and]
      exact fun h => h
  · exact zG.refl
theorem zG_takeFound {x : Int} {S : ZS} (hx : x ≠ 45) (hc : (f_Grid_takeFound [x] S).1.1 ≠ 999) : zG S (f_Grid_takeFound [x] S).2 := z_psi_inv (st := z_st (z_F zT45) zD45) (I := fun pc L S' => ((pc = 0 ∧ L = [x]) ∨ (pc = 2 ∧ ∃ b, L = [x, b])) ∧ zG S S') (Q := fun _ _ S' => zG S S') (by
    rintro pc L S' ⟨⟨rfl, rfl⟩ | ⟨rfl, b, rfl⟩, hG⟩
    · rw [zE45_0]
      exact zIv.c (pc := 2) ⟨Or.inr ⟨rfl, _, rfl⟩, hG⟩
    · rw [zE45_2, zb_d]
      refine zIv.i (fun _ => zIv.e (by decide) hG) (fun _ => ?_)
      rw [q_zcA, e_bnd0]
      refine zIv.c (pc := 2) ⟨Or.inr ⟨rfl, _, rfl⟩, hG.trans ⟨?_, fun i i0 i1 => ?_⟩⟩
      · simp (decide := true) only [zcA_o, e_un]
        exact Int.le_refl _
      · simp (decide := true) only [zcA_o, e_un, e_ur, true_and]
        split
        · exact fun q => absurd q hx
        · exact fun q => q) (R := ((1000, [x]), S)) (zIv.c (pc := 0) ⟨Or.inl ⟨rfl, rfl⟩, zG.refl⟩) hc
theorem zG_setAt {x : Int} {S : ZS} (hc : (f_Grid_setAtFirstPlace [x] S).1.1 ≠ 999) : zG S (f_Grid_setAtFirstPlace [x] S).2 := z_psi_inv (st := z_st (z_F zT37) zD37) (I := fun pc L S' => ((pc = 0 ∧ ∃ a, L = [a]) ∨ (pc = 5 ∧ ∃ a b, L = [a, b]) ∨ (pc = 13 ∧ ∃ a b d, L = [a, b, d])) ∧ zG S S') (Q := fun _ _ S' => zG S S') (by
    rintro pc L S' ⟨⟨rfl, a, rfl⟩ | ⟨rfl, a, b, rfl⟩ | ⟨rfl, a, b, d, rfl⟩, hG⟩
    · rw [zE37_0]
      exact zIv.c (pc := 5) ⟨Or.inr (Or.inl ⟨rfl, _, _, rfl⟩), hG⟩
    · rw [zE37_5, zb_d]
      exact zIv.i (fun _ => zIv.e (by decide) hG) (fun _ => zIv.c (pc := 13) ⟨Or.inr (Or.inr ⟨rfl, _, _, _, rfl⟩), hG⟩)
    · rw [zE37_13]
      simp only [zb_d]
      refine zIv.i (fun _ => zIv.c (pc := 5) ⟨Or.inr (Or.inl ⟨rfl, _, _, rfl⟩), hG⟩) (fun _ => ?_)
      refine zG.b (fun h => zG.kp zK34 (by decide +kernel) rfl h) hG (fun v S1 h1 => ?_)
      refine zIv.i (fun _ => zIv.c (pc := 13) ⟨Or.inr (Or.inr ⟨rfl, _, _, _, rfl⟩), h1⟩) (fun _ => ?_)
      exact zG.b (fun _ => zG_setShow) h1 (fun v S2 h2 => zIv.e (by decide) h2)) (R := ((1000, [x]), S)) (zIv.c (pc := 0) ⟨Or.inl ⟨rfl, _, rfl⟩, zG.refl⟩) hc
theorem zG_anew {S : ZS} (hc : (f_Grid_setFoundAnew [] S).1.1 ≠ 999) : zG S (f_Grid_setFoundAnew [] S).2 := z_psi_inv (st := z_st (z_F zT46) zD46) (I := fun pc L S' => ((pc = 0 ∧ L = []) ∨ (pc = 2 ∧ ∃ a, L = [a]) ∨ (pc = 39 ∧ ∃ a b d e, L = [a, b, d, e])) ∧ zG S S') (Q := fun _ _ S' => zG S S') (by
    rintro pc L S' ⟨⟨rfl, rfl⟩ | ⟨rfl, a, rfl⟩ | ⟨rfl, a, b, d, e, rfl⟩, hG⟩
    · rw [zE46_0]
      exact zIv.c (pc := 2) ⟨Or.inr (Or.inl ⟨rfl, _, rfl⟩), hG⟩
    · rw [zE46_2]
      simp only [zb_d]
      refine zIv.i (fun _ => zIv.e (by decide) hG) (fun _ => ?_)
      refine zG.b (fun h => zG_setAt h) hG (fun v S1 h1 => ?_)
      exact zIv.i (fun _ => zIv.c (pc := 2) ⟨Or.inr (Or.inl ⟨rfl, _, rfl⟩), h1⟩) (fun _ => zIv.c (pc := 39) ⟨Or.inr (Or.inr ⟨rfl, _, _, _, _, rfl⟩), h1⟩)
    · rw [zE46_39]
      simp only [zb_d]
      refine zIv.i (fun _ => zIv.c (pc := 2) ⟨Or.inr (Or.inl ⟨rfl, _, rfl⟩), hG⟩) (fun _ => ?_)
      refine zG.b (fun h => zG.kp zK83 (by decide +kernel) rfl h) hG (fun v S1 h1 => ?_)
      exact zIv.c (pc := 39) ⟨Or.inr (Or.inr ⟨rfl, _, _, _, _, rfl⟩), h1⟩) (R := ((1000, []), S)) (zIv.c (pc := 0) ⟨Or.inl ⟨rfl, rfl⟩, zG.refl⟩) hc
theorem zG_plan {x : Int} {S : ZS} (hc : (f_x_plan [x] S).1.1 ≠ 999) : zG S (f_x_plan [x] S).2 := z_psi_inv (st := z_st (z_F zT110) zD110) (I := fun pc L S' => ((pc = 0 ∧ ∃ a, L = [a]) ∨ (pc = 41 ∧ ∃ a b d, L = [a, b, d])) ∧ zG S S') (Q := fun _ _ S' => zG S S') (by
    rintro pc L S' ⟨⟨rfl, a, rfl⟩ | ⟨rfl, a, b, d, rfl⟩, hG⟩
    · rw [zE110_0]
      simp only [zb_d]
      refine zG.b (fun h => zG.kp zK145 (by decide +kernel) rfl h) hG (fun v S1 h1 => ?_)
      refine zG.b (fun h => zG.kp zK153 (by decide +kernel) rfl h) h1 (fun v S2 h2 => ?_)
      exact zIv.i (fun _ => zIv.c (pc := 41) ⟨Or.inr ⟨rfl, _, _, _, rfl⟩, h2⟩) (fun _ => zIv.e (by decide) h2)
    · rw [zE110_41]
      simp only [zb_d]
      refine zIv.i (fun _ => zIv.e (by decide) hG) (fun _ => ?_)
      refine zG.b (fun h => zG_setAt h) hG (fun v S1 h1 => ?_)
      exact zIv.i (fun _ => zIv.c (pc := 41) ⟨Or.inr ⟨rfl, _, _, _, rfl⟩, h1⟩) (fun _ => zIv.c (pc := 41) ⟨Or.inr ⟨rfl, _, _, _, rfl⟩, h1⟩)) (R := ((1000, [x]), S)) (zIv.c (pc := 0) ⟨Or.inl ⟨rfl, _, rfl⟩, zG.refl⟩) hc
theorem zG_show {x1 x2 x3 : Int} {S : ZS} (hc : (f_x_show [x1, x2, x3] S).1.1 ≠ 999) : zG S (f_x_show [x1, x2, x3] S).2 := by
  refine zIv.out (Q := fun _ _ S' => zG S S') ?_ hc
  unfold f_x_show
  dsimp only
  simp only [zb_d, zb_n]
  refine zG.b (fun h => zG.kp zK143 (by decide +kernel) rfl h) zG.refl (fun v S1 h1 => ?_)
  refine zG.b (fun h => zG.kp zK147 (by decide +kernel) rfl h) h1 (fun v S2 h2 => ?_)
  refine zG.b (fun h => zG.kp zK150 (by decide +kernel) rfl h) h2 (fun v S3 h3 => ?_)
  refine zIv.i (fun _ => zIv.e (by decide) h3) (fun _ => ?_)
  refine zG.b (fun h => zG.kp zK34 (by decide +kernel) rfl h) h3 (fun v S4 h4 => ?_)
  refine zIv.i (fun _ => zIv.e (by decide) h4) (fun _ => ?_)
  refine zIv.i (fun _ => ?_) (fun _ => zIv.e (by decide) h4)
  exact zG.b (fun _ => zG_setShow) h4 (fun v S5 h5 => zIv.e (by decide) h5)
theorem zG_storm {x : Int} {S : ZS} (hc : (f_x_storm [x] S).1.1 ≠ 999) : zG S (f_x_storm [x] S).2 := by
  refine zIv.out (Q := fun _ _ S' => zG S S') ?_ hc
  unfold f_x_storm
  dsimp only
  simp only [zb_d, zb_n]
  refine zIv.i (fun _ => zIv.e (by decide) zG.refl) (fun _ => ?_)
  refine zIv.i (fun _ => ?_) (fun _ => zIv.e (by decide) zG.refl)
  refine zG.b (fun h => zG.kp zK41 (by decide +kernel) rfl h) zG.refl (fun v S1 h1 => ?_)
  refine zIv.i (fun _ => ?_) (fun _ => zIv.e (by decide) h1)
  refine zG.b (fun h => zG_takeFound (by decide) h) (h1.u (by decide)) (fun v S2 h2 => ?_)
  exact zG.b (fun h => zG_anew h) h2 (fun v S3 h3 => zIv.e (by decide) h3)
theorem zG_late {x1 x2 : Int} {S : ZS} (hc : (f_x_late [x1, x2] S).1.1 ≠ 999) : zG S (f_x_late [x1, x2] S).2 := by
  refine zIv.out (Q := fun _ _ S' => zG S S') ?_ hc
  unfold f_x_late
  dsimp only
  simp only [zb_d, zb_n]
  refine zG.b (fun h => zG.kp zK143 (by decide +kernel) rfl h) zG.refl (fun v S1 h1 => ?_)
  refine zIv.i (fun _ => zIv.i (fun _ => zIv.e (by decide) h1) (fun _ => zIv.e (by decide) h1)) (fun _ => ?_)
  refine zIv.i (fun _ => zIv.e (by decide) h1) (fun _ => ?_)
  refine zIv.i (fun _ => ?_) (fun _ => zIv.e (by decide) h1)
  refine zG.b (fun h => zG.kp zK42 (by decide +kernel) rfl h) h1 (fun v S2 h2 => ?_)
  refine zIv.i (fun _ => ?_) (fun _ => zIv.e (by decide) h2)
  refine zG.b (fun h => zG_takeFound (by decide) h) (h2.u (by decide)) (fun v S3 h3 => ?_)
  exact zG.b (fun h => zG_anew h) h3 (fun v S4 h4 => zIv.e (by decide) h4)
theorem zG_withdraw {x : Int} {S : ZS} (hc : (f_x_withdraw [x] S).1.1 ≠ 999) : zG S (f_x_withdraw [x] S).2 := by
  refine zIv.out (Q := fun _ _ S' => zG S S') ?_ hc
  unfold f_x_withdraw
  dsimp only
  simp only [zb_d, zb_n]
  refine zG.b (fun h => zG.kp zK143 (by decide +kernel) rfl h) zG.refl (fun v S1 h1 => ?_)
  refine zIv.i (fun _ => ?_) (fun _ => zIv.e (by decide) h1)
  refine zG.b (fun h => zG.kp zK43 (by decide +kernel) rfl h) h1 (fun v S2 h2 => ?_)
  refine zG.b (fun h => zG_takeFound (by decide) h) h2 (fun v S3 h3 => ?_)
  exact zG.b (fun h => zG.kp zK27 (by decide +kernel) rfl h) h3 (fun v S4 h4 => zIv.e (by decide) h4)
theorem zGw_plan {x : Int} {S : ZS} (hc : (f_w_plan [x] S).1.1 ≠ 999) : zG S (f_w_plan [x] S).2 := zIv.t (T := zG) (R := f_x_plan [x] S) (by decide) (fun h => zG_plan h) (fun _ _ h => h.u (by decide)) hc
theorem zGw_show {x1 x2 x3 : Int} {S : ZS} (hc : (f_w_show [x1, x2, x3] S).1.1 ≠ 999) : zG S (f_w_show [x1, x2, x3] S).2 := zIv.t (T := zG) (R := f_x_show [x1, x2, x3] S) (by decide) (fun h => zG_show h) (fun _ _ h => h.u (by decide)) hc
theorem zGw_storm {x : Int} {S : ZS} (hc : (f_w_storm [x] S).1.1 ≠ 999) : zG S (f_w_storm [x] S).2 := zIv.t (T := zG) (R := f_x_storm [x] S) (by decide) (fun h => zG_storm h) (fun _ _ h => h.u (by decide)) hc
theorem zGw_late {x1 x2 : Int} {S : ZS} (hc : (f_w_late [x1, x2] S).1.1 ≠ 999) : zG S (f_w_late [x1, x2] S).2 := zIv.t (T := zG) (R := f_x_late [x1, x2] S) (by decide) (fun h => zG_late h) (fun _ _ h => h.u (by decide)) hc
theorem zGw_withdraw {x : Int} {S : ZS} (hc : (f_w_withdraw [x] S).1.1 ≠ 999) : zG S (f_w_withdraw [x] S).2 := zIv.t (T := zG) (R := f_x_withdraw [x] S) (by decide) (fun h => zG_withdraw h) (fun _ _ h => h.u (by decide)) hc
end
