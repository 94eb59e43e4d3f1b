/-! Screens, prints, keys, hours, passes; what is asked of the grid: both sides -/
theorem o_screen {n b : Int} {c m : ZS} (hb : zbit b) (h : zVe c m) : zBo zVe (f_w_screen [n, b] c) (f_m_screen [n, b] m) := by
  obtain ⟨⟨v0, v1, v2⟩, sg, ⟨k0, k1, k2⟩, ky⟩ := id h
  show zBo zVe (e_try (f_x_screen [n, b] c) (fun v1 S1 => ((0, [0]), e_upd S1 r_out 0 0 0 v1)) [(1, 1), (2, 2)]) (f_m_screen [n, b] m)
  have hw : e_wr (c r_Venue_screenCount 0 0 0 + 1) = c r_Venue_screenCount 0 0 0 + 1 := e_wr_id (by omega) (by omega)
  have hw2 : e_wr (c r_Venue_screenCount 0 0 0 + 1 - 1) = c r_Venue_screenCount 0 0 0 := by rw [e_wr_id (by omega) (by omega), Int.add_sub_cancel]
  have hnb : e_nar 1 b = b := by
    rcases hb with rfl | rfl
    · exact e_nb0
    · exact e_nb1
  unfold f_x_screen f_m_screen f_Venue_addScreen
  dsimp only
  simp only [zb_n, zb_d, q_within, q_isIn, v2, e_bnd, hnb]
  by_cases hn : 1 ≤ n ∧ n ≤ 9
  · by_cases hs : c r_Venue_screenCount 0 0 0 = 4
    · simp (decide := true) only [if_pos hn, if_pos hs, if_neg (show ¬ c r_Venue_screenCount 0 0 0 < 4 by omega), ↓reduceIte, Int.reduceEq]
      exact ⟨2, 0, _, _, rfl, rfl, h.thr.thr, e_us, fun q => absurd q (by decide)⟩
    · simp (decide := true) only [if_pos hn, if_neg hs, if_pos (show c r_Venue_screenCount 0 0 0 < 4 by omega), ↓reduceIte, Int.reduceEq, e_us, hw, hw2]
      refine ⟨0, _, _, _, rfl, rfl, zVe.out ⟨?_, fun s s0 s1 => ?_, ?_, ?_⟩, by simp (decide := true) only [e_un, e_us], fun _ => e_us⟩
      · simp (decide := true) only [e_us]
        exact ⟨by omega, by omega, trivial⟩
      · simp (decide := true) only [e_un, e_ur]
        obtain ⟨a1, a2, a3⟩ := sg s s0 s1
        by_cases q : s = c r_Venue_screenCount 0 0 0
        · simp (decide := true) only [q, and_self, ↓reduceIte, true_and]
          exact hb
        · simp only [q, and_false, false_and, ↓reduceIte]
          exact ⟨a1, a2, a3⟩
      · simp (decide := true) only [e_un]
        exact ⟨k0, k1, k2⟩
      · simp (decide := true) only [e_un]
        exact ky
  · simp (decide := true) only [if_neg hn, ↓reduceIte]
    exact ⟨1, 0, _, _, rfl, rfl, h.thr, e_us, fun q => absurd q (by decide)⟩
theorem o_go {n : Int} {c m : ZS} (h : zHr c m) (hT : zTo c m) : zBo (zAnd zHr zTo) (f_w_go [n] c) (f_m_go [n] m) := by
  obtain ⟨h0, h1, h2⟩ := id h
  show zBo _ (e_try (f_x_go [n] c) (fun v1 S1 => ((0, [0]), e_upd S1 r_out 0 0 0 v1)) [(1, 1), (2, 2)]) (f_m_go [n] m)
  unfold f_x_go f_m_go
  dsimp only
  simp only [zb_n, zb_d, q_within, q_isIn, h2, e_us]
  by_cases hn : 1 ≤ n ∧ n ≤ 50
  · have hw : e_wr (c r_Grid_hour 0 0 0 + n) = c r_Grid_hour 0 0 0 + n := e_wr_id (by omega) (by omega)
    by_cases hs : c r_Grid_hour 0 0 0 + n ≤ 50
    · simp (decide := true) only [if_pos hn, hw, if_pos hs, ↓reduceIte, Int.reduceEq]
      refine ⟨0, _, _, _, rfl, rfl, ⟨zHr.out ?_, zTo.out ?_⟩, by simp (decide := true) only [e_un, e_us], fun _ => e_us⟩
      · unfold zHr
        simp (decide := true) only [e_us]
        exact ⟨by omega, by omega, trivial⟩
      · refine zTo_rel.um ?_ (by decide)
        obtain ⟨tA, tB, tC⟩ := hT
        refine ⟨fun i i0 i1 z1 z2 => ?_, fun i i0 i1 => ?_, fun i j i0 ij j1 => ?_⟩
        · simp (decide := true) only [e_un, e_us] at i1 z1 z2 ⊢
          exact tA i i0 i1 z1 (by omega)
        · simp (decide := true) only [e_un] at i1 ⊢
          exact tB i i0 i1
        · simp (decide := true) only [e_un] at j1 ⊢
          exact tC i j i0 ij j1
    · simp (decide := true) only [if_pos hn, hw, if_neg hs, ↓reduceIte, Int.reduceEq]
      exact ⟨2, 0, _, _, rfl, rfl, ⟨h.thr.thr, hT.thr.thr⟩, e_us, fun q => absurd q (by decide)⟩
  · simp (decide := true) only [if_neg hn, ↓reduceIte]
    exact ⟨1, 0, _, _, rfl, rfl, ⟨h.thr, hT.thr⟩, e_us, fun q => absurd q (by decide)⟩
theorem o_pass {n : Int} {c m : ZS} (h : zPa c m) : zBo zPa (f_w_pass [n] c) (f_m_pass [n] m) := by
  obtain ⟨⟨v0, v1, v2⟩, rk⟩ := id h
  show zBo zPa (e_try (f_x_pass [n] c) (fun v1 S1 => ((0, [0]), e_upd S1 r_out 0 0 0 v1)) [(1, 1), (2, 2)]) (f_m_pass [n] m)
  have hw : e_wr (c r_Passes_passCount 0 0 0 + 1) = c r_Passes_passCount 0 0 0 + 1 := e_wr_id (by omega) (by omega)
  have hw2 : e_wr (c r_Passes_passCount 0 0 0 + 1 - 1) = c r_Passes_passCount 0 0 0 := by rw [e_wr_id (by omega) (by omega), Int.add_sub_cancel]
  unfold f_x_pass f_m_pass f_Passes_addPass
  dsimp only
  simp only [zb_n, zb_d, q_within, q_isIn, v2, e_bnd]
  by_cases hn : 0 ≤ n ∧ n ≤ 3
  · by_cases hs : c r_Passes_passCount 0 0 0 = 16
    · simp (decide := true) only [if_pos hn, if_pos hs, if_neg (show ¬ c r_Passes_passCount 0 0 0 < 16 by omega), ↓reduceIte, Int.reduceEq]
      exact ⟨2, 0, _, _, rfl, rfl, h.thr.thr, e_us, fun q => absurd q (by decide)⟩
    · simp (decide := true) only [if_pos hn, if_neg hs, if_pos (show c r_Passes_passCount 0 0 0 < 16 by omega), ↓reduceIte, Int.reduceEq, e_us, hw, hw2]
      refine ⟨0, _, _, _, rfl, rfl, zPa.out ⟨?_, fun s s0 s1 => ?_⟩, by simp (decide := true) only [e_un, e_us], fun _ => e_us⟩
      · simp (decide := true) only [e_us]
        exact ⟨by omega, by omega, trivial⟩
      · simp (decide := true) only [e_un, e_ur]
        rw [rk s s0 s1]
  · simp (decide := true) only [if_neg hn, ↓reduceIte]
    exact ⟨1, 0, _, _, rfl, rfl, h.thr, e_us, fun q => absurd q (by decide)⟩
theorem o_print {f k x : Int} {c m : ZS} (hR : zR c m) (hk : zPk c m) (hp : zPh c m) : zBo (zAnd zPk zPh) (f_w_print [f, k, x] c) (f_m_print [f, k, x] m) := by
  obtain ⟨⟨a1, a2, a3⟩, -⟩ := id hR
  show zBo _ (e_try (f_x_print [f, k, x] c) (fun v1 S1 => (bif decide (v1 = 0) then ((0, [0]), (e_upd S1 r_out 0 0 0 0)) else ((0, [0]), (e_upd S1 r_out 0 0 0 1)))) [(0, 1), (1, 2)]) (f_m_print [f, k, x] m)
  unfold f_x_print f_m_print
  dsimp only
  rw [q_film a1 (by omega), q_noFilm (by omega) (by omega), a3]
  by_cases hf : 0 ≤ f ∧ f < c r_x_filmCount 0 0 0
  · rw [if_pos hf, if_pos hf, e_b_ok]
    simp (decide := true) only [zb_n, zb_d, q_isHour, q_hour, ↓reduceIte, Int.reduceEq]
    have hkf := hk f hf.1 (by omega)
    have main : (k = 114 ∨ k = 100) → ∀ v, (v = 0 ∨ v = 1) → zBo (zAnd zPk zPh) (e_try ((0, [v]), e_upd (e_upd c r_Film_kind f 0 0 k) r_Film_comes f 0 0 x) (fun v1 S1 => (bif decide (v1 = 0) then ((0, [0]), (e_upd S1 r_out 0 0 0 0)) else ((0, [0]), (e_upd S1 r_out 0 0 0 1)))) [(0, 1), (1, 2)]) ((0, [v]), e_upd (e_upd (e_upd (e_upd m r_m_thrown 0 0 0 0) r_m_thrown 0 0 0 0) r_m_prints 0 0 f (e_nar 2 k)) r_m_printHours 0 0 f x) := fun q v hv => by
      have hkk : e_nar 2 k = k := e_nc (by omega) (by omega)
      have hA : zPk (e_upd (e_upd c r_Film_kind f 0 0 k) r_Film_comes f 0 0 x) (e_upd (e_upd (e_upd (e_upd m r_m_thrown 0 0 0 0) r_m_thrown 0 0 0 0) r_m_prints 0 0 f (e_nar 2 k)) r_m_printHours 0 0 f x) := fun g g0 g1 => by
        simp (decide := true) only [e_un, e_ur, hkk]
        by_cases w : g = f
        · simp (decide := true) only [w, and_self, ↓reduceIte]
          exact Or.inr ⟨q, trivial⟩
        · simp only [w, and_false, false_and, ↓reduceIte]
          exact hk g g0 g1
      have hB : zPh (e_upd (e_upd c r_Film_kind f 0 0 k) r_Film_comes f 0 0 x) (e_upd (e_upd (e_upd (e_upd m r_m_thrown 0 0 0 0) r_m_thrown 0 0 0 0) r_m_prints 0 0 f (e_nar 2 k)) r_m_printHours 0 0 f x) := fun g g0 g1 => by
        simp (decide := true) only [e_un, e_ur]
        by_cases w : g = f
        · simp (decide := true) only [w, and_self, ↓reduceIte]
        · simp only [w, and_false, false_and, ↓reduceIte]
          exact hp g g0 g1
      rcases hv with rfl | rfl
      · exact ⟨0, _, _, _, rfl, rfl, ⟨hA.out, hB.out⟩, by simp (decide := true) only [e_un, e_us], fun _ => e_us⟩
      · exact ⟨0, _, _, _, rfl, rfl, ⟨hA.out, hB.out⟩, by simp (decide := true) only [e_un, e_us], fun _ => e_us⟩
    have hbad : zBo (zAnd zPk zPh) (e_try ((2, []), c) (fun v1 S1 => (bif decide (v1 = 0) then ((0, [0]), (e_upd S1 r_out 0 0 0 0)) else ((0, [0]), (e_upd S1 r_out 0 0 0 1)))) [(0, 1), (1, 2)]) ((0, [0]), e_upd (e_upd m r_m_thrown 0 0 0 0) r_m_thrown 0 0 0 2) := ⟨2, 0, _, _, rfl, rfl, ⟨hk.thr.thr, hp.thr.thr⟩, e_us, fun q => absurd q (by decide)⟩
    have hb : ∀ K, zBo (zAnd zPk zPh) (e_try (e_bind ((2, []), c) K) (fun v1 S1 => (bif decide (v1 = 0) then ((0, [0]), (e_upd S1 r_out 0 0 0 0)) else ((0, [0]), (e_upd S1 r_out 0 0 0 1)))) [(0, 1), (1, 2)]) ((0, [0]), e_upd (e_upd m r_m_thrown 0 0 0 0) r_m_thrown 0 0 0 2) := fun K => hbad
    by_cases q1 : k = 114
    · have m1 := main (Or.inl q1)
      subst q1
      by_cases hx : 0 ≤ x ∧ x ≤ 49
      · simp (decide := true) only [if_pos hx, ↓reduceIte, Int.reduceEq, e_b_ok]
        rcases hkf with ⟨w1, w2⟩ | ⟨w1, w2⟩
        · simp (decide := true) only [w1, w2, ↓reduceIte]
          exact m1 0 (Or.inl rfl)
        · rw [if_neg (by omega), if_neg (by omega)]
          exact m1 1 (Or.inr rfl)
      · simp (decide := true) only [if_neg hx, ↓reduceIte, Int.reduceEq]
        exact hb _
    · by_cases q2 : k = 100
      · have m1 := main (Or.inr q2)
        subst q2
        by_cases hx : 0 ≤ x ∧ x ≤ 49
        · simp (decide := true) only [if_pos hx, ↓reduceIte, Int.reduceEq, e_b_ok]
          rcases hkf with ⟨w1, w2⟩ | ⟨w1, w2⟩
          · simp (decide := true) only [w1, w2, ↓reduceIte]
            exact m1 0 (Or.inl rfl)
          · rw [if_neg (by omega), if_neg (by omega)]
            exact m1 1 (Or.inr rfl)
        · simp (decide := true) only [if_neg hx, ↓reduceIte, Int.reduceEq]
          exact hb _
      · simp (decide := true) only [if_neg q1, if_neg q2]
        exact hbad
  · rw [if_neg hf, if_neg hf, e_b_x (by decide) (by decide)]
    simp (decide := true) only [zb_n, zb_d, ↓reduceIte]
    exact ⟨1, 0, _, _, rfl, rfl, ⟨hk.thr, hp.thr⟩, e_us, fun q => absurd q (by decide)⟩
theorem o_key {f s x y : Int} {c m : ZS} (hR : zR c m) (h : zVe c m) : zBo zVe (f_w_key [f, s, x, y] c) (f_m_key [f, s, x, y] m) := by
  obtain ⟨⟨a1, a2, a3⟩, -⟩ := id hR
  obtain ⟨⟨v0, v1, v2⟩, sg, ⟨k0, k1, k2⟩, ky⟩ := id h
  show zBo zVe (e_try (f_x_key [f, s, x, y] c) (fun v1 S1 => ((0, [0]), e_upd S1 r_out 0 0 0 v1)) [(0, 1), (1, 2), (2, 3)]) (f_m_key [f, s, x, y] m)
  have hw : e_wr (c r_Venue_keyCount 0 0 0 + 1) = c r_Venue_keyCount 0 0 0 + 1 := e_wr_id (by omega) (by omega)
  unfold f_x_key f_m_key f_Venue_addKey
  dsimp only
  rw [q_film a1 (by omega), q_noFilm (by omega) (by omega), q_noScreen (by omega) (by omega), a3, v2]
  by_cases hf : 0 ≤ f ∧ f < c r_x_filmCount 0 0 0
  · rw [if_pos hf, if_pos hf, e_b_ok, q_screen v0 (by omega)]
    by_cases hs : 0 ≤ s ∧ s < c r_Venue_screenCount 0 0 0
    · rw [if_pos hs, if_pos hs, e_b_ok, q_hour]
      simp (decide := true) only [zb_n, zb_d, q_isHour, q_isIn, ↓reduceIte, Int.reduceEq, k2]
      by_cases hx : 0 ≤ x ∧ x ≤ 49
      · simp (decide := true) only [if_pos hx, ↓reduceIte, e_b_ok, q_hour]
        by_cases hy : x ≤ y ∧ y ≤ 49
        · simp (decide := true) only [if_pos hy, if_pos hy.1, if_pos (show 0 ≤ y ∧ y ≤ 49 by omega), ↓reduceIte, e_b_ok]
          by_cases hn : c r_Venue_keyCount 0 0 0 = 60
          · simp (decide := true) only [if_pos hn, if_neg (show ¬ c r_Venue_keyCount 0 0 0 < 60 by omega)]
            exact ⟨3, 0, _, _, rfl, rfl, h.thr.thr.thr, e_us, fun q => absurd q (by decide)⟩
          · simp (decide := true) only [if_neg hn, if_pos (show c r_Venue_keyCount 0 0 0 < 60 by omega), e_bnd, e_us, e_un, e_an, k2, hw]
            refine ⟨0, _, _, _, rfl, rfl, zVe.out ⟨?_, ?_, ?_, fun k x0 x1 => ?_⟩, by simp (decide := true) only [e_un, e_us, e_an], fun _ => e_us⟩
            · simp (decide := true) only [e_un, e_an]
              exact ⟨v0, v1, v2⟩
            · simp (decide := true) only [e_un, e_an]
              exact sg
            · simp (decide := true) only [e_us]
              exact ⟨by omega, by omega, trivial⟩
            · simp (decide := true) only [e_us] at x1
              simp (decide := true) only [e_un, e_ur]
              by_cases q : k = c r_Venue_keyCount 0 0 0
              · subst q
                simp (decide := true) only [e_as, e_us, e_un, e_ur, ↓reduceIte, Int.sub_zero, Int.add_zero, Int.reduceEq, and_self, and_true, true_and, Int.reduceLE, Int.reduceLT, Int.reduceAdd]
              · have hq : ∀ {S : ZS} {z : Int}, e_acp S r_new (m z_rA 0 0 0) 0 0 r_m_keys_r (c r_Venue_keyCount 0 0 0) 0 0 4 r_m_keys_r k 0 z = S r_m_keys_r k 0 z := fun {S z} => if_neg (fun w => q w.2.1)
                simp (decide := true) only [hq, e_un, q, and_false, false_and, ↓reduceIte]
                exact ky k x0 (by omega)
        · by_cases hy2 : 0 ≤ y ∧ y ≤ 49
          · simp (decide := true) only [if_neg hy, if_pos hy2, if_neg (show ¬ x ≤ y by omega), ↓reduceIte, e_b_ok]
            exact ⟨2, 0, _, _, rfl, rfl, h.thr.thr, e_us, fun q => absurd q (by decide)⟩
          · simp (decide := true) only [if_neg hy, if_neg hy2, ↓reduceIte]
            exact ⟨2, 0, _, _, rfl, rfl, h.thr.thr, e_us, fun q => absurd q (by decide)⟩
      · simp (decide := true) only [if_neg hx, ↓reduceIte]
        exact ⟨2, 0, _, _, rfl, rfl, h.thr.thr, e_us, fun q => absurd q (by decide)⟩
    · rw [if_neg hs, if_neg hs, e_b_x (by decide) (by decide)]
      simp (decide := true) only [zb_n, zb_d, ↓reduceIte]
      exact ⟨1, 0, _, _, rfl, rfl, h.thr, e_us, fun q => absurd q (by decide)⟩
  · rw [if_neg hf, if_neg hf, e_b_x (by decide) (by decide)]
    simp (decide := true) only [zb_n, zb_d, ↓reduceIte]
    exact ⟨1, 0, _, _, rfl, rfl, h.thr, e_us, fun q => absurd q (by decide)⟩
theorem o_canShow {f s x : Int} {c m : ZS} (hR : zR c m) (hv : zVe c m) (hk : zPk c m) (hp : zPh c m) : zBo zPk (f_w_canShow [f, s, x] c) (f_m_canShow [f, s, x] m) := by
  obtain ⟨⟨a1, a2, a3⟩, -⟩ := id hR
  obtain ⟨⟨v0, v1, v2⟩, -⟩ := id hv
  show zBo zPk (e_try (f_x_canShow [f, s, x] c) (fun v1 S1 => (bif decide (v1 = 0) then ((0, [0]), (e_upd S1 r_out 0 0 0 0)) else ((0, [0]), (e_upd S1 r_out 0 0 0 1)))) [(0, 1), (1, 2)]) (f_m_canShow [f, s, x] m)
  unfold f_x_canShow f_m_canShow
  dsimp only
  rw [q_film a1 (by omega), q_noFilm (by omega) (by omega), q_noScreen (by omega) (by omega), a3, v2]
  by_cases hf : 0 ≤ f ∧ f < c r_x_filmCount 0 0 0
  · rw [if_pos hf, if_pos hf, e_b_ok, q_screen v0 (by omega)]
    by_cases hs : 0 ≤ s ∧ s < c r_Venue_screenCount 0 0 0
    · rw [if_pos hs, if_pos hs, e_b_ok, q_hour]
      simp (decide := true) only [zb_n, zb_d, q_isHour, ↓reduceIte, Int.reduceEq]
      by_cases hx : 0 ≤ x ∧ x ≤ 49
      · rw [if_pos hx, if_pos hx, e_b_ok, q_canRun hv hs.1 (by omega), q_canShowNow hv.thr.thr hk.thr.thr hf.1 (by omega) hs.1 (by omega), e_bnd, e_bnd]
        have hpf := hp f hf.1 (by omega)
        simp (decide := true) only [e_un, hpf]
        cases zcan c f s x (c r_Film_comes f 0 0)
        · exact ⟨0, _, _, _, rfl, rfl, hk.thr.thr.out, e_us, fun _ => e_us⟩
        · exact ⟨0, _, _, _, rfl, rfl, hk.thr.thr.out, e_us, fun _ => e_us⟩
      · rw [if_neg hx, if_neg hx, e_b_x (by decide) (by decide)]
        exact ⟨2, 0, _, _, rfl, rfl, hk.thr.thr, e_us, fun q => absurd q (by decide)⟩
    · rw [if_neg hs, if_neg hs, e_b_x (by decide) (by decide)]
      simp (decide := true) only [zb_n, zb_d, ↓reduceIte]
      exact ⟨1, 0, _, _, rfl, rfl, hk.thr, e_us, fun q => absurd q (by decide)⟩
  · rw [if_neg hf, if_neg hf, e_b_x (by decide) (by decide)]
    simp (decide := true) only [zb_n, zb_d, ↓reduceIte]
    exact ⟨1, 0, _, _, rfl, rfl, hk.thr, e_us, fun q => absurd q (by decide)⟩
theorem b_canShow {a b d v : Int} {S S2 : ZS} (h : f_m_canShow [a, b, d] S = ((0, [v]), S2)) : v = 0 ∨ v = 1 := by
  unfold f_m_canShow at h
  dsimp only at h
  exact e_bool h e_bool0 (fun h => e_bool h (fun h => e_bool h (fun h => e_bool (e_bind_ok h).2 e_bool0 e_bool1) e_bool0) e_bool0)
theorem o_state {s : Int} {c m : ZS} (h : zSw c m) (hf : zFs c m) (hh : zHr c m) : zBo zHr (f_w_state [s] c) (f_m_state [s] m) := by
  obtain ⟨⟨n0, n1, n2⟩, -⟩ := id h
  show zBo zHr (e_try (f_x_state [s] c) (fun v1 S1 => ((0, [0]), e_upd S1 r_out 0 0 0 v1)) [(0, 1)]) (f_m_state [s] m)
  unfold f_x_state f_m_state
  dsimp only
  rw [q_show n0 (by omega), q_noShow (by omega) (by omega), n2]
  by_cases hs : 0 ≤ s ∧ s < c r_Grid_showCount 0 0 0
  · have e := (q_state h.thr hf.thr hh.thr hs.1 hs.2 (m := e_upd m r_m_thrown 0 0 0 0)).1
    rw [if_pos hs, if_pos hs, e_b_ok]
    simp (decide := true) only [zb_n, zb_d, ↓reduceIte, Int.reduceEq, e]
    exact ⟨0, _, _, _, rfl, rfl, hh.thr.out, e_us, fun _ => e_us⟩
  · rw [if_neg hs, if_neg hs, e_b_x (by decide) (by decide)]
    simp (decide := true) only [zb_n, zb_d, ↓reduceIte]
    exact ⟨1, 32, _, _, rfl, rfl, hh.thr, e_us, fun q => absurd q (by decide)⟩
theorem o_of {s x : Int} {c m : ZS} (h : zSw c m) (hf : zFs c m) : zBo zSw (f_w_of [s, x] c) (f_m_of [s, x] m) := by
  obtain ⟨⟨n0, n1, n2⟩, -⟩ := id h
  show zBo zSw (e_try (f_x_of [s, x] c) (fun v1 S1 => ((0, [0]), e_upd S1 r_out 0 0 0 v1)) [(0, 1), (1, 2)]) (f_m_of [s, x] m)
  unfold f_x_of f_m_of
  dsimp only
  rw [q_show n0 (by omega), q_noShow (by omega) (by omega), n2]
  by_cases hs : 0 ≤ s ∧ s < c r_Grid_showCount 0 0 0
  · obtain ⟨e1, e2, e3, e4, e5⟩ := (h.thr.thr (z := 0) : zSw c (e_upd (e_upd m r_m_thrown 0 0 0 0) r_m_thrown 0 0 0 0)).row hf.thr.thr hs.1 hs.2
    simp (decide := true) only [e_un] at e1 e2 e3 e5
    rw [e1] at e5
    rw [if_pos hs, if_pos hs, e_b_ok]
    simp (decide := true) only [zb_n, zb_d, ↓reduceIte, Int.reduceEq, e1, e2, e3, e4, e5]
    by_cases q1 : x = 102
    · simp (decide := true) only [q1, ↓reduceIte]
      exact ⟨0, _, _, _, rfl, rfl, h.thr.thr.out, e_us, fun _ => e_us⟩
    · by_cases q2 : x = 115
      · simp (decide := true) only [q2, ↓reduceIte]
        exact ⟨0, _, _, _, rfl, rfl, h.thr.thr.out, e_us, fun _ => e_us⟩
      · by_cases q3 : x = 104
        · simp (decide := true) only [q3, ↓reduceIte]
          exact ⟨0, _, _, _, rfl, rfl, h.thr.thr.out, e_us, fun _ => e_us⟩
        · by_cases q4 : x = 108
          · simp (decide := true) only [q4, ↓reduceIte]
            exact ⟨0, _, _, _, rfl, rfl, h.thr.thr.out, e_us, fun _ => e_us⟩
          · simp (decide := true) only [if_neg q1, if_neg q2, if_neg q3, if_neg q4]
            exact ⟨2, 0, _, _, rfl, rfl, h.thr.thr, e_us, fun q => absurd q (by decide)⟩
  · rw [if_neg hs, if_neg hs, e_b_x (by decide) (by decide)]
    simp (decide := true) only [zb_n, zb_d, ↓reduceIte]
    exact ⟨1, 0, _, _, rfl, rfl, h.thr, e_us, fun q => absurd q (by decide)⟩
def zat (c : ZS) (s x k : Int) : Bool := decide (c r_Show_screen k 0 0 = s) && zin c k x 1
theorem o_at {s x : Int} {c m : ZS} (hv : zVe c m) (h : zSw c m) (hf : zFs c m) (hT : zTo c m) : zBo zSw (f_w_at [s, x] c) (f_m_at [s, x] m) := by
  obtain ⟨⟨v0, v1, v2⟩, -⟩ := id hv
  obtain ⟨⟨n0, n1, n2⟩, sw, -⟩ := id h
  show zBo zSw (e_try (f_x_at [s, x] c) (fun v1 S1 => ((0, [0]), e_upd S1 r_out 0 0 0 v1)) [(0, 1), (1, 2), (4, 3)]) (g_m_at ((1000, [s, x]), m))
  rw [g_m_at_0, q_noScreen (by omega) (by omega), v2]
  unfold f_x_at
  dsimp only
  rw [q_screen v0 (by omega)]
  by_cases hs : 0 ≤ s ∧ s < c r_Venue_screenCount 0 0 0
  · rw [if_pos hs, if_pos hs, e_b_ok, q_hour]
    simp (decide := true) only [zb_n, zb_d, q_isHour, ↓reduceIte, Int.reduceEq]
    by_cases hx : 0 ≤ x ∧ x ≤ 49
    · rw [if_pos hx, if_pos hx, e_b_ok]
      have hm1 : zSw c (e_upd (e_upd m r_m_thrown 0 0 0 0) r_m_thrown 0 0 0 0) := h.thr.thr
      have hf1 : zFs c (e_upd (e_upd m r_m_thrown 0 0 0 0) r_m_thrown 0 0 0 0) := hf.thr.thr
      generalize e_upd (e_upd m r_m_thrown 0 0 0 0) r_m_thrown 0 0 0 0 = m1 at hm1 hf1
      have n3 : m1 r_m_shows 0 0 0 = c r_Grid_showCount 0 0 0 := hm1.1.2.2
      have hC : ∀ k, 0 ≤ k → k < c r_Grid_showCount 0 0 0 → g_Grid_showOn ((1002, [s, x, k]), c) = if zat c s x k = true then ((0, [k]), c) else g_Grid_showOn ((1002, [s, x, k + 1]), c) := fun k k0 k1 => by
        have hk : e_wr (k + 1) = k + 1 := e_wr_id (by omega) (by omega)
        rw [g_Grid_showOn_2, zb_d, if_neg (by omega), hk, q_standsIn h k0 k1 hx.1 (by omega) (by decide) (by decide)]
        unfold zat
        simp only [zb_d, zb_n, zb0]
        by_cases q1 : c r_Show_screen k 0 0 = s
        · rw [if_pos q1, decide_eq_true q1, Bool.true_and]
          cases zin c k x 1 <;> rfl
        · rw [if_neg q1, decide_eq_false q1, Bool.false_and, if_neg (by decide)]
      have hM : ∀ k b, 0 ≤ k → k < c r_Grid_showCount 0 0 0 → g_m_at ((1040, [s, x, b, k]), m1) = g_m_at ((1040, [s, x, if zat c s x k = true then k else b, k + 1]), m1) := fun k b k0 k1 => by
        have hk : e_wr (k + 1) = k + 1 := e_wr_id (by omega) (by omega)
        rw [g_m_at_40, zb_d, if_neg (by omega), hk, (hm1.row hf1 k0 k1).2.1, q_hasHour hm1 hf1 k0 k1]
        unfold zat
        simp only [zb_d, zb_n, zb0]
        by_cases q1 : c r_Show_screen k 0 0 = s
        · rw [if_pos q1, decide_eq_true q1, Bool.true_and]
          cases zin c k x 1 <;> rfl
        · rw [if_neg q1, decide_eq_false q1, Bool.false_and, if_neg (by decide)]
      have uniq : ∀ i j, 0 ≤ i → i < j → j < c r_Grid_showCount 0 0 0 → zat c s x i = true → zat c s x j = false := fun i j i0 ij j1 hi => by
        cases hj : zat c s x j with
        | false => rfl
        | true =>
          exfalso
          unfold zat zin at hi hj
          rw [Bool.and_eq_true, decide_eq_true_eq, decide_eq_true_eq] at hi hj
          have li : c r_Show_length i 0 0 = zln c (c r_Show_film i 0 0) := (sw i i0 (by omega)).2.2.2
          have lj : c r_Show_length j 0 0 = zln c (c r_Show_film j 0 0) := (sw j (by omega) j1).2.2.2
          exact (hT.2.2 i j i0 ij j1 hi.2.1 hj.2.1 (by omega) (by omega)).1 (hi.1.trans hj.1.symm)
      have restM : ∀ (t : Nat) (k b : Int), 0 ≤ k → k + t = c r_Grid_showCount 0 0 0 → (∀ i, k ≤ i → i < c r_Grid_showCount 0 0 0 → zat c s x i = false) → g_m_at ((1040, [s, x, b, k]), m1) = g_m_at ((1040, [s, x, b, c r_Grid_showCount 0 0 0]), m1) := by
        intro t
        induction t with
        | zero =>
          intro k b k0 k1 hz
          rw [show k = c r_Grid_showCount 0 0 0 by omega]
        | succ t ih =>
          intro k b k0 k1 hz
          rw [hM k b k0 (by omega), hz k (Int.le_refl _) (by omega), if_neg (by decide)]
          exact ih (k + 1) b (by omega) (by omega) (fun i a d => hz i (by omega) d)
      have endM : ∀ b, g_m_at ((1040, [s, x, b, c r_Grid_showCount 0 0 0]), m1) = if 0 ≤ b then ((0, [b]), e_upd m1 r_m_thrown 0 0 0 0) else ((0, [0]), e_upd m1 r_m_thrown 0 0 0 3) := fun b => by
        rw [g_m_at_40, zb_d, if_pos (by omega), zb_d]
      have key : ∀ (t : Nat) (k : Int), 0 ≤ k → k + t = c r_Grid_showCount 0 0 0 → ∃ v, g_Grid_showOn ((1002, [s, x, k]), c) = ((0, [v]), c) ∧ -1 ≤ v ∧ g_m_at ((1040, [s, x, -1, k]), m1) = if 0 ≤ v then ((0, [v]), e_upd m1 r_m_thrown 0 0 0 0) else ((0, [0]), e_upd m1 r_m_thrown 0 0 0 3) := by
        intro t
        induction t with
        | zero =>
          intro k k0 k1
          refine ⟨-1, ?_, by omega, ?_⟩
          · rw [g_Grid_showOn_2, zb_d, if_pos (by omega)]
          · rw [show k = c r_Grid_showCount 0 0 0 by omega, endM]
        | succ t ih =>
          intro k k0 k1
          rw [hC k k0 (by omega), hM k _ k0 (by omega)]
          cases hz : zat c s x k
          · rw [if_neg (by decide), if_neg (by decide)]
            exact ih (k + 1) (by omega) (by omega)
          · rw [if_pos rfl, if_pos rfl, restM t (k + 1) k (by omega) (by omega) (fun i a d => uniq k i k0 (by omega) d hz), endM]
            exact ⟨k, rfl, by omega, rfl⟩
      obtain ⟨v, e1, e2, e3⟩ := key (c r_Grid_showCount 0 0 0).toNat 0 (Int.le_refl _) (by omega)
      have e1' : f_Grid_showOn [s, x] c = ((0, [v]), c) := by
        show g_Grid_showOn ((1000, [s, x]), c) = _
        rw [g_Grid_showOn_0]
        exact e1
      rw [e1', e_bnd, e3]
      by_cases q : v = -1
      · simp only [q, ↓reduceIte, Int.reduceLE, Int.reduceNeg]
        exact ⟨3, 0, _, _, rfl, rfl, hm1.thr, e_us, fun q => absurd q (by decide)⟩
      · simp only [if_neg q, if_pos (show 0 ≤ v by omega)]
        exact ⟨0, _, _, _, rfl, rfl, hm1.thr.out, e_us, fun _ => e_us⟩
    · rw [if_neg hx, if_neg hx, e_b_x (by decide) (by decide)]
      exact ⟨2, 0, _, _, rfl, rfl, h.thr.thr, e_us, fun q => absurd q (by decide)⟩
  · rw [if_neg hs, if_neg hs, e_b_x (by decide) (by decide)]
    simp (decide := true) only [zb_n, zb_d, ↓reduceIte]
    exact ⟨1, 0, _, _, rfl, rfl, h.thr, e_us, fun q => absurd q (by decide)⟩
