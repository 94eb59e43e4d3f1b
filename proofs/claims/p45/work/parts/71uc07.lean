/-! The first place for a show: both sides -/
def zPl (f : Int) (c m : ZS) (A B : ZR) : Prop := ∃ (v : Int) (c' m' : ZS), A = ((0, [v]), c') ∧ B = ((0, [v]), m') ∧ ((v = -1 ∧ c' = c ∧ m' = m) ∨ (v = c r_Grid_showCount 0 0 0 ∧ ∃ s x, 0 ≤ s ∧ s < 4 ∧ 0 ≤ x ∧ x < 50 ∧ zset c f s x = true ∧ c' = zsC f s x c ∧ m' = zsM f s x m))
theorem q_place1 {c m : ZS} (h : zGr c m) {f x : Int} (n1 : c r_Grid_showCount 0 0 0 < 60) (f0 : 0 ≤ f) (f1 : f < c r_x_filmCount 0 0 0) (f2 : f < 20) (hs : 0 ≤ c r_Film_section f 0 0) (x0 : 0 ≤ x) (x1 : x < 50) (hN : zPl f c m (g_Grid_setAtFirstPlace ((1005, [f, x + 1]), c)) (g_m_setAnywhere ((1005, [f, x + 1]), m))) : ∀ (j : Nat) (s : Int), 0 ≤ s → s + j = c r_Venue_screenCount 0 0 0 → zPl f c m (g_Grid_setAtFirstPlace ((1013, [f, x, s]), c)) (g_m_setAnywhere ((1013, [f, x, s]), m)) := by
  obtain ⟨g1, g2, g3, g4, g5, g6, g7, g8, g9, g10⟩ := id h
  obtain ⟨⟨v0, v1, v2⟩, -⟩ := id g2
  obtain ⟨⟨n0, -, n2⟩, -⟩ := id g7
  have hx1 : e_wr (x + 1) = x + 1 := e_wr_id (by omega) (by omega)
  intro j
  induction j with
  | zero =>
    intro s s0 s1
    rw [g_Grid_setAtFirstPlace_13, zb_d, if_pos (by omega), g_m_setAnywhere_13, zb_d, if_pos (by omega), hx1]
    exact hN
  | succ j ih =>
    intro s s0 s1
    have hs1 : e_wr (s + 1) = s + 1 := e_wr_id (by omega) (by omega)
    have eC : g_Grid_setAtFirstPlace ((1013, [f, x, s]), c) = if zb (zset c f s x) = 0 then g_Grid_setAtFirstPlace ((1013, [f, x, s + 1]), c) else e_bind (f_Grid_setShow [f, s, x] c) (fun v2 S2 => ((0, [v2]), S2)) := by
      rw [g_Grid_setAtFirstPlace_13, zb_d, if_neg (by omega), q_canBeSet g7 g2 s0 (by omega) x0 x1, e_bnd, zb_d, hs1]
    have eM : g_m_setAnywhere ((1013, [f, x, s]), m) = if zb (zset c f s x) = 0 then g_m_setAnywhere ((1013, [f, x, s + 1]), m) else e_bind (f_m_set [f, s, x] m) (fun v2 S2 => ((0, [v2]), S2)) := by
      rw [g_m_setAnywhere_13, zb_d, if_neg (by omega), q_canSet g7 g1 g2 g3 g4 g5 g6 f0 f1 f2 hs s0 (by omega) x0 x1, e_bnd, zb_d, hs1]
    rw [eC, eM]
    cases hz : zset c f s x
    · rw [if_pos (by decide), if_pos (by decide)]
      exact ih (s + 1) (by omega) (by omega)
    · rw [if_neg (by decide), if_neg (by decide), q_setShow n0 n1, e_bnd, q_mset (by omega) (by omega), e_bnd, n2]
      exact ⟨_, _, _, rfl, rfl, Or.inr ⟨rfl, s, x, s0, by omega, x0, x1, hz, rfl, rfl⟩⟩
theorem q_place2 {c m : ZS} (h : zGr c m) {f : Int} (n1 : c r_Grid_showCount 0 0 0 < 60) (f0 : 0 ≤ f) (f1 : f < c r_x_filmCount 0 0 0) (f2 : f < 20) (hs : 0 ≤ c r_Film_section f 0 0) : ∀ (j : Nat) (x : Int), 0 ≤ x → x + j = 50 → zPl f c m (g_Grid_setAtFirstPlace ((1005, [f, x]), c)) (g_m_setAnywhere ((1005, [f, x]), m)) := by
  obtain ⟨⟨v0, v1, v2⟩, -⟩ := id h.2.1
  intro j
  induction j with
  | zero =>
    intro x x0 x1
    rw [g_Grid_setAtFirstPlace_5, zb_d, if_pos (by omega), g_m_setAnywhere_5, zb_d, if_pos (by omega)]
    exact ⟨-1, c, m, rfl, rfl, Or.inl ⟨rfl, rfl, rfl⟩⟩
  | succ j ih =>
    intro x x0 x1
    rw [g_Grid_setAtFirstPlace_5, zb_d, if_neg (by omega), g_m_setAnywhere_5, zb_d, if_neg (by omega)]
    exact q_place1 h n1 f0 f1 f2 hs x0 (by omega) (ih (x + 1) (by omega) (by omega)) (c r_Venue_screenCount 0 0 0).toNat 0 (Int.le_refl _) (by omega)
theorem q_place {c m : ZS} (h : zGr c m) {f : Int} (n1 : c r_Grid_showCount 0 0 0 < 60) (f0 : 0 ≤ f) (f1 : f < c r_x_filmCount 0 0 0) (f2 : f < 20) (hs : 0 ≤ c r_Film_section f 0 0) : zPl f c m (f_Grid_setAtFirstPlace [f] c) (f_m_setAnywhere [f] m) := by
  obtain ⟨a, b, d⟩ := id h.2.2.2.2.1
  show zPl f c m (g_Grid_setAtFirstPlace ((1000, [f]), c)) (g_m_setAnywhere ((1000, [f]), m))
  rw [g_Grid_setAtFirstPlace_0, g_m_setAnywhere_0, d]
  exact q_place2 h n1 f0 f1 f2 hs (50 - c r_Grid_hour 0 0 0).toNat _ a (by omega)
theorem zset_fre {c : ZS} {f s x : Int} (h : zset c f s x = true) : zfre c f s x (zln c f) = true := by
  unfold zset at h
  rw [Bool.and_eq_true, Bool.and_eq_true] at h
  exact h.2.2
/-- behind it the grid's relations hold -/
theorem zPl.ok {c m : ZS} (h : zGr c m) {f : Int} (n1 : c r_Grid_showCount 0 0 0 < 60) (f0 : 0 ≤ f) (f1 : f < c r_x_filmCount 0 0 0) (hs : 0 ≤ c r_Film_section f 0 0) {A B : ZR} (hp : zPl f c m A B) : ∃ (v : Int) (c' m' : ZS), A = ((0, [v]), c') ∧ B = ((0, [v]), m') ∧ zGr c' m' ∧ (∀ r, zsW.contains r = false → c' r = c r) ∧ (∀ r, zsX.contains r = false → m' r = m r) ∧ (∀ i, i ≠ c r_Grid_showCount 0 0 0 → c' r_Show_film i 0 0 = c r_Show_film i 0 0) ∧ ((v = -1 ∧ c' = c ∧ m' = m) ∨ (v = c r_Grid_showCount 0 0 0 ∧ c' r_Grid_showCount 0 0 0 = c r_Grid_showCount 0 0 0 + 1)) := by
  obtain ⟨v, c', m', e1, e2, h3⟩ := hp
  rcases h3 with ⟨rfl, rfl, rfl⟩ | ⟨h4, s, x, s0, s1, x0, x1, hz, rfl, rfl⟩
  · exact ⟨-1, c', m', e1, e2, h, fun _ _ => rfl, fun _ _ => rfl, fun _ _ => rfl, Or.inl ⟨rfl, rfl, rfl⟩⟩
  · refine ⟨v, _, _, e1, e2, s_set h n1 f0 f1 hs s0 s1 x0 x1 (zset_fre hz), fun r hr => zsC_o hr, fun r hr => zsM_o hr, fun i hi => ?_, Or.inr ⟨h4, ?_⟩⟩
    · unfold zsC
      rw [zcA_o (by decide)]
      simp (decide := true) only [e_un, e_ur, and_true]
      rw [if_neg hi]
    · unfold zsC
      rw [zcA_o (by decide), e_us]
theorem o_show {f s x : Int} {c m : ZS} (hR : zR c m) (h : zGr c m) : zBo zGr (f_w_show [f, s, x] c) (f_m_show [f, s, x] m) := by
  obtain ⟨⟨a1, a2, a3⟩, -⟩ := id hR
  obtain ⟨g1, g2, g3, g4, g5, g6, g7, g8, g9, g10⟩ := id h
  obtain ⟨⟨v0, v1, v2⟩, -⟩ := id g2
  obtain ⟨⟨n0, n1, n2⟩, -⟩ := id g7
  have hth : ∀ {z : Int} {m' : ZS}, zGr c m' → zGr c (e_upd m' r_m_thrown 0 0 0 z) := fun {z m'} h' => by
    obtain ⟨g1, g2, g3, g4, g5, g6, g7, g8, g9, g10⟩ := h'
    exact ⟨g1.thr, g2.thr, g3.thr, g4.thr, g5.thr, g6.thr, g7.thr, g8.thr, g9.thr, g10.thr⟩
  have hot : ∀ {z : Int} {c' m' : ZS}, zGr c' m' → zGr (e_upd c' r_out 0 0 0 z) m' := fun {z c' m'} h' => by
    obtain ⟨g1, g2, g3, g4, g5, g6, g7, g8, g9, g10⟩ := h'
    exact ⟨g1.out, g2.out, g3.out, g4.out, g5.out, g6.out, g7.out, g8.out, g9.out, g10.out⟩
  show zBo zGr (e_try (f_x_show [f, s, x] c) (fun v1 S1 => ((0, [0]), e_upd S1 r_out 0 0 0 v1)) [(0, 1), (1, 2), (3, 3), (2, 4)]) (f_m_show [f, s, x] m)
  unfold f_x_show f_m_show
  dsimp only
  rw [q_film a1 (by omega), q_noFilm (by omega) (by omega), q_noScreen (by omega) (by omega), a3, v2]
  by_cases hf : 0 ≤ f ∧ f < c r_x_filmCount 0 0 0
  · rw [if_pos hf, if_pos hf, e_b_ok, q_screen v0 (by omega)]
    by_cases hsc : 0 ≤ s ∧ s < c r_Venue_screenCount 0 0 0
    · rw [if_pos hsc, if_pos hsc, e_b_ok, q_hour]
      simp (decide := true) only [zb_n, zb_d, q_isHour, ↓reduceIte, Int.reduceEq]
      by_cases hx : 0 ≤ x ∧ x ≤ 49
      · have hse := (g1.1 f hf.1 hf.2).2.2.2
        have hs5 := (g1.2.2 f hf.1 (by omega)).2
        rw [if_pos hx, if_pos hx, e_b_ok]
        simp (decide := true) only [zb_n, zb_d, hse, ↓reduceIte, Int.reduceEq]
        by_cases q : c r_Film_section f 0 0 = -1
        · simp (decide := true) only [q, ↓reduceIte]
          exact ⟨3, 0, _, _, rfl, rfl, hth (hth (hth h)), e_us, fun q => absurd q (by decide)⟩
        · obtain ⟨k1, k2, k3, k4, k5, k6, k7, k8, k9, k10⟩ := id (hth (hth h) : zGr c (e_upd (e_upd m r_m_thrown 0 0 0 0) r_m_thrown 0 0 0 0))
          rw [if_neg q, if_neg (by omega), q_canBeSet g7 g2 hsc.1 (by omega) hx.1 (by omega), e_bnd, q_canSet k7 k1 k2 k3 k4 k5 k6 hf.1 hf.2 (by omega) (by omega) hsc.1 (by omega) hx.1 (by omega), e_bnd]
          cases hz : zset c f s x
          · simp (decide := true) only [zb, ↓reduceIte, Int.reduceEq]
            exact ⟨3, 0, _, _, rfl, rfl, hth (hth (hth h)), e_us, fun q => absurd q (by decide)⟩
          · simp (decide := true) only [zb, ↓reduceIte, Int.reduceEq, e_un, n2]
            by_cases hn : c r_Grid_showCount 0 0 0 = 60
            · rw [if_neg (by omega), if_pos hn]
              exact ⟨4, 0, _, _, rfl, rfl, hth (hth (hth (hth h))), e_us, fun q => absurd q (by decide)⟩
            · have e4 : (e_upd (e_upd (e_upd (e_upd m r_m_thrown 0 0 0 0) r_m_thrown 0 0 0 0) r_m_thrown 0 0 0 0) r_m_thrown 0 0 0 0) r_m_shows 0 0 0 = c r_Grid_showCount 0 0 0 := by
                simp (decide := true) only [e_un, n2]
              rw [if_pos (by omega), if_neg hn, q_setShow n0 (by omega), e_bnd, q_mset (by rw [e4]; omega) (by rw [e4]; omega), e_bnd, e4]
              refine ⟨0, _, _, _, rfl, rfl, hot (s_set (hth (hth (hth (hth h)))) (by omega) hf.1 hf.2 (by omega) hsc.1 (by omega) hx.1 (by omega) (zset_fre hz)), ?_, fun _ => e_us⟩
              rw [zsM_o (by decide), e_us]
      · rw [if_neg hx, if_neg hx, e_b_x (by decide) (by decide)]
        exact ⟨2, 0, _, _, rfl, rfl, hth (hth h), e_us, fun q => absurd q (by decide)⟩
    · rw [if_neg hsc, if_neg hsc, e_b_x (by decide) (by decide)]
      simp (decide := true) only [zb_n, zb_d, ↓reduceIte]
      exact ⟨1, 0, _, _, rfl, rfl, hth h, e_us, fun q => absurd q (by decide)⟩
  · rw [if_neg hf, if_neg hf, e_b_x (by decide) (by decide)]
    simp (decide := true) only [zb_n, zb_d, ↓reduceIte]
    exact ⟨1, 0, _, _, rfl, rfl, hth h, e_us, fun q => absurd q (by decide)⟩
