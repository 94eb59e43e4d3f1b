/-! sectionOf, giveUp -/
theorem oB_sectionOf {f : Int} {c m : ZS} (h : zAnd zR zFs c m) : zBo (zAnd zR zFs) (f_w_sectionOf [f] c) (f_m_sectionOf [f] m) := by
  obtain ⟨hR, hS⟩ := h
  obtain ⟨⟨a1, a2, a3⟩, -⟩ := id hR
  show zBo _ (e_try (f_x_sectionOf [f] c) (fun v1 S1 => ((0, [0]), e_upd S1 r_out 0 0 0 v1)) [(0, 1), (4, 2)]) _
  unfold f_x_sectionOf f_m_sectionOf
  dsimp only
  rw [q_film a1 (by omega), q_noFilm (by omega) (by omega), a3]
  by_cases hf : 0 ≤ f ∧ f < c r_x_filmCount 0 0 0
  · have e4 := (hS.1 f hf.1 hf.2).2.2.2
    have e5 := (hS.2.2 f hf.1 (by omega)).2
    rw [if_pos hf, if_pos hf, e_b_ok]
    simp only [zb_n, zb_d, e4]
    by_cases q : c r_Film_section f 0 0 = -1
    · simp (decide := true) only [q, ↓reduceIte]
      exact ⟨2, 0, _, _, rfl, rfl, ⟨hR.thr.thr, hS.thr.thr⟩, e_us, fun q => absurd q (by decide)⟩
    · simp (decide := true) only [q, if_pos (show 0 ≤ c r_Film_section f 0 0 by omega), ↓reduceIte]
      exact ⟨0, _, _, _, rfl, rfl, ⟨hR.thr.thr.out, hS.thr.thr.out⟩, e_us, fun _ => e_us⟩
  · rw [if_neg hf, if_neg hf, e_b_x (by decide) (by decide)]
    simp (decide := true) only [zb_n, zb_d, ↓reduceIte]
    exact ⟨1, 0, _, _, rfl, rfl, ⟨hR.thr, hS.thr⟩, e_us, fun q => absurd q (by decide)⟩
theorem oB_giveUp {f : Int} {c m : ZS} (h : zAnd (zAnd zR zFs) zAr c m) : zBo (zAnd (zAnd zR zFs) zAr) (f_w_giveUp [f] c) (f_m_giveUp [f] m) := by
  obtain ⟨⟨hR, hS⟩, hA⟩ := h
  obtain ⟨⟨a1, a2, a3⟩, -⟩ := id hR
  obtain ⟨⟨n0, n1, n2⟩, -⟩ := id hA
  show zBo _ (e_try (f_x_giveUp [f] c) (fun v1 S1 => ((0, [0]), e_upd S1 r_out 0 0 0 v1)) [(0, 1), (3, 2)]) _
  unfold f_x_giveUp f_m_giveUp
  dsimp only
  rw [q_film a1 (by omega), q_noFilm (by omega) (by omega), a3]
  by_cases hf : 0 ≤ f ∧ f < c r_x_filmCount 0 0 0
  · have e4 := (hS.2.2 f hf.1 (by omega)).1
    rw [if_pos hf, if_pos hf, e_b_ok]
    simp only [zb_n, zb_d, e4]
    by_cases q : c r_Film_promise f 0 0 = 0
    · simp (decide := true) only [q, ↓reduceIte]
      exact ⟨2, 32, _, _, rfl, rfl, ⟨⟨hR.thr.thr, hS.thr.thr⟩, hA.thr.thr⟩, e_us, fun q => absurd q (by decide)⟩
    · simp (decide := true) only [q, ↓reduceIte]
      rw [q_add0, q_writes0 (by simp (decide := true) only [e_un]; omega) (by simp (decide := true) only [e_un]; omega), e_b_ok, e_b_ok]
      have k0 : (0 : Int) ≤ (e_upd (e_upd (e_upd m r_m_thrown 0 0 0 0) r_m_thrown 0 0 0 0) r_m_promises 0 0 f 0) r_m_lineMany 0 0 0 := by simp (decide := true) only [e_un]; omega
      have k1 : (e_upd (e_upd (e_upd m r_m_thrown 0 0 0 0) r_m_thrown 0 0 0 0) r_m_promises 0 0 f 0) r_m_lineMany 0 0 0 ≤ 400 := by simp (decide := true) only [e_un]; omega
      refine ⟨0, _, _, _, rfl, rfl, ⟨⟨?_, ?_⟩, ?_⟩, ?_, fun _ => ?_⟩
      · exact zR.out (zR_rel.add (by decide) (by decide) k0 k1 (zR_rel.uc (zR_rel.um hR.thr.thr (by decide)) (by decide)))
      · refine zFs.out (zFs_rel.add (by decide) (by decide) k0 k1 ?_)
        obtain ⟨s1, s2, s3⟩ := hS
        refine ⟨fun g g0 g1 => ?_, fun g g0 g1 => ?_, fun g g0 g1 => ?_⟩
        · simp (decide := true) only [e_un] at g1 ⊢
          exact s1 g g0 g1
        · simp (decide := true) only [e_un] at g0 ⊢
          exact s2 g g0 g1
        · simp (decide := true) only [e_un, e_ur]
          by_cases w : g = f
          · simp (decide := true) only [w, and_self, ↓reduceIte, true_and]
            exact (s3 f hf.1 (by omega)).2
          · simp only [w, and_false, false_and, ↓reduceIte]
            exact s3 g g0 g1
      · exact zAr.out (s_add (zAr_rel.uc (zAr_rel.um hA.thr.thr (by decide)) (by decide)))
      · rw [q_writes_o k0 k1 (by decide)]
        simp (decide := true) only [e_un, e_us]
      · rw [e_us]
        rfl
  · rw [if_neg hf, if_neg hf, e_b_x (by decide) (by decide)]
    simp (decide := true) only [zb_n, zb_d, ↓reduceIte]
    exact ⟨1, 32, _, _, rfl, rfl, ⟨⟨hR.thr, hS.thr⟩, hA.thr⟩, e_us, fun q => absurd q (by decide)⟩
