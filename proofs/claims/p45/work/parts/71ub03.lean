/-! rival -/
theorem oB_rival {f w : Int} {c m : ZS} (h : zAnd zR zFs c m) : zBo (zAnd zR zFs) (f_w_rival [f, w] c) (f_m_rival [f, w] m) := by
  obtain ⟨hR, hS⟩ := h
  obtain ⟨⟨a1, a2, a3⟩, -⟩ := id hR
  rw [q_wrival a1 a2, q_mrival (by omega) (by omega), a3]
  by_cases hf : 0 ≤ f ∧ f < c r_x_filmCount 0 0 0
  · rw [if_pos hf, if_pos hf]
    by_cases hw : w = 97 ∨ w = 108 ∨ w = 116
    · rw [if_pos hw, if_pos hw, (hS.1 f hf.1 hf.2).2.2.1]
      refine ⟨0, _, _, _, rfl, rfl, ⟨?_, ?_⟩, ?_, fun _ => ?_⟩
      · exact zR_rel.um (zR_rel.uc (zR_rel.uc hR.thr.thr (by decide)) (by decide)) (by decide)
      · refine zFs.out ?_
        obtain ⟨s1, s2, s3⟩ := hS
        refine ⟨fun g g0 g1 => ?_, fun g g0 g1 => ?_, fun g g0 g1 => ?_⟩
        · simp (decide := true) only [e_un] at g1
          simp (decide := true) only [e_un, e_ur]
          obtain ⟨t1, t2, t3, t4⟩ := s1 g g0 g1
          refine ⟨t1, t2, ?_, t4⟩
          by_cases q : g = f
          · simp (decide := true) only [q, and_self, ↓reduceIte]
          · simp only [q, and_false, false_and, ↓reduceIte]
            exact t3
        · simp (decide := true) only [e_un] at g0
          simp (decide := true) only [e_un, e_ur]
          rw [if_neg (by omega)]
          exact s2 g g0 g1
        · simp (decide := true) only [e_un]
          exact s3 g g0 g1
      · simp (decide := true) only [e_un, e_us]
      · rw [e_us]
        rfl
    · rw [if_neg hw, if_neg hw]
      exact ⟨2, 32, _, _, rfl, rfl, ⟨hR.thr.thr, hS.thr.thr⟩, e_us, fun q => absurd q (by decide)⟩
  · rw [if_neg hf, if_neg hf]
    exact ⟨1, 32, _, _, rfl, rfl, ⟨hR.thr, hS.thr⟩, e_us, fun q => absurd q (by decide)⟩
