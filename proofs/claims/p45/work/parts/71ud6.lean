/-! The law's answer, whatever the relation -/
/-- the law's answer -/
theorem z_one {vs : List Value} {r : AR} (r1 : b_R 12 301 28 (c_al0 (some (.ref 1)) (some (.ref 365)) (some (.ref 770)) (some (.ref 771)) (some (.int 0))) [] ((19, vs) :: c_h0) c_mc c_ms r) (r2 : ∃ x : Int32, r.1 = .inl (some (.int x))) : r.1 = .inl (some (.int 1)) := by
  obtain ⟨f, hf⟩ := r1
  obtain ⟨x, hx⟩ := r2
  have e : z_out r.1 = (0, [x.toInt]) := by rw [hx]; rfl
  have hg : z_goes z_Q0 zC301 301 f 28 [0] (z_al ((19, vs) :: c_h0)) (z_X r) := ⟨zsg301, 12, _, _, _, _, r, rfl, hf, z_loc0, ⟨z_PI0, trivial⟩, rfl, rfl⟩
  have := z_law f 0 _ (z_X r) ⟨x.toInt, e⟩ zQ0 hg
  have this : z_out r.1 = (0, [1]) := this
  rw [e] at this
  have hx1 : x.toInt = 1 := by
    simp only [Prod.mk.injEq, List.cons.injEq, and_true, true_and] at this
    exact this
  rw [hx, Int32.toInt_inj.mp (hx1.trans (by decide : (1 : Int) = (1 : Int32).toInt))]
