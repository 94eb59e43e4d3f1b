/-! part 71ud4d -/
section
/-! Seats, sections, rights at the start -/
set_option maxRecDepth 100000 in
theorem z_s13 : ((List.range 60).all fun i => (List.range 16).all fun p => decide (z_a0 r_Show_isSeated (i : Int) 0 (p : Int) = 0)) = true := by decide +kernel
set_option maxRecDepth 100000 in
theorem z_s14 : ((List.range 4).all fun s => decide (z_a0 r_Venue_seats 0 0 (s : Int) = 0)) = true := by decide +kernel
section
variable {vs : List Value}
theorem zKs0 : zKs (z_al ((19, vs) :: c_h0)) (z_al ((19, vs) :: c_h0)) := by
  obtain ⟨-, -, -, -, -, -, -, -, h1, -⟩ := z_n0
  unfold zKs zsc zlap
  simp (decide := true) only [z_al0]
  refine ⟨fun s s0 s1 => ?_, fun i p i0 i1 p0 p1 _ => ?_, fun i i0 i1 => by omega, fun i j p i0 i1 => by omega⟩
  · have := z_rng z_s14 s0 s1
    simp only [decide_eq_true_eq, Int.toNat_of_nonneg s0] at this
    exact ⟨⟨by omega, by omega⟩, fun _ => this⟩
  · have := z_rng (z_rng z_s13 i0 i1) p0 p1
    simp only [decide_eq_true_eq, Int.toNat_of_nonneg i0, Int.toNat_of_nonneg p0] at this
    exact this
theorem zKq0 : zKq (z_al ((19, vs) :: c_h0)) (z_al ((19, vs) :: c_h0)) := by
  have hn : z_a0 r_x_filmCount 0 0 0 = 0 := by
    have h := z_s0
    simp only [Bool.and_eq_true, decide_eq_true_eq] at h
    exact h.1
  obtain ⟨h1, -⟩ := z_n0
  unfold zKq zKn zKm
  simp (decide := true) only [z_al0]
  exact ⟨by first | trivial | exact ⟨⟨by omega, by omega⟩, by omega, by omega⟩ | omega, fun f f0 f1 => by omega, fun k k0 k1 => by omega⟩
theorem zRa0 : zRa (z_al ((19, vs) :: c_h0)) (z_al ((19, vs) :: c_h0)) := by
  obtain ⟨-, -, -, h1, -⟩ := z_l0
  unfold zRa
  simp (decide := true) only [z_al0]
  exact fun i j j0 ji i1 => by omega
end
end
/-! part 71ud5 -/
section
/-! The relation at the start, by program -/
theorem zQ0 {vs : List Value} : zQ (z_al ((19, vs) :: c_h0)) (z_al ((19, vs) :: c_h0)) := ⟨zR0, zFs0, zWd0, zSe0, zVe0, zPk0, zPh0, zHr0, zSt0, zSw0, zTo0, zQu0, zSs0, zPa0, zTy0, zJu0, zSn0, zSa0, zBa0, zRu0, zAw0, zLn0, zAr0, zRt0, zKs0, zKq0, zRa0⟩
end
/-! part 71ud6 -/
section
/-! The law's answer, whatever the relation -/
/-- the law's answer -/
theorem z_one {vs : List Value} {r : AR} (r1 : b_R 12 300 28 (c_al0 (some (.ref 1)) (some (.ref 365)) (some (.ref 770)) (some (.ref 771)) (some (.int 0))) [] ((19, vs) :: c_h0) c_mc c_ms r) (r2 : ∃ x : Int32, r.1 = .inl (some (.int x))) : r.1 = .inl (some (.int 1)) := by
  obtain ⟨f, hf⟩ := r1
  obtain ⟨x, hx⟩ := r2
  have e : z_out r.1 = (0, [x.toInt]) := by rw [hx]; rfl
  have hg : z_goes z_Q0 zC300 300 f 28 [0] (z_al ((19, vs) :: c_h0)) (z_X r) := ⟨zsg300, 12, _, _, _, _, r, rfl, hf, z_loc0, ⟨z_PI0, trivial⟩, rfl, rfl⟩
  have := z_law f 0 _ (z_X r) ⟨x.toInt, e⟩ zQ0 hg
  have this : z_out r.1 = (0, [1]) := this
  rw [e] at this
  have hx1 : x.toInt = 1 := by
    simp only [Prod.mk.injEq, List.cons.injEq, and_true, true_and] at this
    exact this
  rw [hx, Int32.toInt_inj.mp (hx1.trans (by decide : (1 : Int) = (1 : Int32).toInt))]
end
