/-! The grid's relations at the start -/
theorem z_rng {n : Nat} {p : Nat → Bool} (h : ((List.range n).all p) = true) {k : Int} (k0 : 0 ≤ k) (k1 : k < n) : p k.toNat = true := List.all_eq_true.mp h k.toNat (List.mem_range.mpr (by omega))
set_option maxRecDepth 100000 in
theorem z_s1 : (decide (z_a0 r_x_sectionCount 0 0 0 = 0) && (decide (z_a0 r_m_sectionMany 0 0 0 = 0) && (decide (z_a0 r_Venue_screenCount 0 0 0 = 0) && (decide (z_a0 r_m_screens 0 0 0 = 0) && (decide (z_a0 r_Venue_keyCount 0 0 0 = 0) && (decide (z_a0 r_m_keyMany 0 0 0 = 0) && (decide (z_a0 r_Grid_hour 0 0 0 = 0) && (decide (z_a0 r_m_hour 0 0 0 = 0) && (decide (z_a0 r_Grid_showCount 0 0 0 = 0) && (decide (z_a0 r_m_shows 0 0 0 = 0) && (decide (z_a0 r_Passes_passCount 0 0 0 = 0) && decide (z_a0 r_m_passes 0 0 0 = 0)))))))))))) = true := by decide +kernel
set_option maxRecDepth 100000 in
theorem z_s2 : ((List.range 20).all fun f => decide (z_a0 r_Film_stillIs (f : Int) 0 0 = 3) && (decide (z_a0 r_Film_section (f : Int) 0 0 = -1) && (decide (z_a0 r_m_promises 0 0 (f : Int) = z_a0 r_Film_promise (f : Int) 0 0) && (decide (z_a0 r_m_areWithdrawn 0 0 (f : Int) = 0 ∧ z_a0 r_Film_isWithdrawn (f : Int) 0 0 = 0) && (decide (z_a0 r_Film_kind (f : Int) 0 0 = 45) && (decide (z_a0 r_m_prints 0 0 (f : Int) = 0) && decide (z_a0 r_m_printHours 0 0 (f : Int) = z_a0 r_Film_comes (f : Int) 0 0))))))) = true := by decide +kernel
set_option maxRecDepth 100000 in
theorem z_s3 : ((List.range 60).all fun i => decide (z_a0 r_Show_cause (i : Int) 0 0 = 45) && (decide (z_a0 r_m_gone 0 0 (i : Int) = 0) && (decide (z_a0 r_Show_isOpened (i : Int) 0 0 = 0) && (decide (z_a0 r_m_areOpened 0 0 (i : Int) = 0) && (decide (z_a0 r_Show_waiting (i : Int) 0 0 = 0) && decide (z_a0 r_m_waitMany 0 0 (i : Int) = 0)))))) = true := by decide +kernel
set_option maxRecDepth 100000 in
theorem z_s4 : ((List.range 4).all fun s => decide (z_a0 r_m_seats 0 0 (s : Int) = z_a0 r_Venue_seats 0 0 (s : Int)) && (decide (z_a0 r_m_haveGear 0 0 (s : Int) = z_a0 r_Venue_hasGear 0 0 (s : Int)) && decide (z_a0 r_Venue_hasGear 0 0 (s : Int) = 0))) = true := by decide +kernel
set_option maxRecDepth 100000 in
theorem z_s5 : ((List.range 16).all fun p => decide (z_a0 r_m_ranks 0 0 (p : Int) = z_a0 r_Passes_ranks 0 0 (p : Int))) = true := by decide +kernel
set_option maxRecDepth 100000 in
theorem z_s6 : ((List.range 10).all fun d => decide (z_a0 r_m_storms 0 0 (d : Int) = z_a0 r_Grid_isStormy 0 0 (d : Int))) = true := by decide +kernel
set_option maxRecDepth 100000 in
theorem z_s7 : ((List.range 60).all fun i => (List.range 16).all fun p => decide (z_a0 r_m_haveSeats_r (i : Int) 0 (p : Int) = z_a0 r_Show_isSeated (i : Int) 0 (p : Int))) = true := by decide +kernel
theorem z_f0 {f : Int} (f0 : 0 ≤ f) (f1 : f < 20) : z_a0 r_Film_stillIs f 0 0 = 3 ∧ z_a0 r_Film_section f 0 0 = -1 ∧ z_a0 r_m_promises 0 0 f = z_a0 r_Film_promise f 0 0 ∧ (z_a0 r_m_areWithdrawn 0 0 f = 0 ∧ z_a0 r_Film_isWithdrawn f 0 0 = 0) ∧ z_a0 r_Film_kind f 0 0 = 45 ∧ z_a0 r_m_prints 0 0 f = 0 ∧ z_a0 r_m_printHours 0 0 f = z_a0 r_Film_comes f 0 0 := by
  have := z_rng z_s2 f0 f1
  simp only [Bool.and_eq_true, decide_eq_true_eq, Int.toNat_of_nonneg f0] at this
  exact this
theorem z_i0 {i : Int} (i0 : 0 ≤ i) (i1 : i < 60) : z_a0 r_Show_cause i 0 0 = 45 ∧ z_a0 r_m_gone 0 0 i = 0 ∧ z_a0 r_Show_isOpened i 0 0 = 0 ∧ z_a0 r_m_areOpened 0 0 i = 0 ∧ z_a0 r_Show_waiting i 0 0 = 0 ∧ z_a0 r_m_waitMany 0 0 i = 0 := by
  have := z_rng z_s3 i0 i1
  simp only [Bool.and_eq_true, decide_eq_true_eq, Int.toNat_of_nonneg i0] at this
  exact this
theorem z_n0 : z_a0 r_x_sectionCount 0 0 0 = 0 ∧ z_a0 r_m_sectionMany 0 0 0 = 0 ∧ z_a0 r_Venue_screenCount 0 0 0 = 0 ∧ z_a0 r_m_screens 0 0 0 = 0 ∧ z_a0 r_Venue_keyCount 0 0 0 = 0 ∧ z_a0 r_m_keyMany 0 0 0 = 0 ∧ z_a0 r_Grid_hour 0 0 0 = 0 ∧ z_a0 r_m_hour 0 0 0 = 0 ∧ z_a0 r_Grid_showCount 0 0 0 = 0 ∧ z_a0 r_m_shows 0 0 0 = 0 ∧ z_a0 r_Passes_passCount 0 0 0 = 0 ∧ z_a0 r_m_passes 0 0 0 = 0 := by
  have := z_s1
  simp only [Bool.and_eq_true, decide_eq_true_eq] at this
  exact this
section
variable {vs : List Value}
theorem zFs0 : zFs (z_al ((19, vs) :: c_h0)) (z_al ((19, vs) :: c_h0)) := by
  have hn : z_a0 r_x_filmCount 0 0 0 = 0 := by
    have h := z_s0
    simp only [Bool.and_eq_true, decide_eq_true_eq] at h
    exact h.1
  unfold zFs
  simp (decide := true) only [z_al0]
  refine ⟨fun f f0 f1 => by omega, fun f f0 f1 => ?_, fun f f0 f1 => ?_⟩
  · have := z_f0 (f := f) (by omega) f1
    exact ⟨this.1, this.2.1⟩
  · have := z_f0 f0 f1
    exact ⟨this.2.2.1, by omega⟩
theorem zWd0 : zWd (z_al ((19, vs) :: c_h0)) (z_al ((19, vs) :: c_h0)) := by
  unfold zWd
  simp (decide := true) only [z_al0]
  exact fun f f0 f1 => by
    obtain ⟨h1, h2⟩ := (z_f0 f0 f1).2.2.2.1
    exact ⟨by omega, Or.inl h2⟩
theorem zSe0 : zSe (z_al ((19, vs) :: c_h0)) (z_al ((19, vs) :: c_h0)) := by
  obtain ⟨h1, h2, -⟩ := z_n0
  unfold zSe
  simp (decide := true) only [z_al0]
  exact ⟨by first | trivial | omega, fun s s0 s1 => by omega⟩
theorem zVe0 : zVe (z_al ((19, vs) :: c_h0)) (z_al ((19, vs) :: c_h0)) := by
  obtain ⟨-, -, h1, h2, h3, h4, -⟩ := z_n0
  unfold zVe
  simp (decide := true) only [z_al0]
  refine ⟨by first | trivial | omega, fun s s0 s1 => ?_, by first | trivial | omega, fun k k0 k1 => by omega⟩
  have := z_rng z_s4 s0 s1
  simp only [Bool.and_eq_true, decide_eq_true_eq, Int.toNat_of_nonneg s0] at this
  exact ⟨this.1, this.2.1, Or.inl this.2.2⟩
theorem zPk0 : zPk (z_al ((19, vs) :: c_h0)) (z_al ((19, vs) :: c_h0)) := by
  unfold zPk
  simp (decide := true) only [z_al0]
  exact fun f f0 f1 => Or.inl ⟨(z_f0 f0 f1).2.2.2.2.1, (z_f0 f0 f1).2.2.2.2.2.1⟩
theorem zPh0 : zPh (z_al ((19, vs) :: c_h0)) (z_al ((19, vs) :: c_h0)) := by
  unfold zPh
  simp (decide := true) only [z_al0]
  exact fun f f0 f1 => (z_f0 f0 f1).2.2.2.2.2.2
theorem zHr0 : zHr (z_al ((19, vs) :: c_h0)) (z_al ((19, vs) :: c_h0)) := by
  obtain ⟨-, -, -, -, -, -, h1, h2, -⟩ := z_n0
  unfold zHr
  simp (decide := true) only [z_al0]
  all_goals omega
theorem zSt0 : zSt (z_al ((19, vs) :: c_h0)) (z_al ((19, vs) :: c_h0)) := by
  unfold zSt
  simp (decide := true) only [z_al0]
  intro d d0 d1
  have := z_rng z_s6 d0 d1
  simp only [decide_eq_true_eq, Int.toNat_of_nonneg d0] at this
  exact this
theorem zSw0 : zSw (z_al ((19, vs) :: c_h0)) (z_al ((19, vs) :: c_h0)) := by
  obtain ⟨-, -, -, -, -, -, -, -, h1, h2, -⟩ := z_n0
  unfold zSw
  simp (decide := true) only [z_al0]
  exact ⟨by first | trivial | omega, fun i i0 i1 => by omega, fun i i0 i1 => ⟨Or.inl ⟨(z_i0 i0 i1).1, (z_i0 i0 i1).2.1⟩, fun _ => (z_i0 i0 i1).1⟩⟩
theorem zTo0 : zTo (z_al ((19, vs) :: c_h0)) (z_al ((19, vs) :: c_h0)) := by
  obtain ⟨-, -, -, -, -, -, -, -, h1, -⟩ := z_n0
  unfold zTo
  simp (decide := true) only [z_al0]
  exact ⟨fun i i0 i1 => by omega, fun i i0 i1 => by omega, fun i j i0 ij j1 => by omega⟩
theorem zQu0 : zQu (z_al ((19, vs) :: c_h0)) (z_al ((19, vs) :: c_h0)) := by
  unfold zQu
  simp (decide := true) only [z_al0]
  intro i i0 i1
  obtain ⟨-, -, h1, h2, h3, h4⟩ := z_i0 i0 i1
  exact ⟨by omega, by omega, fun k k0 k1 => by omega, fun j k j0 jk k1 => by omega, fun _ => ⟨h3, h1⟩⟩
theorem zSs0 : zSs (z_al ((19, vs) :: c_h0)) (z_al ((19, vs) :: c_h0)) := by
  unfold zSs
  simp (decide := true) only [z_al0]
  intro i p i0 i1 p0 p1
  have := z_rng (z_rng z_s7 i0 i1) p0 p1
  simp only [decide_eq_true_eq, Int.toNat_of_nonneg i0, Int.toNat_of_nonneg p0] at this
  exact this
theorem zPa0 : zPa (z_al ((19, vs) :: c_h0)) (z_al ((19, vs) :: c_h0)) := by
  obtain ⟨-, -, -, -, -, -, -, -, -, -, h1, h2⟩ := z_n0
  unfold zPa
  simp (decide := true) only [z_al0]
  refine ⟨by first | trivial | omega, fun p p0 p1 => ?_⟩
  have := z_rng z_s5 p0 p1
  simp only [decide_eq_true_eq, Int.toNat_of_nonneg p0] at this
  exact this
end
