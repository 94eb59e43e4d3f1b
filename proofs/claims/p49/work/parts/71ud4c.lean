/-! The archive and the rights at the start -/
set_option maxRecDepth 100000 in
theorem z_s12 : (decide (z_a0 r_Archive_lineCount 0 0 0 = 0) && (decide (z_a0 r_Archive_next 0 0 0 = 0) && (decide (z_a0 r_m_lineMany 0 0 0 = 0) && (decide (z_a0 r_Rights_dealCount 0 0 0 = 0) && decide (z_a0 r_m_dealMany 0 0 0 = 0))))) = true := by decide +kernel
theorem z_l0 : z_a0 r_Archive_lineCount 0 0 0 = 0 ∧ z_a0 r_Archive_next 0 0 0 = 0 ∧ z_a0 r_m_lineMany 0 0 0 = 0 ∧ z_a0 r_Rights_dealCount 0 0 0 = 0 ∧ z_a0 r_m_dealMany 0 0 0 = 0 := by
  have := z_s12
  simp only [Bool.and_eq_true, decide_eq_true_eq] at this
  exact this
section
variable {vs : List Value}
theorem zAr0 : zAr (z_al ((19, vs) :: c_h0)) (z_al ((19, vs) :: c_h0)) := by
  obtain ⟨h1, h2, h3, -⟩ := z_l0
  unfold zAr
  simp (decide := true) only [z_al0]
  exact ⟨by first | trivial | exact ⟨by omega, by omega, by omega⟩, by first | trivial | exact ⟨by omega, by omega, fun _ => by omega⟩, fun i i0 i1 => by omega⟩
theorem zRt0 : zRt (z_al ((19, vs) :: c_h0)) (z_al ((19, vs) :: c_h0)) := by
  obtain ⟨-, -, -, h1, h2⟩ := z_l0
  unfold zRt
  simp (decide := true) only [z_al0]
  exact ⟨by first | trivial | exact ⟨by omega, by omega, by omega⟩, fun k k0 k1 => by omega⟩
end
