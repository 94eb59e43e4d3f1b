/-! The relation at the start, group A -/
theorem zQ0 {vs : List Value} : zQ (z_al ((19, vs) :: c_h0)) (z_al ((19, vs) :: c_h0)) := zR0
