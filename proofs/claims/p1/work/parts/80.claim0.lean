/-! What is claimed, of the abstract run alone -/
theorem a_claim (L : Nat) (xs : Nat → Int32) (hL : L ≤ 6) : ∃ (d F : Nat) (r : AR), d ≤ 14 ∧ a_go (a_run d F) 301 F 0 (a_args 301 [.ref 0]) [] [(19, (List.range L).map fun j => .int (xs j))] 0 0 = some r ∧ r.1 = .inl (some (.int 1)) ∧ r.2.2.1 ≤ 600006 ∧ r.2.2.2 ≤ 7302087 := by
  sorry
