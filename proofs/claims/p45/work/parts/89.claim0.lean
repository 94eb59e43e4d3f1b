/-! The claim's run out of the law's (c_hv: the contracts that 72 wants; to be put together when the last c_v is there) -/
theorem a_claim (L : Nat) (xs : Nat → Int32) (hL : L ≤ 3072) : ∃ d F r, d ≤ 14 ∧ a_go (a_run d F) 301 F 0 (a_args 301 [.ref 0]) [] [(19, (List.range L).map fun j => .int (xs j))] 0 0 = some r ∧ r.1 = .inl (some (.int 1)) ∧ r.2.2.1 ≤ 603072 ∧ r.2.2.2 ≤ 7219306 := by
  obtain ⟨F, r, h1, h2, h3, h4⟩ := c_law c_hv (vs := (List.range L).map fun j => .int (xs j)) (by rw [List.length_map, List.length_range]; exact hL) (fun v hv => by
    obtain ⟨j, -, rfl⟩ := List.mem_map.mp hv
    exact ⟨_, rfl⟩)
  exact ⟨13, F, r, by decide, h1, h2, h3, h4⟩
