/-! winner and award, by program -/
/-- JuryreelModel.winner(I)I -/
theorem c_v247 : b_valid c_K c_r247 := b_chk_ok c_hJ (d := 5) (F := 3000) (R := c_r247) (cuts := c_c247) (b_orc_ok c_hJ (tab := [c_r246]) (List.forall_mem_cons.mpr ⟨c_v246, fun _ h => absurd h List.not_mem_nil⟩) 3000 5) rfl (by decide +kernel)
/-- JuryreelModel.award(I)I -/
theorem c_v248 : b_valid c_K c_r248 := b_chk_ok c_hJ (d := 5) (F := 3000) (R := c_r248) (cuts := c_c248) (b_orc_ok c_hJ (tab := [c_r246]) (List.forall_mem_cons.mpr ⟨c_v246, fun _ h => absurd h List.not_mem_nil⟩) 3000 5) rfl (by decide +kernel)
