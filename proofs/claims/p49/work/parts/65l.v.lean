/-! The methods' checks, by program (wip/absint.py) -/
/-- JuryreelModel.canSet(III)Z -/
theorem c_v206 : b_valid c_K c_r206 := b_chk_ok c_hJ (d := 3) (F := 3000) (R := c_r206) (cuts := c_c206) (b_orc_ok c_hJ (tab := [c_r200]) (List.forall_mem_cons.mpr ⟨c_v200, fun _ h => absurd h List.not_mem_nil⟩) 3000 3) rfl (by decide +kernel)
/-- JuryreelModel.state(I)C -/
theorem c_v214 : b_valid c_K c_r214 := b_chk_ok c_hJ (d := 3) (F := 3000) (R := c_r214) (cuts := c_c214) (b_orc_ok c_hJ (tab := []) (fun _ h => absurd h List.not_mem_nil) 3000 3) rfl (by decide +kernel)
/-- JuryreelModel.at(II)I -/
theorem c_v215 : b_valid c_K c_r215 := b_chk_ok c_hJ (d := 3) (F := 3000) (R := c_r215) (cuts := c_c215) (b_orc_ok c_hJ (tab := []) (fun _ h => absurd h List.not_mem_nil) 3000 3) rfl (by decide +kernel)
/-- JuryreelModel.goesBy(III)Z -/
theorem c_v218 : b_valid c_K c_r218 := b_chk_ok c_hJ (d := 3) (F := 3000) (R := c_r218) (cuts := c_c218) (b_orc_ok c_hJ (tab := [c_r200]) (List.forall_mem_cons.mpr ⟨c_v200, fun _ h => absurd h List.not_mem_nil⟩) 3000 3) rfl (by decide +kernel)
