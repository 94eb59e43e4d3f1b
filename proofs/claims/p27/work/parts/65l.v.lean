/-! The methods' checks, by program (wip/absint.py) -/
/-- JuryreelModel.goesBy(III)Z -/
theorem c_v218 : b_valid c_K c_r218 := b_chk_ok c_hJ (d := 3) (F := 3000) (R := c_r218) (cuts := c_c218) (b_orc_ok c_hJ (tab := [c_r200]) (List.forall_mem_cons.mpr ⟨c_v200, fun _ h => absurd h List.not_mem_nil⟩) 3000 3) rfl (by decide +kernel)
/-- JuryreelModel.withdraw(I)I -/
theorem c_v223 : b_valid c_K c_r223 := b_chk_ok c_hJ (d := 3) (F := 3000) (R := c_r223) (cuts := c_c223) (b_orc_ok c_hJ (tab := []) (fun _ h => absurd h List.not_mem_nil) 3000 3) rfl (by decide +kernel)
/-- JuryreelModel.see(III)I -/
theorem c_v233 : b_valid c_K c_r233 := b_chk_ok c_hJ (d := 3) (F := 3000) (R := c_r233) (cuts := c_c233) (b_orc_ok c_hJ (tab := []) (fun _ h => absurd h List.not_mem_nil) 3000 3) rfl (by decide +kernel)
