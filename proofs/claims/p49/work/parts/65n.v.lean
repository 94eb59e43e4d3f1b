/-! The methods' checks, by program (wip/absint.py) -/
/-- JuryreelModel.see(III)I -/
theorem c_v233 : b_valid c_K c_r233 := b_chk_ok c_hJ (d := 3) (F := 3000) (R := c_r233) (cuts := c_c233) (b_orc_ok c_hJ (tab := []) (fun _ h => absurd h List.not_mem_nil) 3000 3) rfl (by decide +kernel)
/-- JuryreelModel.rank(II)I -/
theorem c_v237 : b_valid c_K c_r237 := b_chk_ok c_hJ (d := 3) (F := 3000) (R := c_r237) (cuts := c_c237) (b_orc_ok c_hJ (tab := [c_r236]) (List.forall_mem_cons.mpr ⟨c_v236, fun _ h => absurd h List.not_mem_nil⟩) 3000 3) rfl (by decide +kernel)
/-- JuryreelModel.byDuels(I)I -/
theorem c_v244 : b_valid c_K c_r244 := b_chk_ok c_hJ (d := 3) (F := 3000) (R := c_r244) (cuts := c_c244) (b_orc_ok c_hJ (tab := [c_r242, c_r243]) (List.forall_mem_cons.mpr ⟨c_v242, List.forall_mem_cons.mpr ⟨c_v243, fun _ h => absurd h List.not_mem_nil⟩⟩) 3000 3) rfl (by decide +kernel)
/-- JuryreelModel.checksum()J -/
theorem c_v252 : b_valid c_K c_r252 := b_chk_ok c_hJ (d := 3) (F := 3000) (R := c_r252) (cuts := c_c252) (b_orc_ok c_hJ (tab := []) (fun _ h => absurd h List.not_mem_nil) 3000 3) rfl (by decide +kernel)
/-- JuryreelLaw.meanScore(LJuryreel;[D)I -/
theorem c_v299 : b_valid c_K c_r299 := b_chk_ok c_hJ (d := 3) (F := 3000) (R := c_r299) (cuts := c_c299) (b_orc_ok c_hJ (tab := [c_r136]) (List.forall_mem_cons.mpr ⟨c_v136, fun _ h => absurd h List.not_mem_nil⟩) 3000 3) rfl (by decide +kernel)
