/-! The methods' checks, by program (wip/absint.py) -/
/-- JuryreelModel.isInQuarrel(I)Z -/
theorem c_v181 : b_valid c_K c_r181 := b_chk_ok c_hJ (d := 2) (F := 3000) (R := c_r181) (cuts := c_c181) (b_orc_ok c_hJ (tab := [c_r180]) (List.forall_mem_cons.mpr ⟨c_v180, fun _ h => absurd h List.not_mem_nil⟩) 3000 2) rfl (by decide +kernel)
/-- JuryreelModel.rival(IC)C -/
theorem c_v184 : b_valid c_K c_r184 := b_chk_ok c_hJ (d := 2) (F := 3000) (R := c_r184) (cuts := c_c184) (b_orc_ok c_hJ (tab := []) (fun _ h => absurd h List.not_mem_nil) 3000 2) rfl (by decide +kernel)
/-- JuryreelModel.sectionOf(I)I -/
theorem c_v191 : b_valid c_K c_r191 := b_chk_ok c_hJ (d := 2) (F := 3000) (R := c_r191) (cuts := c_c191) (b_orc_ok c_hJ (tab := []) (fun _ h => absurd h List.not_mem_nil) 3000 2) rfl (by decide +kernel)
/-- JuryreelModel.minutes(I)I -/
theorem c_v192 : b_valid c_K c_r192 := b_chk_ok c_hJ (d := 2) (F := 3000) (R := c_r192) (cuts := c_c192) (b_orc_ok c_hJ (tab := [c_r187]) (List.forall_mem_cons.mpr ⟨c_v187, fun _ h => absurd h List.not_mem_nil⟩) 3000 2) rfl (by decide +kernel)
/-- JuryreelModel.giveUp(I)C -/
theorem c_v193 : b_valid c_K c_r193 := b_chk_ok c_hJ (d := 2) (F := 3000) (R := c_r193) (cuts := c_c193) (b_orc_ok c_hJ (tab := []) (fun _ h => absurd h List.not_mem_nil) 3000 2) rfl (by decide +kernel)
/-- JuryreelModel.isBroken(I)Z -/
theorem c_v194 : b_valid c_K c_r194 := b_chk_ok c_hJ (d := 2) (F := 3000) (R := c_r194) (cuts := c_c194) (b_orc_ok c_hJ (tab := []) (fun _ h => absurd h List.not_mem_nil) 3000 2) rfl (by decide +kernel)
/-- JuryreelModel.print(ICI)Z -/
theorem c_v198 : b_valid c_K c_r198 := b_chk_ok c_hJ (d := 2) (F := 3000) (R := c_r198) (cuts := c_c198) (b_orc_ok c_hJ (tab := []) (fun _ h => absurd h List.not_mem_nil) 3000 2) rfl (by decide +kernel)
/-- JuryreelModel.canShow(III)Z -/
theorem c_v201 : b_valid c_K c_r201 := b_chk_ok c_hJ (d := 2) (F := 3000) (R := c_r201) (cuts := c_c201) (b_orc_ok c_hJ (tab := [c_r200]) (List.forall_mem_cons.mpr ⟨c_v200, fun _ h => absurd h List.not_mem_nil⟩) 3000 2) rfl (by decide +kernel)
