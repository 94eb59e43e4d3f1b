/-! The methods' checks, by program (wip/absint.py) -/
/-- Juryreel.type(I)I -/
theorem c_v126 : b_valid c_K c_r126 := b_chk_ok c_hJ (d := 3) (F := 3000) (R := c_r126) (cuts := c_c126) (b_orc_ok c_hJ (tab := []) (fun _ h => absurd h List.not_mem_nil) 3000 3) rfl (by decide +kernel)
/-- Juryreel.rank(II)I -/
theorem c_v128 : b_valid c_K c_r128 := b_chk_ok c_hJ (d := 3) (F := 3000) (R := c_r128) (cuts := c_c128) (b_orc_ok c_hJ (tab := [c_r159, c_r54, c_r78]) (List.forall_mem_cons.mpr ⟨c_v159, List.forall_mem_cons.mpr ⟨c_v54, List.forall_mem_cons.mpr ⟨c_v78, fun _ h => absurd h List.not_mem_nil⟩⟩⟩) 3000 3) rfl (by decide +kernel)
/-- Juryreel.sell(IIIII)I -/
theorem c_v131 : b_valid c_K c_r131 := b_chk_ok c_hJ (d := 3) (F := 3000) (R := c_r131) (cuts := c_c131) (b_orc_ok c_hJ (tab := [c_r72]) (List.forall_mem_cons.mpr ⟨c_v72, fun _ h => absurd h List.not_mem_nil⟩) 3000 3) rfl (by decide +kernel)
/-- Juryreel.owner(III)I -/
theorem c_v132 : b_valid c_K c_r132 := b_chk_ok c_hJ (d := 3) (F := 3000) (R := c_r132) (cuts := c_c132) (b_orc_ok c_hJ (tab := [c_r73]) (List.forall_mem_cons.mpr ⟨c_v73, fun _ h => absurd h List.not_mem_nil⟩) 3000 3) rfl (by decide +kernel)
/-- JuryreelModel.isDealt(II)Z -/
theorem c_v173 : b_valid c_K c_r173 := b_chk_ok c_hJ (d := 3) (F := 3000) (R := c_r173) (cuts := c_c173) (b_orc_ok c_hJ (tab := []) (fun _ h => absurd h List.not_mem_nil) 3000 3) rfl (by decide +kernel)
/-- JuryreelModel.read(III)I -/
theorem c_v175 : b_valid c_K c_r175 := b_chk_ok c_hJ (d := 3) (F := 3000) (R := c_r175) (cuts := c_c175) (b_orc_ok c_hJ (tab := [c_r174a, c_r174]) (List.forall_mem_cons.mpr ⟨c_v174a, List.forall_mem_cons.mpr ⟨c_v174, fun _ h => absurd h List.not_mem_nil⟩⟩) 3000 3) rfl (by decide +kernel)
/-- JuryreelModel.even(II)I -/
theorem c_v177 : b_valid c_K c_r177 := b_chk_ok c_hJ (d := 3) (F := 3000) (R := c_r177) (cuts := c_c177) (b_orc_ok c_hJ (tab := [c_r176]) (List.forall_mem_cons.mpr ⟨c_v176, fun _ h => absurd h List.not_mem_nil⟩) 3000 3) rfl (by decide +kernel)
