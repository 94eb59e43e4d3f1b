/-! The methods' checks, by program (wip/absint.py) -/
/-- Juryreel$Grid.findWithoutPrint(II)I -/
theorem c_v42 : b_valid c_K c_r42 := b_chk_ok c_hJ (d := 3) (F := 3000) (R := c_r42) (cuts := c_c42) (b_orc_ok c_hJ (tab := [c_r33]) (List.forall_mem_cons.mpr ⟨c_v33, fun _ h => absurd h List.not_mem_nil⟩) 3000 3) rfl (by decide +kernel)
/-- Juryreel.deal(II)I -/
theorem c_v92 : b_valid c_K c_r92 := b_chk_ok c_hJ (d := 3) (F := 3000) (R := c_r92) (cuts := c_c92) (b_orc_ok c_hJ (tab := [c_r61, c_r62, c_r63]) (List.forall_mem_cons.mpr ⟨c_v61, List.forall_mem_cons.mpr ⟨c_v62, List.forall_mem_cons.mpr ⟨c_v63, fun _ h => absurd h List.not_mem_nil⟩⟩⟩) 3000 3) rfl (by decide +kernel)
/-- Juryreel.isDealt(II)Z -/
theorem c_v93 : b_valid c_K c_r93 := b_chk_ok c_hJ (d := 3) (F := 3000) (R := c_r93) (cuts := c_c93) (b_orc_ok c_hJ (tab := []) (fun _ h => absurd h List.not_mem_nil) 3000 3) rfl (by decide +kernel)
/-- Juryreel.read(III)I -/
theorem c_v94 : b_valid c_K c_r94 := b_chk_ok c_hJ (d := 3) (F := 3000) (R := c_r94) (cuts := c_c94) (b_orc_ok c_hJ (tab := [c_r65]) (List.forall_mem_cons.mpr ⟨c_v65, fun _ h => absurd h List.not_mem_nil⟩) 3000 3) rfl (by decide +kernel)
/-- Juryreel.even(II)I -/
theorem c_v95 : b_valid c_K c_r95 := b_chk_ok c_hJ (d := 3) (F := 3000) (R := c_r95) (cuts := c_c95) (b_orc_ok c_hJ (tab := []) (fun _ h => absurd h List.not_mem_nil) 3000 3) rfl (by decide +kernel)
/-- Juryreel.score(I)I -/
theorem c_v96 : b_valid c_K c_r96 := b_chk_ok c_hJ (d := 3) (F := 3000) (R := c_r96) (cuts := c_c96) (b_orc_ok c_hJ (tab := [c_r65, c_r67]) (List.forall_mem_cons.mpr ⟨c_v65, List.forall_mem_cons.mpr ⟨c_v67, fun _ h => absurd h List.not_mem_nil⟩⟩) 3000 3) rfl (by decide +kernel)
/-- Juryreel.isInQuarrel(I)Z -/
theorem c_v97 : b_valid c_K c_r97 := b_chk_ok c_hJ (d := 3) (F := 3000) (R := c_r97) (cuts := c_c97) (b_orc_ok c_hJ (tab := [c_r68]) (List.forall_mem_cons.mpr ⟨c_v68, fun _ h => absurd h List.not_mem_nil⟩) 3000 3) rfl (by decide +kernel)
/-- Juryreel.rival(IC)C -/
theorem c_v98 : b_valid c_K c_r98 := b_chk_ok c_hJ (d := 3) (F := 3000) (R := c_r98) (cuts := c_c98) (b_orc_ok c_hJ (tab := []) (fun _ h => absurd h List.not_mem_nil) 3000 3) rfl (by decide +kernel)
/-- Juryreel.choose(I)I -/
theorem c_v100 : b_valid c_K c_r100 := b_chk_ok c_hJ (d := 3) (F := 3000) (R := c_r100) (cuts := c_c100) (b_orc_ok c_hJ (tab := [c_r152, c_r68, c_r155, c_r156]) (List.forall_mem_cons.mpr ⟨c_v152, List.forall_mem_cons.mpr ⟨c_v68, List.forall_mem_cons.mpr ⟨c_v155, List.forall_mem_cons.mpr ⟨c_v156, fun _ h => absurd h List.not_mem_nil⟩⟩⟩⟩) 3000 3) rfl (by decide +kernel)
/-- Juryreel.sectionOf(I)I -/
theorem c_v101 : b_valid c_K c_r101 := b_chk_ok c_hJ (d := 3) (F := 3000) (R := c_r101) (cuts := c_c101) (b_orc_ok c_hJ (tab := []) (fun _ h => absurd h List.not_mem_nil) 3000 3) rfl (by decide +kernel)
/-- Juryreel.minutes(I)I -/
theorem c_v102 : b_valid c_K c_r102 := b_chk_ok c_hJ (d := 3) (F := 3000) (R := c_r102) (cuts := c_c102) (b_orc_ok c_hJ (tab := [c_r156]) (List.forall_mem_cons.mpr ⟨c_v156, fun _ h => absurd h List.not_mem_nil⟩) 3000 3) rfl (by decide +kernel)
/-- Juryreel.giveUp(I)C -/
theorem c_v103 : b_valid c_K c_r103 := b_chk_ok c_hJ (d := 3) (F := 3000) (R := c_r103) (cuts := c_c103) (b_orc_ok c_hJ (tab := []) (fun _ h => absurd h List.not_mem_nil) 3000 3) rfl (by decide +kernel)
/-- Juryreel.isBroken(I)Z -/
theorem c_v104 : b_valid c_K c_r104 := b_chk_ok c_hJ (d := 3) (F := 3000) (R := c_r104) (cuts := c_c104) (b_orc_ok c_hJ (tab := []) (fun _ h => absurd h List.not_mem_nil) 3000 3) rfl (by decide +kernel)
/-- Juryreel.print(ICI)Z -/
theorem c_v106 : b_valid c_K c_r106 := b_chk_ok c_hJ (d := 3) (F := 3000) (R := c_r106) (cuts := c_c106) (b_orc_ok c_hJ (tab := []) (fun _ h => absurd h List.not_mem_nil) 3000 3) rfl (by decide +kernel)
