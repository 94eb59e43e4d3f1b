/-! The methods' checks, by program (wip/absint.py) -/
/-- Juryreel.choose(I)I -/
theorem c_v100 : b_valid c_K c_r100 := b_chk_ok c_hJ (d := 3) (F := 3000) (R := c_r100) (cuts := c_c100) (b_orc_ok c_hJ (tab := [c_r152, c_r68, c_r155, c_r156]) (List.forall_mem_cons.mpr ⟨c_v152, List.forall_mem_cons.mpr ⟨c_v68, List.forall_mem_cons.mpr ⟨c_v155, List.forall_mem_cons.mpr ⟨c_v156, fun _ h => absurd h List.not_mem_nil⟩⟩⟩⟩) 3000 3) rfl (by decide +kernel)
/-- Juryreel.sectionOf(I)I -/
theorem c_v101 : b_valid c_K c_r101 := b_chk_ok c_hJ (d := 3) (F := 3000) (R := c_r101) (cuts := c_c101) (b_orc_ok c_hJ (tab := []) (fun _ h => absurd h List.not_mem_nil) 3000 3) rfl (by decide +kernel)
/-- Juryreel.minutes(I)I -/
theorem c_v102 : b_valid c_K c_r102 := b_chk_ok c_hJ (d := 3) (F := 3000) (R := c_r102) (cuts := c_c102) (b_orc_ok c_hJ (tab := [c_r156]) (List.forall_mem_cons.mpr ⟨c_v156, fun _ h => absurd h List.not_mem_nil⟩) 3000 3) rfl (by decide +kernel)
/-- Juryreel.giveUp(I)C -/
theorem c_v103 : b_valid c_K c_r103 := b_chk_ok c_hJ (d := 3) (F := 3000) (R := c_r103) (cuts := c_c103) (b_orc_ok c_hJ (tab := []) (fun _ h => absurd h List.not_mem_nil) 3000 3) rfl (by decide +kernel)
/-- Juryreel.isBroken(I)Z -/
theorem c_v104 : b_valid c_K c_r104 := b_chk_ok c_hJ (d := 3) (F := 3000) (R := c_r104) (cuts := c_c104) (b_orc_ok c_hJ (tab := []) (fun _ h => absurd h List.not_mem_nil) 3000 3) rfl (by decide +kernel)
/-- Juryreel.print(ICI)Z -/
theorem c_v106 : b_valid c_K c_r106 := b_chk_ok c_hJ (d := 3) (F := 3000) (R := c_r106) (cuts := c_c106) (b_orc_ok c_hJ (tab := []) (fun _ h => absurd h List.not_mem_nil) 3000 3) rfl (by decide +kernel)
/-- Juryreel.key(IIII)I -/
theorem c_v107 : b_valid c_K c_r107 := b_chk_ok c_hJ (d := 3) (F := 3000) (R := c_r107) (cuts := c_c107) (b_orc_ok c_hJ (tab := []) (fun _ h => absurd h List.not_mem_nil) 3000 3) rfl (by decide +kernel)
/-- Juryreel.canShow(III)Z -/
theorem c_v108 : b_valid c_K c_r108 := b_chk_ok c_hJ (d := 3) (F := 3000) (R := c_r108) (cuts := c_c108) (b_orc_ok c_hJ (tab := [c_r88]) (List.forall_mem_cons.mpr ⟨c_v88, fun _ h => absurd h List.not_mem_nil⟩) 3000 3) rfl (by decide +kernel)
/-- Juryreel.of(IC)I -/
theorem c_v111 : b_valid c_K c_r111 := b_chk_ok c_hJ (d := 3) (F := 3000) (R := c_r111) (cuts := c_c111) (b_orc_ok c_hJ (tab := []) (fun _ h => absurd h List.not_mem_nil) 3000 3) rfl (by decide +kernel)
/-- Juryreel.state(I)C -/
theorem c_v112 : b_valid c_K c_r112 := b_chk_ok c_hJ (d := 3) (F := 3000) (R := c_r112) (cuts := c_c112) (b_orc_ok c_hJ (tab := []) (fun _ h => absurd h List.not_mem_nil) 3000 3) rfl (by decide +kernel)
/-- Juryreel.at(II)I -/
theorem c_v113 : b_valid c_K c_r113 := b_chk_ok c_hJ (d := 3) (F := 3000) (R := c_r113) (cuts := c_c113) (b_orc_ok c_hJ (tab := [c_r38]) (List.forall_mem_cons.mpr ⟨c_v38, fun _ h => absurd h List.not_mem_nil⟩) 3000 3) rfl (by decide +kernel)
/-- Juryreel.withdraw(I)I -/
theorem c_v118 : b_valid c_K c_r118 := b_chk_ok c_hJ (d := 3) (F := 3000) (R := c_r118) (cuts := c_c118) (b_orc_ok c_hJ (tab := [c_r43, c_r45]) (List.forall_mem_cons.mpr ⟨c_v43, List.forall_mem_cons.mpr ⟨c_v45, fun _ h => absurd h List.not_mem_nil⟩⟩) 3000 3) rfl (by decide +kernel)
/-- Juryreel.join(II)I -/
theorem c_v120 : b_valid c_K c_r120 := b_chk_ok c_hJ (d := 3) (F := 3000) (R := c_r120) (cuts := c_c120) (b_orc_ok c_hJ (tab := [c_r82]) (List.forall_mem_cons.mpr ⟨c_v82, fun _ h => absurd h List.not_mem_nil⟩) 3000 3) rfl (by decide +kernel)
