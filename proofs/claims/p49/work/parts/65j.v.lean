/-! The methods' checks, by program (wip/absint.py) -/
/-- Juryreel.key(IIII)I -/
theorem c_v107 : b_valid c_K c_r107 := b_chk_ok c_hJ (d := 3) (F := 3000) (R := c_r107) (cuts := c_c107) (b_orc_ok c_hJ (tab := []) (fun _ h => absurd h List.not_mem_nil) 3000 3) rfl (by decide +kernel)
/-- Juryreel.canShow(III)Z -/
theorem c_v108 : b_valid c_K c_r108 := b_chk_ok c_hJ (d := 3) (F := 3000) (R := c_r108) (cuts := c_c108) (b_orc_ok c_hJ (tab := [c_r88]) (List.forall_mem_cons.mpr ⟨c_v88, fun _ h => absurd h List.not_mem_nil⟩) 3000 3) rfl (by decide +kernel)
/-- Juryreel.of(IC)I -/
theorem c_v111 : b_valid c_K c_r111 := b_chk_ok c_hJ (d := 3) (F := 3000) (R := c_r111) (cuts := c_c111) (b_orc_ok c_hJ (tab := []) (fun _ h => absurd h List.not_mem_nil) 3000 3) rfl (by decide +kernel)
/-- Juryreel.state(I)C -/
theorem c_v112 : b_valid c_K c_r112 := b_chk_ok c_hJ (d := 3) (F := 3000) (R := c_r112) (cuts := c_c112) (b_orc_ok c_hJ (tab := []) (fun _ h => absurd h List.not_mem_nil) 3000 3) rfl (by decide +kernel)
/-- Juryreel.at(II)I -/
theorem c_v113 : b_valid c_K c_r113 := b_chk_ok c_hJ (d := 3) (F := 3000) (R := c_r113) (cuts := c_c113) (b_orc_ok c_hJ (tab := [c_r38]) (List.forall_mem_cons.mpr ⟨c_v38, fun _ h => absurd h List.not_mem_nil⟩) 3000 3) rfl (by decide +kernel)
/-- Juryreel.withdraw(I)I -/
theorem c_v118 : b_valid c_K c_r118 := b_chk_ok c_hJ (d := 3) (F := 3000) (R := c_r118) (cuts := c_c118) (b_orc_ok c_hJ (tab := [c_r43, c_r45]) (List.forall_mem_cons.mpr ⟨c_v43, List.forall_mem_cons.mpr ⟨c_v45, fun _ h => absurd h List.not_mem_nil⟩⟩) 3000 3) rfl (by decide +kernel)
/-- Juryreel.join(II)I -/
theorem c_v120 : b_valid c_K c_r120 := b_chk_ok c_hJ (d := 3) (F := 3000) (R := c_r120) (cuts := c_c120) (b_orc_ok c_hJ (tab := [c_r82]) (List.forall_mem_cons.mpr ⟨c_v82, fun _ h => absurd h List.not_mem_nil⟩) 3000 3) rfl (by decide +kernel)
/-- Juryreel.open(I)I -/
theorem c_v121 : b_valid c_K c_r121 := b_chk_ok c_hJ (d := 3) (F := 3000) (R := c_r121) (cuts := c_c121) (b_orc_ok c_hJ (tab := [c_r57]) (List.forall_mem_cons.mpr ⟨c_v57, fun _ h => absurd h List.not_mem_nil⟩) 3000 3) rfl (by decide +kernel)
/-- Juryreel.hasSeat(II)Z -/
theorem c_v122 : b_valid c_K c_r122 := b_chk_ok c_hJ (d := 3) (F := 3000) (R := c_r122) (cuts := c_c122) (b_orc_ok c_hJ (tab := []) (fun _ h => absurd h List.not_mem_nil) 3000 3) rfl (by decide +kernel)
/-- Juryreel.juror(II)I -/
theorem c_v123 : b_valid c_K c_r123 := b_chk_ok c_hJ (d := 3) (F := 3000) (R := c_r123) (cuts := c_c123) (b_orc_ok c_hJ (tab := []) (fun _ h => absurd h List.not_mem_nil) 3000 3) rfl (by decide +kernel)
/-- Juryreel.rule(IC)C -/
theorem c_v124 : b_valid c_K c_r124 := b_chk_ok c_hJ (d := 3) (F := 3000) (R := c_r124) (cuts := c_c124) (b_orc_ok c_hJ (tab := []) (fun _ h => absurd h List.not_mem_nil) 3000 3) rfl (by decide +kernel)
/-- Juryreel.see(III)I -/
theorem c_v125 : b_valid c_K c_r125 := b_chk_ok c_hJ (d := 3) (F := 3000) (R := c_r125) (cuts := c_c125) (b_orc_ok c_hJ (tab := [c_r157]) (List.forall_mem_cons.mpr ⟨c_v157, fun _ h => absurd h List.not_mem_nil⟩) 3000 3) rfl (by decide +kernel)
