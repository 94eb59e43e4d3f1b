/-! part 65c.v -/
section
/-! The methods' checks, by program (wip/absint.py) -/
/-- Juryreel.film(CII)I -/
theorem c_v90 : b_valid c_K c_r90 := b_chk_ok c_hJ (d := 1) (F := 3000) (R := c_r90) (cuts := c_c90) (b_orc_ok c_hJ (tab := []) (fun _ h => absurd h List.not_mem_nil) 3000 1) rfl (by decide +kernel)
/-- Juryreel.reader(I)I -/
theorem c_v91 : b_valid c_K c_r91 := b_chk_ok c_hJ (d := 1) (F := 3000) (R := c_r91) (cuts := c_c91) (b_orc_ok c_hJ (tab := []) (fun _ h => absurd h List.not_mem_nil) 3000 1) rfl (by decide +kernel)
/-- Juryreel.section(IIICC)I -/
theorem c_v99 : b_valid c_K c_r99 := b_chk_ok c_hJ (d := 1) (F := 3000) (R := c_r99) (cuts := c_c99) (b_orc_ok c_hJ (tab := []) (fun _ h => absurd h List.not_mem_nil) 3000 1) rfl (by decide +kernel)
/-- Juryreel.screen(IZ)I -/
theorem c_v105 : b_valid c_K c_r105 := b_chk_ok c_hJ (d := 1) (F := 3000) (R := c_r105) (cuts := c_c105) (b_orc_ok c_hJ (tab := []) (fun _ h => absurd h List.not_mem_nil) 3000 1) rfl (by decide +kernel)
/-- Juryreel.go(I)I -/
theorem c_v114 : b_valid c_K c_r114 := b_chk_ok c_hJ (d := 1) (F := 3000) (R := c_r114) (cuts := c_c114) (b_orc_ok c_hJ (tab := []) (fun _ h => absurd h List.not_mem_nil) 3000 1) rfl (by decide +kernel)
/-- Juryreel.pass(I)I -/
theorem c_v119 : b_valid c_K c_r119 := b_chk_ok c_hJ (d := 1) (F := 3000) (R := c_r119) (cuts := c_c119) (b_orc_ok c_hJ (tab := []) (fun _ h => absurd h List.not_mem_nil) 3000 1) rfl (by decide +kernel)
/-- Juryreel.line(IZ)I -/
theorem c_v133 : b_valid c_K c_r133 := b_chk_ok c_hJ (d := 1) (F := 3000) (R := c_r133) (cuts := c_c133) (b_orc_ok c_hJ (tab := []) (fun _ h => absurd h List.not_mem_nil) 3000 1) rfl (by decide +kernel)
end
/-! part 65d.v -/
section
/-! The methods' checks, by program (wip/absint.py) -/
/-- Juryreel.checksum()J -/
theorem c_v134 : b_valid c_K c_r134 := b_chk_ok c_hJ (d := 1) (F := 3000) (R := c_r134) (cuts := c_c134) (b_orc_ok c_hJ (tab := []) (fun _ h => absurd h List.not_mem_nil) 3000 1) rfl (by decide +kernel)
/-- Juryreel.shownShare()F -/
theorem c_v135 : b_valid c_K c_r135 := b_chk_ok c_hJ (d := 1) (F := 3000) (R := c_r135) (cuts := c_c135) (b_orc_ok c_hJ (tab := [c_r40]) (List.forall_mem_cons.mpr ⟨c_v40, fun _ h => absurd h List.not_mem_nil⟩) 3000 1) rfl (by decide +kernel)
/-- Juryreel.isBallotOf(ILJuryreel$Juror;)Z -/
theorem c_v159 : b_valid c_K c_r159 := b_chk_ok c_hJ (d := 1) (F := 3000) (R := c_r159) (cuts := c_c159) (b_orc_ok c_hJ (tab := [c_r158]) (List.forall_mem_cons.mpr ⟨c_v158, fun _ h => absurd h List.not_mem_nil⟩) 3000 1) rfl (by decide +kernel)
/-- Juryreel.areSectionsKept()Z -/
theorem c_v160 : b_valid c_K c_r160 := b_chk_ok c_hJ (d := 1) (F := 3000) (R := c_r160) (cuts := c_c160) (b_orc_ok c_hJ (tab := [c_r155, c_r156]) (List.forall_mem_cons.mpr ⟨c_v155, List.forall_mem_cons.mpr ⟨c_v156, fun _ h => absurd h List.not_mem_nil⟩⟩) 3000 1) rfl (by decide +kernel)
/-- JuryreelModel.reader(I)I -/
theorem c_v169 : b_valid c_K c_r169 := b_chk_ok c_hJ (d := 1) (F := 3000) (R := c_r169) (cuts := c_c169) (b_orc_ok c_hJ (tab := []) (fun _ h => absurd h List.not_mem_nil) 3000 1) rfl (by decide +kernel)
/-- JuryreelModel.scoreOf(I)I -/
theorem c_v178 : b_valid c_K c_r178 := b_chk_ok c_hJ (d := 1) (F := 3000) (R := c_r178) (cuts := c_c178) (b_orc_ok c_hJ (tab := [c_r176, c_r174a, c_r174]) (List.forall_mem_cons.mpr ⟨c_v176, List.forall_mem_cons.mpr ⟨c_v174a, List.forall_mem_cons.mpr ⟨c_v174, fun _ h => absurd h List.not_mem_nil⟩⟩⟩) 3000 1) rfl (by decide +kernel)
/-- JuryreelModel.isQuarrel(I)Z -/
theorem c_v180 : b_valid c_K c_r180 := b_chk_ok c_hJ (d := 1) (F := 3000) (R := c_r180) (cuts := c_c180) (b_orc_ok c_hJ (tab := [c_r176, c_r174a, c_r174]) (List.forall_mem_cons.mpr ⟨c_v176, List.forall_mem_cons.mpr ⟨c_v174a, List.forall_mem_cons.mpr ⟨c_v174, fun _ h => absurd h List.not_mem_nil⟩⟩⟩) 3000 1) rfl (by decide +kernel)
end
