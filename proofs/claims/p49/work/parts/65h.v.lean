/-! The methods' checks, by program (wip/absint.py) -/
/-- JuryreelModel.of(IC)I -/
theorem c_v213 : b_valid c_K c_r213 := b_chk_ok c_hJ (d := 2) (F := 3000) (R := c_r213) (cuts := c_c213) (b_orc_ok c_hJ (tab := []) (fun _ h => absurd h List.not_mem_nil) 3000 2) rfl (by decide +kernel)
/-- JuryreelModel.hasSeat(II)Z -/
theorem c_v229 : b_valid c_K c_r229 := b_chk_ok c_hJ (d := 2) (F := 3000) (R := c_r229) (cuts := c_c229) (b_orc_ok c_hJ (tab := []) (fun _ h => absurd h List.not_mem_nil) 3000 2) rfl (by decide +kernel)
/-- JuryreelModel.juror(II)I -/
theorem c_v230 : b_valid c_K c_r230 := b_chk_ok c_hJ (d := 2) (F := 3000) (R := c_r230) (cuts := c_c230) (b_orc_ok c_hJ (tab := []) (fun _ h => absurd h List.not_mem_nil) 3000 2) rfl (by decide +kernel)
/-- JuryreelModel.rule(IC)C -/
theorem c_v231 : b_valid c_K c_r231 := b_chk_ok c_hJ (d := 2) (F := 3000) (R := c_r231) (cuts := c_c231) (b_orc_ok c_hJ (tab := []) (fun _ h => absurd h List.not_mem_nil) 3000 2) rfl (by decide +kernel)
/-- JuryreelModel.type(I)I -/
theorem c_v234 : b_valid c_K c_r234 := b_chk_ok c_hJ (d := 2) (F := 3000) (R := c_r234) (cuts := c_c234) (b_orc_ok c_hJ (tab := []) (fun _ h => absurd h List.not_mem_nil) 3000 2) rfl (by decide +kernel)
/-- JuryreelModel.byCount(IZ)I -/
theorem c_v243 : b_valid c_K c_r243 := b_chk_ok c_hJ (d := 2) (F := 3000) (R := c_r243) (cuts := c_c243) (b_orc_ok c_hJ (tab := [c_r241, c_r239]) (List.forall_mem_cons.mpr ⟨c_v241, List.forall_mem_cons.mpr ⟨c_v239, fun _ h => absurd h List.not_mem_nil⟩⟩) 3000 2) rfl (by decide +kernel)
/-- JuryreelModel.owner(III)I -/
theorem c_v250 : b_valid c_K c_r250 := b_chk_ok c_hJ (d := 2) (F := 3000) (R := c_r250) (cuts := c_c250) (b_orc_ok c_hJ (tab := []) (fun _ h => absurd h List.not_mem_nil) 3000 2) rfl (by decide +kernel)
/-- JuryreelModel.meanScore()D -/
theorem c_v254 : b_valid c_K c_r254 := b_chk_ok c_hJ (d := 2) (F := 3000) (R := c_r254) (cuts := c_c254) (b_orc_ok c_hJ (tab := [c_r174a, c_r174, c_r178]) (List.forall_mem_cons.mpr ⟨c_v174a, List.forall_mem_cons.mpr ⟨c_v174, List.forall_mem_cons.mpr ⟨c_v178, fun _ h => absurd h List.not_mem_nil⟩⟩⟩) 3000 2) rfl (by decide +kernel)
/-- JuryreelLaw.film(LJuryreel;CII[J)I -/
theorem c_v256 : b_valid c_K c_r256 := b_chk_ok c_hJ (d := 2) (F := 3000) (R := c_r256) (cuts := c_c256) (b_orc_ok c_hJ (tab := [c_r90]) (List.forall_mem_cons.mpr ⟨c_v90, fun _ h => absurd h List.not_mem_nil⟩) 3000 2) rfl (by decide +kernel)
/-- JuryreelLaw.reader(LJuryreel;I[J)I -/
theorem c_v257 : b_valid c_K c_r257 := b_chk_ok c_hJ (d := 2) (F := 3000) (R := c_r257) (cuts := c_c257) (b_orc_ok c_hJ (tab := [c_r91]) (List.forall_mem_cons.mpr ⟨c_v91, fun _ h => absurd h List.not_mem_nil⟩) 3000 2) rfl (by decide +kernel)
/-- JuryreelLaw.section(LJuryreel;IIICC[J)I -/
theorem c_v265 : b_valid c_K c_r265 := b_chk_ok c_hJ (d := 2) (F := 3000) (R := c_r265) (cuts := c_c265) (b_orc_ok c_hJ (tab := [c_r99]) (List.forall_mem_cons.mpr ⟨c_v99, fun _ h => absurd h List.not_mem_nil⟩) 3000 2) rfl (by decide +kernel)
/-- JuryreelLaw.screen(LJuryreel;IZ[J)I -/
theorem c_v271 : b_valid c_K c_r271 := b_chk_ok c_hJ (d := 2) (F := 3000) (R := c_r271) (cuts := c_c271) (b_orc_ok c_hJ (tab := [c_r105]) (List.forall_mem_cons.mpr ⟨c_v105, fun _ h => absurd h List.not_mem_nil⟩) 3000 2) rfl (by decide +kernel)
/-- JuryreelLaw.go(LJuryreel;I[J)I -/
theorem c_v280 : b_valid c_K c_r280 := b_chk_ok c_hJ (d := 2) (F := 3000) (R := c_r280) (cuts := c_c280) (b_orc_ok c_hJ (tab := [c_r114]) (List.forall_mem_cons.mpr ⟨c_v114, fun _ h => absurd h List.not_mem_nil⟩) 3000 2) rfl (by decide +kernel)
/-- JuryreelLaw.pass(LJuryreel;I[J)I -/
theorem c_v284 : b_valid c_K c_r284 := b_chk_ok c_hJ (d := 2) (F := 3000) (R := c_r284) (cuts := c_c284) (b_orc_ok c_hJ (tab := [c_r119]) (List.forall_mem_cons.mpr ⟨c_v119, fun _ h => absurd h List.not_mem_nil⟩) 3000 2) rfl (by decide +kernel)
/-- JuryreelLaw.line(LJuryreel;IZ[J)I -/
theorem c_v297 : b_valid c_K c_r297 := b_chk_ok c_hJ (d := 2) (F := 3000) (R := c_r297) (cuts := c_c297) (b_orc_ok c_hJ (tab := [c_r133]) (List.forall_mem_cons.mpr ⟨c_v133, fun _ h => absurd h List.not_mem_nil⟩) 3000 2) rfl (by decide +kernel)
/-- JuryreelLaw.shownShare(LJuryreel;[D)I -/
theorem c_v298 : b_valid c_K c_r298 := b_chk_ok c_hJ (d := 2) (F := 3000) (R := c_r298) (cuts := c_c298) (b_orc_ok c_hJ (tab := [c_r135]) (List.forall_mem_cons.mpr ⟨c_v135, fun _ h => absurd h List.not_mem_nil⟩) 3000 2) rfl (by decide +kernel)
/-- Juryreel$Count.byDuels(LJuryreel$Section;)I -/
theorem c_v12 : b_valid c_K c_r12 := b_chk_ok c_hJ (d := 3) (F := 3000) (R := c_r12) (cuts := c_c12) (b_orc_ok c_hJ (tab := [c_r8, c_r13, c_r11]) (List.forall_mem_cons.mpr ⟨c_v8, List.forall_mem_cons.mpr ⟨c_v13, List.forall_mem_cons.mpr ⟨c_v11, fun _ h => absurd h List.not_mem_nil⟩⟩⟩) 3000 3) rfl (by decide +kernel)
/-- Juryreel$Count.byRounds(LJuryreel$Section;)I -/
theorem c_v15 : b_valid c_K c_r15 := b_chk_ok c_hJ (d := 3) (F := 3000) (R := c_r15) (cuts := c_c15) (b_orc_ok c_hJ (tab := [c_r7, c_r11, c_r9, c_r16]) (List.forall_mem_cons.mpr ⟨c_v7, List.forall_mem_cons.mpr ⟨c_v11, List.forall_mem_cons.mpr ⟨c_v9, List.forall_mem_cons.mpr ⟨c_v16, fun _ h => absurd h List.not_mem_nil⟩⟩⟩⟩) 3000 3) rfl (by decide +kernel)
