/-! The methods' checks, by program (wip/absint.py) -/
/-- Juryreel$Count.dropWithdrawn([LJuryreel$Film;)V -/
theorem c_v5 : b_valid c_K c_r5 := b_chk_ok c_hJ (d := 0) (F := 3000) (R := c_r5) (cuts := c_c5) (b_orc_ok c_hJ (tab := []) (fun _ h => absurd h List.not_mem_nil) 3000 0) rfl (by decide +kernel)
/-- Juryreel$Count.placeOn(LJuryreel$Juror;I)I -/
theorem c_v6 : b_valid c_K c_r6 := b_chk_ok c_hJ (d := 0) (F := 3000) (R := c_r6) (cuts := c_c6) (b_orc_ok c_hJ (tab := []) (fun _ h => absurd h List.not_mem_nil) 3000 0) rfl (by decide +kernel)
/-- Juryreel$Count.firstOn(LJuryreel$Juror;)I -/
theorem c_v7 : b_valid c_K c_r7 := b_chk_ok c_hJ (d := 0) (F := 3000) (R := c_r7) (cuts := c_c7) (b_orc_ok c_hJ (tab := []) (fun _ h => absurd h List.not_mem_nil) 3000 0) rfl (by decide +kernel)
/-- Juryreel$Count.tallyBallot(LJuryreel$Juror;Z)Z -/
theorem c_v19 : b_valid c_K c_r19 := b_chk_ok c_hJ (d := 0) (F := 3000) (R := c_r19) (cuts := c_c19) (b_orc_ok c_hJ (tab := []) (fun _ h => absurd h List.not_mem_nil) 3000 0) rfl (by decide +kernel)
/-- Juryreel$Count.tallied()I -/
theorem c_v20 : b_valid c_K c_r20 := b_chk_ok c_hJ (d := 0) (F := 3000) (R := c_r20) (cuts := c_c20) (b_orc_ok c_hJ (tab := []) (fun _ h => absurd h List.not_mem_nil) 3000 0) rfl (by decide +kernel)
/-- Juryreel$Count.recountDuels()I -/
theorem c_v21 : b_valid c_K c_r21 := b_chk_ok c_hJ (d := 0) (F := 3000) (R := c_r21) (cuts := c_c21) (b_orc_ok c_hJ (tab := []) (fun _ h => absurd h List.not_mem_nil) 3000 0) rfl (by decide +kernel)
/-- Juryreel$Grid.hasStanding(I)Z -/
theorem c_v40 : b_valid c_K c_r40 := b_chk_ok c_hJ (d := 0) (F := 3000) (R := c_r40) (cuts := c_c40) (b_orc_ok c_hJ (tab := []) (fun _ h => absurd h List.not_mem_nil) 3000 0) rfl (by decide +kernel)
/-- Juryreel$Juror.vote([II)V -/
theorem c_v54 : b_valid c_K c_r54 := b_chk_ok c_hJ (d := 0) (F := 3000) (R := c_r54) (cuts := c_c54) (b_orc_ok c_hJ (tab := []) (fun _ h => absurd h List.not_mem_nil) 3000 0) rfl (by decide +kernel)
/-- Juryreel$Readings.countDealt(I)I -/
theorem c_v63 : b_valid c_K c_r63 := b_chk_ok c_hJ (d := 0) (F := 3000) (R := c_r63) (cuts := c_c63) (b_orc_ok c_hJ (tab := []) (fun _ h => absurd h List.not_mem_nil) 3000 0) rfl (by decide +kernel)
/-- Juryreel$Readings.countTold(I)I -/
theorem c_v65 : b_valid c_K c_r65 := b_chk_ok c_hJ (d := 0) (F := 3000) (R := c_r65) (cuts := c_c65) (b_orc_ok c_hJ (tab := []) (fun _ h => absurd h List.not_mem_nil) 3000 0) rfl (by decide +kernel)
/-- Juryreel$Section.countBallots()I -/
theorem c_v78 : b_valid c_K c_r78 := b_chk_ok c_hJ (d := 0) (F := 3000) (R := c_r78) (cuts := c_c78) (b_orc_ok c_hJ (tab := []) (fun _ h => absurd h List.not_mem_nil) 3000 0) rfl (by decide +kernel)
/-- Juryreel$Show.isAwaitedBy(I)Z -/
theorem c_v82 : b_valid c_K c_r82 := b_chk_ok c_hJ (d := 0) (F := 3000) (R := c_r82) (cuts := c_c82) (b_orc_ok c_hJ (tab := []) (fun _ h => absurd h List.not_mem_nil) 3000 0) rfl (by decide +kernel)
/-- Juryreel$Show.countSeats()I -/
theorem c_v84 : b_valid c_K c_r84 := b_chk_ok c_hJ (d := 0) (F := 3000) (R := c_r84) (cuts := c_c84) (b_orc_ok c_hJ (tab := []) (fun _ h => absurd h List.not_mem_nil) 3000 0) rfl (by decide +kernel)
/-- Juryreel$Venue.isOpenedByKey(III)Z -/
theorem c_v88 : b_valid c_K c_r88 := b_chk_ok c_hJ (d := 0) (F := 3000) (R := c_r88) (cuts := c_c88) (b_orc_ok c_hJ (tab := []) (fun _ h => absurd h List.not_mem_nil) 3000 0) rfl (by decide +kernel)
/-- Juryreel.now()I -/
theorem c_v115 : b_valid c_K c_r115 := b_chk_ok c_hJ (d := 0) (F := 3000) (R := c_r115) (cuts := c_c115) (b_orc_ok c_hJ (tab := []) (fun _ h => absurd h List.not_mem_nil) 3000 0) rfl (by decide +kernel)
/-- Juryreel.wipe()I -/
theorem c_v127 : b_valid c_K c_r127 := b_chk_ok c_hJ (d := 0) (F := 3000) (R := c_r127) (cuts := c_c127) (b_orc_ok c_hJ (tab := []) (fun _ h => absurd h List.not_mem_nil) 3000 0) rfl (by decide +kernel)
/-- Juryreel.putInOrder(III)V -/
theorem c_v151 : b_valid c_K c_r151 := b_chk_ok c_hJ (d := 0) (F := 3000) (R := c_r151) (cuts := c_c151) (b_orc_ok c_hJ (tab := []) (fun _ h => absurd h List.not_mem_nil) 3000 0) rfl (by decide +kernel)
/-- Juryreel.filmsIn(I)I -/
theorem c_v155 : b_valid c_K c_r155 := b_chk_ok c_hJ (d := 0) (F := 3000) (R := c_r155) (cuts := c_c155) (b_orc_ok c_hJ (tab := []) (fun _ h => absurd h List.not_mem_nil) 3000 0) rfl (by decide +kernel)
/-- Juryreel.minutesIn(I)I -/
theorem c_v156 : b_valid c_K c_r156 := b_chk_ok c_hJ (d := 0) (F := 3000) (R := c_r156) (cuts := c_c156) (b_orc_ok c_hJ (tab := []) (fun _ h => absurd h List.not_mem_nil) 3000 0) rfl (by decide +kernel)
/-- Juryreel.countSeen(ILJuryreel$Juror;)I -/
theorem c_v157 : b_valid c_K c_r157 := b_chk_ok c_hJ (d := 0) (F := 3000) (R := c_r157) (cuts := c_c157) (b_orc_ok c_hJ (tab := []) (fun _ h => absurd h List.not_mem_nil) 3000 0) rfl (by decide +kernel)
/-- Juryreel.isTyped(I)Z -/
theorem c_v158 : b_valid c_K c_r158 := b_chk_ok c_hJ (d := 0) (F := 3000) (R := c_r158) (cuts := c_c158) (b_orc_ok c_hJ (tab := []) (fun _ h => absurd h List.not_mem_nil) 3000 0) rfl (by decide +kernel)
/-- JuryreelModel.scoreMany(I)I -/
theorem c_v174a : b_valid c_K c_r174a := b_chk_ok c_hJ (d := 0) (F := 3000) (R := c_r174a) (cuts := c_c174a) (b_orc_ok c_hJ (tab := []) (fun _ h => absurd h List.not_mem_nil) 3000 0) rfl (by decide +kernel)
/-- JuryreelModel.scoreMany(I)I -/
theorem c_v174 : b_valid c_K c_r174 := b_chk_ok c_hJ (d := 0) (F := 3000) (R := c_r174) (cuts := c_c174) (b_orc_ok c_hJ (tab := []) (fun _ h => absurd h List.not_mem_nil) 3000 0) rfl (by decide +kernel)
/-- JuryreelModel.evenOf(II)I -/
theorem c_v176 : b_valid c_K c_r176 := b_chk_ok c_hJ (d := 0) (F := 3000) (R := c_r176) (cuts := c_c176) (b_orc_ok c_hJ (tab := []) (fun _ h => absurd h List.not_mem_nil) 3000 0) rfl (by decide +kernel)
/-- JuryreelModel.minutesOf(I)I -/
theorem c_v187 : b_valid c_K c_r187 := b_chk_ok c_hJ (d := 0) (F := 3000) (R := c_r187) (cuts := c_c187) (b_orc_ok c_hJ (tab := []) (fun _ h => absurd h List.not_mem_nil) 3000 0) rfl (by decide +kernel)
/-- JuryreelModel.now()I -/
theorem c_v217 : b_valid c_K c_r217 := b_chk_ok c_hJ (d := 0) (F := 3000) (R := c_r217) (cuts := c_c217) (b_orc_ok c_hJ (tab := []) (fun _ h => absurd h List.not_mem_nil) 3000 0) rfl (by decide +kernel)
/-- JuryreelModel.wipe()I -/
theorem c_v235 : b_valid c_K c_r235 := b_chk_ok c_hJ (d := 0) (F := 3000) (R := c_r235) (cuts := c_c235) (b_orc_ok c_hJ (tab := []) (fun _ h => absurd h List.not_mem_nil) 3000 0) rfl (by decide +kernel)
/-- JuryreelModel.ballotsOf(I)I -/
theorem c_v236 : b_valid c_K c_r236 := b_chk_ok c_hJ (d := 0) (F := 3000) (R := c_r236) (cuts := c_c236) (b_orc_ok c_hJ (tab := []) (fun _ h => absurd h List.not_mem_nil) 3000 0) rfl (by decide +kernel)
/-- JuryreelModel.firstOf(II)I -/
theorem c_v238 : b_valid c_K c_r238 := b_chk_ok c_hJ (d := 0) (F := 3000) (R := c_r238) (cuts := c_c238) (b_orc_ok c_hJ (tab := []) (fun _ h => absurd h List.not_mem_nil) 3000 0) rfl (by decide +kernel)
/-- JuryreelModel.placeOf(III)I -/
theorem c_v240 : b_valid c_K c_r240 := b_chk_ok c_hJ (d := 0) (F := 3000) (R := c_r240) (cuts := c_c240) (b_orc_ok c_hJ (tab := []) (fun _ h => absurd h List.not_mem_nil) 3000 0) rfl (by decide +kernel)
/-- JuryreelModel.isSound()Z -/
theorem c_v255 : b_valid c_K c_r255 := b_chk_ok c_hJ (d := 0) (F := 3000) (R := c_r255) (cuts := c_c255) (b_orc_ok c_hJ (tab := []) (fun _ h => absurd h List.not_mem_nil) 3000 0) rfl (by decide +kernel)
/-- Juryreel$Count.isRanked(LJuryreel$Section;I)Z -/
theorem c_v8 : b_valid c_K c_r8 := b_chk_ok c_hJ (d := 1) (F := 3000) (R := c_r8) (cuts := c_c8) (b_orc_ok c_hJ (tab := [c_r6]) (List.forall_mem_cons.mpr ⟨c_v6, fun _ h => absurd h List.not_mem_nil⟩) 3000 1) rfl (by decide +kernel)
/-- Juryreel$Count.firstsOf(LJuryreel$Section;I)I -/
theorem c_v9 : b_valid c_K c_r9 := b_chk_ok c_hJ (d := 1) (F := 3000) (R := c_r9) (cuts := c_c9) (b_orc_ok c_hJ (tab := [c_r7]) (List.forall_mem_cons.mpr ⟨c_v7, fun _ h => absurd h List.not_mem_nil⟩) 3000 1) rfl (by decide +kernel)
/-- Juryreel$Count.pointsOf(LJuryreel$Section;I)I -/
theorem c_v10 : b_valid c_K c_r10 := b_chk_ok c_hJ (d := 1) (F := 3000) (R := c_r10) (cuts := c_c10) (b_orc_ok c_hJ (tab := [c_r6]) (List.forall_mem_cons.mpr ⟨c_v6, fun _ h => absurd h List.not_mem_nil⟩) 3000 1) rfl (by decide +kernel)
/-- Juryreel$Count.leadOf(LJuryreel$Section;II)I -/
theorem c_v14 : b_valid c_K c_r14 := b_chk_ok c_hJ (d := 1) (F := 3000) (R := c_r14) (cuts := c_c14) (b_orc_ok c_hJ (tab := [c_r6]) (List.forall_mem_cons.mpr ⟨c_v6, fun _ h => absurd h List.not_mem_nil⟩) 3000 1) rfl (by decide +kernel)
/-- Juryreel$Count.tallyBallots(LJuryreel$Section;Z)I -/
theorem c_v18 : b_valid c_K c_r18 := b_chk_ok c_hJ (d := 1) (F := 3000) (R := c_r18) (cuts := c_c18) (b_orc_ok c_hJ (tab := [c_r19]) (List.forall_mem_cons.mpr ⟨c_v19, fun _ h => absurd h List.not_mem_nil⟩) 3000 1) rfl (by decide +kernel)
