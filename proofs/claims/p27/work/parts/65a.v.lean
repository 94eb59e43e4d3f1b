/-! The methods' checks, by program (wip/absint.py) -/
/-- Juryreel$Count.dropWithdrawn([LJuryreel$Film;)V -/
theorem c_v5 : b_valid c_K c_r5 := b_chk_ok (d := 0) (F := 3000) (R := c_r5) (cuts := c_c5) (b_orc_ok (tab := []) (fun _ h => absurd h List.not_mem_nil) 3000 0) rfl (by decide +kernel)
/-- Juryreel$Count.placeOn(LJuryreel$Juror;I)I -/
theorem c_v6 : b_valid c_K c_r6 := b_chk_ok (d := 0) (F := 3000) (R := c_r6) (cuts := c_c6) (b_orc_ok (tab := []) (fun _ h => absurd h List.not_mem_nil) 3000 0) rfl (by decide +kernel)
/-- Juryreel$Count.firstOn(LJuryreel$Juror;)I -/
theorem c_v7 : b_valid c_K c_r7 := b_chk_ok (d := 0) (F := 3000) (R := c_r7) (cuts := c_c7) (b_orc_ok (tab := []) (fun _ h => absurd h List.not_mem_nil) 3000 0) rfl (by decide +kernel)
/-- Juryreel$Count.tallyBallot(LJuryreel$Juror;Z)Z -/
theorem c_v19 : b_valid c_K c_r19 := b_chk_ok (d := 0) (F := 3000) (R := c_r19) (cuts := c_c19) (b_orc_ok (tab := []) (fun _ h => absurd h List.not_mem_nil) 3000 0) rfl (by decide +kernel)
/-- Juryreel$Count.tallied()I -/
theorem c_v20 : b_valid c_K c_r20 := b_chk_ok (d := 0) (F := 3000) (R := c_r20) (cuts := c_c20) (b_orc_ok (tab := []) (fun _ h => absurd h List.not_mem_nil) 3000 0) rfl (by decide +kernel)
/-- Juryreel$Count.recountDuels()I -/
theorem c_v21 : b_valid c_K c_r21 := b_chk_ok (d := 0) (F := 3000) (R := c_r21) (cuts := c_c21) (b_orc_ok (tab := []) (fun _ h => absurd h List.not_mem_nil) 3000 0) rfl (by decide +kernel)
/-- Juryreel$Juror.vote([II)V -/
theorem c_v54 : b_valid c_K c_r54 := b_chk_ok (d := 0) (F := 3000) (R := c_r54) (cuts := c_c54) (b_orc_ok (tab := []) (fun _ h => absurd h List.not_mem_nil) 3000 0) rfl (by decide +kernel)
/-- Juryreel$Readings.countDealt(I)I -/
theorem c_v63 : b_valid c_K c_r63 := b_chk_ok (d := 0) (F := 3000) (R := c_r63) (cuts := c_c63) (b_orc_ok (tab := []) (fun _ h => absurd h List.not_mem_nil) 3000 0) rfl (by decide +kernel)
/-- Juryreel$Readings.countTold(I)I -/
theorem c_v65 : b_valid c_K c_r65 := b_chk_ok (d := 0) (F := 3000) (R := c_r65) (cuts := c_c65) (b_orc_ok (tab := []) (fun _ h => absurd h List.not_mem_nil) 3000 0) rfl (by decide +kernel)
/-- Juryreel$Section.countBallots()I -/
theorem c_v78 : b_valid c_K c_r78 := b_chk_ok (d := 0) (F := 3000) (R := c_r78) (cuts := c_c78) (b_orc_ok (tab := []) (fun _ h => absurd h List.not_mem_nil) 3000 0) rfl (by decide +kernel)
