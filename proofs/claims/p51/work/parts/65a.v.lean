/-! The methods' checks, by program (wip/absint.py) -/
/-- Juryreel$Count.dropWithdrawn([LJuryreel$Film;)V -/
theorem c_v4 : b_valid c_K c_r4 := b_chk_ok c_hJ (d := 0) (F := 3000) (R := c_r4) (cuts := c_c4) (b_orc_ok c_hJ (tab := []) (fun _ h => absurd h List.not_mem_nil) 3000 0) rfl (by decide +kernel)
/-- Juryreel$Count.tallied()I -/
theorem c_v19 : b_valid c_K c_r19 := b_chk_ok c_hJ (d := 0) (F := 3000) (R := c_r19) (cuts := c_c19) (b_orc_ok c_hJ (tab := []) (fun _ h => absurd h List.not_mem_nil) 3000 0) rfl (by decide +kernel)
/-- Juryreel$Readings.countDealt(I)I -/
theorem c_v38 : b_valid c_K c_r38 := b_chk_ok c_hJ (d := 0) (F := 3000) (R := c_r38) (cuts := c_c38) (b_orc_ok c_hJ (tab := []) (fun _ h => absurd h List.not_mem_nil) 3000 0) rfl (by decide +kernel)
/-- Juryreel$Readings.countTold(I)I -/
theorem c_v40 : b_valid c_K c_r40 := b_chk_ok c_hJ (d := 0) (F := 3000) (R := c_r40) (cuts := c_c40) (b_orc_ok c_hJ (tab := []) (fun _ h => absurd h List.not_mem_nil) 3000 0) rfl (by decide +kernel)
/-- Juryreel.putInOrder(III)V -/
theorem c_v76 : b_valid c_K c_r76 := b_chk_ok c_hJ (d := 0) (F := 3000) (R := c_r76) (cuts := c_c76) (b_orc_ok c_hJ (tab := []) (fun _ h => absurd h List.not_mem_nil) 3000 0) rfl (by decide +kernel)
/-- Juryreel.filmsIn(I)I -/
theorem c_v79 : b_valid c_K c_r79 := b_chk_ok c_hJ (d := 0) (F := 3000) (R := c_r79) (cuts := c_c79) (b_orc_ok c_hJ (tab := []) (fun _ h => absurd h List.not_mem_nil) 3000 0) rfl (by decide +kernel)
/-- Juryreel.minutesIn(I)I -/
theorem c_v80 : b_valid c_K c_r80 := b_chk_ok c_hJ (d := 0) (F := 3000) (R := c_r80) (cuts := c_c80) (b_orc_ok c_hJ (tab := []) (fun _ h => absurd h List.not_mem_nil) 3000 0) rfl (by decide +kernel)
/-- Juryreel$Count.isRanked(LJuryreel$Section;I)Z -/
theorem c_v7 : b_valid c_K c_r7 := b_chk_ok c_hJ (d := 1) (F := 3000) (R := c_r7) (cuts := c_c7) (b_orc_ok c_hJ (tab := []) (fun _ h => absurd h List.not_mem_nil) 3000 1) rfl (by decide +kernel)
/-- Juryreel$Count.tallyBallots(LJuryreel$Section;Z)I -/
theorem c_v17 : b_valid c_K c_r17 := b_chk_ok c_hJ (d := 1) (F := 3000) (R := c_r17) (cuts := c_c17) (b_orc_ok c_hJ (tab := []) (fun _ h => absurd h List.not_mem_nil) 3000 1) rfl (by decide +kernel)
/-- Juryreel$Grid.keepsApart()Z -/
theorem c_v28 : b_valid c_K c_r28 := b_chk_ok c_hJ (d := 1) (F := 3000) (R := c_r28) (cuts := c_c28) (b_orc_ok c_hJ (tab := []) (fun _ h => absurd h List.not_mem_nil) 3000 1) rfl (by decide +kernel)
/-- Juryreel$Readings.countFree(II)I -/
theorem c_v36 : b_valid c_K c_r36 := b_chk_ok c_hJ (d := 1) (F := 3000) (R := c_r36) (cuts := c_c36) (b_orc_ok c_hJ (tab := []) (fun _ h => absurd h List.not_mem_nil) 3000 1) rfl (by decide +kernel)
/-- Juryreel$Readings.dealOnce(II)V -/
theorem c_v37 : b_valid c_K c_r37 := b_chk_ok c_hJ (d := 1) (F := 3000) (R := c_r37) (cuts := c_c37) (b_orc_ok c_hJ (tab := []) (fun _ h => absurd h List.not_mem_nil) 3000 1) rfl (by decide +kernel)
/-- Juryreel$Readings.meanOfEven(I)I -/
theorem c_v42 : b_valid c_K c_r42 := b_chk_ok c_hJ (d := 1) (F := 3000) (R := c_r42) (cuts := c_c42) (b_orc_ok c_hJ (tab := []) (fun _ h => absurd h List.not_mem_nil) 3000 1) rfl (by decide +kernel)
/-- Juryreel$Readings.spread(I)I -/
theorem c_v43 : b_valid c_K c_r43 := b_chk_ok c_hJ (d := 1) (F := 3000) (R := c_r43) (cuts := c_c43) (b_orc_ok c_hJ (tab := []) (fun _ h => absurd h List.not_mem_nil) 3000 1) rfl (by decide +kernel)
/-- Juryreel$Rights.keepApart()Z -/
theorem c_v46 : b_valid c_K c_r46 := b_chk_ok c_hJ (d := 1) (F := 3000) (R := c_r46) (cuts := c_c46) (b_orc_ok c_hJ (tab := []) (fun _ h => absurd h List.not_mem_nil) 3000 1) rfl (by decide +kernel)
/-- Juryreel.film(CII)I -/
theorem c_v54 : b_valid c_K c_r54 := b_chk_ok c_hJ (d := 1) (F := 3000) (R := c_r54) (cuts := c_c54) (b_orc_ok c_hJ (tab := []) (fun _ h => absurd h List.not_mem_nil) 3000 1) rfl (by decide +kernel)
/-- Juryreel.reader(I)I -/
theorem c_v55 : b_valid c_K c_r55 := b_chk_ok c_hJ (d := 1) (F := 3000) (R := c_r55) (cuts := c_c55) (b_orc_ok c_hJ (tab := []) (fun _ h => absurd h List.not_mem_nil) 3000 1) rfl (by decide +kernel)
