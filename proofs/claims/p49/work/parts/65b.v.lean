/-! The methods' checks, by program (wip/absint.py) -/
/-- Juryreel$Grid.isFree(III)Z -/
theorem c_v35 : b_valid c_K c_r35 := b_chk_ok c_hJ (d := 1) (F := 3000) (R := c_r35) (cuts := c_c35) (b_orc_ok c_hJ (tab := []) (fun _ h => absurd h List.not_mem_nil) 3000 1) rfl (by decide +kernel)
/-- Juryreel$Grid.showOn(II)I -/
theorem c_v38 : b_valid c_K c_r38 := b_chk_ok c_hJ (d := 1) (F := 3000) (R := c_r38) (cuts := c_c38) (b_orc_ok c_hJ (tab := []) (fun _ h => absurd h List.not_mem_nil) 3000 1) rfl (by decide +kernel)
/-- Juryreel$Grid.hasToCome(I)Z -/
theorem c_v39 : b_valid c_K c_r39 := b_chk_ok c_hJ (d := 1) (F := 3000) (R := c_r39) (cuts := c_c39) (b_orc_ok c_hJ (tab := []) (fun _ h => absurd h List.not_mem_nil) 3000 1) rfl (by decide +kernel)
/-- Juryreel$Grid.findOnDay(I)I -/
theorem c_v41 : b_valid c_K c_r41 := b_chk_ok c_hJ (d := 1) (F := 3000) (R := c_r41) (cuts := c_c41) (b_orc_ok c_hJ (tab := []) (fun _ h => absurd h List.not_mem_nil) 3000 1) rfl (by decide +kernel)
/-- Juryreel$Grid.findOfFilm(I)I -/
theorem c_v43 : b_valid c_K c_r43 := b_chk_ok c_hJ (d := 1) (F := 3000) (R := c_r43) (cuts := c_c43) (b_orc_ok c_hJ (tab := []) (fun _ h => absurd h List.not_mem_nil) 3000 1) rfl (by decide +kernel)
/-- Juryreel$Grid.takeFound(C)V -/
theorem c_v45 : b_valid c_K c_r45 := b_chk_ok c_hJ (d := 1) (F := 3000) (R := c_r45) (cuts := c_c45) (b_orc_ok c_hJ (tab := []) (fun _ h => absurd h List.not_mem_nil) 3000 1) rfl (by decide +kernel)
/-- Juryreel$Grid.isSeatedElsewhere(ILJuryreel$Show;)Z -/
theorem c_v47 : b_valid c_K c_r47 := b_chk_ok c_hJ (d := 1) (F := 3000) (R := c_r47) (cuts := c_c47) (b_orc_ok c_hJ (tab := []) (fun _ h => absurd h List.not_mem_nil) 3000 1) rfl (by decide +kernel)
/-- Juryreel$Grid.keepsApart()Z -/
theorem c_v48 : b_valid c_K c_r48 := b_chk_ok c_hJ (d := 1) (F := 3000) (R := c_r48) (cuts := c_c48) (b_orc_ok c_hJ (tab := []) (fun _ h => absurd h List.not_mem_nil) 3000 1) rfl (by decide +kernel)
/-- Juryreel$Readings.countFree(II)I -/
theorem c_v61 : b_valid c_K c_r61 := b_chk_ok c_hJ (d := 1) (F := 3000) (R := c_r61) (cuts := c_c61) (b_orc_ok c_hJ (tab := []) (fun _ h => absurd h List.not_mem_nil) 3000 1) rfl (by decide +kernel)
/-- Juryreel$Readings.dealOnce(II)V -/
theorem c_v62 : b_valid c_K c_r62 := b_chk_ok c_hJ (d := 1) (F := 3000) (R := c_r62) (cuts := c_c62) (b_orc_ok c_hJ (tab := []) (fun _ h => absurd h List.not_mem_nil) 3000 1) rfl (by decide +kernel)
/-- Juryreel$Readings.meanOfEven(I)I -/
theorem c_v67 : b_valid c_K c_r67 := b_chk_ok c_hJ (d := 1) (F := 3000) (R := c_r67) (cuts := c_c67) (b_orc_ok c_hJ (tab := []) (fun _ h => absurd h List.not_mem_nil) 3000 1) rfl (by decide +kernel)
/-- Juryreel$Readings.spread(I)I -/
theorem c_v68 : b_valid c_K c_r68 := b_chk_ok c_hJ (d := 1) (F := 3000) (R := c_r68) (cuts := c_c68) (b_orc_ok c_hJ (tab := []) (fun _ h => absurd h List.not_mem_nil) 3000 1) rfl (by decide +kernel)
/-- Juryreel$Rights.isSoldWithin(IIII)Z -/
theorem c_v72 : b_valid c_K c_r72 := b_chk_ok c_hJ (d := 1) (F := 3000) (R := c_r72) (cuts := c_c72) (b_orc_ok c_hJ (tab := []) (fun _ h => absurd h List.not_mem_nil) 3000 1) rfl (by decide +kernel)
/-- Juryreel$Rights.buyerIn(III)I -/
theorem c_v73 : b_valid c_K c_r73 := b_chk_ok c_hJ (d := 1) (F := 3000) (R := c_r73) (cuts := c_c73) (b_orc_ok c_hJ (tab := []) (fun _ h => absurd h List.not_mem_nil) 3000 1) rfl (by decide +kernel)
/-- Juryreel$Rights.keepApart()Z -/
theorem c_v74 : b_valid c_K c_r74 := b_chk_ok c_hJ (d := 1) (F := 3000) (R := c_r74) (cuts := c_c74) (b_orc_ok c_hJ (tab := []) (fun _ h => absurd h List.not_mem_nil) 3000 1) rfl (by decide +kernel)
