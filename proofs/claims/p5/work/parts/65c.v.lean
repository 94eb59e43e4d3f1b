/-! The methods' checks, by program (wip/absint.py) -/
/-- Juryreel.film(CII)I -/
theorem c_v90 : b_valid c_K c_r90 := b_chk_ok c_hJ (d := 1) (F := 3000) (R := c_r90) (cuts := c_c90) (b_orc_ok c_hJ (tab := []) (fun _ h => absurd h List.not_mem_nil) 3000 1) rfl (by decide +kernel)
/-- Juryreel.reader(I)I -/
theorem c_v91 : b_valid c_K c_r91 := b_chk_ok c_hJ (d := 1) (F := 3000) (R := c_r91) (cuts := c_c91) (b_orc_ok c_hJ (tab := []) (fun _ h => absurd h List.not_mem_nil) 3000 1) rfl (by decide +kernel)
/-- Juryreel.section(IIICC)I -/
theorem c_v99 : b_valid c_K c_r99 := b_chk_ok c_hJ (d := 1) (F := 3000) (R := c_r99) (cuts := c_c99) (b_orc_ok c_hJ (tab := []) (fun _ h => absurd h List.not_mem_nil) 3000 1) rfl (by decide +kernel)
/-- Juryreel.screen(IZ)I -/
theorem c_v105 : b_valid c_K c_r105 := b_chk_ok c_hJ (d := 1) (F := 3000) (R := c_r105) (cuts := c_c105) (b_orc_ok c_hJ (tab := []) (fun _ h => absurd h List.not_mem_nil) 3000 1) rfl (by decide +kernel)
/-- Juryreel.go(I)I -/
theorem c_v114 : b_valid c_K c_r114 := b_chk_ok c_hJ (d := 1) (F := 3000) (R := c_r114) (cuts := c_c114) (b_orc_ok c_hJ (tab := []) (fun _ h => absurd h List.not_mem_nil) 3000 1) rfl (by decide +kernel)
/-- Juryreel.pass(I)I -/
theorem c_v119 : b_valid c_K c_r119 := b_chk_ok c_hJ (d := 1) (F := 3000) (R := c_r119) (cuts := c_c119) (b_orc_ok c_hJ (tab := []) (fun _ h => absurd h List.not_mem_nil) 3000 1) rfl (by decide +kernel)
/-- Juryreel.line(IZ)I -/
theorem c_v133 : b_valid c_K c_r133 := b_chk_ok c_hJ (d := 1) (F := 3000) (R := c_r133) (cuts := c_c133) (b_orc_ok c_hJ (tab := []) (fun _ h => absurd h List.not_mem_nil) 3000 1) rfl (by decide +kernel)
