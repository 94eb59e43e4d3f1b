/-! The methods' checks, by program (wip/absint.py) -/
/-- JuryreelModel.withdraw(I)I -/
theorem c_v223 : b_valid c_K c_r223 := b_chk_ok c_hJ (d := 3) (F := 3000) (R := c_r223) (cuts := c_c223) (b_orc_ok c_hJ (tab := []) (fun _ h => absurd h List.not_mem_nil) 3000 3) rfl (by decide +kernel)
/-- JuryreelModel.isElsewhere(II)Z -/
theorem c_v227 : b_valid c_K c_r227 := b_chk_ok c_hJ (d := 3) (F := 3000) (R := c_r227) (cuts := c_c227) (b_orc_ok c_hJ (tab := []) (fun _ h => absurd h List.not_mem_nil) 3000 3) rfl (by decide +kernel)
