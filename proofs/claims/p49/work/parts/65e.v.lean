/-! The methods' checks, by program (wip/absint.py) -/
/-- JuryreelModel.section(IIICC)I -/
theorem c_v185 : b_valid c_K c_r185 := b_chk_ok c_hJ (d := 1) (F := 3000) (R := c_r185) (cuts := c_c185) (b_orc_ok c_hJ (tab := []) (fun _ h => absurd h List.not_mem_nil) 3000 1) rfl (by decide +kernel)
