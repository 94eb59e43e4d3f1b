/-! The methods' checks, by program (wip/absint.py) -/
/-- JuryreelModel.film(CII)I -/
theorem c_v168 : b_valid c_K c_r168 := b_chk_ok c_hJ (d := 1) (F := 3000) (R := c_r168) (cuts := c_c168) (b_orc_ok c_hJ (tab := []) (fun _ h => absurd h List.not_mem_nil) 3000 1) rfl (by decide +kernel)
/-- JuryreelModel.reader(I)I -/
theorem c_v169 : b_valid c_K c_r169 := b_chk_ok c_hJ (d := 1) (F := 3000) (R := c_r169) (cuts := c_c169) (b_orc_ok c_hJ (tab := []) (fun _ h => absurd h List.not_mem_nil) 3000 1) rfl (by decide +kernel)
