/-! The methods' checks, by program (wip/absint.py) -/
/-- Juryreel.section(IIICC)I -/
theorem c_v99 : b_valid c_K c_r99 := b_chk_ok (d := 1) (F := 3000) (R := c_r99) (cuts := c_c99) (b_orc_ok (tab := []) (fun _ h => absurd h List.not_mem_nil) 3000 1) rfl (by decide +kernel)
