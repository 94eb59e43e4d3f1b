/-! The methods' checks, by program (wip/absint.py) -/
/-- JuryreelLaw.late(LJuryreel;II[J)I -/
theorem c_v282 : b_valid c_K c_r282 := b_chk_ok c_hJ (d := 7) (F := 3000) (R := c_r282) (cuts := c_c282) (b_orc_ok c_hJ (tab := [c_r117]) (List.forall_mem_cons.mpr ⟨c_v117, fun _ h => absurd h List.not_mem_nil⟩) 3000 7) rfl (by decide +kernel)
