/-! The methods' checks, by program (wip/absint.py) -/
/-- Juryreel.award(I)I -/
theorem c_v130 : b_valid c_K c_r130 := b_chk_ok c_hJ (d := 5) (F := 3000) (R := c_r130) (cuts := c_c130) (b_orc_ok c_hJ (tab := [c_r5, c_r11, c_r12, c_r15]) (List.forall_mem_cons.mpr ⟨c_v5, List.forall_mem_cons.mpr ⟨c_v11, List.forall_mem_cons.mpr ⟨c_v12, List.forall_mem_cons.mpr ⟨c_v15, fun _ h => absurd h List.not_mem_nil⟩⟩⟩⟩) 3000 5) rfl (by decide +kernel)
/-- Juryreel.areWinnersRight()Z -/
theorem c_v161 : b_valid c_K c_r161 := b_chk_ok c_hJ (d := 5) (F := 3000) (R := c_r161) (cuts := c_c161) (b_orc_ok c_hJ (tab := [c_r5, c_r11, c_r12, c_r15, c_r22, c_r18, c_r21, c_r20]) (List.forall_mem_cons.mpr ⟨c_v5, List.forall_mem_cons.mpr ⟨c_v11, List.forall_mem_cons.mpr ⟨c_v12, List.forall_mem_cons.mpr ⟨c_v15, List.forall_mem_cons.mpr ⟨c_v22, List.forall_mem_cons.mpr ⟨c_v18, List.forall_mem_cons.mpr ⟨c_v21, List.forall_mem_cons.mpr ⟨c_v20, fun _ h => absurd h List.not_mem_nil⟩⟩⟩⟩⟩⟩⟩⟩) 3000 5) rfl (by decide +kernel)
/-- JuryreelLaw.show(LJuryreel;III[J)I -/
theorem c_v275 : b_valid c_K c_r275 := b_chk_ok c_hJ (d := 5) (F := 3000) (R := c_r275) (cuts := c_c275) (b_orc_ok c_hJ (tab := [c_r109]) (List.forall_mem_cons.mpr ⟨c_v109, fun _ h => absurd h List.not_mem_nil⟩) 3000 5) rfl (by decide +kernel)
/-- Juryreel.storm(I)I -/
theorem c_v116 : b_valid c_K c_r116 := b_chk_ok c_hJ (d := 6) (F := 3000) (R := c_r116) (cuts := c_c116) (b_orc_ok c_hJ (tab := [c_r41, c_r45, c_r46]) (List.forall_mem_cons.mpr ⟨c_v41, List.forall_mem_cons.mpr ⟨c_v45, List.forall_mem_cons.mpr ⟨c_v46, fun _ h => absurd h List.not_mem_nil⟩⟩⟩) 3000 6) rfl (by decide +kernel)
/-- Juryreel.late(II)I -/
theorem c_v117 : b_valid c_K c_r117 := b_chk_ok c_hJ (d := 6) (F := 3000) (R := c_r117) (cuts := c_c117) (b_orc_ok c_hJ (tab := [c_r42, c_r45, c_r46]) (List.forall_mem_cons.mpr ⟨c_v42, List.forall_mem_cons.mpr ⟨c_v45, List.forall_mem_cons.mpr ⟨c_v46, fun _ h => absurd h List.not_mem_nil⟩⟩⟩) 3000 6) rfl (by decide +kernel)
/-- Juryreel.isSound()Z -/
theorem c_v137 : b_valid c_K c_r137 := b_chk_ok c_hJ (d := 6) (F := 3000) (R := c_r137) (cuts := c_c137) (b_orc_ok c_hJ (tab := [c_r48, c_r50, c_r160, c_r161, c_r74]) (List.forall_mem_cons.mpr ⟨c_v48, List.forall_mem_cons.mpr ⟨c_v50, List.forall_mem_cons.mpr ⟨c_v160, List.forall_mem_cons.mpr ⟨c_v161, List.forall_mem_cons.mpr ⟨c_v74, fun _ h => absurd h List.not_mem_nil⟩⟩⟩⟩⟩) 3000 6) rfl (by decide +kernel)
/-- JuryreelLaw.plan(LJuryreel;I[J)I -/
theorem c_v276 : b_valid c_K c_r276 := b_chk_ok c_hJ (d := 6) (F := 3000) (R := c_r276) (cuts := c_c276) (b_orc_ok c_hJ (tab := [c_r110]) (List.forall_mem_cons.mpr ⟨c_v110, fun _ h => absurd h List.not_mem_nil⟩) 3000 6) rfl (by decide +kernel)
/-- JuryreelLaw.winner(LJuryreel;I[J)I -/
theorem c_v293 : b_valid c_K c_r293 := b_chk_ok c_hJ (d := 6) (F := 3000) (R := c_r293) (cuts := c_c293) (b_orc_ok c_hJ (tab := [c_r129]) (List.forall_mem_cons.mpr ⟨c_v129, fun _ h => absurd h List.not_mem_nil⟩) 3000 6) rfl (by decide +kernel)
/-- JuryreelLaw.award(LJuryreel;I[J)I -/
theorem c_v294 : b_valid c_K c_r294 := b_chk_ok c_hJ (d := 6) (F := 3000) (R := c_r294) (cuts := c_c294) (b_orc_ok c_hJ (tab := [c_r130]) (List.forall_mem_cons.mpr ⟨c_v130, fun _ h => absurd h List.not_mem_nil⟩) 3000 6) rfl (by decide +kernel)
/-- JuryreelLaw.storm(LJuryreel;I[J)I -/
theorem c_v281 : b_valid c_K c_r281 := b_chk_ok c_hJ (d := 7) (F := 3000) (R := c_r281) (cuts := c_c281) (b_orc_ok c_hJ (tab := [c_r116]) (List.forall_mem_cons.mpr ⟨c_v116, fun _ h => absurd h List.not_mem_nil⟩) 3000 7) rfl (by decide +kernel)
/-- JuryreelLaw.late(LJuryreel;II[J)I -/
theorem c_v282 : b_valid c_K c_r282 := b_chk_ok c_hJ (d := 7) (F := 3000) (R := c_r282) (cuts := c_c282) (b_orc_ok c_hJ (tab := [c_r117]) (List.forall_mem_cons.mpr ⟨c_v117, fun _ h => absurd h List.not_mem_nil⟩) 3000 7) rfl (by decide +kernel)
