/-! The methods' checks, by program (wip/absint.py) -/
/-- Juryreel.even(II)I -/
theorem c_v59 : b_valid c_K c_r59 := b_chk_ok c_hJ (d := 3) (F := 3000) (R := c_r59) (cuts := c_c59) (b_orc_ok c_hJ (tab := []) (fun _ h => absurd h List.not_mem_nil) 3000 3) rfl (by decide +kernel)
/-- Juryreel.score(I)I -/
theorem c_v60 : b_valid c_K c_r60 := b_chk_ok c_hJ (d := 3) (F := 3000) (R := c_r60) (cuts := c_c60) (b_orc_ok c_hJ (tab := [c_r40, c_r42]) (List.forall_mem_cons.mpr ⟨c_v40, List.forall_mem_cons.mpr ⟨c_v42, fun _ h => absurd h List.not_mem_nil⟩⟩) 3000 3) rfl (by decide +kernel)
/-- Juryreel.isInQuarrel(I)Z -/
theorem c_v61 : b_valid c_K c_r61 := b_chk_ok c_hJ (d := 3) (F := 3000) (R := c_r61) (cuts := c_c61) (b_orc_ok c_hJ (tab := [c_r43]) (List.forall_mem_cons.mpr ⟨c_v43, fun _ h => absurd h List.not_mem_nil⟩) 3000 3) rfl (by decide +kernel)
/-- Juryreel.rival(IC)C -/
theorem c_v62 : b_valid c_K c_r62 := b_chk_ok c_hJ (d := 3) (F := 3000) (R := c_r62) (cuts := c_c62) (b_orc_ok c_hJ (tab := []) (fun _ h => absurd h List.not_mem_nil) 3000 3) rfl (by decide +kernel)
/-- Juryreel.choose(I)I -/
theorem c_v64 : b_valid c_K c_r64 := b_chk_ok c_hJ (d := 3) (F := 3000) (R := c_r64) (cuts := c_c64) (b_orc_ok c_hJ (tab := [c_r77, c_r43, c_r79, c_r80]) (List.forall_mem_cons.mpr ⟨c_v77, List.forall_mem_cons.mpr ⟨c_v43, List.forall_mem_cons.mpr ⟨c_v79, List.forall_mem_cons.mpr ⟨c_v80, fun _ h => absurd h List.not_mem_nil⟩⟩⟩⟩) 3000 3) rfl (by decide +kernel)
/-- Juryreel.sectionOf(I)I -/
theorem c_v65 : b_valid c_K c_r65 := b_chk_ok c_hJ (d := 3) (F := 3000) (R := c_r65) (cuts := c_c65) (b_orc_ok c_hJ (tab := []) (fun _ h => absurd h List.not_mem_nil) 3000 3) rfl (by decide +kernel)
/-- Juryreel.minutes(I)I -/
theorem c_v66 : b_valid c_K c_r66 := b_chk_ok c_hJ (d := 3) (F := 3000) (R := c_r66) (cuts := c_c66) (b_orc_ok c_hJ (tab := [c_r80]) (List.forall_mem_cons.mpr ⟨c_v80, fun _ h => absurd h List.not_mem_nil⟩) 3000 3) rfl (by decide +kernel)
/-- JuryreelLaw.deal(LJuryreel;II)I -/
theorem c_v86 : b_valid c_K c_r86 := b_chk_ok c_hJ (d := 4) (F := 3000) (R := c_r86) (cuts := c_c86) (b_orc_ok c_hJ (tab := [c_r56]) (List.forall_mem_cons.mpr ⟨c_v56, fun _ h => absurd h List.not_mem_nil⟩) 3000 4) rfl (by decide +kernel)
/-- JuryreelLaw.read(LJuryreel;III)I -/
theorem c_v87 : b_valid c_K c_r87 := b_chk_ok c_hJ (d := 4) (F := 3000) (R := c_r87) (cuts := c_c87) (b_orc_ok c_hJ (tab := [c_r58]) (List.forall_mem_cons.mpr ⟨c_v58, fun _ h => absurd h List.not_mem_nil⟩) 3000 4) rfl (by decide +kernel)
/-- JuryreelLaw.even(LJuryreel;II)I -/
theorem c_v88 : b_valid c_K c_r88 := b_chk_ok c_hJ (d := 4) (F := 3000) (R := c_r88) (cuts := c_c88) (b_orc_ok c_hJ (tab := [c_r59]) (List.forall_mem_cons.mpr ⟨c_v59, fun _ h => absurd h List.not_mem_nil⟩) 3000 4) rfl (by decide +kernel)
/-- JuryreelLaw.score(LJuryreel;I)I -/
theorem c_v89 : b_valid c_K c_r89 := b_chk_ok c_hJ (d := 4) (F := 3000) (R := c_r89) (cuts := c_c89) (b_orc_ok c_hJ (tab := [c_r60]) (List.forall_mem_cons.mpr ⟨c_v60, fun _ h => absurd h List.not_mem_nil⟩) 3000 4) rfl (by decide +kernel)
/-- JuryreelLaw.rival(LJuryreel;IC)I -/
theorem c_v90 : b_valid c_K c_r90 := b_chk_ok c_hJ (d := 4) (F := 3000) (R := c_r90) (cuts := c_c90) (b_orc_ok c_hJ (tab := [c_r62]) (List.forall_mem_cons.mpr ⟨c_v62, fun _ h => absurd h List.not_mem_nil⟩) 3000 4) rfl (by decide +kernel)
/-- JuryreelLaw.choose(LJuryreel;I)I -/
theorem c_v92 : b_valid c_K c_r92 := b_chk_ok c_hJ (d := 4) (F := 3000) (R := c_r92) (cuts := c_c92) (b_orc_ok c_hJ (tab := [c_r64]) (List.forall_mem_cons.mpr ⟨c_v64, fun _ h => absurd h List.not_mem_nil⟩) 3000 4) rfl (by decide +kernel)
/-- JuryreelLaw.sectionOf(LJuryreel;I)I -/
theorem c_v93 : b_valid c_K c_r93 := b_chk_ok c_hJ (d := 4) (F := 3000) (R := c_r93) (cuts := c_c93) (b_orc_ok c_hJ (tab := [c_r65]) (List.forall_mem_cons.mpr ⟨c_v65, fun _ h => absurd h List.not_mem_nil⟩) 3000 4) rfl (by decide +kernel)
/-- JuryreelLaw.minutes(LJuryreel;I)I -/
theorem c_v94 : b_valid c_K c_r94 := b_chk_ok c_hJ (d := 4) (F := 3000) (R := c_r94) (cuts := c_c94) (b_orc_ok c_hJ (tab := [c_r66]) (List.forall_mem_cons.mpr ⟨c_v66, fun _ h => absurd h List.not_mem_nil⟩) 3000 4) rfl (by decide +kernel)
/-- Juryreel.areWinnersRight()Z -/
theorem c_v82 : b_valid c_K c_r82 := b_chk_ok c_hJ (d := 5) (F := 3000) (R := c_r82) (cuts := c_c82) (b_orc_ok c_hJ (tab := [c_r4, c_r10, c_r17, c_r19]) (List.forall_mem_cons.mpr ⟨c_v4, List.forall_mem_cons.mpr ⟨c_v10, List.forall_mem_cons.mpr ⟨c_v17, List.forall_mem_cons.mpr ⟨c_v19, fun _ h => absurd h List.not_mem_nil⟩⟩⟩⟩) 3000 5) rfl (by decide +kernel)
/-- Juryreel.isSound()Z -/
theorem c_v67 : b_valid c_K c_r67 := b_chk_ok c_hJ (d := 6) (F := 3000) (R := c_r67) (cuts := c_c67) (b_orc_ok c_hJ (tab := [c_r28, c_r30, c_r81, c_r82, c_r46]) (List.forall_mem_cons.mpr ⟨c_v28, List.forall_mem_cons.mpr ⟨c_v30, List.forall_mem_cons.mpr ⟨c_v81, List.forall_mem_cons.mpr ⟨c_v82, List.forall_mem_cons.mpr ⟨c_v46, fun _ h => absurd h List.not_mem_nil⟩⟩⟩⟩⟩) 3000 6) rfl (by decide +kernel)
