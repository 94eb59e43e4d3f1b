/-! The methods' checks, by program (wip/absint.py) -/
/-- Juryreel.section(IIICC)I -/
theorem c_v63 : b_valid c_K c_r63 := b_chk_ok c_hJ (d := 1) (F := 3000) (R := c_r63) (cuts := c_c63) (b_orc_ok c_hJ (tab := []) (fun _ h => absurd h List.not_mem_nil) 3000 1) rfl (by decide +kernel)
/-- Juryreel.areSectionsKept()Z -/
theorem c_v81 : b_valid c_K c_r81 := b_chk_ok c_hJ (d := 1) (F := 3000) (R := c_r81) (cuts := c_c81) (b_orc_ok c_hJ (tab := [c_r79, c_r80]) (List.forall_mem_cons.mpr ⟨c_v79, List.forall_mem_cons.mpr ⟨c_v80, fun _ h => absurd h List.not_mem_nil⟩⟩) 3000 1) rfl (by decide +kernel)
/-- Juryreel$Count.withMost(LJuryreel$Section;Z)I -/
theorem c_v10 : b_valid c_K c_r10 := b_chk_ok c_hJ (d := 2) (F := 3000) (R := c_r10) (cuts := c_c10) (b_orc_ok c_hJ (tab := [c_r7]) (List.forall_mem_cons.mpr ⟨c_v7, fun _ h => absurd h List.not_mem_nil⟩) 3000 2) rfl (by decide +kernel)
/-- Juryreel$Grid.keepsSeats(I)Z -/
theorem c_v30 : b_valid c_K c_r30 := b_chk_ok c_hJ (d := 2) (F := 3000) (R := c_r30) (cuts := c_c30) (b_orc_ok c_hJ (tab := []) (fun _ h => absurd h List.not_mem_nil) 3000 2) rfl (by decide +kernel)
/-- Juryreel.orderByScore()I -/
theorem c_v77 : b_valid c_K c_r77 := b_chk_ok c_hJ (d := 2) (F := 3000) (R := c_r77) (cuts := c_c77) (b_orc_ok c_hJ (tab := [c_r40, c_r42, c_r76]) (List.forall_mem_cons.mpr ⟨c_v40, List.forall_mem_cons.mpr ⟨c_v42, List.forall_mem_cons.mpr ⟨c_v76, fun _ h => absurd h List.not_mem_nil⟩⟩⟩) 3000 2) rfl (by decide +kernel)
/-- JuryreelLaw.film(LJuryreel;CII)I -/
theorem c_v84 : b_valid c_K c_r84 := b_chk_ok c_hJ (d := 2) (F := 3000) (R := c_r84) (cuts := c_c84) (b_orc_ok c_hJ (tab := [c_r54]) (List.forall_mem_cons.mpr ⟨c_v54, fun _ h => absurd h List.not_mem_nil⟩) 3000 2) rfl (by decide +kernel)
/-- JuryreelLaw.reader(LJuryreel;I)I -/
theorem c_v85 : b_valid c_K c_r85 := b_chk_ok c_hJ (d := 2) (F := 3000) (R := c_r85) (cuts := c_c85) (b_orc_ok c_hJ (tab := [c_r55]) (List.forall_mem_cons.mpr ⟨c_v55, fun _ h => absurd h List.not_mem_nil⟩) 3000 2) rfl (by decide +kernel)
/-- JuryreelLaw.section(LJuryreel;IIICC)I -/
theorem c_v91 : b_valid c_K c_r91 := b_chk_ok c_hJ (d := 2) (F := 3000) (R := c_r91) (cuts := c_c91) (b_orc_ok c_hJ (tab := [c_r63]) (List.forall_mem_cons.mpr ⟨c_v63, fun _ h => absurd h List.not_mem_nil⟩) 3000 2) rfl (by decide +kernel)
/-- Juryreel.deal(II)I -/
theorem c_v56 : b_valid c_K c_r56 := b_chk_ok c_hJ (d := 3) (F := 3000) (R := c_r56) (cuts := c_c56) (b_orc_ok c_hJ (tab := [c_r36, c_r37, c_r38]) (List.forall_mem_cons.mpr ⟨c_v36, List.forall_mem_cons.mpr ⟨c_v37, List.forall_mem_cons.mpr ⟨c_v38, fun _ h => absurd h List.not_mem_nil⟩⟩⟩) 3000 3) rfl (by decide +kernel)
/-- Juryreel.isDealt(II)Z -/
theorem c_v57 : b_valid c_K c_r57 := b_chk_ok c_hJ (d := 3) (F := 3000) (R := c_r57) (cuts := c_c57) (b_orc_ok c_hJ (tab := []) (fun _ h => absurd h List.not_mem_nil) 3000 3) rfl (by decide +kernel)
/-- Juryreel.read(III)I -/
theorem c_v58 : b_valid c_K c_r58 := b_chk_ok c_hJ (d := 3) (F := 3000) (R := c_r58) (cuts := c_c58) (b_orc_ok c_hJ (tab := [c_r40]) (List.forall_mem_cons.mpr ⟨c_v40, fun _ h => absurd h List.not_mem_nil⟩) 3000 3) rfl (by decide +kernel)
