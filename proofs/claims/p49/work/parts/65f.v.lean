/-! The methods' checks, by program (wip/absint.py) -/
/-- JuryreelModel.screen(IZ)I -/
theorem c_v195 : b_valid c_K c_r195 := b_chk_ok c_hJ (d := 1) (F := 3000) (R := c_r195) (cuts := c_c195) (b_orc_ok c_hJ (tab := []) (fun _ h => absurd h List.not_mem_nil) 3000 1) rfl (by decide +kernel)
/-- JuryreelModel.canShowNow(III)Z -/
theorem c_v200 : b_valid c_K c_r200 := b_chk_ok c_hJ (d := 1) (F := 3000) (R := c_r200) (cuts := c_c200) (b_orc_ok c_hJ (tab := []) (fun _ h => absurd h List.not_mem_nil) 3000 1) rfl (by decide +kernel)
/-- JuryreelModel.go(I)I -/
theorem c_v216 : b_valid c_K c_r216 := b_chk_ok c_hJ (d := 1) (F := 3000) (R := c_r216) (cuts := c_c216) (b_orc_ok c_hJ (tab := []) (fun _ h => absurd h List.not_mem_nil) 3000 1) rfl (by decide +kernel)
/-- JuryreelModel.pass(I)I -/
theorem c_v224 : b_valid c_K c_r224 := b_chk_ok c_hJ (d := 1) (F := 3000) (R := c_r224) (cuts := c_c224) (b_orc_ok c_hJ (tab := []) (fun _ h => absurd h List.not_mem_nil) 3000 1) rfl (by decide +kernel)
/-- JuryreelModel.firsts(II)I -/
theorem c_v239 : b_valid c_K c_r239 := b_chk_ok c_hJ (d := 1) (F := 3000) (R := c_r239) (cuts := c_c239) (b_orc_ok c_hJ (tab := [c_r238]) (List.forall_mem_cons.mpr ⟨c_v238, fun _ h => absurd h List.not_mem_nil⟩) 3000 1) rfl (by decide +kernel)
/-- JuryreelModel.points(II)I -/
theorem c_v241 : b_valid c_K c_r241 := b_chk_ok c_hJ (d := 1) (F := 3000) (R := c_r241) (cuts := c_c241) (b_orc_ok c_hJ (tab := [c_r240]) (List.forall_mem_cons.mpr ⟨c_v240, fun _ h => absurd h List.not_mem_nil⟩) 3000 1) rfl (by decide +kernel)
/-- JuryreelModel.isAheadOf(III)Z -/
theorem c_v242 : b_valid c_K c_r242 := b_chk_ok c_hJ (d := 1) (F := 3000) (R := c_r242) (cuts := c_c242) (b_orc_ok c_hJ (tab := [c_r240]) (List.forall_mem_cons.mpr ⟨c_v240, fun _ h => absurd h List.not_mem_nil⟩) 3000 1) rfl (by decide +kernel)
/-- JuryreelModel.line(IZ)I -/
theorem c_v251 : b_valid c_K c_r251 := b_chk_ok c_hJ (d := 1) (F := 3000) (R := c_r251) (cuts := c_c251) (b_orc_ok c_hJ (tab := []) (fun _ h => absurd h List.not_mem_nil) 3000 1) rfl (by decide +kernel)
/-- JuryreelModel.shownShare()F -/
theorem c_v253 : b_valid c_K c_r253 := b_chk_ok c_hJ (d := 1) (F := 3000) (R := c_r253) (cuts := c_c253) (b_orc_ok c_hJ (tab := []) (fun _ h => absurd h List.not_mem_nil) 3000 1) rfl (by decide +kernel)
/-- Juryreel$Count.withMost(LJuryreel$Section;Z)I -/
theorem c_v11 : b_valid c_K c_r11 := b_chk_ok c_hJ (d := 2) (F := 3000) (R := c_r11) (cuts := c_c11) (b_orc_ok c_hJ (tab := [c_r8, c_r10, c_r9]) (List.forall_mem_cons.mpr ⟨c_v8, List.forall_mem_cons.mpr ⟨c_v10, List.forall_mem_cons.mpr ⟨c_v9, fun _ h => absurd h List.not_mem_nil⟩⟩⟩) 3000 2) rfl (by decide +kernel)
/-- Juryreel$Count.winsEachDuel(LJuryreel$Section;I)Z -/
theorem c_v13 : b_valid c_K c_r13 := b_chk_ok c_hJ (d := 2) (F := 3000) (R := c_r13) (cuts := c_c13) (b_orc_ok c_hJ (tab := [c_r8, c_r14]) (List.forall_mem_cons.mpr ⟨c_v8, List.forall_mem_cons.mpr ⟨c_v14, fun _ h => absurd h List.not_mem_nil⟩⟩) 3000 2) rfl (by decide +kernel)
/-- Juryreel$Count.withFewestFirsts(LJuryreel$Section;)I -/
theorem c_v16 : b_valid c_K c_r16 := b_chk_ok c_hJ (d := 2) (F := 3000) (R := c_r16) (cuts := c_c16) (b_orc_ok c_hJ (tab := [c_r8, c_r9]) (List.forall_mem_cons.mpr ⟨c_v8, List.forall_mem_cons.mpr ⟨c_v9, fun _ h => absurd h List.not_mem_nil⟩⟩) 3000 2) rfl (by decide +kernel)
/-- Juryreel$Count.recountRounds(LJuryreel$Section;)I -/
theorem c_v22 : b_valid c_K c_r22 := b_chk_ok c_hJ (d := 2) (F := 3000) (R := c_r22) (cuts := c_c22) (b_orc_ok c_hJ (tab := [c_r18, c_r20]) (List.forall_mem_cons.mpr ⟨c_v18, List.forall_mem_cons.mpr ⟨c_v20, fun _ h => absurd h List.not_mem_nil⟩⟩) 3000 2) rfl (by decide +kernel)
/-- Juryreel$Grid.canRunThrough(IIII)Z -/
theorem c_v33 : b_valid c_K c_r33 := b_chk_ok c_hJ (d := 2) (F := 3000) (R := c_r33) (cuts := c_c33) (b_orc_ok c_hJ (tab := [c_r88]) (List.forall_mem_cons.mpr ⟨c_v88, fun _ h => absurd h List.not_mem_nil⟩) 3000 2) rfl (by decide +kernel)
/-- Juryreel$Grid.keepsSeats(I)Z -/
theorem c_v50 : b_valid c_K c_r50 := b_chk_ok c_hJ (d := 2) (F := 3000) (R := c_r50) (cuts := c_c50) (b_orc_ok c_hJ (tab := [c_r84, c_r47]) (List.forall_mem_cons.mpr ⟨c_v84, List.forall_mem_cons.mpr ⟨c_v47, fun _ h => absurd h List.not_mem_nil⟩⟩) 3000 2) rfl (by decide +kernel)
/-- Juryreel$Passes.giveSeats(LJuryreel$Grid;LJuryreel$Show;I)I -/
theorem c_v57 : b_valid c_K c_r57 := b_chk_ok c_hJ (d := 2) (F := 3000) (R := c_r57) (cuts := c_c57) (b_orc_ok c_hJ (tab := [c_r47]) (List.forall_mem_cons.mpr ⟨c_v47, fun _ h => absurd h List.not_mem_nil⟩) 3000 2) rfl (by decide +kernel)
/-- Juryreel.meanScore()D -/
theorem c_v136 : b_valid c_K c_r136 := b_chk_ok c_hJ (d := 2) (F := 3000) (R := c_r136) (cuts := c_c136) (b_orc_ok c_hJ (tab := [c_r65, c_r67]) (List.forall_mem_cons.mpr ⟨c_v65, List.forall_mem_cons.mpr ⟨c_v67, fun _ h => absurd h List.not_mem_nil⟩⟩) 3000 2) rfl (by decide +kernel)
/-- Juryreel.orderByScore()I -/
theorem c_v152 : b_valid c_K c_r152 := b_chk_ok c_hJ (d := 2) (F := 3000) (R := c_r152) (cuts := c_c152) (b_orc_ok c_hJ (tab := [c_r65, c_r67, c_r151]) (List.forall_mem_cons.mpr ⟨c_v65, List.forall_mem_cons.mpr ⟨c_v67, List.forall_mem_cons.mpr ⟨c_v151, fun _ h => absurd h List.not_mem_nil⟩⟩⟩) 3000 2) rfl (by decide +kernel)
/-- Juryreel.orderUnsetByMinutes(I)I -/
theorem c_v153 : b_valid c_K c_r153 := b_chk_ok c_hJ (d := 2) (F := 3000) (R := c_r153) (cuts := c_c153) (b_orc_ok c_hJ (tab := [c_r39, c_r151]) (List.forall_mem_cons.mpr ⟨c_v39, List.forall_mem_cons.mpr ⟨c_v151, fun _ h => absurd h List.not_mem_nil⟩⟩) 3000 2) rfl (by decide +kernel)
/-- JuryreelModel.score(I)I -/
theorem c_v179 : b_valid c_K c_r179 := b_chk_ok c_hJ (d := 2) (F := 3000) (R := c_r179) (cuts := c_c179) (b_orc_ok c_hJ (tab := [c_r174a, c_r174, c_r178]) (List.forall_mem_cons.mpr ⟨c_v174a, List.forall_mem_cons.mpr ⟨c_v174, List.forall_mem_cons.mpr ⟨c_v178, fun _ h => absurd h List.not_mem_nil⟩⟩⟩) 3000 2) rfl (by decide +kernel)
