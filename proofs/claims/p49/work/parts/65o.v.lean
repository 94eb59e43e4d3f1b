/-! The methods' checks, by program (wip/absint.py) -/
/-- Juryreel$Grid.setAtFirstPlace(I)I -/
theorem c_v37 : b_valid c_K c_r37 := b_chk_ok c_hJ (d := 4) (F := 3000) (R := c_r37) (cuts := c_c37) (b_orc_ok c_hJ (tab := [c_r33, c_r35]) (List.forall_mem_cons.mpr ⟨c_v33, List.forall_mem_cons.mpr ⟨c_v35, fun _ h => absurd h List.not_mem_nil⟩⟩) 3000 4) rfl (by decide +kernel)
/-- Juryreel.show(III)I -/
theorem c_v109 : b_valid c_K c_r109 := b_chk_ok c_hJ (d := 4) (F := 3000) (R := c_r109) (cuts := c_c109) (b_orc_ok c_hJ (tab := [c_r33, c_r35]) (List.forall_mem_cons.mpr ⟨c_v33, List.forall_mem_cons.mpr ⟨c_v35, fun _ h => absurd h List.not_mem_nil⟩⟩) 3000 4) rfl (by decide +kernel)
/-- JuryreelModel.show(III)I -/
theorem c_v209 : b_valid c_K c_r209 := b_chk_ok c_hJ (d := 4) (F := 3000) (R := c_r209) (cuts := c_c209) (b_orc_ok c_hJ (tab := [c_r206]) (List.forall_mem_cons.mpr ⟨c_v206, fun _ h => absurd h List.not_mem_nil⟩) 3000 4) rfl (by decide +kernel)
/-- JuryreelModel.going(II)I -/
theorem c_v220 : b_valid c_K c_r220 := b_chk_ok c_hJ (d := 4) (F := 3000) (R := c_r220) (cuts := c_c220) (b_orc_ok c_hJ (tab := [c_r218]) (List.forall_mem_cons.mpr ⟨c_v218, fun _ h => absurd h List.not_mem_nil⟩) 3000 4) rfl (by decide +kernel)
/-- JuryreelModel.open(I)I -/
theorem c_v228 : b_valid c_K c_r228 := b_chk_ok c_hJ (d := 4) (F := 3000) (R := c_r228) (cuts := c_c228) (b_orc_ok c_hJ (tab := [c_r227]) (List.forall_mem_cons.mpr ⟨c_v227, fun _ h => absurd h List.not_mem_nil⟩) 3000 4) rfl (by decide +kernel)
/-- JuryreelLaw.deal(LJuryreel;II[J)I -/
theorem c_v258 : b_valid c_K c_r258 := b_chk_ok c_hJ (d := 4) (F := 3000) (R := c_r258) (cuts := c_c258) (b_orc_ok c_hJ (tab := [c_r92]) (List.forall_mem_cons.mpr ⟨c_v92, fun _ h => absurd h List.not_mem_nil⟩) 3000 4) rfl (by decide +kernel)
/-- JuryreelLaw.isDealt(LJuryreel;II[J)I -/
theorem c_v259 : b_valid c_K c_r259 := b_chk_ok c_hJ (d := 4) (F := 3000) (R := c_r259) (cuts := c_c259) (b_orc_ok c_hJ (tab := [c_r93]) (List.forall_mem_cons.mpr ⟨c_v93, fun _ h => absurd h List.not_mem_nil⟩) 3000 4) rfl (by decide +kernel)
/-- JuryreelLaw.read(LJuryreel;III[J)I -/
theorem c_v260 : b_valid c_K c_r260 := b_chk_ok c_hJ (d := 4) (F := 3000) (R := c_r260) (cuts := c_c260) (b_orc_ok c_hJ (tab := [c_r94]) (List.forall_mem_cons.mpr ⟨c_v94, fun _ h => absurd h List.not_mem_nil⟩) 3000 4) rfl (by decide +kernel)
/-- JuryreelLaw.even(LJuryreel;II[J)I -/
theorem c_v261 : b_valid c_K c_r261 := b_chk_ok c_hJ (d := 4) (F := 3000) (R := c_r261) (cuts := c_c261) (b_orc_ok c_hJ (tab := [c_r95]) (List.forall_mem_cons.mpr ⟨c_v95, fun _ h => absurd h List.not_mem_nil⟩) 3000 4) rfl (by decide +kernel)
/-- JuryreelLaw.score(LJuryreel;I[J)I -/
theorem c_v262 : b_valid c_K c_r262 := b_chk_ok c_hJ (d := 4) (F := 3000) (R := c_r262) (cuts := c_c262) (b_orc_ok c_hJ (tab := [c_r96]) (List.forall_mem_cons.mpr ⟨c_v96, fun _ h => absurd h List.not_mem_nil⟩) 3000 4) rfl (by decide +kernel)
/-- JuryreelLaw.isInQuarrel(LJuryreel;I[J)I -/
theorem c_v263 : b_valid c_K c_r263 := b_chk_ok c_hJ (d := 4) (F := 3000) (R := c_r263) (cuts := c_c263) (b_orc_ok c_hJ (tab := [c_r97]) (List.forall_mem_cons.mpr ⟨c_v97, fun _ h => absurd h List.not_mem_nil⟩) 3000 4) rfl (by decide +kernel)
/-- JuryreelLaw.rival(LJuryreel;IC[J)I -/
theorem c_v264 : b_valid c_K c_r264 := b_chk_ok c_hJ (d := 4) (F := 3000) (R := c_r264) (cuts := c_c264) (b_orc_ok c_hJ (tab := [c_r98]) (List.forall_mem_cons.mpr ⟨c_v98, fun _ h => absurd h List.not_mem_nil⟩) 3000 4) rfl (by decide +kernel)
