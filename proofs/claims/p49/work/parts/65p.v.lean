/-! The methods' checks, by program (wip/absint.py) -/
/-- JuryreelLaw.choose(LJuryreel;I[J)I -/
theorem c_v266 : b_valid c_K c_r266 := b_chk_ok c_hJ (d := 4) (F := 3000) (R := c_r266) (cuts := c_c266) (b_orc_ok c_hJ (tab := [c_r100]) (List.forall_mem_cons.mpr ⟨c_v100, fun _ h => absurd h List.not_mem_nil⟩) 3000 4) rfl (by decide +kernel)
/-- JuryreelLaw.sectionOf(LJuryreel;I[J)I -/
theorem c_v267 : b_valid c_K c_r267 := b_chk_ok c_hJ (d := 4) (F := 3000) (R := c_r267) (cuts := c_c267) (b_orc_ok c_hJ (tab := [c_r101]) (List.forall_mem_cons.mpr ⟨c_v101, fun _ h => absurd h List.not_mem_nil⟩) 3000 4) rfl (by decide +kernel)
/-- JuryreelLaw.minutes(LJuryreel;I[J)I -/
theorem c_v268 : b_valid c_K c_r268 := b_chk_ok c_hJ (d := 4) (F := 3000) (R := c_r268) (cuts := c_c268) (b_orc_ok c_hJ (tab := [c_r102]) (List.forall_mem_cons.mpr ⟨c_v102, fun _ h => absurd h List.not_mem_nil⟩) 3000 4) rfl (by decide +kernel)
/-- JuryreelLaw.giveUp(LJuryreel;I[J)I -/
theorem c_v269 : b_valid c_K c_r269 := b_chk_ok c_hJ (d := 4) (F := 3000) (R := c_r269) (cuts := c_c269) (b_orc_ok c_hJ (tab := [c_r103]) (List.forall_mem_cons.mpr ⟨c_v103, fun _ h => absurd h List.not_mem_nil⟩) 3000 4) rfl (by decide +kernel)
/-- JuryreelLaw.isBroken(LJuryreel;I[J)I -/
theorem c_v270 : b_valid c_K c_r270 := b_chk_ok c_hJ (d := 4) (F := 3000) (R := c_r270) (cuts := c_c270) (b_orc_ok c_hJ (tab := [c_r104]) (List.forall_mem_cons.mpr ⟨c_v104, fun _ h => absurd h List.not_mem_nil⟩) 3000 4) rfl (by decide +kernel)
/-- JuryreelLaw.print(LJuryreel;ICI[J)I -/
theorem c_v272 : b_valid c_K c_r272 := b_chk_ok c_hJ (d := 4) (F := 3000) (R := c_r272) (cuts := c_c272) (b_orc_ok c_hJ (tab := [c_r106]) (List.forall_mem_cons.mpr ⟨c_v106, fun _ h => absurd h List.not_mem_nil⟩) 3000 4) rfl (by decide +kernel)
/-- JuryreelLaw.key(LJuryreel;IIII[J)I -/
theorem c_v273 : b_valid c_K c_r273 := b_chk_ok c_hJ (d := 4) (F := 3000) (R := c_r273) (cuts := c_c273) (b_orc_ok c_hJ (tab := [c_r107]) (List.forall_mem_cons.mpr ⟨c_v107, fun _ h => absurd h List.not_mem_nil⟩) 3000 4) rfl (by decide +kernel)
/-- JuryreelLaw.canShow(LJuryreel;III[J)I -/
theorem c_v274 : b_valid c_K c_r274 := b_chk_ok c_hJ (d := 4) (F := 3000) (R := c_r274) (cuts := c_c274) (b_orc_ok c_hJ (tab := [c_r108]) (List.forall_mem_cons.mpr ⟨c_v108, fun _ h => absurd h List.not_mem_nil⟩) 3000 4) rfl (by decide +kernel)
/-- JuryreelLaw.of(LJuryreel;IC[J)I -/
theorem c_v277 : b_valid c_K c_r277 := b_chk_ok c_hJ (d := 4) (F := 3000) (R := c_r277) (cuts := c_c277) (b_orc_ok c_hJ (tab := [c_r111]) (List.forall_mem_cons.mpr ⟨c_v111, fun _ h => absurd h List.not_mem_nil⟩) 3000 4) rfl (by decide +kernel)
/-- JuryreelLaw.state(LJuryreel;I[J)I -/
theorem c_v278 : b_valid c_K c_r278 := b_chk_ok c_hJ (d := 4) (F := 3000) (R := c_r278) (cuts := c_c278) (b_orc_ok c_hJ (tab := [c_r112]) (List.forall_mem_cons.mpr ⟨c_v112, fun _ h => absurd h List.not_mem_nil⟩) 3000 4) rfl (by decide +kernel)
/-- JuryreelLaw.at(LJuryreel;II[J)I -/
theorem c_v279 : b_valid c_K c_r279 := b_chk_ok c_hJ (d := 4) (F := 3000) (R := c_r279) (cuts := c_c279) (b_orc_ok c_hJ (tab := [c_r113]) (List.forall_mem_cons.mpr ⟨c_v113, fun _ h => absurd h List.not_mem_nil⟩) 3000 4) rfl (by decide +kernel)
/-- JuryreelLaw.withdraw(LJuryreel;I[J)I -/
theorem c_v283 : b_valid c_K c_r283 := b_chk_ok c_hJ (d := 4) (F := 3000) (R := c_r283) (cuts := c_c283) (b_orc_ok c_hJ (tab := [c_r118]) (List.forall_mem_cons.mpr ⟨c_v118, fun _ h => absurd h List.not_mem_nil⟩) 3000 4) rfl (by decide +kernel)
/-- JuryreelLaw.join(LJuryreel;II[J)I -/
theorem c_v285 : b_valid c_K c_r285 := b_chk_ok c_hJ (d := 4) (F := 3000) (R := c_r285) (cuts := c_c285) (b_orc_ok c_hJ (tab := [c_r120]) (List.forall_mem_cons.mpr ⟨c_v120, fun _ h => absurd h List.not_mem_nil⟩) 3000 4) rfl (by decide +kernel)
/-- JuryreelLaw.open(LJuryreel;I[J)I -/
theorem c_v286 : b_valid c_K c_r286 := b_chk_ok c_hJ (d := 4) (F := 3000) (R := c_r286) (cuts := c_c286) (b_orc_ok c_hJ (tab := [c_r121]) (List.forall_mem_cons.mpr ⟨c_v121, fun _ h => absurd h List.not_mem_nil⟩) 3000 4) rfl (by decide +kernel)
/-- JuryreelLaw.hasSeat(LJuryreel;II[J)I -/
theorem c_v287 : b_valid c_K c_r287 := b_chk_ok c_hJ (d := 4) (F := 3000) (R := c_r287) (cuts := c_c287) (b_orc_ok c_hJ (tab := [c_r122]) (List.forall_mem_cons.mpr ⟨c_v122, fun _ h => absurd h List.not_mem_nil⟩) 3000 4) rfl (by decide +kernel)
/-- JuryreelLaw.juror(LJuryreel;II[J)I -/
theorem c_v288 : b_valid c_K c_r288 := b_chk_ok c_hJ (d := 4) (F := 3000) (R := c_r288) (cuts := c_c288) (b_orc_ok c_hJ (tab := [c_r123]) (List.forall_mem_cons.mpr ⟨c_v123, fun _ h => absurd h List.not_mem_nil⟩) 3000 4) rfl (by decide +kernel)
/-- JuryreelLaw.rule(LJuryreel;IC[J)I -/
theorem c_v289 : b_valid c_K c_r289 := b_chk_ok c_hJ (d := 4) (F := 3000) (R := c_r289) (cuts := c_c289) (b_orc_ok c_hJ (tab := [c_r124]) (List.forall_mem_cons.mpr ⟨c_v124, fun _ h => absurd h List.not_mem_nil⟩) 3000 4) rfl (by decide +kernel)
/-- JuryreelLaw.see(LJuryreel;III[J)I -/
theorem c_v290 : b_valid c_K c_r290 := b_chk_ok c_hJ (d := 4) (F := 3000) (R := c_r290) (cuts := c_c290) (b_orc_ok c_hJ (tab := [c_r125]) (List.forall_mem_cons.mpr ⟨c_v125, fun _ h => absurd h List.not_mem_nil⟩) 3000 4) rfl (by decide +kernel)
/-- JuryreelLaw.type(LJuryreel;I[J)I -/
theorem c_v291 : b_valid c_K c_r291 := b_chk_ok c_hJ (d := 4) (F := 3000) (R := c_r291) (cuts := c_c291) (b_orc_ok c_hJ (tab := [c_r126]) (List.forall_mem_cons.mpr ⟨c_v126, fun _ h => absurd h List.not_mem_nil⟩) 3000 4) rfl (by decide +kernel)
/-- JuryreelLaw.rank(LJuryreel;II[J)I -/
theorem c_v292 : b_valid c_K c_r292 := b_chk_ok c_hJ (d := 4) (F := 3000) (R := c_r292) (cuts := c_c292) (b_orc_ok c_hJ (tab := [c_r128]) (List.forall_mem_cons.mpr ⟨c_v128, fun _ h => absurd h List.not_mem_nil⟩) 3000 4) rfl (by decide +kernel)
/-- JuryreelLaw.sell(LJuryreel;IIIII[J)I -/
theorem c_v295 : b_valid c_K c_r295 := b_chk_ok c_hJ (d := 4) (F := 3000) (R := c_r295) (cuts := c_c295) (b_orc_ok c_hJ (tab := [c_r131]) (List.forall_mem_cons.mpr ⟨c_v131, fun _ h => absurd h List.not_mem_nil⟩) 3000 4) rfl (by decide +kernel)
/-- JuryreelLaw.owner(LJuryreel;III[J)I -/
theorem c_v296 : b_valid c_K c_r296 := b_chk_ok c_hJ (d := 4) (F := 3000) (R := c_r296) (cuts := c_c296) (b_orc_ok c_hJ (tab := [c_r132]) (List.forall_mem_cons.mpr ⟨c_v132, fun _ h => absurd h List.not_mem_nil⟩) 3000 4) rfl (by decide +kernel)
/-- Juryreel$Grid.setFoundAnew()V -/
theorem c_v46 : b_valid c_K c_r46 := b_chk_ok c_hJ (d := 5) (F := 3000) (R := c_r46) (cuts := c_c46) (b_orc_ok c_hJ (tab := [c_r37]) (List.forall_mem_cons.mpr ⟨c_v37, fun _ h => absurd h List.not_mem_nil⟩) 3000 5) rfl (by decide +kernel)
/-- Juryreel.plan(I)I -/
theorem c_v110 : b_valid c_K c_r110 := b_chk_ok c_hJ (d := 5) (F := 3000) (R := c_r110) (cuts := c_c110) (b_orc_ok c_hJ (tab := [c_r153, c_r37]) (List.forall_mem_cons.mpr ⟨c_v153, List.forall_mem_cons.mpr ⟨c_v37, fun _ h => absurd h List.not_mem_nil⟩⟩) 3000 5) rfl (by decide +kernel)
/-- Juryreel.winner(I)I -/
theorem c_v129 : b_valid c_K c_r129 := b_chk_ok c_hJ (d := 5) (F := 3000) (R := c_r129) (cuts := c_c129) (b_orc_ok c_hJ (tab := [c_r5, c_r11, c_r12, c_r15]) (List.forall_mem_cons.mpr ⟨c_v5, List.forall_mem_cons.mpr ⟨c_v11, List.forall_mem_cons.mpr ⟨c_v12, List.forall_mem_cons.mpr ⟨c_v15, fun _ h => absurd h List.not_mem_nil⟩⟩⟩⟩) 3000 5) rfl (by decide +kernel)
/-- Juryreel.award(I)I -/
theorem c_v130 : b_valid c_K c_r130 := b_chk_ok c_hJ (d := 5) (F := 3000) (R := c_r130) (cuts := c_c130) (b_orc_ok c_hJ (tab := [c_r5, c_r11, c_r12, c_r15]) (List.forall_mem_cons.mpr ⟨c_v5, List.forall_mem_cons.mpr ⟨c_v11, List.forall_mem_cons.mpr ⟨c_v12, List.forall_mem_cons.mpr ⟨c_v15, fun _ h => absurd h List.not_mem_nil⟩⟩⟩⟩) 3000 5) rfl (by decide +kernel)
/-- Juryreel.areWinnersRight()Z -/
theorem c_v161 : b_valid c_K c_r161 := b_chk_ok c_hJ (d := 5) (F := 3000) (R := c_r161) (cuts := c_c161) (b_orc_ok c_hJ (tab := [c_r5, c_r11, c_r12, c_r15, c_r22, c_r18, c_r21, c_r20]) (List.forall_mem_cons.mpr ⟨c_v5, List.forall_mem_cons.mpr ⟨c_v11, List.forall_mem_cons.mpr ⟨c_v12, List.forall_mem_cons.mpr ⟨c_v15, List.forall_mem_cons.mpr ⟨c_v22, List.forall_mem_cons.mpr ⟨c_v18, List.forall_mem_cons.mpr ⟨c_v21, List.forall_mem_cons.mpr ⟨c_v20, fun _ h => absurd h List.not_mem_nil⟩⟩⟩⟩⟩⟩⟩⟩) 3000 5) rfl (by decide +kernel)
/-- JuryreelLaw.show(LJuryreel;III[J)I -/
theorem c_v275 : b_valid c_K c_r275 := b_chk_ok c_hJ (d := 5) (F := 3000) (R := c_r275) (cuts := c_c275) (b_orc_ok c_hJ (tab := [c_r109]) (List.forall_mem_cons.mpr ⟨c_v109, fun _ h => absurd h List.not_mem_nil⟩) 3000 5) rfl (by decide +kernel)
/-- Juryreel.storm(I)I -/
theorem c_v116 : b_valid c_K c_r116 := b_chk_ok c_hJ (d := 6) (F := 3000) (R := c_r116) (cuts := c_c116) (b_orc_ok c_hJ (tab := [c_r41, c_r45, c_r46]) (List.forall_mem_cons.mpr ⟨c_v41, List.forall_mem_cons.mpr ⟨c_v45, List.forall_mem_cons.mpr ⟨c_v46, fun _ h => absurd h List.not_mem_nil⟩⟩⟩) 3000 6) rfl (by decide +kernel)
/-- Juryreel.late(II)I -/
theorem c_v117 : b_valid c_K c_r117 := b_chk_ok c_hJ (d := 6) (F := 3000) (R := c_r117) (cuts := c_c117) (b_orc_ok c_hJ (tab := [c_r42, c_r45, c_r46]) (List.forall_mem_cons.mpr ⟨c_v42, List.forall_mem_cons.mpr ⟨c_v45, List.forall_mem_cons.mpr ⟨c_v46, fun _ h => absurd h List.not_mem_nil⟩⟩⟩) 3000 6) rfl (by decide +kernel)
/-- Juryreel.isSound()Z -/
theorem c_v137 : b_valid c_K c_r137 := b_chk_ok c_hJ (d := 6) (F := 3000) (R := c_r137) (cuts := c_c137) (b_orc_ok c_hJ (tab := [c_r48, c_r50, c_r160, c_r161, c_r74]) (List.forall_mem_cons.mpr ⟨c_v48, List.forall_mem_cons.mpr ⟨c_v50, List.forall_mem_cons.mpr ⟨c_v160, List.forall_mem_cons.mpr ⟨c_v161, List.forall_mem_cons.mpr ⟨c_v74, fun _ h => absurd h List.not_mem_nil⟩⟩⟩⟩⟩) 3000 6) rfl (by decide +kernel)
/-- JuryreelLaw.plan(LJuryreel;I[J)I -/
theorem c_v276 : b_valid c_K c_r276 := b_chk_ok c_hJ (d := 6) (F := 3000) (R := c_r276) (cuts := c_c276) (b_orc_ok c_hJ (tab := [c_r110]) (List.forall_mem_cons.mpr ⟨c_v110, fun _ h => absurd h List.not_mem_nil⟩) 3000 6) rfl (by decide +kernel)
/-- JuryreelLaw.winner(LJuryreel;I[J)I -/
theorem c_v293 : b_valid c_K c_r293 := b_chk_ok c_hJ (d := 6) (F := 3000) (R := c_r293) (cuts := c_c293) (b_orc_ok c_hJ (tab := [c_r129]) (List.forall_mem_cons.mpr ⟨c_v129, fun _ h => absurd h List.not_mem_nil⟩) 3000 6) rfl (by decide +kernel)
/-- JuryreelLaw.award(LJuryreel;I[J)I -/
theorem c_v294 : b_valid c_K c_r294 := b_chk_ok c_hJ (d := 6) (F := 3000) (R := c_r294) (cuts := c_c294) (b_orc_ok c_hJ (tab := [c_r130]) (List.forall_mem_cons.mpr ⟨c_v130, fun _ h => absurd h List.not_mem_nil⟩) 3000 6) rfl (by decide +kernel)
/-- JuryreelLaw.storm(LJuryreel;I[J)I -/
theorem c_v281 : b_valid c_K c_r281 := b_chk_ok c_hJ (d := 7) (F := 3000) (R := c_r281) (cuts := c_c281) (b_orc_ok c_hJ (tab := [c_r116]) (List.forall_mem_cons.mpr ⟨c_v116, fun _ h => absurd h List.not_mem_nil⟩) 3000 7) rfl (by decide +kernel)
