/-! From the law's first instruction to its loop -/
def c_al0 (a b c d : Option Value) (i : Option Value) : AL := [some (.ref 0), a, b, c, d, i, none, none, none]
theorem c_own : a_own 301 = 13 := by decide +kernel
theorem c_ini : a_ini 301 = false := by decide +kernel
theorem c_i0 : a_ins 301 0 = some (.new 8, 3) ∧ a_ins 301 3 = some (.dup, 1) ∧ a_ins 301 4 = some (.invokespecial 170, 3) ∧ a_ins 301 7 = some (.astore_n 1, 1) ∧ a_ins 301 8 = some (.new 171, 3) ∧ a_ins 301 11 = some (.dup, 1) ∧ a_ins 301 12 = some (.invokespecial 173, 3) ∧ a_ins 301 15 = some (.astore_n 2, 1) ∧ a_ins 301 16 = some (.iconst 1, 1) ∧ a_ins 301 17 = some (.newarray .long, 2) ∧ a_ins 301 19 = some (.astore_n 3, 1) ∧ a_ins 301 20 = some (.iconst 1, 1) ∧ a_ins 301 21 = some (.newarray .double, 2) ∧ a_ins 301 23 = some (.astore 4, 2) ∧ a_ins 301 25 = some (.iconst 0, 1) ∧ a_ins 301 26 = some (.istore 5, 2) := by decide +kernel
theorem c_x1 : x_iX11 = [a_obj 11] := by rfl
set_option maxRecDepth 100000 in
theorem c_x2 : x_oX11 ++ [a_obj 12] = x_iX12 := by rfl
set_option maxRecDepth 100000 in
theorem c_x3 : x_oX11.length = 364 ∧ x_oX12.length = 769 := by decide +kernel
theorem c_stpE {i : Instr} {len pc : Nat} {al : AL} {st : List Value} {h : AH} {x : AS} (e : a_stp 13 false i len pc al st h = some x) : a_stp (a_own 301) (a_ini 301) i len pc al st h = some x := by rw [c_own, c_ini]; exact e
theorem c_calE {i : Instr} {st : List Value} {h : AH} {x : Option (Nat × List Value × List Value)} (e : a_call 13 i st h = x) : a_call (a_own 301) i st h = x := by rw [c_own]; exact e
theorem c_new1 {pc : Nat} {al : AL} {st : List Value} {h : AH} : a_stp 13 false (.new 8) 3 pc al st h = some (pc + 3, al, .ref h.length :: st, h ++ [a_obj 11], 1, a_cl 11) := a_by5 rfl rfl
theorem c_new2 {pc : Nat} {al : AL} {st : List Value} {h : AH} : a_stp 13 false (.new 171) 3 pc al st h = some (pc + 3, al, .ref h.length :: st, h ++ [a_obj 12], 1, a_cl 12) := a_by5 rfl rfl
theorem c_arL {pc : Nat} {al : AL} {st : List Value} {h : AH} : a_stp 13 false (.newarray .long) 2 pc al (.int 1 :: st) h = some (pc + 2, al, .ref h.length :: st, h ++ [a_row .long 1], 1, 1) := a_by5 rfl rfl
theorem c_arD {pc : Nat} {al : AL} {st : List Value} {h : AH} : a_stp 13 false (.newarray .double) 2 pc al (.int 1 :: st) h = some (pc + 2, al, .ref h.length :: st, h ++ [a_row .double 1], 1, 1) := a_by5 rfl rfl
/-- what the law's start makes -/
def c_mc : Nat := 771
def c_ms : Nat := 0 + a_cl 11 + 5784 + a_cl 12 + 6549 + 1 + 1
theorem c_law0 {vs : List Value} {r : AR} (hr : b_R 13 301 28 (c_al0 (some (.ref 1)) (some (.ref 365)) (some (.ref 770)) (some (.ref 771)) (some (.int 0))) [] ((19, vs) :: c_h0) c_mc c_ms r) : b_R 13 301 0 (a_args 301 [.ref 0]) [] [(19, vs)] 0 0 r := by
  obtain ⟨i0, i3, i4, i7, i8, i11, i12, i15, i16, i17, i19, i20, i21, i23, i25, i26⟩ := c_i0
  have hal : a_args 301 [.ref 0] = c_al0 none none none none none := by decide +kernel
  rw [hal]
  have q11 : b_lim 13 89 [.ref 1] ((19, vs) :: x_iX11) = some (.inl none, (19, vs) :: x_oX11, 363, 5784) := b_lim_of (x_qX11.2 (19, vs))
  have q12 : b_lim 13 162 [.ref 365] ((19, vs) :: x_iX12) = some (.inl none, (19, vs) :: x_oX12, 404, 6549) := b_lim_of (x_qX12.2 (19, vs))
  refine b_R.stp i0 rfl (by decide +kernel) rfl (c_stpE c_new1) ?_
  refine b_R.stp i3 rfl rfl rfl (c_stpE (a_by1 rfl rfl)) ?_
  refine b_R.cal i4 rfl rfl (c_calE (x := some (89, [.ref 1], [.ref 1])) rfl) (by rw [show [(19, vs)] ++ [a_obj 11] = (19, vs) :: x_iX11 by rw [c_x1]; rfl]; exact q11) ?_
  refine b_R.stp i7 rfl rfl rfl (c_stpE (a_by1 rfl rfl)) ?_
  refine b_R.stp i8 rfl (by decide +kernel) rfl (c_stpE c_new2) ?_
  have e1 : (((19, vs) :: x_oX11 : AH)).length = 365 := by rw [List.length_cons, c_x3.1]
  have e2 : ((19, vs) :: x_oX11 : AH) ++ [a_obj 12] = (19, vs) :: x_iX12 := by rw [List.cons_append, c_x2]
  rw [e1, e2]
  refine b_R.stp i11 rfl rfl rfl (c_stpE (a_by1 rfl rfl)) ?_
  refine b_R.cal i12 rfl rfl (c_calE (x := some (162, [.ref 365], [.ref 365])) rfl) q12 ?_
  refine b_R.stp i15 rfl rfl rfl (c_stpE (a_by1 rfl rfl)) ?_
  refine b_R.stp i16 rfl rfl rfl (c_stpE (a_by1 rfl rfl)) ?_
  refine b_R.stp i17 rfl rfl rfl (c_stpE c_arL) ?_
  have e3 : (((19, vs) :: x_oX12 : AH)).length = 770 := by rw [List.length_cons, c_x3.2]
  rw [e3]
  refine b_R.stp i19 rfl rfl rfl (c_stpE (a_by1 rfl rfl)) ?_
  refine b_R.stp i20 rfl rfl rfl (c_stpE (a_by1 rfl rfl)) ?_
  refine b_R.stp i21 rfl rfl rfl (c_stpE c_arD) ?_
  have e4 : (((19, vs) :: x_oX12 : AH) ++ [a_row .long 1]).length = 771 := by rw [List.length_append, e3]; rfl
  have e5 : ((19, vs) :: x_oX12 : AH) ++ [a_row .long 1] ++ [a_row .double 1] = (19, vs) :: c_h0 := by
    show _ = (19, vs) :: (x_oX12 ++ [a_row .long 1, a_row .double 1])
    rw [List.cons_append, List.cons_append, List.append_assoc]; rfl
  rw [e4, e5]
  refine b_R.stp i23 rfl rfl rfl (c_stpE (a_by1 rfl rfl)) ?_
  refine b_R.stp i25 rfl rfl rfl (c_stpE (a_by1 rfl rfl)) ?_
  refine b_R.stp i26 rfl rfl rfl (c_stpE (a_by1 rfl rfl)) ?_
  exact hr
