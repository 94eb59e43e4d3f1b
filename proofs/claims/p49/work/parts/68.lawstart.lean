/-! part 68.lawstart -/
section
/-! The law's start, by hand -/
theorem b_R.stp {d mi pc pc' len mc ms c s : Nat} {i : Instr} {al al' : AL} {st st' : List Value} {h h' : AH} {r : AR} (hi : a_ins mi pc = some (i, len)) (h1 : a_end mi i st = none) (h2 : a_trw mi pc i st = none) (h3 : a_call (a_own mi) i st h = none) (h4 : a_stp (a_own mi) (a_ini mi) i len pc al st h = some (pc', al', st', h', c, s)) (hr : b_R d mi pc' al' st' h' (mc + c) (ms + s) r) : b_R d mi pc al st h mc ms r := by
  obtain ⟨f, hf⟩ := hr
  refine ⟨f + 1, ?_⟩
  rw [a_go, hi]
  dsimp only
  rw [h1]
  dsimp only
  rw [h2]
  dsimp only
  rw [h3]
  dsimp only
  rw [h4]
  exact hf
theorem b_R.cal {d mi pc len mt mc ms c s : Nat} {i : Instr} {al : AL} {st as rest : List Value} {h h' : AH} {v : Option Value} {r : AR} (hi : a_ins mi pc = some (i, len)) (h1 : a_end mi i st = none) (h2 : a_trw mi pc i st = none) (h3 : a_call (a_own mi) i st h = some (mt, as, rest)) (h4 : b_lim d mt as h = some (.inl v, h', c, s)) (hr : b_R d mi (pc + 3) al (v.toList ++ rest) h' (mc + c) (ms + s) r) : b_R d mi pc al st h mc ms r := by
  obtain ⟨f, hf⟩ := hr
  refine ⟨f + 1, ?_⟩
  rw [a_go, hi]
  dsimp only
  rw [h1]
  dsimp only
  rw [h2]
  dsimp only
  rw [h3]
  dsimp only
  rw [h4]
  exact hf
end
/-! part 69.law0 -/
section
/-! From the law's first instruction to its loop -/
def c_al0 (a b c d : Option Value) (i : Option Value) : AL := [some (.ref 0), a, b, c, d, i, none, none, none]
theorem c_own : a_own 300 = 13 := by decide +kernel
theorem c_ini : a_ini 300 = false := by decide +kernel
theorem c_i0 : a_ins 300 0 = some (.new 8, 3) ∧ a_ins 300 3 = some (.dup, 1) ∧ a_ins 300 4 = some (.invokespecial 170, 3) ∧ a_ins 300 7 = some (.astore_n 1, 1) ∧ a_ins 300 8 = some (.new 171, 3) ∧ a_ins 300 11 = some (.dup, 1) ∧ a_ins 300 12 = some (.invokespecial 173, 3) ∧ a_ins 300 15 = some (.astore_n 2, 1) ∧ a_ins 300 16 = some (.iconst 1, 1) ∧ a_ins 300 17 = some (.newarray .long, 2) ∧ a_ins 300 19 = some (.astore_n 3, 1) ∧ a_ins 300 20 = some (.iconst 1, 1) ∧ a_ins 300 21 = some (.newarray .double, 2) ∧ a_ins 300 23 = some (.astore 4, 2) ∧ a_ins 300 25 = some (.iconst 0, 1) ∧ a_ins 300 26 = some (.istore 5, 2) := by decide +kernel
theorem c_x1 : x_iX11 = [a_obj 11] := by rfl
set_option maxRecDepth 100000 in
theorem c_x2 : x_oX11 ++ [a_obj 12] = x_iX12 := by rfl
set_option maxRecDepth 100000 in
theorem c_x3 : x_oX11.length = 364 ∧ x_oX12.length = 769 := by decide +kernel
theorem c_stpE {i : Instr} {len pc : Nat} {al : AL} {st : List Value} {h : AH} {x : AS} (e : a_stp 13 false i len pc al st h = some x) : a_stp (a_own 300) (a_ini 300) i len pc al st h = some x := by rw [c_own, c_ini]; exact e
theorem c_calE {i : Instr} {st : List Value} {h : AH} {x : Option (Nat × List Value × List Value)} (e : a_call 13 i st h = x) : a_call (a_own 300) i st h = x := by rw [c_own]; exact e
theorem c_new1 {pc : Nat} {al : AL} {st : List Value} {h : AH} : a_stp 13 false (.new 8) 3 pc al st h = some (pc + 3, al, .ref h.length :: st, h ++ [a_obj 11], 1, a_cl 11) := a_by5 rfl rfl
theorem c_new2 {pc : Nat} {al : AL} {st : List Value} {h : AH} : a_stp 13 false (.new 171) 3 pc al st h = some (pc + 3, al, .ref h.length :: st, h ++ [a_obj 12], 1, a_cl 12) := a_by5 rfl rfl
theorem c_arL {pc : Nat} {al : AL} {st : List Value} {h : AH} : a_stp 13 false (.newarray .long) 2 pc al (.int 1 :: st) h = some (pc + 2, al, .ref h.length :: st, h ++ [a_row .long 1], 1, 1) := a_by5 rfl rfl
theorem c_arD {pc : Nat} {al : AL} {st : List Value} {h : AH} : a_stp 13 false (.newarray .double) 2 pc al (.int 1 :: st) h = some (pc + 2, al, .ref h.length :: st, h ++ [a_row .double 1], 1, 1) := a_by5 rfl rfl
/-- what the law's start makes -/
def c_mc : Nat := 771
def c_ms : Nat := 0 + a_cl 11 + 5784 + a_cl 12 + 6549 + 1 + 1
theorem c_law0 {vs : List Value} {r : AR} (hr : b_R 13 300 28 (c_al0 (some (.ref 1)) (some (.ref 365)) (some (.ref 770)) (some (.ref 771)) (some (.int 0))) [] ((19, vs) :: c_h0) c_mc c_ms r) : b_R 13 300 0 (a_args 300 [.ref 0]) [] [(19, vs)] 0 0 r := by
  obtain ⟨i0, i3, i4, i7, i8, i11, i12, i15, i16, i17, i19, i20, i21, i23, i25, i26⟩ := c_i0
  have hal : a_args 300 [.ref 0] = c_al0 none none none none none := by decide +kernel
  rw [hal]
  have q11 : b_lim 13 89 [.ref 1] ((19, vs) :: x_iX11) = some (.inl none, (19, vs) :: x_oX11, 363, 5784) := b_lim_of (x_qX11.2 (19, vs))
  have q12 : b_lim 13 162 [.ref 365] ((19, vs) :: x_iX12) = some (.inl none, (19, vs) :: x_oX12, 404, 6549) := b_lim_of (x_qX12.2 (19, vs))
  refine b_R.stp i0 rfl (by decide +kernel) rfl (c_stpE c_new1) ?_
  refine b_R.stp i3 rfl rfl rfl (c_stpE (a_by1 rfl rfl)) ?_
  refine b_R.cal i4 rfl rfl (c_calE (x := some (89, [.ref 1], [.ref 1])) rfl) (by rw [show [(19, vs)] ++ [a_obj 11] = (19, vs) :: x_iX11 by rw [c_x1]; rfl]; exact q11) ?_
  refine b_R.stp i7 rfl rfl rfl (c_stpE (a_by1 rfl rfl)) ?_
  refine b_R.stp i8 rfl (by decide +kernel) rfl (c_stpE c_new2) ?_
  have e1 : (((19, vs) :: x_oX11 : AH)).length = 365 := by rw [List.length_cons, c_x3.1]
  have e2 : ((19, vs) :: x_oX11 : AH) ++ [a_obj 12] = (19, vs) :: x_iX12 := by rw [List.cons_append, c_x2]
  rw [e1, e2]
  refine b_R.stp i11 rfl rfl rfl (c_stpE (a_by1 rfl rfl)) ?_
  refine b_R.cal i12 rfl rfl (c_calE (x := some (162, [.ref 365], [.ref 365])) rfl) q12 ?_
  refine b_R.stp i15 rfl rfl rfl (c_stpE (a_by1 rfl rfl)) ?_
  refine b_R.stp i16 rfl rfl rfl (c_stpE (a_by1 rfl rfl)) ?_
  refine b_R.stp i17 rfl rfl rfl (c_stpE c_arL) ?_
  have e3 : (((19, vs) :: x_oX12 : AH)).length = 770 := by rw [List.length_cons, c_x3.2]
  rw [e3]
  refine b_R.stp i19 rfl rfl rfl (c_stpE (a_by1 rfl rfl)) ?_
  refine b_R.stp i20 rfl rfl rfl (c_stpE (a_by1 rfl rfl)) ?_
  refine b_R.stp i21 rfl rfl rfl (c_stpE c_arD) ?_
  have e4 : (((19, vs) :: x_oX12 : AH) ++ [a_row .long 1]).length = 771 := by rw [List.length_append, e3]; rfl
  have e5 : ((19, vs) :: x_oX12 : AH) ++ [a_row .long 1] ++ [a_row .double 1] = (19, vs) :: c_h0 := by
    show _ = (19, vs) :: (x_oX12 ++ [a_row .long 1, a_row .double 1])
    rw [List.cons_append, List.cons_append, List.append_assoc]; rfl
  rw [e4, e5]
  refine b_R.stp i23 rfl rfl rfl (c_stpE (a_by1 rfl rfl)) ?_
  refine b_R.stp i25 rfl rfl rfl (c_stpE (a_by1 rfl rfl)) ?_
  refine b_R.stp i26 rfl rfl rfl (c_stpE (a_by1 rfl rfl)) ?_
  exact hr
end
/-! part 70.lawtabs -/
section
/-! The law's stretches with the contracts that each uses, by program (wip/genlawtabs.py) -/
def c_lawL : List (BSg × List BRw) := [
  (c_lawS0, [c_r256, c_r168]),
  (c_lawS1, [c_r257, c_r169]),
  (c_lawS2, [c_r258, c_r171]),
  (c_lawS3, [c_r259, c_r173]),
  (c_lawS4, [c_r260, c_r175]),
  (c_lawS5, [c_r261, c_r177]),
  (c_lawS6, [c_r262, c_r179]),
  (c_lawS7, [c_r263, c_r181]),
  (c_lawS8, [c_r264, c_r184]),
  (c_lawS9, [c_r265, c_r185]),
  (c_lawS10, [c_r266, c_r190]),
  (c_lawS11, [c_r267, c_r191]),
  (c_lawS12, [c_r268, c_r192]),
  (c_lawS13, [c_r269, c_r193]),
  (c_lawS14, [c_r270, c_r194]),
  (c_lawS15, [c_r271, c_r195]),
  (c_lawS16, [c_r272, c_r198]),
  (c_lawS17, [c_r273, c_r199]),
  (c_lawS18, [c_r274, c_r201]),
  (c_lawS19, [c_r275, c_r209]),
  (c_lawS20, [c_r276, c_r211]),
  (c_lawS21, [c_r277, c_r213]),
  (c_lawS22, [c_r278, c_r214]),
  (c_lawS23, [c_r279, c_r215]),
  (c_lawS24, [c_r280, c_r216]),
  (c_lawS25, [c_r115, c_r217]),
  (c_lawS26, [c_r281, c_r221]),
  (c_lawS27, [c_r282, c_r222]),
  (c_lawS28, [c_r283, c_r223]),
  (c_lawS29, [c_r284, c_r224]),
  (c_lawS30, [c_r285, c_r226]),
  (c_lawS31, [c_r286, c_r228]),
  (c_lawS32, [c_r287, c_r229]),
  (c_lawS33, [c_r288, c_r230]),
  (c_lawS34, [c_r289, c_r231]),
  (c_lawS35, [c_r290, c_r233]),
  (c_lawS36, [c_r291, c_r234]),
  (c_lawS37, [c_r127, c_r235]),
  (c_lawS38, [c_r292, c_r237]),
  (c_lawS39, [c_r293, c_r247]),
  (c_lawS40, [c_r294, c_r248]),
  (c_lawS41, [c_r295, c_r249]),
  (c_lawS42, [c_r296, c_r250]),
  (c_lawS43, [c_r297, c_r251]),
  (c_lawS44, [c_r134, c_r252]),
  (c_lawS45, [c_r298, c_r253]),
  (c_lawS46, [c_r299, c_r254]),
  (c_lawS47, [c_r137, c_r255]),
  (c_lawS48, [])]
theorem c_lawOK : ∀ q ∈ c_lawL, b_sgc c_K (b_orc c_K q.2 3000 12) q.1 [28] 3000 = true := List.forall_mem_cons.mpr ⟨c_lawC0, List.forall_mem_cons.mpr ⟨c_lawC1, List.forall_mem_cons.mpr ⟨c_lawC2, List.forall_mem_cons.mpr ⟨c_lawC3, List.forall_mem_cons.mpr ⟨c_lawC4, List.forall_mem_cons.mpr ⟨c_lawC5, List.forall_mem_cons.mpr ⟨c_lawC6, List.forall_mem_cons.mpr ⟨c_lawC7, List.forall_mem_cons.mpr ⟨c_lawC8, List.forall_mem_cons.mpr ⟨c_lawC9, List.forall_mem_cons.mpr ⟨c_lawC10, List.forall_mem_cons.mpr ⟨c_lawC11, List.forall_mem_cons.mpr ⟨c_lawC12, List.forall_mem_cons.mpr ⟨c_lawC13, List.forall_mem_cons.mpr ⟨c_lawC14, List.forall_mem_cons.mpr ⟨c_lawC15, List.forall_mem_cons.mpr ⟨c_lawC16, List.forall_mem_cons.mpr ⟨c_lawC17, List.forall_mem_cons.mpr ⟨c_lawC18, List.forall_mem_cons.mpr ⟨c_lawC19, List.forall_mem_cons.mpr ⟨c_lawC20, List.forall_mem_cons.mpr ⟨c_lawC21, List.forall_mem_cons.mpr ⟨c_lawC22, List.forall_mem_cons.mpr ⟨c_lawC23, List.forall_mem_cons.mpr ⟨c_lawC24, List.forall_mem_cons.mpr ⟨c_lawC25, List.forall_mem_cons.mpr ⟨c_lawC26, List.forall_mem_cons.mpr ⟨c_lawC27, List.forall_mem_cons.mpr ⟨c_lawC28, List.forall_mem_cons.mpr ⟨c_lawC29, List.forall_mem_cons.mpr ⟨c_lawC30, List.forall_mem_cons.mpr ⟨c_lawC31, List.forall_mem_cons.mpr ⟨c_lawC32, List.forall_mem_cons.mpr ⟨c_lawC33, List.forall_mem_cons.mpr ⟨c_lawC34, List.forall_mem_cons.mpr ⟨c_lawC35, List.forall_mem_cons.mpr ⟨c_lawC36, List.forall_mem_cons.mpr ⟨c_lawC37, List.forall_mem_cons.mpr ⟨c_lawC38, List.forall_mem_cons.mpr ⟨c_lawC39, List.forall_mem_cons.mpr ⟨c_lawC40, List.forall_mem_cons.mpr ⟨c_lawC41, List.forall_mem_cons.mpr ⟨c_lawC42, List.forall_mem_cons.mpr ⟨c_lawC43, List.forall_mem_cons.mpr ⟨c_lawC44, List.forall_mem_cons.mpr ⟨c_lawC45, List.forall_mem_cons.mpr ⟨c_lawC46, List.forall_mem_cons.mpr ⟨c_lawC47, List.forall_mem_cons.mpr ⟨c_lawC48, fun _ h => absurd h List.not_mem_nil⟩⟩⟩⟩⟩⟩⟩⟩⟩⟩⟩⟩⟩⟩⟩⟩⟩⟩⟩⟩⟩⟩⟩⟩⟩⟩⟩⟩⟩⟩⟩⟩⟩⟩⟩⟩⟩⟩⟩⟩⟩⟩⟩⟩⟩⟩⟩⟩⟩
/-- all contracts that the law uses -/
def c_lawR : List BRw := [c_r256, c_r168, c_r257, c_r169, c_r258, c_r171, c_r259, c_r173, c_r260, c_r175, c_r261, c_r177, c_r262, c_r179, c_r263, c_r181, c_r264, c_r184, c_r265, c_r185, c_r266, c_r190, c_r267, c_r191, c_r268, c_r192, c_r269, c_r193, c_r270, c_r194, c_r271, c_r195, c_r272, c_r198, c_r273, c_r199, c_r274, c_r201, c_r275, c_r209, c_r276, c_r211, c_r277, c_r213, c_r278, c_r214, c_r279, c_r215, c_r280, c_r216, c_r115, c_r217, c_r281, c_r221, c_r282, c_r222, c_r283, c_r223, c_r284, c_r224, c_r285, c_r226, c_r286, c_r228, c_r287, c_r229, c_r288, c_r230, c_r289, c_r231, c_r290, c_r233, c_r291, c_r234, c_r127, c_r235, c_r292, c_r237, c_r293, c_r247, c_r294, c_r248, c_r295, c_r249, c_r296, c_r250, c_r297, c_r251, c_r134, c_r252, c_r298, c_r253, c_r299, c_r254, c_r137, c_r255]
def c_bl28 : BL := c_law28.2.1.1
def c_E28 : BQ := c_law28.2.1.2.2.1
def c_E28x : BQ := c_E28.set 0 (0, 0, 3078)
/-- the head's symbols behind a turn -/
def c_σ28 : List BV := [(1, 0, 6), (1, 1, 0)]
def c_F28 : BF := c_law28.2.1.2.2.2.1
/-- each place that the head leads to has its stretch, and each stretch leads back -/
def c_eqF : BF → BF → Bool
  | [], [] => true
  | f :: l, g :: m => (decide (f.1 = g.1) && (decide (f.2.1 = g.2.1) && decide (f.2.2 = g.2.2))) && c_eqF l m
  | _, _ => false
theorem c_eqF_ok : ∀ {a b : BF}, c_eqF a b = true → a = b
  | [], [], _ => rfl
  | f :: l, g :: m, h => by
    rw [c_eqF, Bool.and_eq_true, Bool.and_eq_true, Bool.and_eq_true, decide_eq_true_eq, decide_eq_true_eq, decide_eq_true_eq] at h
    obtain ⟨⟨h1, h2, h3⟩, h4⟩ := h
    rw [c_eqF_ok h4]
    obtain ⟨x, y, z⟩ := f
    obtain ⟨x', y', z'⟩ := g
    have h1 : x = x' := h1
    have h2 : y = y' := h2
    have h3 : z = z' := h3
    rw [h1, h2, h3]
  | [], _ :: _, h => by cases h
  | _ :: _, [], h => by cases h
def c_lawB : Bool := (c_law28.2.2.2.all fun p => (match p.1 with
  | .inl k => decide (k = .inl (some (0, 0, 1))) && decide (p.2.2 = (0, 0))
  | .inr z => decide (p.2.1.1 = []) && (c_eqF p.2.1.2.1 c_F28 && (decide (p.2.1.2.2 = [(0, 1, -6)]) && decide (p.2.2 = (0, 0)))) && ((decide (z.2.1 = c_bl28) && decide (z.2.2 = [])) && c_lawL.any fun q => decide (q.1.1 = (300, z.1)) && (decide (q.1.2.1.1 = c_bl28) && (decide (q.1.2.1.2.1 = []) && (decide (q.1.2.1.2.2.1 = c_E28) && (c_eqF q.1.2.1.2.2.2.1 c_F28 && (decide (q.1.2.1.2.2.2.2 = [(0, 1, -6)]) || decide (q.1.2.1.2.2.2.2 = [(0, 0, 1), (0, 1, -6)]))))))))) && (c_lawL.all fun q => q.1.2.2.2.all fun p => (match p.1 with
  | .inl k => decide (k = .inl (some (0, 0, 0))) && (decide (p.2.2.1 ≤ 2) && decide (p.2.2.2 ≤ 66))
  | .inr z => decide (z.1 = 28) && (decide (p.2.2.1 ≤ 2) && (decide (p.2.2.2 ≤ 66) && (decide (z.2.2 = []) && (decide (p.2.1.2.2 = [(0, 1, -6)]) && (decide (p.2.1.1.length = 0) && (b_locs c_σ28 c_bl28 z.2.1 && b_inst c_K c_σ28 (c_E28x, c_F28, []) (c_E28 ++ p.2.1.1, p.2.1.2.1, p.2.1.2.2, [], [])))))))))
theorem c_lawB_ok : c_lawB = true := by decide +kernel
end
