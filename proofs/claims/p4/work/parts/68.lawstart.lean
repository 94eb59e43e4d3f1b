/-! part 68.lawstart -/
section
/-! The law's start, by hand -/
theorem b_R.stp {d mi pc pc' len mc ms c s : Nat} {i : Instr} {al al' : AL} {st st' : List Value} {h h' : AH} {r : AR} (hi : a_ins mi pc = some (i, len)) (h1 : a_end mi i st = none) (h2 : a_trw mi pc i st = none) (h3 : a_call (a_own mi) i st h = none) (h4 : a_stp (a_own mi) (a_ini mi) i len pc al st h = some (pc', al', st', h', c, s)) (hr : b_R d mi pc' al' st' h' (mc + c) (ms + s) r) : b_R d mi pc al st h mc ms r := by
  obtain ⟨f, hf⟩ := hr
  refine ⟨f + 1, ?_⟩
  rw [a_go, hi]
  dsimp only
  rw [h1]
  dsimp only
  rw [h2]
  dsimp only
  rw [h3]
  dsimp only
  rw [h4]
  exact hf
theorem b_R.cal {d mi pc len mt mc ms c s : Nat} {i : Instr} {al : AL} {st as rest : List Value} {h h' : AH} {v : Option Value} {r : AR} (hi : a_ins mi pc = some (i, len)) (h1 : a_end mi i st = none) (h2 : a_trw mi pc i st = none) (h3 : a_call (a_own mi) i st h = some (mt, as, rest)) (h4 : b_lim d mt as h = some (.inl v, h', c, s)) (hr : b_R d mi (pc + 3) al (v.toList ++ rest) h' (mc + c) (ms + s) r) : b_R d mi pc al st h mc ms r := by
  obtain ⟨f, hf⟩ := hr
  refine ⟨f + 1, ?_⟩
  rw [a_go, hi]
  dsimp only
  rw [h1]
  dsimp only
  rw [h2]
  dsimp only
  rw [h3]
  dsimp only
  rw [h4]
  exact hf
end
/-! part 69.law0 -/
section
/-! From the law's first instruction to its loop -/
def c_al0 (a b c d : Option Value) (i : Option Value) : AL := [some (.ref 0), a, b, c, d, i, none, none, none]
theorem c_own : a_own 301 = 13 := by decide +kernel
theorem c_ini : a_ini 301 = false := by decide +kernel
theorem c_i0 : a_ins 301 0 = some (.new 8, 3) ∧ a_ins 301 3 = some (.dup, 1) ∧ a_ins 301 4 = some (.invokespecial 170, 3) ∧ a_ins 301 7 = some (.astore_n 1, 1) ∧ a_ins 301 8 = some (.new 171, 3) ∧ a_ins 301 11 = some (.dup, 1) ∧ a_ins 301 12 = some (.invokespecial 173, 3) ∧ a_ins 301 15 = some (.astore_n 2, 1) ∧ a_ins 301 16 = some (.iconst 1, 1) ∧ a_ins 301 17 = some (.newarray .long, 2) ∧ a_ins 301 19 = some (.astore_n 3, 1) ∧ a_ins 301 20 = some (.iconst 1, 1) ∧ a_ins 301 21 = some (.newarray .double, 2) ∧ a_ins 301 23 = some (.astore 4, 2) ∧ a_ins 301 25 = some (.iconst 0, 1) ∧ a_ins 301 26 = some (.istore 5, 2) := by decide +kernel
theorem c_x1 : x_iX11 = [a_obj 11] := by rfl
set_option maxRecDepth 100000 in
theorem c_x2 : x_oX11 ++ [a_obj 12] = x_iX12 := by rfl
set_option maxRecDepth 100000 in
theorem c_x3 : x_oX11.length = 364 ∧ x_oX12.length = 769 := by decide +kernel
theorem c_stpE {i : Instr} {len pc : Nat} {al : AL} {st : List Value} {h : AH} {x : AS} (e : a_stp 13 false i len pc al st h = some x) : a_stp (a_own 301) (a_ini 301) i len pc al st h = some x := by rw [c_own, c_ini]; exact e
theorem c_calE {i : Instr} {st : List Value} {h : AH} {x : Option (Nat × List Value × List Value)} (e : a_call 13 i st h = x) : a_call (a_own 301) i st h = x := by rw [c_own]; exact e
theorem c_new1 {pc : Nat} {al : AL} {st : List Value} {h : AH} : a_stp 13 false (.new 8) 3 pc al st h = some (pc + 3, al, .ref h.length :: st, h ++ [a_obj 11], 1, a_cl 11) := a_by5 rfl rfl
theorem c_new2 {pc : Nat} {al : AL} {st : List Value} {h : AH} : a_stp 13 false (.new 171) 3 pc al st h = some (pc + 3, al, .ref h.length :: st, h ++ [a_obj 12], 1, a_cl 12) := a_by5 rfl rfl
theorem c_arL {pc : Nat} {al : AL} {st : List Value} {h : AH} : a_stp 13 false (.newarray .long) 2 pc al (.int 1 :: st) h = some (pc + 2, al, .ref h.length :: st, h ++ [a_row .long 1], 1, 1) := a_by5 rfl rfl
theorem c_arD {pc : Nat} {al : AL} {st : List Value} {h : AH} : a_stp 13 false (.newarray .double) 2 pc al (.int 1 :: st) h = some (pc + 2, al, .ref h.length :: st, h ++ [a_row .double 1], 1, 1) := a_by5 rfl rfl
/-- what the law's start makes -/
def c_mc : Nat := 771
def c_ms : Nat := 0 + a_cl 11 + 5784 + a_cl 12 + 6549 + 1 + 1
theorem c_law0 {vs : List Value} {r : AR} (hr : b_R 13 301 28 (c_al0 (some (.ref 1)) (some (.ref 365)) (some (.ref 770)) (some (.ref 771)) (some (.int 0))) [] ((19, vs) :: c_h0) c_mc c_ms r) : b_R 13 301 0 (a_args 301 [.ref 0]) [] [(19, vs)] 0 0 r := by
  obtain ⟨i0, i3, i4, i7, i8, i11, i12, i15, i16, i17, i19, i20, i21, i23, i25, i26⟩ := c_i0
  have hal : a_args 301 [.ref 0] = c_al0 none none none none none := by decide +kernel
  rw [hal]
  have q11 : b_lim 13 89 [.ref 1] ((19, vs) :: x_iX11) = some (.inl none, (19, vs) :: x_oX11, 363, 5784) := b_lim_of (x_qX11.2 (19, vs))
  have q12 : b_lim 13 162 [.ref 365] ((19, vs) :: x_iX12) = some (.inl none, (19, vs) :: x_oX12, 404, 6549) := b_lim_of (x_qX12.2 (19, vs))
  refine b_R.stp i0 rfl (by decide +kernel) rfl (c_stpE c_new1) ?_
  refine b_R.stp i3 rfl rfl rfl (c_stpE (a_by1 rfl rfl)) ?_
  refine b_R.cal i4 rfl rfl (c_calE (x := some (89, [.ref 1], [.ref 1])) rfl) (by rw [show [(19, vs)] ++ [a_obj 11] = (19, vs) :: x_iX11 by rw [c_x1]; rfl]; exact q11) ?_
  refine b_R.stp i7 rfl rfl rfl (c_stpE (a_by1 rfl rfl)) ?_
  refine b_R.stp i8 rfl (by decide +kernel) rfl (c_stpE c_new2) ?_
  have e1 : (((19, vs) :: x_oX11 : AH)).length = 365 := by rw [List.length_cons, c_x3.1]
  have e2 : ((19, vs) :: x_oX11 : AH) ++ [a_obj 12] = (19, vs) :: x_iX12 := by rw [List.cons_append, c_x2]
  rw [e1, e2]
  refine b_R.stp i11 rfl rfl rfl (c_stpE (a_by1 rfl rfl)) ?_
  refine b_R.cal i12 rfl rfl (c_calE (x := some (162, [.ref 365], [.ref 365])) rfl) q12 ?_
  refine b_R.stp i15 rfl rfl rfl (c_stpE (a_by1 rfl rfl)) ?_
  refine b_R.stp i16 rfl rfl rfl (c_stpE (a_by1 rfl rfl)) ?_
  refine b_R.stp i17 rfl rfl rfl (c_stpE c_arL) ?_
  have e3 : (((19, vs) :: x_oX12 : AH)).length = 770 := by rw [List.length_cons, c_x3.2]
  rw [e3]
  refine b_R.stp i19 rfl rfl rfl (c_stpE (a_by1 rfl rfl)) ?_
  refine b_R.stp i20 rfl rfl rfl (c_stpE (a_by1 rfl rfl)) ?_
  refine b_R.stp i21 rfl rfl rfl (c_stpE c_arD) ?_
  have e4 : (((19, vs) :: x_oX12 : AH) ++ [a_row .long 1]).length = 771 := by rw [List.length_append, e3]; rfl
  have e5 : ((19, vs) :: x_oX12 : AH) ++ [a_row .long 1] ++ [a_row .double 1] = (19, vs) :: c_h0 := by
    show _ = (19, vs) :: (x_oX12 ++ [a_row .long 1, a_row .double 1])
    rw [List.cons_append, List.cons_append, List.append_assoc]; rfl
  rw [e4, e5]
  refine b_R.stp i23 rfl rfl rfl (c_stpE (a_by1 rfl rfl)) ?_
  refine b_R.stp i25 rfl rfl rfl (c_stpE (a_by1 rfl rfl)) ?_
  refine b_R.stp i26 rfl rfl rfl (c_stpE (a_by1 rfl rfl)) ?_
  exact hr
end
/-! part 70.lawtabs -/
section
/-! The law's stretches with the contracts that each uses, by program (wip/genlawtabs.py) -/
def c_lawL : List (BSg × List BRw) := [
  (c_lawS0, [c_r256, c_r168]),
  (c_lawS1, [c_r257, c_r169]),
  (c_lawS2, [c_r258, c_r171]),
  (c_lawS3, [c_r259, c_r173]),
  (c_lawS4, [c_r260, c_r175]),
  (c_lawS5, [c_r261, c_r177]),
  (c_lawS6, [c_r262, c_r179]),
  (c_lawS7, [c_r263, c_r181]),
  (c_lawS8, [c_r264, c_r184]),
  (c_lawS9, [c_r265, c_r185]),
  (c_lawS10, [c_r266, c_r190]),
  (c_lawS11, [c_r267, c_r191]),
  (c_lawS12, [c_r268, c_r192]),
  (c_lawS13, [c_r269, c_r193]),
  (c_lawS14, [c_r270, c_r194]),
  (c_lawS15, [c_r271, c_r195]),
  (c_lawS16, [c_r272, c_r198]),
  (c_lawS17, [c_r273, c_r199]),
  (c_lawS18, [c_r274, c_r201]),
  (c_lawS19, [c_r275, c_r209]),
  (c_lawS20, [c_r276, c_r211]),
  (c_lawS21, [c_r277, c_r213]),
  (c_lawS22, [c_r278, c_r214]),
  (c_lawS23, [c_r279, c_r215]),
  (c_lawS24, [c_r280, c_r216]),
  (c_lawS25, [c_r115, c_r217]),
  (c_lawS26, [c_r281, c_r221]),
  (c_lawS27, [c_r282, c_r222]),
  (c_lawS28, [c_r283, c_r223]),
  (c_lawS29, [c_r284, c_r224]),
  (c_lawS30, [c_r285, c_r226]),
  (c_lawS31, [c_r286, c_r228]),
  (c_lawS32, [c_r287, c_r229]),
  (c_lawS33, [c_r288, c_r230]),
  (c_lawS34, [c_r289, c_r231]),
  (c_lawS35, [c_r290, c_r233]),
  (c_lawS36, [c_r291, c_r234]),
  (c_lawS37, [c_r127, c_r235]),
  (c_lawS38, [c_r292, c_r237]),
  (c_lawS39, [c_r293, c_r247]),
  (c_lawS40, [c_r294, c_r248]),
  (c_lawS41, [c_r295, c_r249]),
  (c_lawS42, [c_r296, c_r250]),
  (c_lawS43, [c_r297, c_r251]),
  (c_lawS44, [c_r134, c_r252]),
  (c_lawS45, [c_r298, c_r253]),
  (c_lawS46, [c_r299, c_r254]),
  (c_lawS47, [c_r137, c_r255]),
  (c_lawS48, [])]
theorem c_lawOK : ∀ q ∈ c_lawL, b_sgc c_K (b_orc c_K q.2 3000 12) q.1 [28] 3000 = true := List.forall_mem_cons.mpr ⟨c_lawC0, List.forall_mem_cons.mpr ⟨c_lawC1, List.forall_mem_cons.mpr ⟨c_lawC2, List.forall_mem_cons.mpr ⟨c_lawC3, List.forall_mem_cons.mpr ⟨c_lawC4, List.forall_mem_cons.mpr ⟨c_lawC5, List.forall_mem_cons.mpr ⟨c_lawC6, List.forall_mem_cons.mpr ⟨c_lawC7, List.forall_mem_cons.mpr ⟨c_lawC8, List.forall_mem_cons.mpr ⟨c_lawC9, List.forall_mem_cons.mpr ⟨c_lawC10, List.forall_mem_cons.mpr ⟨c_lawC11, List.forall_mem_cons.mpr ⟨c_lawC12, List.forall_mem_cons.mpr ⟨c_lawC13, List.forall_mem_cons.mpr ⟨c_lawC14, List.forall_mem_cons.mpr ⟨c_lawC15, List.forall_mem_cons.mpr ⟨c_lawC16, List.forall_mem_cons.mpr ⟨c_lawC17, List.forall_mem_cons.mpr ⟨c_lawC18, List.forall_mem_cons.mpr ⟨c_lawC19, List.forall_mem_cons.mpr ⟨c_lawC20, List.forall_mem_cons.mpr ⟨c_lawC21, List.forall_mem_cons.mpr ⟨c_lawC22, List.forall_mem_cons.mpr ⟨c_lawC23, List.forall_mem_cons.mpr ⟨c_lawC24, List.forall_mem_cons.mpr ⟨c_lawC25, List.forall_mem_cons.mpr ⟨c_lawC26, List.forall_mem_cons.mpr ⟨c_lawC27, List.forall_mem_cons.mpr ⟨c_lawC28, List.forall_mem_cons.mpr ⟨c_lawC29, List.forall_mem_cons.mpr ⟨c_lawC30, List.forall_mem_cons.mpr ⟨c_lawC31, List.forall_mem_cons.mpr ⟨c_lawC32, List.forall_mem_cons.mpr ⟨c_lawC33, List.forall_mem_cons.mpr ⟨c_lawC34, List.forall_mem_cons.mpr ⟨c_lawC35, List.forall_mem_cons.mpr ⟨c_lawC36, List.forall_mem_cons.mpr ⟨c_lawC37, List.forall_mem_cons.mpr ⟨c_lawC38, List.forall_mem_cons.mpr ⟨c_lawC39, List.forall_mem_cons.mpr ⟨c_lawC40, List.forall_mem_cons.mpr ⟨c_lawC41, List.forall_mem_cons.mpr ⟨c_lawC42, List.forall_mem_cons.mpr ⟨c_lawC43, List.forall_mem_cons.mpr ⟨c_lawC44, List.forall_mem_cons.mpr ⟨c_lawC45, List.forall_mem_cons.mpr ⟨c_lawC46, List.forall_mem_cons.mpr ⟨c_lawC47, List.forall_mem_cons.mpr ⟨c_lawC48, fun _ h => absurd h List.not_mem_nil⟩⟩⟩⟩⟩⟩⟩⟩⟩⟩⟩⟩⟩⟩⟩⟩⟩⟩⟩⟩⟩⟩⟩⟩⟩⟩⟩⟩⟩⟩⟩⟩⟩⟩⟩⟩⟩⟩⟩⟩⟩⟩⟩⟩⟩⟩⟩⟩⟩
/-- all contracts that the law uses -/
def c_lawR : List BRw := [c_r256, c_r168, c_r257, c_r169, c_r258, c_r171, c_r259, c_r173, c_r260, c_r175, c_r261, c_r177, c_r262, c_r179, c_r263, c_r181, c_r264, c_r184, c_r265, c_r185, c_r266, c_r190, c_r267, c_r191, c_r268, c_r192, c_r269, c_r193, c_r270, c_r194, c_r271, c_r195, c_r272, c_r198, c_r273, c_r199, c_r274, c_r201, c_r275, c_r209, c_r276, c_r211, c_r277, c_r213, c_r278, c_r214, c_r279, c_r215, c_r280, c_r216, c_r115, c_r217, c_r281, c_r221, c_r282, c_r222, c_r283, c_r223, c_r284, c_r224, c_r285, c_r226, c_r286, c_r228, c_r287, c_r229, c_r288, c_r230, c_r289, c_r231, c_r290, c_r233, c_r291, c_r234, c_r127, c_r235, c_r292, c_r237, c_r293, c_r247, c_r294, c_r248, c_r295, c_r249, c_r296, c_r250, c_r297, c_r251, c_r134, c_r252, c_r298, c_r253, c_r299, c_r254, c_r137, c_r255]
def c_bl28 : BL := c_law28.2.1.1
def c_E28 : BQ := c_law28.2.1.2.2.1
def c_E28x : BQ := c_E28.set 0 (0, 0, 3078)
/-- the head's symbols behind a turn -/
def c_σ28 : List BV := [(1, 0, 6), (1, 1, 0)]
def c_F28 : BF := c_law28.2.1.2.2.2.1
/-- each place that the head leads to has its stretch, and each stretch leads back -/
def c_eqF : BF → BF → Bool
  | [], [] => true
  | f :: l, g :: m => (decide (f.1 = g.1) && (decide (f.2.1 = g.2.1) && decide (f.2.2 = g.2.2))) && c_eqF l m
  | _, _ => false
theorem c_eqF_ok : ∀ {a b : BF}, c_eqF a b = true → a = b
  | [], [], _ => rfl
  | f :: l, g :: m, h => by
    rw [c_eqF, Bool.and_eq_true, Bool.and_eq_true, Bool.and_eq_true, decide_eq_true_eq, decide_eq_true_eq, decide_eq_true_eq] at h
    obtain ⟨⟨h1, h2, h3⟩, h4⟩ := h
    rw [c_eqF_ok h4]
    obtain ⟨x, y, z⟩ := f
    obtain ⟨x', y', z'⟩ := g
    have h1 : x = x' := h1
    have h2 : y = y' := h2
    have h3 : z = z' := h3
    rw [h1, h2, h3]
  | [], _ :: _, h => by cases h
  | _ :: _, [], h => by cases h
def c_lawB : Bool := (c_law28.2.2.2.all fun p => (match p.1 with
  | .inl k => decide (k = .inl (some (0, 0, 1))) && decide (p.2.2 = (0, 0))
  | .inr z => decide (p.2.1.1 = []) && (c_eqF p.2.1.2.1 c_F28 && (decide (p.2.1.2.2 = [(0, 1, -6)]) && decide (p.2.2 = (0, 0)))) && ((decide (z.2.1 = c_bl28) && decide (z.2.2 = [])) && c_lawL.any fun q => decide (q.1.1 = (301, z.1)) && (decide (q.1.2.1.1 = c_bl28) && (decide (q.1.2.1.2.1 = []) && (decide (q.1.2.1.2.2.1 = c_E28) && (c_eqF q.1.2.1.2.2.2.1 c_F28 && (decide (q.1.2.1.2.2.2.2 = [(0, 1, -6)]) || decide (q.1.2.1.2.2.2.2 = [(0, 0, 1), (0, 1, -6)]))))))))) && (c_lawL.all fun q => q.1.2.2.2.all fun p => (match p.1 with
  | .inl k => decide (k = .inl (some (0, 0, 0))) && (decide (p.2.2.1 ≤ 2) && decide (p.2.2.2 ≤ 66))
  | .inr z => decide (z.1 = 28) && (decide (p.2.2.1 ≤ 2) && (decide (p.2.2.2 ≤ 66) && (decide (z.2.2 = []) && (decide (p.2.1.2.2 = [(0, 1, -6)]) && (decide (p.2.1.1.length = 0) && (b_locs c_σ28 c_bl28 z.2.1 && b_inst c_K c_σ28 (c_E28x, c_F28, []) (c_E28 ++ p.2.1.1, p.2.1.2.1, p.2.1.2.2, [], [])))))))))
theorem c_lawB_ok : c_lawB = true := by decide +kernel
end
/-! part 71.loop -/
section
/-! The law's loop: turn by turn -/
theorem c_turn (hv : ∀ q ∈ c_lawL, ∀ R ∈ q.2, b_valid c_K R) : ∀ (n : Nat) (ν : BN) (al : AL) (h : AH) (mc ms : Nat), (ν 1 - ν 0 + 6).toNat < n → b_L c_E28.length ν c_bl28 al → b_G c_K ν h h (c_E28, c_F28, [], [], []) → ∃ r, b_R 12 301 28 al [] h mc ms r ∧ (∃ x : Int32, r.1 = .inl (some (.int x))) ∧ r.2.2.1 ≤ mc + 2 * n ∧ r.2.2.2 ≤ ms + 66 * n
  | 0, ν, al, h, mc, ms, hn, _, _ => absurd hn (Nat.not_lt_zero _)
  | n + 1, ν, al, h, mc, ms, hn, hl, g => by
    have hB := c_lawB_ok
    unfold c_lawB at hB
    rw [Bool.and_eq_true] at hB
    obtain ⟨B1, B2⟩ := hB
    obtain ⟨p, p1, ν1, h1, x1, g1, q1⟩ := b_sgc_ok (S := c_law28) (mc := mc) (ms := ms) c_hJ (b_orc_ok c_hJ (tab := []) (fun _ h => absurd h List.not_mem_nil) 3000 12) c_law28C hl b_S.nil g
    have k1 := List.all_eq_true.mp B1 p p1
    unfold b_sgq at q1
    cases hp : p.1 with
    | inl k =>
      rw [hp] at k1 q1
      dsimp only at k1 q1
      rw [Bool.and_eq_true, decide_eq_true_eq, decide_eq_true_eq] at k1
      obtain ⟨r, r1, r2, r3, r4⟩ := q1
      rw [k1.1] at r2
      rw [k1.2] at r4
      refine ⟨r, r1, ?_, by rw [r4]; show mc + 0 ≤ _; omega, by rw [r4]; show ms + 0 ≤ _; omega⟩
      cases hr : r.1 with
      | inr k' => rw [hr] at r2; exact r2.elim
      | inl v =>
        rw [hr] at r2
        cases v with
        | none => exact r2.elim
        | some v =>
          obtain ⟨x, rfl, hx⟩ := b_v.int (b := (0, 0, 1)) r2 (by decide)
          exact ⟨x, rfl⟩
    | inr z =>
      obtain ⟨pc, blz, bsz⟩ := z
      rw [hp] at k1 q1
      dsimp only at k1 q1
      simp only [Bool.and_eq_true, decide_eq_true_eq] at k1
      obtain ⟨⟨a1, a2, a3, a4⟩, ⟨a5, a6⟩, a7⟩ := k1
      obtain ⟨q, b1, b2⟩ := List.any_eq_true.mp a7
      simp only [Bool.and_eq_true, Bool.or_eq_true, decide_eq_true_eq] at b2
      obtain ⟨b2, b3, b4, b5, b6, b7⟩ := b2
      obtain ⟨al1, st1, d1, d2, d3⟩ := q1
      subst a5
      subst a6
      obtain rfl := d2.inv0
      have eF := c_eqF_ok a2
      have eF2 := c_eqF_ok b6
      have lE : (c_law28.2.1.2.2.1 ++ p.2.1.1).length = c_E28.length := by rw [a1, List.append_nil]; rfl
      have g1' : b_G c_K ν1 h1 h1 (q.1.2.1.2.2.1, q.1.2.1.2.2.2.1, q.1.2.1.2.2.2.2, [], []) := by
        rw [b5, eF2]
        rw [a1, List.append_nil, eF, a3] at g1
        refine ⟨g1.1, g1.2.1, fun c hc => ?_, (fun o ho => by cases ho), g1.2.2.2.2.1, b_frm.rf⟩
        have hc : c ∈ q.1.2.1.2.2.2.2 := hc
        rcases b7 with b7 | b7 <;> rw [b7] at hc
        · exact g1.2.2.1 c hc
        · rcases List.mem_cons.mp hc with e | hc
          · rw [e]
            exact ⟨show 0 < c_E28.length by decide, show 0 < c_E28.length by decide, show ν1 0 ≤ ν1 0 + 1 by omega⟩
          · exact g1.2.2.1 c hc
      have d1' : b_L q.1.2.1.2.2.1.length ν1 q.1.2.1.1 al1 := by
        rw [b5, b3, ← lE]; exact d1
      have ok := c_lawOK q b1
      obtain ⟨p', p1', ν2, h2, x2, g2, q2⟩ := b_sgc_ok (S := q.1) (mc := mc) (ms := ms) (st := []) c_hJ (b_orc_ok c_hJ (hv q b1) 3000 12) ok d1' (by rw [b4]; exact b_S.nil) g1'
      have k2 := List.all_eq_true.mp (List.all_eq_true.mp B2 q b1) p' p1'
      unfold b_sgq at q2
      cases hp' : p'.1 with
      | inl k =>
        rw [hp'] at k2 q2
        dsimp only at k2 q2
        simp only [Bool.and_eq_true, decide_eq_true_eq] at k2
        obtain ⟨k2, k3, k4⟩ := k2
        obtain ⟨r, r1, r2, r3, r4⟩ := q2
        rw [k2] at r2
        have cz : p.2.2 = (0, 0) := a4
        rw [b2] at r1
        have d3' := d3 r (by rw [cz]; exact r1)
        refine ⟨r, d3', ?_, by rw [r4]; show mc + p'.2.2.1 ≤ _; omega, by rw [r4]; show ms + p'.2.2.2 ≤ _; omega⟩
        cases hr : r.1 with
        | inr k' => rw [hr] at r2; exact r2.elim
        | inl v =>
          rw [hr] at r2
          cases v with
          | none => exact r2.elim
          | some v =>
            obtain ⟨x, rfl, hx⟩ := b_v.int (b := (0, 0, 0)) r2 (by decide)
            exact ⟨x, rfl⟩
      | inr z =>
        obtain ⟨pc', bl', bs'⟩ := z
        rw [hp'] at k2 q2
        dsimp only at k2 q2
        simp only [Bool.and_eq_true, decide_eq_true_eq] at k2
        obtain ⟨c1, c2, c3, c4, c5, c6, c7, c8⟩ := k2
        obtain ⟨al2, st2, e1, e2, e3⟩ := q2
        subst c1
        subst c4
        obtain rfl := e2.inv0
        rw [b5] at g2 e1 x2
        have c8' : b_inst c_K c_σ28 (c_E28x, c_F28, []) (c_E28 ++ p'.2.1.1, p'.2.1.2.1, p'.2.1.2.2, [], q.1.2.2.1) = true := c8
        obtain ⟨i1, i2, i3, i4, i5⟩ := b_inst_ok g2 c8'
        have l2 := b_locs_ok (ν := ν2) c7 e1
        have gx : b_G c_K (b_vT c_σ28 ν2) h2 h2 (c_E28x, c_F28, [], [], []) := ⟨i3, i4, i5, (fun o ho => by cases ho), g2.2.2.2.2.1, b_frm.rf⟩
        have v0 : b_vT c_σ28 ν2 0 = ν2 0 + 6 := rfl
        have v1 : b_vT c_σ28 ν2 1 = ν2 1 := by show ν2 1 + 0 = ν2 1; omega
        have hC : ν2 0 ≤ ν2 1 + (-6) := by
          have := g2.2.2.1 (0, 1, -6) (by rw [c5]; exact List.mem_cons_self)
          exact this.2.2
        have s1 : 0 ≤ ν2 1 ∧ ν2 1 ≤ 3072 := by
          have := g2.1 1 (0, 0, 3072) (by rw [List.getElem?_append_left (by decide)]; rfl)
          unfold b_q at this
          rw [if_pos rfl] at this
          exact this
        have s0 : 0 ≤ ν2 0 ∧ ν2 0 ≤ 3072 := by
          have := g2.1 0 (0, 0, 3072) (by rw [List.getElem?_append_left (by decide)]; rfl)
          unfold b_q at this
          rw [if_pos rfl] at this
          exact this
        obtain ⟨gz, -⟩ := b_setQ gx (n := 0) (lo := 0) (hi := 3072) (by rw [v0]; omega) (by rw [v0]; omega)
        have n0 : ν2 0 = ν 0 := (x2.2 0 (by decide)).trans (x1.2 0 (by decide))
        have n1 : ν2 1 = ν 1 := (x2.2 1 (by decide)).trans (x1.2 1 (by decide))
        obtain ⟨r, r1, r2, r3, r4⟩ := c_turn hv n (b_vT c_σ28 ν2) al2 h2 (mc + p'.2.2.1) (ms + p'.2.2.2) (by rw [v0, v1]; omega) l2 gz
        rw [b2] at e3
        have f1 := e3 r r1
        have cz : p.2.2 = (0, 0) := a4
        have d3' := d3 r (by rw [cz]; exact f1)
        exact ⟨r, d3', r2, by omega, by omega⟩
end
/-! part 71s00 -/
section
/-! The families of cells, by program (wip/s/gentab.py): first cell, (step, number) by two indices, an array or not, by place (an array: once) the family pointed to and which index a place tells -/
abbrev ZF : Type := (Nat × (Nat × Nat) × (Nat × Nat)) × Nat × List (Nat × Nat)
def z_tab : List ZF := [
  ((1, (0, 1), (0, 1)), 0, [(2, 0), (3, 0), (5, 0), (12, 0), (0, 0), (21, 0), (0, 0), (27, 0), (34, 0), (36, 0), (42, 0), (48, 0), (0, 0), (49, 0), (50, 0)]),
  ((2, (0, 1), (0, 1)), 0, [(3, 0), (5, 0), (12, 0), (15, 0), (0, 0), (0, 0), (19, 0), (20, 0), (0, 0)]),
  ((3, (0, 1), (0, 1)), 1, [(4, 1)]),
  ((17, (1, 20), (0, 1)), 0, [(0, 0), (0, 0), (0, 0), (0, 0), (0, 0), (0, 0), (0, 0), (0, 0), (0, 0)]),
  ((4, (0, 1), (0, 1)), 0, [(6, 0), (7, 0), (0, 0), (8, 0), (9, 0), (10, 0), (11, 0), (0, 0)]),
  ((5, (0, 1), (0, 1)), 1, []),
  ((6, (0, 1), (0, 1)), 1, []),
  ((7, (0, 1), (0, 1)), 1, []),
  ((8, (0, 1), (0, 1)), 1, []),
  ((9, (0, 1), (0, 1)), 1, []),
  ((10, (0, 1), (0, 1)), 1, []),
  ((11, (0, 1), (0, 1)), 0, [(13, 0), (14, 0), (0, 0), (0, 0)]),
  ((12, (0, 1), (0, 1)), 1, []),
  ((13, (0, 1), (0, 1)), 1, []),
  ((14, (0, 1), (0, 1)), 1, [(16, 1)]),
  ((37, (3, 60), (0, 1)), 0, [(0, 0), (0, 0), (0, 0), (0, 0), (0, 0), (0, 0), (17, 0), (0, 0), (18, 0)]),
  ((38, (3, 60), (0, 1)), 1, []),
  ((39, (3, 60), (0, 1)), 1, []),
  ((15, (0, 1), (0, 1)), 1, []),
  ((16, (0, 1), (0, 1)), 1, []),
  ((217, (0, 1), (0, 1)), 1, [(22, 1)]),
  ((280, (17, 5), (0, 1)), 0, [(0, 0), (0, 0), (0, 0), (0, 0), (0, 0), (0, 0), (0, 0), (23, 0), (0, 0)]),
  ((281, (17, 5), (0, 1)), 1, [(24, 2)]),
  ((282, (17, 5), (3, 5)), 0, [(0, 0), (25, 0), (0, 0), (0, 0), (26, 0), (0, 0)]),
  ((283, (17, 5), (3, 5)), 1, []),
  ((284, (17, 5), (3, 5)), 1, []),
  ((218, (0, 1), (0, 1)), 0, [(28, 0), (29, 0), (30, 0), (31, 0), (32, 0), (0, 0)]),
  ((219, (0, 1), (0, 1)), 1, []),
  ((220, (0, 1), (0, 1)), 1, []),
  ((221, (0, 1), (0, 1)), 1, []),
  ((222, (0, 1), (0, 1)), 1, []),
  ((223, (0, 1), (0, 1)), 1, [(33, 1)]),
  ((224, (1, 20), (0, 1)), 1, []),
  ((244, (0, 1), (0, 1)), 0, [(35, 0), (0, 0)]),
  ((245, (0, 1), (0, 1)), 1, []),
  ((246, (0, 1), (0, 1)), 0, [(37, 0), (38, 0), (39, 0), (40, 0)]),
  ((247, (0, 1), (0, 1)), 1, []),
  ((248, (0, 1), (0, 1)), 1, []),
  ((249, (0, 1), (0, 1)), 1, []),
  ((250, (0, 1), (0, 1)), 1, [(41, 1)]),
  ((251, (1, 20), (0, 1)), 1, []),
  ((271, (0, 1), (0, 1)), 0, [(43, 0), (44, 0), (45, 0), (46, 0), (47, 0), (0, 0)]),
  ((272, (0, 1), (0, 1)), 1, []),
  ((273, (0, 1), (0, 1)), 1, []),
  ((274, (0, 1), (0, 1)), 1, []),
  ((275, (0, 1), (0, 1)), 1, []),
  ((276, (0, 1), (0, 1)), 1, []),
  ((277, (0, 1), (0, 1)), 1, []),
  ((278, (0, 1), (0, 1)), 1, []),
  ((279, (0, 1), (0, 1)), 1, []),
  ((365, (0, 1), (0, 1)), 0, [(52, 0), (53, 0), (54, 0), (55, 0), (56, 0), (57, 0), (58, 0), (59, 0), (60, 0), (61, 0), (62, 0), (63, 0), (65, 0), (67, 0), (68, 0), (69, 0), (70, 0), (71, 0), (72, 0), (73, 0), (74, 0), (75, 0), (76, 0), (78, 0), (79, 0), (80, 0), (81, 0), (82, 0), (83, 0), (85, 0), (86, 0), (88, 0), (89, 0), (90, 0), (91, 0), (93, 0), (96, 0), (99, 0), (101, 0), (104, 0), (105, 0), (107, 0), (108, 0), (109, 0), (0, 0), (0, 0), (0, 0), (0, 0), (0, 0), (0, 0), (0, 0), (0, 0), (0, 0), (0, 0), (0, 0), (0, 0)]),
  ((366, (0, 1), (0, 1)), 1, []),
  ((367, (0, 1), (0, 1)), 1, []),
  ((368, (0, 1), (0, 1)), 1, []),
  ((369, (0, 1), (0, 1)), 1, []),
  ((370, (0, 1), (0, 1)), 1, []),
  ((371, (0, 1), (0, 1)), 1, []),
  ((372, (0, 1), (0, 1)), 1, []),
  ((373, (0, 1), (0, 1)), 1, []),
  ((374, (0, 1), (0, 1)), 1, []),
  ((375, (0, 1), (0, 1)), 1, []),
  ((376, (0, 1), (0, 1)), 1, []),
  ((377, (0, 1), (0, 1)), 1, [(64, 1)]),
  ((378, (1, 20), (0, 1)), 1, []),
  ((398, (0, 1), (0, 1)), 1, [(66, 1)]),
  ((399, (1, 20), (0, 1)), 1, []),
  ((419, (0, 1), (0, 1)), 1, []),
  ((420, (0, 1), (0, 1)), 1, []),
  ((421, (0, 1), (0, 1)), 1, []),
  ((422, (0, 1), (0, 1)), 1, []),
  ((423, (0, 1), (0, 1)), 1, []),
  ((424, (0, 1), (0, 1)), 1, []),
  ((425, (0, 1), (0, 1)), 1, []),
  ((426, (0, 1), (0, 1)), 1, []),
  ((427, (0, 1), (0, 1)), 1, []),
  ((428, (0, 1), (0, 1)), 1, [(77, 1)]),
  ((429, (1, 60), (0, 1)), 1, []),
  ((489, (0, 1), (0, 1)), 1, []),
  ((490, (0, 1), (0, 1)), 1, []),
  ((491, (0, 1), (0, 1)), 1, []),
  ((492, (0, 1), (0, 1)), 1, []),
  ((493, (0, 1), (0, 1)), 1, []),
  ((494, (0, 1), (0, 1)), 1, [(84, 1)]),
  ((495, (1, 60), (0, 1)), 1, []),
  ((555, (0, 1), (0, 1)), 1, []),
  ((556, (0, 1), (0, 1)), 1, [(87, 1)]),
  ((557, (1, 60), (0, 1)), 1, []),
  ((617, (0, 1), (0, 1)), 1, []),
  ((618, (0, 1), (0, 1)), 1, []),
  ((619, (0, 1), (0, 1)), 1, []),
  ((620, (0, 1), (0, 1)), 1, [(92, 1)]),
  ((621, (1, 5), (0, 1)), 1, []),
  ((626, (0, 1), (0, 1)), 1, [(94, 1)]),
  ((627, (6, 5), (0, 1)), 1, [(95, 2)]),
  ((628, (6, 5), (1, 5)), 1, []),
  ((657, (0, 1), (0, 1)), 1, [(97, 1)]),
  ((658, (6, 5), (0, 1)), 1, [(98, 2)]),
  ((659, (6, 5), (1, 5)), 1, []),
  ((688, (0, 1), (0, 1)), 1, [(100, 1)]),
  ((689, (1, 5), (0, 1)), 1, []),
  ((694, (0, 1), (0, 1)), 1, [(102, 1)]),
  ((695, (6, 5), (0, 1)), 1, [(103, 2)]),
  ((696, (6, 5), (1, 5)), 1, []),
  ((725, (0, 1), (0, 1)), 1, []),
  ((726, (0, 1), (0, 1)), 1, [(106, 1)]),
  ((727, (1, 40), (0, 1)), 1, []),
  ((767, (0, 1), (0, 1)), 1, []),
  ((768, (0, 1), (0, 1)), 1, []),
  ((769, (0, 1), (0, 1)), 1, []),
  ((770, (0, 1), (0, 1)), 1, []),
  ((771, (0, 1), (0, 1)), 1, []),
  ((0, (0, 1), (0, 1)), 1, []),
  ((772, (1, 0), (0, 1)), 1, [])]
/-- the cells, one by one, 28 in a row -/
def z_lay : List (List (Nat × Nat × Nat)) := [
  [(111, 0, 0), (0, 0, 0), (1, 0, 0), (2, 0, 0), (4, 0, 0), (5, 0, 0), (6, 0, 0), (7, 0, 0), (8, 0, 0), (9, 0, 0), (10, 0, 0), (11, 0, 0), (12, 0, 0), (13, 0, 0), (14, 0, 0), (18, 0, 0), (19, 0, 0), (3, 0, 0), (3, 1, 0), (3, 2, 0), (3, 3, 0), (3, 4, 0), (3, 5, 0), (3, 6, 0), (3, 7, 0), (3, 8, 0), (3, 9, 0), (3, 10, 0)],
  [(3, 11, 0), (3, 12, 0), (3, 13, 0), (3, 14, 0), (3, 15, 0), (3, 16, 0), (3, 17, 0), (3, 18, 0), (3, 19, 0), (15, 0, 0), (16, 0, 0), (17, 0, 0), (15, 1, 0), (16, 1, 0), (17, 1, 0), (15, 2, 0), (16, 2, 0), (17, 2, 0), (15, 3, 0), (16, 3, 0), (17, 3, 0), (15, 4, 0), (16, 4, 0), (17, 4, 0), (15, 5, 0), (16, 5, 0), (17, 5, 0), (15, 6, 0)],
  [(16, 6, 0), (17, 6, 0), (15, 7, 0), (16, 7, 0), (17, 7, 0), (15, 8, 0), (16, 8, 0), (17, 8, 0), (15, 9, 0), (16, 9, 0), (17, 9, 0), (15, 10, 0), (16, 10, 0), (17, 10, 0), (15, 11, 0), (16, 11, 0), (17, 11, 0), (15, 12, 0), (16, 12, 0), (17, 12, 0), (15, 13, 0), (16, 13, 0), (17, 13, 0), (15, 14, 0), (16, 14, 0), (17, 14, 0), (15, 15, 0), (16, 15, 0)],
  [(17, 15, 0), (15, 16, 0), (16, 16, 0), (17, 16, 0), (15, 17, 0), (16, 17, 0), (17, 17, 0), (15, 18, 0), (16, 18, 0), (17, 18, 0), (15, 19, 0), (16, 19, 0), (17, 19, 0), (15, 20, 0), (16, 20, 0), (17, 20, 0), (15, 21, 0), (16, 21, 0), (17, 21, 0), (15, 22, 0), (16, 22, 0), (17, 22, 0), (15, 23, 0), (16, 23, 0), (17, 23, 0), (15, 24, 0), (16, 24, 0), (17, 24, 0)],
  [(15, 25, 0), (16, 25, 0), (17, 25, 0), (15, 26, 0), (16, 26, 0), (17, 26, 0), (15, 27, 0), (16, 27, 0), (17, 27, 0), (15, 28, 0), (16, 28, 0), (17, 28, 0), (15, 29, 0), (16, 29, 0), (17, 29, 0), (15, 30, 0), (16, 30, 0), (17, 30, 0), (15, 31, 0), (16, 31, 0), (17, 31, 0), (15, 32, 0), (16, 32, 0), (17, 32, 0), (15, 33, 0), (16, 33, 0), (17, 33, 0), (15, 34, 0)],
  [(16, 34, 0), (17, 34, 0), (15, 35, 0), (16, 35, 0), (17, 35, 0), (15, 36, 0), (16, 36, 0), (17, 36, 0), (15, 37, 0), (16, 37, 0), (17, 37, 0), (15, 38, 0), (16, 38, 0), (17, 38, 0), (15, 39, 0), (16, 39, 0), (17, 39, 0), (15, 40, 0), (16, 40, 0), (17, 40, 0), (15, 41, 0), (16, 41, 0), (17, 41, 0), (15, 42, 0), (16, 42, 0), (17, 42, 0), (15, 43, 0), (16, 43, 0)],
  [(17, 43, 0), (15, 44, 0), (16, 44, 0), (17, 44, 0), (15, 45, 0), (16, 45, 0), (17, 45, 0), (15, 46, 0), (16, 46, 0), (17, 46, 0), (15, 47, 0), (16, 47, 0), (17, 47, 0), (15, 48, 0), (16, 48, 0), (17, 48, 0), (15, 49, 0), (16, 49, 0), (17, 49, 0), (15, 50, 0), (16, 50, 0), (17, 50, 0), (15, 51, 0), (16, 51, 0), (17, 51, 0), (15, 52, 0), (16, 52, 0), (17, 52, 0)],
  [(15, 53, 0), (16, 53, 0), (17, 53, 0), (15, 54, 0), (16, 54, 0), (17, 54, 0), (15, 55, 0), (16, 55, 0), (17, 55, 0), (15, 56, 0), (16, 56, 0), (17, 56, 0), (15, 57, 0), (16, 57, 0), (17, 57, 0), (15, 58, 0), (16, 58, 0), (17, 58, 0), (15, 59, 0), (16, 59, 0), (17, 59, 0), (20, 0, 0), (26, 0, 0), (27, 0, 0), (28, 0, 0), (29, 0, 0), (30, 0, 0), (31, 0, 0)],
  [(32, 0, 0), (32, 1, 0), (32, 2, 0), (32, 3, 0), (32, 4, 0), (32, 5, 0), (32, 6, 0), (32, 7, 0), (32, 8, 0), (32, 9, 0), (32, 10, 0), (32, 11, 0), (32, 12, 0), (32, 13, 0), (32, 14, 0), (32, 15, 0), (32, 16, 0), (32, 17, 0), (32, 18, 0), (32, 19, 0), (33, 0, 0), (34, 0, 0), (35, 0, 0), (36, 0, 0), (37, 0, 0), (38, 0, 0), (39, 0, 0), (40, 0, 0)],
  [(40, 1, 0), (40, 2, 0), (40, 3, 0), (40, 4, 0), (40, 5, 0), (40, 6, 0), (40, 7, 0), (40, 8, 0), (40, 9, 0), (40, 10, 0), (40, 11, 0), (40, 12, 0), (40, 13, 0), (40, 14, 0), (40, 15, 0), (40, 16, 0), (40, 17, 0), (40, 18, 0), (40, 19, 0), (41, 0, 0), (42, 0, 0), (43, 0, 0), (44, 0, 0), (45, 0, 0), (46, 0, 0), (47, 0, 0), (48, 0, 0), (49, 0, 0)],
  [(21, 0, 0), (22, 0, 0), (23, 0, 0), (24, 0, 0), (25, 0, 0), (23, 0, 1), (24, 0, 1), (25, 0, 1), (23, 0, 2), (24, 0, 2), (25, 0, 2), (23, 0, 3), (24, 0, 3), (25, 0, 3), (23, 0, 4), (24, 0, 4), (25, 0, 4), (21, 1, 0), (22, 1, 0), (23, 1, 0), (24, 1, 0), (25, 1, 0), (23, 1, 1), (24, 1, 1), (25, 1, 1), (23, 1, 2), (24, 1, 2), (25, 1, 2)],
  [(23, 1, 3), (24, 1, 3), (25, 1, 3), (23, 1, 4), (24, 1, 4), (25, 1, 4), (21, 2, 0), (22, 2, 0), (23, 2, 0), (24, 2, 0), (25, 2, 0), (23, 2, 1), (24, 2, 1), (25, 2, 1), (23, 2, 2), (24, 2, 2), (25, 2, 2), (23, 2, 3), (24, 2, 3), (25, 2, 3), (23, 2, 4), (24, 2, 4), (25, 2, 4), (21, 3, 0), (22, 3, 0), (23, 3, 0), (24, 3, 0), (25, 3, 0)],
  [(23, 3, 1), (24, 3, 1), (25, 3, 1), (23, 3, 2), (24, 3, 2), (25, 3, 2), (23, 3, 3), (24, 3, 3), (25, 3, 3), (23, 3, 4), (24, 3, 4), (25, 3, 4), (21, 4, 0), (22, 4, 0), (23, 4, 0), (24, 4, 0), (25, 4, 0), (23, 4, 1), (24, 4, 1), (25, 4, 1), (23, 4, 2), (24, 4, 2), (25, 4, 2), (23, 4, 3), (24, 4, 3), (25, 4, 3), (23, 4, 4), (24, 4, 4)],
  [(25, 4, 4), (50, 0, 0), (51, 0, 0), (52, 0, 0), (53, 0, 0), (54, 0, 0), (55, 0, 0), (56, 0, 0), (57, 0, 0), (58, 0, 0), (59, 0, 0), (60, 0, 0), (61, 0, 0), (62, 0, 0), (63, 0, 0), (63, 1, 0), (63, 2, 0), (63, 3, 0), (63, 4, 0), (63, 5, 0), (63, 6, 0), (63, 7, 0), (63, 8, 0), (63, 9, 0), (63, 10, 0), (63, 11, 0), (63, 12, 0), (63, 13, 0)],
  [(63, 14, 0), (63, 15, 0), (63, 16, 0), (63, 17, 0), (63, 18, 0), (63, 19, 0), (64, 0, 0), (65, 0, 0), (65, 1, 0), (65, 2, 0), (65, 3, 0), (65, 4, 0), (65, 5, 0), (65, 6, 0), (65, 7, 0), (65, 8, 0), (65, 9, 0), (65, 10, 0), (65, 11, 0), (65, 12, 0), (65, 13, 0), (65, 14, 0), (65, 15, 0), (65, 16, 0), (65, 17, 0), (65, 18, 0), (65, 19, 0), (66, 0, 0)],
  [(67, 0, 0), (68, 0, 0), (69, 0, 0), (70, 0, 0), (71, 0, 0), (72, 0, 0), (73, 0, 0), (74, 0, 0), (75, 0, 0), (76, 0, 0), (76, 1, 0), (76, 2, 0), (76, 3, 0), (76, 4, 0), (76, 5, 0), (76, 6, 0), (76, 7, 0), (76, 8, 0), (76, 9, 0), (76, 10, 0), (76, 11, 0), (76, 12, 0), (76, 13, 0), (76, 14, 0), (76, 15, 0), (76, 16, 0), (76, 17, 0), (76, 18, 0)],
  [(76, 19, 0), (76, 20, 0), (76, 21, 0), (76, 22, 0), (76, 23, 0), (76, 24, 0), (76, 25, 0), (76, 26, 0), (76, 27, 0), (76, 28, 0), (76, 29, 0), (76, 30, 0), (76, 31, 0), (76, 32, 0), (76, 33, 0), (76, 34, 0), (76, 35, 0), (76, 36, 0), (76, 37, 0), (76, 38, 0), (76, 39, 0), (76, 40, 0), (76, 41, 0), (76, 42, 0), (76, 43, 0), (76, 44, 0), (76, 45, 0), (76, 46, 0)],
  [(76, 47, 0), (76, 48, 0), (76, 49, 0), (76, 50, 0), (76, 51, 0), (76, 52, 0), (76, 53, 0), (76, 54, 0), (76, 55, 0), (76, 56, 0), (76, 57, 0), (76, 58, 0), (76, 59, 0), (77, 0, 0), (78, 0, 0), (79, 0, 0), (80, 0, 0), (81, 0, 0), (82, 0, 0), (83, 0, 0), (83, 1, 0), (83, 2, 0), (83, 3, 0), (83, 4, 0), (83, 5, 0), (83, 6, 0), (83, 7, 0), (83, 8, 0)],
  [(83, 9, 0), (83, 10, 0), (83, 11, 0), (83, 12, 0), (83, 13, 0), (83, 14, 0), (83, 15, 0), (83, 16, 0), (83, 17, 0), (83, 18, 0), (83, 19, 0), (83, 20, 0), (83, 21, 0), (83, 22, 0), (83, 23, 0), (83, 24, 0), (83, 25, 0), (83, 26, 0), (83, 27, 0), (83, 28, 0), (83, 29, 0), (83, 30, 0), (83, 31, 0), (83, 32, 0), (83, 33, 0), (83, 34, 0), (83, 35, 0), (83, 36, 0)],
  [(83, 37, 0), (83, 38, 0), (83, 39, 0), (83, 40, 0), (83, 41, 0), (83, 42, 0), (83, 43, 0), (83, 44, 0), (83, 45, 0), (83, 46, 0), (83, 47, 0), (83, 48, 0), (83, 49, 0), (83, 50, 0), (83, 51, 0), (83, 52, 0), (83, 53, 0), (83, 54, 0), (83, 55, 0), (83, 56, 0), (83, 57, 0), (83, 58, 0), (83, 59, 0), (84, 0, 0), (85, 0, 0), (86, 0, 0), (86, 1, 0), (86, 2, 0)],
  [(86, 3, 0), (86, 4, 0), (86, 5, 0), (86, 6, 0), (86, 7, 0), (86, 8, 0), (86, 9, 0), (86, 10, 0), (86, 11, 0), (86, 12, 0), (86, 13, 0), (86, 14, 0), (86, 15, 0), (86, 16, 0), (86, 17, 0), (86, 18, 0), (86, 19, 0), (86, 20, 0), (86, 21, 0), (86, 22, 0), (86, 23, 0), (86, 24, 0), (86, 25, 0), (86, 26, 0), (86, 27, 0), (86, 28, 0), (86, 29, 0), (86, 30, 0)],
  [(86, 31, 0), (86, 32, 0), (86, 33, 0), (86, 34, 0), (86, 35, 0), (86, 36, 0), (86, 37, 0), (86, 38, 0), (86, 39, 0), (86, 40, 0), (86, 41, 0), (86, 42, 0), (86, 43, 0), (86, 44, 0), (86, 45, 0), (86, 46, 0), (86, 47, 0), (86, 48, 0), (86, 49, 0), (86, 50, 0), (86, 51, 0), (86, 52, 0), (86, 53, 0), (86, 54, 0), (86, 55, 0), (86, 56, 0), (86, 57, 0), (86, 58, 0)],
  [(86, 59, 0), (87, 0, 0), (88, 0, 0), (89, 0, 0), (90, 0, 0), (91, 0, 0), (91, 1, 0), (91, 2, 0), (91, 3, 0), (91, 4, 0), (92, 0, 0), (93, 0, 0), (94, 0, 0), (94, 0, 1), (94, 0, 2), (94, 0, 3), (94, 0, 4), (93, 1, 0), (94, 1, 0), (94, 1, 1), (94, 1, 2), (94, 1, 3), (94, 1, 4), (93, 2, 0), (94, 2, 0), (94, 2, 1), (94, 2, 2), (94, 2, 3)],
  [(94, 2, 4), (93, 3, 0), (94, 3, 0), (94, 3, 1), (94, 3, 2), (94, 3, 3), (94, 3, 4), (93, 4, 0), (94, 4, 0), (94, 4, 1), (94, 4, 2), (94, 4, 3), (94, 4, 4), (95, 0, 0), (96, 0, 0), (97, 0, 0), (97, 0, 1), (97, 0, 2), (97, 0, 3), (97, 0, 4), (96, 1, 0), (97, 1, 0), (97, 1, 1), (97, 1, 2), (97, 1, 3), (97, 1, 4), (96, 2, 0), (97, 2, 0)],
  [(97, 2, 1), (97, 2, 2), (97, 2, 3), (97, 2, 4), (96, 3, 0), (97, 3, 0), (97, 3, 1), (97, 3, 2), (97, 3, 3), (97, 3, 4), (96, 4, 0), (97, 4, 0), (97, 4, 1), (97, 4, 2), (97, 4, 3), (97, 4, 4), (98, 0, 0), (99, 0, 0), (99, 1, 0), (99, 2, 0), (99, 3, 0), (99, 4, 0), (100, 0, 0), (101, 0, 0), (102, 0, 0), (102, 0, 1), (102, 0, 2), (102, 0, 3)],
  [(102, 0, 4), (101, 1, 0), (102, 1, 0), (102, 1, 1), (102, 1, 2), (102, 1, 3), (102, 1, 4), (101, 2, 0), (102, 2, 0), (102, 2, 1), (102, 2, 2), (102, 2, 3), (102, 2, 4), (101, 3, 0), (102, 3, 0), (102, 3, 1), (102, 3, 2), (102, 3, 3), (102, 3, 4), (101, 4, 0), (102, 4, 0), (102, 4, 1), (102, 4, 2), (102, 4, 3), (102, 4, 4), (103, 0, 0), (104, 0, 0), (105, 0, 0)],
  [(105, 1, 0), (105, 2, 0), (105, 3, 0), (105, 4, 0), (105, 5, 0), (105, 6, 0), (105, 7, 0), (105, 8, 0), (105, 9, 0), (105, 10, 0), (105, 11, 0), (105, 12, 0), (105, 13, 0), (105, 14, 0), (105, 15, 0), (105, 16, 0), (105, 17, 0), (105, 18, 0), (105, 19, 0), (105, 20, 0), (105, 21, 0), (105, 22, 0), (105, 23, 0), (105, 24, 0), (105, 25, 0), (105, 26, 0), (105, 27, 0), (105, 28, 0)],
  [(105, 29, 0), (105, 30, 0), (105, 31, 0), (105, 32, 0), (105, 33, 0), (105, 34, 0), (105, 35, 0), (105, 36, 0), (105, 37, 0), (105, 38, 0), (105, 39, 0), (106, 0, 0), (107, 0, 0), (108, 0, 0), (109, 0, 0), (110, 0, 0)]]
def z_at (a : Nat) : Option (Nat × Nat × Nat) := match z_lay[a / 28]? with
  | some l => l[a % 28]?
  | none => none
end
/-! part 71s01 -/
section
/-! Runs as functions of a flat state. The state: a region's number (64 times the family, and the place in an object), two indices of the cell, the place in an array. -/
abbrev ZS : Type := Nat → Int → Int → Int → Int
/-- how a run ends: (0, the result), (k + 1, []) exception k, (1000 + pc, locals) at a cut; and the state then -/
abbrev ZR : Type := (Nat × List Int) × ZS
/-- (0, z) the number z; (n + 1, _) the n-th symbol -/
abbrev ZN : Type := Nat × Int
/-- (0, x, _) a number, (1, x, _) one of two words; (f + 2, x, y) the cell of family f at x, y -/
abbrev ZV : Type := Nat × ZN × ZN
/-- an operation: its kind, its operands -/
abbrev ZO : Type := Nat × List ZN
def e_v (v : Value) : Int := match v with
  | .int x => x.toInt
  | .long x => x.toInt
  | .float x => (x.toNat : Int)
  | .double x => (x.toNat : Int)
  | _ => 0
def e_at (h : AH) (a s : Nat) : Int := match h[a]? with
  | some c => (match c.2[s]? with
    | some v => e_v v
    | none => 0)
  | none => 0
def e_len (h : AH) (a : Nat) : Int := match h[a]? with
  | some c => c.2.length.toInt32.toInt
  | none => 0
def e_upd (S : ZS) (ρ : Nat) (i j k z : Int) : ZS := fun ρ' i' j' k' => if ρ' = ρ ∧ (i' = i ∧ (j' = j ∧ k' = k)) then z else S ρ' i' j' k'
/-- the cell of a family at two indices -/
def z_ad (f : Nat) (i j : Int) : Option Nat := match z_tab[f]? with
  | some row => if 0 ≤ i ∧ (row.1.2.1.2 = 0 ∨ i < row.1.2.1.2) ∧ 0 ≤ j ∧ j < row.1.2.2.2 then some (row.1.1 + row.1.2.1.1 * i.toNat + row.1.2.2.1 * j.toNat) else none
  | none => none
def z_new : Nat := 112
def z_rA : Nat := 7232
def z_N0 : Nat := 772
/-- the place of a cell that a region's rest and an index name -/
def z_slot (f s : Nat) (k : Int) : Option Nat := match z_tab[f]? with
  | some row => if row.2.1 = 0 then (if k = 0 ∧ s < 63 then some s else none) else (if s = 0 ∧ 0 ≤ k then some k.toNat else none)
  | none => none
/-- the flat state of a heap -/
def z_al (h : AH) : ZS := fun ρ i j k => if ρ = z_rA then (if i = 0 ∧ j = 0 ∧ k = 0 then (h.length : Int) - z_N0 else 0) else match z_ad (ρ / 64) i j with
  | some a => (match z_slot (ρ / 64) (ρ % 64) k with
    | some s => e_at h a s
    | none => if ρ % 64 = 63 ∧ k = 0 ∧ ρ / 64 ≠ z_new then e_len h a else 0)
  | none => 0
/-- where a place of an object points -/
def z_po (f s : Nat) : Option Nat := match z_tab[f]? with
  | some row => if row.2.1 = 0 then (match row.2.2[s]? with
    | some (g + 1, _) => some g
    | _ => none) else none
  | none => none
/-- where the places of an array point, and which index they tell -/
def z_pa (f : Nat) : Option (Nat × Nat) := match z_tab[f]? with
  | some row => if row.2.1 = 0 then none else (match row.2.2 with
    | [(g + 1, p)] => some (g, p)
    | _ => none)
  | none => none
/-- the pointers of a heap are the table's -/
def z_PI (h : AH) : Prop := z_N0 ≤ h.length ∧ ∀ (f : Nat) (i j : Int) (a t : Nat) (vs : List Value), z_ad f i j = some a → h[a]? = some (t, vs) → (∀ (s g : Nat) (v : Value), z_po f s = some g → vs[s]? = some v → ∃ b, v = .ref b ∧ z_ad g i j = some b) ∧ ∀ (g p e : Nat) (v : Value), z_pa f = some (g, p) → vs[e]? = some v → ∃ b, v = .ref b ∧ z_ad g (if p = 1 then (e : Int) else i) (if p = 1 then j else (e : Int)) = some b
/-! Arithmetic -/
def e_wr (x : Int) : Int := x.bmod (2 ^ 32)
def e_wl (x : Int) : Int := x.bmod (2 ^ 64)
def e_div (x y : Int) : Int := e_wr (x.tdiv y)
def e_cmp (c : Nat) (x y : Int) : Bool := match c with
  | 0 => decide (x = y)
  | 1 => !decide (x = y)
  | 2 => decide (x < y)
  | 3 => decide (y ≤ x)
  | 4 => decide (y < x)
  | _ => decide (x ≤ y)
def e_and (x y : Int) : Int := (Int32.ofInt x &&& Int32.ofInt y).toInt
def e_or (x y : Int) : Int := (Int32.ofInt x ||| Int32.ofInt y).toInt
def e_i2c (x : Int) : Int := ((Int32.ofInt x).toUInt32 % 65536).toInt32.toInt
def e_lcmp (x y : Int) : Int := if x > y then 1 else if x = y then 0 else -1
def e_i2f (x : Int) : Int := ((FP.i2f (Int32.ofInt x)).toNat : Int)
def e_i2d (x : Int) : Int := ((FP.i2d (Int32.ofInt x)).toNat : Int)
def e_f2d (x : Int) : Int := ((FP.f2d (UInt32.ofNat x.toNat)).toNat : Int)
def e_fdiv (x y : Int) : Int := ((FP.fdiv (UInt32.ofNat x.toNat) (UInt32.ofNat y.toNat)).toNat : Int)
def e_ddiv (x y : Int) : Int := ((FP.ddiv (UInt64.ofNat x.toNat) (UInt64.ofNat y.toNat)).toNat : Int)
def e_dcmp (op : CmpOp) (x y : Int) : Int := (Op.cmpValue (FP.dcmp (UInt64.ofNat x.toNat) (UInt64.ofNat y.toNat)) op).toInt
def e_fcmp (op : CmpOp) (x y : Int) : Int := (Op.cmpValue (FP.fcmp (UInt32.ofNat x.toNat) (UInt32.ofNat y.toNat)) op).toInt
def e_bin (op : Nat) (x y : Int) : Int := match op with
  | 0 => e_wr (x + y)
  | 1 => e_wr (x - y)
  | 2 => e_wr (x * y)
  | 3 => e_div x y
  | 4 => e_wr (x - e_wr (e_div x y * y))
  | 5 => e_and x y
  | 6 => e_or x y
  | 7 => if y < x then y else x
  | 8 => if x < y then y else x
  | 9 => e_i2c x
  | 10 => e_wl (x + y)
  | 11 => e_wl (x * y)
  | 12 => e_lcmp x y
  | 13 => e_i2f x
  | 14 => e_i2d x
  | 15 => e_f2d x
  | 16 => e_fdiv x y
  | 17 => e_ddiv x y
  | 18 => e_dcmp .g x y
  | 19 => e_dcmp .l x y
  | 20 => e_fcmp .g x y
  | _ => e_fcmp .l x y
def e_nar (md : Nat) (z : Int) : Int := match md with
  | 0 => z
  | 1 => e_v (narrow .boolean (.int (Int32.ofInt z)))
  | _ => e_v (narrow .char (.int (Int32.ofInt z)))
def e_acp (S : ZS) (ρ : Nat) (x y sp : Int) (ρ' : Nat) (x' y' dp n : Int) : ZS := fun r i j k => if r = ρ' ∧ (i = x' ∧ (j = y' ∧ (dp ≤ k ∧ k < dp + n))) then S ρ x y (k - dp + sp) else S r i j k
def e_sw (x lo : Int) (ts : List ZN) (d : Nat) : Nat := if x < lo ∨ lo + ts.length ≤ x then d else (ts.getD (x - lo).toNat (d, 0)).1
def e_bind (R : ZR) (k : Int → ZS → ZR) : ZR := bif R.1.1 == 0 then k (R.1.2.getD 0 0) R.2 else ((R.1.1 % 1000, []), R.2)
def e_hs (c : Nat) (f : Nat → ZR) (S : ZS) : List ZN → ZR
  | [] => ((c % 1000, []), S)
  | e :: t => bif e.1 + 1 == c then f e.2.toNat else e_hs c f S t
def e_bindX (R : ZR) (k : Int → ZS → ZR) (hs : List ZN) (f : Nat → ZS → ZR) : ZR := bif R.1.1 == 0 then k (R.1.2.getD 0 0) R.2 else e_hs R.1.1 (fun o => f o R.2) R.2 hs
/-! Programs over a flat state -/
def o_v (ν : List Int) (x : ZN) : Int := match x.1 with
  | 0 => x.2
  | n + 1 => ν.getD n 0
/-- what a method does to a flat state -/
abbrev ZFn : Type := List Int → ZS → ZR
def z_ev (F : Nat → ZFn) : Nat → List ZO → List Int → ZS → ZR
  | 0, _, _, S => ((0, []), S)
  | _ + 1, [], _, S => ((0, []), S)
  | n + 1, op :: p, ν, S => match op with
    | (0, xs) => ((0, xs.map (o_v ν)), S)
    | (1, [k]) => ((k.1 + 1, []), S)
    | (2, pc :: xs) => ((1000 + pc.1, xs.map (o_v ν)), S)
    | (3, [c, sk, x, y]) => bif e_cmp c.1 (o_v ν x) (o_v ν y) then z_ev F n p ν S else z_ev F n (p.drop sk.1) ν S
    | (4, [o, x, y]) => z_ev F n p (ν ++ [e_bin o.1 (o_v ν x) (o_v ν y)]) S
    | (5, [r, i, j, k]) => z_ev F n p (ν ++ [S r.1 (o_v ν i) (o_v ν j) (o_v ν k)]) S
    | (6, [r, md, i, j, k, v]) => z_ev F n p ν (e_upd S r.1 (o_v ν i) (o_v ν j) (o_v ν k) (e_nar md.1 (o_v ν v)))
    | (7, mt :: xs) => e_bind (F mt.1 (xs.map (o_v ν)) S) (fun v S1 => z_ev F n p (ν ++ [v]) S1)
    | (8, []) => z_ev F n p (ν ++ [S z_rA 0 0 0]) (e_upd S z_rA 0 0 0 (S z_rA 0 0 0 + 1))
    | (9, [r, x, y, sp, r', x', y', dp, m]) => z_ev F n p ν (e_acp S r.1 (o_v ν x) (o_v ν y) (o_v ν sp) r'.1 (o_v ν x') (o_v ν y') (o_v ν dp) (o_v ν m))
    | (10, x :: lo :: m :: d :: xs) => ((1000 + e_sw (o_v ν x) lo.2 (xs.take m.1) d.1, (xs.drop m.1).map (o_v ν)), S)
    | (13, mt :: _ :: xs) => z_ev F n p ν (F mt.1 (xs.map (o_v ν)) S).2
    | (11, mt :: m :: xs) => e_bindX (F mt.1 ((xs.drop m.1).map (o_v ν)) S) (fun v S1 => z_ev F n p (ν ++ [v]) S1) (xs.take m.1) (fun o S1 => z_ev F n (p.drop o) ν S1)
    | _ => ((0, []), S)
end
/-! part 71s02 -/
section
/-! The flat state of a heap that was written -/
theorem z_layOK : ((List.range 112).all fun f => match z_tab[f]? with
  | some row => row.1.2.1.2 != 0 && (List.range row.1.2.1.2).all fun i => (List.range row.1.2.2.2).all fun j => z_at (row.1.1 + row.1.2.1.1 * i + row.1.2.2.1 * j) == some (f, i, j)
  | none => false) = true := by decide +kernel
theorem z_tab112 : z_tab[112]? = some ((772, (1, 0), (0, 1)), 1, []) := rfl
theorem z_tabLen : z_tab.length = 113 := by decide +kernel
theorem z_layLen : z_lay.length = 28 ∧ (z_lay[27]?).map List.length = some 16 := by decide +kernel
theorem z_at_lt {a : Nat} {x : Nat × Nat × Nat} (h : z_at a = some x) : a < 772 := by
  unfold z_at at h
  split at h
  · rename_i l hl
    have h1 := (List.getElem?_eq_some_iff.mp hl).1
    rw [z_layLen.1] at h1
    by_cases c : a / 28 = 27
    · have h2 := z_layLen.2
      rw [← c, hl] at h2
      have h2 : l.length = 16 := Option.some.inj h2
      have h3 := (List.getElem?_eq_some_iff.mp h).1
      omega
    · omega
  · cases h
theorem z_tab_lt {f : Nat} {row : ZF} (h : z_tab[f]? = some row) : f < 113 := by
  have := (List.getElem?_eq_some_iff.mp h).1
  rw [z_tabLen] at this
  exact this
theorem z_ad_lay {f a : Nat} {i j : Int} (h : z_ad f i j = some a) : 0 ≤ i ∧ 0 ≤ j ∧ ((f < 112 ∧ z_at a = some (f, i.toNat, j.toNat)) ∨ (f = 112 ∧ a = 772 + i.toNat ∧ j = 0)) := by
  unfold z_ad at h
  split at h
  · rename_i row hrow
    split at h
    · rename_i hc
      obtain ⟨h1, h2, h3, h4⟩ := hc
      refine ⟨h1, h3, ?_⟩
      have hf := z_tab_lt hrow
      by_cases e : f = 112
      · subst e
        rw [z_tab112] at hrow
        cases hrow
        right
        refine ⟨rfl, ?_, ?_⟩
        · have h := Option.some.inj h
          dsimp only at h
          omega
        · dsimp only at h4
          omega
      · left
        refine ⟨by omega, ?_⟩
        have k := List.all_eq_true.mp z_layOK f (List.mem_range.mpr (by omega))
        rw [hrow] at k
        dsimp only at k
        rw [Bool.and_eq_true] at k
        have k0 : row.1.2.1.2 ≠ 0 := by simpa using k.1
        have k1 := List.all_eq_true.mp k.2 i.toNat (List.mem_range.mpr (by omega))
        have k2 := List.all_eq_true.mp k1 j.toNat (List.mem_range.mpr (by omega))
        rw [beq_iff_eq] at k2
        have h := Option.some.inj h
        rw [← h]
        exact k2
    · cases h
  · cases h
theorem z_inj {f f' a : Nat} {i j i' j' : Int} (h : z_ad f i j = some a) (h' : z_ad f' i' j' = some a) : f' = f ∧ i' = i ∧ j' = j := by
  obtain ⟨a1, a2, a3⟩ := z_ad_lay h
  obtain ⟨b1, b2, b3⟩ := z_ad_lay h'
  have lt : ∀ {x}, z_at a = some x → a < 772 := fun hx => z_at_lt hx
  rcases a3 with ⟨c1, c2⟩ | ⟨c1, c2, c3⟩ <;> rcases b3 with ⟨d1, d2⟩ | ⟨d1, d2, d3⟩
  · rw [c2] at d2
    have := Option.some.inj d2
    simp only [Prod.mk.injEq] at this
    omega
  · have := lt c2
    omega
  · have := lt d2
    omega
  · omega
theorem z_ad_new {a i j : Int} {f b : Nat} (h : z_ad f i j = some b) (hb : 772 ≤ b) : f = 112 := by
  obtain ⟨a1, a2, a3⟩ := z_ad_lay h
  rcases a3 with ⟨c1, c2⟩ | ⟨c1, c2, c3⟩
  · have := z_at_lt c2
    omega
  · exact c1
theorem e_at_put {h : AH} {a t k : Nat} {vs : List Value} {v : Value} (ha : h[a]? = some (t, vs)) (hk : k < vs.length) (a' k' : Nat) : e_at (h.set a (t, vs.set k v)) a' k' = if a' = a ∧ k' = k then e_v v else e_at h a' k' := by
  have hl : a < h.length := (List.getElem?_eq_some_iff.mp ha).1
  unfold e_at
  by_cases e : a' = a
  · subst e
    rw [List.getElem?_set_self hl, ha]
    dsimp only
    by_cases e2 : k' = k
    · subst e2
      rw [if_pos ⟨rfl, rfl⟩, List.getElem?_set_self hk]
    · rw [if_neg (fun q => e2 q.2), List.getElem?_set_ne (Ne.symm e2)]
  · rw [if_neg (fun q => e q.1), List.getElem?_set_ne (Ne.symm e)]
theorem e_len_set {h : AH} {a t u : Nat} {vs ws : List Value} (ha : h[a]? = some (t, vs)) (hk : ws.length = vs.length) (a' : Nat) : e_len (h.set a (u, ws)) a' = e_len h a' := by
  have hl : a < h.length := (List.getElem?_eq_some_iff.mp ha).1
  unfold e_len
  by_cases e : a' = a
  · subst e
    rw [List.getElem?_set_self hl, ha]
    dsimp only
    rw [hk]
  · rw [List.getElem?_set_ne (Ne.symm e)]
theorem z_slot_inj {f s s' n : Nat} {k k' : Int} (h : z_slot f s k = some n) (h' : z_slot f s' k' = some n) : s' = s ∧ k' = k := by
  unfold z_slot at h h'
  split at h
  · rename_i row hrow
    rw [hrow] at h'
    dsimp only at h'
    split at h
    · rename_i e
      rw [if_pos e] at h'
      split at h <;> split at h' <;> first
        | (cases h; done)
        | (cases h'; done)
        | (cases h; have h' := Option.some.inj h'; omega)
    · rename_i e
      rw [if_neg e] at h'
      split at h <;> split at h' <;> first
        | (cases h; done)
        | (cases h'; done)
        | (cases h; have h' := Option.some.inj h'; omega)
  · cases h
theorem z_slot_lt {f s n : Nat} {k : Int} (h : z_slot f s k = some n) : s < 63 ∧ f < 113 := by
  unfold z_slot at h
  split at h
  · rename_i row hrow
    have := z_tab_lt hrow
    split at h <;> split at h <;> cases h <;> omega
  · cases h
theorem z_reg {f s : Nat} (hs : s < 64) : (f * 64 + s) / 64 = f ∧ (f * 64 + s) % 64 = s := by omega
/-- a number is written -/
theorem z_al_put {h : AH} {f s a t n : Nat} {i j k : Int} {vs : List Value} {v : Value} (hd : z_ad f i j = some a) (hs : z_slot f s k = some n) (ha : h[a]? = some (t, vs)) (hn : n < vs.length) : z_al (h.set a (t, vs.set n v)) = e_upd (z_al h) (f * 64 + s) i j k (e_v v) := by
  have hlt := z_slot_lt hs
  obtain ⟨g1, g2⟩ := z_reg (f := f) (s := s) (by omega)
  funext r i' j' k'
  unfold e_upd
  by_cases c : r = f * 64 + s ∧ (i' = i ∧ (j' = j ∧ k' = k))
  · rw [if_pos c]
    obtain ⟨rfl, rfl, rfl, rfl⟩ := c
    unfold z_al
    rw [if_neg (by unfold z_rA; omega), g1, g2, hd]
    dsimp only
    rw [hs]
    dsimp only
    rw [e_at_put ha hn, if_pos ⟨rfl, rfl⟩]
  · rw [if_neg c]
    unfold z_al
    split
    · rw [List.length_set]
    · split
      · rename_i b hb
        split
        · rename_i m hm
          rw [e_at_put ha hn, if_neg]
          rintro ⟨rfl, rfl⟩
          obtain ⟨q1, q2, q3⟩ := z_inj hd hb
          rw [q1] at hm
          obtain ⟨q4, q5⟩ := z_slot_inj hs hm
          exact c ⟨by omega, q2, q3, q5⟩
        · rw [e_len_set ha List.length_set]
      · rfl
theorem z_PI_put {h : AH} {f a t n : Nat} {i j : Int} {vs : List Value} {v : Value} (P : z_PI h) (hd : z_ad f i j = some a) (ha : h[a]? = some (t, vs)) (h1 : z_po f n = none) (h2 : z_pa f = none) : z_PI (h.set a (t, vs.set n v)) := by
  refine ⟨by rw [List.length_set]; exact P.1, fun f' i' j' a' t' vs' hd' ha' => ?_⟩
  by_cases e : a' = a
  · subst e
    rw [List.getElem?_set_self (List.getElem?_eq_some_iff.mp ha).1] at ha'
    cases ha'
    obtain ⟨rfl, rfl, rfl⟩ := z_inj hd hd'
    obtain ⟨p1, p2⟩ := P.2 _ _ _ _ _ _ hd ha
    refine ⟨fun s g w hg hw => ?_, fun g p e w hg hw => ?_⟩
    · have : n ≠ s := by
        intro q
        subst q
        rw [h1] at hg
        cases hg
      rw [List.getElem?_set_ne this] at hw
      exact p1 s g w hg hw
    · rw [h2] at hg
      cases hg
  · rw [List.getElem?_set_ne (Ne.symm e)] at ha'
    exact P.2 _ _ _ _ _ _ hd' ha'
/-- an array is made -/
theorem z_al_new {h : AH} {t : Nat} {vs : List Value} (P : z_PI h) (hv : ∀ v ∈ vs, e_v v = 0) : z_al (h ++ [(t, vs)]) = e_upd (z_al h) z_rA 0 0 0 (z_al h z_rA 0 0 0 + 1) ∧ z_PI (h ++ [(t, vs)]) ∧ z_ad 112 (z_al h z_rA 0 0 0) 0 = some h.length := by
  have p0 : 772 ≤ h.length := P.1
  have e0 : z_al h z_rA 0 0 0 = (h.length : Int) - 772 := by
    unfold z_al
    rw [if_pos rfl, if_pos ⟨rfl, rfl, rfl⟩]
    rfl
  have old : ∀ (b : Nat), b ≠ h.length → (h ++ [(t, vs)])[b]? = h[b]? := fun b hb => by
    rcases Nat.lt_or_ge b h.length with q | q
    · rw [List.getElem?_append_left q]
    · rw [List.getElem?_eq_none (by rw [List.length_append, List.length_singleton]; omega), List.getElem?_eq_none q]
  refine ⟨?_, ⟨by rw [List.length_append]; exact Nat.le_trans P.1 (Nat.le_add_right _ _), fun f i j a t' vs' hd ha => ?_⟩, ?_⟩
  · funext r i' j' k'
    unfold e_upd
    split
    · rename_i c
      obtain ⟨rfl, rfl, rfl, rfl⟩ := c
      rw [e0]
      unfold z_al
      rw [if_pos rfl, if_pos ⟨rfl, rfl, rfl⟩, List.length_append, List.length_singleton]
      show ((h.length + 1 : Nat) : Int) - 772 = _
      omega
    · rename_i c
      unfold z_al
      split
      · rename_i e
        rw [if_neg (fun q => c ⟨e, q.1, q.2.1, q.2.2⟩), if_neg (fun q => c ⟨e, q.1, q.2.1, q.2.2⟩)]
      · split
        · rename_i b hb
          by_cases e : b = h.length
          · have f112 := z_ad_new (a := 0) hb (by omega)
            split
            · rename_i m hm
              unfold e_at
              rw [e, List.getElem?_append_right (Nat.le_refl _), Nat.sub_self, List.getElem?_eq_none (Nat.le_refl h.length)]
              show (match vs[m]? with | some v => e_v v | none => 0) = 0
              split
              · rename_i v hv'
                exact hv v (List.mem_of_getElem? hv')
              · rfl
            · rw [if_neg (fun q => q.2.2 f112), if_neg (fun q => q.2.2 f112)]
          · split
            · unfold e_at
              rw [old b e]
            · unfold e_len
              rw [old b e]
        · rfl
  · by_cases e : a = h.length
    · have f112 := z_ad_new (a := 0) hd (by omega)
      subst f112
      exact ⟨fun s g v hg => (by cases hg), fun g p e' v hg => (by cases hg)⟩
    · rw [old a e] at ha
      exact P.2 _ _ _ _ _ _ hd ha
  · rw [e0]
    unfold z_ad
    rw [z_tab112]
    dsimp only
    rw [if_pos ⟨by omega, Or.inl rfl, by omega, by decide⟩]
    congr 1
    omega
theorem z_prs {at_ : Nat} : ∀ (xs : List Value) (b k : Nat) (ws : List Value), at_ + b + xs.length ≤ ws.length → (a_prs at_ (xs.zipIdx b) ws)[k]? = if at_ + b ≤ k ∧ k < at_ + b + xs.length then xs[k - (at_ + b)]? else ws[k]?
  | [], b, k, ws, _ => by
    rw [List.zipIdx_nil, a_prs, if_neg]
    rintro ⟨q1, q2⟩
    rw [List.length_nil] at q2
    omega
  | x :: xs, b, k, ws, hl => by
    rw [List.length_cons] at hl
    rw [List.zipIdx_cons, a_prs, z_prs xs (b + 1) k _ (by rw [List.length_set]; omega), List.length_cons]
    by_cases c : at_ + b = k
    · subst c
      rw [if_neg (by omega), if_pos (by omega), List.getElem?_set_self (by omega), Nat.sub_self]
      rfl
    · rw [List.getElem?_set_ne c]
      by_cases c2 : at_ + (b + 1) ≤ k ∧ k < at_ + (b + 1) + xs.length
      · rw [if_pos c2, if_pos (by omega), show k - (at_ + b) = (k - (at_ + (b + 1))) + 1 by omega, List.getElem?_cons_succ]
      · rw [if_neg c2, if_neg (by omega)]
theorem z_sl {vs : List Value} {sp n k : Nat} (hk : k < n) : (a_sl vs sp n)[k]? = vs[sp + k]? := by
  unfold a_sl
  rw [List.getElem?_take, if_pos hk, List.getElem?_drop]
/-- a stretch is copied -/
theorem z_al_acp {h : AH} {f f' a b t u n : Nat} {i j sp i' j' dp : Int} {vs ws : List Value} (hd : z_ad f i j = some a) (hd' : z_ad f' i' j' = some b) (ha : h[a]? = some (t, vs)) (hb : h[b]? = some (u, ws)) (m1 : ∀ k, 0 ≤ k → z_slot f 0 k = some k.toNat) (m2 : ∀ k, 0 ≤ k → z_slot f' 0 k = some k.toNat) (s0 : 0 ≤ sp) (d0 : 0 ≤ dp) (hs : sp.toNat + n ≤ vs.length) (ht : dp.toNat + n ≤ ws.length) : z_al (h.set b (u, a_prs dp.toNat (a_sl vs sp.toNat n).zipIdx ws)) = e_acp (z_al h) (f * 64) i j sp (f' * 64) i' j' dp n := by
  have hlen : (a_sl vs sp.toNat n).length = n := by
    unfold a_sl
    rw [List.length_take, List.length_drop]
    omega
  have hlb : b < h.length := (List.getElem?_eq_some_iff.mp hb).1
  have key : ∀ k : Nat, (a_prs dp.toNat (a_sl vs sp.toNat n).zipIdx ws)[k]? = if dp.toNat ≤ k ∧ k < dp.toNat + n then vs[sp.toNat + (k - dp.toNat)]? else ws[k]? := fun k => by
    have := z_prs (at_ := dp.toNat) (a_sl vs sp.toNat n) 0 k ws (by rw [hlen]; omega)
    rw [hlen] at this
    rw [this]
    by_cases c : dp.toNat ≤ k ∧ k < dp.toNat + n
    · rw [if_pos (by omega), if_pos c, z_sl (by omega)]
      congr 1
    · rw [if_neg (by omega), if_neg c]
  have lf : f < 113 := (z_slot_lt (m1 0 (Int.le_refl _))).2
  have lf' : f' < 113 := (z_slot_lt (m2 0 (Int.le_refl _))).2
  funext r x y k
  unfold e_acp
  by_cases c : r = f' * 64 ∧ (x = i' ∧ (y = j' ∧ (dp ≤ k ∧ k < dp + n)))
  · rw [if_pos c]
    obtain ⟨rfl, rfl, rfl, c1, c2⟩ := c
    unfold z_al
    rw [if_neg (by unfold z_rA; omega), if_neg (by unfold z_rA; omega), Nat.mul_div_cancel _ (by decide), Nat.mul_div_cancel _ (by decide), Nat.mul_mod_left, Nat.mul_mod_left, hd, hd']
    dsimp only
    rw [m2 k (by omega), m1 (k - dp + sp) (by omega)]
    dsimp only
    unfold e_at
    rw [List.getElem?_set_self hlb, ha]
    dsimp only
    rw [key, if_pos (by omega)]
    congr 2
    omega
  · rw [if_neg c]
    unfold z_al
    split
    · rw [List.length_set]
    · split
      · rename_i b' hb'
        split
        · rename_i m hm
          unfold e_at
          by_cases e : b' = b
          · subst e
            rw [List.getElem?_set_self hlb, hb]
            dsimp only
            obtain ⟨q1, q2, q3⟩ := z_inj hd' hb'
            rw [q1] at hm
            rw [key, if_neg]
            rintro ⟨r1, r2⟩
            have hm0 := m2 (m : Int) (by omega)
            rw [Int.toNat_natCast] at hm0
            obtain ⟨q4, q5⟩ := z_slot_inj hm0 hm
            exact c ⟨by omega, q2, q3, by omega, by omega⟩
          · rw [List.getElem?_set_ne (Ne.symm e)]
        · rw [e_len_set hb (a_prs_len _ _ _)]
      · rfl
theorem z_PI_set {h : AH} {f a t u : Nat} {i j : Int} {vs ws : List Value} (P : z_PI h) (hd : z_ad f i j = some a) (ha : h[a]? = some (t, vs)) (h1 : ∀ n, z_po f n = none) (h2 : z_pa f = none) : z_PI (h.set a (u, ws)) := by
  refine ⟨by rw [List.length_set]; exact P.1, fun f' i' j' a' t' vs' hd' ha' => ?_⟩
  by_cases e : a' = a
  · subst e
    obtain ⟨rfl, rfl, rfl⟩ := z_inj hd hd'
    exact ⟨fun s g w hg => (by rw [h1 s] at hg; cases hg), fun g p e w hg => (by rw [h2] at hg; cases hg)⟩
  · rw [List.getElem?_set_ne (Ne.symm e)] at ha'
    exact P.2 _ _ _ _ _ _ hd' ha'
end
/-! part 71s03 -/
section
/-! Which step takes an instruction; a run's first step -/
def z_cl (i : Instr) : Nat := match i with
  | .iconst _ | .bipush _ | .sipush _ | .lconst _ | .fconst _ | .dconst _ => 1
  | .iload _ | .iload_n _ | .lload _ | .lload_n _ | .fload _ | .dload _ | .aload _ | .aload_n _ => 1
  | .istore _ | .istore_n _ | .lstore _ | .lstore_n _ | .fstore _ | .dstore _ | .astore _ | .astore_n _ => 1
  | .iinc _ _ | .goto _ | .ifCond _ _ | .if_icmp _ _ | .if_acmp _ _ | .dup | .dup2 | .pop => 1
  | .i2l | .i2c | .i2f | .i2d | .f2d | .ladd | .lmul | .lcmp | .fdiv | .ddiv | .fcmp _ | .dcmp _ => 2
  | .iadd | .isub | .imul | .iand | .ior | .idiv | .irem => 2
  | .iaload | .baload | .caload | .laload | .daload | .aaload => 3
  | .arraylength | .ldc _ | .ldc_w _ | .ldc2_w _ | .getfield _ | .putfield _ | .iastore | .bastore | .castore | .lastore | .dastore => 4
  | .newarray _ => 5
  | .invokestatic _ => 6
  | .pop2 => 7
  | .invokevirtual _ => 8
  | .tableswitch _ _ _ _ => 9
  | .ireturn | .lreturn | .freturn | .dreturn | .return_ => 10
  | _ => 0
section CL
variable {own pc len : Nat} {ini : Bool} {i : Instr} {al : AL} {st : List Value} {h : AH}
theorem z_constn (hi : z_cl i ≠ 1) : a_const i = none := by
  unfold a_const
  split <;> first | exact absurd rfl hi | rfl
theorem z_loadn (hi : z_cl i ≠ 1) : a_load i = none := by
  unfold a_load
  split <;> first | exact absurd rfl hi | rfl
theorem z_storen (hi : z_cl i ≠ 1) : a_store i = none := by
  unfold a_store
  split <;> first | exact absurd rfl hi | rfl
theorem z_astn {t : Nat} {x : Value} (hi : z_cl i ≠ 4) : a_ast i t x = none := by
  unfold a_ast
  split <;> first | exact absurd rfl hi | rfl
theorem z_binn {x y : Int32} (hi : z_cl i ≠ 2) : a_bin i x y = none := by
  unfold a_bin
  split <;> first | exact absurd rfl hi | rfl
theorem z_aldn {t : Nat} (hi : z_cl i ≠ 3) : a_ald i t = false := by
  unfold a_ald
  split <;> first | exact absurd rfl hi | rfl
theorem z_n1 (h0 : z_cl i ≠ 0) (hi : z_cl i ≠ 1) : a_st1 i pc al st h = none := by
  unfold a_st1
  rw [z_constn hi]
  dsimp only
  rw [z_loadn hi]
  dsimp only
  rw [z_storen hi]
  dsimp only
  split <;> first | exact absurd rfl hi | rfl
theorem z_n4 (h0 : z_cl i ≠ 0) (hi : z_cl i ≠ 4) : a_st4 own ini i pc al st h = none := by
  unfold a_st4
  split <;> first
    | exact absurd rfl hi
    | rfl
    | (split
       · rw [z_astn hi]
       · rfl)
theorem z_n2 (h0 : z_cl i ≠ 0) (hi : z_cl i ≠ 2) : a_st2 i pc al st h = none := by
  unfold a_st2
  split <;> first
    | exact absurd rfl hi
    | rfl
    | (rw [z_binn hi]; rfl)
theorem z_n3 (h0 : z_cl i ≠ 0) (hi : z_cl i ≠ 3) : a_st3 i pc al st h = none := by
  unfold a_st3
  split
  · split
    · rw [z_aldn hi, if_neg (by decide)]
    · rfl
  · rfl
theorem z_n5 (h0 : z_cl i ≠ 0) (hi : z_cl i ≠ 5) (h6 : z_cl i ≠ 6) : a_st5 own i pc al st h = none := by
  unfold a_st5
  split <;> first
    | exact absurd rfl h0
    | exact absurd rfl hi
    | exact absurd rfl h6
    | rfl
theorem z_n6 (h0 : z_cl i ≠ 0) : a_st6 own i pc al st h = none := by
  unfold a_st6
  split <;> first
    | exact absurd rfl h0
    | rfl
theorem z_nw (h0 : z_cl i ≠ 0) (hi : z_cl i ≠ 9) : a_sw i pc al st h = none := by
  unfold a_sw
  split <;> first | exact absurd rfl hi | rfl
theorem z_na (h0 : z_cl i ≠ 0) (h6 : z_cl i ≠ 6) (h7 : z_cl i ≠ 7) : a_acp own i len st h = none := by
  unfold a_acp
  split <;> first | exact absurd rfl h6 | exact absurd rfl h7 | rfl
theorem z_ne {mi : Nat} (h0 : z_cl i ≠ 10) : a_end mi i st = none := by
  unfold a_end
  split <;> first | exact absurd rfl h0 | rfl
theorem z_nt {mi : Nat} (h0 : z_cl i ≠ 0) : a_trw mi pc i st = none := by
  unfold a_trw
  split <;> first | exact absurd rfl h0 | rfl
theorem z_nc (h0 : z_cl i ≠ 0) (h6 : z_cl i ≠ 6) (h8 : z_cl i ≠ 8) : a_call own i st h = none := by
  unfold a_call
  split <;> first | exact absurd rfl h0 | exact absurd rfl h6 | exact absurd rfl h8 | rfl
/-- what a step is -/
theorem z_stp {q : AS} (h0 : z_cl i ≠ 0) (hr : a_stp own ini i len pc al st h = some q) : (z_cl i = 9 ∧ a_sw i pc al st h = some q) ∨ (len = a_len i ∧ ((z_cl i = 1 ∧ a_st1 i pc al st h = some q) ∨ (z_cl i = 4 ∧ a_st4 own ini i pc al st h = some q) ∨ (z_cl i = 2 ∧ a_st2 i pc al st h = some q) ∨ (z_cl i = 3 ∧ a_st3 i pc al st h = some q) ∨ ((z_cl i = 5 ∨ z_cl i = 6) ∧ a_st5 own i pc al st h = some q))) := by
  unfold a_stp at hr
  split at hr
  · rename_i r hs
    cases hr
    left
    refine ⟨?_, hs⟩
    by_cases e : z_cl i = 9
    · exact e
    · rw [z_nw h0 e] at hs
      cases hs
  · right
    split at hr
    · rename_i hl
      refine ⟨hl, ?_⟩
      split at hr
      · rename_i r hs
        cases hr
        by_cases e : z_cl i = 1
        · exact Or.inl ⟨e, hs⟩
        · rw [z_n1 h0 e] at hs
          cases hs
      · split at hr
        · rename_i r hs
          cases hr
          by_cases e : z_cl i = 4
          · exact Or.inr (Or.inl ⟨e, hs⟩)
          · rw [z_n4 h0 e] at hs
            cases hs
        · split at hr
          · rename_i r hs
            cases hr
            by_cases e : z_cl i = 2
            · exact Or.inr (Or.inr (Or.inl ⟨e, hs⟩))
            · rw [z_n2 h0 e] at hs
              cases hs
          · split at hr
            · rename_i r hs
              cases hr
              by_cases e : z_cl i = 3
              · exact Or.inr (Or.inr (Or.inr (Or.inl ⟨e, hs⟩)))
              · rw [z_n3 h0 e] at hs
                cases hs
            · split at hr
              · rename_i r hs
                cases hr
                by_cases e : z_cl i = 5
                · exact Or.inr (Or.inr (Or.inr (Or.inr ⟨Or.inl e, hs⟩)))
                · by_cases e6 : z_cl i = 6
                  · exact Or.inr (Or.inr (Or.inr (Or.inr ⟨Or.inr e6, hs⟩)))
                  · rw [z_n5 h0 e e6] at hs
                    cases hs
              · rw [z_n6 h0] at hr
                cases hr
    · cases hr
/-- how a run goes on behind a call -/
def z_cont (call : Nat → List Value → AH → Option AR) (mi f pc : Nat) (i : Instr) (al : AL) (rest : List Value) (h' : AH) (mc ms : Nat) (r : AR) : (Option Value) ⊕ Nat → Prop
  | .inl v => a_go call mi f (pc + 3) al (v.toList ++ rest) h' mc ms = some r
  | .inr k => ((a_hnd mi).isEmpty = true ∧ r = (.inr k, h', mc, ms)) ∨ ((a_hnd mi).isEmpty = false ∧ ∃ x hp n, a_cth mi pc k = some x ∧ a_hdl mi x.2.2.1 = some (hp, n) ∧ n < al.length ∧ a_go call mi f hp (a_drop al n) [] h' mc ms = some r)
theorem z_goI {call : Nat → List Value → AH → Option AR} {mi f mc ms : Nat} {r : AR} (hr : a_go call mi f pc al st h mc ms = some r) : ∃ f' i len, f = f' + 1 ∧ a_ins mi pc = some (i, len) ∧ ((∃ v, a_end mi i st = some v ∧ r = (.inl v, h, mc, ms)) ∨ (∃ k, a_trw mi pc i st = some k ∧ r = (.inr k, h, mc + 1, ms + 6)) ∨ (a_end mi i st = none ∧ a_trw mi pc i st = none ∧ ((∃ mt as rest q h' c s, a_call (a_own mi) i st h = some (mt, as, rest) ∧ call mt as h = some (q, h', c, s) ∧ z_cont call mi f' pc i al rest h' (mc + c) (ms + s) r q) ∨ (a_call (a_own mi) i st h = none ∧ ((∃ pc' al' st' h' c s, a_stp (a_own mi) (a_ini mi) i len pc al st h = some (pc', al', st', h', c, s) ∧ a_go call mi f' pc' al' st' h' (mc + c) (ms + s) = some r) ∨ (∃ st' h', a_acp (a_own mi) i len st h = some (st', h') ∧ a_go call mi f' (pc + len) al st' h' mc ms = some r)))))) := by
  cases f with
  | zero => cases hr
  | succ f =>
    rw [a_go] at hr
    split at hr
    · cases hr
    · rename_i i len hi
      refine ⟨f, i, len, rfl, hi, ?_⟩
      split at hr
      · rename_i v hv
        cases hr
        exact Or.inl ⟨v, hv, rfl⟩
      · rename_i hv
        split at hr
        · rename_i k hk
          cases hr
          exact Or.inr (Or.inl ⟨k, hk, rfl⟩)
        · rename_i hk
          right; right
          refine ⟨hv, hk, ?_⟩
          split at hr
          · rename_i mt as rest hca
            left
            split at hr
            · rename_i v h' c s hcc
              exact ⟨mt, as, rest, _, h', c, s, hca, hcc, hr⟩
            · rename_i q h' c s hcc
              refine ⟨mt, as, rest, _, h', c, s, hca, hcc, ?_⟩
              split at hr
              · cases hr
              · split at hr
                · rename_i he
                  cases hr
                  exact Or.inl ⟨he, rfl⟩
                · rename_i he
                  split at hr
                  · rename_i x hx
                    split at hr
                    · rename_i hp n hh
                      split at hr
                      · rename_i hn
                        exact Or.inr ⟨by simpa using he, x, hp, n, hx, hh, hn, hr⟩
                      · cases hr
                    · cases hr
                  · cases hr
            · cases hr
          · rename_i hca
            right
            refine ⟨hca, ?_⟩
            split at hr
            · rename_i pc' al' st' h' c s hst
              exact Or.inl ⟨pc', al', st', h', c, s, hst, hr⟩
            · split at hr
              · rename_i st' h' hq
                exact Or.inr ⟨st', h', hq, hr⟩
              · cases hr
/-- a method's answer is there as its type says -/
theorem z_rty {call : Nat → List Value → AH → Option AR} {mi : Nat} : ∀ (f pc : Nat) (al : AL) (st : List Value) (h : AH) (mc ms : Nat) (r : AR), a_go call mi f pc al st h mc ms = some r → ∀ v, r.1 = .inl v → (v = none ↔ a_rty mi = none)
  | 0, pc, al, st, h, mc, ms, r, hr => by cases hr
  | f + 1, pc, al, st, h, mc, ms, r, hr => by
    intro v hv
    obtain ⟨f', i, len, e, hi, k⟩ := z_goI hr
    cases e
    rcases k with ⟨w, k1, k2⟩ | ⟨k, k1, k2⟩ | ⟨-, -, k⟩
    · rw [k2] at hv
      cases hv
      unfold a_end at k1
      split at k1 <;> first
        | (cases k1; done)
        | (split at k1 <;> first
          | (cases k1; done)
          | (cases k1; simp_all; done)
          | (split at k1 <;> first
            | (cases k1; done)
            | (cases k1; simp_all; done)))
    · rw [k2] at hv
      cases hv
    · rcases k with ⟨mt, as, rest, q, h', c, s, k1, k2, k3⟩ | ⟨-, k⟩
      · cases q with
        | inl w => exact z_rty f _ _ _ _ _ _ r k3 v hv
        | inr w =>
          rcases k3 with ⟨k3, k4⟩ | ⟨k3, x, hp, n, k4, k5, k6, k7⟩
          · rw [k4] at hv
            cases hv
          · exact z_rty f _ _ _ _ _ _ r k7 v hv
      · rcases k with ⟨pc', al', st', h', c, s, k1, k2⟩ | ⟨st', h', k1, k2⟩
        · exact z_rty f _ _ _ _ _ _ r k2 v hv
        · exact z_rty f _ _ _ _ _ _ r k2 v hv
end CL
end
/-! part 71s04 -/
section
/-! Values by symbols; moves -/
def z_val (ν : List Int) (b : ZV) (w : Value) : Prop := b.2.1.1 ≤ ν.length ∧ b.2.2.1 ≤ ν.length ∧ match b.1 with
  | 0 => e_v w = o_v ν b.2.1
  | 1 => e_v w = o_v ν b.2.1
  | f + 2 => ∃ a, w = .ref a ∧ z_ad f (o_v ν b.2.1) (o_v ν b.2.2) = some a
def z_stk (ν : List Int) : List ZV → List Value → Prop
  | [], [] => True
  | b :: bs, w :: ws => z_val ν b w ∧ z_stk ν bs ws
  | _, _ => False
abbrev ZL : Type := List (Option ZV)
def z_loc (ν : List Int) (bl : ZL) (al : AL) : Prop := bl.length = al.length ∧ ∀ i b, bl[i]? = some (some b) → ∃ w, a_get al i = some w ∧ z_val ν b w ∧ (b.1 ≠ 1 → w.category ≠ 2)
theorem o_app {ν : List Int} {x : ZN} (h : x.1 ≤ ν.length) (z : Int) : o_v (ν ++ [z]) x = o_v ν x := by
  unfold o_v
  split
  · rfl
  · rename_i n e
    rw [List.getD_eq_getElem?_getD, List.getD_eq_getElem?_getD, List.getElem?_append_left (by omega)]
theorem o_new {ν : List Int} {z c : Int} : o_v (ν ++ [z]) (ν.length + 1, c) = z := by
  show (ν ++ [z]).getD ν.length 0 = z
  rw [List.getD_eq_getElem?_getD, List.getElem?_append_right (Nat.le_refl _), Nat.sub_self]
  rfl
theorem z_val.app {ν : List Int} {b : ZV} {w : Value} (h : z_val ν b w) (z : Int) : z_val (ν ++ [z]) b w := by
  obtain ⟨h1, h2, h3⟩ := h
  refine ⟨by rw [List.length_append]; omega, by rw [List.length_append]; omega, ?_⟩
  rw [o_app h1, o_app h2]
  exact h3
theorem z_stk.app {ν : List Int} (z : Int) : ∀ {bs : List ZV} {ws : List Value}, z_stk ν bs ws → z_stk (ν ++ [z]) bs ws
  | [], [], _ => trivial
  | b :: bs, w :: ws, h => ⟨h.1.app z, z_stk.app z h.2⟩
  | [], _ :: _, h => h.elim
  | _ :: _, [], h => h.elim
theorem z_loc.app {ν : List Int} {bl : ZL} {al : AL} (h : z_loc ν bl al) (z : Int) : z_loc (ν ++ [z]) bl al := ⟨h.1, fun i b hb => by
  obtain ⟨w, h1, h2, h3⟩ := h.2 i b hb
  exact ⟨w, h1, h2.app z, h3⟩⟩
theorem z_num {ν : List Int} {b : ZV} {w : Value} (h : z_val ν b w) (hk : b.1 < 2) : e_v w = o_v ν b.2.1 := by
  have h3 := h.2.2
  split at h3
  · exact h3
  · exact h3
  · rename_i f e
    omega
theorem z_ref {ν : List Int} {b : ZV} {w : Value} {f : Nat} (h : z_val ν b w) (hk : b.1 = f + 2) : ∃ a, w = .ref a ∧ z_ad f (o_v ν b.2.1) (o_v ν b.2.2) = some a := by
  have h3 := h.2.2
  split at h3
  · omega
  · omega
  · rename_i f' e
    have : f' = f := by omega
    subst this
    exact h3
theorem z_val.n {ν : List Int} {w : Value} {k : Nat} {x y : ZN} (hk : k < 2) (hx : x.1 ≤ ν.length) (hy : y.1 ≤ ν.length) (h : e_v w = o_v ν x) : z_val ν (k, x, y) w := by
  refine ⟨hx, hy, ?_⟩
  match k, hk with
  | 0, _ => exact h
  | 1, _ => exact h
theorem z_val.new {ν : List Int} {w : Value} {z : Int} (h : e_v w = z) : z_val (ν ++ [z]) (0, (ν.length + 1, 0), (0, 0)) w := by
  refine ⟨by show ν.length + 1 ≤ (ν ++ [z]).length; rw [List.length_append]; exact Nat.le_refl _, Nat.zero_le _, ?_⟩
  show e_v w = o_v _ (ν.length + 1, 0)
  rw [o_new]
  exact h
theorem z_stk.c {ν : List Int} {b : ZV} {bs : List ZV} {st : List Value} (h : z_stk ν (b :: bs) st) : ∃ w ws, st = w :: ws ∧ z_val ν b w ∧ z_stk ν bs ws := by
  cases st with
  | nil => exact h.elim
  | cons w ws => exact ⟨w, ws, rfl, h.1, h.2⟩
theorem z_stk.n {ν : List Int} {st : List Value} (h : z_stk ν [] st) : st = [] := by
  cases st with
  | nil => rfl
  | cons w ws => exact h.elim
theorem z_stk.len {ν : List Int} : ∀ {bs : List ZV} {ws : List Value}, z_stk ν bs ws → bs.length = ws.length
  | [], [], _ => rfl
  | b :: bs, w :: ws, h => by rw [List.length_cons, List.length_cons, z_stk.len h.2]
  | [], _ :: _, h => h.elim
  | _ :: _, [], h => h.elim
theorem z_stk.take {ν : List Int} : ∀ (n : Nat) {bs : List ZV} {ws : List Value}, z_stk ν bs ws → z_stk ν (bs.take n) (ws.take n) ∧ z_stk ν (bs.drop n) (ws.drop n)
  | 0, bs, ws, h => ⟨trivial, h⟩
  | n + 1, [], [], _ => ⟨trivial, trivial⟩
  | n + 1, b :: bs, w :: ws, h => ⟨⟨h.1, (z_stk.take n h.2).1⟩, (z_stk.take n h.2).2⟩
  | n + 1, [], _ :: _, h => h.elim
  | n + 1, _ :: _, [], h => h.elim
theorem z_stk.cat {ν : List Int} : ∀ {bs bs' : List ZV} {ws ws' : List Value}, z_stk ν bs ws → z_stk ν bs' ws' → z_stk ν (bs ++ bs') (ws ++ ws')
  | [], _, [], _, _, h' => h'
  | b :: bs, _, w :: ws, _, h, h' => ⟨h.1, z_stk.cat h.2 h'⟩
  | [], _, _ :: _, _, h, _ => h.elim
  | _ :: _, _, [], _, h, _ => h.elim
theorem z_stk.rev {ν : List Int} : ∀ {bs : List ZV} {ws : List Value}, z_stk ν bs ws → z_stk ν bs.reverse ws.reverse
  | [], [], _ => trivial
  | b :: bs, w :: ws, h => by
    rw [List.reverse_cons, List.reverse_cons]
    exact (z_stk.rev h.2).cat ⟨h.1, trivial⟩
  | [], _ :: _, h => h.elim
  | _ :: _, [], h => h.elim
/-! Locals -/
def z_kill (bl : ZL) (k : Nat) : ZL := match k with
  | 0 => bl
  | j + 1 => match bl[j]? with
    | some (some b) => if b.1 = 1 then bl.set j none else bl
    | _ => bl
def z_sto (kd : Nat) (bl : ZL) (k : Nat) (v : ZV) : Option ZL :=
  if kd = 1 ∨ kd = 3 then (if v.1 < 2 ∧ k + 1 < bl.length then some (((z_kill bl k).set k (some (1, v.2))).set (k + 1) none) else none)
  else if k < bl.length then some ((z_kill bl k).set k (some (if v.1 = 1 then (0, v.2) else v))) else none
theorem z_get_set {al : AL} {k i : Nat} {o : Option Value} : a_get (al.set k o) i = if i = k ∧ k < al.length then o else a_get al i := by
  unfold a_get
  by_cases e : i = k
  · subst e
    by_cases c : i < al.length
    · rw [if_pos ⟨rfl, c⟩, List.getElem?_set_self c]
      rfl
    · rw [if_neg (fun q => c q.2), List.set_eq_of_length_le (by omega)]
  · rw [if_neg (fun q => e q.1), List.getElem?_set_ne (Ne.symm e)]
theorem z_kill_len {bl : ZL} {k : Nat} : (z_kill bl k).length = bl.length := by
  unfold z_kill
  split
  · rfl
  · split
    · split
      · exact List.length_set
      · rfl
    · rfl
theorem z_akill_len {al : AL} {k : Nat} : (a_kill al k).length = al.length := by
  unfold a_kill
  split
  · rfl
  · split
    · exact List.length_set
    · rfl
theorem z_loc.kill {ν : List Int} {bl : ZL} {al : AL} (h : z_loc ν bl al) (k : Nat) : z_loc ν (z_kill bl k) (a_kill al k) := by
  refine ⟨by rw [z_kill_len, z_akill_len]; exact h.1, fun i b hb => ?_⟩
  cases k with
  | zero => exact h.2 i b hb
  | succ j =>
    have key : i ≠ j → bl[i]? = some (some b) → ∃ w, a_get (a_kill al (j + 1)) i = some w ∧ z_val ν b w ∧ (b.1 ≠ 1 → w.category ≠ 2) := fun e hb => by
      obtain ⟨w, h1, h2, h3⟩ := h.2 i b hb
      refine ⟨w, ?_, h2, h3⟩
      unfold a_kill
      dsimp only
      split
      · rw [z_get_set, if_neg (fun q => e q.1)]
        exact h1
      · exact h1
    have same : bl[i]? = some (some b) → b.1 ≠ 1 → ∃ w, a_get (a_kill al (j + 1)) i = some w ∧ z_val ν b w ∧ (b.1 ≠ 1 → w.category ≠ 2) := fun hb2 hk => by
      by_cases e : i = j
      · subst e
        obtain ⟨w, h1, h2, h3⟩ := h.2 i b hb2
        refine ⟨w, ?_, h2, h3⟩
        unfold a_kill
        dsimp only
        rw [if_neg (by rw [h1]; simp; exact h3 hk)]
        exact h1
      · exact key e hb2
    unfold z_kill at hb
    dsimp only at hb
    split at hb
    · rename_i b' hb'
      split at hb
      · rename_i e1
        by_cases e : i = j
        · subst e
          rw [List.getElem?_set_self (List.getElem?_eq_some_iff.mp hb').1] at hb
          cases hb
        · rw [List.getElem?_set_ne (Ne.symm e)] at hb
          exact key e hb
      · rename_i e1
        by_cases e : i = j
        · subst e
          rw [hb'] at hb
          cases hb
          exact same hb' e1
        · exact key e hb
    · rename_i hno
      by_cases e : i = j
      · subst e
        exact absurd hb (hno b)
      · exact key e hb
theorem z_loc.set {ν : List Int} {bl : ZL} {al : AL} (h : z_loc ν bl al) {k : Nat} {b : ZV} {w : Value} (hk : k < bl.length) (hv : z_val ν b w) (hc : b.1 ≠ 1 → w.category ≠ 2) : z_loc ν (bl.set k (some b)) (al.set k (some w)) := by
  refine ⟨by rw [List.length_set, List.length_set]; exact h.1, fun i b' hb => ?_⟩
  rw [z_get_set]
  by_cases e : i = k
  · subst e
    rw [List.getElem?_set_self hk] at hb
    cases hb
    rw [if_pos ⟨rfl, by rw [← h.1]; exact hk⟩]
    exact ⟨w, rfl, hv, hc⟩
  · rw [if_neg (fun q => e q.1)]
    rw [List.getElem?_set_ne (Ne.symm e)] at hb
    exact h.2 i b' hb
theorem z_loc.setN {ν : List Int} {bl : ZL} {al : AL} (h : z_loc ν bl al) (k : Nat) : z_loc ν (bl.set k none) (al.set k none) := by
  refine ⟨by rw [List.length_set, List.length_set]; exact h.1, fun i b' hb => ?_⟩
  by_cases e : i = k
  · subst e
    rcases Nat.lt_or_ge i bl.length with q | q
    · rw [List.getElem?_set_self q] at hb
      cases hb
    · rw [List.getElem?_eq_none (by rw [List.length_set]; exact q)] at hb
      cases hb
  · rw [List.getElem?_set_ne (Ne.symm e)] at hb
    rw [z_get_set, if_neg (fun q => e q.1)]
    exact h.2 i b' hb
theorem z_sto_ok {ν : List Int} {bl bl' : ZL} {al al' : AL} {kd k : Nat} {b : ZV} {w : Value} (h : z_loc ν bl al) (hs : z_sto kd bl k b = some bl') (hv : z_val ν b w) (hk : a_kind w = kd) (ha : a_sto al k w = some al') : z_loc ν bl' al' := by
  unfold z_sto at hs
  split at hs
  · rename_i e
    have hc : w.category = 2 := by cases w <;> simp [a_kind] at hk <;> first | rfl | omega
    split at hs
    · rename_i hq
      cases hs
      unfold a_sto at ha
      rw [if_pos hc] at ha
      split at ha
      · cases ha
        unfold a_set2
        have h1 := (h.kill k).set (k := k) (b := (1, b.2)) (w := w) (by rw [z_kill_len]; omega) (z_val.n (by decide) hv.1 hv.2.1 (z_num hv hq.1)) (fun q => absurd rfl q)
        exact h1.setN (k + 1)
      · cases ha
    · cases hs
  · rename_i e
    have hc : w.category ≠ 2 := by cases w <;> simp [a_kind] at hk <;> first | (show (1 : Nat) ≠ 2; decide) | omega
    split at hs
    · rename_i hq
      cases hs
      unfold a_sto at ha
      rw [if_neg hc] at ha
      split at ha
      · cases ha
        unfold a_set1
        refine (h.kill k).set (by rw [z_kill_len]; exact hq) ?_ (fun _ => hc)
        split
        · rename_i e1
          exact z_val.n (by decide) hv.1 hv.2.1 (z_num hv (by omega))
        · exact hv
      · cases ha
    · cases hs
/-! Moves -/
def z_isA (f : Nat) : Bool := match z_tab[f]? with
  | some row => row.2.1 != 0
  | none => false
def z_mv (own : Nat) (i : Instr) (pc : Nat) (bl : ZL) (bs : List ZV) : Option (Nat × ZL × List ZV) := match i, bs with
  | .goto off, bs => (a_tgt pc off).map fun t => (t, bl, bs)
  | .dup, v :: bs => some (pc + 1, bl, v :: v :: bs)
  | .dup2, v :: u :: bs => some (pc + 1, bl, v :: u :: v :: u :: bs)
  | .pop, _ :: bs => some (pc + 1, bl, bs)
  | .pop2, _ :: bs => some (pc + 1, bl, bs)
  | .i2l, v :: bs => if v.1 < 2 then some (pc + 1, bl, (0, v.2) :: bs) else none
  | .ldc idx, bs => ((a_of a_cst own).find? (fun e => e.1 == idx)).map fun e => (pc + 2, bl, (0, (0, e.2.1.toInt), (0, 0)) :: bs)
  | .ldc_w idx, bs => ((a_of a_cst own).find? (fun e => e.1 == idx)).map fun e => (pc + 3, bl, (0, (0, e.2.1.toInt), (0, 0)) :: bs)
  | .ldc2_w idx, bs => ((a_of a_csl own).find? (fun e => e.1 == idx)).map fun e => (pc + 3, bl, (0, (0, e.2.1.toInt), (0, 0)) :: bs)
  | .getfield idx, b :: bs => match a_field own idx with
    | some (_, k) => if 2 ≤ b.1 then (z_po (b.1 - 2) k).map fun g => (pc + 3, bl, (g + 2, b.2) :: bs) else none
    | none => none
  | .aaload, e :: b :: bs => if 2 ≤ b.1 ∧ e.1 < 2 then (z_pa (b.1 - 2)).map fun q => (pc + 1, bl, (if q.2 = 1 then (q.1 + 2, e.2.1, b.2.2) else (q.1 + 2, b.2.1, e.2.1)) :: bs) else none
  | i, bs => match a_const i with
    | some v => some (pc + a_len i, bl, (0, (0, e_v v), (0, 0)) :: bs)
    | none => match a_load i with
      | some (k, _) => (match bl[k]? with
        | some (some b) => some (pc + a_len i, bl, b :: bs)
        | _ => none)
      | none => match a_store i, bs with
        | some (k, kd), v :: bs => (z_sto kd bl k v).map fun bl' => (pc + a_len i, bl', bs)
        | _, _ => none
end
/-! part 71s05 -/
section
/-! Moves are right -/
section MV
variable {call : Nat → List Value → AH → Option AR} {mi f pc len mc ms : Nat} {i : Instr} {al : AL} {st : List Value} {h : AH} {r : AR} {ν : List Int} {bl : ZL} {bs : List ZV}
theorem z_goS (hi : a_ins mi pc = some (i, len)) (c0 : z_cl i ≠ 0) (c10 : z_cl i ≠ 10) (c8 : z_cl i ≠ 8) (c6 : z_cl i = 6 → a_call (a_own mi) i st h = none) (hr : a_go call mi f pc al st h mc ms = some r) : ∃ f', f = f' + 1 ∧ ((∃ q : AS, a_stp (a_own mi) (a_ini mi) i len pc al st h = some q ∧ a_go call mi f' q.1 q.2.1 q.2.2.1 q.2.2.2.1 (mc + q.2.2.2.2.1) (ms + q.2.2.2.2.2) = some r) ∨ ((z_cl i = 6 ∨ z_cl i = 7) ∧ ∃ st' h', a_acp (a_own mi) i len st h = some (st', h') ∧ a_go call mi f' (pc + len) al st' h' mc ms = some r)) := by
  obtain ⟨f', i', len', e, hi', k⟩ := z_goI hr
  rw [hi] at hi'
  cases hi'
  refine ⟨f', e, ?_⟩
  rcases k with ⟨w, k1, k2⟩ | ⟨k, k1, k2⟩ | ⟨-, -, k⟩
  · rw [z_ne c10] at k1
    cases k1
  · rw [z_nt c0] at k1
    cases k1
  · rcases k with ⟨mt, as, rest, q, h', c, s, k1, k2, k3⟩ | ⟨-, k⟩
    · by_cases c : z_cl i = 6
      · rw [c6 c] at k1
        cases k1
      · rw [z_nc c0 c c8] at k1
        cases k1
    · rcases k with ⟨pc', al', st', h', c, s, k1, k2⟩ | ⟨st', h', k1, k2⟩
      · exact Or.inl ⟨_, k1, k2⟩
      · right
        refine ⟨?_, st', h', k1, k2⟩
        by_cases c : z_cl i = 6
        · exact Or.inl c
        · by_cases c7 : z_cl i = 7
          · exact Or.inr c7
          · rw [z_na c0 c c7] at k1
            cases k1
theorem z_cl_const {v : Value} (h : a_const i = some v) : z_cl i = 1 := by
  cases i <;> first | rfl | (cases h; done)
theorem z_cl_load {q : Nat × Nat} (h : a_load i = some q) : z_cl i = 1 ∧ a_const i = none := by
  cases i <;> first | exact ⟨rfl, rfl⟩ | (cases h; done)
theorem z_cl_store {q : Nat × Nat} (h : a_store i = some q) : z_cl i = 1 ∧ a_const i = none ∧ a_load i = none := by
  cases i <;> first | exact ⟨rfl, rfl, rfl⟩ | (cases h; done)
/-- instructions of the first step -/
theorem z_go1 (hi : a_ins mi pc = some (i, len)) (c1 : z_cl i = 1) (hr : a_go call mi f pc al st h mc ms = some r) : ∃ f', f = f' + 1 ∧ ∃ q : AS, a_st1 i pc al st h = some q ∧ a_go call mi f' q.1 q.2.1 q.2.2.1 q.2.2.2.1 (mc + q.2.2.2.2.1) (ms + q.2.2.2.2.2) = some r := by
  obtain ⟨f', e, k⟩ := z_goS hi (by omega) (by omega) (by omega) (fun q => by omega) hr
  refine ⟨f', e, ?_⟩
  rcases k with ⟨q, k1, k2⟩ | ⟨k, -⟩
  · rcases z_stp (by omega) k1 with ⟨a, -⟩ | ⟨-, ⟨-, b⟩ | ⟨a, -⟩ | ⟨a, -⟩ | ⟨a, -⟩ | ⟨a, -⟩⟩ <;> first | exact ⟨q, b, k2⟩ | omega
  · omega
theorem z_go4 (hi : a_ins mi pc = some (i, len)) (c1 : z_cl i = 4) (hr : a_go call mi f pc al st h mc ms = some r) : ∃ f', f = f' + 1 ∧ ∃ q : AS, a_st4 (a_own mi) (a_ini mi) i pc al st h = some q ∧ a_go call mi f' q.1 q.2.1 q.2.2.1 q.2.2.2.1 (mc + q.2.2.2.2.1) (ms + q.2.2.2.2.2) = some r := by
  obtain ⟨f', e, k⟩ := z_goS hi (by omega) (by omega) (by omega) (fun q => by omega) hr
  refine ⟨f', e, ?_⟩
  rcases k with ⟨q, k1, k2⟩ | ⟨k, -⟩
  · rcases z_stp (by omega) k1 with ⟨a, -⟩ | ⟨-, ⟨a, -⟩ | ⟨-, b⟩ | ⟨a, -⟩ | ⟨a, -⟩ | ⟨a, -⟩⟩ <;> first | exact ⟨q, b, k2⟩ | omega
  · omega
theorem z_go2 (hi : a_ins mi pc = some (i, len)) (c1 : z_cl i = 2) (hr : a_go call mi f pc al st h mc ms = some r) : ∃ f', f = f' + 1 ∧ ∃ q : AS, a_st2 i pc al st h = some q ∧ a_go call mi f' q.1 q.2.1 q.2.2.1 q.2.2.2.1 (mc + q.2.2.2.2.1) (ms + q.2.2.2.2.2) = some r := by
  obtain ⟨f', e, k⟩ := z_goS hi (by omega) (by omega) (by omega) (fun q => by omega) hr
  refine ⟨f', e, ?_⟩
  rcases k with ⟨q, k1, k2⟩ | ⟨k, -⟩
  · rcases z_stp (by omega) k1 with ⟨a, -⟩ | ⟨-, ⟨a, -⟩ | ⟨a, -⟩ | ⟨-, b⟩ | ⟨a, -⟩ | ⟨a, -⟩⟩ <;> first | exact ⟨q, b, k2⟩ | omega
  · omega
theorem z_go3 (hi : a_ins mi pc = some (i, len)) (c1 : z_cl i = 3) (hr : a_go call mi f pc al st h mc ms = some r) : ∃ f', f = f' + 1 ∧ ∃ q : AS, a_st3 i pc al st h = some q ∧ a_go call mi f' q.1 q.2.1 q.2.2.1 q.2.2.2.1 (mc + q.2.2.2.2.1) (ms + q.2.2.2.2.2) = some r := by
  obtain ⟨f', e, k⟩ := z_goS hi (by omega) (by omega) (by omega) (fun q => by omega) hr
  refine ⟨f', e, ?_⟩
  rcases k with ⟨q, k1, k2⟩ | ⟨k, -⟩
  · rcases z_stp (by omega) k1 with ⟨a, -⟩ | ⟨-, ⟨a, -⟩ | ⟨a, -⟩ | ⟨a, -⟩ | ⟨-, b⟩ | ⟨a, -⟩⟩ <;> first | exact ⟨q, b, k2⟩ | omega
  · omega
theorem z_ix {j : Int32} {n k : Nat} (h : a_ix j n = some k) : (k : Int) = j.toInt ∧ k < n := by
  obtain ⟨h1, h2, h3⟩ := a_ix_ok h
  refine ⟨?_, h3⟩
  have h0 : 0 ≤ j.toInt := by
    by_cases q : j.toInt < 0
    · exact absurd (Or.inl (Int32.lt_iff_toInt_lt.mpr (by simpa using q))) h1
    · omega
  have : j.toNatClampNeg = j.toInt.toNat := rfl
  omega
/-- what a move leaves -/
def z_next (w : Bool) (h : AH) (call : Nat → List Value → AH → Option AR) (mi f : Nat) (r : AR) (ν : List Int) (S : ZS) (pc' : Nat) (bl' : ZL) (bs' : List ZV) : Prop := ∃ f' al' st' h' mc' ms', f = f' + 1 ∧ a_go call mi f' pc' al' st' h' mc' ms' = some r ∧ z_loc ν bl' al' ∧ z_stk ν bs' st' ∧ z_PI h' ∧ z_al h' = S ∧ (w = true ∨ h' = h)
theorem z_k {ν : List Int} {z : Int} {w : Value} (h : e_v w = z) : z_val ν (0, (0, z), (0, 0)) w := ⟨Nat.zero_le _, Nat.zero_le _, h⟩
theorem z_mv_ok {pc' : Nat} {bl' : ZL} {bs' : List ZV} (hi : a_ins mi pc = some (i, len)) (hm : z_mv (a_own mi) i pc bl bs = some (pc', bl', bs')) (hl : z_loc ν bl al) (hs : z_stk ν bs st) (P : z_PI h) (hr : a_go call mi f pc al st h mc ms = some r) : z_next false h call mi f r ν (z_al h) pc' bl' bs' := by
  unfold z_mv at hm
  split at hm
  · -- goto
    obtain ⟨f', e, q, k1, k2⟩ := z_go1 hi rfl hr
    unfold a_st1 at k1
    simp only [a_const, a_load, a_store, Option.map_eq_some_iff] at k1
    simp only [Option.map_eq_some_iff] at hm
    obtain ⟨t, h1, h2⟩ := hm
    obtain ⟨t', h1', rfl⟩ := k1
    rw [h1] at h1'
    cases h1'
    cases h2
    exact ⟨f', _, _, _, _, _, e, k2, hl, hs, P, rfl, Or.inr rfl⟩
  · -- dup
    obtain ⟨f', e, q, k1, k2⟩ := z_go1 hi rfl hr
    obtain ⟨w, ws, rfl, s1, s2⟩ := hs.c
    unfold a_st1 at k1
    simp only [a_const, a_load, a_store] at k1
    cases hm
    split at k1
    · cases k1
      exact ⟨f', _, _, _, _, _, e, k2, hl, ⟨s1, s1, s2⟩, P, rfl, Or.inr rfl⟩
    · cases k1
  · -- dup2
    obtain ⟨f', e, q, k1, k2⟩ := z_go1 hi rfl hr
    obtain ⟨w, ws, rfl, s1, s2⟩ := hs.c
    obtain ⟨u, us, rfl, s3, s4⟩ := s2.c
    unfold a_st1 at k1
    simp only [a_const, a_load, a_store] at k1
    cases hm
    split at k1
    · cases k1
      exact ⟨f', _, _, _, _, _, e, k2, hl, ⟨s1, s3, s1, s3, s4⟩, P, rfl, Or.inr rfl⟩
    · cases k1
  · -- pop
    obtain ⟨f', e, q, k1, k2⟩ := z_go1 hi rfl hr
    obtain ⟨w, ws, rfl, s1, s2⟩ := hs.c
    unfold a_st1 at k1
    simp only [a_const, a_load, a_store] at k1
    cases hm
    split at k1
    · cases k1
      exact ⟨f', _, _, _, _, _, e, k2, hl, s2, P, rfl, Or.inr rfl⟩
    · cases k1
  · -- pop2
    obtain ⟨w, ws, rfl, s1, s2⟩ := hs.c
    obtain ⟨f', e, k⟩ := z_goS hi (by decide) (by decide) (by decide) (fun q => absurd q (by decide)) hr
    cases hm
    rcases k with ⟨q, k1, k2⟩ | ⟨k, st', h', k1, k2⟩
    · rcases z_stp (by decide) k1 with ⟨a, -⟩ | ⟨-, ⟨a, -⟩ | ⟨a, -⟩ | ⟨a, -⟩ | ⟨a, -⟩ | ⟨a, -⟩⟩ <;> exact absurd a (by decide)
    · unfold a_acp at k1
      dsimp only at k1
      split at k1
      · rename_i c
        cases k1
        rw [c.1] at k2
        exact ⟨f', _, _, _, _, _, e, k2, hl, s2, P, rfl, Or.inr rfl⟩
      · cases k1
  · -- i2l
    obtain ⟨f', e, q, k1, k2⟩ := z_go2 hi rfl hr
    obtain ⟨w, ws, rfl, s1, s2⟩ := hs.c
    split at hm
    · rename_i c
      cases hm
      cases w <;> first
        | (cases k1; done)
        | (cases k1
           refine ⟨f', _, _, _, _, _, e, k2, hl, ⟨z_val.n (by decide) s1.1 s1.2.1 ?_, s2⟩, P, rfl, Or.inr rfl⟩
           rw [← z_num s1 c]
           exact Int32.toInt_toInt64 _)
    · cases hm
  · -- ldc
    obtain ⟨f', e, q, k1, k2⟩ := z_go4 hi rfl hr
    unfold a_st4 at k1
    simp only [Option.map_eq_some_iff] at k1 hm
    obtain ⟨t, h1, h2⟩ := hm
    obtain ⟨t', h1', rfl⟩ := k1
    rw [h1] at h1'
    cases h1'
    cases h2
    exact ⟨f', _, _, _, _, _, e, k2, hl, ⟨z_k rfl, hs⟩, P, rfl, Or.inr rfl⟩
  · -- ldc_w
    obtain ⟨f', e, q, k1, k2⟩ := z_go4 hi rfl hr
    unfold a_st4 at k1
    simp only [Option.map_eq_some_iff] at k1 hm
    obtain ⟨t, h1, h2⟩ := hm
    obtain ⟨t', h1', rfl⟩ := k1
    rw [h1] at h1'
    cases h1'
    cases h2
    exact ⟨f', _, _, _, _, _, e, k2, hl, ⟨z_k rfl, hs⟩, P, rfl, Or.inr rfl⟩
  · -- ldc2_w
    obtain ⟨f', e, q, k1, k2⟩ := z_go4 hi rfl hr
    unfold a_st4 at k1
    simp only [Option.map_eq_some_iff] at k1 hm
    obtain ⟨t, h1, h2⟩ := hm
    obtain ⟨t', h1', rfl⟩ := k1
    rw [h1] at h1'
    cases h1'
    cases h2
    exact ⟨f', _, _, _, _, _, e, k2, hl, ⟨z_k rfl, hs⟩, P, rfl, Or.inr rfl⟩
  · -- getfield
    obtain ⟨f', e, q, k1, k2⟩ := z_go4 hi rfl hr
    obtain ⟨w, ws, rfl, s1, s2⟩ := hs.c
    split at hm
    · rename_i ci k hf
      split at hm
      · rename_i c2
        obtain ⟨m, hb⟩ := Nat.exists_eq_add_of_le' c2
        obtain ⟨a, rfl, ha⟩ := z_ref s1 hb
        rw [hb, Nat.add_sub_cancel, Option.map_eq_some_iff] at hm
        obtain ⟨g, h1, h2⟩ := hm
        cases h2
        unfold a_st4 at k1
        dsimp only at k1
        rw [hf] at k1
        dsimp only at k1
        split at k1
        · rename_i t vs hh
          split at k1
          · rw [Option.map_eq_some_iff] at k1
            obtain ⟨v, hv, rfl⟩ := k1
            obtain ⟨b2, rfl, hb2⟩ := (P.2 _ _ _ _ _ _ ha hh).1 _ _ _ h1 hv
            exact ⟨f', _, _, _, _, _, e, k2, hl, ⟨⟨s1.1, s1.2.1, b2, rfl, hb2⟩, s2⟩, P, rfl, Or.inr rfl⟩
          · cases k1
        · cases k1
      · cases hm
    · cases hm
  · -- aaload
    obtain ⟨f', e, q, k1, k2⟩ := z_go3 hi rfl hr
    obtain ⟨u, us, rfl, s1, s2⟩ := hs.c
    obtain ⟨w, ws, rfl, s3, s4⟩ := s2.c
    split at hm
    · rename_i c2
      obtain ⟨m, hb⟩ := Nat.exists_eq_add_of_le' c2.1
      obtain ⟨a, rfl, ha⟩ := z_ref s3 hb
      rw [hb, Nat.add_sub_cancel, Option.map_eq_some_iff] at hm
      obtain ⟨g, h1, h2⟩ := hm
      cases h2
      have hu := z_num s1 c2.2
      cases u <;> first
        | (cases k1; done)
        | skip
      rename_i j
      unfold a_st3 at k1
      dsimp only at k1
      split at k1
      · rename_i t vs hh
        split at k1
        · rw [Option.bind_eq_some_iff] at k1
          obtain ⟨n, hn, k1⟩ := k1
          rw [Option.map_eq_some_iff] at k1
          obtain ⟨v, hv, rfl⟩ := k1
          obtain ⟨n1, n2⟩ := z_ix hn
          obtain ⟨b2, rfl, hb2⟩ := (P.2 _ _ _ _ _ _ ha hh).2 _ _ _ _ h1 hv
          refine ⟨f', _, _, _, _, _, e, k2, hl, ⟨?_, s4⟩, P, rfl, Or.inr rfl⟩
          rw [n1, show j.toInt = _ from hu] at hb2
          split
          · rename_i e1
            rw [if_pos e1, if_pos e1] at hb2
            exact ⟨s1.1, s3.2.1, b2, rfl, hb2⟩
          · rename_i e1
            rw [if_neg e1, if_neg e1] at hb2
            exact ⟨s3.1, s1.1, b2, rfl, hb2⟩
        · cases k1
      · cases k1
    · cases hm
  · -- constants, loads, stores
    split at hm
    · rename_i v hv
      obtain ⟨f', e, q, k1, k2⟩ := z_go1 hi (z_cl_const hv) hr
      cases hm
      unfold a_st1 at k1
      rw [hv] at k1
      cases k1
      exact ⟨f', _, _, _, _, _, e, k2, hl, ⟨z_k rfl, hs⟩, P, rfl, Or.inr rfl⟩
    · split at hm
      · rename_i k kd hv
        obtain ⟨c1, c2⟩ := z_cl_load hv
        obtain ⟨f', e, q, k1, k2⟩ := z_go1 hi c1 hr
        split at hm
        · rename_i b hb
          cases hm
          unfold a_st1 at k1
          rw [c2] at k1
          dsimp only at k1
          rw [hv] at k1
          dsimp only at k1
          obtain ⟨w, w1, w2, w3⟩ := hl.2 _ _ hb
          rw [w1] at k1
          dsimp only at k1
          split at k1
          · cases k1
            exact ⟨f', _, _, _, _, _, e, k2, hl, ⟨w2, hs⟩, P, rfl, Or.inr rfl⟩
          · cases k1
        · cases hm
      · split at hm
        · rename_i k kd v bs0 hv _ _ _ _ _ _ _
          obtain ⟨c1, c2, c3⟩ := z_cl_store hv
          obtain ⟨f', e, q, k1, k2⟩ := z_go1 hi c1 hr
          obtain ⟨w, ws, rfl, s1, s2⟩ := hs.c
          rw [Option.map_eq_some_iff] at hm
          obtain ⟨bl2, h1, h2⟩ := hm
          cases h2
          unfold a_st1 at k1
          rw [c2] at k1
          dsimp only at k1
          rw [c3] at k1
          dsimp only at k1
          rw [hv] at k1
          dsimp only at k1
          split at k1
          · rename_i hk
            rw [Option.map_eq_some_iff] at k1
            obtain ⟨al2, h3, rfl⟩ := k1
            exact ⟨f', _, _, _, _, _, e, k2, z_sto_ok hl h1 s1 hk h3, s2, P, rfl, Or.inr rfl⟩
          · cases k1
        · cases hm
end MV
end
/-! part 71s06 -/
section
/-! Operations that give a number or write one -/
def z_bin (i : Instr) : Option (Nat × Bool) := match i with
  | .iadd => some (0, true)
  | .isub => some (1, true)
  | .imul => some (2, true)
  | .idiv => some (3, true)
  | .irem => some (4, true)
  | .iand => some (5, true)
  | .ior => some (6, true)
  | .i2c => some (9, false)
  | .ladd => some (10, true)
  | .lmul => some (11, true)
  | .lcmp => some (12, true)
  | .i2f => some (13, false)
  | .i2d => some (14, false)
  | .f2d => some (15, false)
  | .fdiv => some (16, true)
  | .ddiv => some (17, true)
  | .dcmp .g => some (18, true)
  | .dcmp .l => some (19, true)
  | .fcmp .g => some (20, true)
  | .fcmp .l => some (21, true)
  | _ => none
theorem z_ofI (x : Int32) : Int32.ofInt x.toInt = x := Int32.ofInt_toInt x
theorem z_bin2 {i : Instr} (h : ∃ q, z_bin i = some q) : z_cl i = 2 := by
  obtain ⟨q, h⟩ := h
  cases i <;> first | rfl | (cases h; done)
theorem z_st2_1 {i : Instr} {c pc : Nat} {al : AL} {w : Value} {ws : List Value} {h : AH} {q : AS} (hb : z_bin i = some (c, false)) (hr : a_st2 i pc al (w :: ws) h = some q) : ∃ v, q = (pc + 1, al, v :: ws, h, 0, 0) ∧ e_v v = e_bin c (e_v w) 0 := by
  cases i <;> first
    | (simp [z_bin] at hb; done)
    | skip
  case i2c =>
    cases hb
    cases w <;> first
      | (cases hr; done)
      | skip
    rename_i x
    cases hr
    refine ⟨_, rfl, ?_⟩
    show (_ : Int) = e_i2c x.toInt
    unfold e_i2c
    rw [z_ofI]
    rfl
  case i2f =>
    cases hb
    cases w <;> first
      | (cases hr; done)
      | skip
    rename_i x
    cases hr
    refine ⟨_, rfl, ?_⟩
    show (_ : Int) = e_i2f x.toInt
    unfold e_i2f
    rw [z_ofI]
    rfl
  case i2d =>
    cases hb
    cases w <;> first
      | (cases hr; done)
      | skip
    rename_i x
    cases hr
    refine ⟨_, rfl, ?_⟩
    show (_ : Int) = e_i2d x.toInt
    unfold e_i2d
    rw [z_ofI]
    rfl
  case f2d =>
    cases hb
    cases w <;> first
      | (cases hr; done)
      | (cases ws <;> first | (cases hr; done) | (rename_i u us; cases u <;> first | (cases hr; done) | skip); done)
      | skip
    rename_i x
    have hr : (if FP.f2d x &&& 0x7fffffffffffffff ≤ 0x7ff0000000000000 then some ((pc + 1, al, .double (FP.f2d x) :: ws, h, 0, 0) : AS) else none) = some q := hr
    split at hr
    · cases hr
      refine ⟨_, rfl, ?_⟩
      show (_ : Int) = e_f2d (e_v (.float x))
      unfold e_f2d
      rw [show e_v (.float x) = (x.toNat : Int) from rfl, Int.toNat_natCast, UInt32.ofNat_toNat]
      rfl
    · cases hr
  case dcmp o => cases o <;> (simp [z_bin] at hb)
  case fcmp o => cases o <;> (simp [z_bin] at hb)
theorem z_lcmp (x y : Int64) : (lg_cmp x y).toInt = e_lcmp x.toInt y.toInt := by
  unfold lg_cmp e_lcmp
  by_cases c : x > y
  · rw [if_pos c, if_pos (Int64.lt_iff_toInt_lt.mp c)]
    rfl
  · rw [if_neg c, if_neg (fun q => c (Int64.lt_iff_toInt_lt.mpr q))]
    by_cases d : x = y
    · rw [if_pos d, if_pos (by rw [d])]
      rfl
    · rw [if_neg d, if_neg (fun q => d (Int64.toInt_inj.mp q))]
      rfl
theorem z_rem {x y : Int32} : (x - x / y * y).toInt = e_wr (x.toInt - e_wr (e_div x.toInt y.toInt * y.toInt)) := by
  unfold e_wr e_div
  rw [Int32.toInt_sub, Int32.toInt_mul, Int32.toInt_div]
  rfl
theorem z_st2_2 {i : Instr} {c pc : Nat} {al : AL} {u w : Value} {ws : List Value} {h : AH} {q : AS} (hb : z_bin i = some (c, true)) (hr : a_st2 i pc al (u :: w :: ws) h = some q) : ∃ v, q = (pc + 1, al, v :: ws, h, 0, 0) ∧ e_v v = e_bin c (e_v w) (e_v u) := by
  cases i <;> first
    | (simp [z_bin] at hb; done)
    | skip
  case iadd =>
    cases hb
    cases u <;> first | (cases hr; done) | (cases w <;> first | (cases hr; done) | (cases hr; exact ⟨_, rfl, Int32.toInt_add _ _⟩))
  case isub =>
    cases hb
    cases u <;> first | (cases hr; done) | (cases w <;> first | (cases hr; done) | (cases hr; exact ⟨_, rfl, Int32.toInt_sub _ _⟩))
  case imul =>
    cases hb
    cases u <;> first | (cases hr; done) | (cases w <;> first | (cases hr; done) | (cases hr; exact ⟨_, rfl, Int32.toInt_mul _ _⟩))
  case idiv =>
    cases hb
    cases u <;> first | (cases hr; done) | (cases w <;> first | (cases hr; done) | skip)
    rename_i y x
    have hr : ((if y = 0 then none else some (x / y)) : Option Int32).map (fun v => ((pc + 1, al, .int v :: ws, h, 0, 0) : AS)) = some q := hr
    split at hr
    · cases hr
    · cases hr
      exact ⟨_, rfl, Int32.toInt_div _ _⟩
  case irem =>
    cases hb
    cases u <;> first | (cases hr; done) | (cases w <;> first | (cases hr; done) | skip)
    rename_i y x
    have hr : ((if y = 0 then none else some (x - x / y * y)) : Option Int32).map (fun v => ((pc + 1, al, .int v :: ws, h, 0, 0) : AS)) = some q := hr
    split at hr
    · cases hr
    · cases hr
      exact ⟨_, rfl, z_rem⟩
  case iand =>
    cases hb
    cases u <;> first | (cases hr; done) | (cases w <;> first | (cases hr; done) | skip)
    rename_i y x
    cases hr
    refine ⟨_, rfl, ?_⟩
    show _ = e_and x.toInt y.toInt
    unfold e_and
    rw [z_ofI, z_ofI]
    rfl
  case ior =>
    cases hb
    cases u <;> first | (cases hr; done) | (cases w <;> first | (cases hr; done) | skip)
    rename_i y x
    cases hr
    refine ⟨_, rfl, ?_⟩
    show _ = e_or x.toInt y.toInt
    unfold e_or
    rw [z_ofI, z_ofI]
    rfl
  case ladd =>
    cases hb
    cases u <;> first | (cases hr; done) | (cases w <;> first | (cases hr; done) | (cases hr; exact ⟨_, rfl, Int64.toInt_add _ _⟩))
  case lmul =>
    cases hb
    cases u <;> first | (cases hr; done) | (cases w <;> first | (cases hr; done) | (cases hr; exact ⟨_, rfl, Int64.toInt_mul _ _⟩))
  case lcmp =>
    cases hb
    cases u <;> first | (cases hr; done) | (cases w <;> first | (cases hr; done) | (cases hr; exact ⟨_, rfl, z_lcmp _ _⟩))
  case fdiv =>
    cases hb
    cases u <;> first | (cases hr; done) | (cases w <;> first | (cases hr; done) | skip)
    rename_i y x
    have hr : (if FP.fdiv x y &&& 0x7fffffff ≤ 0x7f800000 then some ((pc + 1, al, .float (FP.fdiv x y) :: ws, h, 0, 0) : AS) else none) = some q := hr
    split at hr
    · cases hr
      refine ⟨_, rfl, ?_⟩
      show (_ : Int) = e_fdiv (x.toNat : Int) (y.toNat : Int)
      unfold e_fdiv
      rw [Int.toNat_natCast, Int.toNat_natCast, UInt32.ofNat_toNat, UInt32.ofNat_toNat]
      rfl
    · cases hr
  case ddiv =>
    cases hb
    cases u <;> first | (cases hr; done) | (cases w <;> first | (cases hr; done) | skip)
    rename_i y x
    have hr : (if FP.ddiv x y &&& 0x7fffffffffffffff ≤ 0x7ff0000000000000 then some ((pc + 1, al, .double (FP.ddiv x y) :: ws, h, 0, 0) : AS) else none) = some q := hr
    split at hr
    · cases hr
      refine ⟨_, rfl, ?_⟩
      show (_ : Int) = e_ddiv (x.toNat : Int) (y.toNat : Int)
      unfold e_ddiv
      rw [Int.toNat_natCast, Int.toNat_natCast, UInt64.ofNat_toNat, UInt64.ofNat_toNat]
      rfl
    · cases hr
  case fcmp o =>
    cases o <;> cases hb <;> (cases u <;> first | (cases hr; done) | (cases w <;> first | (cases hr; done) | skip))
    all_goals
      rename_i y x
      cases hr
      refine ⟨_, rfl, ?_⟩
      show (_ : Int) = e_fcmp _ (x.toNat : Int) (y.toNat : Int)
      unfold e_fcmp
      rw [Int.toNat_natCast, Int.toNat_natCast, UInt32.ofNat_toNat, UInt32.ofNat_toNat]
      rfl
  case dcmp o =>
    cases o <;> cases hb <;> (cases u <;> first | (cases hr; done) | (cases w <;> first | (cases hr; done) | skip))
    all_goals
      rename_i y x
      cases hr
      refine ⟨_, rfl, ?_⟩
      show (_ : Int) = e_dcmp _ (x.toNat : Int) (y.toNat : Int)
      unfold e_dcmp
      rw [Int.toNat_natCast, Int.toNat_natCast, UInt64.ofNat_toNat, UInt64.ofNat_toNat]
      rfl
/-! What an operation does to symbols and state; when it is what an instruction does -/
def z_nx (op : ZO) (ν : List Int) (S : ZS) : List Int × ZS := match op with
  | (4, [o, x, y]) => (ν ++ [e_bin o.1 (o_v ν x) (o_v ν y)], S)
  | (5, [r, i, j, k]) => (ν ++ [S r.1 (o_v ν i) (o_v ν j) (o_v ν k)], S)
  | (6, [r, md, i, j, k, v]) => (ν, e_upd S r.1 (o_v ν i) (o_v ν j) (o_v ν k) (e_nar md.1 (o_v ν v)))
  | (8, []) => (ν ++ [S z_rA 0 0 0], e_upd S z_rA 0 0 0 (S z_rA 0 0 0 + 1))
  | (9, [r, x, y, sp, r', x', y', dp, m]) => (ν, e_acp S r.1 (o_v ν x) (o_v ν y) (o_v ν sp) r'.1 (o_v ν x') (o_v ν y') (o_v ν dp) (o_v ν m))
  | _ => (ν, S)
def z_nm (op : ZO) (nv : Nat) : Nat := if op.1 = 4 ∨ op.1 = 5 ∨ op.1 = 8 then nv + 1 else nv
def z_ald (i : Instr) : Bool := match i with
  | .iaload | .baload | .caload | .laload | .daload => true
  | _ => false
def z_ast (i : Instr) : Option Nat := match i with
  | .iastore | .lastore | .dastore => some 0
  | .bastore => some 1
  | .castore => some 2
  | _ => none
def z_top (nv : Nat) : ZV := (0, (nv + 1, 0), (0, 0))
def z_opA (own : Nat) (i : Instr) (pc : Nat) (bl : ZL) (bs : List ZV) (nv : Nat) (o x y : ZN) : Option (Nat × ZL × List ZV) := match i, bs with
  | .iinc k n, bs => (match bl[k]? with
    | some (some b) => if b.1 = 0 ∧ o.1 = 0 ∧ x = b.2.1 ∧ y = (0, n) then (z_sto 0 bl k (z_top nv)).map fun bl' => (pc + 3, bl', bs) else none
    | _ => none)
  | .invokestatic idx, v :: u :: bs => (match (a_of a_mat own).find? (fun e => e.1 == idx) with
    | some e => if (u.1 < 2 ∧ v.1 < 2) ∧ ((a_of a_inv own).find? (fun e => e.1 == idx && e.2.1 == 1)).isNone = true ∧ ¬ (own = 12 ∧ idx = 166) ∧ o.1 = (if e.2.1 = true then 8 else 7) ∧ x = u.2.1 ∧ y = v.2.1 then some (pc + 3, bl, z_top nv :: bs) else none
    | none => none)
  | i, bs => match z_bin i, bs with
    | some (c, true), v :: u :: bs => if (u.1 < 2 ∧ v.1 < 2) ∧ o.1 = c ∧ x = u.2.1 ∧ y = v.2.1 then some (pc + 1, bl, z_top nv :: bs) else none
    | some (c, false), u :: bs => if u.1 < 2 ∧ o.1 = c ∧ x = u.2.1 ∧ y = (0, 0) then some (pc + 1, bl, z_top nv :: bs) else none
    | _, _ => none
def z_opR (own : Nat) (i : Instr) (pc : Nat) (bl : ZL) (bs : List ZV) (nv : Nat) (r x y k : ZN) : Option (Nat × ZL × List ZV) := match i, bs with
  | .getfield idx, b :: bs => (match a_field own idx with
    | some (_, s) => if 2 ≤ b.1 ∧ z_slot (b.1 - 2) s 0 = some s ∧ r.1 = (b.1 - 2) * 64 + s ∧ x = b.2.1 ∧ y = b.2.2 ∧ k = (0, 0) then some (pc + 3, bl, z_top nv :: bs) else none
    | none => none)
  | .arraylength, b :: bs => if 2 ≤ b.1 ∧ z_isA (b.1 - 2) = true ∧ b.1 ≠ 114 ∧ r.1 = (b.1 - 2) * 64 + 63 ∧ x = b.2.1 ∧ y = b.2.2 ∧ k = (0, 0) then some (pc + 1, bl, z_top nv :: bs) else none
  | i, e :: b :: bs => if z_ald i = true ∧ 2 ≤ b.1 ∧ e.1 < 2 ∧ z_isA (b.1 - 2) = true ∧ r.1 = (b.1 - 2) * 64 ∧ x = b.2.1 ∧ y = b.2.2 ∧ k = e.2.1 then some (pc + 1, bl, z_top nv :: bs) else none
  | _, _ => none
def z_opW (own : Nat) (i : Instr) (pc : Nat) (bl : ZL) (bs : List ZV) (r md x y k w : ZN) : Option (Nat × ZL × List ZV) := match i, bs with
  | .putfield idx, v :: b :: bs => (match a_field own idx with
    | some (_, s) => if (v.1 < 2 ∧ 2 ≤ b.1) ∧ z_slot (b.1 - 2) s 0 = some s ∧ z_isA (b.1 - 2) = false ∧ z_po (b.1 - 2) s = none ∧ r.1 = (b.1 - 2) * 64 + s ∧ md.1 = 0 ∧ x = b.2.1 ∧ y = b.2.2 ∧ k = (0, 0) ∧ w = v.2.1 then some (pc + 3, bl, bs) else none
    | none => none)
  | i, v :: e :: b :: bs => (match z_ast i with
    | some m => if (v.1 < 2 ∧ e.1 < 2 ∧ 2 ≤ b.1) ∧ z_isA (b.1 - 2) = true ∧ z_pa (b.1 - 2) = none ∧ r.1 = (b.1 - 2) * 64 ∧ md.1 = m ∧ x = b.2.1 ∧ y = b.2.2 ∧ k = e.2.1 ∧ w = v.2.1 then some (pc + 1, bl, bs) else none
    | none => none)
  | _, _ => none
def z_opC (own : Nat) (i : Instr) (pc : Nat) (bl : ZL) (bs : List ZV) (r x y sp r' x' y' dp m : ZN) : Option (Nat × ZL × List ZV) := match i, bs with
  | .invokestatic idx, n :: d :: b :: s :: a :: bs => if (own = 12 ∧ idx = 166) ∧ ((a_of a_inv own).find? (fun e => e.1 == idx && e.2.1 == 1)).isNone = true ∧ ((a_of a_mat own).find? (fun e => e.1 == idx)).isNone = true ∧ (2 ≤ a.1 ∧ 2 ≤ b.1 ∧ n.1 < 2 ∧ d.1 < 2 ∧ s.1 < 2) ∧ (z_isA (a.1 - 2) = true ∧ z_isA (b.1 - 2) = true ∧ z_pa (b.1 - 2) = none) ∧ (r.1 = (a.1 - 2) * 64 ∧ x = a.2.1 ∧ y = a.2.2 ∧ sp = s.2.1) ∧ (r'.1 = (b.1 - 2) * 64 ∧ x' = b.2.1 ∧ y' = b.2.2 ∧ dp = d.2.1) ∧ m = n.2.1 then some (pc + 3, bl, bs) else none
  | _, _ => none
def z_op1 (own : Nat) (i : Instr) (pc : Nat) (bl : ZL) (bs : List ZV) (nv : Nat) (op : ZO) : Option (Nat × ZL × List ZV) := match op with
  | (4, [o, x, y]) => z_opA own i pc bl bs nv o x y
  | (5, [r, x, y, k]) => z_opR own i pc bl bs nv r x y k
  | (6, [r, md, x, y, k, w]) => z_opW own i pc bl bs r md x y k w
  | (8, []) => (match i, bs with
    | .newarray _, _ :: bs => some (pc + 2, bl, (114, (nv + 1, 0), (0, 0)) :: bs)
    | _, _ => none)
  | (9, [r, x, y, sp, r', x', y', dp, m]) => z_opC own i pc bl bs r x y sp r' x' y' dp m
  | _ => none
end
/-! part 71s07 -/
section
/-! Operations are right -/
section OP
variable {call : Nat → List Value → AH → Option AR} {mi f pc len mc ms : Nat} {i : Instr} {al : AL} {st : List Value} {h : AH} {r : AR} {ν : List Int} {bl : ZL} {bs : List ZV} {pc' : Nat} {bl' : ZL} {bs' : List ZV}
theorem z_isA_slot {f : Nat} (h : z_isA f = true) {k : Int} (hk : 0 ≤ k) : z_slot f 0 k = some k.toNat := by
  unfold z_isA at h
  unfold z_slot
  split at h
  · rename_i row hrow
    rw [hrow]
    dsimp only
    rw [if_neg (by simpa using h), if_pos ⟨rfl, hk⟩]
  · cases h
theorem z_isA_po {f : Nat} (h : z_isA f = true) (s : Nat) : z_po f s = none := by
  unfold z_isA at h
  unfold z_po
  split at h
  · rename_i row hrow
    rw [hrow]
    dsimp only
    rw [if_neg (by simpa using h)]
  · cases h
theorem z_isA_pa {f : Nat} (h : z_isA f = false) : z_pa f = none := by
  unfold z_isA at h
  unfold z_pa
  split at h
  · rename_i row hrow
    rw [hrow]
    dsimp only
    rw [if_pos (by simpa using h)]
  · rename_i hrow
    rw [hrow]
theorem z_al_at {f s a n : Nat} {i j k : Int} (hd : z_ad f i j = some a) (hs : z_slot f s k = some n) : z_al h (f * 64 + s) i j k = e_at h a n := by
  have hlt := z_slot_lt hs
  obtain ⟨g1, g2⟩ := z_reg (f := f) (s := s) (by omega)
  unfold z_al
  rw [if_neg (by unfold z_rA; omega), g1, g2, hd]
  dsimp only
  rw [hs]
theorem e_at_of {a t n : Nat} {vs : List Value} {v : Value} (ha : h[a]? = some (t, vs)) (hv : vs[n]? = some v) : e_at h a n = e_v v := by
  unfold e_at
  rw [ha]
  dsimp only
  rw [hv]
theorem z_al_len {f a : Nat} {i j : Int} (hd : z_ad f i j = some a) (hA : z_isA f = true) (hn : f ≠ 112) : z_al h (f * 64 + 63) i j 0 = e_len h a := by
  have hlt : f < 113 := by
    have := (z_slot_lt (z_isA_slot hA (Int.le_refl 0))).2
    exact this
  obtain ⟨g1, g2⟩ := z_reg (f := f) (s := 63) (by omega)
  have hs : z_slot f 63 0 = none := by
    unfold z_isA at hA
    unfold z_slot
    split at hA
    · rename_i row hrow
      rw [hrow]
      dsimp only
      rw [if_neg (by simpa using hA), if_neg (fun q => absurd q.1 (by decide))]
    · cases hA
  unfold z_al
  rw [if_neg (by unfold z_rA; omega), g1, g2, hd]
  dsimp only
  rw [hs]
  dsimp only
  rw [if_pos ⟨rfl, rfl, hn⟩]
theorem z_stk.top {w : Value} {z : Int} {st : List Value} (hs : z_stk ν bs st) (h : e_v w = z) : z_stk (ν ++ [z]) (z_top ν.length :: bs) (w :: st) := ⟨z_val.new h, hs.app z⟩
theorem z_opA_iinc {o x y : ZN} {k : Nat} {n : Int} (hi : a_ins mi pc = some (.iinc k n, len)) (hm : (match bl[k]? with
    | some (some b) => if b.1 = 0 ∧ o.1 = 0 ∧ x = b.2.1 ∧ y = (0, n) then (z_sto 0 bl k (z_top ν.length)).map fun bl' => (pc + 3, bl', bs) else none
    | _ => none) = some (pc', bl', bs')) (hl : z_loc ν bl al) (hs : z_stk ν bs st) (P : z_PI h) (hr : a_go call mi f pc al st h mc ms = some r) : z_next false h call mi f r (ν ++ [e_bin o.1 (o_v ν x) (o_v ν y)]) (z_al h) pc' bl' bs' := by
  obtain ⟨f', e, q, k1, k2⟩ := z_go1 hi rfl hr
  split at hm
  · rename_i b hb
    rw [Option.ite_none_right_eq_some] at hm
    obtain ⟨⟨c1, c2, rfl, rfl⟩, hm⟩ := hm
    rw [Option.map_eq_some_iff] at hm
    obtain ⟨bl2, h1, h2⟩ := hm
    cases h2
    obtain ⟨w, w1, w2, w3⟩ := hl.2 _ _ hb
    unfold a_st1 at k1
    simp only [a_const, a_load, a_store] at k1
    rw [w1] at k1
    cases w <;> first
      | (cases k1; done)
      | skip
    rename_i X
    dsimp only at k1
    rw [Option.map_eq_some_iff] at k1
    obtain ⟨al2, h3, rfl⟩ := k1
    have w4 := z_num w2 (by omega)
    have hv : e_v (.int (X + Int32.ofInt n)) = e_bin o.1 (o_v ν b.2.1) (o_v ν (0, n)) := by
      rw [c2, ← w4]
      show (X + Int32.ofInt n).toInt = e_wr (X.toInt + n)
      unfold e_wr
      rw [Int32.toInt_add, Int32.toInt_ofInt]
      exact Int.add_bmod_bmod
    exact ⟨f', _, _, _, _, _, e, k2, z_sto_ok (hl.app _) h1 (z_val.new hv) rfl h3, hs.app _, P, rfl, Or.inr rfl⟩
  · cases hm
theorem z_opA_math {o x y : ZN} {idx : Nat} {u v : ZV} (hi : a_ins mi pc = some (.invokestatic idx, len)) (hm : (match (a_of a_mat (a_own mi)).find? (fun e => e.1 == idx) with
    | some e => if (u.1 < 2 ∧ v.1 < 2) ∧ ((a_of a_inv (a_own mi)).find? (fun e => e.1 == idx && e.2.1 == 1)).isNone = true ∧ ¬ (a_own mi = 12 ∧ idx = 166) ∧ o.1 = (if e.2.1 = true then 8 else 7) ∧ x = u.2.1 ∧ y = v.2.1 then some (pc + 3, bl, z_top ν.length :: bs) else none
    | none => none) = some (pc', bl', bs')) (hl : z_loc ν bl al) (hs : z_stk ν (v :: u :: bs) st) (P : z_PI h) (hr : a_go call mi f pc al st h mc ms = some r) : z_next false h call mi f r (ν ++ [e_bin o.1 (o_v ν x) (o_v ν y)]) (z_al h) pc' bl' bs' := by
  obtain ⟨wv, ws, rfl, s1, s2⟩ := hs.c
  obtain ⟨wu, us, rfl, s3, s4⟩ := s2.c
  split at hm
  · rename_i e0 he
    rw [Option.ite_none_right_eq_some] at hm
    obtain ⟨⟨⟨c1, c2⟩, c3, c4, c5, rfl, rfl⟩, hm⟩ := hm
    cases hm
    have hca : a_call (a_own mi) (.invokestatic idx) (wv :: wu :: us) h = none := by
      unfold a_call
      dsimp only
      rw [Option.isNone_iff_eq_none.mp c3]
    obtain ⟨f', e, k⟩ := z_goS hi (by show (6 : Nat) ≠ 0; decide) (by show (6 : Nat) ≠ 10; decide) (by show (6 : Nat) ≠ 8; decide) (fun _ => hca) hr
    rcases k with ⟨q, k1, k2⟩ | ⟨-, st', h', k1, -⟩
    · rcases z_stp (by show (6 : Nat) ≠ 0; decide) k1 with ⟨a, -⟩ | ⟨-, ⟨a, -⟩ | ⟨a, -⟩ | ⟨a, -⟩ | ⟨a, -⟩ | ⟨-, b⟩⟩
      · exact absurd a (by show ¬ (6 : Nat) = 9; decide)
      · exact absurd a (by show ¬ (6 : Nat) = 1; decide)
      · exact absurd a (by show ¬ (6 : Nat) = 4; decide)
      · exact absurd a (by show ¬ (6 : Nat) = 2; decide)
      · exact absurd a (by show ¬ (6 : Nat) = 3; decide)
      · cases wv <;> first
          | (cases b; done)
          | skip
        cases wu <;> first
          | (cases b; done)
          | skip
        rename_i Y X
        unfold a_st5 at b
        dsimp only at b
        rw [he] at b
        dsimp only at b
        rw [Option.ite_none_right_eq_some] at b
        obtain ⟨-, b⟩ := b
        cases b
        refine ⟨f', _, _, _, _, _, e, k2, hl.app _, s4.top ?_, P, rfl, Or.inr rfl⟩
        rw [← z_num s3 c1, ← z_num s1 c2, c5]
        by_cases em : e0.2.1 = true
        · rw [if_pos em, if_pos em]
          show (if X < Y then Y else X).toInt = if X.toInt < Y.toInt then Y.toInt else X.toInt
          by_cases l : X < Y
          · rw [if_pos l, if_pos (Int32.lt_iff_toInt_lt.mp l)]
          · rw [if_neg l, if_neg (fun q => l (Int32.lt_iff_toInt_lt.mpr q))]
        · rw [if_neg em, if_neg em]
          show (if Y < X then Y else X).toInt = if Y.toInt < X.toInt then Y.toInt else X.toInt
          by_cases l : Y < X
          · rw [if_pos l, if_pos (Int32.lt_iff_toInt_lt.mp l)]
          · rw [if_neg l, if_neg (fun q => l (Int32.lt_iff_toInt_lt.mpr q))]
    · exfalso
      unfold a_acp at k1
      split at k1
      · rename_i q _
        cases q
        split at k1
        · rename_i c6
          exact c4 ⟨c6.1, c6.2.1⟩
        · cases k1
      · rename_i q _
        cases q
      · cases k1
  · cases hm
theorem z_opA_2 {o x y : ZN} {c : Nat} {u v : ZV} (hi : a_ins mi pc = some (i, len)) (hb : z_bin i = some (c, true)) (hm : (if (u.1 < 2 ∧ v.1 < 2) ∧ o.1 = c ∧ x = u.2.1 ∧ y = v.2.1 then some (pc + 1, bl, z_top ν.length :: bs) else none) = some (pc', bl', bs')) (hl : z_loc ν bl al) (hs : z_stk ν (v :: u :: bs) st) (P : z_PI h) (hr : a_go call mi f pc al st h mc ms = some r) : z_next false h call mi f r (ν ++ [e_bin o.1 (o_v ν x) (o_v ν y)]) (z_al h) pc' bl' bs' := by
  obtain ⟨wv, ws, rfl, s1, s2⟩ := hs.c
  obtain ⟨wu, us, rfl, s3, s4⟩ := s2.c
  rw [Option.ite_none_right_eq_some] at hm
  obtain ⟨⟨⟨c1, c2⟩, c3, rfl, rfl⟩, hm⟩ := hm
  cases hm
  obtain ⟨f', e, q, k1, k2⟩ := z_go2 hi (z_bin2 ⟨_, hb⟩) hr
  obtain ⟨w, rfl, hv⟩ := z_st2_2 hb k1
  refine ⟨f', _, _, _, _, _, e, k2, hl.app _, s4.top ?_, P, rfl, Or.inr rfl⟩
  rw [hv, z_num s3 c1, z_num s1 c2, c3]
theorem z_opA_1 {o x y : ZN} {c : Nat} {u : ZV} (hi : a_ins mi pc = some (i, len)) (hb : z_bin i = some (c, false)) (hm : (if u.1 < 2 ∧ o.1 = c ∧ x = u.2.1 ∧ y = (0, 0) then some (pc + 1, bl, z_top ν.length :: bs) else none) = some (pc', bl', bs')) (hl : z_loc ν bl al) (hs : z_stk ν (u :: bs) st) (P : z_PI h) (hr : a_go call mi f pc al st h mc ms = some r) : z_next false h call mi f r (ν ++ [e_bin o.1 (o_v ν x) (o_v ν y)]) (z_al h) pc' bl' bs' := by
  obtain ⟨wu, us, rfl, s3, s4⟩ := hs.c
  rw [Option.ite_none_right_eq_some] at hm
  obtain ⟨⟨c1, c3, rfl, rfl⟩, hm⟩ := hm
  cases hm
  obtain ⟨f', e, q, k1, k2⟩ := z_go2 hi (z_bin2 ⟨_, hb⟩) hr
  obtain ⟨w, rfl, hv⟩ := z_st2_1 hb k1
  refine ⟨f', _, _, _, _, _, e, k2, hl.app _, s4.top ?_, P, rfl, Or.inr rfl⟩
  rw [hv, z_num s3 c1, c3]
  rfl
theorem z_opA_ok {o x y : ZN} (hi : a_ins mi pc = some (i, len)) (hm : z_opA (a_own mi) i pc bl bs ν.length o x y = some (pc', bl', bs')) (hl : z_loc ν bl al) (hs : z_stk ν bs st) (P : z_PI h) (hr : a_go call mi f pc al st h mc ms = some r) : z_next false h call mi f r (ν ++ [e_bin o.1 (o_v ν x) (o_v ν y)]) (z_al h) pc' bl' bs' := by
  unfold z_opA at hm
  split at hm
  · exact z_opA_iinc hi hm hl hs P hr
  · exact z_opA_math hi hm hl hs P hr
  · split at hm
    · exact z_opA_2 hi (by assumption) hm hl hs P hr
    · exact z_opA_1 hi (by assumption) hm hl hs P hr
    · cases hm
/-! Reads -/
theorem z_obj {b : ZV} {w : Value} (h1 : 2 ≤ b.1) (s : z_val ν b w) : ∃ a, w = .ref a ∧ z_ad (b.1 - 2) (o_v ν b.2.1) (o_v ν b.2.2) = some a := by
  obtain ⟨m, hb⟩ := Nat.exists_eq_add_of_le' h1
  rw [hb, Nat.add_sub_cancel]
  exact z_ref s hb
theorem z_opR_f {r' x y k : ZN} {idx : Nat} {b : ZV} (hi : a_ins mi pc = some (.getfield idx, len)) (hm : (match a_field (a_own mi) idx with
    | some (_, s) => if 2 ≤ b.1 ∧ z_slot (b.1 - 2) s 0 = some s ∧ r'.1 = (b.1 - 2) * 64 + s ∧ x = b.2.1 ∧ y = b.2.2 ∧ k = (0, 0) then some (pc + 3, bl, z_top ν.length :: bs) else none
    | none => none) = some (pc', bl', bs')) (hl : z_loc ν bl al) (hs : z_stk ν (b :: bs) st) (P : z_PI h) (hr : a_go call mi f pc al st h mc ms = some r) : z_next false h call mi f r (ν ++ [z_al h r'.1 (o_v ν x) (o_v ν y) (o_v ν k)]) (z_al h) pc' bl' bs' := by
  obtain ⟨f', e, q, k1, k2⟩ := z_go4 hi rfl hr
  obtain ⟨w, ws, rfl, s1, s2⟩ := hs.c
  split at hm
  · rename_i ci s hf
    rw [Option.ite_none_right_eq_some] at hm
    obtain ⟨⟨c1, c2, c3, rfl, rfl, rfl⟩, hm⟩ := hm
    cases hm
    obtain ⟨a, rfl, ha⟩ := z_obj c1 s1
    unfold a_st4 at k1
    dsimp only at k1
    rw [hf] at k1
    dsimp only at k1
    split at k1
    · rename_i t vs hh
      rw [Option.ite_none_right_eq_some] at k1
      obtain ⟨-, k1⟩ := k1
      rw [Option.map_eq_some_iff] at k1
      obtain ⟨v, hv, rfl⟩ := k1
      refine ⟨f', _, _, _, _, _, e, k2, hl.app _, s2.top ?_, P, rfl, Or.inr rfl⟩
      rw [c3, show o_v ν (0, 0) = 0 from rfl, z_al_at ha c2, e_at_of hh hv]
    · cases k1
  · cases hm
theorem z_opR_l {r' x y k : ZN} {b : ZV} (hi : a_ins mi pc = some (.arraylength, len)) (hm : (if 2 ≤ b.1 ∧ z_isA (b.1 - 2) = true ∧ b.1 ≠ 114 ∧ r'.1 = (b.1 - 2) * 64 + 63 ∧ x = b.2.1 ∧ y = b.2.2 ∧ k = (0, 0) then some (pc + 1, bl, z_top ν.length :: bs) else none) = some (pc', bl', bs')) (hl : z_loc ν bl al) (hs : z_stk ν (b :: bs) st) (P : z_PI h) (hr : a_go call mi f pc al st h mc ms = some r) : z_next false h call mi f r (ν ++ [z_al h r'.1 (o_v ν x) (o_v ν y) (o_v ν k)]) (z_al h) pc' bl' bs' := by
  obtain ⟨f', e, q, k1, k2⟩ := z_go4 hi rfl hr
  obtain ⟨w, ws, rfl, s1, s2⟩ := hs.c
  rw [Option.ite_none_right_eq_some] at hm
  obtain ⟨⟨c1, c2, c4, c3, rfl, rfl, rfl⟩, hm⟩ := hm
  cases hm
  obtain ⟨a, rfl, ha⟩ := z_obj c1 s1
  unfold a_st4 at k1
  dsimp only at k1
  split at k1
  · rename_i t vs hh
    rw [Option.ite_none_right_eq_some] at k1
    obtain ⟨-, k1⟩ := k1
    cases k1
    refine ⟨f', _, _, _, _, _, e, k2, hl.app _, s2.top ?_, P, rfl, Or.inr rfl⟩
    rw [c3, show o_v ν (0, 0) = 0 from rfl, z_al_len ha c2 (by omega)]
    unfold e_len
    rw [hh]
    rfl
  · cases k1
theorem z_ald3 (h : z_ald i = true) : z_cl i = 3 := by
  cases i <;> first | rfl | (cases h; done)
theorem z_opR_a {r' x y k : ZN} {b eb : ZV} (hi : a_ins mi pc = some (i, len)) (hm : (if z_ald i = true ∧ 2 ≤ b.1 ∧ eb.1 < 2 ∧ z_isA (b.1 - 2) = true ∧ r'.1 = (b.1 - 2) * 64 ∧ x = b.2.1 ∧ y = b.2.2 ∧ k = eb.2.1 then some (pc + 1, bl, z_top ν.length :: bs) else none) = some (pc', bl', bs')) (hl : z_loc ν bl al) (hs : z_stk ν (eb :: b :: bs) st) (P : z_PI h) (hr : a_go call mi f pc al st h mc ms = some r) : z_next false h call mi f r (ν ++ [z_al h r'.1 (o_v ν x) (o_v ν y) (o_v ν k)]) (z_al h) pc' bl' bs' := by
  obtain ⟨u, us, rfl, s1, s2⟩ := hs.c
  obtain ⟨w, ws, rfl, s3, s4⟩ := s2.c
  rw [Option.ite_none_right_eq_some] at hm
  obtain ⟨⟨c0, c1, c2, c4, c3, rfl, rfl, rfl⟩, hm⟩ := hm
  cases hm
  obtain ⟨f', e, q, k1, k2⟩ := z_go3 hi (z_ald3 c0) hr
  obtain ⟨a, rfl, ha⟩ := z_obj c1 s3
  have hu := z_num s1 c2
  cases u <;> first
    | (cases k1; done)
    | skip
  rename_i j
  unfold a_st3 at k1
  dsimp only at k1
  split at k1
  · rename_i t vs hh
    rw [Option.ite_none_right_eq_some] at k1
    obtain ⟨-, k1⟩ := k1
    rw [Option.bind_eq_some_iff] at k1
    obtain ⟨n, hn, k1⟩ := k1
    rw [Option.map_eq_some_iff] at k1
    obtain ⟨v, hv, rfl⟩ := k1
    obtain ⟨n1, n2⟩ := z_ix hn
    have hu : j.toInt = o_v ν eb.2.1 := hu
    refine ⟨f', _, _, _, _, _, e, k2, hl.app _, s4.top ?_, P, rfl, Or.inr rfl⟩
    rw [← hu, ← n1, c3]
    have k0 := z_isA_slot c4 (k := (n : Int)) (by omega)
    rw [Int.toNat_natCast] at k0
    have := z_al_at (h := h) ha k0
    rw [Nat.add_zero] at this
    rw [this, e_at_of hh hv]
  · cases k1
theorem z_opR_ok {r' x y k : ZN} (hi : a_ins mi pc = some (i, len)) (hm : z_opR (a_own mi) i pc bl bs ν.length r' x y k = some (pc', bl', bs')) (hl : z_loc ν bl al) (hs : z_stk ν bs st) (P : z_PI h) (hr : a_go call mi f pc al st h mc ms = some r) : z_next false h call mi f r (ν ++ [z_al h r'.1 (o_v ν x) (o_v ν y) (o_v ν k)]) (z_al h) pc' bl' bs' := by
  unfold z_opR at hm
  split at hm
  · exact z_opR_f hi hm hl hs P hr
  · exact z_opR_l hi hm hl hs P hr
  · exact z_opR_a hi hm hl hs P hr
  · cases hm
/-! Writes -/
theorem z_slot_nat {f s n : Nat} {k : Int} (h : z_slot f s k = some n) : s < 63 := (z_slot_lt h).1
theorem z_opW_f {r' md x y k w' : ZN} {idx : Nat} {v b : ZV} (hi : a_ins mi pc = some (.putfield idx, len)) (hm : (match a_field (a_own mi) idx with
    | some (_, s) => if (v.1 < 2 ∧ 2 ≤ b.1) ∧ z_slot (b.1 - 2) s 0 = some s ∧ z_isA (b.1 - 2) = false ∧ z_po (b.1 - 2) s = none ∧ r'.1 = (b.1 - 2) * 64 + s ∧ md.1 = 0 ∧ x = b.2.1 ∧ y = b.2.2 ∧ k = (0, 0) ∧ w' = v.2.1 then some (pc + 3, bl, bs) else none
    | none => none) = some (pc', bl', bs')) (hl : z_loc ν bl al) (hs : z_stk ν (v :: b :: bs) st) (P : z_PI h) (hr : a_go call mi f pc al st h mc ms = some r) : z_next true h call mi f r ν (e_upd (z_al h) r'.1 (o_v ν x) (o_v ν y) (o_v ν k) (e_nar md.1 (o_v ν w'))) pc' bl' bs' := by
  obtain ⟨f', e, q, k1, k2⟩ := z_go4 hi rfl hr
  obtain ⟨wv, ws, rfl, s1, s2⟩ := hs.c
  obtain ⟨wb, us, rfl, s3, s4⟩ := s2.c
  split at hm
  · rename_i ci s hf
    rw [Option.ite_none_right_eq_some] at hm
    obtain ⟨⟨⟨c1, c2⟩, c3, c4, c5, c6, c7, rfl, rfl, rfl, rfl⟩, hm⟩ := hm
    cases hm
    obtain ⟨a, rfl, ha⟩ := z_obj c2 s3
    unfold a_st4 at k1
    dsimp only at k1
    rw [hf] at k1
    dsimp only at k1
    split at k1
    · rename_i t vs hh
      rw [Option.ite_none_right_eq_some] at k1
      obtain ⟨⟨-, hk, -⟩, k1⟩ := k1
      cases k1
      refine ⟨f', _, _, _, _, _, e, k2, hl, s4, z_PI_put P ha hh c5 (z_isA_pa c4), ?_, Or.inl rfl⟩
      rw [z_al_put ha c3 hh hk, c6, c7, z_num s1 c1]
      rfl
    · cases k1
  · cases hm
theorem z_ast4 {m : Nat} (h : z_ast i = some m) : z_cl i = 4 := by
  cases i <;> first | rfl | (cases h; done)
theorem z_ast_v {t m : Nat} {x v : Value} (h : z_ast i = some m) (ha : a_ast i t x = some v) : e_v v = e_nar m (e_v x) := by
  cases i <;> first
    | (simp [z_ast] at h; done)
    | skip
  all_goals
    cases h
    cases x <;> first
      | (cases ha; done)
      | skip
    all_goals
      rename_i X
      simp only [a_ast, Option.ite_none_right_eq_some] at ha
      obtain ⟨-, ha⟩ := ha
      cases ha
      first
        | rfl
        | (unfold e_nar; rw [show e_v (.int X) = X.toInt from rfl, z_ofI]; rfl)
theorem z_opW_a {r' md x y k w' : ZN} {m : Nat} {v eb b : ZV} (hi : a_ins mi pc = some (i, len)) (hz : z_ast i = some m) (hm : (if (v.1 < 2 ∧ eb.1 < 2 ∧ 2 ≤ b.1) ∧ z_isA (b.1 - 2) = true ∧ z_pa (b.1 - 2) = none ∧ r'.1 = (b.1 - 2) * 64 ∧ md.1 = m ∧ x = b.2.1 ∧ y = b.2.2 ∧ k = eb.2.1 ∧ w' = v.2.1 then some (pc + 1, bl, bs) else none) = some (pc', bl', bs')) (hl : z_loc ν bl al) (hs : z_stk ν (v :: eb :: b :: bs) st) (P : z_PI h) (hr : a_go call mi f pc al st h mc ms = some r) : z_next true h call mi f r ν (e_upd (z_al h) r'.1 (o_v ν x) (o_v ν y) (o_v ν k) (e_nar md.1 (o_v ν w'))) pc' bl' bs' := by
  obtain ⟨f', e, q, k1, k2⟩ := z_go4 hi (z_ast4 hz) hr
  obtain ⟨wv, ws, rfl, s1, s2⟩ := hs.c
  obtain ⟨we, us, rfl, s3, s4⟩ := s2.c
  obtain ⟨wb, bs0, rfl, s5, s6⟩ := s4.c
  rw [Option.ite_none_right_eq_some] at hm
  obtain ⟨⟨⟨c1, c2, c3⟩, c4, c5, c6, c7, rfl, rfl, rfl, rfl⟩, hm⟩ := hm
  cases hm
  obtain ⟨a, rfl, ha⟩ := z_obj c3 s5
  have hu := z_num s3 c2
  have k3 : ∃ j : Int32, we = .int j ∧ (match h[a]? with
    | some (t, vs) => match a_ast i t wv with
      | some v => (a_ix j vs.length).map (fun n => ((pc + 1, al, bs0, h.set a (t, vs.set n v), 0, 0) : AS))
      | none => none
    | none => none) = some q := by
    cases i <;> first
      | (simp [z_ast] at hz; done)
      | (cases we <;> first
        | (cases k1; done)
        | exact ⟨_, rfl, k1⟩)
  obtain ⟨j, rfl, k3⟩ := k3
  have hu : j.toInt = o_v ν eb.2.1 := hu
  split at k3
  · rename_i t vs hh
    split at k3
    · rename_i v' hv'
      rw [Option.map_eq_some_iff] at k3
      obtain ⟨n, hn, rfl⟩ := k3
      obtain ⟨n1, n2⟩ := z_ix hn
      refine ⟨f', _, _, _, _, _, e, k2, hl, s6, z_PI_put P ha hh (z_isA_po c4 n) c5, ?_, Or.inl rfl⟩
      have k0 := z_isA_slot c4 (k := (n : Int)) (by omega)
      rw [Int.toNat_natCast] at k0
      have := z_al_put (v := v') ha k0 hh n2
      rw [Nat.add_zero] at this
      rw [this, c6, c7, ← z_num s1 c1, ← hu, n1, z_ast_v hz hv']
    · cases k3
  · cases k3
theorem z_opW_ok {r' md x y k w' : ZN} (hi : a_ins mi pc = some (i, len)) (hm : z_opW (a_own mi) i pc bl bs r' md x y k w' = some (pc', bl', bs')) (hl : z_loc ν bl al) (hs : z_stk ν bs st) (P : z_PI h) (hr : a_go call mi f pc al st h mc ms = some r) : z_next true h call mi f r ν (e_upd (z_al h) r'.1 (o_v ν x) (o_v ν y) (o_v ν k) (e_nar md.1 (o_v ν w'))) pc' bl' bs' := by
  unfold z_opW at hm
  split at hm
  · exact z_opW_f hi hm hl hs P hr
  · split at hm
    · exact z_opW_a hi (by assumption) hm hl hs P hr
    · cases hm
  · cases hm
/-! Arrays made, stretches copied -/
theorem z_row0 {ty : FieldType} {n : Nat} : ∀ v ∈ (a_row ty n).2, e_v v = 0 := by
  intro v hv
  have : v = defaultValue ty := by
    unfold a_row at hv
    exact List.eq_of_mem_replicate hv
  rw [this]
  cases ty <;> first | rfl | decide
theorem z_opN_ok {t : ArrayType} {b : ZV} (hi : a_ins mi pc = some (.newarray t, len)) (hl : z_loc ν bl al) (hs : z_stk ν (b :: bs) st) (P : z_PI h) (hr : a_go call mi f pc al st h mc ms = some r) : z_next true h call mi f r (ν ++ [z_al h z_rA 0 0 0]) (e_upd (z_al h) z_rA 0 0 0 (z_al h z_rA 0 0 0 + 1)) (pc + 2) bl ((114, (ν.length + 1, 0), (0, 0)) :: bs) := by
  obtain ⟨w, ws, rfl, s1, s2⟩ := hs.c
  obtain ⟨f', e, k⟩ := z_goS hi (by show (5 : Nat) ≠ 0; decide) (by show (5 : Nat) ≠ 10; decide) (by show (5 : Nat) ≠ 8; decide) (fun q => absurd q (by show ¬ (5 : Nat) = 6; decide)) hr
  rcases k with ⟨q, k1, k2⟩ | ⟨k, -⟩
  · rcases z_stp (by show (5 : Nat) ≠ 0; decide) k1 with ⟨a, -⟩ | ⟨-, ⟨a, -⟩ | ⟨a, -⟩ | ⟨a, -⟩ | ⟨a, -⟩ | ⟨-, b⟩⟩
    · exact absurd a (by show ¬ (5 : Nat) = 9; decide)
    · exact absurd a (by show ¬ (5 : Nat) = 1; decide)
    · exact absurd a (by show ¬ (5 : Nat) = 4; decide)
    · exact absurd a (by show ¬ (5 : Nat) = 2; decide)
    · exact absurd a (by show ¬ (5 : Nat) = 3; decide)
    · cases w <;> first
        | (cases b; done)
        | skip
      unfold a_st5 at b
      dsimp only at b
      rw [Option.ite_none_right_eq_some] at b
      obtain ⟨-, b⟩ := b
      rw [Option.map_eq_some_iff] at b
      obtain ⟨n, hn, rfl⟩ := b
      obtain ⟨g1, g2, g3⟩ := z_al_new (t := (a_row (Op.newarray.typeOf t) n).1) (vs := (a_row (Op.newarray.typeOf t) n).2) P z_row0
      refine ⟨f', _, _, _, _, _, e, k2, hl.app _, ⟨⟨?_, Nat.zero_le _, _, rfl, ?_⟩, s2.app _⟩, g2, g1, Or.inl rfl⟩
      · show ν.length + 1 ≤ (ν ++ [_]).length
        rw [List.length_append]
        exact Nat.le_refl _
      · show z_ad 112 (o_v _ (ν.length + 1, 0)) 0 = some _
        rw [o_new]
        exact g3
  · rcases k with k | k
    · exact absurd k (by show ¬ (5 : Nat) = 6; decide)
    · exact absurd k (by show ¬ (5 : Nat) = 7; decide)
theorem z_nn {x : Int32} (h : ¬ x < 0) : 0 ≤ x.toInt ∧ x.toNatClampNeg = x.toInt.toNat := by
  refine ⟨?_, rfl⟩
  by_cases q : x.toInt < 0
  · exact absurd (Int32.lt_iff_toInt_lt.mpr (by simpa using q)) h
  · omega
theorem z_opC_1 {r' x y sp r'' x' y' dp m : ZN} {idx : Nat} {n d b s a : ZV} (hi : a_ins mi pc = some (.invokestatic idx, len)) (hm : (if (a_own mi = 12 ∧ idx = 166) ∧ ((a_of a_inv (a_own mi)).find? (fun e => e.1 == idx && e.2.1 == 1)).isNone = true ∧ ((a_of a_mat (a_own mi)).find? (fun e => e.1 == idx)).isNone = true ∧ (2 ≤ a.1 ∧ 2 ≤ b.1 ∧ n.1 < 2 ∧ d.1 < 2 ∧ s.1 < 2) ∧ (z_isA (a.1 - 2) = true ∧ z_isA (b.1 - 2) = true ∧ z_pa (b.1 - 2) = none) ∧ (r'.1 = (a.1 - 2) * 64 ∧ x = a.2.1 ∧ y = a.2.2 ∧ sp = s.2.1) ∧ (r''.1 = (b.1 - 2) * 64 ∧ x' = b.2.1 ∧ y' = b.2.2 ∧ dp = d.2.1) ∧ m = n.2.1 then some (pc + 3, bl, bs) else none) = some (pc', bl', bs')) (hl : z_loc ν bl al) (hs : z_stk ν (n :: d :: b :: s :: a :: bs) st) (P : z_PI h) (hr : a_go call mi f pc al st h mc ms = some r) : z_next true h call mi f r ν (e_acp (z_al h) r'.1 (o_v ν x) (o_v ν y) (o_v ν sp) r''.1 (o_v ν x') (o_v ν y') (o_v ν dp) (o_v ν m)) pc' bl' bs' := by
  obtain ⟨w1, t1, rfl, s1, s⟩ := hs.c
  obtain ⟨w2, t2, rfl, s2, s⟩ := s.c
  obtain ⟨w3, t3, rfl, s3, s⟩ := s.c
  obtain ⟨w4, t4, rfl, s4, s⟩ := s.c
  obtain ⟨w5, t5, rfl, s5, s6⟩ := s.c
  rw [Option.ite_none_right_eq_some] at hm
  obtain ⟨⟨⟨c1, c2⟩, c3, c4, ⟨c5, c6, c7, c8, c9⟩, ⟨c10, c11, c12⟩, ⟨c13, rfl, rfl, rfl⟩, ⟨c14, rfl, rfl, rfl⟩, rfl⟩, hm⟩ := hm
  cases hm
  have hca : a_call (a_own mi) (.invokestatic idx) (w1 :: w2 :: w3 :: w4 :: w5 :: t5) h = none := by
    unfold a_call
    dsimp only
    rw [Option.isNone_iff_eq_none.mp c3]
  obtain ⟨f', e, k⟩ := z_goS hi (by show (6 : Nat) ≠ 0; decide) (by show (6 : Nat) ≠ 10; decide) (by show (6 : Nat) ≠ 8; decide) (fun _ => hca) hr
  obtain ⟨a3, rfl, ha3⟩ := z_obj c6 s3
  obtain ⟨a5, rfl, ha5⟩ := z_obj c5 s5
  have u1 := z_num s1 c7
  have u2 := z_num s2 c8
  have u4 := z_num s4 c9
  rcases k with ⟨q, k1, k2⟩ | ⟨-, st', h', k1, k2⟩
  · exfalso
    rcases z_stp (by show (6 : Nat) ≠ 0; decide) k1 with ⟨a, -⟩ | ⟨-, ⟨a, -⟩ | ⟨a, -⟩ | ⟨a, -⟩ | ⟨a, -⟩ | ⟨-, b⟩⟩
    · exact absurd a (by show ¬ (6 : Nat) = 9; decide)
    · exact absurd a (by show ¬ (6 : Nat) = 1; decide)
    · exact absurd a (by show ¬ (6 : Nat) = 4; decide)
    · exact absurd a (by show ¬ (6 : Nat) = 2; decide)
    · exact absurd a (by show ¬ (6 : Nat) = 3; decide)
    · cases w1 <;> first
        | (cases b; done)
        | skip
      cases w2 <;> first
        | (cases b; done)
        | skip
      unfold a_st5 at b
      dsimp only at b
      rw [Option.isNone_iff_eq_none.mp c4] at b
      cases b
  · cases w1 <;> first
      | (cases k1; done)
      | skip
    cases w2 <;> first
      | (cases k1; done)
      | skip
    cases w4 <;> first
      | (cases k1; done)
      | skip
    unfold a_acp at k1
    dsimp only at k1
    rw [Option.ite_none_right_eq_some] at k1
    obtain ⟨⟨-, -, b1, -, b2, b3, b4⟩, k1⟩ := k1
    split at k1
    · rename_i n0 d0 s0 _ _ t vs u ws hA hB
      split at k1
      · rename_i ty hty
        rw [Option.ite_none_right_eq_some] at k1
        obtain ⟨⟨-, -, -, b5, b6, -⟩, k1⟩ := k1
        cases k1
        obtain ⟨n1, n2⟩ := z_nn b2
        obtain ⟨n3, n4⟩ := z_nn b3
        obtain ⟨n5, n6⟩ := z_nn b4
        rw [n2, n6] at b5
        rw [n4, n6] at b6
        rw [b1] at k2
        refine ⟨f', _, _, _, _, _, e, k2, hl, s6, ?_, ?_, Or.inl rfl⟩
        · exact z_PI_set P ha3 hB (fun n => z_isA_po c11 n) c12
        · rw [n2, n4, n6, z_al_acp ha5 ha3 hA hB (fun k hk => z_isA_slot c10 hk) (fun k hk => z_isA_slot c11 hk) n1 n3 b5 b6, c13, c14, ← u1, ← u2, ← u4]
          congr 1
          show (_ : Int) = Int32.toInt _
          omega
      · cases k1
    · cases k1
/-- an operation that writes -/
def z_wop (op : ZO) : Bool := op.1 == 6 || (op.1 == 8 || op.1 == 9)
theorem z_op_ok {op : ZO} (hi : a_ins mi pc = some (i, len)) (hm : z_op1 (a_own mi) i pc bl bs ν.length op = some (pc', bl', bs')) (hl : z_loc ν bl al) (hs : z_stk ν bs st) (P : z_PI h) (hr : a_go call mi f pc al st h mc ms = some r) : z_next (z_wop op) h call mi f r (z_nx op ν (z_al h)).1 (z_nx op ν (z_al h)).2 pc' bl' bs' ∧ (z_nx op ν (z_al h)).1.length = z_nm op ν.length ∧ ∀ (F : Nat → ZFn) (n : Nat) (p : List ZO), z_ev F (n + 1) (op :: p) ν (z_al h) = z_ev F n p (z_nx op ν (z_al h)).1 (z_nx op ν (z_al h)).2 := by
  have la : ∀ z : Int, (ν ++ [z]).length = ν.length + 1 := fun z => by rw [List.length_append]; rfl
  unfold z_op1 at hm
  split at hm
  · exact ⟨z_opA_ok hi hm hl hs P hr, la _, fun F n p => rfl⟩
  · exact ⟨z_opR_ok hi hm hl hs P hr, la _, fun F n p => rfl⟩
  · exact ⟨z_opW_ok hi hm hl hs P hr, rfl, fun F n p => rfl⟩
  · split at hm
    · cases hm
      exact ⟨z_opN_ok hi hl hs P hr, la _, fun F n p => rfl⟩
    · cases hm
  · unfold z_opC at hm
    split at hm
    · exact ⟨z_opC_1 hi hm hl hs P hr, rfl, fun F n p => rfl⟩
    · cases hm
  · cases hm
end OP
end
/-! part 71s08 -/
section
/-! A method's code from a place on is a program -/
def z_sb (xs : List ZN) (x : ZN) : Option ZN := match x.1 with
  | 0 => some x
  | n + 1 => xs[n]?
def z_mt1 (xs : List ZN) (p b : ZV) : Bool := p.1 == b.1 && (z_sb xs p.2.1 == some b.2.1 && (if p.1 < 2 then p.2.2.1 == 0 else z_sb xs p.2.2 == some b.2.2))
def z_mtL (xs : List ZN) : ZL → ZL → Bool
  | [], [] => true
  | none :: ps, _ :: bs => z_mtL xs ps bs
  | some p :: ps, some b :: bs => z_mt1 xs p b && z_mtL xs ps bs
  | _, _ => false
def z_mtA (xs : List ZN) : List ZV → List ZV → Bool
  | [], [] => true
  | p :: ps, b :: bs => z_mt1 xs p b && z_mtA xs ps bs
  | _, _ => false
/-- cuts: places with how many symbols there are, and what the locals are there -/
abbrev ZC : Type := List (Nat × Nat × ZL)
/-- methods that are called, with how many symbols their arguments have, and these -/
abbrev ZM : Type := List (Nat × Nat × List ZV)
def z_sg (C : ZC) (pc : Nat) : Option (Nat × ZL) := (C.find? (fun e => e.1 == pc)).map (fun e => e.2)
def z_ps (A : ZM) (mt : Nat) : Option (Nat × List ZV) := (A.find? (fun e => e.1 == mt)).map (fun e => e.2)
def z_cal (own : Nat) (i : Instr) (bs : List ZV) : Option (Nat × List ZV × List ZV) := match i with
  | .invokevirtual idx => match (a_of a_inv own).find? (fun e => e.1 == idx && e.2.1 == 0) with
    | some e => if a_nrg e.2.2.1 ≤ bs.length then some (e.2.2.1, (bs.take (a_nrg e.2.2.1)).reverse, bs.drop (a_nrg e.2.2.1)) else none
    | none => none
  | .invokestatic idx => match (a_of a_inv own).find? (fun e => e.1 == idx && e.2.1 == 1) with
    | some e => if a_nrg e.2.2.1 ≤ bs.length ∧ ((a_of a_mat own).find? (fun e => e.1 == idx)).isNone = true ∧ ¬ (own = 12 ∧ idx = 166) then some (e.2.2.1, (bs.take (a_nrg e.2.2.1)).reverse, bs.drop (a_nrg e.2.2.1)) else none
    | none => none
  | _ => none
def z_res (mt nv : Nat) : List ZV := if a_rty mt = none then [] else [z_top nv]
/-- the condition of a branch: its code, its operands, where to, what stays -/
def z_cc (c : Jvm.ClassFile.Cond) : Nat := match c with
  | .eq => 0
  | .ne => 1
  | .lt => 2
  | .ge => 3
  | .gt => 4
  | .le => 5
def z_cnd (i : Instr) (pc : Nat) (bs : List ZV) : Option (Nat × ZN × ZN × Nat × List ZV) := match i, bs with
  | .ifCond c off, x :: bs => if x.1 < 2 then (a_tgt pc off).map fun t => (z_cc c, x.2.1, (0, 0), t, bs) else none
  | .if_icmp c off, y :: x :: bs => if x.1 < 2 ∧ y.1 < 2 then (a_tgt pc off).map fun t => (z_cc c, x.2.1, y.2.1, t, bs) else none
  | .if_acmp .eq off, y :: x :: bs => if 2 ≤ x.1 ∧ y.1 = x.1 ∧ x.2.2 = (0, 0) ∧ y.2.2 = (0, 0) then (a_tgt pc off).map fun t => (0, x.2.1, y.2.1, t, bs) else none
  | _, _ => none
def z_isE (i : Instr) : Bool := match i with
  | .ireturn | .lreturn | .freturn | .dreturn => true
  | _ => false
/-- an end: what is returned or thrown -/
def z_end (mi pc : Nat) (i : Instr) (bs : List ZV) (op : ZO) : Bool := match op with
  | (0, []) => (match i with
    | .return_ => true
    | _ => false)
  | (0, [x]) => z_isE i && (match bs with
    | [b] => decide (b.1 < 2) && x == b.2.1
    | _ => false)
  | (1, [k]) => (match i with
    | .new _ => decide (bs.length ≤ 4) && (k.1 < 900 && (a_thr.find? (fun r => r.1 == mi && r.2.1 == pc)).map (fun r => r.2.2.2.2.2.2.2.1) == some k.1)
    | _ => false)
  | _ => false
def z_tgts (C : ZC) (pc : Nat) (xs : List ZN) (bl : ZL) (off : Int) (t : Nat) : Bool := a_tgt pc off == some t && (match z_sg C t with
  | some (k, sg) => decide (xs.length = k) && z_mtL xs sg bl
  | none => false)
def z_all2 (f : Int → Nat → Bool) : List Int → List ZN → Bool
  | [], [] => true
  | o :: os, t :: ts => f o t.1 && z_all2 f os ts
  | _, _ => false
/-- a switch -/
def z_swc (C : ZC) (pc : Nat) (i : Instr) (bl : ZL) (bs : List ZV) (op : ZO) : Bool := match op, i, bs with
  | (10, x :: lo :: m :: d :: xs), .tableswitch dflt l hi offs, [b] => decide (b.1 < 2) && (x == b.2.1 && (decide (lo.2 = l) && (decide (hi = l + (offs.toList.length : Int) - 1) && (decide (m.1 = offs.toList.length) && (decide (m.1 ≤ xs.length) && (z_tgts C pc (xs.drop m.1) bl dflt d.1 && z_all2 (fun o t => z_tgts C pc (xs.drop m.1) bl o t) offs.toList (xs.take m.1)))))))
  | _, _, _ => false
/-- the handlers of a call's exceptions -/
def z_hnd (mi pc : Nat) (hs : List ZN) : Bool := (a_hnd mi).all fun x => !(decide (x.1 ≤ pc) && decide (pc < x.2.1)) || hs.any fun e => e.1 == x.2.2.2.2.1
section FZ
variable {β : Type}
def f_zn (b : ZN) (k : ZN → β) : β := match b with
  | (x, y) => f_n x fun x => f_z y fun y => k (x, y)
def f_zv (b : ZV) (k : ZV → β) : β := match b with
  | (x, y, w) => f_n x fun x => f_zn y fun y => f_zn w fun w => k (x, y, w)
def f_zo (b : Option ZV) (k : Option ZV → β) : β := match b with
  | none => k none
  | some b => f_zv b fun b => k (some b)
theorem f_zn_eq (b : ZN) (k : ZN → β) : f_zn b k = k b := by
  obtain ⟨x, y⟩ := b
  simp only [f_zn, f_n_eq, f_z_eq]
theorem f_zv_eq (b : ZV) (k : ZV → β) : f_zv b k = k b := by
  obtain ⟨x, y, w⟩ := b
  simp only [f_zv, f_n_eq, f_zn_eq]
theorem f_zo_eq (b : Option ZV) (k : Option ZV → β) : f_zo b k = k b := by
  cases b with
  | none => rfl
  | some b => simp only [f_zo, f_zv_eq]
def f_zs (pc : Nat) (bl : ZL) (bs : List ZV) (k : Nat → ZL → List ZV → β) : β := f_n pc fun pc => f_l f_zo bl fun bl => f_l f_zv bs fun bs => k pc bl bs
theorem f_zs_eq (pc : Nat) (bl : ZL) (bs : List ZV) (k : Nat → ZL → List ZV → β) : f_zs pc bl bs k = k pc bl bs := by
  simp only [f_zs, f_n_eq, f_l_eq f_zo_eq, f_l_eq f_zv_eq]
end FZ
/-- a branch on what is known -/
def z_cc0 (o : Option (Nat × ZN × ZN × Nat × List ZV)) (pc : Nat) : Option (Nat × List ZV) := match o with
  | some (c, (0, z), (0, z'), t, bs) => some (if e_cmp c z z' = true then t else pc + 3, bs)
  | _ => none
/-- from a place on: (fuel, whether it may stand at a cut, fuel of the program, the program, place, locals, stack, how many symbols) -/
noncomputable def z_go (C : ZC) (A : ZM) (I : List (Nat × Nat)) (mi : Nat) : Nat → Bool → Nat → List ZO → Nat → ZL → List ZV → Nat → Bool
  | 0, _, _, _, _, _, _, _ => false
  | g + 1, first, n, p, pc, bl, bs, nv => match (if first = true then none else z_sg C pc) with
    | some (k, sg) => (match n, p, bs with
      | _ + 1, (2, q :: xs) :: _, [] => decide (q.1 = pc ∧ xs.length = k) && z_mtL xs sg bl
      | _, _, _ => false)
    | none => match a_ins mi pc with
      | none => false
      | some (i, len) => match z_mv (a_own mi) i pc bl bs with
        | some (pc', bl', bs') => f_zs pc' bl' bs' fun pc' bl' bs' => z_go C A I mi g false n p pc' bl' bs' nv
        | none => match z_cc0 (z_cnd i pc bs) pc with
        | some (pc', bs') => f_zs pc' bl bs' fun pc' bl' bs' => z_go C A I mi g false n p pc' bl' bs' nv
        | none => match n, p with
          | n + 1, op :: p => (match z_op1 (a_own mi) i pc bl bs nv op with
            | some (pc', bl', bs') => f_zs pc' bl' bs' fun pc' bl' bs' => f_n (z_nm op nv) fun nv' => z_go C A I mi g false n p pc' bl' bs' nv'
            | none => z_end mi pc i bs op || (z_swc C pc i bl bs op || (match op with
              | (3, [c, sk, x, y]) => (match z_cnd i pc bs with
                | some (c', x', y', t, bs') => (decide (c.1 = c') && (x == x' && y == y')) && (f_n (pc + 3) fun pc3 => z_go C A I mi g false n p t bl bs' nv && z_go C A I mi g false n (p.drop sk.1) pc3 bl bs' nv)
                | none => false)
              | (7, mt :: xs) => (match z_cal (a_own mi) i bs with
                | some (m, as, rest) => (match z_ps A m with
                  | some (k, ps) => (decide (mt.1 = m ∧ xs.length = k) && ((a_hnd mi).isEmpty && z_mtA xs ps as)) && f_zs (pc + 3) bl (z_res m nv ++ rest) fun pc' bl' bs' => f_n (nv + 1) fun nv' => z_go C A I mi g false n p pc' bl' bs' nv'
                  | none => false)
                | none => false)
              | (13, mt :: kk :: xs) => (match z_cal (a_own mi) i bs with
                | some (m, as, rest) => (match z_ps A m with
                  | some (k, ps) => ((decide (mt.1 = m ∧ xs.length = k) && ((a_hnd mi).isEmpty && z_mtA xs ps as)) && (I.contains (mt.1, kk.1) && (decide (a_rty m ≠ none) && decide ((xs.getD kk.1 (0, 0)).1 ≤ nv)))) && f_zs (pc + 3) bl ((0, xs.getD kk.1 (0, 0), (0, 0)) :: rest) fun pc' bl' bs' => z_go C A I mi g false n p pc' bl' bs' nv
                  | none => false)
                | none => false)
              | (11, mt :: m :: xs) => (match z_cal (a_own mi) i bs with
                | some (m', as, rest) => (match z_ps A m' with
                  | some (k, ps) => ((decide (mt.1 = m' ∧ (xs.drop m.1).length = k) && ((!(a_hnd mi).isEmpty) && z_mtA (xs.drop m.1) ps as)) && z_hnd mi pc (xs.take m.1)) && ((xs.take m.1).all fun e => match a_cth mi pc e.1 with
                    | some x => (match a_hdl mi x.2.2.1 with
                      | some (hp, k) => decide (k < bl.length) && z_go C A I mi g false n (p.drop e.2.toNat) hp ((z_kill bl k).set k none) [] nv
                      | none => false)
                    | none => false) && f_zs (pc + 3) bl (z_res m' nv ++ rest) fun pc' bl' bs' => f_n (nv + 1) fun nv' => z_go C A I mi g false n p pc' bl' bs' nv'
                  | none => false)
                | none => false)
              | _ => false)))
          | _, _ => false
end
