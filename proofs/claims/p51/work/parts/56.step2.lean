/-! Arithmetic, array loads, stores, fields, the pool, tables -/
def b_opc (i : Instr) : Option Nat := match i with
  | .iadd => some 1
  | .isub => some 2
  | .imul => some 3
  | .idiv => some 4
  | .irem => some 5
  | .iand => some 6
  | .ior => some 7
  | _ => none
def b_i2l (x : BV) : BV := if x.1 = 0 then (8, 0, x.2.2) else (7, x.2.1, x.2.2)
/-- an int that isn't 0 -/
def b_nz (E : BQ) (x : BV) : Nat := if 1 ≤ (b_iv E x).1 ∨ (b_iv E x).2 ≤ -1 then 1 else 0
def b_st2 (i : Instr) (pc : Nat) (bl : BL) (bs : List BV) (G : BG) : Option (List BZ) := match i, bs with
  | .i2l, x :: bs => if x.1 < 2 then some [(pc + 1, bl, b_i2l x :: bs, G)] else none
  | .i2c, x :: bs => if x.1 < 2 then some [(pc + 1, bl, (b_ar G 0 x (0, 0, 0)).1 :: bs, (b_ar G 0 x (0, 0, 0)).2)] else none
  | .i2f, x :: bs => if x.1 < 2 then some [(pc + 1, bl, (10, b_nz G.1 x, 0) :: bs, G)] else none
  | .i2d, x :: bs => if x.1 < 2 then some [(pc + 1, bl, (11, b_nz G.1 x, 0) :: bs, G)] else none
  | .f2d, x :: bs => if x.1 = 5 then some [(pc + 1, bl, (6, 0, 0) :: bs, G)] else none
  | .fdiv, y :: x :: bs => if x.1 = 10 ∧ y.1 = 10 ∧ y.2.1 = 1 then some [(pc + 1, bl, (5, 0, 0) :: bs, G)] else none
  | .ddiv, y :: x :: bs => if x.1 = 11 ∧ y.1 = 11 ∧ y.2.1 = 1 then some [(pc + 1, bl, (6, 0, 0) :: bs, G)] else none
  | .ladd, y :: x :: bs => if b_kd x = 1 ∧ b_kd y = 1 then some [(pc + 1, bl, (4, 0, 0) :: bs, G)] else none
  | .lmul, y :: x :: bs => if b_kd x = 1 ∧ b_kd y = 1 then some [(pc + 1, bl, (4, 0, 0) :: bs, G)] else none
  | .lcmp, y :: x :: bs => if b_kd x = 1 ∧ b_kd y = 1 then (if x = y ∧ 6 < x.1 then some [(pc + 1, bl, (0, 0, 0) :: bs, G)] else some [(pc + 1, bl, (1, G.1.length, 0) :: bs, b_add G (0, -2147483648, 2147483647))]) else none
  | i, y :: x :: bs => match b_opc i with
    | some op => if x.1 < 2 ∧ y.1 < 2 ∧ ((op = 4 ∨ op = 5) → (1 ≤ (b_iv G.1 y).1 ∨ (b_iv G.1 y).2 ≤ -1)) then some [(pc + 1, bl, (b_arx G op x y).1 :: bs, (b_arx G op x y).2)] else none
    | none => none
  | _, _ => none
def b_st3 (K : BH) (i : Instr) (pc : Nat) (bl : BL) (bs : List BV) (G : BG) : Option (List BZ) := match bs with
  | x :: base :: bs => match b_row K G.1 base with
    | some (_, row) => if row.2.2.1 ≠ 0 ∧ a_ald i row.1 = true ∧ b_inb G row base x = true then (match b_ty row 0 with
      | some ty => (b_ld G base x ty).map fun o => [(pc + 1, bl, o.1 :: bs, o.2)]
      | none => none) else none
    | none => none
  | _ => none
/-- a store into an array of this kind keeps an int of a type's range -/
def b_asv (i : Instr) (t : Nat) (E : BQ) (v : BV) : Bool := match i with
  | .iastore => decide (v.1 < 2) && (!(t == 19) && a_aty t == some .int)
  | .bastore => decide (v.1 < 2) && (a_aty t == some .boolean && s_fit .boolean [b_iv E v])
  | .castore => decide (v.1 < 2) && (a_aty t == some .char && s_fit .char [b_iv E v])
  | .lastore => b_kd v == 1 && a_aty t == some .long
  | .dastore => b_kd v == 3 && a_aty t == some .double
  | _ => false
def b_st4 (K : BH) (own : Nat) (i : Instr) (pc : Nat) (bl : BL) (bs : List BV) (G : BG) : Option (List BZ) := match i, bs with
  | .arraylength, base :: bs => match b_row K G.1 base with
    | some (_, row) => if row.2.2.1 = 1 ∧ (a_aty row.1).isSome = true ∧ row.2.1 < 2147483648 then some [(pc + 1, bl, (0, 0, (row.2.1 : Int)) :: bs, G)] else (if row.2.2.1 = 2 ∧ (a_aty row.1).isSome = true then (match G.2.1.find? (fun f => f.1 == base && f.2.1.1 == 9) with
      | some f => if f.2.2.1 < 2 ∧ 0 ≤ (b_iv G.1 f.2.2).1 ∧ (b_iv G.1 f.2.2).2 ≤ 2147483647 then some [(pc + 1, bl, f.2.2 :: bs, G)] else none
      | none => none) else none)
    | none => none
  | .ldc idx, bs => ((a_of a_cst own).find? (fun e => e.1 == idx)).map (fun e => [(pc + 2, bl, (0, 0, e.2.1.toInt) :: bs, G)])
  | .ldc_w idx, bs => ((a_of a_cst own).find? (fun e => e.1 == idx)).map (fun e => [(pc + 3, bl, (0, 0, e.2.1.toInt) :: bs, G)])
  | .ldc2_w idx, bs => ((a_of a_csl own).find? (fun e => e.1 == idx)).map (fun _ => [(pc + 3, bl, (4, 0, 0) :: bs, G)])
  | .getfield idx, base :: bs => match a_field own idx with
    | some (ci, k) => match b_row K G.1 base with
      | some (_, row) => if row.1 = ci ∧ row.2.2.1 = 0 ∧ k < row.2.1 then (match b_ty row k with
        | some ty => (b_ld G base (0, 0, (k : Int)) ty).map fun o => [(pc + 3, bl, o.1 :: bs, o.2)]
        | none => none) else none
      | none => none
    | none => none
  | .putfield idx, v :: base :: bs => match a_field own idx with
    | some (ci, k) => match b_row K G.1 base with
      | some (g, row) => if row.1 = ci ∧ row.2.2.1 = 0 ∧ k < row.2.1 ∧ v.1 < 2 ∧ s_fit (a_fty ci k) [b_iv G.1 v] = true ∧ (a_cT ci k).2.2.2 = false ∧ K.2.2.1.contains (g, k) = false then (match b_ty row k with
        | some ty => if b_fit G.1 v ty = true then some [(pc + 3, bl, bs, b_put K G (g, k) base (0, 0, (k : Int)) v)] else none
        | none => none) else none
      | none => none
    | none => none
  | i, v :: x :: base :: bs => match b_row K G.1 base with
    | some (g, row) => if row.2.2.1 = 1 ∧ b_asv i row.1 G.1 v = true ∧ b_inb G row base x = true ∧ K.2.2.1.contains (g, 0) = false then (match b_ty row 0 with
      | some ty => if b_fit G.1 v ty = true then some [(pc + 1, bl, bs, b_put K G (g, 0) base x v)] else none
      | none => none) else none
    | none => none
  | _, _ => none
/-- how many words a stack takes -/
def b_cat : List BV → Nat
  | [] => 0
  | b :: bs => (if b_two b = true then 2 else 1) + b_cat bs
def b_st5 (own : Nat) (i : Instr) (pc : Nat) (bl : BL) (bs : List BV) (G : BG) : Option (List BZ) := match i, bs with
  | .invokestatic idx, y :: x :: bs => match (a_of a_mat own).find? (fun e => e.1 == idx) with
    | some e => if x.1 < 2 ∧ y.1 < 2 ∧ b_cat bs ≤ 8 then some [(pc + 3, bl, (b_ar G (if e.2.1 = true then 9 else 8) x y).1 :: bs, (b_ar G (if e.2.1 = true then 9 else 8) x y).2)] else none
    | none => none
  | _, _ => none
def b_all {α β : Type} (l : List α) (f : α → Option (List β)) : Option (List β) := match l with
  | [] => some []
  | a :: l => match f a with
    | some x => (match b_all l f with
      | some y => some (x ++ y)
      | none => none)
    | none => none
theorem b_all_ok {α β : Type} {f : α → Option (List β)} : ∀ {l : List α} {L : List β}, b_all l f = some L → ∀ a ∈ l, ∃ x, f a = some x ∧ ∀ b ∈ x, b ∈ L
  | [], L, h, a, ha => by cases ha
  | c :: l, L, h, a, ha => by
    rw [b_all] at h
    split at h
    · rename_i x hx
      split at h
      · rename_i y hy
        cases h
        rcases List.mem_cons.mp ha with e | e
        · subst e
          exact ⟨x, hx, fun b hb => List.mem_append_left _ hb⟩
        · obtain ⟨z, z1, z2⟩ := b_all_ok hy a e
          exact ⟨z, z1, fun b hb => List.mem_append_right _ (z2 b hb)⟩
      · cases h
    · cases h
/-- where a table leads -/
def b_swt (dflt lo hi : Int) (offs : List Int) (pc : Nat) (v : Int) : Option Nat := if v < lo ∨ hi < v then a_tgt pc dflt else (offs[(v - lo).toNat]?).bind fun off => a_tgt pc off
def b_sw (i : Instr) (pc : Nat) (bl : BL) (bs : List BV) (G : BG) : Option (List BZ) := match i, bs with
  | .tableswitch dflt lo hi offs, x :: bs =>
    if x.1 < 2 ∧ (b_iv G.1 x).2 - (b_iv G.1 x).1 ≤ 70 then
      b_all ((List.range ((b_iv G.1 x).2 - (b_iv G.1 x).1 + 1).toNat).map fun (k : Nat) => (b_iv G.1 x).1 + (k : Int)) fun v => (b_swt dflt lo hi offs.toList pc v).map fun t => ((b_as .eq G x (0, 0, v)).toList).map fun G => (t, bl, bs, G)
    else none
  | _, _ => none
section BS2
variable {K : BH} {ν : BN} {h0 h : AH} {G : BG}
theorem b_one {o : BV × BG} {v : Value} {pc : Nat} {bl : BL} {bs : List BV} {al : AL} {st : List Value} (ho : b_out K ν h0 h G o v) (hl : b_L G.1.length ν bl al) (hs : b_S G.1.length ν bs st) : b_Z K ν h0 G.1.length (pc, bl, o.1 :: bs, o.2) pc al (v :: st) h := by
  obtain ⟨ν', x, g, hv⟩ := ho
  exact ⟨rfl, ν', x, hl.ext x, b_S.cons hv (hs.ext x), g⟩
theorem b_bin_ok {i : Instr} {op : Nat} {X Y : Int32} (ho : b_opc i = some op) (hy : (op = 4 ∨ op = 5) → Y ≠ 0) : a_bin i X Y = some (b_f2 op X Y) := by
  cases i <;> simp only [b_opc] at ho <;> (try (cases ho; done))
  all_goals (cases ho; first | rfl | (show (if Y = 0 then none else _) = _; rw [if_neg (hy (by decide))]; rfl))
theorem b_nz_ok {x : BV} {X : Int32} (g : b_sat K G.1 ν) (hx : b_i G.1.length ν x X.toInt) (h : b_nz G.1 x = 1) : X ≠ 0 := by
  have iv := b_iv_ok g hx
  rintro rfl
  have z : (0 : Int32).toInt = 0 := by decide
  unfold b_nz at h
  split at h
  · omega
  · cases h
theorem b_v.flt {N : Nat} {b : BV} {v : Value} (h : b_v N ν b v) (hk : b.1 = 10) : ∃ X : Int32, v = .float (FP.i2f X) ∧ (b.2.1 = 1 → X ≠ 0) := by
  cases v with
  | float f =>
    rcases h with ⟨q, -⟩ | ⟨-, X, rfl, q⟩
    · omega
    · exact ⟨X, rfl, q⟩
  | int x => rcases h with ⟨h1, -⟩ | ⟨h1, -⟩ <;> omega
  | ref x => rcases h with ⟨h1, -⟩ | ⟨h1, -⟩ <;> omega
  | long x => rcases h with h | ⟨h, -⟩ | ⟨h, -⟩ <;> omega
  | double x => rcases h with h | ⟨h, -⟩ <;> omega
  | _ => exact h.elim
theorem b_v.flt5 {N : Nat} {b : BV} {v : Value} (h : b_v N ν b v) (hk : b.1 = 5) : ∃ f, v = .float f ∧ Jvm.FP.Core.fIsNaN f = false := by
  cases v with
  | float f =>
    rcases h with ⟨-, q⟩ | ⟨q, -⟩
    · exact ⟨f, rfl, q⟩
    · omega
  | int x => rcases h with ⟨h1, -⟩ | ⟨h1, -⟩ <;> omega
  | ref x => rcases h with ⟨h1, -⟩ | ⟨h1, -⟩ <;> omega
  | long x => rcases h with h | ⟨h, -⟩ | ⟨h, -⟩ <;> omega
  | double x => rcases h with h | ⟨h, -⟩ <;> omega
  | _ => exact h.elim
theorem b_v.dbl11 {N : Nat} {b : BV} {v : Value} (h : b_v N ν b v) (hk : b.1 = 11) : ∃ X : Int32, v = .double (FP.i2d X) ∧ (b.2.1 = 1 → X ≠ 0) := by
  cases v with
  | double f =>
    rcases h with q | ⟨-, X, rfl, q⟩
    · omega
    · exact ⟨X, rfl, q⟩
  | int x => rcases h with ⟨h1, -⟩ | ⟨h1, -⟩ <;> omega
  | ref x => rcases h with ⟨h1, -⟩ | ⟨h1, -⟩ <;> omega
  | long x => rcases h with h | ⟨h, -⟩ | ⟨h, -⟩ <;> omega
  | float x => rcases h with ⟨h, -⟩ | ⟨h, -⟩ <;> omega
  | _ => exact h.elim
theorem b_st2_ok (g : b_G K ν h0 h G) {i : Instr} {pc : Nat} {bl : BL} {bs : List BV} {al : AL} {st : List Value} {L : List BZ} (hl : b_L G.1.length ν bl al) (hs : b_S G.1.length ν bs st) (hr : b_st2 i pc bl bs G = some L) : ∃ pc' al' st', a_st2 i pc al st h = some (pc', al', st', h, 0, 0) ∧ ∃ o ∈ L, b_Z K ν h0 G.1.length o pc' al' st' h := by
  have long : ∀ {b : BV} {v : Value}, b_v G.1.length ν b v → b_kd b = 1 → ∃ x, v = .long x := by
    intro b v hv hk
    have h1 := hv.kind
    rw [hk] at h1
    cases v <;> first | exact ⟨_, rfl⟩ | (simp [a_kind] at h1)
  unfold b_st2 at hr
  split at hr
  · rename_i x bs'
    split at hr
    · rename_i e
      cases hr
      obtain ⟨v, st', rfl, h1, h2⟩ := hs.inv
      obtain ⟨X, rfl, h3⟩ := h1.int e
      refine ⟨_, _, _, rfl, _, List.mem_cons_self, rfl, ν, b_ext.rf, hl, b_S.cons ?_ h2, g⟩
      unfold b_i2l
      rcases h3 with ⟨q1, q2⟩ | ⟨q1, q2, q3⟩
      · rw [if_pos q1]
        exact Or.inr (Or.inl ⟨rfl, by rw [Int32.toInt_toInt64]; exact q2⟩)
      · rw [if_neg (by omega)]
        exact Or.inr (Or.inr ⟨rfl, q2, by rw [Int32.toInt_toInt64]; exact q3⟩)
    · cases hr
  · rename_i x bs'
    split at hr
    · rename_i e
      cases hr
      obtain ⟨v, st', rfl, h1, h2⟩ := hs.inv
      obtain ⟨X, rfl, h3⟩ := h1.int e
      exact ⟨_, _, _, rfl, _, List.mem_cons_self, b_one (b_ar_ok g (op := 0) (y := (0, 0, 0)) (Y := 0) h3 (Or.inl ⟨rfl, rfl⟩)) hl h2⟩
    · cases hr
  · rename_i x bs'
    split at hr
    · rename_i e
      cases hr
      obtain ⟨v, st', rfl, h1, h2⟩ := hs.inv
      obtain ⟨X, rfl, h3⟩ := h1.int e
      exact ⟨_, _, _, rfl, _, List.mem_cons_self, rfl, ν, b_ext.rf, hl, b_S.cons (Or.inr ⟨rfl, X, rfl, b_nz_ok g.1 h3⟩) h2, g⟩
    · cases hr
  · rename_i x bs'
    split at hr
    · rename_i e
      cases hr
      obtain ⟨v, st', rfl, h1, h2⟩ := hs.inv
      obtain ⟨X, rfl, h3⟩ := h1.int e
      exact ⟨_, _, _, rfl, _, List.mem_cons_self, rfl, ν, b_ext.rf, hl, b_S.cons (Or.inr ⟨rfl, X, rfl, b_nz_ok g.1 h3⟩) h2, g⟩
    · cases hr
  · rename_i x bs'
    split at hr
    · rename_i e
      cases hr
      obtain ⟨v, st', rfl, h1, h2⟩ := hs.inv
      obtain ⟨f, rfl, hf⟩ := h1.flt5 e
      have q : a_st2 .f2d pc al (.float f :: st') h = some (pc + 1, al, .double (FP.f2d f) :: st', h, 0, 0) := if_pos (ff_64 (ff_f2d hf))
      exact ⟨_, _, _, q, _, List.mem_cons_self, rfl, ν, b_ext.rf, hl, b_S.cons (Or.inl rfl) h2, g⟩
    · cases hr
  · rename_i y x bs'
    split at hr
    · rename_i e
      cases hr
      obtain ⟨v, st', rfl, h1, h2⟩ := hs.inv
      obtain ⟨v2, st2, rfl, h4, h5⟩ := h2.inv
      obtain ⟨Y, rfl, hY⟩ := h1.flt e.2.1
      obtain ⟨X, rfl, hX⟩ := h4.flt e.1
      have n := ff_fdiv (a := X) (hY e.2.2)
      have q : a_st2 .fdiv pc al (.float (FP.i2f Y) :: .float (FP.i2f X) :: st2) h = some (pc + 1, al, .float (FP.fdiv (FP.i2f X) (FP.i2f Y)) :: st2, h, 0, 0) := if_pos (ff_32 n)
      exact ⟨_, _, _, q, _, List.mem_cons_self, rfl, ν, b_ext.rf, hl, b_S.cons (Or.inl ⟨rfl, n⟩) h5, g⟩
    · cases hr
  · rename_i y x bs'
    split at hr
    · rename_i e
      cases hr
      obtain ⟨v, st', rfl, h1, h2⟩ := hs.inv
      obtain ⟨v2, st2, rfl, h4, h5⟩ := h2.inv
      obtain ⟨Y, rfl, hY⟩ := h1.dbl11 e.2.1
      obtain ⟨X, rfl, hX⟩ := h4.dbl11 e.1
      have q : a_st2 .ddiv pc al (.double (FP.i2d Y) :: .double (FP.i2d X) :: st2) h = some (pc + 1, al, .double (FP.ddiv (FP.i2d X) (FP.i2d Y)) :: st2, h, 0, 0) := if_pos (ff_64 (ff_ddiv (hY e.2.2)))
      exact ⟨_, _, _, q, _, List.mem_cons_self, rfl, ν, b_ext.rf, hl, b_S.cons (Or.inl rfl) h5, g⟩
    · cases hr
  · rename_i y x bs'
    split at hr
    · rename_i e
      cases hr
      obtain ⟨v, st', rfl, h1, h2⟩ := hs.inv
      obtain ⟨v2, st2, rfl, h4, h5⟩ := h2.inv
      obtain ⟨Y, rfl⟩ := long h1 e.2
      obtain ⟨X, rfl⟩ := long h4 e.1
      exact ⟨_, _, _, rfl, _, List.mem_cons_self, rfl, ν, b_ext.rf, hl, b_S.cons (Or.inl rfl) h5, g⟩
    · cases hr
  · rename_i y x bs'
    split at hr
    · rename_i e
      cases hr
      obtain ⟨v, st', rfl, h1, h2⟩ := hs.inv
      obtain ⟨v2, st2, rfl, h4, h5⟩ := h2.inv
      obtain ⟨Y, rfl⟩ := long h1 e.2
      obtain ⟨X, rfl⟩ := long h4 e.1
      exact ⟨_, _, _, rfl, _, List.mem_cons_self, rfl, ν, b_ext.rf, hl, b_S.cons (Or.inl rfl) h5, g⟩
    · cases hr
  · rename_i y x bs'
    split at hr
    · rename_i e
      obtain ⟨v, st', rfl, h1, h2⟩ := hs.inv
      obtain ⟨v2, st2, rfl, h4, h5⟩ := h2.inv
      obtain ⟨Y, rfl⟩ := long h1 e.2
      obtain ⟨X, rfl⟩ := long h4 e.1
      split at hr
      · rename_i e2
        cases hr
        refine ⟨_, _, _, rfl, _, List.mem_cons_self, rfl, ν, b_ext.rf, hl, b_S.cons ?_ h5, g⟩
        have hXY : X = Y := by
          rw [e2.1] at h4
          have e3 := e2.2
          rw [e2.1] at e3
          apply Int64.toInt_inj.mp
          rcases h1 with q | ⟨q1, q2⟩ | ⟨q1, q2, q3⟩ <;> rcases h4 with p | ⟨p1, p2⟩ | ⟨p1, p2, p3⟩ <;> omega
        subst hXY
        have : lg_cmp X X = 0 := by
          unfold lg_cmp
          have h1 : ¬ X < X := Int64.lt_irrefl
          simp [h1]
        show b_v _ _ _ (.int (lg_cmp X X))
        rw [this]
        exact Or.inl ⟨rfl, rfl⟩
      · cases hr
        obtain ⟨g1, x1⟩ := g.add (q := (0, -2147483648, 2147483647)) (z := (lg_cmp X Y).toInt) (by unfold b_q; rw [if_pos rfl]; exact b_32 _)
        have hlen : (b_add G (0, -2147483648, 2147483647)).1.length = G.1.length + 1 := by show (G.1 ++ [_]).length = _; rw [List.length_append]; rfl
        exact ⟨_, _, _, rfl, _, List.mem_cons_self, rfl, _, x1, hl.ext x1, b_S.cons (Or.inr ⟨rfl, by rw [hlen]; exact Nat.lt_succ_self _, by show _ = b_nu _ _ _ G.1.length + 0; rw [b_nu_n, Int.add_zero]⟩) (h5.ext x1), g1⟩
    · cases hr
  · rename_i i y x bs' _ _ _ _ _ _ _ _ _ _
    split at hr
    · rename_i op hop
      split at hr
      · rename_i e
        cases hr
        obtain ⟨v, st', rfl, h1, h2⟩ := hs.inv
        obtain ⟨v2, st2, rfl, h4, h5⟩ := h2.inv
        obtain ⟨Y, rfl, h3⟩ := h1.int e.2.1
        obtain ⟨X, rfl, h6⟩ := h4.int e.1
        have iy := b_iv_ok g.1 h3
        have hb := b_bin_ok (X := X) (Y := Y) hop (fun q r => by
          have := e.2.2 q
          rw [r] at iy
          have z : (0 : Int32).toInt = 0 := by decide
          omega)
        exact ⟨_, _, _, g_bin hb, _, List.mem_cons_self, b_one (b_arx_ok g h6 h3) hl h5⟩
      · cases hr
    · cases hr
  · cases hr
theorem b_H.at (H : b_H K h) {base : BV} {E : BQ} {N : Nat} {q : Nat × BR} {v : Value} (hs : b_sat K E ν) (hv : b_v N ν base v) (hr : b_row K E base = some q) : ∃ a vs, v = .ref a ∧ b_r N ν base a ∧ K.1 a = some q.1 ∧ K.2.1 q.1 = some q.2 ∧ h[a]? = some (q.2.1, vs) ∧ (q.2.2.2.1 ≠ 2 → vs.length = q.2.2.1) ∧ ∀ (j : Nat) (v : Value) (ty : BT), vs[j]? = some v → b_ty q.2 j = some ty → b_st K ty v := by
  obtain ⟨a, rfl, ha⟩ := hv.ref (b_row_rf hr)
  obtain ⟨k1, k2⟩ := b_row_ok hs ha hr
  obtain ⟨vs, m1, m2, m3⟩ := H.1 a q.1 q.2 k1 k2
  exact ⟨a, vs, rfl, ha, k1, k2, m1, m2, m3⟩
theorem b_ix_ok {j : Int32} {n : Nat} (h1 : 0 ≤ j.toInt) (h2 : j.toInt < (n : Int)) : a_ix j n = some j.toNatClampNeg ∧ j.toNatClampNeg < n ∧ (j.toNatClampNeg : Int) = j.toInt := by
  have e : j.toNatClampNeg = j.toInt.toNat := rfl
  unfold a_ix
  have h3 : ¬ j < 0 := fun q => by
    have := Int32.lt_iff_toInt_lt.mp q
    have z : (0 : Int32).toInt = 0 := by decide
    omega
  rw [if_neg (by rintro (q | q); exact h3 q; omega)]
  exact ⟨rfl, by omega, by omega⟩
theorem b_tyA {row : BR} (h : row.2.2.1 ≠ 0) (j : Nat) : b_ty row j = b_ty row 0 := by unfold b_ty; rw [if_neg h, if_neg h]
theorem b_st3_ok (g : b_G K ν h0 h G) {i : Instr} {pc : Nat} {bl : BL} {bs : List BV} {al : AL} {st : List Value} {L : List BZ} (hl : b_L G.1.length ν bl al) (hs : b_S G.1.length ν bs st) (hr : b_st3 K i pc bl bs G = some L) : ∃ pc' al' st', a_st3 i pc al st h = some (pc', al', st', h, 0, 0) ∧ ∃ o ∈ L, b_Z K ν h0 G.1.length o pc' al' st' h := by
  unfold b_st3 at hr
  split at hr
  · rename_i x base bs'
    split at hr
    · rename_i gg row hrow
      split at hr
      · rename_i hc
        obtain ⟨c1, c2, c3⟩ := hc
        split at hr
        · rename_i ty hty
          rw [Option.map_eq_some_iff] at hr
          obtain ⟨o, ho, rfl⟩ := hr
          obtain ⟨v, st', rfl, h1, h2⟩ := hs.inv
          obtain ⟨v2, st2, rfl, h4, h5⟩ := h2.inv
          obtain ⟨a, vs, rfl, ha, -, -, m1, m2, m3⟩ := g.2.2.2.2.1.at g.1 h4 hrow
          have hx : x.1 < 2 := by
            unfold b_inb at c3
            rw [Bool.and_eq_true, decide_eq_true_eq] at c3
            exact c3.1
          obtain ⟨j, rfl, hj⟩ := h1.int hx
          obtain ⟨i1, i2⟩ := b_inb_ok g ha m1 m2 hj c3
          obtain ⟨k1, k2, k3⟩ := b_ix_ok i1 i2
          have hv := List.getElem?_eq_getElem k2
          have e : a_st3 i pc al (.int j :: .ref a :: st2) h = some (pc + 1, al, vs[j.toNatClampNeg] :: st2, h, 0, 0) := by
            unfold a_st3
            dsimp only
            rw [m1]
            dsimp only
            rw [if_pos c2, k1]
            show (vs[j.toNatClampNeg]?).map _ = _
            rw [hv]; rfl
          exact ⟨_, _, _, e, _, List.mem_cons_self, b_one (b_ld_ok g ha m1 (by rw [k3]; exact hj) hv (m3 _ _ _ hv (by rw [b_tyA c1]; exact hty)) ho) hl h5⟩
        · cases hr
      · cases hr
    · cases hr
  · cases hr
end BS2
