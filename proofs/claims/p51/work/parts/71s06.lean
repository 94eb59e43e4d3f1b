/-! Operations that give a number or write one -/
def z_bin (i : Instr) : Option (Nat × Bool) := match i with
  | .iadd => some (0, true)
  | .isub => some (1, true)
  | .imul => some (2, true)
  | .idiv => some (3, true)
  | .irem => some (4, true)
  | .iand => some (5, true)
  | .ior => some (6, true)
  | .i2c => some (9, false)
  | .ladd => some (10, true)
  | .lmul => some (11, true)
  | .lcmp => some (12, true)
  | .i2f => some (13, false)
  | .i2d => some (14, false)
  | .f2d => some (15, false)
  | .fdiv => some (16, true)
  | .ddiv => some (17, true)
  | .dcmp .g => some (18, true)
  | .dcmp .l => some (19, true)
  | .fcmp .g => some (20, true)
  | .fcmp .l => some (21, true)
  | _ => none
theorem z_ofI (x : Int32) : Int32.ofInt x.toInt = x := Int32.ofInt_toInt x
theorem z_bin2 {i : Instr} (h : ∃ q, z_bin i = some q) : z_cl i = 2 := by
  obtain ⟨q, h⟩ := h
  cases i <;> first | rfl | (cases h; done)
theorem z_st2_1 {i : Instr} {c pc : Nat} {al : AL} {w : Value} {ws : List Value} {h : AH} {q : AS} (hb : z_bin i = some (c, false)) (hr : a_st2 i pc al (w :: ws) h = some q) : ∃ v, q = (pc + 1, al, v :: ws, h, 0, 0) ∧ e_v v = e_bin c (e_v w) 0 := by
  cases i <;> first
    | (simp [z_bin] at hb; done)
    | skip
  case i2c =>
    cases hb
    cases w <;> first
      | (cases hr; done)
      | skip
    rename_i x
    cases hr
    refine ⟨_, rfl, ?_⟩
    show (_ : Int) = e_i2c x.toInt
    unfold e_i2c
    rw [z_ofI]
    rfl
  case i2f =>
    cases hb
    cases w <;> first
      | (cases hr; done)
      | skip
    rename_i x
    cases hr
    refine ⟨_, rfl, ?_⟩
    show (_ : Int) = e_i2f x.toInt
    unfold e_i2f
    rw [z_ofI]
    rfl
  case i2d =>
    cases hb
    cases w <;> first
      | (cases hr; done)
      | skip
    rename_i x
    cases hr
    refine ⟨_, rfl, ?_⟩
    show (_ : Int) = e_i2d x.toInt
    unfold e_i2d
    rw [z_ofI]
    rfl
  case f2d =>
    cases hb
    cases w <;> first
      | (cases hr; done)
      | (cases ws <;> first | (cases hr; done) | (rename_i u us; cases u <;> first | (cases hr; done) | skip); done)
      | skip
    rename_i x
    have hr : (if FP.f2d x &&& 0x7fffffffffffffff ≤ 0x7ff0000000000000 then some ((pc + 1, al, .double (FP.f2d x) :: ws, h, 0, 0) : AS) else none) = some q := hr
    split at hr
    · cases hr
      refine ⟨_, rfl, ?_⟩
      show (_ : Int) = e_f2d (e_v (.float x))
      unfold e_f2d
      rw [show e_v (.float x) = (x.toNat : Int) from rfl, Int.toNat_natCast, UInt32.ofNat_toNat]
      rfl
    · cases hr
  case dcmp o => cases o <;> (simp [z_bin] at hb)
  case fcmp o => cases o <;> (simp [z_bin] at hb)
theorem z_lcmp (x y : Int64) : (lg_cmp x y).toInt = e_lcmp x.toInt y.toInt := by
  unfold lg_cmp e_lcmp
  by_cases c : x > y
  · rw [if_pos c, if_pos (Int64.lt_iff_toInt_lt.mp c)]
    rfl
  · rw [if_neg c, if_neg (fun q => c (Int64.lt_iff_toInt_lt.mpr q))]
    by_cases d : x = y
    · rw [if_pos d, if_pos (by rw [d])]
      rfl
    · rw [if_neg d, if_neg (fun q => d (Int64.toInt_inj.mp q))]
      rfl
theorem z_rem {x y : Int32} : (x - x / y * y).toInt = e_wr (x.toInt - e_wr (e_div x.toInt y.toInt * y.toInt)) := by
  unfold e_wr e_div
  rw [Int32.toInt_sub, Int32.toInt_mul, Int32.toInt_div]
  rfl
theorem z_st2_2 {i : Instr} {c pc : Nat} {al : AL} {u w : Value} {ws : List Value} {h : AH} {q : AS} (hb : z_bin i = some (c, true)) (hr : a_st2 i pc al (u :: w :: ws) h = some q) : ∃ v, q = (pc + 1, al, v :: ws, h, 0, 0) ∧ e_v v = e_bin c (e_v w) (e_v u) := by
  cases i <;> first
    | (simp [z_bin] at hb; done)
    | skip
  case iadd =>
    cases hb
    cases u <;> first | (cases hr; done) | (cases w <;> first | (cases hr; done) | (cases hr; exact ⟨_, rfl, Int32.toInt_add _ _⟩))
  case isub =>
    cases hb
    cases u <;> first | (cases hr; done) | (cases w <;> first | (cases hr; done) | (cases hr; exact ⟨_, rfl, Int32.toInt_sub _ _⟩))
  case imul =>
    cases hb
    cases u <;> first | (cases hr; done) | (cases w <;> first | (cases hr; done) | (cases hr; exact ⟨_, rfl, Int32.toInt_mul _ _⟩))
  case idiv =>
    cases hb
    cases u <;> first | (cases hr; done) | (cases w <;> first | (cases hr; done) | skip)
    rename_i y x
    have hr : ((if y = 0 then none else some (x / y)) : Option Int32).map (fun v => ((pc + 1, al, .int v :: ws, h, 0, 0) : AS)) = some q := hr
    split at hr
    · cases hr
    · cases hr
      exact ⟨_, rfl, Int32.toInt_div _ _⟩
  case irem =>
    cases hb
    cases u <;> first | (cases hr; done) | (cases w <;> first | (cases hr; done) | skip)
    rename_i y x
    have hr : ((if y = 0 then none else some (x - x / y * y)) : Option Int32).map (fun v => ((pc + 1, al, .int v :: ws, h, 0, 0) : AS)) = some q := hr
    split at hr
    · cases hr
    · cases hr
      exact ⟨_, rfl, z_rem⟩
  case iand =>
    cases hb
    cases u <;> first | (cases hr; done) | (cases w <;> first | (cases hr; done) | skip)
    rename_i y x
    cases hr
    refine ⟨_, rfl, ?_⟩
    show _ = e_and x.toInt y.toInt
    unfold e_and
    rw [z_ofI, z_ofI]
    rfl
  case ior =>
    cases hb
    cases u <;> first | (cases hr; done) | (cases w <;> first | (cases hr; done) | skip)
    rename_i y x
    cases hr
    refine ⟨_, rfl, ?_⟩
    show _ = e_or x.toInt y.toInt
    unfold e_or
    rw [z_ofI, z_ofI]
    rfl
  case ladd =>
    cases hb
    cases u <;> first | (cases hr; done) | (cases w <;> first | (cases hr; done) | (cases hr; exact ⟨_, rfl, Int64.toInt_add _ _⟩))
  case lmul =>
    cases hb
    cases u <;> first | (cases hr; done) | (cases w <;> first | (cases hr; done) | (cases hr; exact ⟨_, rfl, Int64.toInt_mul _ _⟩))
  case lcmp =>
    cases hb
    cases u <;> first | (cases hr; done) | (cases w <;> first | (cases hr; done) | (cases hr; exact ⟨_, rfl, z_lcmp _ _⟩))
  case fdiv =>
    cases hb
    cases u <;> first | (cases hr; done) | (cases w <;> first | (cases hr; done) | skip)
    rename_i y x
    have hr : (if FP.fdiv x y &&& 0x7fffffff ≤ 0x7f800000 then some ((pc + 1, al, .float (FP.fdiv x y) :: ws, h, 0, 0) : AS) else none) = some q := hr
    split at hr
    · cases hr
      refine ⟨_, rfl, ?_⟩
      show (_ : Int) = e_fdiv (x.toNat : Int) (y.toNat : Int)
      unfold e_fdiv
      rw [Int.toNat_natCast, Int.toNat_natCast, UInt32.ofNat_toNat, UInt32.ofNat_toNat]
      rfl
    · cases hr
  case ddiv =>
    cases hb
    cases u <;> first | (cases hr; done) | (cases w <;> first | (cases hr; done) | skip)
    rename_i y x
    have hr : (if FP.ddiv x y &&& 0x7fffffffffffffff ≤ 0x7ff0000000000000 then some ((pc + 1, al, .double (FP.ddiv x y) :: ws, h, 0, 0) : AS) else none) = some q := hr
    split at hr
    · cases hr
      refine ⟨_, rfl, ?_⟩
      show (_ : Int) = e_ddiv (x.toNat : Int) (y.toNat : Int)
      unfold e_ddiv
      rw [Int.toNat_natCast, Int.toNat_natCast, UInt64.ofNat_toNat, UInt64.ofNat_toNat]
      rfl
    · cases hr
  case fcmp o =>
    cases o <;> cases hb <;> (cases u <;> first | (cases hr; done) | (cases w <;> first | (cases hr; done) | skip))
    all_goals
      rename_i y x
      cases hr
      refine ⟨_, rfl, ?_⟩
      show (_ : Int) = e_fcmp _ (x.toNat : Int) (y.toNat : Int)
      unfold e_fcmp
      rw [Int.toNat_natCast, Int.toNat_natCast, UInt32.ofNat_toNat, UInt32.ofNat_toNat]
      rfl
  case dcmp o =>
    cases o <;> cases hb <;> (cases u <;> first | (cases hr; done) | (cases w <;> first | (cases hr; done) | skip))
    all_goals
      rename_i y x
      cases hr
      refine ⟨_, rfl, ?_⟩
      show (_ : Int) = e_dcmp _ (x.toNat : Int) (y.toNat : Int)
      unfold e_dcmp
      rw [Int.toNat_natCast, Int.toNat_natCast, UInt64.ofNat_toNat, UInt64.ofNat_toNat]
      rfl
/-! What an operation does to symbols and state; when it is what an instruction does -/
def z_nx (op : ZO) (ν : List Int) (S : ZS) : List Int × ZS := match op with
  | (4, [o, x, y]) => (ν ++ [e_bin o.1 (o_v ν x) (o_v ν y)], S)
  | (5, [r, i, j, k]) => (ν ++ [S r.1 (o_v ν i) (o_v ν j) (o_v ν k)], S)
  | (6, [r, md, i, j, k, v]) => (ν, e_upd S r.1 (o_v ν i) (o_v ν j) (o_v ν k) (e_nar md.1 (o_v ν v)))
  | (8, []) => (ν ++ [S z_rA 0 0 0], e_upd S z_rA 0 0 0 (S z_rA 0 0 0 + 1))
  | (9, [r, x, y, sp, r', x', y', dp, m]) => (ν, e_acp S r.1 (o_v ν x) (o_v ν y) (o_v ν sp) r'.1 (o_v ν x') (o_v ν y') (o_v ν dp) (o_v ν m))
  | _ => (ν, S)
def z_nm (op : ZO) (nv : Nat) : Nat := if op.1 = 4 ∨ op.1 = 5 ∨ op.1 = 8 then nv + 1 else nv
def z_ald (i : Instr) : Bool := match i with
  | .iaload | .baload | .caload | .laload | .daload => true
  | _ => false
def z_ast (i : Instr) : Option Nat := match i with
  | .iastore | .lastore | .dastore => some 0
  | .bastore => some 1
  | .castore => some 2
  | _ => none
def z_top (nv : Nat) : ZV := (0, (nv + 1, 0), (0, 0))
def z_opA (own : Nat) (i : Instr) (pc : Nat) (bl : ZL) (bs : List ZV) (nv : Nat) (o x y : ZN) : Option (Nat × ZL × List ZV) := match i, bs with
  | .iinc k n, bs => (match bl[k]? with
    | some (some b) => if b.1 = 0 ∧ o.1 = 0 ∧ x = b.2.1 ∧ y = (0, n) then (z_sto 0 bl k (z_top nv)).map fun bl' => (pc + 3, bl', bs) else none
    | _ => none)
  | .invokestatic idx, v :: u :: bs => (match (a_of a_mat own).find? (fun e => e.1 == idx) with
    | some e => if (u.1 < 2 ∧ v.1 < 2) ∧ ((a_of a_inv own).find? (fun e => e.1 == idx && e.2.1 == 1)).isNone = true ∧ ¬ (own = 12 ∧ idx = 166) ∧ o.1 = (if e.2.1 = true then 8 else 7) ∧ x = u.2.1 ∧ y = v.2.1 then some (pc + 3, bl, z_top nv :: bs) else none
    | none => none)
  | i, bs => match z_bin i, bs with
    | some (c, true), v :: u :: bs => if (u.1 < 2 ∧ v.1 < 2) ∧ o.1 = c ∧ x = u.2.1 ∧ y = v.2.1 then some (pc + 1, bl, z_top nv :: bs) else none
    | some (c, false), u :: bs => if u.1 < 2 ∧ o.1 = c ∧ x = u.2.1 ∧ y = (0, 0) then some (pc + 1, bl, z_top nv :: bs) else none
    | _, _ => none
def z_opR (own : Nat) (i : Instr) (pc : Nat) (bl : ZL) (bs : List ZV) (nv : Nat) (r x y k : ZN) : Option (Nat × ZL × List ZV) := match i, bs with
  | .getfield idx, b :: bs => (match a_field own idx with
    | some (_, s) => if 2 ≤ b.1 ∧ z_slot (b.1 - 2) s 0 = some s ∧ r.1 = (b.1 - 2) * 64 + s ∧ x = b.2.1 ∧ y = b.2.2 ∧ k = (0, 0) then some (pc + 3, bl, z_top nv :: bs) else none
    | none => none)
  | .arraylength, b :: bs => if 2 ≤ b.1 ∧ z_isA (b.1 - 2) = true ∧ b.1 ≠ 53 ∧ r.1 = (b.1 - 2) * 64 + 63 ∧ x = b.2.1 ∧ y = b.2.2 ∧ k = (0, 0) then some (pc + 1, bl, z_top nv :: bs) else none
  | i, e :: b :: bs => if z_ald i = true ∧ 2 ≤ b.1 ∧ e.1 < 2 ∧ z_isA (b.1 - 2) = true ∧ r.1 = (b.1 - 2) * 64 ∧ x = b.2.1 ∧ y = b.2.2 ∧ k = e.2.1 then some (pc + 1, bl, z_top nv :: bs) else none
  | _, _ => none
def z_opW (own : Nat) (i : Instr) (pc : Nat) (bl : ZL) (bs : List ZV) (r md x y k w : ZN) : Option (Nat × ZL × List ZV) := match i, bs with
  | .putfield idx, v :: b :: bs => (match a_field own idx with
    | some (_, s) => if (v.1 < 2 ∧ 2 ≤ b.1) ∧ z_slot (b.1 - 2) s 0 = some s ∧ z_isA (b.1 - 2) = false ∧ z_po (b.1 - 2) s = none ∧ r.1 = (b.1 - 2) * 64 + s ∧ md.1 = 0 ∧ x = b.2.1 ∧ y = b.2.2 ∧ k = (0, 0) ∧ w = v.2.1 then some (pc + 3, bl, bs) else none
    | none => none)
  | i, v :: e :: b :: bs => (match z_ast i with
    | some m => if (v.1 < 2 ∧ e.1 < 2 ∧ 2 ≤ b.1) ∧ z_isA (b.1 - 2) = true ∧ z_pa (b.1 - 2) = none ∧ r.1 = (b.1 - 2) * 64 ∧ md.1 = m ∧ x = b.2.1 ∧ y = b.2.2 ∧ k = e.2.1 ∧ w = v.2.1 then some (pc + 1, bl, bs) else none
    | none => none)
  | _, _ => none
def z_opC (own : Nat) (i : Instr) (pc : Nat) (bl : ZL) (bs : List ZV) (r x y sp r' x' y' dp m : ZN) : Option (Nat × ZL × List ZV) := match i, bs with
  | .invokestatic idx, n :: d :: b :: s :: a :: bs => if (own = 12 ∧ idx = 166) ∧ ((a_of a_inv own).find? (fun e => e.1 == idx && e.2.1 == 1)).isNone = true ∧ ((a_of a_mat own).find? (fun e => e.1 == idx)).isNone = true ∧ (2 ≤ a.1 ∧ 2 ≤ b.1 ∧ n.1 < 2 ∧ d.1 < 2 ∧ s.1 < 2) ∧ (z_isA (a.1 - 2) = true ∧ z_isA (b.1 - 2) = true ∧ z_pa (b.1 - 2) = none) ∧ (r.1 = (a.1 - 2) * 64 ∧ x = a.2.1 ∧ y = a.2.2 ∧ sp = s.2.1) ∧ (r'.1 = (b.1 - 2) * 64 ∧ x' = b.2.1 ∧ y' = b.2.2 ∧ dp = d.2.1) ∧ m = n.2.1 then some (pc + 3, bl, bs) else none
  | _, _ => none
def z_op1 (own : Nat) (i : Instr) (pc : Nat) (bl : ZL) (bs : List ZV) (nv : Nat) (op : ZO) : Option (Nat × ZL × List ZV) := match op with
  | (4, [o, x, y]) => z_opA own i pc bl bs nv o x y
  | (5, [r, x, y, k]) => z_opR own i pc bl bs nv r x y k
  | (6, [r, md, x, y, k, w]) => z_opW own i pc bl bs r md x y k w
  | (8, []) => (match i, bs with
    | .newarray _, _ :: bs => some (pc + 2, bl, (53, (nv + 1, 0), (0, 0)) :: bs)
    | _, _ => none)
  | (9, [r, x, y, sp, r', x', y', dp, m]) => z_opC own i pc bl bs r x y sp r' x' y' dp m
  | _ => none
