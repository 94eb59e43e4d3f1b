/-! An abstract machine: a heap is a list of (tag, contents), a reference is a place in it. Tags: below 19 an object of that class, 19 the script, from 20 on an array (a_aty). -/
abbrev AC : Type := Nat × List Value
abbrev AH : Type := List AC
abbrev AL : Type := List (Option Value)
/-- what a run of a method comes to: its result or the exception's number, the heap, cells and slots made -/
abbrev AR : Type := ((Option Value) ⊕ Nat) × AH × Nat × Nat
def a_cN (c : Nat) : String := (a_cls.getD c ("", [])).1
def a_cF (c : Nat) : List (String × String × Bool) := (a_cls.getD c ("", [])).2
def a_cT (c : Nat) : u_T := fun k => match (a_cF c)[k]? with
  | some (n, d, f) => (a_cN c, n, d, f)
  | none => ("", "", "", false)
def a_cl (c : Nat) : Nat := (a_cF c).length
def a_ty (d : String) : FieldType := (parseFieldDescriptor d).getD .int
def a_fty (c k : Nat) : FieldType := a_ty (a_cT c k).2.2.1
def a_atys : List FieldType := [.int, .int, .boolean, .char, .int, .int, .object "Juryreel$Film", .object "Juryreel$Show", .object "Juryreel$Juror", .object "Juryreel$Section", .array .int, .array .boolean, .int, .int]
/-- the component type of the arrays of a tag -/
def a_aty (t : Nat) : Option FieldType := if t < 19 then none else a_atys[t - 19]?
def a_atag (ty : FieldType) : Nat := 20 + (a_atys.tail.idxOf ty)
def a_ren (ad : Nat → Nat) : Value → Value
  | .ref a => .ref (ad a)
  | v => v
def a_get (al : AL) (i : Nat) : Option Value := (al[i]?).getD none
/-- a store at i takes away a wide value that begins one place below -/
def a_kill (al : AL) (i : Nat) : AL := match i with
  | 0 => al
  | j + 1 => if (a_get al j).any (fun v => v.category == 2) then al.set j none else al
def a_set1 (al : AL) (i : Nat) (v : Value) : AL := (a_kill al i).set i (some v)
def a_set2 (al : AL) (i : Nat) (v : Value) : AL := ((a_kill al i).set i (some v)).set (i + 1) none
def a_sto (al : AL) (i : Nat) (v : Value) : Option AL :=
  if v.category = 2 then (if i + 1 < al.length then some (a_set2 al i v) else none) else (if i < al.length then some (a_set1 al i v) else none)
def a_tgt (pc : Nat) (off : Int) : Option Nat := if 0 ≤ (pc : Int) + off then some ((pc : Int) + off).toNat else none
def a_br (pc : Nat) (b : Bool) (off : Int) : Option Nat := (a_tgt pc off).map (fun t => if b = true then t else pc + 3)
def a_if1 (c : Jvm.ClassFile.Cond) (x : Int32) : Bool := match c with
  | .eq => decide (x = 0)
  | .ne => !decide (x = 0)
  | .lt => decide (x < 0)
  | .ge => decide (0 ≤ x)
  | .gt => decide (0 < x)
  | .le => decide (x ≤ 0)
def a_if2 (c : Jvm.ClassFile.Cond) (x y : Int32) : Bool := match c with
  | .eq => decide (x = y)
  | .ne => !decide (x = y)
  | .lt => decide (x < y)
  | .ge => decide (y ≤ x)
  | .gt => decide (y < x)
  | .le => decide (x ≤ y)
/-- int arithmetic: x below y on the stack -/
def a_bin (i : Instr) (x y : Int32) : Option Int32 := match i with
  | .iadd => some (x + y)
  | .isub => some (x - y)
  | .imul => some (x * y)
  | .iand => some (x &&& y)
  | .ior => some (x ||| y)
  | .ixor => some (x ^^^ y)
  | .iushr => some (x.toUInt32 >>> (y.toUInt32 &&& Int32.toUInt32 31)).toInt32
  | .idiv => if y = 0 then none else some (x / y)
  | .irem => if y = 0 then none else some (x - x / y * y)
  | _ => none
def a_const (i : Instr) : Option Value := match i with
  | .iconst n => some (.int (Int32.ofInt n))
  | .bipush n => some (.int (Int8.ofInt n).toInt32)
  | .sipush n => some (.int (Int16.ofInt n).toInt32)
  | .lconst n => some (.long (Int64.ofNat (n : Nat)))
  | .fconst n => if n = 0 then some (.float FP.fconst0) else none
  | .dconst n => if n = 0 then some (.double FP.dconst0) else none
  | _ => none
/-- loads: the local, and its kind (0 int, 1 long, 2 float, 3 double, 4 reference) -/
def a_load (i : Instr) : Option (Nat × Nat) := match i with
  | .iload k => some (k, 0)
  | .iload_n k => some ((k : Nat), 0)
  | .lload k => some (k, 1)
  | .lload_n k => some ((k : Nat), 1)
  | .fload k => some (k, 2)
  | .dload k => some (k, 3)
  | .aload k => some (k, 4)
  | .aload_n k => some ((k : Nat), 4)
  | _ => none
def a_store (i : Instr) : Option (Nat × Nat) := match i with
  | .istore k => some (k, 0)
  | .istore_n k => some ((k : Nat), 0)
  | .lstore k => some (k, 1)
  | .lstore_n k => some ((k : Nat), 1)
  | .fstore k => some (k, 2)
  | .dstore k => some (k, 3)
  | .astore k => some (k, 4)
  | .astore_n k => some ((k : Nat), 4)
  | _ => none
def a_kind (v : Value) : Nat := match v with
  | .int _ => 0
  | .long _ => 1
  | .float _ => 2
  | .double _ => 3
  | .ref _ => 4
  | _ => 5
/-- a list of a table that belongs to a class -/
def a_of {α : Type} (t : List (List α)) (own : Nat) : List α := t.getD own []
def a_field (own idx : Nat) : Option (Nat × Nat) := ((a_of a_fld own).find? (fun e => e.1 == idx)).map (fun e => (e.2.1, e.2.2.1))
/-- the places of an array that an index names -/
def a_ix (j : Int32) (n : Nat) : Option Nat := if j < 0 ∨ n ≤ j.toNatClampNeg then none else some j.toNatClampNeg
/-- which tags an array load or store of this kind takes, and what is written of x -/
def a_ald (i : Instr) (t : Nat) : Bool := match i with
  | .iaload => decide (a_aty t = some .int)
  | .baload => decide (a_aty t = some .boolean)
  | .caload => decide (a_aty t = some .char)
  | .laload => decide (a_aty t = some .long)
  | .daload => decide (a_aty t = some .double)
  | .aaload => (a_aty t).any FieldType.isReference
  | _ => false
def a_ast (i : Instr) (t : Nat) (x : Value) : Option Value := match i, x with
  | .iastore, .int x => if t ≠ 19 ∧ a_aty t = some .int then some (.int x) else none
  | .bastore, .int x => if a_aty t = some .boolean then some (narrow .boolean (.int x)) else none
  | .castore, .int x => if a_aty t = some .char then some (narrow .char (.int x)) else none
  | .lastore, .long x => if a_aty t = some .long then some (.long x) else none
  | .dastore, .double x => if a_aty t = some .double then some (.double x) else none
  | _, _ => none
def a_len (i : Instr) : Nat := match i with
  | .bipush _ | .ldc _ | .iload _ | .lload _ | .fload _ | .dload _ | .aload _ | .istore _ | .lstore _ | .fstore _ | .dstore _ | .astore _ | .newarray _ => 2
  | .sipush _ | .ldc_w _ | .ldc2_w _ | .getfield _ | .putfield _ | .invokevirtual _ | .invokestatic _ | .invokespecial _ | .new _ | .anewarray _ | .goto _ | .ifCond .. | .if_icmp .. | .if_acmp .. | .iinc .. => 3
  | .multianewarray .. => 4
  | _ => 1
abbrev AS : Type := Nat × AL × List Value × AH × Nat × Nat
/-- constants, locals, jumps, the stack -/
def a_st1 (i : Instr) (pc : Nat) (al : AL) (st : List Value) (h : AH) : Option AS :=
  match a_const i with
  | some v => some (pc + a_len i, al, v :: st, h, 0, 0)
  | none => match a_load i with
  | some (k, kd) => match a_get al k with
    | some v => if a_kind v = kd then some (pc + a_len i, al, v :: st, h, 0, 0) else none
    | none => none
  | none => match a_store i with
  | some (k, kd) => match st with
    | v :: st => if a_kind v = kd then (a_sto al k v).map (fun al' => (pc + a_len i, al', st, h, 0, 0)) else none
    | [] => none
  | none => match i, st with
  | .iinc k n, st => match a_get al k with
    | some (.int x) => (a_sto al k (.int (x + Int32.ofInt n))).map (fun al' => (pc + 3, al', st, h, 0, 0))
    | _ => none
  | .goto off, st => (a_tgt pc off).map (fun t => (t, al, st, h, 0, 0))
  | .ifCond c off, .int x :: st => (a_br pc (a_if1 c x) off).map (fun t => (t, al, st, h, 0, 0))
  | .if_icmp c off, .int y :: .int x :: st => (a_br pc (a_if2 c x y) off).map (fun t => (t, al, st, h, 0, 0))
  | .if_acmp .eq off, .ref y :: .ref x :: st => if x < h.length ∧ y < h.length then (a_br pc (decide (x = y)) off).map (fun t => (t, al, st, h, 0, 0)) else none
  | .dup, v :: st => if v.category = 1 then some (pc + 1, al, v :: v :: st, h, 0, 0) else none
  | .dup2, v :: u :: st => if v.category = 1 ∧ u.category = 1 then some (pc + 1, al, v :: u :: v :: u :: st, h, 0, 0) else none
  | .pop, v :: st => if v.category = 1 then some (pc + 1, al, st, h, 0, 0) else none
  | _, _ => none
/-- arithmetic -/
def a_st2 (i : Instr) (pc : Nat) (al : AL) (st : List Value) (h : AH) : Option AS := match i, st with
  | .i2l, .int x :: st => some (pc + 1, al, .long x.toInt64 :: st, h, 0, 0)
  | .i2c, .int x :: st => some (pc + 1, al, .int (x.toUInt32 % 65536).toInt32 :: st, h, 0, 0)
  | .i2f, .int x :: st => some (pc + 1, al, .float (FP.i2f x) :: st, h, 0, 0)
  | .i2d, .int x :: st => some (pc + 1, al, .double (FP.i2d x) :: st, h, 0, 0)
  | .f2d, .float x :: st => if FP.f2d x &&& 0x7fffffffffffffff ≤ 0x7ff0000000000000 then some (pc + 1, al, .double (FP.f2d x) :: st, h, 0, 0) else none
  | .ladd, .long y :: .long x :: st => some (pc + 1, al, .long (x + y) :: st, h, 0, 0)
  | .lmul, .long y :: .long x :: st => some (pc + 1, al, .long (x * y) :: st, h, 0, 0)
  | .lcmp, .long y :: .long x :: st => some (pc + 1, al, .int (lg_cmp x y) :: st, h, 0, 0)
  | .fdiv, .float y :: .float x :: st => if FP.fdiv x y &&& 0x7fffffff ≤ 0x7f800000 then some (pc + 1, al, .float (FP.fdiv x y) :: st, h, 0, 0) else none
  | .ddiv, .double y :: .double x :: st => if FP.ddiv x y &&& 0x7fffffffffffffff ≤ 0x7ff0000000000000 then some (pc + 1, al, .double (FP.ddiv x y) :: st, h, 0, 0) else none
  | .fcmp op, .float y :: .float x :: st => some (pc + 1, al, .int (Op.cmpValue (FP.fcmp x y) op) :: st, h, 0, 0)
  | .dcmp op, .double y :: .double x :: st => some (pc + 1, al, .int (Op.cmpValue (FP.dcmp x y) op) :: st, h, 0, 0)
  | i, .int y :: .int x :: st => (a_bin i x y).map (fun v => (pc + 1, al, .int v :: st, h, 0, 0))
  | _, _ => none
/-- array loads -/
def a_st3 (i : Instr) (pc : Nat) (al : AL) (st : List Value) (h : AH) : Option AS := match st with
  | .int j :: .ref a :: st => match h[a]? with
    | some (t, vs) => if a_ald i t = true then (a_ix j vs.length).bind (fun n => (vs[n]?).map (fun v => (pc + 1, al, v :: st, h, 0, 0))) else none
    | none => none
  | _ => none
/-- array stores, an array's length, fields, constants out of the pool -/
def a_st4 (own : Nat) (ini : Bool) (i : Instr) (pc : Nat) (al : AL) (st : List Value) (h : AH) : Option AS := match i, st with
  | .arraylength, .ref a :: st => match h[a]? with
    | some (t, vs) => if (a_aty t).isSome then some (pc + 1, al, .int vs.length.toInt32 :: st, h, 0, 0) else none
    | none => none
  | .ldc idx, st => ((a_of a_cst own).find? (fun e => e.1 == idx)).map (fun e => (pc + 2, al, .int e.2.1 :: st, h, 0, 0))
  | .ldc_w idx, st => ((a_of a_cst own).find? (fun e => e.1 == idx)).map (fun e => (pc + 3, al, .int e.2.1 :: st, h, 0, 0))
  | .ldc2_w idx, st => ((a_of a_csl own).find? (fun e => e.1 == idx)).map (fun e => (pc + 3, al, .long e.2.1 :: st, h, 0, 0))
  | .getfield idx, .ref a :: st => match a_field own idx with
    | some (ci, k) => match h[a]? with
      | some (t, vs) => if t = ci then (vs[k]?).map (fun v => (pc + 3, al, v :: st, h, 0, 0)) else none
      | none => none
    | none => none
  | .putfield idx, v :: .ref a :: st => match a_field own idx with
    | some (ci, k) => match h[a]? with
      | some (t, vs) => if t = ci ∧ k < vs.length ∧ narrow (a_fty ci k) v = v ∧ fits (a_fty ci k) v = true ∧ ((a_cT ci k).2.2.2 = false ∨ (ini = true ∧ own = ci)) then some (pc + 3, al, st, h.set a (t, vs.set k v), 0, 0) else none
      | none => none
    | none => none
  | i, x :: .int j :: .ref a :: st => match h[a]? with
    | some (t, vs) => match a_ast i t x with
      | some v => (a_ix j vs.length).map (fun n => (pc + 1, al, st, h.set a (t, vs.set n v), 0, 0))
      | none => none
    | none => none
  | _, _ => none
