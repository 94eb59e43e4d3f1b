/-! What makes cells, and the calls that the kit has rows for -/
def a_cat (st : List Value) : Nat := (st.map fun v => v.category).sum
def a_obj (c : Nat) : AC := (c, (List.range (a_cl c)).map (fun k => defaultValue (a_fty c k)))
def a_row (ty : FieldType) (n : Nat) : AC := (a_atag ty, List.replicate n (defaultValue ty))
def a_cnt (n : Int32) : Option Nat := if n < 0 ∨ 60000 < n.toNatClampNeg then none else some n.toNatClampNeg
def a_tyok (ty : FieldType) : Bool := decide (a_aty (a_atag ty) = some ty) && decide (a_atag ty ≠ 19)
def a_st5 (own : Nat) (i : Instr) (pc : Nat) (al : AL) (st : List Value) (h : AH) : Option AS := match i, st with
  | .new idx, st => ((a_of a_new own).find? (fun e => e.1 == idx)).map (fun e => (pc + 3, al, .ref h.length :: st, h ++ [a_obj e.2.1], 1, a_cl e.2.1))
  | .newarray t, .int n :: st => if a_tyok (Op.newarray.typeOf t) = true then (a_cnt n).map (fun k => (pc + 2, al, .ref h.length :: st, h ++ [a_row (Op.newarray.typeOf t) k], 1, k)) else none
  | .anewarray idx, .int n :: st => match (a_of a_arr own).find? (fun e => e.1 == idx) with
    | some e => if a_tyok (.object e.2.1) = true then (a_cnt n).map (fun k => (pc + 3, al, .ref h.length :: st, h ++ [a_row (.object e.2.1) k], 1, k)) else none
    | none => none
  | .aastore, .ref v :: .int j :: .ref a :: st => match h[a]? with
    | some (t, vs) => match h[v]? with
      | some (u, _) => if u < 12 ∧ t ≠ 19 ∧ a_aty t = some (.object (a_cN u)) then (a_ix j vs.length).map (fun n => (pc + 1, al, st, h.set a (t, vs.set n (.ref v)), 0, 0)) else none
      | none => none
    | none => none
  | .invokespecial idx, .ref _ :: st => if ((a_of a_oin own).find? (fun e => e.1 == idx)).isSome = true ∧ a_cat st ≤ 8 then some (pc + 3, al, st, h, 0, 0) else none
  | .invokestatic idx, .int y :: .int x :: st => match (a_of a_mat own).find? (fun e => e.1 == idx) with
    | some e => if a_cat st ≤ 8 then some (pc + 3, al, .int (if e.2.1 = true then (if x < y then y else x) else (if y < x then y else x)) :: st, h, 0, 0) else none
    | none => none
  | _, _ => none
theorem a_new_ok : a_all a_new (fun own e => a_at e.2.2.1 (.classLink (a_cN own) e.1 (a_cN e.2.1)) && (a_at e.2.2.2.1 (.instantiable (a_cN e.2.1) (a_cl e.2.1)) && (a_at e.2.2.2.2 (.initialized (a_cN e.2.1)) && decide (e.2.1 < 12)))) = true := by decide +kernel
theorem a_arr_ok : a_all a_arr (fun own e => a_at e.2.2 (.classLink (a_cN own) e.1 e.2.1)) = true := by decide +kernel
theorem a_oin_ok : a_all a_oin (fun own e => a_at e.2 (.methodLink (a_cN own) e.1 objectInit)) = true := by decide +kernel
theorem a_mat_ok : a_all a_mat (fun own e => a_at e.2.2 (.methodLink (a_cN own) e.1 (if e.2.1 = true then Lib.Math.max.name else Lib.Math.min.name))) = true := by decide +kernel
def a_fixW : List Cond := [.instanceMethod objectInit, .code objectInit ⟨#[0xb1]⟩ 1 none, .static Lib.Math.min.name, .code Lib.Math.min.name Lib.Math.min.code 2 (some .int), .static Lib.Math.max.name, .code Lib.Math.max.name Lib.Math.max.code 2 (some .int), .initialized "java/lang/Math", .arrayClass .int, .arrayClass .boolean, .arrayClass .char]
theorem a_fix_ok : ∀ w ∈ a_fixW, w ∈ lw_tbl ∧ goodWord w = true := by decide +kernel
theorem a_fix {w : Cond} (h : w ∈ a_fixW) : w ∈ a_wG := a_wG_of (a_fix_ok w h).1 (a_fix_ok w h).2
