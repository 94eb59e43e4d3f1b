/-! A method's code from a place on is a program -/
def z_sb (xs : List ZN) (x : ZN) : Option ZN := match x.1 with
  | 0 => some x
  | n + 1 => xs[n]?
def z_mt1 (xs : List ZN) (p b : ZV) : Bool := p.1 == b.1 && (z_sb xs p.2.1 == some b.2.1 && (if p.1 < 2 then p.2.2.1 == 0 else z_sb xs p.2.2 == some b.2.2))
def z_mtL (xs : List ZN) : ZL → ZL → Bool
  | [], [] => true
  | none :: ps, _ :: bs => z_mtL xs ps bs
  | some p :: ps, some b :: bs => z_mt1 xs p b && z_mtL xs ps bs
  | _, _ => false
def z_mtA (xs : List ZN) : List ZV → List ZV → Bool
  | [], [] => true
  | p :: ps, b :: bs => z_mt1 xs p b && z_mtA xs ps bs
  | _, _ => false
/-- cuts: places with how many symbols there are, and what the locals are there -/
abbrev ZC : Type := List (Nat × Nat × ZL)
/-- methods that are called, with how many symbols their arguments have, and these -/
abbrev ZM : Type := List (Nat × Nat × List ZV)
def z_sg (C : ZC) (pc : Nat) : Option (Nat × ZL) := (C.find? (fun e => e.1 == pc)).map (fun e => e.2)
def z_ps (A : ZM) (mt : Nat) : Option (Nat × List ZV) := (A.find? (fun e => e.1 == mt)).map (fun e => e.2)
def z_cal (own : Nat) (i : Instr) (bs : List ZV) : Option (Nat × List ZV × List ZV) := match i with
  | .invokevirtual idx => match (a_of a_inv own).find? (fun e => e.1 == idx && e.2.1 == 0) with
    | some e => if a_nrg e.2.2.1 ≤ bs.length then some (e.2.2.1, (bs.take (a_nrg e.2.2.1)).reverse, bs.drop (a_nrg e.2.2.1)) else none
    | none => none
  | .invokestatic idx => match (a_of a_inv own).find? (fun e => e.1 == idx && e.2.1 == 1) with
    | some e => if a_nrg e.2.2.1 ≤ bs.length ∧ ((a_of a_mat own).find? (fun e => e.1 == idx)).isNone = true ∧ ¬ (own = 12 ∧ idx = 166) then some (e.2.2.1, (bs.take (a_nrg e.2.2.1)).reverse, bs.drop (a_nrg e.2.2.1)) else none
    | none => none
  | _ => none
def z_res (mt nv : Nat) : List ZV := if a_rty mt = none then [] else [z_top nv]
/-- the condition of a branch: its code, its operands, where to, what stays -/
def z_cc (c : Jvm.ClassFile.Cond) : Nat := match c with
  | .eq => 0
  | .ne => 1
  | .lt => 2
  | .ge => 3
  | .gt => 4
  | .le => 5
def z_cnd (i : Instr) (pc : Nat) (bs : List ZV) : Option (Nat × ZN × ZN × Nat × List ZV) := match i, bs with
  | .ifCond c off, x :: bs => if x.1 < 2 then (a_tgt pc off).map fun t => (z_cc c, x.2.1, (0, 0), t, bs) else none
  | .if_icmp c off, y :: x :: bs => if x.1 < 2 ∧ y.1 < 2 then (a_tgt pc off).map fun t => (z_cc c, x.2.1, y.2.1, t, bs) else none
  | .if_acmp .eq off, y :: x :: bs => if 2 ≤ x.1 ∧ y.1 = x.1 ∧ x.2.2 = (0, 0) ∧ y.2.2 = (0, 0) then (a_tgt pc off).map fun t => (0, x.2.1, y.2.1, t, bs) else none
  | _, _ => none
def z_isE (i : Instr) : Bool := match i with
  | .ireturn | .lreturn | .freturn | .dreturn => true
  | _ => false
/-- an end: what is returned or thrown -/
def z_end (mi pc : Nat) (i : Instr) (bs : List ZV) (op : ZO) : Bool := match op with
  | (0, []) => (match i with
    | .return_ => true
    | _ => false)
  | (0, [x]) => z_isE i && (match bs with
    | [b] => decide (b.1 < 2) && x == b.2.1
    | _ => false)
  | (1, [k]) => (match i with
    | .new _ => decide (bs.length ≤ 4) && (k.1 < 900 && (a_thr.find? (fun r => r.1 == mi && r.2.1 == pc)).map (fun r => r.2.2.2.2.2.2.2.1) == some k.1)
    | _ => false)
  | _ => false
def z_tgts (C : ZC) (pc : Nat) (xs : List ZN) (bl : ZL) (off : Int) (t : Nat) : Bool := a_tgt pc off == some t && (match z_sg C t with
  | some (k, sg) => decide (xs.length = k) && z_mtL xs sg bl
  | none => false)
def z_all2 (f : Int → Nat → Bool) : List Int → List ZN → Bool
  | [], [] => true
  | o :: os, t :: ts => f o t.1 && z_all2 f os ts
  | _, _ => false
/-- a switch -/
def z_swc (C : ZC) (pc : Nat) (i : Instr) (bl : ZL) (bs : List ZV) (op : ZO) : Bool := match op, i, bs with
  | (10, x :: lo :: m :: d :: xs), .tableswitch dflt l hi offs, [b] => decide (b.1 < 2) && (x == b.2.1 && (decide (lo.2 = l) && (decide (hi = l + (offs.toList.length : Int) - 1) && (decide (m.1 = offs.toList.length) && (decide (m.1 ≤ xs.length) && (z_tgts C pc (xs.drop m.1) bl dflt d.1 && z_all2 (fun o t => z_tgts C pc (xs.drop m.1) bl o t) offs.toList (xs.take m.1)))))))
  | _, _, _ => false
/-- the handlers of a call's exceptions -/
def z_hnd (mi pc : Nat) (hs : List ZN) : Bool := (a_hnd mi).all fun x => !(decide (x.1 ≤ pc) && decide (pc < x.2.1)) || hs.any fun e => e.1 == x.2.2.2.2.1
section FZ
variable {β : Type}
def f_zn (b : ZN) (k : ZN → β) : β := match b with
  | (x, y) => f_n x fun x => f_z y fun y => k (x, y)
def f_zv (b : ZV) (k : ZV → β) : β := match b with
  | (x, y, w) => f_n x fun x => f_zn y fun y => f_zn w fun w => k (x, y, w)
def f_zo (b : Option ZV) (k : Option ZV → β) : β := match b with
  | none => k none
  | some b => f_zv b fun b => k (some b)
theorem f_zn_eq (b : ZN) (k : ZN → β) : f_zn b k = k b := by
  obtain ⟨x, y⟩ := b
  simp only [f_zn, f_n_eq, f_z_eq]
theorem f_zv_eq (b : ZV) (k : ZV → β) : f_zv b k = k b := by
  obtain ⟨x, y, w⟩ := b
  simp only [f_zv, f_n_eq, f_zn_eq]
theorem f_zo_eq (b : Option ZV) (k : Option ZV → β) : f_zo b k = k b := by
  cases b with
  | none => rfl
  | some b => simp only [f_zo, f_zv_eq]
def f_zs (pc : Nat) (bl : ZL) (bs : List ZV) (k : Nat → ZL → List ZV → β) : β := f_n pc fun pc => f_l f_zo bl fun bl => f_l f_zv bs fun bs => k pc bl bs
theorem f_zs_eq (pc : Nat) (bl : ZL) (bs : List ZV) (k : Nat → ZL → List ZV → β) : f_zs pc bl bs k = k pc bl bs := by
  simp only [f_zs, f_n_eq, f_l_eq f_zo_eq, f_l_eq f_zv_eq]
end FZ
/-- a branch on what is known -/
def z_cc0 (o : Option (Nat × ZN × ZN × Nat × List ZV)) (pc : Nat) : Option (Nat × List ZV) := match o with
  | some (c, (0, z), (0, z'), t, bs) => some (if e_cmp c z z' = true then t else pc + 3, bs)
  | _ => none
/-- from a place on: (fuel, whether it may stand at a cut, fuel of the program, the program, place, locals, stack, how many symbols) -/
noncomputable def z_go (C : ZC) (A : ZM) (I : List (Nat × Nat)) (mi : Nat) : Nat → Bool → Nat → List ZO → Nat → ZL → List ZV → Nat → Bool
  | 0, _, _, _, _, _, _, _ => false
  | g + 1, first, n, p, pc, bl, bs, nv => match (if first = true then none else z_sg C pc) with
    | some (k, sg) => (match n, p, bs with
      | _ + 1, (2, q :: xs) :: _, [] => decide (q.1 = pc ∧ xs.length = k) && z_mtL xs sg bl
      | _, _, _ => false)
    | none => match a_ins mi pc with
      | none => false
      | some (i, len) => match z_mv (a_own mi) i pc bl bs with
        | some (pc', bl', bs') => f_zs pc' bl' bs' fun pc' bl' bs' => z_go C A I mi g false n p pc' bl' bs' nv
        | none => match z_cc0 (z_cnd i pc bs) pc with
        | some (pc', bs') => f_zs pc' bl bs' fun pc' bl' bs' => z_go C A I mi g false n p pc' bl' bs' nv
        | none => match n, p with
          | n + 1, op :: p => (match z_op1 (a_own mi) i pc bl bs nv op with
            | some (pc', bl', bs') => f_zs pc' bl' bs' fun pc' bl' bs' => f_n (z_nm op nv) fun nv' => z_go C A I mi g false n p pc' bl' bs' nv'
            | none => z_end mi pc i bs op || (z_swc C pc i bl bs op || (match op with
              | (3, [c, sk, x, y]) => (match z_cnd i pc bs with
                | some (c', x', y', t, bs') => (decide (c.1 = c') && (x == x' && y == y')) && (f_n (pc + 3) fun pc3 => z_go C A I mi g false n p t bl bs' nv && z_go C A I mi g false n (p.drop sk.1) pc3 bl bs' nv)
                | none => false)
              | (7, mt :: xs) => (match z_cal (a_own mi) i bs with
                | some (m, as, rest) => (match z_ps A m with
                  | some (k, ps) => (decide (mt.1 = m ∧ xs.length = k) && ((a_hnd mi).isEmpty && z_mtA xs ps as)) && f_zs (pc + 3) bl (z_res m nv ++ rest) fun pc' bl' bs' => f_n (nv + 1) fun nv' => z_go C A I mi g false n p pc' bl' bs' nv'
                  | none => false)
                | none => false)
              | (13, mt :: kk :: xs) => (match z_cal (a_own mi) i bs with
                | some (m, as, rest) => (match z_ps A m with
                  | some (k, ps) => ((decide (mt.1 = m ∧ xs.length = k) && ((a_hnd mi).isEmpty && z_mtA xs ps as)) && (I.contains (mt.1, kk.1) && (decide (a_rty m ≠ none) && decide ((xs.getD kk.1 (0, 0)).1 ≤ nv)))) && f_zs (pc + 3) bl ((0, xs.getD kk.1 (0, 0), (0, 0)) :: rest) fun pc' bl' bs' => z_go C A I mi g false n p pc' bl' bs' nv
                  | none => false)
                | none => false)
              | (11, mt :: m :: xs) => (match z_cal (a_own mi) i bs with
                | some (m', as, rest) => (match z_ps A m' with
                  | some (k, ps) => ((decide (mt.1 = m' ∧ (xs.drop m.1).length = k) && ((!(a_hnd mi).isEmpty) && z_mtA (xs.drop m.1) ps as)) && z_hnd mi pc (xs.take m.1)) && ((xs.take m.1).all fun e => match a_cth mi pc e.1 with
                    | some x => (match a_hdl mi x.2.2.1 with
                      | some (hp, k) => decide (k < bl.length) && z_go C A I mi g false n (p.drop e.2.toNat) hp ((z_kill bl k).set k none) [] nv
                      | none => false)
                    | none => false) && f_zs (pc + 3) bl (z_res m' nv ++ rest) fun pc' bl' bs' => f_n (nv + 1) fun nv' => z_go C A I mi g false n p pc' bl' bs' nv'
                  | none => false)
                | none => false)
              | _ => false)))
          | _, _ => false
