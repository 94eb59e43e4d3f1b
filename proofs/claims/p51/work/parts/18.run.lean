/-! The abstract machine's run of a method -/
def a_sw (i : Instr) (pc : Nat) (al : AL) (st : List Value) (h : AH) : Option AS := match i, st with
  | .tableswitch dflt lo hi offs, .int x :: st =>
    if x.toInt < lo ∨ hi < x.toInt then (a_tgt pc dflt).map (fun t => (t, al, st, h, 0, 0))
    else (offs[(x.toInt - lo).toNat]?).bind (fun off => (a_tgt pc off).map (fun t => (t, al, st, h, 0, 0)))
  | _, _ => none
def a_stp (own : Nat) (ini : Bool) (i : Instr) (len : Nat) (pc : Nat) (al : AL) (st : List Value) (h : AH) : Option AS :=
  match a_sw i pc al st h with
  | some r => some r
  | none => if len = a_len i then
    match a_st1 i pc al st h with
    | some r => some r
    | none => match a_st4 own ini i pc al st h with
    | some r => some r
    | none => match a_st2 i pc al st h with
    | some r => some r
    | none => match a_st3 i pc al st h with
    | some r => some r
    | none => match a_st5 own i pc al st h with
    | some r => some r
    | none => a_st6 own i pc al st h
    else none
abbrev AM : Type := Nat × String × String × Nat × Option FieldType × Nat × List (Nat × Nat × Nat × Nat × Nat × Nat × Nat) × (Nat × Nat)
theorem a_getD2 {α : Type} {C : List (List α)} {q r : Nat} {d : α} : (C.getD q []).getD r d ∈ C.flatten ∨ (C.getD q []).getD r d = d := by
  cases h1 : C[q]? with
  | none =>
    right
    have e : C.getD q [] = [] := by rw [List.getD_eq_getElem?_getD, h1]; rfl
    rw [e]
    rfl
  | some l =>
    have e : C.getD q [] = l := by rw [List.getD_eq_getElem?_getD, h1]; rfl
    rw [e]
    cases h2 : l[r]? with
    | none =>
      right
      rw [List.getD_eq_getElem?_getD, h2]
      rfl
    | some x =>
      left
      have e2 : l.getD r d = x := by rw [List.getD_eq_getElem?_getD, h2]; rfl
      rw [e2]
      exact List.mem_flatten.mpr ⟨l, List.mem_of_getElem? h1, List.mem_of_getElem? h2⟩
def a_mrow (mi : Nat) : AM := (a_mthC.getD (mi / 16) []).getD (mi % 16) (0, "", "", 0, none, 0, [], (0, 0))
noncomputable def a_prow (mi : Nat) : ByteArray × List (Nat × Instr × Nat) := (a_progC.getD (mi / 20) []).getD (mi % 20) (⟨#[]⟩, [])
theorem a_prow_in {mi : Nat} {e : Nat × Instr × Nat} (h : e ∈ (a_prow mi).2) : a_prow mi ∈ a_prog := by
  have hp : a_prog = a_progC.flatten := by
    simp only [a_progC, a_prog, List.flatten_cons, List.flatten_nil, List.append_nil]
  rw [hp]
  have h0 : a_prow mi ∈ a_progC.flatten ∨ a_prow mi = (⟨#[]⟩, []) := a_getD2
  rcases h0 with k | k
  · exact k
  · rw [k] at h
    cases h
def a_own (mi : Nat) : Nat := (a_mrow mi).1
def a_nam (mi : Nat) : String := (a_mrow mi).2.1
def a_dsc (mi : Nat) : String := (a_mrow mi).2.2.1
def a_mxl (mi : Nat) : Nat := (a_mrow mi).2.2.2.1
def a_rty (mi : Nat) : Option FieldType := (a_mrow mi).2.2.2.2.1
def a_nrg (mi : Nat) : Nat := (a_mrow mi).2.2.2.2.2.1
def a_hnd (mi : Nat) : List (Nat × Nat × Nat × Nat × Nat × Nat × Nat) := (a_mrow mi).2.2.2.2.2.2.1
def a_y (mi : Nat) : MethodName := ⟨a_cN (a_own mi), a_nam mi, a_dsc mi⟩
def a_ini (mi : Nat) : Bool := a_nam mi == "<init>"
noncomputable def a_codeL (mi : Nat) : List (Nat × Instr × Nat) := if mi = 96 then a_lawP else (a_prow mi).2
noncomputable def a_codeB (mi : Nat) : ByteArray := if mi = 96 then code else (a_prow mi).1
def a_lawC : List (Nat × List (Nat × Instr × Nat)) := [(76, a_law_0), (143, a_law_1), (220, a_law_2), (297, a_law_3), (369, a_law_4), (444, a_law_5), (521, a_law_6), (591, a_law_7), (673, a_law_8), (745, a_law_9), (812, a_law_10), (890, a_law_11), (972, a_law_12), (1040, a_law_13), (1126, a_law_14), (1204, a_law_15), (1280, a_law_16), (1359, a_law_17), (1437, a_law_18), (1520, a_law_19), (1594, a_law_20), (1674, a_law_21), (100000, a_law_22)]
/-- the law's instruction at a place: first the chunk, then the place in it -/
def a_insL (pc : Nat) : Option (Instr × Nat) := match a_lawC.find? (fun c => Nat.blt pc c.1) with
  | some c => (c.2.find? (fun e => Nat.beq e.1 pc)).map (fun e => e.2)
  | none => none
noncomputable def a_ins (mi pc : Nat) : Option (Instr × Nat) := bif Nat.beq mi 96 then a_insL pc else ((a_prow mi).2.find? (fun e => Nat.beq e.1 pc)).map (fun e => e.2)
/-- the method's end: what it answers -/
def a_end (mi : Nat) (i : Instr) (st : List Value) : Option (Option Value) := match i, st with
  | .return_, [] => if a_rty mi = none then some none else none
  | .ireturn, [.int v] => match a_rty mi with
    | some ty => if narrow ty (.int v) = .int v then some (some (.int v)) else none
    | none => none
  | .lreturn, [.long v] => if a_rty mi = some .long then some (some (.long v)) else none
  | .freturn, [.float v] => if a_rty mi = some .float then some (some (.float v)) else none
  | .dreturn, [.double v] => if a_rty mi = some .double then some (some (.double v)) else none
  | _, _ => none
/-- 'throw new E("text")' begins here: E's number -/
def a_trw (mi pc : Nat) (i : Instr) (st : List Value) : Option Nat := match i with
  | .new _ => if a_cat st ≤ 8 then (a_thr.find? (fun r => r.1 == mi && r.2.1 == pc)).map (fun r => r.2.2.2.2.2.2.2.1) else none
  | _ => none
/-- a call: the method, its arguments, what stays on the stack -/
def a_call (own : Nat) (i : Instr) (st : List Value) (h : AH) : Option (Nat × List Value × List Value) := match i with
  | .invokevirtual idx => match (a_of a_inv own).find? (fun e => e.1 == idx && e.2.1 == 0) with
    | some e => if a_nrg e.2.2.1 ≤ st.length ∧ a_cat (st.drop (a_nrg e.2.2.1)) ≤ 8 then
        (match (st.take (a_nrg e.2.2.1)).reverse with
        | .ref a :: as => (match h[a]? with
          | some (t, _) => if t = a_own e.2.2.1 then some (e.2.2.1, .ref a :: as, st.drop (a_nrg e.2.2.1)) else none
          | none => none)
        | _ => none) else none
    | none => none
  | .invokestatic idx => match (a_of a_inv own).find? (fun e => e.1 == idx && e.2.1 == 1) with
    | some e => if a_nrg e.2.2.1 ≤ st.length ∧ a_cat (st.drop (a_nrg e.2.2.1)) ≤ 8 then some (e.2.2.1, (st.take (a_nrg e.2.2.1)).reverse, st.drop (a_nrg e.2.2.1)) else none
    | none => none
  | .invokespecial idx => match (a_of a_inv own).find? (fun e => e.1 == idx && (e.2.1 == 2 || e.2.1 == 3)) with
    | some e => if a_nrg e.2.2.1 ≤ st.length ∧ a_cat (st.drop (a_nrg e.2.2.1)) ≤ 8 then
        (match (st.take (a_nrg e.2.2.1)).reverse with
        | .ref a :: as => some (e.2.2.1, .ref a :: as, st.drop (a_nrg e.2.2.1))
        | _ => none) else none
    | none => none
  | _ => none
/-- the row of a method's table that takes exception k at pc -/
def a_cth (mi pc k : Nat) : Option (Nat × Nat × Nat × Nat × Nat × Nat × Nat) := (a_hnd mi).find? (fun x => (decide (x.1 ≤ pc) && decide (pc < x.2.1)) && x.2.2.2.2.1 == k)
/-- a handler stores the exception first: where it goes on, and the local -/
noncomputable def a_hdl (mi hp : Nat) : Option (Nat × Nat) := match a_ins mi hp with
  | some (i, len) => if len = a_len i then (match a_store i with
    | some (n, kd) => if kd = 4 then some (hp + len, n) else none
    | none => none) else none
  | none => none
def a_isSp (i : Instr) : Bool := match i with
  | .invokespecial _ => true
  | _ => false
def a_drop (al : AL) (n : Nat) : AL := (a_kill al n).set n none
noncomputable def a_go (call : Nat → List Value → AH → Option AR) (mi : Nat) : Nat → Nat → AL → List Value → AH → Nat → Nat → Option AR
  | 0, _, _, _, _, _, _ => none
  | f + 1, pc, al, st, h, mc, ms =>
    match a_ins mi pc with
    | none => none
    | some (i, len) =>
      match a_end mi i st with
      | some v => some (.inl v, h, mc, ms)
      | none => match a_trw mi pc i st with
        | some k => some (.inr k, h, mc + 1, ms + 6)
        | none => match a_call (a_own mi) i st h with
          | some (mt, as, rest) => (match call mt as h with
            | some (.inl v, h', c, s) => a_go call mi f (pc + 3) al (v.toList ++ rest) h' (mc + c) (ms + s)
            | some (.inr k, h', c, s) => if a_isSp i = true then none else if (a_hnd mi).isEmpty = true then some (.inr k, h', mc + c, ms + s) else (match a_cth mi pc k with
              | some x => (match a_hdl mi x.2.2.1 with
                | some (hp, n) => if n < al.length then a_go call mi f hp (a_drop al n) [] h' (mc + c) (ms + s) else none
                | none => none)
              | none => none)
            | none => none)
          | none => match a_stp (a_own mi) (a_ini mi) i len pc al st h with
            | some (pc', al', st', h', c, s) => a_go call mi f pc' al' st' h' (mc + c) (ms + s)
            | none => match a_acp (a_own mi) i len st h with
              | some (st', h') => a_go call mi f (pc + len) al st' h' mc ms
              | none => none
def a_args (mi : Nat) (as : List Value) : AL := as.map some ++ List.replicate (a_mxl mi - as.length) none
noncomputable def a_run : Nat → Nat → Nat → List Value → AH → Option AR
  | 0, _, _, _, _ => none
  | d + 1, F, mi, as, h => if as.length = a_nrg mi ∧ as.length ≤ a_mxl mi ∧ (as.all fun v => v.category == 1) = true then a_go (a_run d F) mi F 0 (a_args mi as) [] h 0 0 else none
/-! its cells only grow -/
theorem a_go_mono {call : Nat → List Value → AH → Option AR} {mi : Nat} : ∀ (f pc : Nat) (al : AL) (st : List Value) (h : AH) (mc ms : Nat) (r : AR), a_go call mi f pc al st h mc ms = some r → mc ≤ r.2.2.1 ∧ ms ≤ r.2.2.2
  | 0, pc, al, st, h, mc, ms, r, hr => by cases hr
  | f + 1, pc, al, st, h, mc, ms, r, hr => by
    rw [a_go] at hr
    split at hr
    · cases hr
    · split at hr
      · cases hr; exact ⟨Nat.le_refl _, Nat.le_refl _⟩
      · split at hr
        · cases hr; exact ⟨Nat.le_add_right _ _, Nat.le_add_right _ _⟩
        · split at hr
          · split at hr
            · have := a_go_mono f _ _ _ _ _ _ r hr; omega
            · split at hr
              · cases hr
              · split at hr
                · cases hr; exact ⟨Nat.le_add_right _ _, Nat.le_add_right _ _⟩
                · split at hr
                  · split at hr
                    · split at hr
                      · have := a_go_mono f _ _ _ _ _ _ r hr; omega
                      · cases hr
                    · cases hr
                  · cases hr
            · cases hr
          · split at hr
            · have := a_go_mono f _ _ _ _ _ _ r hr; omega
            · split at hr
              · exact a_go_mono f _ _ _ _ _ _ r hr
              · cases hr
/-! its references lie in the heap, which only grows -/
theorem a_sw_same {i : Instr} {pc : Nat} {al : AL} {st : List Value} {h : AH} {r : AS} (hr : a_sw i pc al st h = some r) : ∃ (x : Int32), st = .int x :: r.2.2.1 ∧ r.2.1 = al ∧ r.2.2.2 = (h, 0, 0) := by
  unfold a_sw at hr
  split at hr
  · split at hr
    · rw [Option.map_eq_some_iff] at hr
      obtain ⟨t, h1, rfl⟩ := hr
      exact ⟨_, rfl, rfl, rfl⟩
    · rw [Option.bind_eq_some_iff] at hr
      obtain ⟨off, h0, hr⟩ := hr
      rw [Option.map_eq_some_iff] at hr
      obtain ⟨t, h1, rfl⟩ := hr
      exact ⟨_, rfl, rfl, rfl⟩
  · cases hr
theorem a_wf.root {al : AL} {st : List Value} {h h' : AH} (w : a_wf al st h') (hl : h.length < h'.length) : a_wf al (.ref h.length :: st) h' := w.push (fun k hk => by cases hk; exact hl)
theorem a_st5_wf {own : Nat} {i : Instr} {pc : Nat} {al : AL} {st : List Value} {h : AH} {r : AS} (hr : a_st5 own i pc al st h = some r) (w : a_wf al st h) : a_wf r.2.1 r.2.2.1 r.2.2.2.1 ∧ h.length ≤ r.2.2.2.1.length := by
  have len1 : ∀ {x : AC}, h.length < (h ++ [x]).length := by intro x; rw [List.length_append, List.length_singleton]; omega
  unfold a_st5 at hr
  split at hr
  · rw [Option.map_eq_some_iff] at hr
    obtain ⟨q, h1, rfl⟩ := hr
    exact ⟨(w.push1 a_obj_ok).root len1, Nat.le_of_lt len1⟩
  · split at hr
    · rw [Option.map_eq_some_iff] at hr
      obtain ⟨q, h1, rfl⟩ := hr
      exact ⟨(w.tl.push1 a_row_ok).root len1, Nat.le_of_lt len1⟩
    · cases hr
  · split at hr
    · split at hr
      · rw [Option.map_eq_some_iff] at hr
        obtain ⟨q, h1, rfl⟩ := hr
        exact ⟨(w.tl.push1 a_row_ok).root len1, Nat.le_of_lt len1⟩
      · cases hr
    · cases hr
  · split at hr
    · rename_i t vs ha
      split at hr
      · rename_i u us hv
        split at hr
        · rw [Option.map_eq_some_iff] at hr
          obtain ⟨q, h1, rfl⟩ := hr
          exact ⟨w.tl.tl.tl.upd1 ha (fun k hk => by cases hk; exact (List.getElem?_eq_some_iff.mp hv).1), Nat.le_of_eq (a_set_len ..).symm⟩
        · cases hr
      · cases hr
    · cases hr
  · split at hr
    · cases hr; exact ⟨w.tl, Nat.le_refl _⟩
    · cases hr
  · split at hr
    · split at hr
      · cases hr; exact ⟨w.tl.tl.push (a_ok_int _), Nat.le_refl _⟩
      · cases hr
    · cases hr
  · cases hr
theorem a_setR_wf {al : AL} {st : List Value} {h : AH} {a i b : Nat} (w : a_wf al st h) (hb : b < h.length) : a_wf al st (a_setR h a i b) := by
  unfold a_setR
  split
  · rename_i t vs ha
    exact w.upd1 ha (fun k hk => by cases hk; exact hb)
  · exact w
def a_wfF (f : AH → AH) : Prop := ∀ (al : AL) (st : List Value) (h : AH), a_wf al st h → a_wf al st (f h)
theorem a_mkL_wf {f : AH → AH} (hk : a_keepF f) (hf : a_wfF f) (a : Nat) (al : AL) (st : List Value) : ∀ (k i : Nat) (h : AH), a_wf al st h → a_wf al st (a_mkL f a k i h)
  | 0, i, h, w => w
  | k + 1, i, h, w => a_mkL_wf hk hf a al st k (i + 1) _ (a_setR_wf (hf al st h w) (hk h).1)
theorem a_mk_wf : ∀ (ns : List Nat) (tys : List FieldType), a_tys tys ns = true → a_wfF (a_mk tys ns)
  | [], tys, ht => by rcases tys with _ | ⟨_, _ | ⟨_, _⟩⟩ <;> cases ht
  | [n], [], ht => by cases ht
  | [n], ty :: tys, ht => fun al st h w => by
    have e : a_mk (ty :: tys) [n] h = h ++ [a_row ty n] := by cases tys <;> rfl
    rw [e]
    exact w.push1 a_row_ok
  | n :: n' :: ns, [], ht => by cases ht
  | n :: n' :: ns, [ty], ht => by cases ht
  | n :: n' :: ns, ty :: ty' :: tys, ht => by
    have ht' : a_tys (ty' :: tys) (n' :: ns) = true := by
      simp only [a_tys, Bool.and_eq_true] at ht
      exact ht.2.2.2
    intro al st h w
    exact a_mkL_wf (a_mk_keep _ _ ht') (a_mk_wf (n' :: ns) (ty' :: tys) ht') h.length al st n 0 _ (w.push1 a_row_ok)
theorem a_st6_wf {own : Nat} {i : Instr} {pc : Nat} {al : AL} {st : List Value} {h : AH} {r : AS} (hr : a_st6 own i pc al st h = some r) (w : a_wf al st h) : a_wf r.2.1 r.2.2.1 r.2.2.2.1 ∧ h.length ≤ r.2.2.2.1.length := by
  unfold a_st6 at hr
  split at hr
  · split at hr
    · split at hr
      · rename_i hc
        cases hr
        have k := (a_mk_keep _ _ hc.1 h).1
        exact ⟨((a_mk_wf _ _ hc.1) _ _ _ w.tl.tl).root k, Nat.le_of_lt k⟩
      · cases hr
    · cases hr
  · split at hr
    · split at hr
      · rename_i hc
        cases hr
        have k := (a_mk_keep _ _ hc.1 h).1
        exact ⟨((a_mk_wf _ _ hc.1) _ _ _ w.tl.tl.tl).root k, Nat.le_of_lt k⟩
      · cases hr
    · cases hr
  · cases hr
theorem a_st1_len {i : Instr} {pc : Nat} {al : AL} {st : List Value} {h : AH} {r : AS} (hr : a_st1 i pc al st h = some r) : r.2.2.2.1 = h := by
  unfold a_st1 at hr
  repeat' split at hr
  all_goals first
    | (cases hr; done)
    | (cases hr; rfl)
    | (rw [Option.map_eq_some_iff] at hr; obtain ⟨t, -, rfl⟩ := hr; rfl)
theorem a_st2_len {i : Instr} {pc : Nat} {al : AL} {st : List Value} {h : AH} {r : AS} (hr : a_st2 i pc al st h = some r) : r.2.2.2.1 = h := by
  unfold a_st2 at hr
  repeat' split at hr
  all_goals first
    | (cases hr; done)
    | (cases hr; rfl)
    | (rw [Option.map_eq_some_iff] at hr; obtain ⟨t, -, rfl⟩ := hr; rfl)
theorem a_st3_len {i : Instr} {pc : Nat} {al : AL} {st : List Value} {h : AH} {r : AS} (hr : a_st3 i pc al st h = some r) : r.2.2.2.1 = h := by
  unfold a_st3 at hr
  repeat' split at hr
  all_goals first
    | (cases hr; done)
    | (cases hr; rfl)
    | (rw [Option.bind_eq_some_iff] at hr; obtain ⟨n, -, hr⟩ := hr; rw [Option.map_eq_some_iff] at hr; obtain ⟨t, -, rfl⟩ := hr; rfl)
theorem a_st4_len {own : Nat} {ini : Bool} {i : Instr} {pc : Nat} {al : AL} {st : List Value} {h : AH} {r : AS} (hr : a_st4 own ini i pc al st h = some r) : r.2.2.2.1.length = h.length := by
  unfold a_st4 at hr
  repeat' split at hr
  all_goals first
    | (cases hr; done)
    | (cases hr; first | rfl | exact a_set_len ..)
    | (rw [Option.map_eq_some_iff] at hr; obtain ⟨t, -, rfl⟩ := hr; first | rfl | exact a_set_len ..)
theorem a_stp_wf {own : Nat} {ini : Bool} {i : Instr} {len pc : Nat} {al : AL} {st : List Value} {h : AH} {r : AS} (hr : a_stp own ini i len pc al st h = some r) (w : a_wf al st h) : a_wf r.2.1 r.2.2.1 r.2.2.2.1 ∧ h.length ≤ r.2.2.2.1.length := by
  unfold a_stp at hr
  split at hr
  · rename_i r' h1
    cases hr
    obtain ⟨x, e1, e2, e3⟩ := a_sw_same h1
    rw [e1] at w
    have e4 : r.2.2.2.1 = h := by rw [e3]
    rw [e2, e4]
    exact ⟨w.tl, Nat.le_refl _⟩
  · split at hr
    · split at hr
      · rename_i h1; cases hr; exact ⟨a_st1_wf h1 w, by rw [a_st1_len h1]; exact Nat.le_refl _⟩
      · split at hr
        · rename_i h1; cases hr; exact ⟨a_st4_wf h1 w, by rw [a_st4_len h1]; exact Nat.le_refl _⟩
        · split at hr
          · rename_i h1; cases hr; exact ⟨a_st2_wf h1 w, by rw [a_st2_len h1]; exact Nat.le_refl _⟩
          · split at hr
            · rename_i h1; cases hr; exact ⟨a_st3_wf h1 w, by rw [a_st3_len h1]; exact Nat.le_refl _⟩
            · split at hr
              · rename_i h1; cases hr; exact a_st5_wf h1 w
              · exact a_st6_wf hr w
    · cases hr
/-- what a call keeps -/
def a_cwf (call : Nat → List Value → AH → Option AR) : Prop := ∀ (mt : Nat) (as : List Value) (h : AH) (r : AR), call mt as h = some r → a_wh h → (∀ v, v ∈ as → a_ok h.length v) → a_wh r.2.1 ∧ h.length ≤ r.2.1.length ∧ ∀ v, r.1 = .inl (some v) → a_ok r.2.1.length v
theorem a_drop_get {al : AL} {n i : Nat} {v : Value} (h : a_get (a_drop al n) i = some v) : a_get al i = some v ∧ i ≠ n ∧ ¬ (i + 1 = n ∧ v.category = 2) := by
  unfold a_drop at h
  rw [a_get_set] at h
  split at h
  · cases h
  · rename_i h1
    obtain ⟨h2, h3⟩ := a_kill_get h
    have h4 := a_get_lt h2
    refine ⟨h2, fun q => h1 ⟨q.symm, by rw [a_kill_len]; exact h4⟩, h3⟩
theorem a_call_in {own : Nat} {i : Instr} {st : List Value} {h : AH} {mt : Nat} {as rest : List Value} (hc : a_call own i st h = some (mt, as, rest)) : (∀ v, v ∈ as → v ∈ st) ∧ (∀ v, v ∈ rest → v ∈ st) ∧ st = as.reverse ++ rest := by
  have key : ∀ n : Nat, (∀ v, v ∈ (st.take n).reverse → v ∈ st) ∧ (∀ v, v ∈ st.drop n → v ∈ st) ∧ st = ((st.take n).reverse).reverse ++ st.drop n := fun n => ⟨fun v hv => List.mem_of_mem_take (List.mem_reverse.mp hv), fun v hv => List.mem_of_mem_drop hv, by rw [List.reverse_reverse, List.take_append_drop]⟩
  unfold a_call at hc
  split at hc
  · split at hc
    · split at hc
      · split at hc
        · rename_i e a as' hq
          split at hc
          · split at hc
            · cases hc
              rw [← hq]
              exact key _
            · cases hc
          · cases hc
        · cases hc
      · cases hc
    · cases hc
  · split at hc
    · split at hc
      · cases hc; exact key _
      · cases hc
    · cases hc
  · split at hc
    · split at hc
      · split at hc
        · rename_i e a as' hq
          cases hc
          rw [← hq]
          exact key _
        · cases hc
      · cases hc
    · cases hc
  · cases hc
theorem a_end_in {mi : Nat} {i : Instr} {st : List Value} {v : Value} (h : a_end mi i st = some (some v)) : v ∈ st := by
  unfold a_end at h
  repeat' split at h
  all_goals first
    | (cases h; done)
    | (cases h; exact List.mem_cons_self)
theorem a_go_wf {call : Nat → List Value → AH → Option AR} (hcall : a_cwf call) {mi : Nat} : ∀ (f pc : Nat) (al : AL) (st : List Value) (h : AH) (mc ms : Nat) (r : AR), a_go call mi f pc al st h mc ms = some r → a_wf al st h → a_wh r.2.1 ∧ h.length ≤ r.2.1.length ∧ ∀ v, r.1 = .inl (some v) → a_ok r.2.1.length v
  | 0, pc, al, st, h, mc, ms, r, hr, w => by cases hr
  | f + 1, pc, al, st, h, mc, ms, r, hr, w => by
    rw [a_go] at hr
    split at hr
    · cases hr
    · split at hr
      · rename_i v hv
        cases hr
        exact ⟨w.2.2, Nat.le_refl _, fun u hu => by cases hu; exact w.2.1 _ (a_end_in hv)⟩
      · split at hr
        · cases hr
          exact ⟨w.2.2, Nat.le_refl _, fun u hu => by cases hu⟩
        · split at hr
          · rename_i mt as rest hc
            obtain ⟨c1, c2, -⟩ := a_call_in hc
            have wc : ∀ {q : AR}, call mt as h = some q → a_wh q.2.1 ∧ h.length ≤ q.2.1.length ∧ ∀ v, q.1 = .inl (some v) → a_ok q.2.1.length v := fun hq => hcall mt as h _ hq w.2.2 (fun v hv => w.2.1 v (c1 v hv))
            split at hr
            · rename_i v h' c s hq
              obtain ⟨q1, q2, q3⟩ := wc hq
              have w' : a_wf al (v.toList ++ rest) h' := ⟨fun i u hi => a_ok_mono q2 (w.1 i u hi), fun u hu => by
                rcases List.mem_append.mp hu with g | g
                · cases v with
                  | none => cases g
                  | some v =>
                    simp only [Option.toList, List.mem_cons, List.not_mem_nil, or_false] at g
                    rw [g]; exact q3 v rfl
                · exact a_ok_mono q2 (w.2.1 u (c2 u g)), q1⟩
              obtain ⟨r1, r2, r3⟩ := a_go_wf hcall f _ _ _ _ _ _ r hr w'
              exact ⟨r1, Nat.le_trans q2 r2, r3⟩
            · rename_i k h' c s hq
              obtain ⟨q1, q2, q3⟩ := wc hq
              split at hr
              · cases hr
              · split at hr
                · cases hr
                  exact ⟨q1, q2, fun u hu => by cases hu⟩
                · split at hr
                  · split at hr
                    · rename_i n _
                      split at hr
                      · have w' : a_wf (a_drop al n) [] h' := ⟨fun i u hi => a_ok_mono q2 (w.1 i u (a_drop_get hi).1), fun u hu => absurd hu List.not_mem_nil, q1⟩
                        obtain ⟨r1, r2, r3⟩ := a_go_wf hcall f _ _ _ _ _ _ r hr w'
                        exact ⟨r1, Nat.le_trans q2 r2, r3⟩
                      · cases hr
                    · cases hr
                  · cases hr
            · cases hr
          · split at hr
            · rename_i pc' al' st' h' c s hq
              obtain ⟨q1, q2⟩ := a_stp_wf hq w
              obtain ⟨r1, r2, r3⟩ := a_go_wf hcall f _ _ _ _ _ _ r hr q1
              exact ⟨r1, Nat.le_trans q2 r2, r3⟩
            · split at hr
              · rename_i st' h' hq
                obtain ⟨q1, q2⟩ := a_acp_wf hq w
                obtain ⟨r1, r2, r3⟩ := a_go_wf hcall f _ _ _ _ _ _ r hr q1
                exact ⟨r1, Nat.le_trans q2 r2, r3⟩
              · cases hr
theorem a_args_get {mi : Nat} {as : List Value} {i : Nat} {v : Value} (h : a_get (a_args mi as) i = some v) : as[i]? = some v := by
  unfold a_get a_args at h
  rcases Nat.lt_or_ge i as.length with q | q
  · rw [List.getElem?_append_left (by rw [List.length_map]; exact q), List.getElem?_map] at h
    rw [List.getElem?_eq_getElem q] at h ⊢
    simpa using h
  · rw [List.getElem?_append_right (by rw [List.length_map]; exact q), List.getElem?_replicate] at h
    split at h
    · cases h
    · cases h
theorem a_run_wf (F : Nat) : ∀ d, a_cwf (a_run d F)
  | 0 => fun mt as h r hr => by cases hr
  | d + 1 => fun mt as h r hr w hv => by
    rw [a_run] at hr
    split at hr
    · exact a_go_wf (a_run_wf F d) F _ _ _ _ _ _ r hr ⟨fun i v hi => hv v (List.mem_of_getElem? (a_args_get hi)), fun v hv => absurd hv List.not_mem_nil, w⟩
    · cases hr
