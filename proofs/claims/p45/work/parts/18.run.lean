/-! part 18.run -/
section
/-! The abstract machine's run of a method -/
def a_sw (i : Instr) (pc : Nat) (al : AL) (st : List Value) (h : AH) : Option AS := match i, st with
  | .tableswitch dflt lo hi offs, .int x :: st =>
    if x.toInt < lo ∨ hi < x.toInt then (a_tgt pc dflt).map (fun t => (t, al, st, h, 0, 0))
    else (offs[(x.toInt - lo).toNat]?).bind (fun off => (a_tgt pc off).map (fun t => (t, al, st, h, 0, 0)))
  | _, _ => none
def a_stp (own : Nat) (ini : Bool) (i : Instr) (len : Nat) (pc : Nat) (al : AL) (st : List Value) (h : AH) : Option AS :=
  match a_sw i pc al st h with
  | some r => some r
  | none => if len = a_len i then
    match a_st1 i pc al st h with
    | some r => some r
    | none => match a_st4 own ini i pc al st h with
    | some r => some r
    | none => match a_st2 i pc al st h with
    | some r => some r
    | none => match a_st3 i pc al st h with
    | some r => some r
    | none => match a_st5 own i pc al st h with
    | some r => some r
    | none => a_st6 own i pc al st h
    else none
abbrev AM : Type := Nat × String × String × Nat × Option FieldType × Nat × List (Nat × Nat × Nat × Nat × Nat × Nat × Nat) × (Nat × Nat)
theorem a_getD2 {α : Type} {C : List (List α)} {q r : Nat} {d : α} : (C.getD q []).getD r d ∈ C.flatten ∨ (C.getD q []).getD r d = d := by
  cases h1 : C[q]? with
  | none =>
    right
    have e : C.getD q [] = [] := by rw [List.getD_eq_getElem?_getD, h1]; rfl
    rw [e]
    rfl
  | some l =>
    have e : C.getD q [] = l := by rw [List.getD_eq_getElem?_getD, h1]; rfl
    rw [e]
    cases h2 : l[r]? with
    | none =>
      right
      rw [List.getD_eq_getElem?_getD, h2]
      rfl
    | some x =>
      left
      have e2 : l.getD r d = x := by rw [List.getD_eq_getElem?_getD, h2]; rfl
      rw [e2]
      exact List.mem_flatten.mpr ⟨l, List.mem_of_getElem? h1, List.mem_of_getElem? h2⟩
def a_mrow (mi : Nat) : AM := (a_mthC.getD (mi / 16) []).getD (mi % 16) (0, "", "", 0, none, 0, [], (0, 0))
noncomputable def a_prow (mi : Nat) : ByteArray × List (Nat × Instr × Nat) := (a_progC.getD (mi / 20) []).getD (mi % 20) (⟨#[]⟩, [])
theorem a_prow_in {mi : Nat} {e : Nat × Instr × Nat} (h : e ∈ (a_prow mi).2) : a_prow mi ∈ a_prog := by
  have hp : a_prog = a_progC.flatten := by
    simp only [a_progC, a_prog, List.flatten_cons, List.flatten_nil, List.append_nil]
  rw [hp]
  have h0 : a_prow mi ∈ a_progC.flatten ∨ a_prow mi = (⟨#[]⟩, []) := a_getD2
  rcases h0 with k | k
  · exact k
  · rw [k] at h
    cases h
def a_own (mi : Nat) : Nat := (a_mrow mi).1
def a_nam (mi : Nat) : String := (a_mrow mi).2.1
def a_dsc (mi : Nat) : String := (a_mrow mi).2.2.1
def a_mxl (mi : Nat) : Nat := (a_mrow mi).2.2.2.1
def a_rty (mi : Nat) : Option FieldType := (a_mrow mi).2.2.2.2.1
def a_nrg (mi : Nat) : Nat := (a_mrow mi).2.2.2.2.2.1
def a_hnd (mi : Nat) : List (Nat × Nat × Nat × Nat × Nat × Nat × Nat) := (a_mrow mi).2.2.2.2.2.2.1
def a_y (mi : Nat) : MethodName := ⟨a_cN (a_own mi), a_nam mi, a_dsc mi⟩
def a_ini (mi : Nat) : Bool := a_nam mi == "<init>"
noncomputable def a_codeL (mi : Nat) : List (Nat × Instr × Nat) := if mi = 301 then a_lawP else (a_prow mi).2
noncomputable def a_codeB (mi : Nat) : ByteArray := if mi = 301 then code else (a_prow mi).1
def a_lawC : List (Nat × List (Nat × Instr × Nat)) := [(266, a_law_0), (323, a_law_1), (381, a_law_2), (437, a_law_3), (492, a_law_4), (553, a_law_5), (611, a_law_6), (661, a_law_7), (719, a_law_8), (782, a_law_9), (844, a_law_10), (901, a_law_11), (956, a_law_12), (1010, a_law_13), (1064, a_law_14), (1121, a_law_15), (1179, a_law_16), (1240, a_law_17), (1301, a_law_18), (1362, a_law_19), (1422, a_law_20), (1481, a_law_21), (1538, a_law_22), (1596, a_law_23), (1651, a_law_24), (1712, a_law_25), (1773, a_law_26), (1827, a_law_27), (1879, a_law_28), (1939, a_law_29), (2005, a_law_30), (100000, a_law_31)]
/-- the law's instruction at a place: first the chunk, then the place in it -/
def a_insL (pc : Nat) : Option (Instr × Nat) := match a_lawC.find? (fun c => Nat.blt pc c.1) with
  | some c => (c.2.find? (fun e => Nat.beq e.1 pc)).map (fun e => e.2)
  | none => none
noncomputable def a_ins (mi pc : Nat) : Option (Instr × Nat) := bif Nat.beq mi 301 then a_insL pc else ((a_prow mi).2.find? (fun e => Nat.beq e.1 pc)).map (fun e => e.2)
/-- the method's end: what it answers -/
def a_end (mi : Nat) (i : Instr) (st : List Value) : Option (Option Value) := match i, st with
  | .return_, [] => if a_rty mi = none then some none else none
  | .ireturn, [.int v] => match a_rty mi with
    | some ty => if narrow ty (.int v) = .int v then some (some (.int v)) else none
    | none => none
  | .lreturn, [.long v] => if a_rty mi = some .long then some (some (.long v)) else none
  | .freturn, [.float v] => if a_rty mi = some .float then some (some (.float v)) else none
  | .dreturn, [.double v] => if a_rty mi = some .double then some (some (.double v)) else none
  | _, _ => none
/-- 'throw new E("text")' begins here: E's number -/
def a_trw (mi pc : Nat) (i : Instr) (st : List Value) : Option Nat := match i with
  | .new _ => if a_cat st ≤ 8 then (a_thr.find? (fun r => r.1 == mi && r.2.1 == pc)).map (fun r => r.2.2.2.2.2.2.2.1) else none
  | _ => none
/-- a call: the method, its arguments, what stays on the stack -/
def a_call (own : Nat) (i : Instr) (st : List Value) (h : AH) : Option (Nat × List Value × List Value) := match i with
  | .invokevirtual idx => match (a_of a_inv own).find? (fun e => e.1 == idx && e.2.1 == 0) with
    | some e => if a_nrg e.2.2.1 ≤ st.length ∧ a_cat (st.drop (a_nrg e.2.2.1)) ≤ 8 then
        (match (st.take (a_nrg e.2.2.1)).reverse with
        | .ref a :: as => (match h[a]? with
          | some (t, _) => if t = a_own e.2.2.1 then some (e.2.2.1, .ref a :: as, st.drop (a_nrg e.2.2.1)) else none
          | none => none)
        | _ => none) else none
    | none => none
  | .invokestatic idx => match (a_of a_inv own).find? (fun e => e.1 == idx && e.2.1 == 1) with
    | some e => if a_nrg e.2.2.1 ≤ st.length ∧ a_cat (st.drop (a_nrg e.2.2.1)) ≤ 8 then some (e.2.2.1, (st.take (a_nrg e.2.2.1)).reverse, st.drop (a_nrg e.2.2.1)) else none
    | none => none
  | .invokespecial idx => match (a_of a_inv own).find? (fun e => e.1 == idx && (e.2.1 == 2 || e.2.1 == 3)) with
    | some e => if a_nrg e.2.2.1 ≤ st.length ∧ a_cat (st.drop (a_nrg e.2.2.1)) ≤ 8 then
        (match (st.take (a_nrg e.2.2.1)).reverse with
        | .ref a :: as => some (e.2.2.1, .ref a :: as, st.drop (a_nrg e.2.2.1))
        | _ => none) else none
    | none => none
  | _ => none
/-- the row of a method's table that takes exception k at pc -/
def a_cth (mi pc k : Nat) : Option (Nat × Nat × Nat × Nat × Nat × Nat × Nat) := (a_hnd mi).find? (fun x => (decide (x.1 ≤ pc) && decide (pc < x.2.1)) && x.2.2.2.2.1 == k)
/-- a handler stores the exception first: where it goes on, and the local -/
noncomputable def a_hdl (mi hp : Nat) : Option (Nat × Nat) := match a_ins mi hp with
  | some (i, len) => if len = a_len i then (match a_store i with
    | some (n, kd) => if kd = 4 then some (hp + len, n) else none
    | none => none) else none
  | none => none
def a_isSp (i : Instr) : Bool := match i with
  | .invokespecial _ => true
  | _ => false
def a_drop (al : AL) (n : Nat) : AL := (a_kill al n).set n none
noncomputable def a_go (call : Nat → List Value → AH → Option AR) (mi : Nat) : Nat → Nat → AL → List Value → AH → Nat → Nat → Option AR
  | 0, _, _, _, _, _, _ => none
  | f + 1, pc, al, st, h, mc, ms =>
    match a_ins mi pc with
    | none => none
    | some (i, len) =>
      match a_end mi i st with
      | some v => some (.inl v, h, mc, ms)
      | none => match a_trw mi pc i st with
        | some k => some (.inr k, h, mc + 1, ms + 6)
        | none => match a_call (a_own mi) i st h with
          | some (mt, as, rest) => (match call mt as h with
            | some (.inl v, h', c, s) => a_go call mi f (pc + 3) al (v.toList ++ rest) h' (mc + c) (ms + s)
            | some (.inr k, h', c, s) => if a_isSp i = true then none else if (a_hnd mi).isEmpty = true then some (.inr k, h', mc + c, ms + s) else (match a_cth mi pc k with
              | some x => (match a_hdl mi x.2.2.1 with
                | some (hp, n) => if n < al.length then a_go call mi f hp (a_drop al n) [] h' (mc + c) (ms + s) else none
                | none => none)
              | none => none)
            | none => none)
          | none => match a_stp (a_own mi) (a_ini mi) i len pc al st h with
            | some (pc', al', st', h', c, s) => a_go call mi f pc' al' st' h' (mc + c) (ms + s)
            | none => match a_acp (a_own mi) i len st h with
              | some (st', h') => a_go call mi f (pc + len) al st' h' mc ms
              | none => none
def a_args (mi : Nat) (as : List Value) : AL := as.map some ++ List.replicate (a_mxl mi - as.length) none
noncomputable def a_run : Nat → Nat → Nat → List Value → AH → Option AR
  | 0, _, _, _, _ => none
  | d + 1, F, mi, as, h => if as.length = a_nrg mi ∧ as.length ≤ a_mxl mi ∧ (as.all fun v => v.category == 1) = true then a_go (a_run d F) mi F 0 (a_args mi as) [] h 0 0 else none
/-! its cells only grow -/
theorem a_go_mono {call : Nat → List Value → AH → Option AR} {mi : Nat} : ∀ (f pc : Nat) (al : AL) (st : List Value) (h : AH) (mc ms : Nat) (r : AR), a_go call mi f pc al st h mc ms = some r → mc ≤ r.2.2.1 ∧ ms ≤ r.2.2.2
  | 0, pc, al, st, h, mc, ms, r, hr => by cases hr
  | f + 1, pc, al, st, h, mc, ms, r, hr => by
    rw [a_go] at hr
    split at hr
    · cases hr
    · split at hr
      · cases hr; exact ⟨Nat.le_refl _, Nat.le_refl _⟩
      · split at hr
        · cases hr; exact ⟨Nat.le_add_right _ _, Nat.le_add_right _ _⟩
        · split at hr
          · split at hr
            · have := a_go_mono f _ _ _ _ _ _ r hr; omega
            · split at hr
              · cases hr
              · split at hr
                · cases hr; exact ⟨Nat.le_add_right _ _, Nat.le_add_right _ _⟩
                · split at hr
                  · split at hr
                    · split at hr
                      · have := a_go_mono f _ _ _ _ _ _ r hr; omega
                      · cases hr
                    · cases hr
                  · cases hr
            · cases hr
          · split at hr
            · have := a_go_mono f _ _ _ _ _ _ r hr; omega
            · split at hr
              · exact a_go_mono f _ _ _ _ _ _ r hr
              · cases hr
/-! its references lie in the heap, which only grows -/
theorem a_sw_same {i : Instr} {pc : Nat} {al : AL} {st : List Value} {h : AH} {r : AS} (hr : a_sw i pc al st h = some r) : ∃ (x : Int32), st = .int x :: r.2.2.1 ∧ r.2.1 = al ∧ r.2.2.2 = (h, 0, 0) := by
  unfold a_sw at hr
  split at hr
  · split at hr
    · rw [Option.map_eq_some_iff] at hr
      obtain ⟨t, h1, rfl⟩ := hr
      exact ⟨_, rfl, rfl, rfl⟩
    · rw [Option.bind_eq_some_iff] at hr
      obtain ⟨off, h0, hr⟩ := hr
      rw [Option.map_eq_some_iff] at hr
      obtain ⟨t, h1, rfl⟩ := hr
      exact ⟨_, rfl, rfl, rfl⟩
  · cases hr
theorem a_wf.root {al : AL} {st : List Value} {h h' : AH} (w : a_wf al st h') (hl : h.length < h'.length) : a_wf al (.ref h.length :: st) h' := w.push (fun k hk => by cases hk; exact hl)
theorem a_st5_wf {own : Nat} {i : Instr} {pc : Nat} {al : AL} {st : List Value} {h : AH} {r : AS} (hr : a_st5 own i pc al st h = some r) (w : a_wf al st h) : a_wf r.2.1 r.2.2.1 r.2.2.2.1 ∧ h.length ≤ r.2.2.2.1.length := by
  have len1 : ∀ {x : AC}, h.length < (h ++ [x]).length := by intro x; rw [List.length_append, List.length_singleton]; omega
  unfold a_st5 at hr
  split at hr
  · rw [Option.map_eq_some_iff] at hr
    obtain ⟨q, h1, rfl⟩ := hr
    exact ⟨(w.push1 a_obj_ok).root len1, Nat.le_of_lt len1⟩
  · split at hr
    · rw [Option.map_eq_some_iff] at hr
      obtain ⟨q, h1, rfl⟩ := hr
      exact ⟨(w.tl.push1 a_row_ok).root len1, Nat.le_of_lt len1⟩
    · cases hr
  · split at hr
    · split at hr
      · rw [Option.map_eq_some_iff] at hr
        obtain ⟨q, h1, rfl⟩ := hr
        exact ⟨(w.tl.push1 a_row_ok).root len1, Nat.le_of_lt len1⟩
      · cases hr
    · cases hr
  · split at hr
    · rename_i t vs ha
      split at hr
      · rename_i u us hv
        split at hr
        · rw [Option.map_eq_some_iff] at hr
          obtain ⟨q, h1, rfl⟩ := hr
          exact ⟨w.tl.tl.tl.upd1 ha (fun k hk => by cases hk; exact (List.getElem?_eq_some_iff.mp hv).1), Nat.le_of_eq (a_set_len ..).symm⟩
        · cases hr
      · cases hr
    · cases hr
  · split at hr
    · cases hr; exact ⟨w.tl, Nat.le_refl _⟩
    · cases hr
  · split at hr
    · split at hr
      · cases hr; exact ⟨w.tl.tl.push (a_ok_int _), Nat.le_refl _⟩
      · cases hr
    · cases hr
  · cases hr
theorem a_setR_wf {al : AL} {st : List Value} {h : AH} {a i b : Nat} (w : a_wf al st h) (hb : b < h.length) : a_wf al st (a_setR h a i b) := by
  unfold a_setR
  split
  · rename_i t vs ha
    exact w.upd1 ha (fun k hk => by cases hk; exact hb)
  · exact w
def a_wfF (f : AH → AH) : Prop := ∀ (al : AL) (st : List Value) (h : AH), a_wf al st h → a_wf al st (f h)
theorem a_mkL_wf {f : AH → AH} (hk : a_keepF f) (hf : a_wfF f) (a : Nat) (al : AL) (st : List Value) : ∀ (k i : Nat) (h : AH), a_wf al st h → a_wf al st (a_mkL f a k i h)
  | 0, i, h, w => w
  | k + 1, i, h, w => a_mkL_wf hk hf a al st k (i + 1) _ (a_setR_wf (hf al st h w) (hk h).1)
theorem a_mk_wf : ∀ (ns : List Nat) (tys : List FieldType), a_tys tys ns = true → a_wfF (a_mk tys ns)
  | [], tys, ht => by rcases tys with _ | ⟨_, _ | ⟨_, _⟩⟩ <;> cases ht
  | [n], [], ht => by cases ht
  | [n], ty :: tys, ht => fun al st h w => by
    have e : a_mk (ty :: tys) [n] h = h ++ [a_row ty n] := by cases tys <;> rfl
    rw [e]
    exact w.push1 a_row_ok
  | n :: n' :: ns, [], ht => by cases ht
  | n :: n' :: ns, [ty], ht => by cases ht
  | n :: n' :: ns, ty :: ty' :: tys, ht => by
    have ht' : a_tys (ty' :: tys) (n' :: ns) = true := by
      simp only [a_tys, Bool.and_eq_true] at ht
      exact ht.2.2.2
    intro al st h w
    exact a_mkL_wf (a_mk_keep _ _ ht') (a_mk_wf (n' :: ns) (ty' :: tys) ht') h.length al st n 0 _ (w.push1 a_row_ok)
theorem a_st6_wf {own : Nat} {i : Instr} {pc : Nat} {al : AL} {st : List Value} {h : AH} {r : AS} (hr : a_st6 own i pc al st h = some r) (w : a_wf al st h) : a_wf r.2.1 r.2.2.1 r.2.2.2.1 ∧ h.length ≤ r.2.2.2.1.length := by
  unfold a_st6 at hr
  split at hr
  · split at hr
    · split at hr
      · rename_i hc
        cases hr
        have k := (a_mk_keep _ _ hc.1 h).1
        exact ⟨((a_mk_wf _ _ hc.1) _ _ _ w.tl.tl).root k, Nat.le_of_lt k⟩
      · cases hr
    · cases hr
  · split at hr
    · split at hr
      · rename_i hc
        cases hr
        have k := (a_mk_keep _ _ hc.1 h).1
        exact ⟨((a_mk_wf _ _ hc.1) _ _ _ w.tl.tl.tl).root k, Nat.le_of_lt k⟩
      · cases hr
    · cases hr
  · cases hr
theorem a_st1_len {i : Instr} {pc : Nat} {al : AL} {st : List Value} {h : AH} {r : AS} (hr : a_st1 i pc al st h = some r) : r.2.2.2.1 = h := by
  unfold a_st1 at hr
  repeat' split at hr
  all_goals first
    | (cases hr; done)
    | (cases hr; rfl)
    | (rw [Option.map_eq_some_iff] at hr; obtain ⟨t, -, rfl⟩ := hr; rfl)
theorem a_st2_len {i : Instr} {pc : Nat} {al : AL} {st : List Value} {h : AH} {r : AS} (hr : a_st2 i pc al st h = some r) : r.2.2.2.1 = h := by
  unfold a_st2 at hr
  repeat' split at hr
  all_goals first
    | (cases hr; done)
    | (cases hr; rfl)
    | (rw [Option.map_eq_some_iff] at hr; obtain ⟨t, -, rfl⟩ := hr; rfl)
theorem a_st3_len {i : Instr} {pc : Nat} {al : AL} {st : List Value} {h : AH} {r : AS} (hr : a_st3 i pc al st h = some r) : r.2.2.2.1 = h := by
  unfold a_st3 at hr
  repeat' split at hr
  all_goals first
    | (cases hr; done)
    | (cases hr; rfl)
    | (rw [Option.bind_eq_some_iff] at hr; obtain ⟨n, -, hr⟩ := hr; rw [Option.map_eq_some_iff] at hr; obtain ⟨t, -, rfl⟩ := hr; rfl)
theorem a_st4_len {own : Nat} {ini : Bool} {i : Instr} {pc : Nat} {al : AL} {st : List Value} {h : AH} {r : AS} (hr : a_st4 own ini i pc al st h = some r) : r.2.2.2.1.length = h.length := by
  unfold a_st4 at hr
  repeat' split at hr
  all_goals first
    | (cases hr; done)
    | (cases hr; first | rfl | exact a_set_len ..)
    | (rw [Option.map_eq_some_iff] at hr; obtain ⟨t, -, rfl⟩ := hr; first | rfl | exact a_set_len ..)
theorem a_stp_wf {own : Nat} {ini : Bool} {i : Instr} {len pc : Nat} {al : AL} {st : List Value} {h : AH} {r : AS} (hr : a_stp own ini i len pc al st h = some r) (w : a_wf al st h) : a_wf r.2.1 r.2.2.1 r.2.2.2.1 ∧ h.length ≤ r.2.2.2.1.length := by
  unfold a_stp at hr
  split at hr
  · rename_i r' h1
    cases hr
    obtain ⟨x, e1, e2, e3⟩ := a_sw_same h1
    rw [e1] at w
    have e4 : r.2.2.2.1 = h := by rw [e3]
    rw [e2, e4]
    exact ⟨w.tl, Nat.le_refl _⟩
  · split at hr
    · split at hr
      · rename_i h1; cases hr; exact ⟨a_st1_wf h1 w, by rw [a_st1_len h1]; exact Nat.le_refl _⟩
      · split at hr
        · rename_i h1; cases hr; exact ⟨a_st4_wf h1 w, by rw [a_st4_len h1]; exact Nat.le_refl _⟩
        · split at hr
          · rename_i h1; cases hr; exact ⟨a_st2_wf h1 w, by rw [a_st2_len h1]; exact Nat.le_refl _⟩
          · split at hr
            · rename_i h1; cases hr; exact ⟨a_st3_wf h1 w, by rw [a_st3_len h1]; exact Nat.le_refl _⟩
            · split at hr
              · rename_i h1; cases hr; exact a_st5_wf h1 w
              · exact a_st6_wf hr w
    · cases hr
/-- what a call keeps -/
def a_cwf (call : Nat → List Value → AH → Option AR) : Prop := ∀ (mt : Nat) (as : List Value) (h : AH) (r : AR), call mt as h = some r → a_wh h → (∀ v, v ∈ as → a_ok h.length v) → a_wh r.2.1 ∧ h.length ≤ r.2.1.length ∧ ∀ v, r.1 = .inl (some v) → a_ok r.2.1.length v
theorem a_drop_get {al : AL} {n i : Nat} {v : Value} (h : a_get (a_drop al n) i = some v) : a_get al i = some v ∧ i ≠ n ∧ ¬ (i + 1 = n ∧ v.category = 2) := by
  unfold a_drop at h
  rw [a_get_set] at h
  split at h
  · cases h
  · rename_i h1
    obtain ⟨h2, h3⟩ := a_kill_get h
    have h4 := a_get_lt h2
    refine ⟨h2, fun q => h1 ⟨q.symm, by rw [a_kill_len]; exact h4⟩, h3⟩
theorem a_call_in {own : Nat} {i : Instr} {st : List Value} {h : AH} {mt : Nat} {as rest : List Value} (hc : a_call own i st h = some (mt, as, rest)) : (∀ v, v ∈ as → v ∈ st) ∧ (∀ v, v ∈ rest → v ∈ st) ∧ st = as.reverse ++ rest := by
  have key : ∀ n : Nat, (∀ v, v ∈ (st.take n).reverse → v ∈ st) ∧ (∀ v, v ∈ st.drop n → v ∈ st) ∧ st = ((st.take n).reverse).reverse ++ st.drop n := fun n => ⟨fun v hv => List.mem_of_mem_take (List.mem_reverse.mp hv), fun v hv => List.mem_of_mem_drop hv, by rw [List.reverse_reverse, List.take_append_drop]⟩
  unfold a_call at hc
  split at hc
  · split at hc
    · split at hc
      · split at hc
        · rename_i e a as' hq
          split at hc
          · split at hc
            · cases hc
              rw [← hq]
              exact key _
            · cases hc
          · cases hc
        · cases hc
      · cases hc
    · cases hc
  · split at hc
    · split at hc
      · cases hc; exact key _
      · cases hc
    · cases hc
  · split at hc
    · split at hc
      · split at hc
        · rename_i e a as' hq
          cases hc
          rw [← hq]
          exact key _
        · cases hc
      · cases hc
    · cases hc
  · cases hc
theorem a_end_in {mi : Nat} {i : Instr} {st : List Value} {v : Value} (h : a_end mi i st = some (some v)) : v ∈ st := by
  unfold a_end at h
  repeat' split at h
  all_goals first
    | (cases h; done)
    | (cases h; exact List.mem_cons_self)
theorem a_go_wf {call : Nat → List Value → AH → Option AR} (hcall : a_cwf call) {mi : Nat} : ∀ (f pc : Nat) (al : AL) (st : List Value) (h : AH) (mc ms : Nat) (r : AR), a_go call mi f pc al st h mc ms = some r → a_wf al st h → a_wh r.2.1 ∧ h.length ≤ r.2.1.length ∧ ∀ v, r.1 = .inl (some v) → a_ok r.2.1.length v
  | 0, pc, al, st, h, mc, ms, r, hr, w => by cases hr
  | f + 1, pc, al, st, h, mc, ms, r, hr, w => by
    rw [a_go] at hr
    split at hr
    · cases hr
    · split at hr
      · rename_i v hv
        cases hr
        exact ⟨w.2.2, Nat.le_refl _, fun u hu => by cases hu; exact w.2.1 _ (a_end_in hv)⟩
      · split at hr
        · cases hr
          exact ⟨w.2.2, Nat.le_refl _, fun u hu => by cases hu⟩
        · split at hr
          · rename_i mt as rest hc
            obtain ⟨c1, c2, -⟩ := a_call_in hc
            have wc : ∀ {q : AR}, call mt as h = some q → a_wh q.2.1 ∧ h.length ≤ q.2.1.length ∧ ∀ v, q.1 = .inl (some v) → a_ok q.2.1.length v := fun hq => hcall mt as h _ hq w.2.2 (fun v hv => w.2.1 v (c1 v hv))
            split at hr
            · rename_i v h' c s hq
              obtain ⟨q1, q2, q3⟩ := wc hq
              have w' : a_wf al (v.toList ++ rest) h' := ⟨fun i u hi => a_ok_mono q2 (w.1 i u hi), fun u hu => by
                rcases List.mem_append.mp hu with g | g
                · cases v with
                  | none => cases g
                  | some v =>
                    simp only [Option.toList, List.mem_cons, List.not_mem_nil, or_false] at g
                    rw [g]; exact q3 v rfl
                · exact a_ok_mono q2 (w.2.1 u (c2 u g)), q1⟩
              obtain ⟨r1, r2, r3⟩ := a_go_wf hcall f _ _ _ _ _ _ r hr w'
              exact ⟨r1, Nat.le_trans q2 r2, r3⟩
            · rename_i k h' c s hq
              obtain ⟨q1, q2, q3⟩ := wc hq
              split at hr
              · cases hr
              · split at hr
                · cases hr
                  exact ⟨q1, q2, fun u hu => by cases hu⟩
                · split at hr
                  · split at hr
                    · rename_i n _
                      split at hr
                      · have w' : a_wf (a_drop al n) [] h' := ⟨fun i u hi => a_ok_mono q2 (w.1 i u (a_drop_get hi).1), fun u hu => absurd hu List.not_mem_nil, q1⟩
                        obtain ⟨r1, r2, r3⟩ := a_go_wf hcall f _ _ _ _ _ _ r hr w'
                        exact ⟨r1, Nat.le_trans q2 r2, r3⟩
                      · cases hr
                    · cases hr
                  · cases hr
            · cases hr
          · split at hr
            · rename_i pc' al' st' h' c s hq
              obtain ⟨q1, q2⟩ := a_stp_wf hq w
              obtain ⟨r1, r2, r3⟩ := a_go_wf hcall f _ _ _ _ _ _ r hr q1
              exact ⟨r1, Nat.le_trans q2 r2, r3⟩
            · split at hr
              · rename_i st' h' hq
                obtain ⟨q1, q2⟩ := a_acp_wf hq w
                obtain ⟨r1, r2, r3⟩ := a_go_wf hcall f _ _ _ _ _ _ r hr q1
                exact ⟨r1, Nat.le_trans q2 r2, r3⟩
              · cases hr
theorem a_args_get {mi : Nat} {as : List Value} {i : Nat} {v : Value} (h : a_get (a_args mi as) i = some v) : as[i]? = some v := by
  unfold a_get a_args at h
  rcases Nat.lt_or_ge i as.length with q | q
  · rw [List.getElem?_append_left (by rw [List.length_map]; exact q), List.getElem?_map] at h
    rw [List.getElem?_eq_getElem q] at h ⊢
    simpa using h
  · rw [List.getElem?_append_right (by rw [List.length_map]; exact q), List.getElem?_replicate] at h
    split at h
    · cases h
    · cases h
theorem a_run_wf (F : Nat) : ∀ d, a_cwf (a_run d F)
  | 0 => fun mt as h r hr => by cases hr
  | d + 1 => fun mt as h r hr w hv => by
    rw [a_run] at hr
    split at hr
    · exact a_go_wf (a_run_wf F d) F _ _ _ _ _ _ r hr ⟨fun i v hi => hv v (List.mem_of_getElem? (a_args_get hi)), fun v hv => absurd hv List.not_mem_nil, w⟩
    · cases hr
end
/-! part 18b.throw -/
section
/-! 'throw new E("text")' where E's own constructor may call its superclass's by another pool number than 7 (NoSuchElementException's does); after the library's ctorThrowS (BundleOwnThrow.lean) and the kit's vx_throwS, vx_throwSW, with the class's own link and bytes free and less said of the cell -/
def a_own5 (own : String) (ic : Nat) (X : String) (ix : Nat) (bytes : ByteArray) : List Cond :=
  Bundle.throwableAtoms ++ Bundle.throwableSAtoms ++ (Bundle.passSAtoms X "java/lang/RuntimeException" ix bytes ++ Bundle.chainSAtoms "java/lang/RuntimeException" ["java/lang/Exception"]) ++
  [.methodLink own ic (Bundle.initS X), .instantiable X 6, .castable X X, .selects X Bundle.tFill0 Bundle.tFill0, .selects X Bundle.tFill Bundle.tFill,
   .lays X Bundle.tN "cause" "Ljava/lang/Throwable;", .lays X Bundle.tN "stackTrace" Bundle.steD, .lays X Bundle.tN "suppressedExceptions" Bundle.listD, .lays X Bundle.tN "detailMessage" "Ljava/lang/String;",
   .isRef (.static Bundle.tN "UNASSIGNED_STACK" Bundle.steD), .isRef (.static Bundle.tN "SUPPRESSED_SENTINEL" Bundle.listD),
   .fieldLink Bundle.tN 198 Bundle.tN "backtrace" "Ljava/lang/Object;", .lays Bundle.tN Bundle.tN "backtrace" "Ljava/lang/Object;", .lays X Bundle.tN "backtrace" "Ljava/lang/Object;"]
def a_at5 (own : String) (ic : Nat) (X : String) (ix : Nat) (bytes : ByteArray) : List Cond := (a_own5 own ic X ix bytes).filter vx_no
section AT5
variable {p : Program} {l : Launch} {e : Env} {R : Room} {s : State} {m : MethodId} {args : Array Value} {below : List Frame} {meth : Method} {c : Code} {H : Heap} {locs : List Loc} {cells slots : Nat}
set_option maxHeartbeats 2000000 in
theorem a_ctorThrow {W : State} (X : Stand p l e R s m args below meth c W [] cells slots) (hexec : p.tables.exec = Jvm.exec) (htr : e.platform.stackTraces = false) {own cls : String} {ic ix : Nat} {bytes : ByteArray}
    (g0 : decode bytes 0 = .ok (.aload_n 0, 1)) (g1 : decode bytes 1 = .ok (.aload_n 1, 1)) (g2 : decode bytes 2 = .ok (.invokespecial ix, 3)) (g5 : decode bytes 5 = .ok (.return_, 1))
    (hown : s.vm.findClass own = some m.cls) (hcls : Bundle.fit cls = true) (h : ∀ a ∈ a_own5 own ic cls ix bytes, a.before args s = true)
    {a : Addr} {cX : ClassId} {kX : Class} (hfoundX : s.vm.findClass cls = some cX) (hkX : s.vm.classes[cX]? = some kX) (hcell : W.heap[a]? = some (freshCell cX kX)) (hnew : s.heap.size ≤ a) {msg : Value} (hmsg : msg.isRef = true)
    {g : JFrame} (hg : g.method = m) (hsize : g.locals.size = c.maxLocals) (hlocked : g.locked = none) (hentered : g.entered = []) {rest : List Value} (hstack : g.stack = msg :: .ref a :: .ref a :: rest)
    (hd6 : decode c.code g.pc = .ok (.invokespecial ic, 3)) (hd9 : decode c.code (g.pc + 3) = .ok (.athrow, 1)) (hout : ∀ x ∈ c.exceptionTable.toList, covers x (g.pc + 3) = false)
    (hRframes : 5 < R.frames) (hRlocals : 2 * g.monitorRoom + ((Value.ref a :: rest).map fun v => v.category).sum + 81 ≤ R.locals) (hlocks : meth.locks = false) :
    ∃ U : State, Steps p.tables e below (W.setTop g) U ∧ U.status = .running ∧ Ended U below (.threw a) ∧ s.WarmedH U.vm ∧ s.sameButNew ({ U with vm := s.vm } : State) [] cells slots ∧ ∃ ce, U.heap[a]? = some ce ∧ ce.vm = .none ∧ ce.cls = cX := by
  have howns : e.platform.frameOwnsMonitors = true := by rw [X.admits.platform]
  have hfin : e.platform.finalization = false := by rw [X.admits.platform]
  have hpl : e.platform.magicAccessors = ({} : Platform).magicAccessors := by rw [X.admits.platform]
  have a' : ∀ x, x ∈ a_own5 own ic cls ix bytes → x.holds args s none s [] = true := fun x hx => h x hx
  obtain ⟨T, Z0, L, -, Y⟩ := ThrowableC.of_atoms (args := args) howns hfin hpl (fun x hx => h x (by simp [a_own5, hx]))
  obtain ⟨Z, M, LZ, LM, hnZ⟩ := Init0T.ofS_atoms (args := args) hpl L Y (fun x hx => h x (by simp [a_own5, hx]))
  obtain ⟨P1, L1, hP1m, hsup1⟩ := PassC.ofS_atoms (args := args) (s := s) hpl (X := cls) (Y := "java/lang/RuntimeException") (Bundle.fit_spec hcls).1 (by decide) g0 g1 g2 g5 (fun x hx => h x (by simp [a_own5, hx]))
  obtain ⟨P2, Ps2, hlen2, L2, hL2, hP2m, hl2, hlk2⟩ := Bundle.chainS (args := args) hpl hnZ ["java/lang/Exception"] "java/lang/RuntimeException" (by decide +kernel) (by decide +kernel) (fun x hx => h x (by simp [a_own5, hx]))
  have hP12 : P1.sup = P2.m := Option.some.inj (hsup1.symm.trans hP2m)
  have hfound : s.vm.findClass cls = some P1.m.cls := findClass_of_methodNamed hP1m
  cases Option.some.inj (hfoundX.symm.trans hfound)
  obtain ⟨c1, kX', hc1, hk, hord, -, -, hn6⟩ := Cond.instantiable_spec (a' (.instantiable cls 6) (by simp [a_own5]))
  cases Option.some.inj (hc1.symm.trans hfound)
  cases Option.some.inj (hkX.symm.trans hk)
  have hsel0 : selectMethod e.platform s.vm P1.m.cls T.fill0 = .method T.fill0 := by
    obtain ⟨c2, r2, m2, q1, q2, q3, q4, -⟩ := Cond.selects_spec (a' (.selects cls Bundle.tFill0 Bundle.tFill0) (by simp [a_own5]))
    cases Option.some.inj (q1.symm.trans hfound)
    cases Option.some.inj (q2.symm.trans (State.methodFound?_of_named Y.fill0 (by decide)))
    cases Option.some.inj (q3.symm.trans Y.fill0)
    rw [Launch.admits_selectMethod X.admits]; exact q4
  have hselF : selectMethod e.platform s.vm P1.m.cls T.fill = .method T.fill := by
    obtain ⟨c2, r2, m2, q1, q2, q3, q4, -⟩ := Cond.selects_spec (a' (.selects cls Bundle.tFill Bundle.tFill) (by simp [a_own5]))
    cases Option.some.inj (q1.symm.trans hfound)
    cases Option.some.inj (q2.symm.trans (State.methodFound?_of_named Y.fill (by decide)))
    cases Option.some.inj (q3.symm.trans Y.fill)
    rw [Launch.admits_selectMethod X.admits]; exact q4
  obtain ⟨cellS0, hcS0, hiss⟩ := Y.statics
  obtain ⟨u0, hu0⟩ := Cond.staticRefV Y.unassigned L.unassignedStatic L.statics hcS0 hiss (a' (.isRef (.static Bundle.tN "UNASSIGNED_STACK" Bundle.steD)) (by simp [a_own5]))
  obtain ⟨sen, hsen⟩ := Cond.staticRefV Y.sentinel L.sentinelStatic L.statics hcS0 hiss (a' (.isRef (.static Bundle.tN "SUPPRESSED_SENTINEL" Bundle.listD)) (by simp [a_own5]))
  obtain ⟨ci198, i198, fB, hk198, hg198, ha198, hsB, -, hnB, htB, hffB⟩ := Cond.ownField (t := .object "java/lang/Object") Y.found L.cls (by decide +kernel) (a' (.fieldLink Bundle.tN 198 Bundle.tN "backtrace" "Ljava/lang/Object;") (by simp [a_own5])) (a' (.lays Bundle.tN Bundle.tN "backtrace" "Ljava/lang/Object;") (by simp [a_own5])) e.platform hpl
  obtain ⟨cellS, hcS', heS, -, hkeep⟩ := X.same.2.2.2.2.2 T.aS cellS0 hcS0
  have hcellS : W.heap[T.aS]? = some cellS := hcS'
  have hout' : ∀ i, (⟨T.aS, i⟩ : Loc) ∉ ([] : List Loc) := fun i hmem => by cases hmem
  have hknownS : cellS.vm ≠ .unknown := by
    rw [heS]; intro hu
    rw [show cellS0.vm = .unknown from hu] at hiss
    cases hiss
  have hneS : T.aS ≠ a := Nat.ne_of_lt (Nat.lt_of_lt_of_le (Array.getElem?_eq_some_iff.mp hcS0).1 hnew)
  obtain ⟨iM, hffM⟩ := Y.msg
  obtain ⟨tyC, dC, hdC, hdnC⟩ := Cond.laysAt hfound hk Y.cause (a' (.lays cls Bundle.tN "cause" "Ljava/lang/Throwable;") (by simp [a_own5]))
  obtain ⟨tyS, dS, hdS, hdnS⟩ := Cond.laysAt hfound hk Y.stack (a' (.lays cls Bundle.tN "stackTrace" Bundle.steD) (by simp [a_own5]))
  obtain ⟨tyP, dP, hdP, hdnP⟩ := Cond.laysAt hfound hk Y.supp (a' (.lays cls Bundle.tN "suppressedExceptions" Bundle.listD) (by simp [a_own5]))
  obtain ⟨tyM, dM, hdM, hdnM⟩ := Cond.laysAt hfound hk hffM (a' (.lays cls Bundle.tN "detailMessage" "Ljava/lang/String;") (by simp [a_own5]))
  obtain ⟨tyB, dB, hdB, hdnB⟩ := Cond.laysAt hfound hk hffB (a' (.lays cls Bundle.tN "backtrace" "Ljava/lang/Object;") (by simp [a_own5]))
  have bC := Cond.laysApart hdB hdC hdnB hdnC (by rw [hnB, Y.causeName]; decide)
  have bS := Cond.laysApart hdB hdS hdnB hdnS (by rw [hnB, Y.stackName]; decide)
  have bP := Cond.laysApart hdB hdP hdnB hdnP (by rw [hnB, Y.suppName]; decide)
  have hskip : SkipFacts T e.platform s (fun u => u) u0 ((preparedCellV T.toThrowableT (freshCell P1.m.cls kX) a u0 sen).withEntry W.cur) :=
    ⟨{ ci198 := ci198, i198 := i198, fBack := fB }, ⟨hk198, hg198, ha198, hsB⟩, by
      have := fresh_default (c := P1.m.cls) tyB
      rw [htB] at this
      simpa [preparedCellV, Cell.setSlot, Cell.withEntry, Array.getElem?_setIfInBounds, bC, bS, bP, bC.symm, bS.symm, bP.symm, defaultValue] using this, fun _ _ => rfl⟩
  obtain ⟨tm, methC, cdC, kC, vm₁, hnC, -, -, -, -, -, -, -, hW₁, st1⟩ := Steps.initColdS (tb := p.tables) (e := e) (below := below) (s := s) (U := W) X.here hexec X.warmed hpl hown (t := Bundle.initS cls) rfl rfl (Bundle.fit_spec hcls).2
    (a' (.methodLink own ic (Bundle.initS cls)) (by simp [a_own5])) (h (.instanceMethod (Bundle.initS cls)) (by simp [a_own5, Bundle.passSAtoms])) (bytes := bytes) (maxL := 2) (h (.code (Bundle.initS cls) bytes 2 none) (by simp [a_own5, Bundle.passSAtoms]))
    (f := g) hg (a := a) (msg := msg) (rest := .ref a :: rest) hstack hd6
  cases Option.some.inj (hnC.symm.trans hP1m)
  have X₁ := X.noted hW₁
  obtain ⟨vm₂, X₂, st2⟩ := X₁.ctorMessageOffV hexec (g := { g with stack := .ref a :: rest }) hg hsize T L Z LZ M LM (P1 :: P2 :: Ps2)
    (fun P hP => by
      rcases List.mem_cons.mp hP with rfl | hP
      · exact L1
      · rcases List.mem_cons.mp hP with rfl | hP
        · exact L2
        · exact hL2 P hP) ⟨hP12, hl2, hlk2⟩ (u0 := u0) (sen := sen) (self := a) hmsg (cell := freshCell P1.m.cls kX) (cellS := cellS)
    hcell (fun _ => by simp) (by simp) rfl rfl hsel0 hselF hcellS hneS hknownS (by rw [hkeep _ (hout' _)]; exact hu0) (by rw [hkeep _ (hout' _)]; exact hsen)
    (Takes.of_laid hk hord tyC (by rw [Y.causeType]; rfl)) (Takes.of_laid hk hord tyS (by rw [Y.stackType]; exact fits_refV_array _ u0)) (Takes.of_laid hk hord tyP (by rw [Y.suppType]; exact fits_refV_object _ sen))
    (Takes.of_laid hk hord tyM (by rw [Y.msgType]; exact fits_refV_object _ ⟨msg, hmsg⟩)) Y.objLocals hskip htr [] hd6
    (by simp only [List.length_cons, hlen2, List.length_nil]; omega) (by simp only [List.length_cons, hlen2, List.length_nil]; omega)
  obtain ⟨hwalk, hrun, hended, hWU, hsame⟩ := X₂.athrowLeaves hexec (g := { g with stack := .ref a :: rest, pc := g.pc + 3 }) hg hlocked hentered hout (a := a) (rest := rest) rfl hd9
  have hlt : a < ((W.setVm vm₁).setVm vm₂).heap.size := (Array.getElem?_eq_some_iff.mp hcell).1
  have hU := heapAt_setCell_self (s := (W.setVm vm₁).setVm vm₂) (plainBareV T.toThrowableT (freshCell P1.m.cls kX) a u0 sen msg) hlt
  refine ⟨_, st1 _ (fun acts => ?_), hrun, hended, hWU, hsame.weaken (fun y hy hlt' => ?_) (Nat.le_refl _) (Nat.le_refl _), _, hU, rfl, rfl⟩
  · rw [doInvoke_state]
    exact st2 _ hwalk
  · exfalso
    have hb : y.base = a := by
      simp only [List.nil_append, List.mem_cons, List.not_mem_nil, or_false] at hy
      rcases hy with rfl | rfl | rfl | rfl | rfl <;> rfl
    rw [hb] at hlt'
    exact Nat.not_lt.mpr hnew hlt'
variable {Qc : Array Value → State → Outcome → State → Prop} {XC : String → State → State → Prop} {free : Addr → Prop} {ls : Array Slot} {rest : List Value}
set_option maxHeartbeats 2000000 in
theorem a_throw5 {cc : ByteArray} {pc w : Nat} {il : Instr} (hexec : p.tables.exec = Jvm.exec) (hb : c.code = cc) (hl : l.stackTraces = false) {own cls text : String} {ik is ic ix mc ms sa : Nat} {A : Nat → Prop} {bytes : ByteArray}
    (g0 : decode bytes 0 = .ok (.aload_n 0, 1)) (g1 : decode bytes 1 = .ok (.aload_n 1, 1)) (g2 : decode bytes 2 = .ok (.invokespecial ix, 3)) (g5 : decode bytes 5 = .ok (.return_, 1))
    (hown : s.vm.findClass own = some m.cls) (hcls : Bundle.fit cls = true)
    (hk : (Cond.classLink own ik cls).before args s = true) (hini : (Cond.initialized cls).before args s = true) (hstr : vk_R own is text sa s) (hat : ∀ w ∈ a_at5 own ic cls ix bytes, w.before args s = true)
    (hgood : ∀ w ∈ Cond.classLink own ik cls :: Cond.initialized cls :: a_at5 own ic cls ix bytes, vx_ot w = true)
    (hU : vx_Zq Bundle.tN "UNASSIGNED_STACK" Bundle.steD A s s.heap) (hN : vx_Zq Bundle.tN "SUPPRESSED_SENTINEL" Bundle.listD A s s.heap) (hS : va_S A s.heap H locs) (hsize : ls.size = c.maxLocals)
    (d0 : decode cc pc = .ok (.new ik, 3)) (d3 : decode cc (pc + 3) = .ok (.dup, 1)) (hil : (il = .ldc is ∧ w = 2) ∨ (il = .ldc_w is ∧ w = 3)) (d4 : decode cc (pc + 4) = .ok (il, w)) (d6 : decode cc (pc + 4 + w) = .ok (.invokespecial ic, 3)) (d9 : decode cc (pc + 4 + w + 3) = .ok (.athrow, 1))
    (hout : ∀ x ∈ c.exceptionTable.toList, covers x (pc + 4 + w + 3) = false)
    (hRframes : 5 < R.frames) (hRlocals : (rest.map fun v => v.category).sum + 82 ≤ R.locals) (hRcells : cells + 1 ≤ R.cells) (hRslots : slots + 6 ≤ R.slots) (hlocks : meth.locks = false)
    (hx : ∀ t : State, s.vm.Alike t.vm → H.size ≤ t.heap.size → (∀ q : Nat, q < H.size → t.heap[q]? = H[q]?) → XC cls s t)
    (hf : ∀ z ∈ locs, free z.base) (hc : cells + 1 ≤ mc) (hs : slots + 6 ≤ ms) :
    W p l e R s m args below meth c H locs cells slots (vx_MQ below Qc XC args s mc ms free) (F0 m pc ls rest) := by
  intro T hT X
  have htr : e.platform.stackTraces = false := (show e.platform.stackTraces = l.stackTraces by rw [X.admits.platform]).trans hl
  have Y := vx_rebase X (R' := { frames := R.frames, locals := R.locals, cells := 1, slots := 6 }) (Nat.le_refl _) (Nat.le_refl _) hRcells hRslots
  obtain ⟨s', hA⟩ : ∃ z, z = (T.setVm s.vm).setFrames (.invoking m args :: below) := ⟨_, rfl⟩
  rw [← hA] at Y
  have hvm : s'.vm = s.vm := by rw [hA]; rfl
  have hhp : s'.heap = H := by rw [hA]; exact hT
  have hW0 : s.WarmedH s'.vm := by rw [hvm]; exact State.WarmedH.refl s
  have hat' : ∀ w ∈ a_at5 own ic cls ix bytes, w.before args s' = true := fun w hw => vx_ot_at hW0 hvm.symm (hgood w (List.mem_cons_of_mem _ (List.mem_cons_of_mem _ hw))) (hat w hw)
  have hk' : (Cond.classLink own ik cls).before args s' = true := vx_ot_at hW0 hvm.symm (hgood _ List.mem_cons_self) hk
  have hini' : (Cond.initialized cls).before args s' = true := vx_ot_at hW0 hvm.symm (hgood _ (List.mem_cons_of_mem _ List.mem_cons_self)) hini
  have hU' : vx_Zq Bundle.tN "UNASSIGNED_STACK" Bundle.steD A s' s'.heap := by rw [hhp]; exact vx_Zq.moved hW0.alike (hU.kept hS.2.1)
  have hN' : vx_Zq Bundle.tN "SUPPRESSED_SENTINEL" Bundle.listD A s' s'.heap := by rw [hhp]; exact vx_Zq.moved hW0.alike (hN.kept hS.2.1)
  have h : ∀ w ∈ a_own5 own ic cls ix bytes, w.before args s' = true := vx_own hat' (vx_isRefq hU'.1) (vx_isRefq hN'.1) hU'.2.word hN'.2.word
  have hown' : s'.vm.findClass own = some m.cls := by rw [hvm]; exact hown
  have hins : (Cond.instantiable cls 6).before args s' = true := h _ (by simp [a_own5])
  obtain ⟨vm₁, cX, kX, hfX, hkX, -, -, X₁, st1⟩ := Y.newCold hexec (own := own) (C := cls) (index := ik) (n := 6) hown' hk' hins hini'
    (g := F0 m pc ls rest) rfl (by rw [hb]; exact d0) (Nat.le_refl _) (Nat.le_refl _)
  generalize hT1 : (T.setVm vm₁).pushCell { cls := cX, slots := kX.instanceTypes.map defaultValue, vm := .none } = T1 at X₁ st1
  have hcat : (Value.ref T.heap.size).category = 1 := rfl
  have hcellA : T1.heap[T.heap.size]? = some (freshCell cX kX) := by rw [← hT1]; exact State.heap_pushCell_size _ _
  have d3' : decode c.code (pc + 3) = .ok (.dup, 1) := by rw [hb]; exact d3
  have d4' : decode c.code (pc + 4) = .ok (il, w) := by rw [hb]; exact d4
  have hstr' : vk_R own is text sa s' := vk_R.warm hW0 hstr
  obtain ⟨U, hsteps, hrun, hend, hW, hsame, ce, hce, hcev, hcec⟩ := a_ctorThrow X₁ hexec htr (own := own) (cls := cls) g0 g1 g2 g5 hown' hcls h hfX hkX hcellA (by rw [hhp, hT]; exact Nat.le_refl _) (msg := .ref sa) rfl
    (g := { method := m, pc := pc + 4 + w, locals := ls, stack := .ref sa :: .ref T.heap.size :: .ref T.heap.size :: rest, locked := none }) rfl hsize rfl rfl (rest := rest) rfl
    (by rw [hb]; exact d6) (by rw [hb]; exact d9) hout hRframes (by simp only [List.map_cons, List.sum_cons, hcat]; omega) hlocks
  obtain ⟨f1, f2⟩ := vx_frame hsame
  rw [hhp] at f1 f2
  have hWs : s.WarmedH U.vm := State.WarmedH.trans hW0 hW
  have hcl : s.vm.findClass cls = some ce.cls := by
    rw [hcec, ← hvm]
    exact hfX
  have hall : s.sameButNew ({ U with vm := s.vm } : State) locs mc ms := by
    subst hA
    obtain ⟨e1, e2⟩ := hsame
    rw [State.setFrames_setFrames] at e1
    have h2 : (T.setVm s.vm).sameButNew ({ U with vm := s.vm } : State) [] (0 + 1) (0 + 6) := ⟨e1, e2⟩
    have h3 := X.same.trans h2
    rw [List.append_nil] at h3
    exact h3.mono hc hs
  refine ⟨U, ?_, .threw T.heap.size, hrun, hend, Or.inr ⟨T.heap.size, rfl, cls, ce, locs, hx U hWs.alike f1 (fun q hq => f2 q hq (fun z hz => nomatch hz)), hce, hcev, hcl, hWs, hall, hf⟩⟩
  refine st1 _ ?_
  show Steps p.tables e below (T1.setTop { method := m, pc := pc + 3, locals := ls, stack := .ref T.heap.size :: rest, locked := none }) _
  jvm_step X₁.here [X₁.here.top, hexec, d3', Value.category]
  rcases hil with ⟨rfl, rfl⟩ | ⟨rfl, rfl⟩
  · exact X₁.ldcString hexec (own := own) (text := text) (index := is) (a := sa) hown' hstr'.1 hstr'.2
      (g := { method := m, pc := pc + 4, locals := ls, stack := .ref T.heap.size :: .ref T.heap.size :: rest, locked := none }) rfl d4' _ hsteps
  · exact X₁.ldcStringW hexec (own := own) (text := text) (index := is) (a := sa) hown' hstr'.1 hstr'.2
      (g := { method := m, pc := pc + 4, locals := ls, stack := .ref T.heap.size :: .ref T.heap.size :: rest, locked := none }) rfl d4' _ hsteps
end AT5
end
/-! part 19.tabs -/
section
/-! What the tables say of the methods, the calls, the throws: by evaluation -/
theorem a_chk_app (A B : List (ByteArray × List (Nat × Instr × Nat))) : a_chk (A ++ B) = (a_chk A && a_chk B) := List.all_append
theorem a_chk_prog : a_chk a_prog = true := by
  unfold a_prog
  simp only [a_chk_app, a_chk_prog_0, a_chk_prog_1, a_chk_prog_2, a_chk_prog_3, a_chk_prog_4, a_chk_prog_5, a_chk_prog_6, a_chk_prog_7, a_chk_prog_8, a_chk_prog_9, a_chk_prog_10, a_chk_prog_11, a_chk_prog_12, a_chk_prog_13, a_chk_prog_14, a_chk_prog_15, Bool.and_self]
theorem a_find_in {l : List (Nat × Instr × Nat)} {pc : Nat} {x : Instr × Nat} (h : (l.find? (fun e => Nat.beq e.1 pc)).map (fun e => e.2) = some x) : (pc, x) ∈ l := by
  rw [Option.map_eq_some_iff] at h
  obtain ⟨e, h1, h2⟩ := h
  have h3 : Nat.beq e.1 pc = true := List.find?_some (p := fun e : Nat × Instr × Nat => Nat.beq e.1 pc) h1
  have h3 : e.1 = pc := Nat.eq_of_beq_eq_true h3
  have h4 := List.mem_of_find?_eq_some h1
  obtain ⟨e1, e2⟩ := e
  simp only at h2 h3
  subst h2; subst h3
  exact h4
theorem a_lawC_in : ∀ c ∈ a_lawC, ∀ e ∈ c.2, e ∈ a_lawP := by
  have e : a_lawP = (a_lawC.map fun c => c.2).flatten := by
    simp only [a_lawC, a_lawP, List.map_cons, List.map_nil, List.flatten_cons, List.flatten_nil, List.append_nil]
  rw [e]
  exact fun c hc x hx => List.mem_flatten.mpr ⟨c.2, List.mem_map.mpr ⟨c, hc, rfl⟩, hx⟩
theorem a_ins_in {mi pc : Nat} {i : Instr} {len : Nat} (h : a_ins mi pc = some (i, len)) : (pc, i, len) ∈ a_codeL mi := by
  unfold a_ins at h
  unfold a_codeL
  by_cases hm : mi = 301
  · rw [if_pos hm]
    rw [hm] at h
    have h : a_insL pc = some (i, len) := h
    unfold a_insL at h
    split at h
    · rename_i c hc
      exact a_lawC_in c (List.mem_of_find?_eq_some hc) _ (a_find_in h)
    · cases h
  · rw [if_neg hm]
    have hb : Nat.beq mi 301 = false := by
      cases e : Nat.beq mi 301 with
      | false => rfl
      | true => exact absurd (Nat.eq_of_beq_eq_true e) hm
    rw [hb] at h
    exact a_find_in h
theorem a_code_in {mi : Nat} {e : Nat × Instr × Nat} (h : e ∈ a_codeL mi) : mi ≠ 301 → (a_codeB mi, a_codeL mi) ∈ a_prog := by
  intro hm
  unfold a_codeL at h
  rw [if_neg hm] at h
  unfold a_codeB a_codeL
  rw [if_neg hm, if_neg hm]
  exact a_prow_in h
theorem a_ins_ok {mi pc : Nat} {i : Instr} {len : Nat} (h : a_ins mi pc = some (i, len)) : decode (a_codeB mi) pc = .ok (i, len) := by
  have h1 := a_ins_in h
  have key : ∀ (b : ByteArray) (L : List (Nat × Instr × Nat)), a_chk [(b, L)] = true → (pc, i, len) ∈ L → decode b pc = .ok (i, len) := by
    intro b L hc hm
    simp only [a_chk, List.all_cons, List.all_nil, Bool.and_true] at hc
    have := List.all_eq_true.mp hc _ hm
    exact of_decide_eq_true this
  by_cases hm : mi = 301
  · subst hm
    have e1 : a_codeL 301 = a_lawP := if_pos rfl
    have e2 : a_codeB 301 = code := if_pos rfl
    rw [e1] at h1
    rw [e2]
    exact key _ _ a_chk_lawP h1
  · have h2 := a_code_in h1 hm
    refine key _ (a_codeL mi) ?_ h1
    have := List.all_eq_true.mp a_chk_prog _ h2
    simp only [a_chk, List.all_cons, List.all_nil, Bool.and_true]
    exact this
def a_isSw (i : Instr) : Bool := match i with
  | .tableswitch .. => true
  | _ => false
def a_lenB (L : List (Nat × Instr × Nat)) : Bool := L.all fun e => a_isSw e.2.1 || decide (e.2.2 = a_len e.2.1)
theorem a_len_law : a_lenB a_lawP = true := by decide +kernel
theorem a_len_prog : (a_prog.all fun m => a_lenB m.2) = true := by decide +kernel
theorem a_ins_len {mi pc : Nat} {i : Instr} {len : Nat} (h : a_ins mi pc = some (i, len)) (hs : a_isSw i = false) : len = a_len i := by
  have h1 := a_ins_in h
  have key : a_lenB (a_codeL mi) = true := by
    by_cases hm : mi = 301
    · subst hm
      have e1 : a_codeL 301 = a_lawP := if_pos rfl
      rw [e1]; exact a_len_law
    · exact List.all_eq_true.mp a_len_prog _ (a_code_in h1 hm)
  have := List.all_eq_true.mp key _ h1
  simp only [hs, Bool.false_or, decide_eq_true_eq] at this
  exact this
end
