/-- one instruction, the end of the walk behind it to be found -/
theorem a_instrE {tb : Tables} [Ours tb] {e : Env} {below : List Frame} {s : State} {f : JFrame} {c : Code} {i : Instr} {len : Nat} {Qf : State → Prop} (h : At s f.method c below) (hd : decode c.code f.pc = .ok (i, len))
    (hw : wpRun (tb.exec i) (fun _ s₁ _ => ∀ acts, ∃ t, Steps tb e below (afterInstr e len (.ok () s₁ acts)).1 t ∧ Qf t) (fun _ _ _ => False) e (s.setTop f)) : ∃ t, Steps tb e below (s.setTop f) t ∧ Qf t := by
  have key : ∀ t, Steps tb e below (stepThread tb e (s.setTop f)).1 t → Steps tb e below (s.setTop f) t := fun t ht =>
    Steps.head ⟨h.running, by rw [State.curStatus?_setTop]; exact h.runnable, by rw [State.alone_setTop]; exact h.alone⟩ (h.within f) ht
  rw [stepThread_java (State.frames_setTop' f h.top) h.plain h.code hd] at key
  have hw := (wpRun_iff_run _ _ _ _ _).mp hw
  cases hr : (tb.exec i).run e (s.setTop f) with
  | ok a s₁ acts =>
    rw [hr] at hw key
    obtain ⟨t, h1, h2⟩ := hw acts
    exact ⟨t, key t h1, h2⟩
  | ctl x s₁ acts =>
    rw [hr] at hw
    cases x <;> exact hw.elim
/-- 'multianewarray': class, pool number, the outer component type -/
def a_mtb : List (Nat × Nat × FieldType) := [(1, 22, .array .int), (6, 24, .array .int), (13, 86, .array .boolean), (13, 88, .array .int)]
theorem a_mtb_ok : a_mtb.all (fun e => (a_of a_arr e.1).any (fun q => q.1 == e.2.1 && q.2.1 == "[" ++ e.2.2.toString)) = true := by decide +kernel
def a_comps : FieldType → List FieldType
  | .array t => .array t :: a_comps t
  | t => [t]
def a_mty (own idx : Nat) : Option FieldType := (a_mtb.find? (fun e => e.1 == own && e.2.1 == idx)).map (fun e => e.2.2)
def a_st6 (own : Nat) (i : Instr) (pc : Nat) (al : AL) (st : List Value) (h : AH) : Option AS := match i, st with
  | .multianewarray idx 2, .int k :: .int n :: st => match a_mty own idx with
    | some t => if a_tys (a_comps t) [n.toNatClampNeg, k.toNatClampNeg] = true ∧ ¬ n < 0 ∧ ¬ k < 0 then some (pc + 4, al, .ref h.length :: st, a_mk (a_comps t) [n.toNatClampNeg, k.toNatClampNeg] h, a_mkC [n.toNatClampNeg, k.toNatClampNeg], a_mkS [n.toNatClampNeg, k.toNatClampNeg]) else none
    | none => none
  | .multianewarray idx 3, .int k :: .int o :: .int n :: st => match a_mty own idx with
    | some t => if a_tys (a_comps t) [n.toNatClampNeg, o.toNatClampNeg, k.toNatClampNeg] = true ∧ ¬ n < 0 ∧ ¬ o < 0 ∧ ¬ k < 0 then some (pc + 4, al, .ref h.length :: st, a_mk (a_comps t) [n.toNatClampNeg, o.toNatClampNeg, k.toNatClampNeg] h, a_mkC [n.toNatClampNeg, o.toNatClampNeg, k.toNatClampNeg], a_mkS [n.toNatClampNeg, o.toNatClampNeg, k.toNatClampNeg]) else none
    | none => none
  | _, _ => none
theorem a_mty_ok {own idx : Nat} {t : FieldType} (h : a_mty own idx = some t) : Cond.classLink (a_cN own) idx ("[" ++ t.toString) ∈ a_wG := by
  unfold a_mty at h
  rw [Option.map_eq_some_iff] at h
  obtain ⟨q, h1, rfl⟩ := h
  have h2 := List.find?_some h1
  simp only [Bool.and_eq_true, beq_iff_eq] at h2
  have h3 := List.all_eq_true.mp a_mtb_ok q (List.mem_of_find?_eq_some h1)
  rw [List.any_eq_true] at h3
  obtain ⟨r, hr, h4⟩ := h3
  simp only [Bool.and_eq_true, beq_iff_eq] at h4
  have h5 := a_all_of a_arr_ok hr
  have h6 := a_at_in h5
  rw [h4.1, h4.2, h2.1, h2.2] at h6
  exact h6
theorem a_comps_hd {t : FieldType} : (a_comps t).head? = some t := by cases t <;> rfl
theorem a_comps_ok {t : FieldType} {n : Nat} {ns : List Nat} (h : a_tys (a_comps t) (n :: ns) = true) : a_tyok t = true := by
  have hh := a_comps_hd (t := t)
  cases hc : a_comps t with
  | nil => rw [hc] at hh; cases hh
  | cons u us =>
    rw [hc] at hh h
    cases hh
    cases us <;> cases ns <;> simp [a_tys] at h <;> exact h.1
section AM3
variable {p : Program} {l : Launch} {e : Env} {R : Room} {s : State} {m : MethodId} {args : Array Value} {below : List Frame} {meth : Method} {c : Code} {H : Heap} {locs : List Loc} {cells slots : Nat} {Q : State → Prop} {cc : ByteArray} {pc : Nat} {ls : Array Slot} {rest : List Value} {i : Instr} {D : AD} {B : Nat} {ad : Nat → Nat} {h : AH} {H0 : Heap}
set_option maxHeartbeats 2000000 in
theorem a_multi_ok (hx : p.tables.exec = Jvm.exec) (hb : c.code = cc) {own idx dims : Nat} {t : FieldType} (hown : s.vm.findClass (a_cN own) = some m.cls) (hts : ∀ w ∈ a_wG, w.before args s = true) (hKN : a_KN D s) (hB0 : B ≤ H0.size) (hH : a_H D B ad h H) (hS : va_S (fun q => B ≤ q) H0 H locs) (hw : a_wh h)
    (cs : List Int32) (hdg : decode cc pc = .ok (.multianewarray idx dims, 4)) (hmt : a_mty own idx = some t) (ht : a_tys (a_comps t) (cs.map fun n => n.toNatClampNeg) = true) (h0 : ∀ n ∈ cs, ¬ n < 0)
    (hcs : (dims = 2 ∧ ∃ n k, cs = [n, k]) ∨ (dims = 3 ∧ ∃ n o k, cs = [n, o, k]))
    (hRc : cells + a_mkC (cs.map fun n => n.toNatClampNeg) ≤ R.cells) (hRs : slots + a_mkS (cs.map fun n => n.toNatClampNeg) ≤ R.slots)
    (kk : ∀ (ad' : Nat → Nat) (H' : Heap) (locs' : List Loc), a_same h.length ad ad' → a_H D B ad' (a_mk (a_comps t) (cs.map fun n => n.toNatClampNeg) h) H' → va_S (fun q => B ≤ q) H0 H' locs' → W p l e R s m args below meth c H' locs' (cells + a_mkC (cs.map fun n => n.toNatClampNeg)) (slots + a_mkS (cs.map fun n => n.toNatClampNeg)) Q (F0 m (pc + 4) ls (.ref (ad' h.length) :: rest))) : W p l e R s m args below meth c H locs cells slots Q (F0 m pc ls ((cs.map Value.int).reverse ++ rest)) := by
  intro T hT X
  subst hT
  have hpl : e.platform.magicAccessors = ({} : Platform).magicAccessors := by rw [X.admits.platform]
  have hcl0 := hts _ (a_mty_ok hmt)
  have htok : a_tyok t = true := by
    rcases hcs with ⟨-, n, k, rfl⟩ | ⟨-, n, o, k, rfl⟩ <;> exact a_comps_ok ht
  obtain ⟨t1, t2, t3⟩ := a_tyok_ok htok
  obtain ⟨c0, hfc0, hcl⟩ := Cond.classLink_spec hown hcl0 e.platform hpl
  have ec : c0 = D.2.2 (a_atag t) := Option.some.inj (hfc0.symm.trans (hKN _ _ t3 t1).1)
  subst ec
  obtain ⟨hg₁, hwarm₁, hready₁⟩ := State.classEntry (e := e) X.warmed hcl
  generalize T.vm.noted m.cls idx (.cls (D.2.2 (a_atag t))) = vm₁ at hg₁ hwarm₁ hready₁
  have X₁ := X.noted hwarm₁
  refine a_instrE (f := F0 m pc ls ((cs.map Value.int).reverse ++ rest)) X.here (by rw [hb]; exact hdg) ?_
  rw [hx]
  show wp (Op.multianewarray.sem idx dims) _ _ e false [] _
  have eS : ((T.setTop (F0 m pc ls ((cs.map Value.int).reverse ++ rest))).setVm vm₁).setTop (F0 m pc ls rest) = (T.setVm vm₁).setTop (F0 m pc ls rest) := by
    show ((T.setVm vm₁).setTop _).setTop _ = _
    rw [State.setTop_setTop]
  have hmake : ∀ (d : Bool) (acts : List Action), wp (Op.multianewarray.make (D.2.2 (a_atag t)) cs) (fun a => wp (do mark "op.multianewarray"; pushRef a) (fun _ _ _ s₁ => ∀ acts, ∃ t, Steps p.tables e below (afterInstr e 4 (.ok () s₁ acts)).1 t ∧ Q t) (fun _ _ _ => False) e) (fun _ _ _ => False) e d acts ((T.setVm vm₁).setTop (F0 m pc ls rest)) := by
    intro d acts
    refine a_make_ok hKN hB0 _ (a_comps t) cs ad h locs cells slots _ d acts _ t ht a_comps_hd rfl h0 ⟨T.setVm vm₁, rfl, X₁, hH, hw, hS⟩ hRc hRs (fun S' ad' locs' d' acts' hsame hG' => ?_)
    obtain ⟨T', rfl, X', hH', hw', hS'⟩ := hG'
    simp only [wp_bind', W.mark, W.pushRef, State.topJava?_setTop' _ X'.here.top, Option.some.injEq, exists_eq_left', State.setTop_setTop]
    intro acts2
    rw [afterInstr_ok]
    exact kk ad' T'.heap locs' hsame hH' hS' T' rfl X'
  rcases hcs with ⟨rfl, n, k, rfl⟩ | ⟨rfl, n, o, k, rfl⟩
  · have hres : (T.setTop (F0 m pc ls (([n, k].map Value.int).reverse ++ rest))).method? = some m := State.method?_setTop _ X.here.top
    simp only [Op.multianewarray.sem, wp_bind', W.resolveClassAt_links hres hg₁]
    rw [W.popN, if_neg (by decide)]
    refine ⟨F0 m pc ls (([n, k].map Value.int).reverse ++ rest), State.topJava?_setTop' (s := T.setVm vm₁) _ X.here.top, [.int n, .int k], rest, rfl, rfl, ?_⟩
    simp only [List.mapM_cons, List.mapM_nil, wp_bind', wp_pure']
    have hm := hmake true []
    simp only [wp_bind'] at hm
    rw [← eS] at hm
    exact hm
  · have hres : (T.setTop (F0 m pc ls (([n, o, k].map Value.int).reverse ++ rest))).method? = some m := State.method?_setTop _ X.here.top
    simp only [Op.multianewarray.sem, wp_bind', W.resolveClassAt_links hres hg₁]
    rw [W.popN, if_neg (by decide)]
    refine ⟨F0 m pc ls (([n, o, k].map Value.int).reverse ++ rest), State.topJava?_setTop' (s := T.setVm vm₁) _ X.here.top, [.int n, .int o, .int k], rest, rfl, rfl, ?_⟩
    simp only [List.mapM_cons, List.mapM_nil, wp_bind', wp_pure']
    have hm := hmake true []
    simp only [wp_bind'] at hm
    rw [← eS] at hm
    exact hm
end AM3
