/-! Arrays of arrays: 'multianewarray' of two and of three dimensions (after the library's MA1, MA2, which tell of two, without their heap) -/
/-- the cells of an array of component types tys and lengths ns -/
def a_setR (h : AH) (a i b : Nat) : AH := match h[a]? with
  | some (t, vs) => h.set a (t, vs.set i (.ref b))
  | none => h
def a_mkL (f : AH → AH) (a : Nat) : Nat → Nat → AH → AH
  | 0, _, h => h
  | k + 1, i, h => a_mkL f a k (i + 1) (a_setR (f h) a i h.length)
def a_mk : List FieldType → List Nat → AH → AH
  | ty :: tys, n :: n' :: ns, h => a_mkL (a_mk tys (n' :: ns)) h.length n 0 (h ++ [a_row ty n])
  | ty :: _, [n], h => h ++ [a_row ty n]
  | _, _, h => h
def a_mkC : List Nat → Nat
  | n :: n' :: ns => 1 + n * a_mkC (n' :: ns)
  | _ => 1
def a_mkS : List Nat → Nat
  | n :: n' :: ns => n + n * a_mkS (n' :: ns)
  | [n] => n
  | [] => 0
/-- component types of an array's dimensions, one within the other -/
def a_tys : List FieldType → List Nat → Bool
  | ty :: ty' :: tys, n :: n' :: ns => a_tyok ty && (decide (n ≤ 60000) && (decide (ty = .array ty') && a_tys (ty' :: tys) (n' :: ns)))
  | ty :: _, [n] => a_tyok ty && decide (n ≤ 60000)
  | _, _ => false
theorem a_row_tag {ty : FieldType} {n : Nat} : (a_row ty n).1 = a_atag ty := rfl
theorem a_bytes {ty : FieldType} : componentBytes ty ≤ 8 := by cases ty <;> first | decide | (show (4 : Nat) ≤ 8; decide)
theorem a_fitd {ty : FieldType} : fits ty (defaultValue ty) = true ∧ (defaultValue ty).isDefault = true := by cases ty <;> exact ⟨rfl, rfl⟩
section AM0
variable {E : CtlPost} {e : Env} {d : Bool} {acts : List Action} {s : State}
theorem a_wpNew {c comp : ClassId} {k : Class} {type : FieldType} {len : Nat} {init : Value} (hk : s.vm.classes[c]? = some k) (hkind : k.kind = .array comp type)
    (hlimit : ¬ len > e.platform.arrayLengthLimit) (hheap : ¬ len * componentBytes type > e.platform.maxHeapBytes) (hfit : fits type init = true) (hdef : init.isDefault = true) {Q : Addr → Pre}
    (h1 : s.heap.size < e.platform.maxCells) (h2 : s.slotsUsed + len ≤ e.platform.maxSlots)
    (hq : Q s.heap.size d acts (s.pushCell { cls := c, slots := Array.replicate len init, vm := .none })) :
    wp (Jvm.newArray c len init) Q E e d acts s := by
  have hfits : ∀ i v, (Array.replicate len init)[i]? = some v → s.fitsSlot c .none i v = true := by
    intro i v hv
    simp only [Array.getElem?_replicate] at hv
    split at hv
    · cases hv; simp [State.fitsSlot, State.slotType?, hk, hkind, hfit]
    · cases hv
  have hda : allocActs (Array.replicate len init) s.heap.size acts = acts := by
    have hall : ((Array.replicate len init).all (·.isDefault)) = true := by
      rw [Array.all_replicate]; split <;> simp [hdef]
    unfold allocActs; rw [if_pos hall]
  simp only [Jvm.newArray, Jvm.arrayFits, wp_bind', W.ask, W.ite, hlimit, if_false, wp_pure', W.theClass, hk, hkind, hheap, W.alloc, W.stop, Option.some.injEq, exists_eq_left', Array.size_replicate, hda]
  rw [if_neg (by omega)]
  exact ⟨h1, h2, hfits, hq⟩
end AM0
section AM
variable {p : Program} {l : Launch} {e : Env} {R : Room} {s : State} {m : MethodId} {args : Array Value} {below : List Frame} {meth : Method} {c : Code} {H : Heap} {locs : List Loc} {cells slots : Nat} {D : AD} {B : Nat} {ad : Nat → Nat} {h : AH} {H0 : Heap} {g : JFrame} {E : CtlPost} {d : Bool} {acts : List Action}
def a_G (p : Program) (l : Launch) (e : Env) (R : Room) (s : State) (m : MethodId) (args : Array Value) (below : List Frame) (meth : Method) (c : Code) (D : AD) (B : Nat) (H0 : Heap) (g : JFrame) (ad : Nat → Nat) (h : AH) (locs : List Loc) (cells slots : Nat) (S : State) : Prop :=
  ∃ T : State, S = T.setTop g ∧ Stand p l e R s m args below meth c T locs cells slots ∧ a_H D B ad h T.heap ∧ a_wh h ∧ va_S (fun q => B ≤ q) H0 T.heap locs
theorem a_wh.push1 {x : AC} (w : a_wh h) (hx : ∀ v, v ∈ x.2 → a_ok h.length v) : a_wh (h ++ [x]) := (a_wf.push1 (al := []) (st := []) ⟨fun i v hi => by simp [a_get] at hi, fun v hv => absurd hv List.not_mem_nil, w⟩ hx).2.2
theorem a_new1 {ty : FieldType} {len : Nat} {S : State} (hKN : a_KN D s) (ht : a_tyok ty = true) (hlen : len ≤ 60000) (hB0 : B ≤ H0.size) (hG : a_G p l e R s m args below meth c D B H0 g ad h locs cells slots S) (hc : cells + 1 ≤ R.cells) (hs : slots + len ≤ R.slots) {Q : Addr → Pre}
    (hq : ∀ (S' : State) (q0 : Nat), a_G p l e R s m args below meth c D B H0 g (a_up ad h.length q0) (h ++ [a_row ty len]) locs (cells + 1) (slots + len) S' → Q q0 d acts S') : wp (Jvm.newArray (D.2.2 (a_atag ty)) len (defaultValue ty)) Q E e d acts S := by
  obtain ⟨T, rfl, X, hH, hw, hS⟩ := hG
  obtain ⟨t1, t2, t3⟩ := a_tyok_ok ht
  obtain ⟨-, kA, comp, k1, k2, -⟩ := hKN _ _ t3 t1
  obtain ⟨k', hk', he⟩ := X.warmed.alike.2.2 _ _ k1
  obtain ⟨hr1, hr2⟩ := X.roomAbove hc hs
  have hmul : len * componentBytes ty ≤ len * 8 := Nat.mul_le_mul_left len a_bytes
  have hlimit : ¬ len > e.platform.arrayLengthLimit := by rw [Launch.admits_arrayLengthLimit X.admits]; omega
  have hheap : ¬ len * componentBytes ty > e.platform.maxHeapBytes := by rw [Launch.admits_maxHeapBytes X.admits]; omega
  refine a_wpNew (comp := comp) (type := ty) (s := T.setTop g) hk' (by rw [he]; exact k2) hlimit hheap a_fitd.1 a_fitd.2 (by show T.heap.size < _; omega) hr2 ?_
  refine hq _ T.heap.size ⟨T.pushCell { cls := D.2.2 (a_atag ty), slots := Array.replicate len (defaultValue ty), vm := .none }, rfl, ?_, ?_, ?_, ?_⟩
  · have X2 := X.pushed { cls := D.2.2 (a_atag ty), slots := Array.replicate len (defaultValue ty), vm := .none }
    simpa using X2
  · exact hH.push hw (Nat.le_trans hB0 hS.1) a_row_ok (a_row_C t1) (State.heap_pushCell_size _ _) (fun q hq => State.heap_pushCell_of_lt _ _ hq)
  · exact hw.push1 a_row_ok
  · exact a_S.grow hS (by rw [size_pushCell]; omega) (fun q hq => State.heap_pushCell_of_lt _ _ hq)
theorem a_Gcls {ty : FieldType} {S : State} (hKN : a_KN D s) (ht : a_tyok ty = true) (hG : a_G p l e R s m args below meth c D B H0 g ad h locs cells slots S) : ∃ (k : Class) (comp : ClassId), S.vm.classes[D.2.2 (a_atag ty)]? = some k ∧ k.kind = .array comp ty ∧ ∀ ty', ty = .array ty' → a_tyok ty' = true → comp = D.2.2 (a_atag ty') := by
  obtain ⟨T, rfl, X, -⟩ := hG
  obtain ⟨t1, t2, t3⟩ := a_tyok_ok ht
  obtain ⟨-, kA, comp, k1, k2, -, k4⟩ := hKN _ _ t3 t1
  obtain ⟨k', hk', he⟩ := X.warmed.alike.2.2 _ _ k1
  refine ⟨k', comp, hk', by rw [he]; exact k2, fun ty' e1 e2 => ?_⟩
  obtain ⟨u1, u2, u3⟩ := a_tyok_ok e2
  exact Option.some.inj ((k4 ty' e1).symm.trans (hKN _ _ u3 u1).1)
theorem a_setR_len (h : AH) (a i b : Nat) : (a_setR h a i b).length = h.length := by
  unfold a_setR
  split
  · rw [List.length_set]
  · rfl
theorem a_setR_ne (h : AH) {a i b j : Nat} (hj : j ≠ a) : (a_setR h a i b)[j]? = h[j]? := by
  unfold a_setR
  split
  · rw [List.getElem?_set_ne (Ne.symm hj)]
  · rfl
theorem a_setR_ok {ty : FieldType} {S : State} {a i b : Nat} {vs : List Value} (hKN : a_KN D s) (ht : a_tyok ty = true) (href : ty.isReference = true) (hG : a_G p l e R s m args below meth c D B H0 g ad h locs cells slots S) (ha : h[a]? = some (a_atag ty, vs)) (hi : i < vs.length) (hb : b < h.length) {Q : Unit → Pre}
    (hq : ∀ (S' : State) (locs' : List Loc) (d' : Bool) (acts' : List Action), a_G p l e R s m args below meth c D B H0 g ad (a_setR h a i b) locs' cells slots S' → Q () d' acts' S') : wp (Jvm.writeLoc (ad a) i (.ref (ad b))) Q E e d acts S := by
  obtain ⟨kS, comp, hk, hkind, -⟩ := a_Gcls hKN ht hG
  obtain ⟨T, rfl, X, hH, hw, hS⟩ := hG
  obtain ⟨t1, t2, t3⟩ := a_tyok_ok ht
  obtain ⟨cell, c1, c2⟩ := hH.1 a _ ha
  obtain ⟨d1, d2, d3, d4⟩ := c2.arr (show 19 ≤ a_atag ty by omega)
  have hal := (List.getElem?_eq_some_iff.mp ha).1
  simp only [W.writeLoc]
  refine ⟨cell, c1, d2.1, by rw [d3]; exact hi, ?_, ?_⟩
  · have hfit : fits ty (.ref (ad b)) = true := by cases ty <;> simp [FieldType.isReference] at href <;> rfl
    rw [d1]
    have hk' : T.vm.classes[D.2.2 (a_atag ty)]? = some kS := hk
    cases hvm : cell.vm <;> first | exact absurd hvm (d2.2 _) | simp [State.fitsSlot, State.slotType?, hk', hkind, hfit]
  · refine hq _ (locs ++ [⟨ad a, i⟩]) _ _ ⟨T.setCell (ad a) (cell.setSlot i (.ref (ad b))), rfl, X.stored c1 i (.ref (ad b)), ?_, ?_, ?_⟩
    · unfold a_setR
      rw [ha]
      refine hH.set ha (State.heap_setCell_self c1) (c2.setArr (show 19 ≤ a_atag ty by omega) hi (.ref b)) (fun q hq => State.heap_setCell_other (Ne.symm hq))
    · unfold a_setR
      rw [ha]
      exact (a_wf.upd1 (al := []) (st := []) ⟨fun i v hi => by simp [a_get] at hi, fun v hv => absurd hv List.not_mem_nil, hw⟩ ha (fun k hk => by cases hk; exact hb)).2.2
    · exact hS.put (size_setCell _ _ _) (fun q hq => State.heap_setCell_other (Ne.symm hq)) (hH.2.2 a _ ha t2)
end AM
/-- what is made lies behind what was there -/
def a_keepF (f : AH → AH) : Prop := ∀ h : AH, h.length < (f h).length ∧ ∀ j, j < h.length → (f h)[j]? = h[j]?
theorem a_mkL_keep {f : AH → AH} (hf : a_keepF f) (a : Nat) : ∀ (k i : Nat) (h : AH), h.length ≤ (a_mkL f a k i h).length ∧ ∀ j, j < h.length → j ≠ a → (a_mkL f a k i h)[j]? = h[j]?
  | 0, i, h => ⟨Nat.le_refl _, fun _ _ _ => rfl⟩
  | k + 1, i, h => by
    obtain ⟨g1, g2⟩ := hf h
    obtain ⟨r1, r2⟩ := a_mkL_keep hf a k (i + 1) (a_setR (f h) a i h.length)
    rw [a_setR_len] at r1 r2
    refine ⟨Nat.le_trans (Nat.le_of_lt g1) r1, fun j hj hne => ?_⟩
    show (a_mkL f a k (i + 1) (a_setR (f h) a i h.length))[j]? = _
    rw [r2 j (Nat.lt_trans hj g1) hne, a_setR_ne _ hne, g2 j hj]
theorem a_mk_keep : ∀ (ns : List Nat) (tys : List FieldType), a_tys tys ns = true → a_keepF (a_mk tys ns)
  | [], tys, ht => by rcases tys with _ | ⟨_, _ | ⟨_, _⟩⟩ <;> cases ht
  | [n], [], ht => by cases ht
  | [n], ty :: tys, ht => fun h => by
    have e : a_mk (ty :: tys) [n] h = h ++ [a_row ty n] := by cases tys <;> rfl
    rw [e]
    exact ⟨by simp, fun j hj => List.getElem?_append_left hj⟩
  | n :: n' :: ns, [], ht => by cases ht
  | n :: n' :: ns, [ty], ht => by cases ht
  | n :: n' :: ns, ty :: ty' :: tys, ht => by
    have ht' : a_tys (ty' :: tys) (n' :: ns) = true := by
      simp only [a_tys, Bool.and_eq_true] at ht
      exact ht.2.2.2
    have ih := a_mk_keep (n' :: ns) (ty' :: tys) ht'
    intro h
    have e : a_mk (ty :: ty' :: tys) (n :: n' :: ns) h = a_mkL (a_mk (ty' :: tys) (n' :: ns)) h.length n 0 (h ++ [a_row ty n]) := rfl
    rw [e]
    obtain ⟨r1, r2⟩ := a_mkL_keep ih h.length n 0 (h ++ [a_row ty n])
    rw [List.length_append, List.length_singleton] at r1 r2
    exact ⟨by omega, fun j hj => by rw [r2 j (by omega) (Nat.ne_of_lt hj), List.getElem?_append_left hj]⟩
section AM2
variable {p : Program} {l : Launch} {e : Env} {R : Room} {s : State} {m : MethodId} {args : Array Value} {below : List Frame} {meth : Method} {c : Code} {D : AD} {B : Nat} {H0 : Heap} {g : JFrame} {E : CtlPost}
set_option maxHeartbeats 2000000 in
theorem a_make_ok (hKN : a_KN D s) (hB0 : B ≤ H0.size) : ∀ (ns : List Nat) (tys : List FieldType) (cs : List Int32) (ad : Nat → Nat) (h : AH) (locs : List Loc) (cells slots : Nat) (S : State) (d : Bool) (acts : List Action) (Q : Addr → Pre) (ty : FieldType),
    a_tys tys ns = true → tys.head? = some ty → cs.map (fun n => n.toNatClampNeg) = ns → (∀ n ∈ cs, ¬ n < 0) → a_G p l e R s m args below meth c D B H0 g ad h locs cells slots S → cells + a_mkC ns ≤ R.cells → slots + a_mkS ns ≤ R.slots →
    (∀ (S' : State) (ad' : Nat → Nat) (locs' : List Loc) (d' : Bool) (acts' : List Action), a_same h.length ad ad' → a_G p l e R s m args below meth c D B H0 g ad' (a_mk tys ns h) locs' (cells + a_mkC ns) (slots + a_mkS ns) S' → Q (ad' h.length) d' acts' S') →
    wp (Op.multianewarray.make (D.2.2 (a_atag ty)) cs) Q E e d acts S
  | [], tys, cs, ad, h, locs, cells, slots, S, d, acts, Q, ty0, ht, _, _, _, _, _, _, _ => by rcases tys with _ | ⟨_, _ | ⟨_, _⟩⟩ <;> cases ht
  | [n], [], cs, ad, h, locs, cells, slots, S, d, acts, Q, ty0, ht, _, _, _, _, _, _, _ => by cases ht
  | n :: n' :: ns, [], cs, ad, h, locs, cells, slots, S, d, acts, Q, ty0, ht, _, _, _, _, _, _, _ => by cases ht
  | n :: n' :: ns, [_], cs, ad, h, locs, cells, slots, S, d, acts, Q, ty0, ht, _, _, _, _, _, _, _ => by cases ht
  | [n], ty :: tys, cs, ad, h, locs, cells, slots, S, d, acts, Q, ty0, ht, hhd, hcs, h0, hG, hc, hs, hq => by
    cases hhd
    have ht1 : a_tyok ty = true ∧ n ≤ 60000 := by
      cases tys <;> simpa [a_tys] using ht
    obtain ⟨c0, rfl⟩ : ∃ c0, cs = [c0] := by
      rcases cs with _ | ⟨c0, _ | ⟨c1, cs⟩⟩ <;> simp at hcs
      exact ⟨c0, rfl⟩
    simp only [List.map_cons, List.map_nil, List.cons.injEq, and_true] at hcs
    subst hcs
    have hn := h0 c0 List.mem_cons_self
    obtain ⟨k, comp, hk, hkind, -⟩ := a_Gcls hKN ht1.1 hG
    rw [Op.multianewarray.make]
    simp only [wp_bind', W.ite, hn, if_false, wp_pure', W.theClass, hk, hkind, Option.some.injEq, exists_eq_left']
    refine a_new1 hKN ht1.1 ht1.2 hB0 hG hc hs (fun S' q0 hG' => ?_)
    have e : a_mk (ty :: tys) [c0.toNatClampNeg] h = h ++ [a_row ty c0.toNatClampNeg] := by cases tys <;> rfl
    have k1 := hq S' (a_up ad h.length q0) locs d acts (fun k hk => a_up_lt hk) (by rw [e]; exact hG')
    rw [a_up_n] at k1
    exact k1
  | n :: n' :: ns, ty :: ty' :: tys, cs, ad, h, locs, cells, slots, S, d, acts, Q, ty0, ht, hhd, hcs, h0, hG, hc, hs, hq => by
    cases hhd
    simp only [a_tys, Bool.and_eq_true, decide_eq_true_eq] at ht
    obtain ⟨ht1, hn6, hty, ht2⟩ := ht
    obtain ⟨c0, cs, rfl⟩ : ∃ c0 cs', cs = c0 :: cs' := by
      cases cs with
      | nil => simp at hcs
      | cons c0 cs' => exact ⟨c0, cs', rfl⟩
    simp only [List.map_cons, List.cons.injEq] at hcs
    obtain ⟨hc0, hcs⟩ := hcs
    subst hc0
    obtain ⟨c1, cs, rfl⟩ : ∃ c1 cs', cs = c1 :: cs' := by
      cases cs with
      | nil => simp at hcs
      | cons c0 cs' => exact ⟨c0, cs', rfl⟩
    have hn := h0 c0 List.mem_cons_self
    have ht' : a_tyok ty' = true := by
      cases tys <;> cases ns <;> simp [a_tys] at ht2 <;> first | exact ht2.1 | exact ht2.1
    obtain ⟨k, comp, hk, hkind, hcomp⟩ := a_Gcls hKN ht1 hG
    have hcomp' := hcomp ty' hty ht'
    subst hcomp'
    have href : ty.isReference = true := by rw [hty]; rfl
    have hdef : defaultValue ty = .null := by rw [hty]; rfl
    have hfind : ((c1 :: cs).find? (· < 0)) = none := by
      rw [List.find?_eq_none]
      intro x hx
      simpa using h0 x (List.mem_cons_of_mem _ hx)
    have hC : a_mkC (c0.toNatClampNeg :: n' :: ns) = 1 + c0.toNatClampNeg * a_mkC (n' :: ns) := rfl
    have hSs : a_mkS (c0.toNatClampNeg :: n' :: ns) = c0.toNatClampNeg + c0.toNatClampNeg * a_mkS (n' :: ns) := rfl
    rw [hC] at hc
    rw [hSs] at hs
    rw [Op.multianewarray.make]
    simp only [wp_bind', W.ite, hn, if_false, wp_pure', W.theClass, hk, hkind, Option.some.injEq, exists_eq_left']
    rw [← hdef]
    refine a_new1 hKN ht1 hn6 hB0 hG (by omega) (by omega) (fun S1 q0 hG1 => ?_)
    simp only [hfind]
    rw [ite_self, wp_bind', Std.Legacy.Range.forIn_eq_forIn_range']
    have hsz : ([:c0.toNatClampNeg] : Std.Legacy.Range).size = c0.toNatClampNeg := by simp [Std.Legacy.Range.size]
    rw [hsz]
    show wp (forIn (List.range' 0 c0.toNatClampNeg 1) PUnit.unit _) _ E e d acts _
    have keep := a_mk_keep (n' :: ns) (ty' :: tys) ht2
    refine wp_forIn_inv (fun rest S' => ∃ (i : Nat) (ad' : Nat → Nat) (h' : AH) (locs' : List Loc) (vs : List Value), i ≤ c0.toNatClampNeg ∧ rest = List.range' i (c0.toNatClampNeg - i) ∧ a_same (h.length + 1) (a_up ad h.length q0) ad' ∧ h.length + 1 ≤ h'.length ∧ h'[h.length]? = some (a_atag ty, vs) ∧ vs.length = c0.toNatClampNeg ∧
        a_mkL (a_mk (ty' :: tys) (n' :: ns)) h.length c0.toNatClampNeg 0 (h ++ [a_row ty c0.toNatClampNeg]) = a_mkL (a_mk (ty' :: tys) (n' :: ns)) h.length (c0.toNatClampNeg - i) i h' ∧
        a_G p l e R s m args below meth c D B H0 g ad' h' locs' (cells + 1 + i * a_mkC (n' :: ns)) (slots + c0.toNatClampNeg + i * a_mkS (n' :: ns)) S') _ _
      ⟨0, _, _, locs, List.replicate c0.toNatClampNeg (defaultValue ty), Nat.zero_le _, rfl, a_same.rf, by simp, by rw [List.getElem?_append_right (Nat.le_refl _), Nat.sub_self]; rfl, List.length_replicate, rfl, by simpa using hG1⟩ ?_ ?_
    · rintro x rest S' d' acts' Q' ⟨i, ad', h', locs', vs, hi, hl, hsame, hlen, hroot, hvs, hmk, hG'⟩ hnext
      have hlt : i < c0.toNatClampNeg := by
        rcases Nat.lt_or_ge i c0.toNatClampNeg with q | q
        · exact q
        · rw [show c0.toNatClampNeg - i = 0 from by omega] at hl; simp at hl
      obtain ⟨rfl, hrest⟩ : x = i ∧ rest = List.range' (i + 1) (c0.toNatClampNeg - (i + 1)) := by
        rw [show c0.toNatClampNeg - i = (c0.toNatClampNeg - (i + 1)) + 1 from by omega, List.range'_succ] at hl
        exact ⟨(List.cons.inj hl).1, (List.cons.inj hl).2⟩
      have m1 : x * a_mkC (n' :: ns) + a_mkC (n' :: ns) ≤ c0.toNatClampNeg * a_mkC (n' :: ns) := by
        have := Nat.mul_le_mul_right (a_mkC (n' :: ns)) (show x + 1 ≤ c0.toNatClampNeg from hlt)
        rw [Nat.succ_mul] at this; exact this
      have m2 : x * a_mkS (n' :: ns) + a_mkS (n' :: ns) ≤ c0.toNatClampNeg * a_mkS (n' :: ns) := by
        have := Nat.mul_le_mul_right (a_mkS (n' :: ns)) (show x + 1 ≤ c0.toNatClampNeg from hlt)
        rw [Nat.succ_mul] at this; exact this
      simp only [wp_bind']
      refine a_make_ok hKN hB0 (n' :: ns) (ty' :: tys) (c1 :: cs) ad' h' locs' _ _ S' d' acts' _ ty' ht2 rfl hcs (fun n hn => h0 n (List.mem_cons_of_mem _ hn)) hG' (by omega) (by omega) (fun S2 ad2 locs2 d2 acts2 hsame2 hG2 => ?_)
      obtain ⟨kp1, kp2⟩ := keep h'
      have hr2 := kp2 h.length (by omega)
      rw [hroot] at hr2
      have hq0 : ad2 h.length = q0 := by rw [hsame2 _ (by omega), hsame _ (by omega), a_up_n]
      simp only [wp_bind']
      rw [← hq0]
      refine a_setR_ok hKN ht1 href hG2 hr2 (by rw [hvs]; exact hlt) kp1 (fun S3 locs3 d3 acts3 hG3 => ?_)
      simp only [wp_pure']
      refine hnext _ _ _ ⟨x + 1, ad2, a_setR (a_mk (ty' :: tys) (n' :: ns) h') h.length x h'.length, locs3, vs.set x (.ref h'.length), hlt, hrest, fun k hk => ?_, by rw [a_setR_len]; omega, ?_, by rw [List.length_set]; exact hvs, ?_, ?_⟩
      · rw [hsame2 k (by omega)]
        exact hsame k hk
      · unfold a_setR
        rw [hr2]
        dsimp only
        rw [List.getElem?_set_self (by omega)]
      · rw [hmk, show c0.toNatClampNeg - x = (c0.toNatClampNeg - (x + 1)) + 1 from by omega]
        rfl
      · rw [Nat.succ_mul, Nat.succ_mul, ← Nat.add_assoc, ← Nat.add_assoc]
        exact hG3
    · rintro S' d' acts' ⟨i, ad', h', locs', vs, hi, hl, hsame, hlen, hroot, hvs, hmk, hG'⟩
      have hiN : i = c0.toNatClampNeg := by
        rcases Nat.lt_or_ge i c0.toNatClampNeg with q | q
        · rw [show c0.toNatClampNeg - i = (c0.toNatClampNeg - (i + 1)) + 1 from by omega, List.range'_succ] at hl; cases hl
        · omega
      subst hiN
      simp only [wp_pure']
      have hq0 : ad' h.length = q0 := by rw [hsame _ (by omega), a_up_n]
      rw [← hq0]
      refine hq S' ad' locs' d' acts' (fun k hk => by rw [hsame k (by omega)]; exact a_up_lt hk) ?_
      rw [Nat.sub_self] at hmk
      have e : a_mk (ty :: ty' :: tys) (c0.toNatClampNeg :: n' :: ns) h = h' := hmk
      rw [e, hC, hSs, ← Nat.add_assoc, ← Nat.add_assoc]
      exact hG'
end AM2
