/-! part 08.heap -/
section
theorem a_set_len {α : Type} {l : List α} {a : Nat} {x : α} : (l.set a x).length = l.length := List.length_set ..
theorem a_H.set {D : AD} {B : Nat} {ad : Nat → Nat} {h : AH} {H H' : Heap} {a t : Nat} {vs vs' : List Value} {cell' : Cell} (hH : a_H D B ad h H) (ha : h[a]? = some (t, vs)) (e1 : H'[ad a]? = some cell') (hc : a_C D ad (t, vs') cell') (e3 : ∀ q, q ≠ ad a → H'[q]? = H[q]?) : a_H D B ad (h.set a (t, vs')) H' := by
  obtain ⟨h1, h2, h3⟩ := hH
  have hal := (List.getElem?_eq_some_iff.mp ha).1
  refine ⟨fun k x hk => ?_, fun j k hj hk => h2 j k (by rwa [a_set_len] at hj) (by rwa [a_set_len] at hk), fun k x hk ht => ?_⟩
  · rw [List.getElem?_set] at hk
    split at hk
    · rename_i e
      subst e
      (try rw [if_pos hal] at hk)
      cases hk
      exact ⟨cell', e1, hc⟩
    · rename_i e
      obtain ⟨cell, g1, g2⟩ := h1 k x hk
      refine ⟨cell, ?_, g2⟩
      rw [e3 _ (fun q => e (h2 a k hal (List.getElem?_eq_some_iff.mp hk).1 q.symm))]
      exact g1
  · rw [List.getElem?_set] at hk
    split at hk
    · rename_i e
      subst e
      (try rw [if_pos hal] at hk)
      cases hk
      exact h3 a (t, vs) ha ht
    · exact h3 k x hk ht
theorem a_size_set (c : Cell) (i : Nat) (v : Value) : (c.setSlot i v).slots.size = c.slots.size := by
  simp [Cell.setSlot]
theorem a_C.setArr {D : AD} {ad : Nat → Nat} {t : Nat} {vs : List Value} {cell : Cell} (h : a_C D ad (t, vs) cell) (ht : 19 ≤ t) {n : Nat} (hn : n < vs.length) (v : Value) : a_C D ad (t, vs.set n v) (cell.setSlot n (a_ren ad v)) := by
  obtain ⟨h1, h2, h3, h4⟩ := h.arr ht
  unfold a_C
  rw [if_neg (show ¬ t < 19 by omega)]
  refine ⟨h1, h2, by rw [a_size_set, h3, a_set_len], fun k w hk => ?_⟩
  rw [List.getElem?_set] at hk
  split at hk
  · rename_i e
    subst e
    (try rw [if_pos hn] at hk)
    cases hk
    exact Cell.slots_setSlot_self _ (by rw [h3]; exact hn)
  · rename_i e
    rw [Cell.slots_setSlot_ne _ e]
    exact h4 k w hk
theorem a_C.setObj {D : AD} {ad : Nat → Nat} {t : Nat} {vs : List Value} {cell : Cell} (h : a_C D ad (t, vs) cell) (ht : t < 19) {n : Nat} (hn : n < vs.length) (hap : ∀ j, j < vs.length → j ≠ n → D.2.1 t n ≠ D.2.1 t j) (v : Value) : a_C D ad (t, vs.set n v) (cell.setSlot (D.2.1 t n) (a_ren ad v)) := by
  obtain ⟨h1, h2, h3, h4⟩ := h.obj ht
  unfold a_C
  rw [if_pos (show t < 19 from ht)]
  refine ⟨h1, h2, by rw [a_set_len]; exact h3, fun k w hk => ?_⟩
  rw [List.getElem?_set] at hk
  split at hk
  · rename_i e
    subst e
    (try rw [if_pos hn] at hk)
    cases hk
    exact Cell.slots_setSlot_self _ (k2_hasslot (h4 n _ (List.getElem?_eq_getElem hn)))
  · rename_i e
    rw [Cell.slots_setSlot_ne _ (hap k (List.getElem?_eq_some_iff.mp hk).1 (Ne.symm e))]
    exact h4 k w hk
/-- what the tables say of the classes -/
def a_KC (D : AD) (U : State) : Prop := ∀ c : Nat, c < 13 → u_Kn U (a_cN c) (a_cT c) (a_cl c) (D.1 c) (D.2.1 c)
theorem a_types : ∀ c, c < 13 → ∀ k, k < a_cl c → parseFieldDescriptor (a_cT c k).2.2.1 = some (a_fty c k) := by decide +kernel
theorem a_names : ∀ c, c < 13 → ∀ a, a < a_cl c → ∀ b, b < a_cl c → a ≠ b → (a_cT c a).2.1 ≠ (a_cT c b).2.1 := by decide +kernel
theorem a_decl : ∀ c, c < 13 → ∀ k, k < a_cl c → (a_cT c k).1 = a_cN c := by decide +kernel
theorem a_hin {c : Nat} (hc : c < 13) : ∀ w ∈ u_ws (a_cN c) (a_cT c) (a_cl c), w ∈ a_wG := fun w hw => a_wG_of (a_wsC_ok c hc w hw).1 (a_wsC_ok c hc w hw).2
section AW3
variable {p : Program} {l : Launch} {e : Env} {R : Room} {s : State} {m : MethodId} {args : Array Value} {below : List Frame} {meth : Method} {c : Code} {H : Heap} {locs : List Loc} {cells slots : Nat} {Q : State → Prop} {cc : ByteArray} {pc : Nat} {ls : Array Slot} {rest : List Value} {i : Instr} {D : AD} {B : Nat} {ad : Nat → Nat} {h : AH}
theorem a_apart {args : Array Value} (hts : ∀ w ∈ a_wG, w.before args s = true) (hK : a_KC D s) {ci : Nat} (hc : ci < 13) : ∀ x y, x < a_cl ci → y < a_cl ci → x ≠ y → D.2.1 ci x ≠ D.2.1 ci y := by
  intro x y hx hy hne
  obtain ⟨hS, -⟩ := hK ci hc
  obtain ⟨_, _, _, fa, hia, ea⟩ := hS x hx
  obtain ⟨_, _, _, fb, hib, eb⟩ := hS y hy
  rw [← ea, ← eb]
  refine u_apart (u_lays hts (a_hin hc) hx) (u_lays hts (a_hin hc) hy) hia hib ?_
  rw [(State.fieldFound?_type hia (a_types ci hc x hx)).1, (State.fieldFound?_type hib (a_types ci hc y hy)).1]
  exact a_names ci hc x hx y hy hne
theorem a_field_in {own idx ci k : Nat} (h : a_field own idx = some (ci, k)) : Cond.fieldLink (a_cN own) idx (a_cN ci) (a_cT ci k).2.1 (a_cT ci k).2.2.1 ∈ a_wG ∧ k < a_cl ci ∧ ci < 13 := by
  unfold a_field at h
  rw [Option.map_eq_some_iff] at h
  obtain ⟨q, h1, h2⟩ := h
  have h3 := a_all_of a_fld_ok (List.mem_of_find?_eq_some h1)
  have h4 := List.find?_some h1
  unfold a_fieldW at h3
  simp only [Bool.and_eq_true, decide_eq_true_eq] at h3
  simp only [beq_iff_eq] at h4
  cases h2
  subst h4
  exact ⟨a_at_in h3.1, h3.2.1, h3.2.2⟩
theorem a_getf_ok (hx : p.tables.exec = Jvm.exec) (hb : c.code = cc) {own idx ci k a : Nat} (hown : s.vm.findClass (a_cN own) = some m.cls) (hts : ∀ w ∈ a_wG, w.before args s = true) (hK : a_KC D s) (hf : a_field own idx = some (ci, k)) {cell : Cell} {vs : List Value} {v : Value} (hcell : H[a]? = some cell) (hC : a_C D ad (ci, vs) cell) (hv : vs[k]? = some v) (hdg : decode cc pc = .ok (.getfield idx, 3))
    (kk : W p l e R s m args below meth c H locs cells slots Q (F0 m (pc + 3) ls (a_ren ad v :: rest))) : W p l e R s m args below meth c H locs cells slots Q (F0 m pc ls (.ref a :: rest)) := by
  obtain ⟨hw, hk, hc⟩ := a_field_in hf
  obtain ⟨q2, q3, -, q4⟩ := hC.obj (show ci < 19 by omega)
  obtain ⟨hS, hfc, kC, hkC, hkind⟩ := hK ci hc
  obtain ⟨cf, kf, fi, f, hi, hsl⟩ := hS k hk
  rw [a_decl ci hc k hk] at hi
  have hst := (u_facts (O := a_cN ci) hfc hkC (by have := u_lays hts (a_hin hc) hk; rwa [a_decl ci hc k hk] at this) hi).1
  exact W.getf hx hb hown (hts _ hw) hi hst hcell (by rw [q3]; exact fun h => by cases h) (by rw [hsl]; exact q4 k v hv) rfl rfl hdg kk
theorem a_putf_ok (hx : p.tables.exec = Jvm.exec) (hb : c.code = cc) {own idx ci k a : Nat} (hown : s.vm.findClass (a_cN own) = some m.cls) (hts : ∀ w ∈ a_wG, w.before args s = true) (hK : a_KC D s) (hf : a_field own idx = some (ci, k)) {cell : Cell} {vs : List Value} {v : Value} (hcell : H[a]? = some cell) (hC : a_C D ad (ci, vs) cell) (hv : k < vs.length) (hn : narrow (a_fty ci k) v = v) (hfit : fits (a_fty ci k) v = true) (hfin : (a_cT ci k).2.2.2 = false ∨ (meth.name = "<init>" ∧ own = ci)) (hdg : decode cc pc = .ok (.putfield idx, 3))
    (kk : ∀ H' : Heap, H'[a]? = some (cell.setSlot (D.2.1 ci k) v) → H'.size = H.size → (∀ q, q ≠ a → H'[q]? = H[q]?) → W p l e R s m args below meth c H' (locs ++ [⟨a, D.2.1 ci k⟩]) cells slots Q (F0 m (pc + 3) ls rest)) : W p l e R s m args below meth c H locs cells slots Q (F0 m pc ls (v :: .ref a :: rest)) := by
  obtain ⟨hw, hk, hc⟩ := a_field_in hf
  obtain ⟨q2, q3, -, q4⟩ := hC.obj (show ci < 19 by omega)
  obtain ⟨hS, hfc, kC, hkC, hkind⟩ := hK ci hc
  obtain ⟨cf, kf, fi, f, hi, hsl⟩ := hS k hk
  have hlt : f.slot < cell.slots.size := by rw [hsl]; exact k2_hasslot (q4 k _ (List.getElem?_eq_getElem hv))
  have hl := u_lays hts (a_hin hc) hk
  have hlay := hts _ (a_hin hc _ (u_in_lay hk))
  rw [a_decl ci hc k hk] at hi hl
  have hst := (u_facts (O := a_cN ci) hfc hkC hl hi).1
  have hty := a_types ci hc k hk
  rw [← hsl] at kk
  by_cases hff : (a_cT ci k).2.2.2 = true
  · rcases hfin with hfin | ⟨hin, ho⟩
    · rw [hfin] at hff; cases hff
    · subst ho
      unfold u_lay at hlay
      rw [if_pos hff, a_decl _ hc k hk] at hlay
      have hd : m.cls = cf := laid_decl hown hlay hi
      have hS2 := u_fits (O := a_cN own) hfc hkC hkind hl hi hty hn hfit
      exact W.putFinK hx hb hown (hts _ hw) hi hst hd hin (by rw [q2]; exact hS2) hcell q3 hlt rfl rfl hdg kk
  · have hff : (a_cT ci k).2.2.2 = false := by simpa using hff
    unfold u_lay at hlay
    rw [if_neg (by rw [hff]; decide), a_decl ci hc k hk] at hlay
    have h6 := u_store (O := a_cN ci) hfc hkC hkind hlay hi hty hn hfit
    exact W.putK hx hb (f := f) ⟨hown, hts _ hw, ⟨_, _, _, hi⟩, hst⟩ (by rw [q2]; exact h6) hcell q3 hlt rfl rfl hdg kk
end AW3
end
/-! part 09.heap2 -/
section
theorem a_narrow_ren {ad : Nat → Nat} {ty : FieldType} {v : Value} (h : narrow ty v = v) : narrow ty (a_ren ad v) = a_ren ad v := by
  cases v <;> first | exact h | (cases ty <;> rfl)
theorem a_fits_ren {ad : Nat → Nat} {ty : FieldType} {v : Value} (h : fits ty v = true) : fits ty (a_ren ad v) = true := by
  cases v <;> first | exact h | (cases ty <;> first | rfl | exact h)
section AW4
variable {p : Program} {l : Launch} {e : Env} {R : Room} {s : State} {m : MethodId} {args : Array Value} {below : List Frame} {meth : Method} {c : Code} {H : Heap} {locs : List Loc} {cells slots : Nat} {Q : State → Prop} {cc : ByteArray} {pc : Nat} {ls : Array Slot} {rest : List Value} {i : Instr} {D : AD} {B : Nat} {ad : Nat → Nat} {h : AH} {H0 : Heap}
theorem a_st3_ok (hx : p.tables.exec = Jvm.exec) (hb : c.code = cc) (hdg : decode cc pc = .ok (i, a_len i)) (hKA : a_KA D s) (hH : a_H D B ad h H) {al : AL} {st : List Value} {r : AS} (hr : a_st3 i pc al st h = some r)
    (kk : r.2.2.2 = (h, 0, 0) → r.2.1 = al → W p l e R s m args below meth c H locs cells slots Q (F0 m r.1 ls (r.2.2.1.map (a_ren ad)))) : W p l e R s m args below meth c H locs cells slots Q (F0 m pc ls (st.map (a_ren ad))) := by
  unfold a_st3 at hr
  split at hr
  · rename_i j a st'
    split at hr
    · rename_i t vs ha
      split at hr
      · rename_i ht
        rw [Option.bind_eq_some_iff] at hr
        obtain ⟨n, h1, hr⟩ := hr
        rw [Option.map_eq_some_iff] at hr
        obtain ⟨v, h2, rfl⟩ := hr
        obtain ⟨g1, g2, g3⟩ := a_ix_ok h1
        obtain ⟨cell, c1, c2⟩ := hH.1 a _ ha
        have k1 := kk rfl rfl
        cases i <;> simp only [a_ald] at ht <;> (try (cases ht; done))
        · obtain ⟨ty, hty, href⟩ : ∃ ty, a_aty t = some ty ∧ ty.isReference = true := by
            cases hq : a_aty t with
            | none => rw [hq] at ht; cases ht
            | some ty => rw [hq] at ht; exact ⟨ty, rfl, ht⟩
          obtain ⟨-, d2, d3, d4⟩ := c2.arr (a_aty_ge hty)
          exact W.aald hx hb c1 (c2.isArr hKA hty) href d2.1 (by rw [d3]; exact g1) (by rw [g2]; exact d4 n v h2) rfl rfl hdg k1
        · have hty := of_decide_eq_true ht
          obtain ⟨-, d2, d3, d4⟩ := c2.arr (a_aty_ge hty)
          exact W.zald hx hb c1 (c2.isArr hKA hty) d2.1 (by rw [d3]; exact g1) (by rw [g2]; exact d4 n v h2) rfl rfl hdg k1
        · have hty := of_decide_eq_true ht
          obtain ⟨-, d2, d3, d4⟩ := c2.arr (a_aty_ge hty)
          exact W.cald hx hb c1 (c2.isArr hKA hty) d2.1 (by rw [d3]; exact g1) (by rw [g2]; exact d4 n v h2) rfl rfl hdg k1
        · have hty := of_decide_eq_true ht
          obtain ⟨-, d2, d3, d4⟩ := c2.arr (a_aty_ge hty)
          exact W.dald hx hb c1 (c2.isArr hKA hty) d2.1 (by rw [d3]; exact g1) (by rw [g2]; exact d4 n v h2) rfl rfl hdg k1
        · have hty := of_decide_eq_true ht
          obtain ⟨-, d2, d3, d4⟩ := c2.arr (a_aty_ge hty)
          exact W.iald hx hb c1 (c2.isArr hKA hty) d2.1 (by rw [d3]; exact g1) (by rw [g2]; exact d4 n v h2) rfl rfl hdg k1
        · have hty := of_decide_eq_true ht
          obtain ⟨-, d2, d3, d4⟩ := c2.arr (a_aty_ge hty)
          exact W.lald hx hb c1 (c2.isArr hKA hty) d2.1 (by rw [d3]; exact g1) (by rw [g2]; exact d4 n v h2) rfl rfl hdg k1
      · cases hr
    · cases hr
  · cases hr
/-- an array store -/
theorem a_ast_ok (hx : p.tables.exec = Jvm.exec) (hb : c.code = cc) (hdg : decode cc pc = .ok (i, a_len i)) (hKA : a_KA D s) (hH : a_H D B ad h H) (hS : va_S (fun q => B ≤ q) H0 H locs) {a t n : Nat} {vs : List Value} {x v : Value} {j : Int32} (ha : h[a]? = some (t, vs)) (hv : a_ast i t x = some v) (hj : a_ix j vs.length = some n)
    (kk : ∀ (H' : Heap) (locs' : List Loc), a_H D B ad (h.set a (t, vs.set n v)) H' → va_S (fun q => B ≤ q) H0 H' locs' → W p l e R s m args below meth c H' locs' cells slots Q (F0 m (pc + 1) ls rest)) : W p l e R s m args below meth c H locs cells slots Q (F0 m pc ls (a_ren ad x :: .int j :: .ref (ad a) :: rest)) := by
  obtain ⟨g1, g2, g3⟩ := a_ix_ok hj
  obtain ⟨cell, c1, c2⟩ := hH.1 a _ ha
  have key : ∀ (ty : FieldType), a_aty t = some ty → t ≠ 19 → ∀ (w : Value), a_ren ad v = w → ∀ H' : Heap, H'[ad a]? = some (cell.setSlot j.toNatClampNeg w) → H'.size = H.size → (∀ q, q ≠ ad a → H'[q]? = H[q]?) → W p l e R s m args below meth c H' (locs ++ [⟨ad a, j.toNatClampNeg⟩]) cells slots Q (F0 m (pc + 1) ls rest) := by
    intro ty hty h19 w hw H' e1 e2 e3
    subst hw
    rw [g2] at e1
    exact kk H' _ (hH.set ha e1 (c2.setArr (a_aty_ge hty) g3 v) e3) (hS.put e2 e3 (hH.2.2 a _ ha h19))
  have n19 : ∀ ty, a_aty t = some ty → ty ≠ .int → t ≠ 19 := fun ty hty hn q => by
    subst q
    have : a_aty 19 = some .int := by decide +kernel
    rw [this] at hty
    cases hty
    exact hn rfl
  cases i <;> cases x <;> simp only [a_ast] at hv <;> (try (cases hv; done))
  · split at hv
    · rename_i hty
      cases hv
      obtain ⟨-, d2, d3, d4⟩ := c2.arr (a_aty_ge hty)
      exact W.zast hx hb c1 (c2.isArr hKA hty) d2.1 (by rw [d3]; exact g1) rfl rfl hdg (key _ hty (n19 _ hty (by decide)) _ rfl)
    · cases hv
  · split at hv
    · rename_i hty
      cases hv
      obtain ⟨-, d2, d3, d4⟩ := c2.arr (a_aty_ge hty)
      exact W.cast hx hb c1 (c2.isArr hKA hty) d2.1 (by rw [d3]; exact g1) rfl rfl hdg (key _ hty (n19 _ hty (by decide)) _ rfl)
    · cases hv
  · split at hv
    · rename_i hty
      cases hv
      obtain ⟨-, d2, d3, d4⟩ := c2.arr (a_aty_ge hty)
      exact W.dast hx hb c1 (c2.isArr hKA hty) d2.1 (by rw [d3]; exact g1) rfl rfl hdg (key _ hty (n19 _ hty (by decide)) _ rfl)
    · cases hv
  · split at hv
    · rename_i hty
      cases hv
      obtain ⟨-, d2, d3, d4⟩ := c2.arr (a_aty_ge hty.2)
      exact W.iast hx hb c1 (c2.isArr hKA hty.2) d2.1 (by rw [d3]; exact g1) rfl rfl hdg (key _ hty.2 hty.1 _ rfl)
    · cases hv
  · split at hv
    · rename_i hty
      cases hv
      obtain ⟨-, d2, d3, d4⟩ := c2.arr (a_aty_ge hty)
      exact W.last hx hb c1 (c2.isArr hKA hty) d2.1 (by rw [d3]; exact g1) rfl rfl hdg (key _ hty (n19 _ hty (by decide)) _ rfl)
    · cases hv
end AW4
end
/-! part 10.heap3 -/
section
theorem a_cst_ok : a_all a_cst (fun own e => a_at e.2.2 (.constant (a_cN own) e.1 e.2.1)) = true := by decide +kernel
theorem a_csl_ok : a_all a_csl (fun own e => a_at e.2.2 (.constantLong (a_cN own) e.1 e.2.1)) = true := by decide +kernel
theorem a_cst_in {own idx : Nat} {q : Nat × Int32 × Nat × Nat} (h : (a_of a_cst own).find? (fun e => e.1 == idx) = some q) : Cond.constant (a_cN own) idx q.2.1 ∈ a_wG := by
  have h3 := a_all_of a_cst_ok (List.mem_of_find?_eq_some h)
  have h4 := List.find?_some h
  simp only [beq_iff_eq] at h4
  rw [← h4]
  exact a_at_in h3
theorem a_csl_in {own idx : Nat} {q : Nat × Int64 × Nat × Nat} (h : (a_of a_csl own).find? (fun e => e.1 == idx) = some q) : Cond.constantLong (a_cN own) idx q.2.1 ∈ a_wG := by
  have h3 := a_all_of a_csl_ok (List.mem_of_find?_eq_some h)
  have h4 := List.find?_some h
  simp only [beq_iff_eq] at h4
  rw [← h4]
  exact a_at_in h3
section AW5
variable {p : Program} {l : Launch} {e : Env} {R : Room} {s : State} {m : MethodId} {args : Array Value} {below : List Frame} {meth : Method} {c : Code} {H : Heap} {locs : List Loc} {cells slots : Nat} {Q : State → Prop} {cc : ByteArray} {pc : Nat} {ls : Array Slot} {rest : List Value} {i : Instr} {D : AD} {B : Nat} {ad : Nat → Nat} {h : AH} {H0 : Heap}
theorem a_st4_ok (hx : p.tables.exec = Jvm.exec) (hb : c.code = cc) (hdg : decode cc pc = .ok (i, a_len i)) {own : Nat} {ini : Bool} (hown : s.vm.findClass (a_cN own) = some m.cls) (hini : ini = true → meth.name = "<init>") (hts : ∀ w ∈ a_wG, w.before args s = true) (hKC : a_KC D s) (hKA : a_KA D s) (hH : a_H D B ad h H) (hS : va_S (fun q => B ≤ q) H0 H locs) {al : AL} {st : List Value} {r : AS} (hr : a_st4 own ini i pc al st h = some r)
    (kk : ∀ (H' : Heap) (locs' : List Loc), a_H D B ad r.2.2.2.1 H' → va_S (fun q => B ≤ q) H0 H' locs' → r.2.2.2.1.length = h.length → r.2.2.2.2 = (0, 0) → r.2.1 = al → W p l e R s m args below meth c H' locs' cells slots Q (F0 m r.1 ls (r.2.2.1.map (a_ren ad)))) : W p l e R s m args below meth c H locs cells slots Q (F0 m pc ls (st.map (a_ren ad))) := by
  unfold a_st4 at hr
  split at hr
  · split at hr
    · rename_i a st' _ t vs ha
      split at hr
      · rename_i ht
        cases hr
        obtain ⟨ty, hty⟩ := Option.isSome_iff_exists.mp ht
        obtain ⟨cell, c1, c2⟩ := hH.1 a _ ha
        obtain ⟨-, d2, d3, d4⟩ := c2.arr (a_aty_ge hty)
        exact W.alen hx hb c1 (c2.isArr hKA hty) (by rw [d3]) rfl rfl hdg (kk H locs hH hS rfl rfl rfl)
      · cases hr
    · cases hr
  · rw [Option.map_eq_some_iff] at hr
    obtain ⟨q, h1, rfl⟩ := hr
    exact lv_ldc hx hb hown (hts _ (a_cst_in h1)) hdg (kk H locs hH hS rfl rfl rfl)
  · rw [Option.map_eq_some_iff] at hr
    obtain ⟨q, h1, rfl⟩ := hr
    exact lv_ldcw hx hb hown (hts _ (a_cst_in h1)) hdg (kk H locs hH hS rfl rfl rfl)
  · rw [Option.map_eq_some_iff] at hr
    obtain ⟨q, h1, rfl⟩ := hr
    exact lv_ldc2 hx hb hown (hts _ (a_csl_in h1)) hdg (kk H locs hH hS rfl rfl rfl)
  · split at hr
    · rename_i idx a st' _ ci k hf
      split at hr
      · rename_i t vs ha
        split at hr
        · rename_i ht
          subst ht
          rw [Option.map_eq_some_iff] at hr
          obtain ⟨v, h2, rfl⟩ := hr
          obtain ⟨cell, c1, c2⟩ := hH.1 a _ ha
          exact a_getf_ok hx hb hown hts hKC hf c1 c2 h2 hdg (kk H locs hH hS rfl rfl rfl)
        · cases hr
      · cases hr
    · cases hr
  · split at hr
    · rename_i idx v a st' _ ci k hf
      split at hr
      · rename_i t vs ha
        split at hr
        · rename_i ht
          obtain ⟨ht, hk, hn, hfit, hfin⟩ := ht
          subst ht
          cases hr
          obtain ⟨cell, c1, c2⟩ := hH.1 a _ ha
          obtain ⟨-, -, hc13⟩ := a_field_in hf
          refine a_putf_ok (v := a_ren ad v) hx hb hown hts hKC hf c1 c2 hk (a_narrow_ren hn) (a_fits_ren hfit) ?_ hdg (fun H' e1 e2 e3 => ?_)
          · rcases hfin with q | ⟨q1, q2⟩
            · exact Or.inl q
            · exact Or.inr ⟨hini q1, q2⟩
          · have c3 := c2.setObj (show t < 19 by omega) hk (fun j hj hne => a_apart hts hKC hc13 k j (a_field_in hf).2.1 ?_ (Ne.symm hne)) v
            · exact kk H' _ (hH.set ha e1 c3 e3) (hS.put e2 e3 (hH.2.2 a _ ha (show t ≠ 19 by omega))) (a_set_len ..) rfl rfl
            · rw [← (c2.obj (show t < 19 by omega)).2.2.1]; exact hj
        · cases hr
      · cases hr
    · cases hr
  · split at hr
    · rename_i x j a st' _ _ _ _ _ _ t vs ha
      split at hr
      · rename_i v hv
        rw [Option.map_eq_some_iff] at hr
        obtain ⟨n, h1, rfl⟩ := hr
        exact a_ast_ok hx hb hdg hKA hH hS ha hv h1 (fun H' locs' g1 g2 => kk H' locs' g1 g2 (a_set_len ..) rfl rfl)
      · cases hr
    · cases hr
  · cases hr
end AW5
end
/-! part 11.wf -/
section
/-! References lie within the heap -/
def a_ok (n : Nat) (v : Value) : Prop := ∀ k : Nat, v = .ref k → k < n
def a_wf (al : AL) (st : List Value) (h : AH) : Prop := (∀ (i : Nat) (v : Value), a_get al i = some v → a_ok h.length v) ∧ (∀ v, v ∈ st → a_ok h.length v) ∧ ∀ (k : Nat) (x : AC), h[k]? = some x → ∀ v, v ∈ x.2 → a_ok h.length v
theorem a_ok_int {n : Nat} (x : Int32) : a_ok n (.int x) := fun k h => by cases h
theorem a_ok_long {n : Nat} (x : Int64) : a_ok n (.long x) := fun k h => by cases h
theorem a_ok_float {n : Nat} (x : UInt32) : a_ok n (.float x) := fun k h => by cases h
theorem a_ok_double {n : Nat} (x : UInt64) : a_ok n (.double x) := fun k h => by cases h
theorem a_ok_null {n : Nat} : a_ok n .null := fun k h => by cases h
theorem a_ok_mono {n m : Nat} {v : Value} (hm : n ≤ m) (h : a_ok n v) : a_ok m v := fun k hk => Nat.lt_of_lt_of_le (h k hk) hm
theorem a_ok_narrow {n : Nat} {ty : FieldType} {x : Int32} : a_ok n (narrow ty (.int x)) := by
  intro k hk
  cases ty <;> simp [narrow] at hk
theorem a_wf.tl {al : AL} {v : Value} {st : List Value} {h : AH} (w : a_wf al (v :: st) h) : a_wf al st h := ⟨w.1, fun u hu => w.2.1 u (List.mem_cons_of_mem _ hu), w.2.2⟩
theorem a_wf.hd {al : AL} {v : Value} {st : List Value} {h : AH} (w : a_wf al (v :: st) h) : a_ok h.length v := w.2.1 v List.mem_cons_self
theorem a_wf.push {al : AL} {v : Value} {st : List Value} {h : AH} (w : a_wf al st h) (hv : a_ok h.length v) : a_wf al (v :: st) h := ⟨w.1, fun u hu => (List.mem_cons.mp hu).elim (fun q => by rw [q]; exact hv) (w.2.1 u), w.2.2⟩
theorem a_wf.loc {al al' : AL} {st : List Value} {h : AH} (w : a_wf al st h) (hl : ∀ (i : Nat) (v : Value), a_get al' i = some v → a_ok h.length v) : a_wf al' st h := ⟨hl, w.2.1, w.2.2⟩
theorem a_wf.upd {al : AL} {st : List Value} {h : AH} (w : a_wf al st h) {a t : Nat} {vs vs' : List Value} (ha : h[a]? = some (t, vs)) (hv : ∀ v, v ∈ vs' → a_ok h.length v) : a_wf al st (h.set a (t, vs')) := by
  refine ⟨fun i v hi => by rw [a_set_len]; exact w.1 i v hi, fun v hu => by rw [a_set_len]; exact w.2.1 v hu, fun k x hk v hx => ?_⟩
  rw [a_set_len]
  rw [List.getElem?_set] at hk
  split at hk
  · split at hk
    · cases hk; exact hv v hx
    · cases hk
  · exact w.2.2 k x hk v hx
theorem a_wf.upd1 {al : AL} {st : List Value} {h : AH} (w : a_wf al st h) {a t n : Nat} {vs : List Value} {v : Value} (ha : h[a]? = some (t, vs)) (hv : a_ok h.length v) : a_wf al st (h.set a (t, vs.set n v)) := by
  refine w.upd ha (fun u hu => ?_)
  rcases List.mem_or_eq_of_mem_set hu with q | q
  · exact w.2.2 a _ ha u q
  · rw [q]; exact hv
theorem a_sto_wf {al al' : AL} {i n : Nat} {v : Value} (hs : a_sto al i v = some al') (hl : ∀ (i : Nat) (v : Value), a_get al i = some v → a_ok n v) (hv : a_ok n v) : ∀ (i : Nat) (v : Value), a_get al' i = some v → a_ok n v := by
  have hk : ∀ (j : Nat) (u : Value), a_get ((a_kill al i).set i (some v)) j = some u → a_ok n u := by
    intro j u hj
    rw [a_get_set] at hj
    split at hj
    · cases hj; exact hv
    · exact hl j u (a_kill_get hj).1
  intro j u hj
  unfold a_sto at hs
  split at hs
  · split at hs
    · cases hs
      unfold a_set2 at hj
      rw [a_get_set] at hj
      split at hj
      · cases hj
      · exact hk j u hj
    · cases hs
  · split at hs
    · cases hs
      exact hk j u hj
    · cases hs
theorem a_const_wf {i : Instr} {v : Value} {n : Nat} (h : a_const i = some v) : a_ok n v := by
  cases i <;> simp only [a_const] at h <;> (try (cases h; done))
  all_goals first
    | (cases h; exact a_ok_int _)
    | (cases h; exact a_ok_long _)
    | (split at h <;> cases h <;> first | exact a_ok_double _ | exact a_ok_float _)
theorem a_st1_wf {i : Instr} {pc : Nat} {al : AL} {st : List Value} {h : AH} {r : AS} (hr : a_st1 i pc al st h = some r) (w : a_wf al st h) : a_wf r.2.1 r.2.2.1 r.2.2.2.1 := by
  unfold a_st1 at hr
  split at hr
  · rename_i v hv
    cases hr
    exact w.push (a_const_wf hv)
  split at hr
  · split at hr
    · rename_i v hg
      split at hr
      · cases hr; exact w.push (w.1 _ _ hg)
      · cases hr
    · cases hr
  split at hr
  · split at hr
    · split at hr
      · rw [Option.map_eq_some_iff] at hr
        obtain ⟨al', h1, rfl⟩ := hr
        exact w.tl.loc (a_sto_wf h1 w.1 w.hd)
      · cases hr
    · cases hr
  split at hr
  · split at hr
    · rw [Option.map_eq_some_iff] at hr
      obtain ⟨al', h1, rfl⟩ := hr
      exact w.loc (a_sto_wf h1 w.1 (a_ok_int _))
    · cases hr
  · rw [Option.map_eq_some_iff] at hr; obtain ⟨t, h1, rfl⟩ := hr; exact w
  · rw [Option.map_eq_some_iff] at hr; obtain ⟨t, h1, rfl⟩ := hr; exact w.tl
  · rw [Option.map_eq_some_iff] at hr; obtain ⟨t, h1, rfl⟩ := hr; exact w.tl.tl
  · split at hr
    · rw [Option.map_eq_some_iff] at hr; obtain ⟨t, h1, rfl⟩ := hr; exact w.tl.tl
    · cases hr
  · split at hr
    · cases hr; exact w.push w.hd
    · cases hr
  · split at hr
    · cases hr; exact (w.push w.tl.hd).push w.hd
    · cases hr
  · split at hr
    · cases hr; exact w.tl
    · cases hr
  · cases hr
theorem a_st2_wf {i : Instr} {pc : Nat} {al : AL} {st : List Value} {h : AH} {r : AS} (hr : a_st2 i pc al st h = some r) (w : a_wf al st h) : a_wf r.2.1 r.2.2.1 r.2.2.2.1 := by
  unfold a_st2 at hr
  split at hr
  · cases hr; exact w.tl.push (a_ok_long _)
  · cases hr; exact w.tl.push (a_ok_int _)
  · cases hr; exact w.tl.push (a_ok_float _)
  · cases hr; exact w.tl.push (a_ok_double _)
  · split at hr <;> cases hr; exact w.tl.push (a_ok_double _)
  · cases hr; exact w.tl.tl.push (a_ok_long _)
  · cases hr; exact w.tl.tl.push (a_ok_long _)
  · cases hr; exact w.tl.tl.push (a_ok_int _)
  · split at hr <;> cases hr; exact w.tl.tl.push (a_ok_float _)
  · split at hr <;> cases hr; exact w.tl.tl.push (a_ok_double _)
  · cases hr; exact w.tl.tl.push (a_ok_int _)
  · cases hr; exact w.tl.tl.push (a_ok_int _)
  · rw [Option.map_eq_some_iff] at hr; obtain ⟨t, h1, rfl⟩ := hr; exact w.tl.tl.push (a_ok_int _)
  · cases hr
theorem a_st3_wf {i : Instr} {pc : Nat} {al : AL} {st : List Value} {h : AH} {r : AS} (hr : a_st3 i pc al st h = some r) (w : a_wf al st h) : a_wf r.2.1 r.2.2.1 r.2.2.2.1 := by
  unfold a_st3 at hr
  split at hr
  · split at hr
    · rename_i t vs ha
      split at hr
      · rw [Option.bind_eq_some_iff] at hr
        obtain ⟨n, h1, hr⟩ := hr
        rw [Option.map_eq_some_iff] at hr
        obtain ⟨v, h2, rfl⟩ := hr
        exact w.tl.tl.push (w.2.2 _ _ ha v (List.mem_of_getElem? h2))
      · cases hr
    · cases hr
  · cases hr
theorem a_ast_wf {i : Instr} {t n : Nat} {x v : Value} (h : a_ast i t x = some v) : a_ok n v := by
  unfold a_ast at h
  split at h
  all_goals first
    | (split at h <;> cases h <;> first | exact a_ok_int _ | exact a_ok_narrow | exact a_ok_long _ | exact a_ok_double _)
    | cases h
theorem a_st4_wf {own : Nat} {ini : Bool} {i : Instr} {pc : Nat} {al : AL} {st : List Value} {h : AH} {r : AS} (hr : a_st4 own ini i pc al st h = some r) (w : a_wf al st h) : a_wf r.2.1 r.2.2.1 r.2.2.2.1 := by
  unfold a_st4 at hr
  split at hr
  · split at hr
    · split at hr <;> cases hr; exact w.tl.push (a_ok_int _)
    · cases hr
  · rw [Option.map_eq_some_iff] at hr; obtain ⟨t, h1, rfl⟩ := hr; exact w.push (a_ok_int _)
  · rw [Option.map_eq_some_iff] at hr; obtain ⟨t, h1, rfl⟩ := hr; exact w.push (a_ok_int _)
  · rw [Option.map_eq_some_iff] at hr; obtain ⟨t, h1, rfl⟩ := hr; exact w.push (a_ok_long _)
  · split at hr
    · split at hr
      · rename_i t vs ha
        split at hr
        · rw [Option.map_eq_some_iff] at hr
          obtain ⟨v, h2, rfl⟩ := hr
          exact w.tl.push (w.2.2 _ _ ha v (List.mem_of_getElem? h2))
        · cases hr
      · cases hr
    · cases hr
  · split at hr
    · split at hr
      · rename_i t vs ha
        split at hr
        · cases hr
          exact (w.tl.tl.upd1 ha w.hd)
        · cases hr
      · cases hr
    · cases hr
  · split at hr
    · rename_i t vs ha
      split at hr
      · rename_i v hv
        rw [Option.map_eq_some_iff] at hr
        obtain ⟨n, h1, rfl⟩ := hr
        exact w.tl.tl.tl.upd1 ha (a_ast_wf hv)
      · cases hr
    · cases hr
  · cases hr
end
/-! part 12.alloc -/
section
/-! What makes cells, and the calls that the kit has rows for -/
def a_cat (st : List Value) : Nat := (st.map fun v => v.category).sum
def a_obj (c : Nat) : AC := (c, (List.range (a_cl c)).map (fun k => defaultValue (a_fty c k)))
def a_row (ty : FieldType) (n : Nat) : AC := (a_atag ty, List.replicate n (defaultValue ty))
def a_cnt (n : Int32) : Option Nat := if n < 0 ∨ 60000 < n.toNatClampNeg then none else some n.toNatClampNeg
def a_tyok (ty : FieldType) : Bool := decide (a_aty (a_atag ty) = some ty) && decide (a_atag ty ≠ 19)
def a_st5 (own : Nat) (i : Instr) (pc : Nat) (al : AL) (st : List Value) (h : AH) : Option AS := match i, st with
  | .new idx, st => ((a_of a_new own).find? (fun e => e.1 == idx)).map (fun e => (pc + 3, al, .ref h.length :: st, h ++ [a_obj e.2.1], 1, a_cl e.2.1))
  | .newarray t, .int n :: st => if a_tyok (Op.newarray.typeOf t) = true then (a_cnt n).map (fun k => (pc + 2, al, .ref h.length :: st, h ++ [a_row (Op.newarray.typeOf t) k], 1, k)) else none
  | .anewarray idx, .int n :: st => match (a_of a_arr own).find? (fun e => e.1 == idx) with
    | some e => if a_tyok (.object e.2.1) = true then (a_cnt n).map (fun k => (pc + 3, al, .ref h.length :: st, h ++ [a_row (.object e.2.1) k], 1, k)) else none
    | none => none
  | .aastore, .ref v :: .int j :: .ref a :: st => match h[a]? with
    | some (t, vs) => match h[v]? with
      | some (u, _) => if u < 13 ∧ t ≠ 19 ∧ a_aty t = some (.object (a_cN u)) then (a_ix j vs.length).map (fun n => (pc + 1, al, st, h.set a (t, vs.set n (.ref v)), 0, 0)) else none
      | none => none
    | none => none
  | .invokespecial idx, .ref _ :: st => if ((a_of a_oin own).find? (fun e => e.1 == idx)).isSome = true ∧ a_cat st ≤ 8 then some (pc + 3, al, st, h, 0, 0) else none
  | .invokestatic idx, .int y :: .int x :: st => match (a_of a_mat own).find? (fun e => e.1 == idx) with
    | some e => if a_cat st ≤ 8 then some (pc + 3, al, .int (if e.2.1 = true then (if x < y then y else x) else (if y < x then y else x)) :: st, h, 0, 0) else none
    | none => none
  | _, _ => none
theorem a_new_ok : a_all a_new (fun own e => a_at e.2.2.1 (.classLink (a_cN own) e.1 (a_cN e.2.1)) && (a_at e.2.2.2.1 (.instantiable (a_cN e.2.1) (a_cl e.2.1)) && (a_at e.2.2.2.2 (.initialized (a_cN e.2.1)) && decide (e.2.1 < 13)))) = true := by decide +kernel
theorem a_arr_ok : a_all a_arr (fun own e => a_at e.2.2 (.classLink (a_cN own) e.1 e.2.1)) = true := by decide +kernel
theorem a_oin_ok : a_all a_oin (fun own e => a_at e.2 (.methodLink (a_cN own) e.1 objectInit)) = true := by decide +kernel
theorem a_mat_ok : a_all a_mat (fun own e => a_at e.2.2 (.methodLink (a_cN own) e.1 (if e.2.1 = true then Lib.Math.max.name else Lib.Math.min.name))) = true := by decide +kernel
def a_fixW : List Cond := [.instanceMethod objectInit, .code objectInit ⟨#[0xb1]⟩ 1 none, .static Lib.Math.min.name, .code Lib.Math.min.name Lib.Math.min.code 2 (some .int), .static Lib.Math.max.name, .code Lib.Math.max.name Lib.Math.max.code 2 (some .int), .initialized "java/lang/Math", .arrayClass .int, .arrayClass .boolean, .arrayClass .char, .arrayClass .long, .arrayClass .double]
theorem a_fix_ok : ∀ w ∈ a_fixW, w ∈ lw_tbl ∧ goodWord w = true := by decide +kernel
theorem a_fix {w : Cond} (h : w ∈ a_fixW) : w ∈ a_wG := a_wG_of (a_fix_ok w h).1 (a_fix_ok w h).2
end
/-! part 13.env -/
section
/-! What holds of the tables, the texts and Throwable's statics all along a run -/
def a_exN (k : Nat) : String := a_exc.getD k ""
/-- the array classes by name, with their components -/
def a_KN (D : AD) (U : State) : Prop := ∀ (t : Nat) (ty : FieldType), 20 ≤ t → a_aty t = some ty → U.vm.findClass ("[" ++ ty.toString) = some (D.2.2 t) ∧ ∃ (kA : Class) (comp : ClassId), U.vm.classes[D.2.2 t]? = some kA ∧ kA.kind = .array comp ty ∧ (∀ C, ty = .object C → U.vm.findClass C = some comp) ∧ ∀ t', ty = .array t' → U.vm.findClass ("[" ++ t'.toString) = some comp
/-- words that aren't good, but stay -/
def a_ng (w : Cond) : Bool := match w with
  | .declares _ => true
  | .castable .. => true
  | .methodLinkNest .. => true
  | _ => false
theorem a_ng_warm {w : Cond} {s U : State} (hW : s.WarmedH U.vm) (hw : a_ng w = true) (h : va_Nw w s) : va_Nw w U := by
  cases w <;> first
    | exact va_Nw.warmD hW h
    | exact va_Nw.warmC hW h
    | exact va_Nw.warmM hW h
    | cases hw
def a_objs : List String := ["Juryreel$Film", "Juryreel$Show", "Juryreel$Juror", "Juryreel$Section"]
def a_KW (U : State) : Prop := (∀ w ∈ lw_tbl, a_ng w = true → va_Nw w U) ∧ ∀ C ∈ a_objs, va_AO C U
/-- exceptions of which one is no other -/
def a_ncs : List (String × String) := (a_exc.flatMap fun E => a_exc.map fun T => (E, T)).filter (fun q => !(q.1 == q.2))
def a_KX (U : State) : Prop := ∀ q ∈ a_ncs, va_Nc q.1 q.2 U
abbrev AT : Type := Nat × Nat × Nat × Nat × Nat × Bool × Nat × Nat × String × (Nat × Nat) × (Nat × Nat)
def a_KS (U : State) : Prop := ∀ r ∈ a_thr, ∃ sa, vk_R (a_cN r.2.2.1) r.2.2.2.2.1 r.2.2.2.2.2.2.2.2.1 sa U
def a_KZ (B : Nat) (U : State) : Prop := vx_Zq Bundle.tN "UNASSIGNED_STACK" Bundle.steD (fun q => B ≤ q) U U.heap ∧ vx_Zq Bundle.tN "SUPPRESSED_SENTINEL" Bundle.listD (fun q => B ≤ q) U U.heap
def a_K (D : AD) (B : Nat) (U : State) : Prop := a_KC D U ∧ a_KA D U ∧ a_KN D U ∧ a_KW U ∧ a_KX U ∧ a_KS U ∧ a_KZ B U
theorem a_K.go {D : AD} {B : Nat} {s U : State} (hW : s.WarmedH U.vm) (hq : ∀ q : Nat, q < s.heap.size → ¬ B ≤ q → U.heap[q]? = s.heap[q]?) (h : a_K D B s) : a_K D B U := by
  obtain ⟨h1, h2, h3, h4, h5, h6, h7⟩ := h
  have hvm := hW.alike
  refine ⟨fun c hc => u_Kn_moved hvm (h1 c hc), fun t ty ht => ?_, fun t ty h20 ht => ?_, ⟨fun w hw g => a_ng_warm hW g (h4.1 w hw g), fun C hC => va_AO.moved hvm (h4.2 C hC)⟩, fun q hq => va_Nc.moved hvm (h5 q hq), fun r hr => ?_, (vx_Zq.moved hvm h7.1).kept hq, (vx_Zq.moved hvm h7.2).kept hq⟩
  · obtain ⟨kA, comp, g1, g2⟩ := h2 t ty ht
    obtain ⟨k', hk', he⟩ := hvm.2.2 _ _ g1
    exact ⟨k', comp, hk', by rw [he]; exact g2⟩
  · obtain ⟨g0, kA, comp, g1, g2, g3, g4⟩ := h3 t ty h20 ht
    obtain ⟨k', hk', he⟩ := hvm.2.2 _ _ g1
    exact ⟨by rw [hvm.findClass]; exact g0, k', comp, hk', by rw [he]; exact g2, fun C hC => by rw [hvm.findClass]; exact g3 C hC, fun t' hC => by rw [hvm.findClass]; exact g4 t' hC⟩
  · obtain ⟨sa, hsa⟩ := h6 r hr
    exact ⟨sa, vk_R.warm hW hsa⟩
theorem a_K.calling {D : AD} {B : Nat} {U : State} {g : JFrame} {mk : MethodId} {a : Array Value} (h : a_K D B U) : a_K D B (U.calling g mk a) := a_K.go (s := U) (U := U.calling g mk a) (State.WarmedH.refl U) (fun _ _ _ => rfl) h
/-! Addresses of new cells -/
def a_up (ad : Nat → Nat) (n q : Nat) : Nat → Nat := fun k => if k = n then q else ad k
theorem a_up_lt {ad : Nat → Nat} {n q k : Nat} (h : k < n) : a_up ad n q k = ad k := if_neg (Nat.ne_of_lt h)
theorem a_up_n {ad : Nat → Nat} {n q : Nat} : a_up ad n q n = q := if_pos rfl
/-- two maps that say the same below n -/
def a_same (n : Nat) (ad ad' : Nat → Nat) : Prop := ∀ k, k < n → ad' k = ad k
theorem a_same.rf {n : Nat} {ad : Nat → Nat} : a_same n ad ad := fun _ _ => rfl
theorem a_same.tr {n m : Nat} {ad ad' ad'' : Nat → Nat} (h : a_same n ad ad') (h2 : a_same m ad' ad'') (hm : n ≤ m) : a_same n ad ad'' := fun k hk => (h2 k (Nat.lt_of_lt_of_le hk hm)).trans (h k hk)
theorem a_ren_same {n : Nat} {ad ad' : Nat → Nat} {v : Value} (h : a_same n ad ad') (hv : a_ok n v) : a_ren ad' v = a_ren ad v := by
  cases v <;> first | rfl | (show Value.ref _ = Value.ref _; rw [h _ (hv _ rfl)])
theorem a_map_same {n : Nat} {ad ad' : Nat → Nat} {st : List Value} (h : a_same n ad ad') (hv : ∀ v, v ∈ st → a_ok n v) : st.map (a_ren ad') = st.map (a_ren ad) := List.map_congr_left fun v hm => a_ren_same h (hv v hm)
theorem a_L.same {n : Nat} {ad ad' : Nat → Nat} {al : AL} {ls : Array Slot} (h : a_same n ad ad') (hv : ∀ (i : Nat) (v : Value), a_get al i = some v → a_ok n v) (hl : a_L ad al ls) : a_L ad' al ls := ⟨hl.1, hl.2.1, fun i v hi => by rw [a_ren_same h (hv i v hi)]; exact hl.2.2 i v hi⟩
theorem a_C.same {D : AD} {n : Nat} {ad ad' : Nat → Nat} {x : AC} {cell : Cell} (h : a_same n ad ad') (hv : ∀ v, v ∈ x.2 → a_ok n v) (hc : a_C D ad x cell) : a_C D ad' x cell := by
  unfold a_C at hc ⊢
  split
  · rename_i ht
    rw [if_pos ht] at hc
    exact ⟨hc.1, hc.2.1, hc.2.2.1, fun k v hk => by rw [a_ren_same h (hv v (List.mem_of_getElem? hk))]; exact hc.2.2.2 k v hk⟩
  · rename_i ht
    rw [if_neg ht] at hc
    exact ⟨hc.1, hc.2.1, hc.2.2.1, fun k v hk => by rw [a_ren_same h (hv v (List.mem_of_getElem? hk))]; exact hc.2.2.2 k v hk⟩
theorem a_H.lt {D : AD} {B : Nat} {ad : Nat → Nat} {h : AH} {H : Heap} (hH : a_H D B ad h H) {k : Nat} (hk : k < h.length) : ad k < H.size := by
  obtain ⟨cell, c1, -⟩ := hH.1 k _ (List.getElem?_eq_getElem hk)
  exact (Array.getElem?_eq_some_iff.mp c1).1
/-- the whole heap's references lie in it -/
def a_wh (h : AH) : Prop := ∀ (k : Nat) (x : AC), h[k]? = some x → ∀ v, v ∈ x.2 → a_ok h.length v
theorem a_H.push {D : AD} {B : Nat} {ad : Nat → Nat} {h : AH} {H H' : Heap} {x : AC} {cell : Cell} (hH : a_H D B ad h H) (w : a_wh h) (hB : B ≤ H.size) (hx : ∀ v, v ∈ x.2 → a_ok h.length v) (hc : a_C D ad x cell) (e1 : H'[H.size]? = some cell) (e3 : ∀ q, q < H.size → H'[q]? = H[q]?) : a_H D B (a_up ad h.length H.size) (h ++ [x]) H' := by
  have hs : a_same h.length ad (a_up ad h.length H.size) := fun k hk => a_up_lt hk
  have split : ∀ {k : Nat} {y : AC}, (h ++ [x])[k]? = some y → (k < h.length ∧ h[k]? = some y) ∨ (k = h.length ∧ y = x) := by
    intro k y hk
    rcases Nat.lt_or_ge k h.length with q | q
    · rw [List.getElem?_append_left q] at hk
      exact Or.inl ⟨q, hk⟩
    · rw [List.getElem?_append_right q] at hk
      have h1 := (List.getElem?_eq_some_iff.mp hk).1
      simp only [List.length_singleton] at h1
      have h2 : k = h.length := by omega
      subst h2
      rw [Nat.sub_self] at hk
      cases hk
      exact Or.inr ⟨rfl, rfl⟩
  refine ⟨fun k y hk => ?_, fun j k hj hk e => ?_, fun k y hk ht => ?_⟩
  · rcases split hk with ⟨q, hq⟩ | ⟨rfl, rfl⟩
    · obtain ⟨c1, g1, g2⟩ := hH.1 k y hq
      exact ⟨c1, by rw [a_up_lt q, e3 _ (hH.lt q)]; exact g1, g2.same hs (w k y hq)⟩
    · exact ⟨cell, by rw [a_up_n]; exact e1, hc.same hs hx⟩
  · rw [List.length_append, List.length_singleton] at hj hk
    rcases Nat.lt_or_ge j h.length with q1 | q1 <;> rcases Nat.lt_or_ge k h.length with q2 | q2
    · rw [a_up_lt q1, a_up_lt q2] at e
      exact hH.2.1 j k q1 q2 e
    · have h2 : k = h.length := by omega
      subst h2
      rw [a_up_lt q1, a_up_n] at e
      exact absurd e (Nat.ne_of_lt (hH.lt q1))
    · have h2 : j = h.length := by omega
      subst h2
      rw [a_up_lt q2, a_up_n] at e
      exact absurd e.symm (Nat.ne_of_lt (hH.lt q2))
    · omega
  · rcases split hk with ⟨q, hq⟩ | ⟨rfl, rfl⟩
    · rw [a_up_lt q]
      exact hH.2.2 k y hq ht
    · rw [a_up_n]
      exact hB
theorem a_wf.push1 {al : AL} {st : List Value} {h : AH} {x : AC} (w : a_wf al st h) (hx : ∀ v, v ∈ x.2 → a_ok h.length v) : a_wf al st (h ++ [x]) := by
  have hm : h.length ≤ (h ++ [x]).length := by rw [List.length_append]; omega
  refine ⟨fun i v hi => a_ok_mono hm (w.1 i v hi), fun v hv => a_ok_mono hm (w.2.1 v hv), fun k y hk v hv => a_ok_mono hm ?_⟩
  rcases Nat.lt_or_ge k h.length with q | q
  · rw [List.getElem?_append_left q] at hk
    exact w.2.2 k y hk v hv
  · rw [List.getElem?_append_right q] at hk
    have h1 := (List.getElem?_eq_some_iff.mp hk).1
    simp only [List.length_singleton] at h1
    rw [show k - h.length = 0 by omega] at hk
    cases hk
    exact hx v hv
theorem a_ok_def {n : Nat} {ty : FieldType} : a_ok n (defaultValue ty) := by
  intro k hk
  cases ty <;> cases hk
theorem a_cl_obj (c : Nat) : (a_obj c).2.length = a_cl c := by simp [a_obj]
theorem a_ren_def {ad : Nat → Nat} {ty : FieldType} : a_ren ad (defaultValue ty) = defaultValue ty := by cases ty <;> rfl
end
/-! part 14.new -/
section
/-! What makes cells, and the calls that the kit has rows for: the machine does the same -/
theorem a_cat_ren {ad : Nat → Nat} (st : List Value) : ((st.map (a_ren ad)).map fun v => v.category).sum = a_cat st := by
  unfold a_cat
  rw [List.map_map]
  congr 1
  exact List.map_congr_left fun v _ => a_ren_cat ad v
theorem a_aty_obj {t : Nat} {C : String} (h : a_aty t = some (.object C)) : C ∈ a_objs := by
  unfold a_aty at h
  split at h
  · cases h
  · have h1 := List.mem_of_getElem? h
    simp only [a_atys, List.mem_cons, reduceCtorEq, FieldType.object.injEq, false_or, List.not_mem_nil, or_false] at h1
    simpa [a_objs] using h1
theorem a_row_C {D : AD} {ad : Nat → Nat} {ty : FieldType} {n : Nat} (ht : a_aty (a_atag ty) = some ty) : a_C D ad (a_row ty n) { cls := D.2.2 (a_atag ty), slots := Array.replicate n (defaultValue ty), vm := .none } := by
  unfold a_C
  rw [if_neg (show ¬ (a_row ty n).1 < 19 by have := a_aty_ge ht; show ¬ a_atag ty < 19; omega)]
  refine ⟨rfl, ⟨by simp, by simp⟩, by simp [a_row], fun k v hk => ?_⟩
  simp only [a_row, List.getElem?_replicate] at hk
  split at hk
  · rename_i hlt
    cases hk
    simp [Array.getElem?_replicate, hlt, a_ren_def]
  · cases hk
theorem a_row_ok {n : Nat} {ty : FieldType} {k : Nat} : ∀ v, v ∈ (a_row ty k).2 → a_ok n v := by
  intro v hv
  simp only [a_row, List.mem_replicate] at hv
  rw [hv.2]
  exact a_ok_def
theorem a_obj_ok {n : Nat} {c : Nat} : ∀ v, v ∈ (a_obj c).2 → a_ok n v := by
  intro v hv
  simp only [a_obj, List.mem_map] at hv
  obtain ⟨k, -, rfl⟩ := hv
  exact a_ok_def
theorem a_cnt_ok {n : Int32} {k : Nat} (h : a_cnt n = some k) : ¬ n < 0 ∧ n.toNatClampNeg = k ∧ k ≤ 60000 := by
  unfold a_cnt at h
  split at h
  · cases h
  · rename_i h1
    cases h
    exact ⟨fun q => h1 (Or.inl q), rfl, by omega⟩
theorem a_tyok_ok {ty : FieldType} (h : a_tyok ty = true) : a_aty (a_atag ty) = some ty ∧ a_atag ty ≠ 19 ∧ 20 ≤ a_atag ty := by
  unfold a_tyok at h
  simp only [Bool.and_eq_true, decide_eq_true_eq] at h
  exact ⟨h.1, h.2, by have := a_aty_ge h.1; omega⟩
theorem a_arrW {t : ArrayType} (h : a_tyok (Op.newarray.typeOf t) = true) : Cond.arrayClass (Op.newarray.typeOf t) ∈ a_wG ∧ componentBytes (Op.newarray.typeOf t) ≤ 8 := by
  cases t <;> first
    | (exfalso; revert h; decide)
    | exact ⟨a_fix (by decide +kernel), by decide⟩
theorem a_S.grow {B : Nat} {H0 H H1 : Heap} {locs : List Loc} (hS : va_S (fun q => B ≤ q) H0 H locs) (z : H.size ≤ H1.size) (o : ∀ q, q < H.size → H1[q]? = H[q]?) : va_S (fun q => B ≤ q) H0 H1 locs :=
  ⟨Nat.le_trans hS.1 z, fun q h1 h2 => (o q (Nat.lt_of_lt_of_le h1 hS.1)).trans (hS.2.1 q h1 h2), hS.2.2⟩
section AW6
variable {p : Program} {l : Launch} {e : Env} {R : Room} {s : State} {m : MethodId} {args : Array Value} {below : List Frame} {meth : Method} {c : Code} {H : Heap} {locs : List Loc} {cells slots : Nat} {Q : State → Prop} {cc : ByteArray} {pc : Nat} {ls : Array Slot} {rest : List Value} {i : Instr} {D : AD} {B : Nat} {ad : Nat → Nat} {h : AH} {H0 : Heap}
set_option maxHeartbeats 2000000 in
theorem a_st5_ok (hx : p.tables.exec = Jvm.exec) (hb : c.code = cc) (hdg : decode cc pc = .ok (i, a_len i)) {own : Nat} (hown : s.vm.findClass (a_cN own) = some m.cls) (hsz : ls.size = c.maxLocals) (hts : ∀ w ∈ a_wG, w.before args s = true) (hKC : a_KC D s) (hKA : a_KA D s) (hKN : a_KN D s) (hKW : a_KW s) (hB0 : B ≤ H0.size) (hH : a_H D B ad h H) (hS : va_S (fun q => B ≤ q) H0 H locs) {al : AL} {st : List Value} {r : AS} (hw : a_wf al st h) (hr : a_st5 own i pc al st h = some r)
    (hRf : 1 ≤ R.frames) (hRl : 100 ≤ R.locals) (hRc : cells + r.2.2.2.2.1 ≤ R.cells) (hRs : slots + r.2.2.2.2.2 ≤ R.slots)
    (kk : ∀ (ad' : Nat → Nat) (H' : Heap) (locs' : List Loc), a_same h.length ad ad' → a_H D B ad' r.2.2.2.1 H' → va_S (fun q => B ≤ q) H0 H' locs' → h.length ≤ r.2.2.2.1.length → r.2.1 = al → W p l e R s m args below meth c H' locs' (cells + r.2.2.2.2.1) (slots + r.2.2.2.2.2) Q (F0 m r.1 ls (r.2.2.1.map (a_ren ad')))) : W p l e R s m args below meth c H locs cells slots Q (F0 m pc ls (st.map (a_ren ad))) := by
  have hBH : B ≤ H.size := Nat.le_trans hB0 hS.1
  have hs1 : a_same h.length ad (a_up ad h.length H.size) := fun k hk => a_up_lt hk
  have pushed : ∀ {x : AC} {cell : Cell} {H1 : Heap}, (∀ v, v ∈ x.2 → a_ok h.length v) → a_C D ad x cell → H1[H.size]? = some cell → H1.size = H.size + 1 → (∀ q, q < H.size → H1[q]? = H[q]?) → a_H D B (a_up ad h.length H.size) (h ++ [x]) H1 ∧ va_S (fun q => B ≤ q) H0 H1 locs := by
    intro x cell H1 hx hc e1 z1 o1
    exact ⟨hH.push hw.2.2 hBH hx hc e1 o1, a_S.grow hS (by omega) o1⟩
  have stk : ∀ {st' : List Value}, (∀ v, v ∈ st' → a_ok h.length v) → (Value.ref h.length :: st').map (a_ren (a_up ad h.length H.size)) = .ref H.size :: st'.map (a_ren ad) := by
    intro st' hv
    rw [List.map_cons, a_map_same hs1 hv]
    show Value.ref _ :: _ = _
    rw [a_up_n]
  have len1 : ∀ {x : AC}, h.length ≤ (h ++ [x]).length := by intro x; rw [List.length_append]; omega
  unfold a_st5 at hr
  split at hr
  · -- new
    rename_i idx st'
    rw [Option.map_eq_some_iff] at hr
    obtain ⟨q, h1, rfl⟩ := hr
    have h3 := a_all_of a_new_ok (List.mem_of_find?_eq_some h1)
    have h4 := List.find?_some h1
    simp only [Bool.and_eq_true, decide_eq_true_eq] at h3
    simp only [beq_iff_eq] at h4
    obtain ⟨w1, w2, w3, hc⟩ := h3
    rw [h4] at w1
    refine W.newcK hx hb hown (hts _ (a_at_in w1)) (hts _ (a_at_in w2)) (hts _ (a_at_in w3)) rfl hdg hRc hRs (hKC _ hc).2.1 rfl (fun H1 kC hkC e1 z1 o1 => ?_)
    obtain ⟨cell, g1, g2, g3, g4⟩ := u_born (a_fty q.2.1) hts (a_hin hc) (hKC _ hc) hkC e1 (a_types _ hc)
    have hc2 : a_C D ad (a_obj q.2.1) cell := by
      unfold a_C
      rw [if_pos (show (a_obj q.2.1).1 < 19 by show q.2.1 < 19; omega)]
      refine ⟨g2, g3, a_cl_obj _, fun k v hk => ?_⟩
      have hk2 : k < a_cl q.2.1 := by rw [← a_cl_obj]; exact (List.getElem?_eq_some_iff.mp hk).1
      have hv : v = defaultValue (a_fty q.2.1 k) := by
        simp only [a_obj, List.getElem?_map, List.getElem?_range hk2, Option.map_some, Option.some.injEq] at hk
        exact hk.symm
      rw [hv, a_ren_def]
      exact g4 k hk2
    obtain ⟨p1, p2⟩ := pushed a_obj_ok hc2 g1 z1 o1
    have k1 := kk _ H1 locs hs1 p1 p2 len1 rfl
    rw [stk hw.2.1] at k1
    exact k1
  · -- newarray
    rename_i t n st'
    split at hr
    · rename_i ht
      rw [Option.map_eq_some_iff] at hr
      obtain ⟨k, h1, rfl⟩ := hr
      obtain ⟨n0, hk, hk6⟩ := a_cnt_ok h1
      obtain ⟨t1, t2, t3⟩ := a_tyok_ok ht
      obtain ⟨w1, w2⟩ := a_arrW ht
      have hmul : k * componentBytes (Op.newarray.typeOf t) ≤ k * 8 := Nat.mul_le_mul_left k w2
      subst hk
      refine W.newa hx hb (hts _ w1) rfl hdg rfl n0 (by omega) hRc hRs (fun cA kA comp f1 f2 f3 => ?_)
      have hcA : cA = D.2.2 (a_atag (Op.newarray.typeOf t)) := Option.some.inj (f1.symm.trans (hKN _ _ t3 t1).1)
      subst hcA
      obtain ⟨p1, p2⟩ := pushed (H1 := H.push { cls := D.2.2 (a_atag (Op.newarray.typeOf t)), slots := Array.replicate n.toNatClampNeg (defaultValue (Op.newarray.typeOf t)), vm := .none }) a_row_ok (a_row_C (n := n.toNatClampNeg) t1) Array.getElem?_push_size (Array.size_push ..) (fun q hq => by rw [Array.getElem?_push, if_neg (Nat.ne_of_lt hq)])
      have k1 := kk _ _ locs hs1 p1 p2 len1 rfl
      rw [stk hw.tl.2.1] at k1
      exact k1
    · cases hr
  · -- anewarray
    rename_i idx n st'
    split at hr
    · rename_i q h1
      split at hr
      · rename_i ht
        rw [Option.map_eq_some_iff] at hr
        obtain ⟨k, h2, rfl⟩ := hr
        obtain ⟨n0, hk, hk6⟩ := a_cnt_ok h2
        obtain ⟨t1, t2, t3⟩ := a_tyok_ok ht
        have w1 := a_all_of a_arr_ok (List.mem_of_find?_eq_some h1)
        have h4 := List.find?_some h1
        simp only [beq_iff_eq] at h4
        rw [h4] at w1
        subst hk
        refine W.anew hx hb hown (hts _ (a_at_in w1)) (va_AO.use (hKW.2 _ (a_aty_obj t1))) rfl hdg rfl n0 (by omega) hRc hRs (fun cA kA comp f1 f2 f3 f4 => ?_)
        have hcA : cA = D.2.2 (a_atag (.object q.2.1)) := Option.some.inj (f1.symm.trans (hKN _ _ t3 t1).1)
        subst hcA
        obtain ⟨p1, p2⟩ := pushed (H1 := H.push { cls := D.2.2 (a_atag (.object q.2.1)), slots := Array.replicate n.toNatClampNeg .null, vm := .none }) a_row_ok (a_row_C (ty := .object q.2.1) (n := n.toNatClampNeg) t1) Array.getElem?_push_size (Array.size_push ..) (fun q hq => by rw [Array.getElem?_push, if_neg (Nat.ne_of_lt hq)])
        have k1 := kk _ _ locs hs1 p1 p2 len1 rfl
        rw [stk hw.tl.2.1] at k1
        exact k1
      · cases hr
    · cases hr
  · -- aastore
    rename_i v j a st'
    split at hr
    · rename_i t vs ha
      split at hr
      · rename_i u us hv
        split at hr
        · rename_i hc
          obtain ⟨hu, h19, hty⟩ := hc
          rw [Option.map_eq_some_iff] at hr
          obtain ⟨n, h1, rfl⟩ := hr
          obtain ⟨g1, g2, g3⟩ := a_ix_ok h1
          obtain ⟨cell, c1, c2⟩ := hH.1 a _ ha
          obtain ⟨cv, v1, v2⟩ := hH.1 v _ hv
          have hge := a_aty_ge hty
          obtain ⟨d1, d2, d3, d4⟩ := c2.arr hge
          obtain ⟨b1, b2, -, -⟩ := v2.obj (show u < 19 by omega)
          obtain ⟨-, kA, comp, k1, k2, k3, -⟩ := hKN t _ (show 20 ≤ t by omega) hty
          have hcls := (hKC u hu).2
          have hcomp : comp = D.1 u := Option.some.inj ((k3 _ rfl).symm.trans hcls.1)
          subst hcomp
          obtain ⟨kC, hkC, -⟩ := hcls.2
          refine W.aast hx hb c1 d2.2 d2.1 (by rw [d1]; exact k1) k2 rfl hkC ⟨fun q => g1 (Or.inl q), by rw [d3, g2]; exact g3⟩ v1 (fun q hq => by rw [b2] at hq; cases hq) (by rw [b1]; exact hkC) (by rw [b1]; exact va_assign hcls) rfl rfl hdg (fun H' e1 e2 e3 => ?_)
          rw [g2] at e1
          exact kk ad H' _ a_same.rf (hH.set ha e1 (c2.setArr hge g3 (.ref v)) e3) (hS.put e2 e3 (hH.2.2 a _ ha h19)) (Nat.le_of_eq (a_set_len ..).symm) rfl
        · cases hr
      · cases hr
    · cases hr
  · -- Object.<init>
    rename_i idx a st'
    split at hr
    · rename_i hc
      cases hr
      obtain ⟨hs, h8⟩ := hc
      obtain ⟨q, h1⟩ := Option.isSome_iff_exists.mp hs
      have w1 := a_all_of a_oin_ok (List.mem_of_find?_eq_some h1)
      have h4 := List.find?_some h1
      simp only [beq_iff_eq] at h4
      rw [h4] at w1
      have hcat := a_cat_ren (ad := ad) st'
      refine W.objInit hx hb hown (hts _ (a_at_in w1)) (hts _ (a_fix (by simp [a_fixW]))) (hts _ (a_fix (by simp [a_fixW]))) rfl hsz rfl hdg hRf (by show 2 * 0 + _ + 12 ≤ _; rw [hcat]; omega) ?_
      exact kk ad H locs a_same.rf hH hS (Nat.le_refl _) rfl
    · cases hr
  · -- Math.min, Math.max
    rename_i idx y x st'
    split at hr
    · rename_i q h1
      split at hr
      · rename_i h8
        cases hr
        have w1 := a_all_of a_mat_ok (List.mem_of_find?_eq_some h1)
        have h4 := List.find?_some h1
        simp only [beq_iff_eq] at h4
        rw [h4] at w1
        have w2 := hts _ (a_at_in w1)
        have hcat := a_cat_ren (ad := ad) st'
        have k1 := kk ad H locs a_same.rf hH hS (Nat.le_refl _) rfl
        by_cases hq : q.2.1 = true
        · rw [if_pos hq] at w2
          dsimp only at k1
          rw [if_pos hq] at k1
          exact va_mmax hx hb hsz.symm hown w2 (hts _ (a_fix (by simp [a_fixW]))) (hts _ (a_fix (by simp [a_fixW]))) (hts _ (a_fix (by simp [a_fixW]))) hRf (by rw [hcat]; omega) hRc hRs hdg k1
        · rw [if_neg hq] at w2
          dsimp only at k1
          rw [if_neg hq] at k1
          exact va_mmin hx hb hsz.symm hown w2 (hts _ (a_fix (by simp [a_fixW]))) (hts _ (a_fix (by simp [a_fixW]))) (hts _ (a_fix (by simp [a_fixW]))) hRf (by rw [hcat]; omega) hRc hRs hdg k1
      · cases hr
    · cases hr
  · cases hr
end AW6
end
/-! part 15.multi -/
section
/-! Arrays of arrays: 'multianewarray' of two and of three dimensions (after the library's MA1, MA2, which tell of two, without their heap) -/
/-- the cells of an array of component types tys and lengths ns -/
def a_setR (h : AH) (a i b : Nat) : AH := match h[a]? with
  | some (t, vs) => h.set a (t, vs.set i (.ref b))
  | none => h
def a_mkL (f : AH → AH) (a : Nat) : Nat → Nat → AH → AH
  | 0, _, h => h
  | k + 1, i, h => a_mkL f a k (i + 1) (a_setR (f h) a i h.length)
def a_mk : List FieldType → List Nat → AH → AH
  | ty :: tys, n :: n' :: ns, h => a_mkL (a_mk tys (n' :: ns)) h.length n 0 (h ++ [a_row ty n])
  | ty :: _, [n], h => h ++ [a_row ty n]
  | _, _, h => h
def a_mkC : List Nat → Nat
  | n :: n' :: ns => 1 + n * a_mkC (n' :: ns)
  | _ => 1
def a_mkS : List Nat → Nat
  | n :: n' :: ns => n + n * a_mkS (n' :: ns)
  | [n] => n
  | [] => 0
/-- component types of an array's dimensions, one within the other -/
def a_tys : List FieldType → List Nat → Bool
  | ty :: ty' :: tys, n :: n' :: ns => a_tyok ty && (decide (n ≤ 60000) && (decide (ty = .array ty') && a_tys (ty' :: tys) (n' :: ns)))
  | ty :: _, [n] => a_tyok ty && decide (n ≤ 60000)
  | _, _ => false
theorem a_row_tag {ty : FieldType} {n : Nat} : (a_row ty n).1 = a_atag ty := rfl
theorem a_bytes {ty : FieldType} : componentBytes ty ≤ 8 := by cases ty <;> first | decide | (show (4 : Nat) ≤ 8; decide)
theorem a_fitd {ty : FieldType} : fits ty (defaultValue ty) = true ∧ (defaultValue ty).isDefault = true := by cases ty <;> exact ⟨rfl, rfl⟩
section AM0
variable {E : CtlPost} {e : Env} {d : Bool} {acts : List Action} {s : State}
theorem a_wpNew {c comp : ClassId} {k : Class} {type : FieldType} {len : Nat} {init : Value} (hk : s.vm.classes[c]? = some k) (hkind : k.kind = .array comp type)
    (hlimit : ¬ len > e.platform.arrayLengthLimit) (hheap : ¬ len * componentBytes type > e.platform.maxHeapBytes) (hfit : fits type init = true) (hdef : init.isDefault = true) {Q : Addr → Pre}
    (h1 : s.heap.size < e.platform.maxCells) (h2 : s.slotsUsed + len ≤ e.platform.maxSlots)
    (hq : Q s.heap.size d acts (s.pushCell { cls := c, slots := Array.replicate len init, vm := .none })) :
    wp (Jvm.newArray c len init) Q E e d acts s := by
  have hfits : ∀ i v, (Array.replicate len init)[i]? = some v → s.fitsSlot c .none i v = true := by
    intro i v hv
    simp only [Array.getElem?_replicate] at hv
    split at hv
    · cases hv; simp [State.fitsSlot, State.slotType?, hk, hkind, hfit]
    · cases hv
  have hda : allocActs (Array.replicate len init) s.heap.size acts = acts := by
    have hall : ((Array.replicate len init).all (·.isDefault)) = true := by
      rw [Array.all_replicate]; split <;> simp [hdef]
    unfold allocActs; rw [if_pos hall]
  simp only [Jvm.newArray, Jvm.arrayFits, wp_bind', W.ask, W.ite, hlimit, if_false, wp_pure', W.theClass, hk, hkind, hheap, W.alloc, W.stop, Option.some.injEq, exists_eq_left', Array.size_replicate, hda]
  rw [if_neg (by omega)]
  exact ⟨h1, h2, hfits, hq⟩
end AM0
section AM
variable {p : Program} {l : Launch} {e : Env} {R : Room} {s : State} {m : MethodId} {args : Array Value} {below : List Frame} {meth : Method} {c : Code} {H : Heap} {locs : List Loc} {cells slots : Nat} {D : AD} {B : Nat} {ad : Nat → Nat} {h : AH} {H0 : Heap} {g : JFrame} {E : CtlPost} {d : Bool} {acts : List Action}
def a_G (p : Program) (l : Launch) (e : Env) (R : Room) (s : State) (m : MethodId) (args : Array Value) (below : List Frame) (meth : Method) (c : Code) (D : AD) (B : Nat) (H0 : Heap) (g : JFrame) (ad : Nat → Nat) (h : AH) (locs : List Loc) (cells slots : Nat) (S : State) : Prop :=
  ∃ T : State, S = T.setTop g ∧ Stand p l e R s m args below meth c T locs cells slots ∧ a_H D B ad h T.heap ∧ a_wh h ∧ va_S (fun q => B ≤ q) H0 T.heap locs
theorem a_wh.push1 {x : AC} (w : a_wh h) (hx : ∀ v, v ∈ x.2 → a_ok h.length v) : a_wh (h ++ [x]) := (a_wf.push1 (al := []) (st := []) ⟨fun i v hi => by simp [a_get] at hi, fun v hv => absurd hv List.not_mem_nil, w⟩ hx).2.2
theorem a_new1 {ty : FieldType} {len : Nat} {S : State} (hKN : a_KN D s) (ht : a_tyok ty = true) (hlen : len ≤ 60000) (hB0 : B ≤ H0.size) (hG : a_G p l e R s m args below meth c D B H0 g ad h locs cells slots S) (hc : cells + 1 ≤ R.cells) (hs : slots + len ≤ R.slots) {Q : Addr → Pre}
    (hq : ∀ (S' : State) (q0 : Nat), a_G p l e R s m args below meth c D B H0 g (a_up ad h.length q0) (h ++ [a_row ty len]) locs (cells + 1) (slots + len) S' → Q q0 d acts S') : wp (Jvm.newArray (D.2.2 (a_atag ty)) len (defaultValue ty)) Q E e d acts S := by
  obtain ⟨T, rfl, X, hH, hw, hS⟩ := hG
  obtain ⟨t1, t2, t3⟩ := a_tyok_ok ht
  obtain ⟨-, kA, comp, k1, k2, -⟩ := hKN _ _ t3 t1
  obtain ⟨k', hk', he⟩ := X.warmed.alike.2.2 _ _ k1
  obtain ⟨hr1, hr2⟩ := X.roomAbove hc hs
  have hmul : len * componentBytes ty ≤ len * 8 := Nat.mul_le_mul_left len a_bytes
  have hlimit : ¬ len > e.platform.arrayLengthLimit := by rw [Launch.admits_arrayLengthLimit X.admits]; omega
  have hheap : ¬ len * componentBytes ty > e.platform.maxHeapBytes := by rw [Launch.admits_maxHeapBytes X.admits]; omega
  refine a_wpNew (comp := comp) (type := ty) (s := T.setTop g) hk' (by rw [he]; exact k2) hlimit hheap a_fitd.1 a_fitd.2 (by show T.heap.size < _; omega) hr2 ?_
  refine hq _ T.heap.size ⟨T.pushCell { cls := D.2.2 (a_atag ty), slots := Array.replicate len (defaultValue ty), vm := .none }, rfl, ?_, ?_, ?_, ?_⟩
  · have X2 := X.pushed { cls := D.2.2 (a_atag ty), slots := Array.replicate len (defaultValue ty), vm := .none }
    simpa using X2
  · exact hH.push hw (Nat.le_trans hB0 hS.1) a_row_ok (a_row_C t1) (State.heap_pushCell_size _ _) (fun q hq => State.heap_pushCell_of_lt _ _ hq)
  · exact hw.push1 a_row_ok
  · exact a_S.grow hS (by rw [size_pushCell]; omega) (fun q hq => State.heap_pushCell_of_lt _ _ hq)
theorem a_Gcls {ty : FieldType} {S : State} (hKN : a_KN D s) (ht : a_tyok ty = true) (hG : a_G p l e R s m args below meth c D B H0 g ad h locs cells slots S) : ∃ (k : Class) (comp : ClassId), S.vm.classes[D.2.2 (a_atag ty)]? = some k ∧ k.kind = .array comp ty ∧ ∀ ty', ty = .array ty' → a_tyok ty' = true → comp = D.2.2 (a_atag ty') := by
  obtain ⟨T, rfl, X, -⟩ := hG
  obtain ⟨t1, t2, t3⟩ := a_tyok_ok ht
  obtain ⟨-, kA, comp, k1, k2, -, k4⟩ := hKN _ _ t3 t1
  obtain ⟨k', hk', he⟩ := X.warmed.alike.2.2 _ _ k1
  refine ⟨k', comp, hk', by rw [he]; exact k2, fun ty' e1 e2 => ?_⟩
  obtain ⟨u1, u2, u3⟩ := a_tyok_ok e2
  exact Option.some.inj ((k4 ty' e1).symm.trans (hKN _ _ u3 u1).1)
theorem a_setR_len (h : AH) (a i b : Nat) : (a_setR h a i b).length = h.length := by
  unfold a_setR
  split
  · rw [List.length_set]
  · rfl
theorem a_setR_ne (h : AH) {a i b j : Nat} (hj : j ≠ a) : (a_setR h a i b)[j]? = h[j]? := by
  unfold a_setR
  split
  · rw [List.getElem?_set_ne (Ne.symm hj)]
  · rfl
theorem a_setR_ok {ty : FieldType} {S : State} {a i b : Nat} {vs : List Value} (hKN : a_KN D s) (ht : a_tyok ty = true) (href : ty.isReference = true) (hG : a_G p l e R s m args below meth c D B H0 g ad h locs cells slots S) (ha : h[a]? = some (a_atag ty, vs)) (hi : i < vs.length) (hb : b < h.length) {Q : Unit → Pre}
    (hq : ∀ (S' : State) (locs' : List Loc) (d' : Bool) (acts' : List Action), a_G p l e R s m args below meth c D B H0 g ad (a_setR h a i b) locs' cells slots S' → Q () d' acts' S') : wp (Jvm.writeLoc (ad a) i (.ref (ad b))) Q E e d acts S := by
  obtain ⟨kS, comp, hk, hkind, -⟩ := a_Gcls hKN ht hG
  obtain ⟨T, rfl, X, hH, hw, hS⟩ := hG
  obtain ⟨t1, t2, t3⟩ := a_tyok_ok ht
  obtain ⟨cell, c1, c2⟩ := hH.1 a _ ha
  obtain ⟨d1, d2, d3, d4⟩ := c2.arr (show 19 ≤ a_atag ty by omega)
  have hal := (List.getElem?_eq_some_iff.mp ha).1
  simp only [W.writeLoc]
  refine ⟨cell, c1, d2.1, by rw [d3]; exact hi, ?_, ?_⟩
  · have hfit : fits ty (.ref (ad b)) = true := by cases ty <;> simp [FieldType.isReference] at href <;> rfl
    rw [d1]
    have hk' : T.vm.classes[D.2.2 (a_atag ty)]? = some kS := hk
    cases hvm : cell.vm <;> first | exact absurd hvm (d2.2 _) | simp [State.fitsSlot, State.slotType?, hk', hkind, hfit]
  · refine hq _ (locs ++ [⟨ad a, i⟩]) _ _ ⟨T.setCell (ad a) (cell.setSlot i (.ref (ad b))), rfl, X.stored c1 i (.ref (ad b)), ?_, ?_, ?_⟩
    · unfold a_setR
      rw [ha]
      refine hH.set ha (State.heap_setCell_self c1) (c2.setArr (show 19 ≤ a_atag ty by omega) hi (.ref b)) (fun q hq => State.heap_setCell_other (Ne.symm hq))
    · unfold a_setR
      rw [ha]
      exact (a_wf.upd1 (al := []) (st := []) ⟨fun i v hi => by simp [a_get] at hi, fun v hv => absurd hv List.not_mem_nil, hw⟩ ha (fun k hk => by cases hk; exact hb)).2.2
    · exact hS.put (size_setCell _ _ _) (fun q hq => State.heap_setCell_other (Ne.symm hq)) (hH.2.2 a _ ha t2)
end AM
/-- what is made lies behind what was there -/
def a_keepF (f : AH → AH) : Prop := ∀ h : AH, h.length < (f h).length ∧ ∀ j, j < h.length → (f h)[j]? = h[j]?
theorem a_mkL_keep {f : AH → AH} (hf : a_keepF f) (a : Nat) : ∀ (k i : Nat) (h : AH), h.length ≤ (a_mkL f a k i h).length ∧ ∀ j, j < h.length → j ≠ a → (a_mkL f a k i h)[j]? = h[j]?
  | 0, i, h => ⟨Nat.le_refl _, fun _ _ _ => rfl⟩
  | k + 1, i, h => by
    obtain ⟨g1, g2⟩ := hf h
    obtain ⟨r1, r2⟩ := a_mkL_keep hf a k (i + 1) (a_setR (f h) a i h.length)
    rw [a_setR_len] at r1 r2
    refine ⟨Nat.le_trans (Nat.le_of_lt g1) r1, fun j hj hne => ?_⟩
    show (a_mkL f a k (i + 1) (a_setR (f h) a i h.length))[j]? = _
    rw [r2 j (Nat.lt_trans hj g1) hne, a_setR_ne _ hne, g2 j hj]
theorem a_mk_keep : ∀ (ns : List Nat) (tys : List FieldType), a_tys tys ns = true → a_keepF (a_mk tys ns)
  | [], tys, ht => by rcases tys with _ | ⟨_, _ | ⟨_, _⟩⟩ <;> cases ht
  | [n], [], ht => by cases ht
  | [n], ty :: tys, ht => fun h => by
    have e : a_mk (ty :: tys) [n] h = h ++ [a_row ty n] := by cases tys <;> rfl
    rw [e]
    exact ⟨by simp, fun j hj => List.getElem?_append_left hj⟩
  | n :: n' :: ns, [], ht => by cases ht
  | n :: n' :: ns, [ty], ht => by cases ht
  | n :: n' :: ns, ty :: ty' :: tys, ht => by
    have ht' : a_tys (ty' :: tys) (n' :: ns) = true := by
      simp only [a_tys, Bool.and_eq_true] at ht
      exact ht.2.2.2
    have ih := a_mk_keep (n' :: ns) (ty' :: tys) ht'
    intro h
    have e : a_mk (ty :: ty' :: tys) (n :: n' :: ns) h = a_mkL (a_mk (ty' :: tys) (n' :: ns)) h.length n 0 (h ++ [a_row ty n]) := rfl
    rw [e]
    obtain ⟨r1, r2⟩ := a_mkL_keep ih h.length n 0 (h ++ [a_row ty n])
    rw [List.length_append, List.length_singleton] at r1 r2
    exact ⟨by omega, fun j hj => by rw [r2 j (by omega) (Nat.ne_of_lt hj), List.getElem?_append_left hj]⟩
section AM2
variable {p : Program} {l : Launch} {e : Env} {R : Room} {s : State} {m : MethodId} {args : Array Value} {below : List Frame} {meth : Method} {c : Code} {D : AD} {B : Nat} {H0 : Heap} {g : JFrame} {E : CtlPost}
set_option maxHeartbeats 2000000 in
theorem a_make_ok (hKN : a_KN D s) (hB0 : B ≤ H0.size) : ∀ (ns : List Nat) (tys : List FieldType) (cs : List Int32) (ad : Nat → Nat) (h : AH) (locs : List Loc) (cells slots : Nat) (S : State) (d : Bool) (acts : List Action) (Q : Addr → Pre) (ty : FieldType),
    a_tys tys ns = true → tys.head? = some ty → cs.map (fun n => n.toNatClampNeg) = ns → (∀ n ∈ cs, ¬ n < 0) → a_G p l e R s m args below meth c D B H0 g ad h locs cells slots S → cells + a_mkC ns ≤ R.cells → slots + a_mkS ns ≤ R.slots →
    (∀ (S' : State) (ad' : Nat → Nat) (locs' : List Loc) (d' : Bool) (acts' : List Action), a_same h.length ad ad' → a_G p l e R s m args below meth c D B H0 g ad' (a_mk tys ns h) locs' (cells + a_mkC ns) (slots + a_mkS ns) S' → Q (ad' h.length) d' acts' S') →
    wp (Op.multianewarray.make (D.2.2 (a_atag ty)) cs) Q E e d acts S
  | [], tys, cs, ad, h, locs, cells, slots, S, d, acts, Q, ty0, ht, _, _, _, _, _, _, _ => by rcases tys with _ | ⟨_, _ | ⟨_, _⟩⟩ <;> cases ht
  | [n], [], cs, ad, h, locs, cells, slots, S, d, acts, Q, ty0, ht, _, _, _, _, _, _, _ => by cases ht
  | n :: n' :: ns, [], cs, ad, h, locs, cells, slots, S, d, acts, Q, ty0, ht, _, _, _, _, _, _, _ => by cases ht
  | n :: n' :: ns, [_], cs, ad, h, locs, cells, slots, S, d, acts, Q, ty0, ht, _, _, _, _, _, _, _ => by cases ht
  | [n], ty :: tys, cs, ad, h, locs, cells, slots, S, d, acts, Q, ty0, ht, hhd, hcs, h0, hG, hc, hs, hq => by
    cases hhd
    have ht1 : a_tyok ty = true ∧ n ≤ 60000 := by
      cases tys <;> simpa [a_tys] using ht
    obtain ⟨c0, rfl⟩ : ∃ c0, cs = [c0] := by
      rcases cs with _ | ⟨c0, _ | ⟨c1, cs⟩⟩ <;> simp at hcs
      exact ⟨c0, rfl⟩
    simp only [List.map_cons, List.map_nil, List.cons.injEq, and_true] at hcs
    subst hcs
    have hn := h0 c0 List.mem_cons_self
    obtain ⟨k, comp, hk, hkind, -⟩ := a_Gcls hKN ht1.1 hG
    rw [Op.multianewarray.make]
    simp only [wp_bind', W.ite, hn, if_false, wp_pure', W.theClass, hk, hkind, Option.some.injEq, exists_eq_left']
    refine a_new1 hKN ht1.1 ht1.2 hB0 hG hc hs (fun S' q0 hG' => ?_)
    have e : a_mk (ty :: tys) [c0.toNatClampNeg] h = h ++ [a_row ty c0.toNatClampNeg] := by cases tys <;> rfl
    have k1 := hq S' (a_up ad h.length q0) locs d acts (fun k hk => a_up_lt hk) (by rw [e]; exact hG')
    rw [a_up_n] at k1
    exact k1
  | n :: n' :: ns, ty :: ty' :: tys, cs, ad, h, locs, cells, slots, S, d, acts, Q, ty0, ht, hhd, hcs, h0, hG, hc, hs, hq => by
    cases hhd
    simp only [a_tys, Bool.and_eq_true, decide_eq_true_eq] at ht
    obtain ⟨ht1, hn6, hty, ht2⟩ := ht
    obtain ⟨c0, cs, rfl⟩ : ∃ c0 cs', cs = c0 :: cs' := by
      cases cs with
      | nil => simp at hcs
      | cons c0 cs' => exact ⟨c0, cs', rfl⟩
    simp only [List.map_cons, List.cons.injEq] at hcs
    obtain ⟨hc0, hcs⟩ := hcs
    subst hc0
    obtain ⟨c1, cs, rfl⟩ : ∃ c1 cs', cs = c1 :: cs' := by
      cases cs with
      | nil => simp at hcs
      | cons c0 cs' => exact ⟨c0, cs', rfl⟩
    have hn := h0 c0 List.mem_cons_self
    have ht' : a_tyok ty' = true := by
      cases tys <;> cases ns <;> simp [a_tys] at ht2 <;> first | exact ht2.1 | exact ht2.1
    obtain ⟨k, comp, hk, hkind, hcomp⟩ := a_Gcls hKN ht1 hG
    have hcomp' := hcomp ty' hty ht'
    subst hcomp'
    have href : ty.isReference = true := by rw [hty]; rfl
    have hdef : defaultValue ty = .null := by rw [hty]; rfl
    have hfind : ((c1 :: cs).find? (· < 0)) = none := by
      rw [List.find?_eq_none]
      intro x hx
      simpa using h0 x (List.mem_cons_of_mem _ hx)
    have hC : a_mkC (c0.toNatClampNeg :: n' :: ns) = 1 + c0.toNatClampNeg * a_mkC (n' :: ns) := rfl
    have hSs : a_mkS (c0.toNatClampNeg :: n' :: ns) = c0.toNatClampNeg + c0.toNatClampNeg * a_mkS (n' :: ns) := rfl
    rw [hC] at hc
    rw [hSs] at hs
    rw [Op.multianewarray.make]
    simp only [wp_bind', W.ite, hn, if_false, wp_pure', W.theClass, hk, hkind, Option.some.injEq, exists_eq_left']
    rw [← hdef]
    refine a_new1 hKN ht1 hn6 hB0 hG (by omega) (by omega) (fun S1 q0 hG1 => ?_)
    simp only [hfind]
    rw [ite_self, wp_bind', Std.Legacy.Range.forIn_eq_forIn_range']
    have hsz : ([:c0.toNatClampNeg] : Std.Legacy.Range).size = c0.toNatClampNeg := by simp [Std.Legacy.Range.size]
    rw [hsz]
    show wp (forIn (List.range' 0 c0.toNatClampNeg 1) PUnit.unit _) _ E e d acts _
    have keep := a_mk_keep (n' :: ns) (ty' :: tys) ht2
    refine wp_forIn_inv (fun rest S' => ∃ (i : Nat) (ad' : Nat → Nat) (h' : AH) (locs' : List Loc) (vs : List Value), i ≤ c0.toNatClampNeg ∧ rest = List.range' i (c0.toNatClampNeg - i) ∧ a_same (h.length + 1) (a_up ad h.length q0) ad' ∧ h.length + 1 ≤ h'.length ∧ h'[h.length]? = some (a_atag ty, vs) ∧ vs.length = c0.toNatClampNeg ∧
        a_mkL (a_mk (ty' :: tys) (n' :: ns)) h.length c0.toNatClampNeg 0 (h ++ [a_row ty c0.toNatClampNeg]) = a_mkL (a_mk (ty' :: tys) (n' :: ns)) h.length (c0.toNatClampNeg - i) i h' ∧
        a_G p l e R s m args below meth c D B H0 g ad' h' locs' (cells + 1 + i * a_mkC (n' :: ns)) (slots + c0.toNatClampNeg + i * a_mkS (n' :: ns)) S') _ _
      ⟨0, _, _, locs, List.replicate c0.toNatClampNeg (defaultValue ty), Nat.zero_le _, rfl, a_same.rf, by simp, by rw [List.getElem?_append_right (Nat.le_refl _), Nat.sub_self]; rfl, List.length_replicate, rfl, by simpa using hG1⟩ ?_ ?_
    · rintro x rest S' d' acts' Q' ⟨i, ad', h', locs', vs, hi, hl, hsame, hlen, hroot, hvs, hmk, hG'⟩ hnext
      have hlt : i < c0.toNatClampNeg := by
        rcases Nat.lt_or_ge i c0.toNatClampNeg with q | q
        · exact q
        · rw [show c0.toNatClampNeg - i = 0 from by omega] at hl; simp at hl
      obtain ⟨rfl, hrest⟩ : x = i ∧ rest = List.range' (i + 1) (c0.toNatClampNeg - (i + 1)) := by
        rw [show c0.toNatClampNeg - i = (c0.toNatClampNeg - (i + 1)) + 1 from by omega, List.range'_succ] at hl
        exact ⟨(List.cons.inj hl).1, (List.cons.inj hl).2⟩
      have m1 : x * a_mkC (n' :: ns) + a_mkC (n' :: ns) ≤ c0.toNatClampNeg * a_mkC (n' :: ns) := by
        have := Nat.mul_le_mul_right (a_mkC (n' :: ns)) (show x + 1 ≤ c0.toNatClampNeg from hlt)
        rw [Nat.succ_mul] at this; exact this
      have m2 : x * a_mkS (n' :: ns) + a_mkS (n' :: ns) ≤ c0.toNatClampNeg * a_mkS (n' :: ns) := by
        have := Nat.mul_le_mul_right (a_mkS (n' :: ns)) (show x + 1 ≤ c0.toNatClampNeg from hlt)
        rw [Nat.succ_mul] at this; exact this
      simp only [wp_bind']
      refine a_make_ok hKN hB0 (n' :: ns) (ty' :: tys) (c1 :: cs) ad' h' locs' _ _ S' d' acts' _ ty' ht2 rfl hcs (fun n hn => h0 n (List.mem_cons_of_mem _ hn)) hG' (by omega) (by omega) (fun S2 ad2 locs2 d2 acts2 hsame2 hG2 => ?_)
      obtain ⟨kp1, kp2⟩ := keep h'
      have hr2 := kp2 h.length (by omega)
      rw [hroot] at hr2
      have hq0 : ad2 h.length = q0 := by rw [hsame2 _ (by omega), hsame _ (by omega), a_up_n]
      simp only [wp_bind']
      rw [← hq0]
      refine a_setR_ok hKN ht1 href hG2 hr2 (by rw [hvs]; exact hlt) kp1 (fun S3 locs3 d3 acts3 hG3 => ?_)
      simp only [wp_pure']
      refine hnext _ _ _ ⟨x + 1, ad2, a_setR (a_mk (ty' :: tys) (n' :: ns) h') h.length x h'.length, locs3, vs.set x (.ref h'.length), hlt, hrest, fun k hk => ?_, by rw [a_setR_len]; omega, ?_, by rw [List.length_set]; exact hvs, ?_, ?_⟩
      · rw [hsame2 k (by omega)]
        exact hsame k hk
      · unfold a_setR
        rw [hr2]
        dsimp only
        rw [List.getElem?_set_self (by omega)]
      · rw [hmk, show c0.toNatClampNeg - x = (c0.toNatClampNeg - (x + 1)) + 1 from by omega]
        rfl
      · rw [Nat.succ_mul, Nat.succ_mul, ← Nat.add_assoc, ← Nat.add_assoc]
        exact hG3
    · rintro S' d' acts' ⟨i, ad', h', locs', vs, hi, hl, hsame, hlen, hroot, hvs, hmk, hG'⟩
      have hiN : i = c0.toNatClampNeg := by
        rcases Nat.lt_or_ge i c0.toNatClampNeg with q | q
        · rw [show c0.toNatClampNeg - i = (c0.toNatClampNeg - (i + 1)) + 1 from by omega, List.range'_succ] at hl; cases hl
        · omega
      subst hiN
      simp only [wp_pure']
      have hq0 : ad' h.length = q0 := by rw [hsame _ (by omega), a_up_n]
      rw [← hq0]
      refine hq S' ad' locs' d' acts' (fun k hk => by rw [hsame k (by omega)]; exact a_up_lt hk) ?_
      rw [Nat.sub_self] at hmk
      have e : a_mk (ty :: ty' :: tys) (c0.toNatClampNeg :: n' :: ns) h = h' := hmk
      rw [e, hC, hSs, ← Nat.add_assoc, ← Nat.add_assoc]
      exact hG'
end AM2
end
/-! part 16.multi2 -/
section
/-- one instruction, the end of the walk behind it to be found -/
theorem a_instrE {tb : Tables} [Ours tb] {e : Env} {below : List Frame} {s : State} {f : JFrame} {c : Code} {i : Instr} {len : Nat} {Qf : State → Prop} (h : At s f.method c below) (hd : decode c.code f.pc = .ok (i, len))
    (hw : wpRun (tb.exec i) (fun _ s₁ _ => ∀ acts, ∃ t, Steps tb e below (afterInstr e len (.ok () s₁ acts)).1 t ∧ Qf t) (fun _ _ _ => False) e (s.setTop f)) : ∃ t, Steps tb e below (s.setTop f) t ∧ Qf t := by
  have key : ∀ t, Steps tb e below (stepThread tb e (s.setTop f)).1 t → Steps tb e below (s.setTop f) t := fun t ht =>
    Steps.head ⟨h.running, by rw [State.curStatus?_setTop]; exact h.runnable, by rw [State.alone_setTop]; exact h.alone⟩ (h.within f) ht
  rw [stepThread_java (State.frames_setTop' f h.top) h.plain h.code hd] at key
  have hw := (wpRun_iff_run _ _ _ _ _).mp hw
  cases hr : (tb.exec i).run e (s.setTop f) with
  | ok a s₁ acts =>
    rw [hr] at hw key
    obtain ⟨t, h1, h2⟩ := hw acts
    exact ⟨t, key t h1, h2⟩
  | ctl x s₁ acts =>
    rw [hr] at hw
    cases x <;> exact hw.elim
/-- 'multianewarray': class, pool number, the outer component type -/
def a_mtb : List (Nat × Nat × FieldType) := [(1, 22, .array .int), (6, 24, .array .int), (12, 45, .array .boolean), (12, 50, .array .int), (12, 121, .array (.array .boolean)), (12, 126, .array (.array .int))]
theorem a_mtb_ok : a_mtb.all (fun e => (a_of a_arr e.1).any (fun q => q.1 == e.2.1 && q.2.1 == "[" ++ e.2.2.toString)) = true := by decide +kernel
def a_comps : FieldType → List FieldType
  | .array t => .array t :: a_comps t
  | t => [t]
def a_mty (own idx : Nat) : Option FieldType := (a_mtb.find? (fun e => e.1 == own && e.2.1 == idx)).map (fun e => e.2.2)
def a_st6 (own : Nat) (i : Instr) (pc : Nat) (al : AL) (st : List Value) (h : AH) : Option AS := match i, st with
  | .multianewarray idx 2, .int k :: .int n :: st => match a_mty own idx with
    | some t => if a_tys (a_comps t) [n.toNatClampNeg, k.toNatClampNeg] = true ∧ ¬ n < 0 ∧ ¬ k < 0 then some (pc + 4, al, .ref h.length :: st, a_mk (a_comps t) [n.toNatClampNeg, k.toNatClampNeg] h, a_mkC [n.toNatClampNeg, k.toNatClampNeg], a_mkS [n.toNatClampNeg, k.toNatClampNeg]) else none
    | none => none
  | .multianewarray idx 3, .int k :: .int o :: .int n :: st => match a_mty own idx with
    | some t => if a_tys (a_comps t) [n.toNatClampNeg, o.toNatClampNeg, k.toNatClampNeg] = true ∧ ¬ n < 0 ∧ ¬ o < 0 ∧ ¬ k < 0 then some (pc + 4, al, .ref h.length :: st, a_mk (a_comps t) [n.toNatClampNeg, o.toNatClampNeg, k.toNatClampNeg] h, a_mkC [n.toNatClampNeg, o.toNatClampNeg, k.toNatClampNeg], a_mkS [n.toNatClampNeg, o.toNatClampNeg, k.toNatClampNeg]) else none
    | none => none
  | _, _ => none
theorem a_mty_ok {own idx : Nat} {t : FieldType} (h : a_mty own idx = some t) : Cond.classLink (a_cN own) idx ("[" ++ t.toString) ∈ a_wG := by
  unfold a_mty at h
  rw [Option.map_eq_some_iff] at h
  obtain ⟨q, h1, rfl⟩ := h
  have h2 := List.find?_some h1
  simp only [Bool.and_eq_true, beq_iff_eq] at h2
  have h3 := List.all_eq_true.mp a_mtb_ok q (List.mem_of_find?_eq_some h1)
  rw [List.any_eq_true] at h3
  obtain ⟨r, hr, h4⟩ := h3
  simp only [Bool.and_eq_true, beq_iff_eq] at h4
  have h5 := a_all_of a_arr_ok hr
  have h6 := a_at_in h5
  rw [h4.1, h4.2, h2.1, h2.2] at h6
  exact h6
theorem a_comps_hd {t : FieldType} : (a_comps t).head? = some t := by cases t <;> rfl
theorem a_comps_ok {t : FieldType} {n : Nat} {ns : List Nat} (h : a_tys (a_comps t) (n :: ns) = true) : a_tyok t = true := by
  have hh := a_comps_hd (t := t)
  cases hc : a_comps t with
  | nil => rw [hc] at hh; cases hh
  | cons u us =>
    rw [hc] at hh h
    cases hh
    cases us <;> cases ns <;> simp [a_tys] at h <;> exact h.1
section AM3
variable {p : Program} {l : Launch} {e : Env} {R : Room} {s : State} {m : MethodId} {args : Array Value} {below : List Frame} {meth : Method} {c : Code} {H : Heap} {locs : List Loc} {cells slots : Nat} {Q : State → Prop} {cc : ByteArray} {pc : Nat} {ls : Array Slot} {rest : List Value} {i : Instr} {D : AD} {B : Nat} {ad : Nat → Nat} {h : AH} {H0 : Heap}
set_option maxHeartbeats 2000000 in
theorem a_multi_ok (hx : p.tables.exec = Jvm.exec) (hb : c.code = cc) {own idx dims : Nat} {t : FieldType} (hown : s.vm.findClass (a_cN own) = some m.cls) (hts : ∀ w ∈ a_wG, w.before args s = true) (hKN : a_KN D s) (hB0 : B ≤ H0.size) (hH : a_H D B ad h H) (hS : va_S (fun q => B ≤ q) H0 H locs) (hw : a_wh h)
    (cs : List Int32) (hdg : decode cc pc = .ok (.multianewarray idx dims, 4)) (hmt : a_mty own idx = some t) (ht : a_tys (a_comps t) (cs.map fun n => n.toNatClampNeg) = true) (h0 : ∀ n ∈ cs, ¬ n < 0)
    (hcs : (dims = 2 ∧ ∃ n k, cs = [n, k]) ∨ (dims = 3 ∧ ∃ n o k, cs = [n, o, k]))
    (hRc : cells + a_mkC (cs.map fun n => n.toNatClampNeg) ≤ R.cells) (hRs : slots + a_mkS (cs.map fun n => n.toNatClampNeg) ≤ R.slots)
    (kk : ∀ (ad' : Nat → Nat) (H' : Heap) (locs' : List Loc), a_same h.length ad ad' → a_H D B ad' (a_mk (a_comps t) (cs.map fun n => n.toNatClampNeg) h) H' → va_S (fun q => B ≤ q) H0 H' locs' → W p l e R s m args below meth c H' locs' (cells + a_mkC (cs.map fun n => n.toNatClampNeg)) (slots + a_mkS (cs.map fun n => n.toNatClampNeg)) Q (F0 m (pc + 4) ls (.ref (ad' h.length) :: rest))) : W p l e R s m args below meth c H locs cells slots Q (F0 m pc ls ((cs.map Value.int).reverse ++ rest)) := by
  intro T hT X
  subst hT
  have hpl : e.platform.magicAccessors = ({} : Platform).magicAccessors := by rw [X.admits.platform]
  have hcl0 := hts _ (a_mty_ok hmt)
  have htok : a_tyok t = true := by
    rcases hcs with ⟨-, n, k, rfl⟩ | ⟨-, n, o, k, rfl⟩ <;> exact a_comps_ok ht
  obtain ⟨t1, t2, t3⟩ := a_tyok_ok htok
  obtain ⟨c0, hfc0, hcl⟩ := Cond.classLink_spec hown hcl0 e.platform hpl
  have ec : c0 = D.2.2 (a_atag t) := Option.some.inj (hfc0.symm.trans (hKN _ _ t3 t1).1)
  subst ec
  obtain ⟨hg₁, hwarm₁, hready₁⟩ := State.classEntry (e := e) X.warmed hcl
  generalize T.vm.noted m.cls idx (.cls (D.2.2 (a_atag t))) = vm₁ at hg₁ hwarm₁ hready₁
  have X₁ := X.noted hwarm₁
  refine a_instrE (f := F0 m pc ls ((cs.map Value.int).reverse ++ rest)) X.here (by rw [hb]; exact hdg) ?_
  rw [hx]
  show wp (Op.multianewarray.sem idx dims) _ _ e false [] _
  have eS : ((T.setTop (F0 m pc ls ((cs.map Value.int).reverse ++ rest))).setVm vm₁).setTop (F0 m pc ls rest) = (T.setVm vm₁).setTop (F0 m pc ls rest) := by
    show ((T.setVm vm₁).setTop _).setTop _ = _
    rw [State.setTop_setTop]
  have hmake : ∀ (d : Bool) (acts : List Action), wp (Op.multianewarray.make (D.2.2 (a_atag t)) cs) (fun a => wp (do mark "op.multianewarray"; pushRef a) (fun _ _ _ s₁ => ∀ acts, ∃ t, Steps p.tables e below (afterInstr e 4 (.ok () s₁ acts)).1 t ∧ Q t) (fun _ _ _ => False) e) (fun _ _ _ => False) e d acts ((T.setVm vm₁).setTop (F0 m pc ls rest)) := by
    intro d acts
    refine a_make_ok hKN hB0 _ (a_comps t) cs ad h locs cells slots _ d acts _ t ht a_comps_hd rfl h0 ⟨T.setVm vm₁, rfl, X₁, hH, hw, hS⟩ hRc hRs (fun S' ad' locs' d' acts' hsame hG' => ?_)
    obtain ⟨T', rfl, X', hH', hw', hS'⟩ := hG'
    simp only [wp_bind', W.mark, W.pushRef, State.topJava?_setTop' _ X'.here.top, Option.some.injEq, exists_eq_left', State.setTop_setTop]
    intro acts2
    rw [afterInstr_ok]
    exact kk ad' T'.heap locs' hsame hH' hS' T' rfl X'
  rcases hcs with ⟨rfl, n, k, rfl⟩ | ⟨rfl, n, o, k, rfl⟩
  · have hres : (T.setTop (F0 m pc ls (([n, k].map Value.int).reverse ++ rest))).method? = some m := State.method?_setTop _ X.here.top
    simp only [Op.multianewarray.sem, wp_bind', W.resolveClassAt_links hres hg₁]
    rw [W.popN, if_neg (by decide)]
    refine ⟨F0 m pc ls (([n, k].map Value.int).reverse ++ rest), State.topJava?_setTop' (s := T.setVm vm₁) _ X.here.top, [.int n, .int k], rest, rfl, rfl, ?_⟩
    simp only [List.mapM_cons, List.mapM_nil, wp_bind', wp_pure']
    have hm := hmake true []
    simp only [wp_bind'] at hm
    rw [← eS] at hm
    exact hm
  · have hres : (T.setTop (F0 m pc ls (([n, o, k].map Value.int).reverse ++ rest))).method? = some m := State.method?_setTop _ X.here.top
    simp only [Op.multianewarray.sem, wp_bind', W.resolveClassAt_links hres hg₁]
    rw [W.popN, if_neg (by decide)]
    refine ⟨F0 m pc ls (([n, o, k].map Value.int).reverse ++ rest), State.topJava?_setTop' (s := T.setVm vm₁) _ X.here.top, [.int n, .int o, .int k], rest, rfl, rfl, ?_⟩
    simp only [List.mapM_cons, List.mapM_nil, wp_bind', wp_pure']
    have hm := hmake true []
    simp only [wp_bind'] at hm
    rw [← eS] at hm
    exact hm
end AM3
end
/-! part 17.copy -/
section
/-! System.arraycopy between arrays of one type that isn't a reference -/
def a_cpyW : List Cond := [.methodLink "JuryreelModel" 166 arraycopyName, .native arraycopyName, .static arraycopyName, .initialized "java/lang/System"]
theorem a_cpyW_ok : ∀ w ∈ a_cpyW, w ∈ lw_tbl ∧ goodWord w = true := by decide +kernel
theorem a_cpyW_in {w : Cond} (h : w ∈ a_cpyW) : w ∈ a_wG := a_wG_of (a_cpyW_ok w h).1 (a_cpyW_ok w h).2
/-- pairs (value, place behind at_) laid into a list -/
def a_prs (at_ : Nat) : List (Value × Nat) → List Value → List Value
  | [], ws => ws
  | q :: r, ws => a_prs at_ r (ws.set (at_ + q.2) q.1)
def a_fitL (ty : FieldType) (xs : List Value) : Bool := xs.all fun v => decide (a_kind v < 4) && fits ty v
/-- the stretch that is copied -/
def a_sl (vs : List Value) (sp n : Nat) : List Value := (vs.drop sp).take n
def a_acp (own : Nat) (i : Instr) (len : Nat) (st : List Value) (h : AH) : Option (List Value × AH) := match i, st with
  | .invokestatic idx, .int n :: .int dp :: .ref b :: .int sp :: .ref a :: st =>
    if own = 12 ∧ idx = 166 ∧ len = 3 ∧ a_cat st ≤ 8 ∧ ¬ sp < 0 ∧ ¬ dp < 0 ∧ ¬ n < 0 then
      match h[a]?, h[b]? with
      | some (t, vs), some (u, ws) => match a_aty t with
        | some ty => if t = u ∧ 20 ≤ t ∧ refKind ty = false ∧ sp.toNatClampNeg + n.toNatClampNeg ≤ vs.length ∧ dp.toNatClampNeg + n.toNatClampNeg ≤ ws.length ∧ a_fitL ty (a_sl vs sp.toNatClampNeg n.toNatClampNeg) = true then
            some (st, h.set b (u, a_prs dp.toNatClampNeg (a_sl vs sp.toNatClampNeg n.toNatClampNeg).zipIdx ws)) else none
        | none => none
      | _, _ => none
    else none
  | .pop2, v :: st => if len = 1 ∧ v.category = 2 then some (st, h) else none
  | _, _ => none
theorem a_prs_len (at_ : Nat) : ∀ (qs : List (Value × Nat)) (ws : List Value), (a_prs at_ qs ws).length = ws.length
  | [], ws => rfl
  | q :: r, ws => by rw [a_prs, a_prs_len at_ r, List.length_set]
theorem a_prs_in (at_ : Nat) : ∀ (qs : List (Value × Nat)) (ws : List Value) (v : Value), v ∈ a_prs at_ qs ws → v ∈ ws ∨ ∃ q ∈ qs, v = q.1
  | [], ws, v, h => Or.inl h
  | q :: r, ws, v, h => by
    rw [a_prs] at h
    rcases a_prs_in at_ r _ v h with g | ⟨q', g1, g2⟩
    · rcases List.mem_or_eq_of_mem_set g with g | g
      · exact Or.inl g
      · exact Or.inr ⟨q, List.mem_cons_self, g⟩
    · exact Or.inr ⟨q', List.mem_cons_of_mem _ g1, g2⟩
theorem a_fitL_in {ty : FieldType} {xs : List Value} (h : a_fitL ty xs = true) {v : Value} (hv : v ∈ xs) : a_kind v < 4 ∧ fits ty v = true := by
  have := List.all_eq_true.mp h v hv
  rw [Bool.and_eq_true, decide_eq_true_eq] at this
  exact this
theorem a_ren_k {ad : Nat → Nat} {v : Value} (h : a_kind v < 4) : a_ren ad v = v := by
  cases v <;> first | rfl | exact absurd h (by decide : ¬ (4 : Nat) < 4)
theorem a_zip_in {xs : List Value} {q : Value × Nat} (h : q ∈ xs.zipIdx) : q.1 ∈ xs ∧ q.2 < xs.length := by
  obtain ⟨v, k⟩ := q
  rw [List.mk_mem_zipIdx_iff_getElem?] at h
  exact ⟨List.mem_of_getElem? h, (List.getElem?_eq_some_iff.mp h).1⟩
theorem a_C.prs {D : AD} {ad : Nat → Nat} {t : Nat} (ht : 19 ≤ t) (at_ : Nat) : ∀ (qs : List (Value × Nat)) (vs : List Value) (ce : Cell), a_C D ad (t, vs) ce → (∀ q ∈ qs, a_kind q.1 < 4 ∧ at_ + q.2 < vs.length) → a_C D ad (t, a_prs at_ qs vs) (ce.storePairs at_ qs)
  | [], vs, ce, h, _ => h
  | q :: r, vs, ce, h, hq => by
    rw [a_prs]
    show a_C D ad _ ((ce.setSlot (at_ + q.2) q.1).storePairs at_ r)
    have h1 := h.setArr ht (hq q List.mem_cons_self).2 q.1
    rw [a_ren_k (hq q List.mem_cons_self).1] at h1
    exact a_C.prs ht at_ r _ _ h1 (fun q' hq' => ⟨(hq q' (List.mem_cons_of_mem _ hq')).1, by rw [List.length_set]; exact (hq q' (List.mem_cons_of_mem _ hq')).2⟩)
theorem a_acp_wf {own : Nat} {i : Instr} {len : Nat} {st st' : List Value} {h h' : AH} {al : AL} (hr : a_acp own i len st h = some (st', h')) (w : a_wf al st h) : a_wf al st' h' ∧ h.length ≤ h'.length := by
  unfold a_acp at hr
  split at hr
  · rename_i idx n dp b sp a st2
    split at hr
    · split at hr
      · rename_i t vs u ws ha hb
        split at hr
        · rename_i ty hty
          split at hr
          · rename_i hc
            cases hr
            refine ⟨w.tl.tl.tl.tl.tl.upd hb (fun v hv => ?_), Nat.le_of_eq (a_set_len ..).symm⟩
            rcases a_prs_in _ _ _ _ hv with g | ⟨q, g1, g2⟩
            · exact w.2.2 b _ hb v g
            · intro k hk
              have g3 := (a_fitL_in hc.2.2.2.2.2 (a_zip_in g1).1).1
              rw [← g2, hk] at g3
              exact absurd g3 (by decide : ¬ (4 : Nat) < 4)
          · cases hr
        · cases hr
      · cases hr
    · cases hr
  · split at hr
    · cases hr
      exact ⟨w.tl, Nat.le_refl _⟩
    · cases hr
  · cases hr
section AXC
variable {p : Program} {l : Launch} {e : Env} {R : Room} {s : State} {m : MethodId} {args : Array Value} {below : List Frame} {meth : Method} {c : Code} {H : Heap} {locs : List Loc} {cells slots : Nat} {Q : State → Prop} {cc : ByteArray} {pc : Nat} {ls : Array Slot} {D : AD} {B : Nat} {ad : Nat → Nat} {h : AH} {H0 : Heap}
theorem a_acp_ok (hx : p.tables.exec = Jvm.exec) (hb : c.code = cc) (hml : ls.size = c.maxLocals) {own len : Nat} (hown : s.vm.findClass (a_cN own) = some m.cls) (hts : ∀ w ∈ a_wG, w.before args s = true) (hKA : a_KA D s) (hH : a_H D B ad h H) (hS : va_S (fun q => B ≤ q) H0 H locs) {i : Instr} {st st' : List Value} {h' : AH} (hdg : decode cc pc = .ok (i, len)) (hr : a_acp own i len st h = some (st', h'))
    (hRf : 1 ≤ R.frames) (hRl : 100 ≤ R.locals)
    (kk : ∀ (H' : Heap) (locs' : List Loc), a_H D B ad h' H' → va_S (fun q => B ≤ q) H0 H' locs' → W p l e R s m args below meth c H' locs' cells slots Q (F0 m (pc + len) ls (st'.map (a_ren ad)))) : W p l e R s m args below meth c H locs cells slots Q (F0 m pc ls (st.map (a_ren ad))) := by
  have nn : ∀ z : Int32, ¬ z < 0 → z.toInt = (z.toNatClampNeg : Int) := by
    intro z hz
    have hz0 : (0 : Int) ≤ z.toInt := by
      have := Int32.not_lt.mp hz
      simpa using Int32.le_iff_toInt_le.mp this
    show z.toInt = ((z.toInt.toNat : Nat) : Int)
    omega
  unfold a_acp at hr
  split at hr
  · rename_i idx n dp b sp a st2
    split at hr
    · rename_i hc1
      obtain ⟨z1, z2, z3, z4, h1, h2, h3⟩ := hc1
      subst z1 z2 z3
      split at hr
      · rename_i t vs u ws ha hbb
        split at hr
        · rename_i ty hty
          split at hr
          · rename_i hc
            obtain ⟨y1, y2, y3, y4, y5, y6⟩ := hc
            subst y1
            cases hr
            intro T hT X
            obtain ⟨ca, a1, a2⟩ := hH.1 a _ ha
            obtain ⟨cb, b1, b2⟩ := hH.1 b _ hbb
            obtain ⟨p1, p2, p3, p4⟩ := a2.arr (show 19 ≤ t by omega)
            obtain ⟨q1, q2, q3, q4⟩ := b2.arr (show 19 ≤ t by omega)
            obtain ⟨kA, comp, k1, k2⟩ := hKA t ty hty
            have hstr : ca.stretch sp.toNatClampNeg n.toNatClampNeg = a_sl vs sp.toNatClampNeg n.toNatClampNeg := by
              apply List.ext_getElem?
              intro j
              unfold Cell.stretch a_sl
              rw [List.getElem?_map, List.getElem?_take]
              by_cases hj : j < n.toNatClampNeg
              · rw [List.getElem?_range hj, if_pos hj, List.getElem?_drop]
                have hlt : sp.toNatClampNeg + j < vs.length := by omega
                rw [List.getElem?_eq_getElem hlt]
                show some (ca.slots.getD (sp.toNatClampNeg + j) .null) = _
                rw [Array.getD_eq_getD_getElem?, p4 _ _ (List.getElem?_eq_getElem hlt)]
                have hm : vs[sp.toNatClampNeg + j] ∈ a_sl vs sp.toNatClampNeg n.toNatClampNeg := by
                  unfold a_sl
                  apply List.mem_of_getElem? (i := j)
                  rw [List.getElem?_take, if_pos hj, List.getElem?_drop, List.getElem?_eq_getElem hlt]
                rw [a_ren_k (a_fitL_in y6 hm).1]
                rfl
              · rw [if_neg hj, List.getElem?_eq_none (by rw [List.length_range]; omega)]
                rfl
            have hsz : ∀ j, j < n.toNatClampNeg → ca.slots.getD (sp.toNatClampNeg + j) .null ∈ a_sl vs sp.toNatClampNeg n.toNatClampNeg := fun j hj => by
              rw [← hstr]
              exact List.mem_map.mpr ⟨j, List.mem_range.mpr hj, rfl⟩
            obtain ⟨vm', X', step⟩ := X.arraycopy hx hown (hts _ (a_cpyW_in (List.mem_cons_self))) (hts _ (a_cpyW_in (List.mem_cons_of_mem _ List.mem_cons_self))) (hts _ (a_cpyW_in (List.mem_cons_of_mem _ (List.mem_cons_of_mem _ List.mem_cons_self)))) (hts _ (a_cpyW_in (List.mem_cons_of_mem _ (List.mem_cons_of_mem _ (List.mem_cons_of_mem _ List.mem_cons_self))))) (src := ad a) (dst := ad b) (cs := ca) (cd := cb) (srcPos := sp) (destPos := dp) (n := n) (by rw [hT]; exact a1) (by rw [hT]; exact b1)
              p2.2 q2.2 p2.1 q2.1 (by rw [p1]; exact k1) (by rw [q1]; exact k1) k2 k2 (by simp [y3]) h1 h2 h3
              (by rw [nn sp h1, nn n h3, p3]; show ¬ _ > ((vs.length : Nat) : Int); omega)
              (by rw [nn dp h2, nn n h3, q3]; show ¬ _ > ((ws.length : Nat) : Int); omega)
              (fun vm₁ _ j hj => by
                have hm := a_fitL_in y6 (hsz j hj)
                refine ⟨hm.2, ?_⟩
                generalize ca.slots.getD (sp.toNatClampNeg + j) .null = v at hm
                cases v <;> first | exact trivial | exact absurd hm.1 (by decide : ¬ (4 : Nat) < 4))
              (g := F0 m pc ls ((Value.int n :: .int dp :: .ref b :: .int sp :: .ref a :: st').map (a_ren ad))) rfl hml (rest := st'.map (a_ren ad)) rfl (by rw [hb]; exact hdg) hRf
              (by
                have hcat : ((st'.map (a_ren ad)).map fun v => v.category).sum = a_cat st' := by
                  unfold a_cat
                  rw [List.map_map]
                  congr 1
                  exact List.map_congr_left fun v _ => a_ren_cat ad v
                have hnw : nativeFrameWords "java/lang/System" "arraycopy" 5 ≤ 60 := by decide +kernel
                show 2 * 0 + _ + _ ≤ _
                rw [hcat]; omega)
            have e1 : copied ca cb sp dp n = cb.storePairs dp.toNatClampNeg (a_sl vs sp.toNatClampNeg n.toNatClampNeg).zipIdx := by
              show cb.storePairs dp.toNatClampNeg (ca.stretch sp.toNatClampNeg n.toNatClampNeg).zipIdx = _
              rw [hstr]
            rw [e1] at X' step
            have hin : ∀ q ∈ (a_sl vs sp.toNatClampNeg n.toNatClampNeg).zipIdx, a_kind q.1 < 4 ∧ dp.toNatClampNeg + q.2 < ws.length := fun q hq => by
              obtain ⟨g1, g2⟩ := a_zip_in hq
              have g3 : (a_sl vs sp.toNatClampNeg n.toNatClampNeg).length ≤ n.toNatClampNeg := by unfold a_sl; rw [List.length_take]; omega
              exact ⟨(a_fitL_in y6 g1).1, by omega⟩
            have hC := b2.prs (show 19 ≤ t by omega) dp.toNatClampNeg _ _ _ hin
            have hl : ad b < H.size := (Array.getElem?_eq_some_iff.mp b1).1
            generalize hcd : cb.storePairs dp.toNatClampNeg (a_sl vs sp.toNatClampNeg n.toNatClampNeg).zipIdx = cd at X' step hC
            have hheap : ((T.setVm vm').setCell (ad b) cd).heap = H.setIfInBounds (ad b) cd := by rw [← hT]; rfl
            have oq : ∀ q : Nat, q ≠ ad b → (H.setIfInBounds (ad b) cd)[q]? = H[q]? := fun q hq => by simp [Array.getElem?_setIfInBounds, Ne.symm hq]
            obtain ⟨t2, a9, b9⟩ := kk _ _ (hH.set hbb (show (H.setIfInBounds (ad b) cd)[ad b]? = some cd by simp [Array.getElem?_setIfInBounds, hl]) hC oq) ⟨by simp; exact hS.1, fun q g1 g2 => by
                rw [oq q (fun e => g2 (by rw [e]; exact hH.2.2 b _ hbb (by show t ≠ 19; omega)))]
                exact hS.2.1 q g1 g2, fun q hq => by
                rcases List.mem_append.mp hq with g | g
                · exact hS.2.2 q g
                · obtain ⟨z, -, hz⟩ := List.mem_map.mp g
                  rw [← hz]
                  exact hH.2.2 b _ hbb (by show t ≠ 19; omega)⟩ _ hheap X'
            exact ⟨t2, step t2 a9, b9⟩
          · cases hr
        · cases hr
      · cases hr
    · cases hr
  · split at hr
    · rename_i v st2 hc
      cases hr
      rw [hc.1] at hdg
      have k1 := kk H locs hH hS
      rw [hc.1] at k1
      exact lv_pop2_2 hx hb hdg (by rw [a_ren_cat]; exact hc.2) k1
    · cases hr
  · cases hr
end AXC
end
/-! part 18.run -/
section
/-! The abstract machine's run of a method -/
def a_sw (i : Instr) (pc : Nat) (al : AL) (st : List Value) (h : AH) : Option AS := match i, st with
  | .tableswitch dflt lo hi offs, .int x :: st =>
    if x.toInt < lo ∨ hi < x.toInt then (a_tgt pc dflt).map (fun t => (t, al, st, h, 0, 0))
    else (offs[(x.toInt - lo).toNat]?).bind (fun off => (a_tgt pc off).map (fun t => (t, al, st, h, 0, 0)))
  | _, _ => none
def a_stp (own : Nat) (ini : Bool) (i : Instr) (len : Nat) (pc : Nat) (al : AL) (st : List Value) (h : AH) : Option AS :=
  match a_sw i pc al st h with
  | some r => some r
  | none => if len = a_len i then
    match a_st1 i pc al st h with
    | some r => some r
    | none => match a_st4 own ini i pc al st h with
    | some r => some r
    | none => match a_st2 i pc al st h with
    | some r => some r
    | none => match a_st3 i pc al st h with
    | some r => some r
    | none => match a_st5 own i pc al st h with
    | some r => some r
    | none => a_st6 own i pc al st h
    else none
abbrev AM : Type := Nat × String × String × Nat × Option FieldType × Nat × List (Nat × Nat × Nat × Nat × Nat × Nat × Nat) × (Nat × Nat)
theorem a_getD2 {α : Type} {C : List (List α)} {q r : Nat} {d : α} : (C.getD q []).getD r d ∈ C.flatten ∨ (C.getD q []).getD r d = d := by
  cases h1 : C[q]? with
  | none =>
    right
    have e : C.getD q [] = [] := by rw [List.getD_eq_getElem?_getD, h1]; rfl
    rw [e]
    rfl
  | some l =>
    have e : C.getD q [] = l := by rw [List.getD_eq_getElem?_getD, h1]; rfl
    rw [e]
    cases h2 : l[r]? with
    | none =>
      right
      rw [List.getD_eq_getElem?_getD, h2]
      rfl
    | some x =>
      left
      have e2 : l.getD r d = x := by rw [List.getD_eq_getElem?_getD, h2]; rfl
      rw [e2]
      exact List.mem_flatten.mpr ⟨l, List.mem_of_getElem? h1, List.mem_of_getElem? h2⟩
def a_mrow (mi : Nat) : AM := (a_mthC.getD (mi / 16) []).getD (mi % 16) (0, "", "", 0, none, 0, [], (0, 0))
noncomputable def a_prow (mi : Nat) : ByteArray × List (Nat × Instr × Nat) := (a_progC.getD (mi / 20) []).getD (mi % 20) (⟨#[]⟩, [])
theorem a_prow_in {mi : Nat} {e : Nat × Instr × Nat} (h : e ∈ (a_prow mi).2) : a_prow mi ∈ a_prog := by
  have hp : a_prog = a_progC.flatten := by
    simp only [a_progC, a_prog, List.flatten_cons, List.flatten_nil, List.append_nil]
  rw [hp]
  have h0 : a_prow mi ∈ a_progC.flatten ∨ a_prow mi = (⟨#[]⟩, []) := a_getD2
  rcases h0 with k | k
  · exact k
  · rw [k] at h
    cases h
def a_own (mi : Nat) : Nat := (a_mrow mi).1
def a_nam (mi : Nat) : String := (a_mrow mi).2.1
def a_dsc (mi : Nat) : String := (a_mrow mi).2.2.1
def a_mxl (mi : Nat) : Nat := (a_mrow mi).2.2.2.1
def a_rty (mi : Nat) : Option FieldType := (a_mrow mi).2.2.2.2.1
def a_nrg (mi : Nat) : Nat := (a_mrow mi).2.2.2.2.2.1
def a_hnd (mi : Nat) : List (Nat × Nat × Nat × Nat × Nat × Nat × Nat) := (a_mrow mi).2.2.2.2.2.2.1
def a_y (mi : Nat) : MethodName := ⟨a_cN (a_own mi), a_nam mi, a_dsc mi⟩
def a_ini (mi : Nat) : Bool := a_nam mi == "<init>"
noncomputable def a_codeL (mi : Nat) : List (Nat × Instr × Nat) := if mi = 300 then a_lawP else (a_prow mi).2
noncomputable def a_codeB (mi : Nat) : ByteArray := if mi = 300 then code else (a_prow mi).1
def a_lawC : List (Nat × List (Nat × Instr × Nat)) := [(266, a_law_0), (323, a_law_1), (381, a_law_2), (437, a_law_3), (492, a_law_4), (553, a_law_5), (611, a_law_6), (661, a_law_7), (719, a_law_8), (782, a_law_9), (844, a_law_10), (901, a_law_11), (956, a_law_12), (1010, a_law_13), (1064, a_law_14), (1121, a_law_15), (1179, a_law_16), (1240, a_law_17), (1301, a_law_18), (1362, a_law_19), (1422, a_law_20), (1481, a_law_21), (1538, a_law_22), (1596, a_law_23), (1651, a_law_24), (1712, a_law_25), (1773, a_law_26), (1827, a_law_27), (1879, a_law_28), (1939, a_law_29), (2012, a_law_30), (100000, a_law_31)]
/-- the law's instruction at a place: first the chunk, then the place in it -/
def a_insL (pc : Nat) : Option (Instr × Nat) := match a_lawC.find? (fun c => Nat.blt pc c.1) with
  | some c => (c.2.find? (fun e => Nat.beq e.1 pc)).map (fun e => e.2)
  | none => none
noncomputable def a_ins (mi pc : Nat) : Option (Instr × Nat) := bif Nat.beq mi 300 then a_insL pc else ((a_prow mi).2.find? (fun e => Nat.beq e.1 pc)).map (fun e => e.2)
/-- the method's end: what it answers -/
def a_end (mi : Nat) (i : Instr) (st : List Value) : Option (Option Value) := match i, st with
  | .return_, [] => if a_rty mi = none then some none else none
  | .ireturn, [.int v] => match a_rty mi with
    | some ty => if narrow ty (.int v) = .int v then some (some (.int v)) else none
    | none => none
  | .lreturn, [.long v] => if a_rty mi = some .long then some (some (.long v)) else none
  | .freturn, [.float v] => if a_rty mi = some .float then some (some (.float v)) else none
  | .dreturn, [.double v] => if a_rty mi = some .double then some (some (.double v)) else none
  | _, _ => none
/-- 'throw new E("text")' begins here: E's number -/
def a_trw (mi pc : Nat) (i : Instr) (st : List Value) : Option Nat := match i with
  | .new _ => if a_cat st ≤ 8 then (a_thr.find? (fun r => r.1 == mi && r.2.1 == pc)).map (fun r => r.2.2.2.2.2.2.2.1) else none
  | _ => none
/-- a call: the method, its arguments, what stays on the stack -/
def a_call (own : Nat) (i : Instr) (st : List Value) (h : AH) : Option (Nat × List Value × List Value) := match i with
  | .invokevirtual idx => match (a_of a_inv own).find? (fun e => e.1 == idx && e.2.1 == 0) with
    | some e => if a_nrg e.2.2.1 ≤ st.length ∧ a_cat (st.drop (a_nrg e.2.2.1)) ≤ 8 then
        (match (st.take (a_nrg e.2.2.1)).reverse with
        | .ref a :: as => (match h[a]? with
          | some (t, _) => if t = a_own e.2.2.1 then some (e.2.2.1, .ref a :: as, st.drop (a_nrg e.2.2.1)) else none
          | none => none)
        | _ => none) else none
    | none => none
  | .invokestatic idx => match (a_of a_inv own).find? (fun e => e.1 == idx && e.2.1 == 1) with
    | some e => if a_nrg e.2.2.1 ≤ st.length ∧ a_cat (st.drop (a_nrg e.2.2.1)) ≤ 8 then some (e.2.2.1, (st.take (a_nrg e.2.2.1)).reverse, st.drop (a_nrg e.2.2.1)) else none
    | none => none
  | .invokespecial idx => match (a_of a_inv own).find? (fun e => e.1 == idx && (e.2.1 == 2 || e.2.1 == 3)) with
    | some e => if a_nrg e.2.2.1 ≤ st.length ∧ a_cat (st.drop (a_nrg e.2.2.1)) ≤ 8 then
        (match (st.take (a_nrg e.2.2.1)).reverse with
        | .ref a :: as => some (e.2.2.1, .ref a :: as, st.drop (a_nrg e.2.2.1))
        | _ => none) else none
    | none => none
  | _ => none
/-- the row of a method's table that takes exception k at pc -/
def a_cth (mi pc k : Nat) : Option (Nat × Nat × Nat × Nat × Nat × Nat × Nat) := (a_hnd mi).find? (fun x => (decide (x.1 ≤ pc) && decide (pc < x.2.1)) && x.2.2.2.2.1 == k)
/-- a handler stores the exception first: where it goes on, and the local -/
noncomputable def a_hdl (mi hp : Nat) : Option (Nat × Nat) := match a_ins mi hp with
  | some (i, len) => if len = a_len i then (match a_store i with
    | some (n, kd) => if kd = 4 then some (hp + len, n) else none
    | none => none) else none
  | none => none
def a_isSp (i : Instr) : Bool := match i with
  | .invokespecial _ => true
  | _ => false
def a_drop (al : AL) (n : Nat) : AL := (a_kill al n).set n none
noncomputable def a_go (call : Nat → List Value → AH → Option AR) (mi : Nat) : Nat → Nat → AL → List Value → AH → Nat → Nat → Option AR
  | 0, _, _, _, _, _, _ => none
  | f + 1, pc, al, st, h, mc, ms =>
    match a_ins mi pc with
    | none => none
    | some (i, len) =>
      match a_end mi i st with
      | some v => some (.inl v, h, mc, ms)
      | none => match a_trw mi pc i st with
        | some k => some (.inr k, h, mc + 1, ms + 6)
        | none => match a_call (a_own mi) i st h with
          | some (mt, as, rest) => (match call mt as h with
            | some (.inl v, h', c, s) => a_go call mi f (pc + 3) al (v.toList ++ rest) h' (mc + c) (ms + s)
            | some (.inr k, h', c, s) => if a_isSp i = true then none else if (a_hnd mi).isEmpty = true then some (.inr k, h', mc + c, ms + s) else (match a_cth mi pc k with
              | some x => (match a_hdl mi x.2.2.1 with
                | some (hp, n) => if n < al.length then a_go call mi f hp (a_drop al n) [] h' (mc + c) (ms + s) else none
                | none => none)
              | none => none)
            | none => none)
          | none => match a_stp (a_own mi) (a_ini mi) i len pc al st h with
            | some (pc', al', st', h', c, s) => a_go call mi f pc' al' st' h' (mc + c) (ms + s)
            | none => match a_acp (a_own mi) i len st h with
              | some (st', h') => a_go call mi f (pc + len) al st' h' mc ms
              | none => none
def a_args (mi : Nat) (as : List Value) : AL := as.map some ++ List.replicate (a_mxl mi - as.length) none
noncomputable def a_run : Nat → Nat → Nat → List Value → AH → Option AR
  | 0, _, _, _, _ => none
  | d + 1, F, mi, as, h => if as.length = a_nrg mi ∧ as.length ≤ a_mxl mi ∧ (as.all fun v => v.category == 1) = true then a_go (a_run d F) mi F 0 (a_args mi as) [] h 0 0 else none
/-! its cells only grow -/
theorem a_go_mono {call : Nat → List Value → AH → Option AR} {mi : Nat} : ∀ (f pc : Nat) (al : AL) (st : List Value) (h : AH) (mc ms : Nat) (r : AR), a_go call mi f pc al st h mc ms = some r → mc ≤ r.2.2.1 ∧ ms ≤ r.2.2.2
  | 0, pc, al, st, h, mc, ms, r, hr => by cases hr
  | f + 1, pc, al, st, h, mc, ms, r, hr => by
    rw [a_go] at hr
    split at hr
    · cases hr
    · split at hr
      · cases hr; exact ⟨Nat.le_refl _, Nat.le_refl _⟩
      · split at hr
        · cases hr; exact ⟨Nat.le_add_right _ _, Nat.le_add_right _ _⟩
        · split at hr
          · split at hr
            · have := a_go_mono f _ _ _ _ _ _ r hr; omega
            · split at hr
              · cases hr
              · split at hr
                · cases hr; exact ⟨Nat.le_add_right _ _, Nat.le_add_right _ _⟩
                · split at hr
                  · split at hr
                    · split at hr
                      · have := a_go_mono f _ _ _ _ _ _ r hr; omega
                      · cases hr
                    · cases hr
                  · cases hr
            · cases hr
          · split at hr
            · have := a_go_mono f _ _ _ _ _ _ r hr; omega
            · split at hr
              · exact a_go_mono f _ _ _ _ _ _ r hr
              · cases hr
/-! its references lie in the heap, which only grows -/
theorem a_sw_same {i : Instr} {pc : Nat} {al : AL} {st : List Value} {h : AH} {r : AS} (hr : a_sw i pc al st h = some r) : ∃ (x : Int32), st = .int x :: r.2.2.1 ∧ r.2.1 = al ∧ r.2.2.2 = (h, 0, 0) := by
  unfold a_sw at hr
  split at hr
  · split at hr
    · rw [Option.map_eq_some_iff] at hr
      obtain ⟨t, h1, rfl⟩ := hr
      exact ⟨_, rfl, rfl, rfl⟩
    · rw [Option.bind_eq_some_iff] at hr
      obtain ⟨off, h0, hr⟩ := hr
      rw [Option.map_eq_some_iff] at hr
      obtain ⟨t, h1, rfl⟩ := hr
      exact ⟨_, rfl, rfl, rfl⟩
  · cases hr
theorem a_wf.root {al : AL} {st : List Value} {h h' : AH} (w : a_wf al st h') (hl : h.length < h'.length) : a_wf al (.ref h.length :: st) h' := w.push (fun k hk => by cases hk; exact hl)
theorem a_st5_wf {own : Nat} {i : Instr} {pc : Nat} {al : AL} {st : List Value} {h : AH} {r : AS} (hr : a_st5 own i pc al st h = some r) (w : a_wf al st h) : a_wf r.2.1 r.2.2.1 r.2.2.2.1 ∧ h.length ≤ r.2.2.2.1.length := by
  have len1 : ∀ {x : AC}, h.length < (h ++ [x]).length := by intro x; rw [List.length_append, List.length_singleton]; omega
  unfold a_st5 at hr
  split at hr
  · rw [Option.map_eq_some_iff] at hr
    obtain ⟨q, h1, rfl⟩ := hr
    exact ⟨(w.push1 a_obj_ok).root len1, Nat.le_of_lt len1⟩
  · split at hr
    · rw [Option.map_eq_some_iff] at hr
      obtain ⟨q, h1, rfl⟩ := hr
      exact ⟨(w.tl.push1 a_row_ok).root len1, Nat.le_of_lt len1⟩
    · cases hr
  · split at hr
    · split at hr
      · rw [Option.map_eq_some_iff] at hr
        obtain ⟨q, h1, rfl⟩ := hr
        exact ⟨(w.tl.push1 a_row_ok).root len1, Nat.le_of_lt len1⟩
      · cases hr
    · cases hr
  · split at hr
    · rename_i t vs ha
      split at hr
      · rename_i u us hv
        split at hr
        · rw [Option.map_eq_some_iff] at hr
          obtain ⟨q, h1, rfl⟩ := hr
          exact ⟨w.tl.tl.tl.upd1 ha (fun k hk => by cases hk; exact (List.getElem?_eq_some_iff.mp hv).1), Nat.le_of_eq (a_set_len ..).symm⟩
        · cases hr
      · cases hr
    · cases hr
  · split at hr
    · cases hr; exact ⟨w.tl, Nat.le_refl _⟩
    · cases hr
  · split at hr
    · split at hr
      · cases hr; exact ⟨w.tl.tl.push (a_ok_int _), Nat.le_refl _⟩
      · cases hr
    · cases hr
  · cases hr
theorem a_setR_wf {al : AL} {st : List Value} {h : AH} {a i b : Nat} (w : a_wf al st h) (hb : b < h.length) : a_wf al st (a_setR h a i b) := by
  unfold a_setR
  split
  · rename_i t vs ha
    exact w.upd1 ha (fun k hk => by cases hk; exact hb)
  · exact w
def a_wfF (f : AH → AH) : Prop := ∀ (al : AL) (st : List Value) (h : AH), a_wf al st h → a_wf al st (f h)
theorem a_mkL_wf {f : AH → AH} (hk : a_keepF f) (hf : a_wfF f) (a : Nat) (al : AL) (st : List Value) : ∀ (k i : Nat) (h : AH), a_wf al st h → a_wf al st (a_mkL f a k i h)
  | 0, i, h, w => w
  | k + 1, i, h, w => a_mkL_wf hk hf a al st k (i + 1) _ (a_setR_wf (hf al st h w) (hk h).1)
theorem a_mk_wf : ∀ (ns : List Nat) (tys : List FieldType), a_tys tys ns = true → a_wfF (a_mk tys ns)
  | [], tys, ht => by rcases tys with _ | ⟨_, _ | ⟨_, _⟩⟩ <;> cases ht
  | [n], [], ht => by cases ht
  | [n], ty :: tys, ht => fun al st h w => by
    have e : a_mk (ty :: tys) [n] h = h ++ [a_row ty n] := by cases tys <;> rfl
    rw [e]
    exact w.push1 a_row_ok
  | n :: n' :: ns, [], ht => by cases ht
  | n :: n' :: ns, [ty], ht => by cases ht
  | n :: n' :: ns, ty :: ty' :: tys, ht => by
    have ht' : a_tys (ty' :: tys) (n' :: ns) = true := by
      simp only [a_tys, Bool.and_eq_true] at ht
      exact ht.2.2.2
    intro al st h w
    exact a_mkL_wf (a_mk_keep _ _ ht') (a_mk_wf (n' :: ns) (ty' :: tys) ht') h.length al st n 0 _ (w.push1 a_row_ok)
theorem a_st6_wf {own : Nat} {i : Instr} {pc : Nat} {al : AL} {st : List Value} {h : AH} {r : AS} (hr : a_st6 own i pc al st h = some r) (w : a_wf al st h) : a_wf r.2.1 r.2.2.1 r.2.2.2.1 ∧ h.length ≤ r.2.2.2.1.length := by
  unfold a_st6 at hr
  split at hr
  · split at hr
    · split at hr
      · rename_i hc
        cases hr
        have k := (a_mk_keep _ _ hc.1 h).1
        exact ⟨((a_mk_wf _ _ hc.1) _ _ _ w.tl.tl).root k, Nat.le_of_lt k⟩
      · cases hr
    · cases hr
  · split at hr
    · split at hr
      · rename_i hc
        cases hr
        have k := (a_mk_keep _ _ hc.1 h).1
        exact ⟨((a_mk_wf _ _ hc.1) _ _ _ w.tl.tl.tl).root k, Nat.le_of_lt k⟩
      · cases hr
    · cases hr
  · cases hr
theorem a_st1_len {i : Instr} {pc : Nat} {al : AL} {st : List Value} {h : AH} {r : AS} (hr : a_st1 i pc al st h = some r) : r.2.2.2.1 = h := by
  unfold a_st1 at hr
  repeat' split at hr
  all_goals first
    | (cases hr; done)
    | (cases hr; rfl)
    | (rw [Option.map_eq_some_iff] at hr; obtain ⟨t, -, rfl⟩ := hr; rfl)
theorem a_st2_len {i : Instr} {pc : Nat} {al : AL} {st : List Value} {h : AH} {r : AS} (hr : a_st2 i pc al st h = some r) : r.2.2.2.1 = h := by
  unfold a_st2 at hr
  repeat' split at hr
  all_goals first
    | (cases hr; done)
    | (cases hr; rfl)
    | (rw [Option.map_eq_some_iff] at hr; obtain ⟨t, -, rfl⟩ := hr; rfl)
theorem a_st3_len {i : Instr} {pc : Nat} {al : AL} {st : List Value} {h : AH} {r : AS} (hr : a_st3 i pc al st h = some r) : r.2.2.2.1 = h := by
  unfold a_st3 at hr
  repeat' split at hr
  all_goals first
    | (cases hr; done)
    | (cases hr; rfl)
    | (rw [Option.bind_eq_some_iff] at hr; obtain ⟨n, -, hr⟩ := hr; rw [Option.map_eq_some_iff] at hr; obtain ⟨t, -, rfl⟩ := hr; rfl)
theorem a_st4_len {own : Nat} {ini : Bool} {i : Instr} {pc : Nat} {al : AL} {st : List Value} {h : AH} {r : AS} (hr : a_st4 own ini i pc al st h = some r) : r.2.2.2.1.length = h.length := by
  unfold a_st4 at hr
  repeat' split at hr
  all_goals first
    | (cases hr; done)
    | (cases hr; first | rfl | exact a_set_len ..)
    | (rw [Option.map_eq_some_iff] at hr; obtain ⟨t, -, rfl⟩ := hr; first | rfl | exact a_set_len ..)
theorem a_stp_wf {own : Nat} {ini : Bool} {i : Instr} {len pc : Nat} {al : AL} {st : List Value} {h : AH} {r : AS} (hr : a_stp own ini i len pc al st h = some r) (w : a_wf al st h) : a_wf r.2.1 r.2.2.1 r.2.2.2.1 ∧ h.length ≤ r.2.2.2.1.length := by
  unfold a_stp at hr
  split at hr
  · rename_i r' h1
    cases hr
    obtain ⟨x, e1, e2, e3⟩ := a_sw_same h1
    rw [e1] at w
    have e4 : r.2.2.2.1 = h := by rw [e3]
    rw [e2, e4]
    exact ⟨w.tl, Nat.le_refl _⟩
  · split at hr
    · split at hr
      · rename_i h1; cases hr; exact ⟨a_st1_wf h1 w, by rw [a_st1_len h1]; exact Nat.le_refl _⟩
      · split at hr
        · rename_i h1; cases hr; exact ⟨a_st4_wf h1 w, by rw [a_st4_len h1]; exact Nat.le_refl _⟩
        · split at hr
          · rename_i h1; cases hr; exact ⟨a_st2_wf h1 w, by rw [a_st2_len h1]; exact Nat.le_refl _⟩
          · split at hr
            · rename_i h1; cases hr; exact ⟨a_st3_wf h1 w, by rw [a_st3_len h1]; exact Nat.le_refl _⟩
            · split at hr
              · rename_i h1; cases hr; exact a_st5_wf h1 w
              · exact a_st6_wf hr w
    · cases hr
/-- what a call keeps -/
def a_cwf (call : Nat → List Value → AH → Option AR) : Prop := ∀ (mt : Nat) (as : List Value) (h : AH) (r : AR), call mt as h = some r → a_wh h → (∀ v, v ∈ as → a_ok h.length v) → a_wh r.2.1 ∧ h.length ≤ r.2.1.length ∧ ∀ v, r.1 = .inl (some v) → a_ok r.2.1.length v
theorem a_drop_get {al : AL} {n i : Nat} {v : Value} (h : a_get (a_drop al n) i = some v) : a_get al i = some v ∧ i ≠ n ∧ ¬ (i + 1 = n ∧ v.category = 2) := by
  unfold a_drop at h
  rw [a_get_set] at h
  split at h
  · cases h
  · rename_i h1
    obtain ⟨h2, h3⟩ := a_kill_get h
    have h4 := a_get_lt h2
    refine ⟨h2, fun q => h1 ⟨q.symm, by rw [a_kill_len]; exact h4⟩, h3⟩
theorem a_call_in {own : Nat} {i : Instr} {st : List Value} {h : AH} {mt : Nat} {as rest : List Value} (hc : a_call own i st h = some (mt, as, rest)) : (∀ v, v ∈ as → v ∈ st) ∧ (∀ v, v ∈ rest → v ∈ st) ∧ st = as.reverse ++ rest := by
  have key : ∀ n : Nat, (∀ v, v ∈ (st.take n).reverse → v ∈ st) ∧ (∀ v, v ∈ st.drop n → v ∈ st) ∧ st = ((st.take n).reverse).reverse ++ st.drop n := fun n => ⟨fun v hv => List.mem_of_mem_take (List.mem_reverse.mp hv), fun v hv => List.mem_of_mem_drop hv, by rw [List.reverse_reverse, List.take_append_drop]⟩
  unfold a_call at hc
  split at hc
  · split at hc
    · split at hc
      · split at hc
        · rename_i e a as' hq
          split at hc
          · split at hc
            · cases hc
              rw [← hq]
              exact key _
            · cases hc
          · cases hc
        · cases hc
      · cases hc
    · cases hc
  · split at hc
    · split at hc
      · cases hc; exact key _
      · cases hc
    · cases hc
  · split at hc
    · split at hc
      · split at hc
        · rename_i e a as' hq
          cases hc
          rw [← hq]
          exact key _
        · cases hc
      · cases hc
    · cases hc
  · cases hc
theorem a_end_in {mi : Nat} {i : Instr} {st : List Value} {v : Value} (h : a_end mi i st = some (some v)) : v ∈ st := by
  unfold a_end at h
  repeat' split at h
  all_goals first
    | (cases h; done)
    | (cases h; exact List.mem_cons_self)
theorem a_go_wf {call : Nat → List Value → AH → Option AR} (hcall : a_cwf call) {mi : Nat} : ∀ (f pc : Nat) (al : AL) (st : List Value) (h : AH) (mc ms : Nat) (r : AR), a_go call mi f pc al st h mc ms = some r → a_wf al st h → a_wh r.2.1 ∧ h.length ≤ r.2.1.length ∧ ∀ v, r.1 = .inl (some v) → a_ok r.2.1.length v
  | 0, pc, al, st, h, mc, ms, r, hr, w => by cases hr
  | f + 1, pc, al, st, h, mc, ms, r, hr, w => by
    rw [a_go] at hr
    split at hr
    · cases hr
    · split at hr
      · rename_i v hv
        cases hr
        exact ⟨w.2.2, Nat.le_refl _, fun u hu => by cases hu; exact w.2.1 _ (a_end_in hv)⟩
      · split at hr
        · cases hr
          exact ⟨w.2.2, Nat.le_refl _, fun u hu => by cases hu⟩
        · split at hr
          · rename_i mt as rest hc
            obtain ⟨c1, c2, -⟩ := a_call_in hc
            have wc : ∀ {q : AR}, call mt as h = some q → a_wh q.2.1 ∧ h.length ≤ q.2.1.length ∧ ∀ v, q.1 = .inl (some v) → a_ok q.2.1.length v := fun hq => hcall mt as h _ hq w.2.2 (fun v hv => w.2.1 v (c1 v hv))
            split at hr
            · rename_i v h' c s hq
              obtain ⟨q1, q2, q3⟩ := wc hq
              have w' : a_wf al (v.toList ++ rest) h' := ⟨fun i u hi => a_ok_mono q2 (w.1 i u hi), fun u hu => by
                rcases List.mem_append.mp hu with g | g
                · cases v with
                  | none => cases g
                  | some v =>
                    simp only [Option.toList, List.mem_cons, List.not_mem_nil, or_false] at g
                    rw [g]; exact q3 v rfl
                · exact a_ok_mono q2 (w.2.1 u (c2 u g)), q1⟩
              obtain ⟨r1, r2, r3⟩ := a_go_wf hcall f _ _ _ _ _ _ r hr w'
              exact ⟨r1, Nat.le_trans q2 r2, r3⟩
            · rename_i k h' c s hq
              obtain ⟨q1, q2, q3⟩ := wc hq
              split at hr
              · cases hr
              · split at hr
                · cases hr
                  exact ⟨q1, q2, fun u hu => by cases hu⟩
                · split at hr
                  · split at hr
                    · rename_i n _
                      split at hr
                      · have w' : a_wf (a_drop al n) [] h' := ⟨fun i u hi => a_ok_mono q2 (w.1 i u (a_drop_get hi).1), fun u hu => absurd hu List.not_mem_nil, q1⟩
                        obtain ⟨r1, r2, r3⟩ := a_go_wf hcall f _ _ _ _ _ _ r hr w'
                        exact ⟨r1, Nat.le_trans q2 r2, r3⟩
                      · cases hr
                    · cases hr
                  · cases hr
            · cases hr
          · split at hr
            · rename_i pc' al' st' h' c s hq
              obtain ⟨q1, q2⟩ := a_stp_wf hq w
              obtain ⟨r1, r2, r3⟩ := a_go_wf hcall f _ _ _ _ _ _ r hr q1
              exact ⟨r1, Nat.le_trans q2 r2, r3⟩
            · split at hr
              · rename_i st' h' hq
                obtain ⟨q1, q2⟩ := a_acp_wf hq w
                obtain ⟨r1, r2, r3⟩ := a_go_wf hcall f _ _ _ _ _ _ r hr q1
                exact ⟨r1, Nat.le_trans q2 r2, r3⟩
              · cases hr
theorem a_args_get {mi : Nat} {as : List Value} {i : Nat} {v : Value} (h : a_get (a_args mi as) i = some v) : as[i]? = some v := by
  unfold a_get a_args at h
  rcases Nat.lt_or_ge i as.length with q | q
  · rw [List.getElem?_append_left (by rw [List.length_map]; exact q), List.getElem?_map] at h
    rw [List.getElem?_eq_getElem q] at h ⊢
    simpa using h
  · rw [List.getElem?_append_right (by rw [List.length_map]; exact q), List.getElem?_replicate] at h
    split at h
    · cases h
    · cases h
theorem a_run_wf (F : Nat) : ∀ d, a_cwf (a_run d F)
  | 0 => fun mt as h r hr => by cases hr
  | d + 1 => fun mt as h r hr w hv => by
    rw [a_run] at hr
    split at hr
    · exact a_go_wf (a_run_wf F d) F _ _ _ _ _ _ r hr ⟨fun i v hi => hv v (List.mem_of_getElem? (a_args_get hi)), fun v hv => absurd hv List.not_mem_nil, w⟩
    · cases hr
end
/-! part 18b.throw -/
section
/-! 'throw new E("text")' where E's own constructor may call its superclass's by another pool number than 7 (NoSuchElementException's does); after the library's ctorThrowS (BundleOwnThrow.lean) and the kit's vx_throwS, vx_throwSW, with the class's own link and bytes free and less said of the cell -/
def a_own5 (own : String) (ic : Nat) (X : String) (ix : Nat) (bytes : ByteArray) : List Cond :=
  Bundle.throwableAtoms ++ Bundle.throwableSAtoms ++ (Bundle.passSAtoms X "java/lang/RuntimeException" ix bytes ++ Bundle.chainSAtoms "java/lang/RuntimeException" ["java/lang/Exception"]) ++
  [.methodLink own ic (Bundle.initS X), .instantiable X 6, .castable X X, .selects X Bundle.tFill0 Bundle.tFill0, .selects X Bundle.tFill Bundle.tFill,
   .lays X Bundle.tN "cause" "Ljava/lang/Throwable;", .lays X Bundle.tN "stackTrace" Bundle.steD, .lays X Bundle.tN "suppressedExceptions" Bundle.listD, .lays X Bundle.tN "detailMessage" "Ljava/lang/String;",
   .isRef (.static Bundle.tN "UNASSIGNED_STACK" Bundle.steD), .isRef (.static Bundle.tN "SUPPRESSED_SENTINEL" Bundle.listD),
   .fieldLink Bundle.tN 198 Bundle.tN "backtrace" "Ljava/lang/Object;", .lays Bundle.tN Bundle.tN "backtrace" "Ljava/lang/Object;", .lays X Bundle.tN "backtrace" "Ljava/lang/Object;"]
def a_at5 (own : String) (ic : Nat) (X : String) (ix : Nat) (bytes : ByteArray) : List Cond := (a_own5 own ic X ix bytes).filter vx_no
section AT5
variable {p : Program} {l : Launch} {e : Env} {R : Room} {s : State} {m : MethodId} {args : Array Value} {below : List Frame} {meth : Method} {c : Code} {H : Heap} {locs : List Loc} {cells slots : Nat}
set_option maxHeartbeats 2000000 in
theorem a_ctorThrow {W : State} (X : Stand p l e R s m args below meth c W [] cells slots) (hexec : p.tables.exec = Jvm.exec) (htr : e.platform.stackTraces = false) {own cls : String} {ic ix : Nat} {bytes : ByteArray}
    (g0 : decode bytes 0 = .ok (.aload_n 0, 1)) (g1 : decode bytes 1 = .ok (.aload_n 1, 1)) (g2 : decode bytes 2 = .ok (.invokespecial ix, 3)) (g5 : decode bytes 5 = .ok (.return_, 1))
    (hown : s.vm.findClass own = some m.cls) (hcls : Bundle.fit cls = true) (h : ∀ a ∈ a_own5 own ic cls ix bytes, a.before args s = true)
    {a : Addr} {cX : ClassId} {kX : Class} (hfoundX : s.vm.findClass cls = some cX) (hkX : s.vm.classes[cX]? = some kX) (hcell : W.heap[a]? = some (freshCell cX kX)) (hnew : s.heap.size ≤ a) {msg : Value} (hmsg : msg.isRef = true)
    {g : JFrame} (hg : g.method = m) (hsize : g.locals.size = c.maxLocals) (hlocked : g.locked = none) (hentered : g.entered = []) {rest : List Value} (hstack : g.stack = msg :: .ref a :: .ref a :: rest)
    (hd6 : decode c.code g.pc = .ok (.invokespecial ic, 3)) (hd9 : decode c.code (g.pc + 3) = .ok (.athrow, 1)) (hout : ∀ x ∈ c.exceptionTable.toList, covers x (g.pc + 3) = false)
    (hRframes : 5 < R.frames) (hRlocals : 2 * g.monitorRoom + ((Value.ref a :: rest).map fun v => v.category).sum + 81 ≤ R.locals) (hlocks : meth.locks = false) :
    ∃ U : State, Steps p.tables e below (W.setTop g) U ∧ U.status = .running ∧ Ended U below (.threw a) ∧ s.WarmedH U.vm ∧ s.sameButNew ({ U with vm := s.vm } : State) [] cells slots ∧ ∃ ce, U.heap[a]? = some ce ∧ ce.vm = .none ∧ ce.cls = cX := by
  have howns : e.platform.frameOwnsMonitors = true := by rw [X.admits.platform]
  have hfin : e.platform.finalization = false := by rw [X.admits.platform]
  have hpl : e.platform.magicAccessors = ({} : Platform).magicAccessors := by rw [X.admits.platform]
  have a' : ∀ x, x ∈ a_own5 own ic cls ix bytes → x.holds args s none s [] = true := fun x hx => h x hx
  obtain ⟨T, Z0, L, -, Y⟩ := ThrowableC.of_atoms (args := args) howns hfin hpl (fun x hx => h x (by simp [a_own5, hx]))
  obtain ⟨Z, M, LZ, LM, hnZ⟩ := Init0T.ofS_atoms (args := args) hpl L Y (fun x hx => h x (by simp [a_own5, hx]))
  obtain ⟨P1, L1, hP1m, hsup1⟩ := PassC.ofS_atoms (args := args) (s := s) hpl (X := cls) (Y := "java/lang/RuntimeException") (Bundle.fit_spec hcls).1 (by decide) g0 g1 g2 g5 (fun x hx => h x (by simp [a_own5, hx]))
  obtain ⟨P2, Ps2, hlen2, L2, hL2, hP2m, hl2, hlk2⟩ := Bundle.chainS (args := args) hpl hnZ ["java/lang/Exception"] "java/lang/RuntimeException" (by decide +kernel) (by decide +kernel) (fun x hx => h x (by simp [a_own5, hx]))
  have hP12 : P1.sup = P2.m := Option.some.inj (hsup1.symm.trans hP2m)
  have hfound : s.vm.findClass cls = some P1.m.cls := findClass_of_methodNamed hP1m
  cases Option.some.inj (hfoundX.symm.trans hfound)
  obtain ⟨c1, kX', hc1, hk, hord, -, -, hn6⟩ := Cond.instantiable_spec (a' (.instantiable cls 6) (by simp [a_own5]))
  cases Option.some.inj (hc1.symm.trans hfound)
  cases Option.some.inj (hkX.symm.trans hk)
  have hsel0 : selectMethod e.platform s.vm P1.m.cls T.fill0 = .method T.fill0 := by
    obtain ⟨c2, r2, m2, q1, q2, q3, q4, -⟩ := Cond.selects_spec (a' (.selects cls Bundle.tFill0 Bundle.tFill0) (by simp [a_own5]))
    cases Option.some.inj (q1.symm.trans hfound)
    cases Option.some.inj (q2.symm.trans (State.methodFound?_of_named Y.fill0 (by decide)))
    cases Option.some.inj (q3.symm.trans Y.fill0)
    rw [Launch.admits_selectMethod X.admits]; exact q4
  have hselF : selectMethod e.platform s.vm P1.m.cls T.fill = .method T.fill := by
    obtain ⟨c2, r2, m2, q1, q2, q3, q4, -⟩ := Cond.selects_spec (a' (.selects cls Bundle.tFill Bundle.tFill) (by simp [a_own5]))
    cases Option.some.inj (q1.symm.trans hfound)
    cases Option.some.inj (q2.symm.trans (State.methodFound?_of_named Y.fill (by decide)))
    cases Option.some.inj (q3.symm.trans Y.fill)
    rw [Launch.admits_selectMethod X.admits]; exact q4
  obtain ⟨cellS0, hcS0, hiss⟩ := Y.statics
  obtain ⟨u0, hu0⟩ := Cond.staticRefV Y.unassigned L.unassignedStatic L.statics hcS0 hiss (a' (.isRef (.static Bundle.tN "UNASSIGNED_STACK" Bundle.steD)) (by simp [a_own5]))
  obtain ⟨sen, hsen⟩ := Cond.staticRefV Y.sentinel L.sentinelStatic L.statics hcS0 hiss (a' (.isRef (.static Bundle.tN "SUPPRESSED_SENTINEL" Bundle.listD)) (by simp [a_own5]))
  obtain ⟨ci198, i198, fB, hk198, hg198, ha198, hsB, -, hnB, htB, hffB⟩ := Cond.ownField (t := .object "java/lang/Object") Y.found L.cls (by decide +kernel) (a' (.fieldLink Bundle.tN 198 Bundle.tN "backtrace" "Ljava/lang/Object;") (by simp [a_own5])) (a' (.lays Bundle.tN Bundle.tN "backtrace" "Ljava/lang/Object;") (by simp [a_own5])) e.platform hpl
  obtain ⟨cellS, hcS', heS, -, hkeep⟩ := X.same.2.2.2.2.2 T.aS cellS0 hcS0
  have hcellS : W.heap[T.aS]? = some cellS := hcS'
  have hout' : ∀ i, (⟨T.aS, i⟩ : Loc) ∉ ([] : List Loc) := fun i hmem => by cases hmem
  have hknownS : cellS.vm ≠ .unknown := by
    rw [heS]; intro hu
    rw [show cellS0.vm = .unknown from hu] at hiss
    cases hiss
  have hneS : T.aS ≠ a := Nat.ne_of_lt (Nat.lt_of_lt_of_le (Array.getElem?_eq_some_iff.mp hcS0).1 hnew)
  obtain ⟨iM, hffM⟩ := Y.msg
  obtain ⟨tyC, dC, hdC, hdnC⟩ := Cond.laysAt hfound hk Y.cause (a' (.lays cls Bundle.tN "cause" "Ljava/lang/Throwable;") (by simp [a_own5]))
  obtain ⟨tyS, dS, hdS, hdnS⟩ := Cond.laysAt hfound hk Y.stack (a' (.lays cls Bundle.tN "stackTrace" Bundle.steD) (by simp [a_own5]))
  obtain ⟨tyP, dP, hdP, hdnP⟩ := Cond.laysAt hfound hk Y.supp (a' (.lays cls Bundle.tN "suppressedExceptions" Bundle.listD) (by simp [a_own5]))
  obtain ⟨tyM, dM, hdM, hdnM⟩ := Cond.laysAt hfound hk hffM (a' (.lays cls Bundle.tN "detailMessage" "Ljava/lang/String;") (by simp [a_own5]))
  obtain ⟨tyB, dB, hdB, hdnB⟩ := Cond.laysAt hfound hk hffB (a' (.lays cls Bundle.tN "backtrace" "Ljava/lang/Object;") (by simp [a_own5]))
  have bC := Cond.laysApart hdB hdC hdnB hdnC (by rw [hnB, Y.causeName]; decide)
  have bS := Cond.laysApart hdB hdS hdnB hdnS (by rw [hnB, Y.stackName]; decide)
  have bP := Cond.laysApart hdB hdP hdnB hdnP (by rw [hnB, Y.suppName]; decide)
  have hskip : SkipFacts T e.platform s (fun u => u) u0 ((preparedCellV T.toThrowableT (freshCell P1.m.cls kX) a u0 sen).withEntry W.cur) :=
    ⟨{ ci198 := ci198, i198 := i198, fBack := fB }, ⟨hk198, hg198, ha198, hsB⟩, by
      have := fresh_default (c := P1.m.cls) tyB
      rw [htB] at this
      simpa [preparedCellV, Cell.setSlot, Cell.withEntry, Array.getElem?_setIfInBounds, bC, bS, bP, bC.symm, bS.symm, bP.symm, defaultValue] using this, fun _ _ => rfl⟩
  obtain ⟨tm, methC, cdC, kC, vm₁, hnC, -, -, -, -, -, -, -, hW₁, st1⟩ := Steps.initColdS (tb := p.tables) (e := e) (below := below) (s := s) (U := W) X.here hexec X.warmed hpl hown (t := Bundle.initS cls) rfl rfl (Bundle.fit_spec hcls).2
    (a' (.methodLink own ic (Bundle.initS cls)) (by simp [a_own5])) (h (.instanceMethod (Bundle.initS cls)) (by simp [a_own5, Bundle.passSAtoms])) (bytes := bytes) (maxL := 2) (h (.code (Bundle.initS cls) bytes 2 none) (by simp [a_own5, Bundle.passSAtoms]))
    (f := g) hg (a := a) (msg := msg) (rest := .ref a :: rest) hstack hd6
  cases Option.some.inj (hnC.symm.trans hP1m)
  have X₁ := X.noted hW₁
  obtain ⟨vm₂, X₂, st2⟩ := X₁.ctorMessageOffV hexec (g := { g with stack := .ref a :: rest }) hg hsize T L Z LZ M LM (P1 :: P2 :: Ps2)
    (fun P hP => by
      rcases List.mem_cons.mp hP with rfl | hP
      · exact L1
      · rcases List.mem_cons.mp hP with rfl | hP
        · exact L2
        · exact hL2 P hP) ⟨hP12, hl2, hlk2⟩ (u0 := u0) (sen := sen) (self := a) hmsg (cell := freshCell P1.m.cls kX) (cellS := cellS)
    hcell (fun _ => by simp) (by simp) rfl rfl hsel0 hselF hcellS hneS hknownS (by rw [hkeep _ (hout' _)]; exact hu0) (by rw [hkeep _ (hout' _)]; exact hsen)
    (Takes.of_laid hk hord tyC (by rw [Y.causeType]; rfl)) (Takes.of_laid hk hord tyS (by rw [Y.stackType]; exact fits_refV_array _ u0)) (Takes.of_laid hk hord tyP (by rw [Y.suppType]; exact fits_refV_object _ sen))
    (Takes.of_laid hk hord tyM (by rw [Y.msgType]; exact fits_refV_object _ ⟨msg, hmsg⟩)) Y.objLocals hskip htr [] hd6
    (by simp only [List.length_cons, hlen2, List.length_nil]; omega) (by simp only [List.length_cons, hlen2, List.length_nil]; omega)
  obtain ⟨hwalk, hrun, hended, hWU, hsame⟩ := X₂.athrowLeaves hexec (g := { g with stack := .ref a :: rest, pc := g.pc + 3 }) hg hlocked hentered hout (a := a) (rest := rest) rfl hd9
  have hlt : a < ((W.setVm vm₁).setVm vm₂).heap.size := (Array.getElem?_eq_some_iff.mp hcell).1
  have hU := heapAt_setCell_self (s := (W.setVm vm₁).setVm vm₂) (plainBareV T.toThrowableT (freshCell P1.m.cls kX) a u0 sen msg) hlt
  refine ⟨_, st1 _ (fun acts => ?_), hrun, hended, hWU, hsame.weaken (fun y hy hlt' => ?_) (Nat.le_refl _) (Nat.le_refl _), _, hU, rfl, rfl⟩
  · rw [doInvoke_state]
    exact st2 _ hwalk
  · exfalso
    have hb : y.base = a := by
      simp only [List.nil_append, List.mem_cons, List.not_mem_nil, or_false] at hy
      rcases hy with rfl | rfl | rfl | rfl | rfl <;> rfl
    rw [hb] at hlt'
    exact Nat.not_lt.mpr hnew hlt'
variable {Qc : Array Value → State → Outcome → State → Prop} {XC : String → State → State → Prop} {free : Addr → Prop} {ls : Array Slot} {rest : List Value}
set_option maxHeartbeats 2000000 in
theorem a_throw5 {cc : ByteArray} {pc w : Nat} {il : Instr} (hexec : p.tables.exec = Jvm.exec) (hb : c.code = cc) (hl : l.stackTraces = false) {own cls text : String} {ik is ic ix mc ms sa : Nat} {A : Nat → Prop} {bytes : ByteArray}
    (g0 : decode bytes 0 = .ok (.aload_n 0, 1)) (g1 : decode bytes 1 = .ok (.aload_n 1, 1)) (g2 : decode bytes 2 = .ok (.invokespecial ix, 3)) (g5 : decode bytes 5 = .ok (.return_, 1))
    (hown : s.vm.findClass own = some m.cls) (hcls : Bundle.fit cls = true)
    (hk : (Cond.classLink own ik cls).before args s = true) (hini : (Cond.initialized cls).before args s = true) (hstr : vk_R own is text sa s) (hat : ∀ w ∈ a_at5 own ic cls ix bytes, w.before args s = true)
    (hgood : ∀ w ∈ Cond.classLink own ik cls :: Cond.initialized cls :: a_at5 own ic cls ix bytes, vx_ot w = true)
    (hU : vx_Zq Bundle.tN "UNASSIGNED_STACK" Bundle.steD A s s.heap) (hN : vx_Zq Bundle.tN "SUPPRESSED_SENTINEL" Bundle.listD A s s.heap) (hS : va_S A s.heap H locs) (hsize : ls.size = c.maxLocals)
    (d0 : decode cc pc = .ok (.new ik, 3)) (d3 : decode cc (pc + 3) = .ok (.dup, 1)) (hil : (il = .ldc is ∧ w = 2) ∨ (il = .ldc_w is ∧ w = 3)) (d4 : decode cc (pc + 4) = .ok (il, w)) (d6 : decode cc (pc + 4 + w) = .ok (.invokespecial ic, 3)) (d9 : decode cc (pc + 4 + w + 3) = .ok (.athrow, 1))
    (hout : ∀ x ∈ c.exceptionTable.toList, covers x (pc + 4 + w + 3) = false)
    (hRframes : 5 < R.frames) (hRlocals : (rest.map fun v => v.category).sum + 82 ≤ R.locals) (hRcells : cells + 1 ≤ R.cells) (hRslots : slots + 6 ≤ R.slots) (hlocks : meth.locks = false)
    (hx : ∀ t : State, s.vm.Alike t.vm → H.size ≤ t.heap.size → (∀ q : Nat, q < H.size → t.heap[q]? = H[q]?) → XC cls s t)
    (hf : ∀ z ∈ locs, free z.base) (hc : cells + 1 ≤ mc) (hs : slots + 6 ≤ ms) :
    W p l e R s m args below meth c H locs cells slots (vx_MQ below Qc XC args s mc ms free) (F0 m pc ls rest) := by
  intro T hT X
  have htr : e.platform.stackTraces = false := (show e.platform.stackTraces = l.stackTraces by rw [X.admits.platform]).trans hl
  have Y := vx_rebase X (R' := { frames := R.frames, locals := R.locals, cells := 1, slots := 6 }) (Nat.le_refl _) (Nat.le_refl _) hRcells hRslots
  obtain ⟨s', hA⟩ : ∃ z, z = (T.setVm s.vm).setFrames (.invoking m args :: below) := ⟨_, rfl⟩
  rw [← hA] at Y
  have hvm : s'.vm = s.vm := by rw [hA]; rfl
  have hhp : s'.heap = H := by rw [hA]; exact hT
  have hW0 : s.WarmedH s'.vm := by rw [hvm]; exact State.WarmedH.refl s
  have hat' : ∀ w ∈ a_at5 own ic cls ix bytes, w.before args s' = true := fun w hw => vx_ot_at hW0 hvm.symm (hgood w (List.mem_cons_of_mem _ (List.mem_cons_of_mem _ hw))) (hat w hw)
  have hk' : (Cond.classLink own ik cls).before args s' = true := vx_ot_at hW0 hvm.symm (hgood _ List.mem_cons_self) hk
  have hini' : (Cond.initialized cls).before args s' = true := vx_ot_at hW0 hvm.symm (hgood _ (List.mem_cons_of_mem _ List.mem_cons_self)) hini
  have hU' : vx_Zq Bundle.tN "UNASSIGNED_STACK" Bundle.steD A s' s'.heap := by rw [hhp]; exact vx_Zq.moved hW0.alike (hU.kept hS.2.1)
  have hN' : vx_Zq Bundle.tN "SUPPRESSED_SENTINEL" Bundle.listD A s' s'.heap := by rw [hhp]; exact vx_Zq.moved hW0.alike (hN.kept hS.2.1)
  have h : ∀ w ∈ a_own5 own ic cls ix bytes, w.before args s' = true := vx_own hat' (vx_isRefq hU'.1) (vx_isRefq hN'.1) hU'.2.word hN'.2.word
  have hown' : s'.vm.findClass own = some m.cls := by rw [hvm]; exact hown
  have hins : (Cond.instantiable cls 6).before args s' = true := h _ (by simp [a_own5])
  obtain ⟨vm₁, cX, kX, hfX, hkX, -, -, X₁, st1⟩ := Y.newCold hexec (own := own) (C := cls) (index := ik) (n := 6) hown' hk' hins hini'
    (g := F0 m pc ls rest) rfl (by rw [hb]; exact d0) (Nat.le_refl _) (Nat.le_refl _)
  generalize hT1 : (T.setVm vm₁).pushCell { cls := cX, slots := kX.instanceTypes.map defaultValue, vm := .none } = T1 at X₁ st1
  have hcat : (Value.ref T.heap.size).category = 1 := rfl
  have hcellA : T1.heap[T.heap.size]? = some (freshCell cX kX) := by rw [← hT1]; exact State.heap_pushCell_size _ _
  have d3' : decode c.code (pc + 3) = .ok (.dup, 1) := by rw [hb]; exact d3
  have d4' : decode c.code (pc + 4) = .ok (il, w) := by rw [hb]; exact d4
  have hstr' : vk_R own is text sa s' := vk_R.warm hW0 hstr
  obtain ⟨U, hsteps, hrun, hend, hW, hsame, ce, hce, hcev, hcec⟩ := a_ctorThrow X₁ hexec htr (own := own) (cls := cls) g0 g1 g2 g5 hown' hcls h hfX hkX hcellA (by rw [hhp, hT]; exact Nat.le_refl _) (msg := .ref sa) rfl
    (g := { method := m, pc := pc + 4 + w, locals := ls, stack := .ref sa :: .ref T.heap.size :: .ref T.heap.size :: rest, locked := none }) rfl hsize rfl rfl (rest := rest) rfl
    (by rw [hb]; exact d6) (by rw [hb]; exact d9) hout hRframes (by simp only [List.map_cons, List.sum_cons, hcat]; omega) hlocks
  obtain ⟨f1, f2⟩ := vx_frame hsame
  rw [hhp] at f1 f2
  have hWs : s.WarmedH U.vm := State.WarmedH.trans hW0 hW
  have hcl : s.vm.findClass cls = some ce.cls := by
    rw [hcec, ← hvm]
    exact hfX
  have hall : s.sameButNew ({ U with vm := s.vm } : State) locs mc ms := by
    subst hA
    obtain ⟨e1, e2⟩ := hsame
    rw [State.setFrames_setFrames] at e1
    have h2 : (T.setVm s.vm).sameButNew ({ U with vm := s.vm } : State) [] (0 + 1) (0 + 6) := ⟨e1, e2⟩
    have h3 := X.same.trans h2
    rw [List.append_nil] at h3
    exact h3.mono hc hs
  refine ⟨U, ?_, .threw T.heap.size, hrun, hend, Or.inr ⟨T.heap.size, rfl, cls, ce, locs, hx U hWs.alike f1 (fun q hq => f2 q hq (fun z hz => nomatch hz)), hce, hcev, hcl, hWs, hall, hf⟩⟩
  refine st1 _ ?_
  show Steps p.tables e below (T1.setTop { method := m, pc := pc + 3, locals := ls, stack := .ref T.heap.size :: rest, locked := none }) _
  jvm_step X₁.here [X₁.here.top, hexec, d3', Value.category]
  rcases hil with ⟨rfl, rfl⟩ | ⟨rfl, rfl⟩
  · exact X₁.ldcString hexec (own := own) (text := text) (index := is) (a := sa) hown' hstr'.1 hstr'.2
      (g := { method := m, pc := pc + 4, locals := ls, stack := .ref T.heap.size :: .ref T.heap.size :: rest, locked := none }) rfl d4' _ hsteps
  · exact X₁.ldcStringW hexec (own := own) (text := text) (index := is) (a := sa) hown' hstr'.1 hstr'.2
      (g := { method := m, pc := pc + 4, locals := ls, stack := .ref T.heap.size :: .ref T.heap.size :: rest, locked := none }) rfl d4' _ hsteps
end AT5
end
/-! part 19.tabs -/
section
/-! What the tables say of the methods, the calls, the throws: by evaluation -/
theorem a_chk_app (A B : List (ByteArray × List (Nat × Instr × Nat))) : a_chk (A ++ B) = (a_chk A && a_chk B) := List.all_append
theorem a_chk_prog : a_chk a_prog = true := by
  unfold a_prog
  simp only [a_chk_app, a_chk_prog_0, a_chk_prog_1, a_chk_prog_2, a_chk_prog_3, a_chk_prog_4, a_chk_prog_5, a_chk_prog_6, a_chk_prog_7, a_chk_prog_8, a_chk_prog_9, a_chk_prog_10, a_chk_prog_11, a_chk_prog_12, a_chk_prog_13, a_chk_prog_14, a_chk_prog_15, Bool.and_self]
theorem a_find_in {l : List (Nat × Instr × Nat)} {pc : Nat} {x : Instr × Nat} (h : (l.find? (fun e => Nat.beq e.1 pc)).map (fun e => e.2) = some x) : (pc, x) ∈ l := by
  rw [Option.map_eq_some_iff] at h
  obtain ⟨e, h1, h2⟩ := h
  have h3 : Nat.beq e.1 pc = true := List.find?_some (p := fun e : Nat × Instr × Nat => Nat.beq e.1 pc) h1
  have h3 : e.1 = pc := Nat.eq_of_beq_eq_true h3
  have h4 := List.mem_of_find?_eq_some h1
  obtain ⟨e1, e2⟩ := e
  simp only at h2 h3
  subst h2; subst h3
  exact h4
theorem a_lawC_in : ∀ c ∈ a_lawC, ∀ e ∈ c.2, e ∈ a_lawP := by
  have e : a_lawP = (a_lawC.map fun c => c.2).flatten := by
    simp only [a_lawC, a_lawP, List.map_cons, List.map_nil, List.flatten_cons, List.flatten_nil, List.append_nil]
  rw [e]
  exact fun c hc x hx => List.mem_flatten.mpr ⟨c.2, List.mem_map.mpr ⟨c, hc, rfl⟩, hx⟩
theorem a_ins_in {mi pc : Nat} {i : Instr} {len : Nat} (h : a_ins mi pc = some (i, len)) : (pc, i, len) ∈ a_codeL mi := by
  unfold a_ins at h
  unfold a_codeL
  by_cases hm : mi = 300
  · rw [if_pos hm]
    rw [hm] at h
    have h : a_insL pc = some (i, len) := h
    unfold a_insL at h
    split at h
    · rename_i c hc
      exact a_lawC_in c (List.mem_of_find?_eq_some hc) _ (a_find_in h)
    · cases h
  · rw [if_neg hm]
    have hb : Nat.beq mi 300 = false := by
      cases e : Nat.beq mi 300 with
      | false => rfl
      | true => exact absurd (Nat.eq_of_beq_eq_true e) hm
    rw [hb] at h
    exact a_find_in h
theorem a_code_in {mi : Nat} {e : Nat × Instr × Nat} (h : e ∈ a_codeL mi) : mi ≠ 300 → (a_codeB mi, a_codeL mi) ∈ a_prog := by
  intro hm
  unfold a_codeL at h
  rw [if_neg hm] at h
  unfold a_codeB a_codeL
  rw [if_neg hm, if_neg hm]
  exact a_prow_in h
theorem a_ins_ok {mi pc : Nat} {i : Instr} {len : Nat} (h : a_ins mi pc = some (i, len)) : decode (a_codeB mi) pc = .ok (i, len) := by
  have h1 := a_ins_in h
  have key : ∀ (b : ByteArray) (L : List (Nat × Instr × Nat)), a_chk [(b, L)] = true → (pc, i, len) ∈ L → decode b pc = .ok (i, len) := by
    intro b L hc hm
    simp only [a_chk, List.all_cons, List.all_nil, Bool.and_true] at hc
    have := List.all_eq_true.mp hc _ hm
    exact of_decide_eq_true this
  by_cases hm : mi = 300
  · subst hm
    have e1 : a_codeL 300 = a_lawP := if_pos rfl
    have e2 : a_codeB 300 = code := if_pos rfl
    rw [e1] at h1
    rw [e2]
    exact key _ _ a_chk_lawP h1
  · have h2 := a_code_in h1 hm
    refine key _ (a_codeL mi) ?_ h1
    have := List.all_eq_true.mp a_chk_prog _ h2
    simp only [a_chk, List.all_cons, List.all_nil, Bool.and_true]
    exact this
def a_isSw (i : Instr) : Bool := match i with
  | .tableswitch .. => true
  | _ => false
def a_lenB (L : List (Nat × Instr × Nat)) : Bool := L.all fun e => a_isSw e.2.1 || decide (e.2.2 = a_len e.2.1)
theorem a_len_law : a_lenB a_lawP = true := by decide +kernel
theorem a_len_prog : (a_prog.all fun m => a_lenB m.2) = true := by decide +kernel
theorem a_ins_len {mi pc : Nat} {i : Instr} {len : Nat} (h : a_ins mi pc = some (i, len)) (hs : a_isSw i = false) : len = a_len i := by
  have h1 := a_ins_in h
  have key : a_lenB (a_codeL mi) = true := by
    by_cases hm : mi = 300
    · subst hm
      have e1 : a_codeL 300 = a_lawP := if_pos rfl
      rw [e1]; exact a_len_law
    · exact List.all_eq_true.mp a_len_prog _ (a_code_in h1 hm)
  have := List.all_eq_true.mp key _ h1
  simp only [hs, Bool.false_or, decide_eq_true_eq] at this
  exact this
end
