theorem a_set_len {α : Type} {l : List α} {a : Nat} {x : α} : (l.set a x).length = l.length := List.length_set ..
theorem a_H.set {D : AD} {B : Nat} {ad : Nat → Nat} {h : AH} {H H' : Heap} {a t : Nat} {vs vs' : List Value} {cell' : Cell} (hH : a_H D B ad h H) (ha : h[a]? = some (t, vs)) (e1 : H'[ad a]? = some cell') (hc : a_C D ad (t, vs') cell') (e3 : ∀ q, q ≠ ad a → H'[q]? = H[q]?) : a_H D B ad (h.set a (t, vs')) H' := by
  obtain ⟨h1, h2, h3⟩ := hH
  have hal := (List.getElem?_eq_some_iff.mp ha).1
  refine ⟨fun k x hk => ?_, fun j k hj hk => h2 j k (by rwa [a_set_len] at hj) (by rwa [a_set_len] at hk), fun k x hk ht => ?_⟩
  · rw [List.getElem?_set] at hk
    split at hk
    · rename_i e
      subst e
      (try rw [if_pos hal] at hk)
      cases hk
      exact ⟨cell', e1, hc⟩
    · rename_i e
      obtain ⟨cell, g1, g2⟩ := h1 k x hk
      refine ⟨cell, ?_, g2⟩
      rw [e3 _ (fun q => e (h2 a k hal (List.getElem?_eq_some_iff.mp hk).1 q.symm))]
      exact g1
  · rw [List.getElem?_set] at hk
    split at hk
    · rename_i e
      subst e
      (try rw [if_pos hal] at hk)
      cases hk
      exact h3 a (t, vs) ha ht
    · exact h3 k x hk ht
theorem a_size_set (c : Cell) (i : Nat) (v : Value) : (c.setSlot i v).slots.size = c.slots.size := by
  simp [Cell.setSlot]
theorem a_C.setArr {D : AD} {ad : Nat → Nat} {t : Nat} {vs : List Value} {cell : Cell} (h : a_C D ad (t, vs) cell) (ht : 19 ≤ t) {n : Nat} (hn : n < vs.length) (v : Value) : a_C D ad (t, vs.set n v) (cell.setSlot n (a_ren ad v)) := by
  obtain ⟨h1, h2, h3, h4⟩ := h.arr ht
  unfold a_C
  rw [if_neg (show ¬ t < 19 by omega)]
  refine ⟨h1, h2, by rw [a_size_set, h3, a_set_len], fun k w hk => ?_⟩
  rw [List.getElem?_set] at hk
  split at hk
  · rename_i e
    subst e
    (try rw [if_pos hn] at hk)
    cases hk
    exact Cell.slots_setSlot_self _ (by rw [h3]; exact hn)
  · rename_i e
    rw [Cell.slots_setSlot_ne _ e]
    exact h4 k w hk
theorem a_C.setObj {D : AD} {ad : Nat → Nat} {t : Nat} {vs : List Value} {cell : Cell} (h : a_C D ad (t, vs) cell) (ht : t < 19) {n : Nat} (hn : n < vs.length) (hap : ∀ j, j < vs.length → j ≠ n → D.2.1 t n ≠ D.2.1 t j) (v : Value) : a_C D ad (t, vs.set n v) (cell.setSlot (D.2.1 t n) (a_ren ad v)) := by
  obtain ⟨h1, h2, h3, h4⟩ := h.obj ht
  unfold a_C
  rw [if_pos (show t < 19 from ht)]
  refine ⟨h1, h2, by rw [a_set_len]; exact h3, fun k w hk => ?_⟩
  rw [List.getElem?_set] at hk
  split at hk
  · rename_i e
    subst e
    (try rw [if_pos hn] at hk)
    cases hk
    exact Cell.slots_setSlot_self _ (k2_hasslot (h4 n _ (List.getElem?_eq_getElem hn)))
  · rename_i e
    rw [Cell.slots_setSlot_ne _ (hap k (List.getElem?_eq_some_iff.mp hk).1 (Ne.symm e))]
    exact h4 k w hk
/-- what the tables say of the classes -/
def a_KC (D : AD) (U : State) : Prop := ∀ c : Nat, c < 12 → u_Kn U (a_cN c) (a_cT c) (a_cl c) (D.1 c) (D.2.1 c)
theorem a_types : ∀ c, c < 12 → ∀ k, k < a_cl c → parseFieldDescriptor (a_cT c k).2.2.1 = some (a_fty c k) := by decide +kernel
theorem a_names : ∀ c, c < 12 → ∀ a, a < a_cl c → ∀ b, b < a_cl c → a ≠ b → (a_cT c a).2.1 ≠ (a_cT c b).2.1 := by decide +kernel
theorem a_decl : ∀ c, c < 12 → ∀ k, k < a_cl c → (a_cT c k).1 = a_cN c := by decide +kernel
theorem a_hin {c : Nat} (hc : c < 12) : ∀ w ∈ u_ws (a_cN c) (a_cT c) (a_cl c), w ∈ a_wG := fun w hw => a_wG_of (a_wsC_ok c hc w hw).1 (a_wsC_ok c hc w hw).2
section AW3
variable {p : Program} {l : Launch} {e : Env} {R : Room} {s : State} {m : MethodId} {args : Array Value} {below : List Frame} {meth : Method} {c : Code} {H : Heap} {locs : List Loc} {cells slots : Nat} {Q : State → Prop} {cc : ByteArray} {pc : Nat} {ls : Array Slot} {rest : List Value} {i : Instr} {D : AD} {B : Nat} {ad : Nat → Nat} {h : AH}
theorem a_apart {args : Array Value} (hts : ∀ w ∈ a_wG, w.before args s = true) (hK : a_KC D s) {ci : Nat} (hc : ci < 12) : ∀ x y, x < a_cl ci → y < a_cl ci → x ≠ y → D.2.1 ci x ≠ D.2.1 ci y := by
  intro x y hx hy hne
  obtain ⟨hS, -⟩ := hK ci hc
  obtain ⟨_, _, _, fa, hia, ea⟩ := hS x hx
  obtain ⟨_, _, _, fb, hib, eb⟩ := hS y hy
  rw [← ea, ← eb]
  refine u_apart (u_lays hts (a_hin hc) hx) (u_lays hts (a_hin hc) hy) hia hib ?_
  rw [(State.fieldFound?_type hia (a_types ci hc x hx)).1, (State.fieldFound?_type hib (a_types ci hc y hy)).1]
  exact a_names ci hc x hx y hy hne
theorem a_field_in {own idx ci k : Nat} (h : a_field own idx = some (ci, k)) : Cond.fieldLink (a_cN own) idx (a_cN ci) (a_cT ci k).2.1 (a_cT ci k).2.2.1 ∈ a_wG ∧ k < a_cl ci ∧ ci < 12 := by
  unfold a_field at h
  rw [Option.map_eq_some_iff] at h
  obtain ⟨q, h1, h2⟩ := h
  have h3 := a_all_of a_fld_ok (List.mem_of_find?_eq_some h1)
  have h4 := List.find?_some h1
  unfold a_fieldW at h3
  simp only [Bool.and_eq_true, decide_eq_true_eq] at h3
  simp only [beq_iff_eq] at h4
  cases h2
  subst h4
  exact ⟨a_at_in h3.1, h3.2.1, h3.2.2⟩
theorem a_getf_ok (hx : p.tables.exec = Jvm.exec) (hb : c.code = cc) {own idx ci k a : Nat} (hown : s.vm.findClass (a_cN own) = some m.cls) (hts : ∀ w ∈ a_wG, w.before args s = true) (hK : a_KC D s) (hf : a_field own idx = some (ci, k)) {cell : Cell} {vs : List Value} {v : Value} (hcell : H[a]? = some cell) (hC : a_C D ad (ci, vs) cell) (hv : vs[k]? = some v) (hdg : decode cc pc = .ok (.getfield idx, 3))
    (kk : W p l e R s m args below meth c H locs cells slots Q (F0 m (pc + 3) ls (a_ren ad v :: rest))) : W p l e R s m args below meth c H locs cells slots Q (F0 m pc ls (.ref a :: rest)) := by
  obtain ⟨hw, hk, hc⟩ := a_field_in hf
  obtain ⟨q2, q3, -, q4⟩ := hC.obj (show ci < 19 by omega)
  obtain ⟨hS, hfc, kC, hkC, hkind⟩ := hK ci hc
  obtain ⟨cf, kf, fi, f, hi, hsl⟩ := hS k hk
  rw [a_decl ci hc k hk] at hi
  have hst := (u_facts (O := a_cN ci) hfc hkC (by have := u_lays hts (a_hin hc) hk; rwa [a_decl ci hc k hk] at this) hi).1
  exact W.getf hx hb hown (hts _ hw) hi hst hcell (by rw [q3]; exact fun h => by cases h) (by rw [hsl]; exact q4 k v hv) rfl rfl hdg kk
theorem a_putf_ok (hx : p.tables.exec = Jvm.exec) (hb : c.code = cc) {own idx ci k a : Nat} (hown : s.vm.findClass (a_cN own) = some m.cls) (hts : ∀ w ∈ a_wG, w.before args s = true) (hK : a_KC D s) (hf : a_field own idx = some (ci, k)) {cell : Cell} {vs : List Value} {v : Value} (hcell : H[a]? = some cell) (hC : a_C D ad (ci, vs) cell) (hv : k < vs.length) (hn : narrow (a_fty ci k) v = v) (hfit : fits (a_fty ci k) v = true) (hfin : (a_cT ci k).2.2.2 = false ∨ (meth.name = "<init>" ∧ own = ci)) (hdg : decode cc pc = .ok (.putfield idx, 3))
    (kk : ∀ H' : Heap, H'[a]? = some (cell.setSlot (D.2.1 ci k) v) → H'.size = H.size → (∀ q, q ≠ a → H'[q]? = H[q]?) → W p l e R s m args below meth c H' (locs ++ [⟨a, D.2.1 ci k⟩]) cells slots Q (F0 m (pc + 3) ls rest)) : W p l e R s m args below meth c H locs cells slots Q (F0 m pc ls (v :: .ref a :: rest)) := by
  obtain ⟨hw, hk, hc⟩ := a_field_in hf
  obtain ⟨q2, q3, -, q4⟩ := hC.obj (show ci < 19 by omega)
  obtain ⟨hS, hfc, kC, hkC, hkind⟩ := hK ci hc
  obtain ⟨cf, kf, fi, f, hi, hsl⟩ := hS k hk
  have hlt : f.slot < cell.slots.size := by rw [hsl]; exact k2_hasslot (q4 k _ (List.getElem?_eq_getElem hv))
  have hl := u_lays hts (a_hin hc) hk
  have hlay := hts _ (a_hin hc _ (u_in_lay hk))
  rw [a_decl ci hc k hk] at hi hl
  have hst := (u_facts (O := a_cN ci) hfc hkC hl hi).1
  have hty := a_types ci hc k hk
  rw [← hsl] at kk
  by_cases hff : (a_cT ci k).2.2.2 = true
  · rcases hfin with hfin | ⟨hin, ho⟩
    · rw [hfin] at hff; cases hff
    · subst ho
      unfold u_lay at hlay
      rw [if_pos hff, a_decl _ hc k hk] at hlay
      have hd : m.cls = cf := laid_decl hown hlay hi
      have hS2 := u_fits (O := a_cN own) hfc hkC hkind hl hi hty hn hfit
      exact W.putFinK hx hb hown (hts _ hw) hi hst hd hin (by rw [q2]; exact hS2) hcell q3 hlt rfl rfl hdg kk
  · have hff : (a_cT ci k).2.2.2 = false := by simpa using hff
    unfold u_lay at hlay
    rw [if_neg (by rw [hff]; decide), a_decl ci hc k hk] at hlay
    have h6 := u_store (O := a_cN ci) hfc hkC hkind hlay hi hty hn hfit
    exact W.putK hx hb (f := f) ⟨hown, hts _ hw, ⟨_, _, _, hi⟩, hst⟩ (by rw [q2]; exact h6) hcell q3 hlt rfl rfl hdg kk
end AW3
