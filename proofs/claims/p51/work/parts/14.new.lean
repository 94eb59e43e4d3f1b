/-! What makes cells, and the calls that the kit has rows for: the machine does the same -/
theorem a_cat_ren {ad : Nat → Nat} (st : List Value) : ((st.map (a_ren ad)).map fun v => v.category).sum = a_cat st := by
  unfold a_cat
  rw [List.map_map]
  congr 1
  exact List.map_congr_left fun v _ => a_ren_cat ad v
theorem a_aty_obj {t : Nat} {C : String} (h : a_aty t = some (.object C)) : C ∈ a_objs := by
  unfold a_aty at h
  split at h
  · cases h
  · have h1 := List.mem_of_getElem? h
    simp only [a_atys, List.mem_cons, reduceCtorEq, FieldType.object.injEq, false_or, List.not_mem_nil, or_false] at h1
    simpa [a_objs] using h1
theorem a_row_C {D : AD} {ad : Nat → Nat} {ty : FieldType} {n : Nat} (ht : a_aty (a_atag ty) = some ty) : a_C D ad (a_row ty n) { cls := D.2.2 (a_atag ty), slots := Array.replicate n (defaultValue ty), vm := .none } := by
  unfold a_C
  rw [if_neg (show ¬ (a_row ty n).1 < 19 by have := a_aty_ge ht; show ¬ a_atag ty < 19; omega)]
  refine ⟨rfl, ⟨by simp, by simp⟩, by simp [a_row], fun k v hk => ?_⟩
  simp only [a_row, List.getElem?_replicate] at hk
  split at hk
  · rename_i hlt
    cases hk
    simp [Array.getElem?_replicate, hlt, a_ren_def]
  · cases hk
theorem a_row_ok {n : Nat} {ty : FieldType} {k : Nat} : ∀ v, v ∈ (a_row ty k).2 → a_ok n v := by
  intro v hv
  simp only [a_row, List.mem_replicate] at hv
  rw [hv.2]
  exact a_ok_def
theorem a_obj_ok {n : Nat} {c : Nat} : ∀ v, v ∈ (a_obj c).2 → a_ok n v := by
  intro v hv
  simp only [a_obj, List.mem_map] at hv
  obtain ⟨k, -, rfl⟩ := hv
  exact a_ok_def
theorem a_cnt_ok {n : Int32} {k : Nat} (h : a_cnt n = some k) : ¬ n < 0 ∧ n.toNatClampNeg = k ∧ k ≤ 60000 := by
  unfold a_cnt at h
  split at h
  · cases h
  · rename_i h1
    cases h
    exact ⟨fun q => h1 (Or.inl q), rfl, by omega⟩
theorem a_tyok_ok {ty : FieldType} (h : a_tyok ty = true) : a_aty (a_atag ty) = some ty ∧ a_atag ty ≠ 19 ∧ 20 ≤ a_atag ty := by
  unfold a_tyok at h
  simp only [Bool.and_eq_true, decide_eq_true_eq] at h
  exact ⟨h.1, h.2, by have := a_aty_ge h.1; omega⟩
theorem a_arrW {t : ArrayType} (h : a_tyok (Op.newarray.typeOf t) = true) : Cond.arrayClass (Op.newarray.typeOf t) ∈ a_wG ∧ componentBytes (Op.newarray.typeOf t) ≤ 8 := by
  cases t <;> first
    | (exfalso; revert h; decide)
    | exact ⟨a_fix (by decide +kernel), by decide⟩
theorem a_S.grow {B : Nat} {H0 H H1 : Heap} {locs : List Loc} (hS : va_S (fun q => B ≤ q) H0 H locs) (z : H.size ≤ H1.size) (o : ∀ q, q < H.size → H1[q]? = H[q]?) : va_S (fun q => B ≤ q) H0 H1 locs :=
  ⟨Nat.le_trans hS.1 z, fun q h1 h2 => (o q (Nat.lt_of_lt_of_le h1 hS.1)).trans (hS.2.1 q h1 h2), hS.2.2⟩
section AW6
variable {p : Program} {l : Launch} {e : Env} {R : Room} {s : State} {m : MethodId} {args : Array Value} {below : List Frame} {meth : Method} {c : Code} {H : Heap} {locs : List Loc} {cells slots : Nat} {Q : State → Prop} {cc : ByteArray} {pc : Nat} {ls : Array Slot} {rest : List Value} {i : Instr} {D : AD} {B : Nat} {ad : Nat → Nat} {h : AH} {H0 : Heap}
set_option maxHeartbeats 2000000 in
theorem a_st5_ok (hx : p.tables.exec = Jvm.exec) (hb : c.code = cc) (hdg : decode cc pc = .ok (i, a_len i)) {own : Nat} (hown : s.vm.findClass (a_cN own) = some m.cls) (hsz : ls.size = c.maxLocals) (hts : ∀ w ∈ a_wG, w.before args s = true) (hKC : a_KC D s) (hKA : a_KA D s) (hKN : a_KN D s) (hKW : a_KW s) (hB0 : B ≤ H0.size) (hH : a_H D B ad h H) (hS : va_S (fun q => B ≤ q) H0 H locs) {al : AL} {st : List Value} {r : AS} (hw : a_wf al st h) (hr : a_st5 own i pc al st h = some r)
    (hRf : 1 ≤ R.frames) (hRl : 100 ≤ R.locals) (hRc : cells + r.2.2.2.2.1 ≤ R.cells) (hRs : slots + r.2.2.2.2.2 ≤ R.slots)
    (kk : ∀ (ad' : Nat → Nat) (H' : Heap) (locs' : List Loc), a_same h.length ad ad' → a_H D B ad' r.2.2.2.1 H' → va_S (fun q => B ≤ q) H0 H' locs' → h.length ≤ r.2.2.2.1.length → r.2.1 = al → W p l e R s m args below meth c H' locs' (cells + r.2.2.2.2.1) (slots + r.2.2.2.2.2) Q (F0 m r.1 ls (r.2.2.1.map (a_ren ad')))) : W p l e R s m args below meth c H locs cells slots Q (F0 m pc ls (st.map (a_ren ad))) := by
  have hBH : B ≤ H.size := Nat.le_trans hB0 hS.1
  have hs1 : a_same h.length ad (a_up ad h.length H.size) := fun k hk => a_up_lt hk
  have pushed : ∀ {x : AC} {cell : Cell} {H1 : Heap}, (∀ v, v ∈ x.2 → a_ok h.length v) → a_C D ad x cell → H1[H.size]? = some cell → H1.size = H.size + 1 → (∀ q, q < H.size → H1[q]? = H[q]?) → a_H D B (a_up ad h.length H.size) (h ++ [x]) H1 ∧ va_S (fun q => B ≤ q) H0 H1 locs := by
    intro x cell H1 hx hc e1 z1 o1
    exact ⟨hH.push hw.2.2 hBH hx hc e1 o1, a_S.grow hS (by omega) o1⟩
  have stk : ∀ {st' : List Value}, (∀ v, v ∈ st' → a_ok h.length v) → (Value.ref h.length :: st').map (a_ren (a_up ad h.length H.size)) = .ref H.size :: st'.map (a_ren ad) := by
    intro st' hv
    rw [List.map_cons, a_map_same hs1 hv]
    show Value.ref _ :: _ = _
    rw [a_up_n]
  have len1 : ∀ {x : AC}, h.length ≤ (h ++ [x]).length := by intro x; rw [List.length_append]; omega
  unfold a_st5 at hr
  split at hr
  · -- new
    rename_i idx st'
    rw [Option.map_eq_some_iff] at hr
    obtain ⟨q, h1, rfl⟩ := hr
    have h3 := a_all_of a_new_ok (List.mem_of_find?_eq_some h1)
    have h4 := List.find?_some h1
    simp only [Bool.and_eq_true, decide_eq_true_eq] at h3
    simp only [beq_iff_eq] at h4
    obtain ⟨w1, w2, w3, hc⟩ := h3
    rw [h4] at w1
    refine W.newcK hx hb hown (hts _ (a_at_in w1)) (hts _ (a_at_in w2)) (hts _ (a_at_in w3)) rfl hdg hRc hRs (hKC _ hc).2.1 rfl (fun H1 kC hkC e1 z1 o1 => ?_)
    obtain ⟨cell, g1, g2, g3, g4⟩ := u_born (a_fty q.2.1) hts (a_hin hc) (hKC _ hc) hkC e1 (a_types _ hc)
    have hc2 : a_C D ad (a_obj q.2.1) cell := by
      unfold a_C
      rw [if_pos (show (a_obj q.2.1).1 < 19 by show q.2.1 < 19; omega)]
      refine ⟨g2, g3, a_cl_obj _, fun k v hk => ?_⟩
      have hk2 : k < a_cl q.2.1 := by rw [← a_cl_obj]; exact (List.getElem?_eq_some_iff.mp hk).1
      have hv : v = defaultValue (a_fty q.2.1 k) := by
        simp only [a_obj, List.getElem?_map, List.getElem?_range hk2, Option.map_some, Option.some.injEq] at hk
        exact hk.symm
      rw [hv, a_ren_def]
      exact g4 k hk2
    obtain ⟨p1, p2⟩ := pushed a_obj_ok hc2 g1 z1 o1
    have k1 := kk _ H1 locs hs1 p1 p2 len1 rfl
    rw [stk hw.2.1] at k1
    exact k1
  · -- newarray
    rename_i t n st'
    split at hr
    · rename_i ht
      rw [Option.map_eq_some_iff] at hr
      obtain ⟨k, h1, rfl⟩ := hr
      obtain ⟨n0, hk, hk6⟩ := a_cnt_ok h1
      obtain ⟨t1, t2, t3⟩ := a_tyok_ok ht
      obtain ⟨w1, w2⟩ := a_arrW ht
      have hmul : k * componentBytes (Op.newarray.typeOf t) ≤ k * 8 := Nat.mul_le_mul_left k w2
      subst hk
      refine W.newa hx hb (hts _ w1) rfl hdg rfl n0 (by omega) hRc hRs (fun cA kA comp f1 f2 f3 => ?_)
      have hcA : cA = D.2.2 (a_atag (Op.newarray.typeOf t)) := Option.some.inj (f1.symm.trans (hKN _ _ t3 t1).1)
      subst hcA
      obtain ⟨p1, p2⟩ := pushed (H1 := H.push { cls := D.2.2 (a_atag (Op.newarray.typeOf t)), slots := Array.replicate n.toNatClampNeg (defaultValue (Op.newarray.typeOf t)), vm := .none }) a_row_ok (a_row_C (n := n.toNatClampNeg) t1) Array.getElem?_push_size (Array.size_push ..) (fun q hq => by rw [Array.getElem?_push, if_neg (Nat.ne_of_lt hq)])
      have k1 := kk _ _ locs hs1 p1 p2 len1 rfl
      rw [stk hw.tl.2.1] at k1
      exact k1
    · cases hr
  · -- anewarray
    rename_i idx n st'
    split at hr
    · rename_i q h1
      split at hr
      · rename_i ht
        rw [Option.map_eq_some_iff] at hr
        obtain ⟨k, h2, rfl⟩ := hr
        obtain ⟨n0, hk, hk6⟩ := a_cnt_ok h2
        obtain ⟨t1, t2, t3⟩ := a_tyok_ok ht
        have w1 := a_all_of a_arr_ok (List.mem_of_find?_eq_some h1)
        have h4 := List.find?_some h1
        simp only [beq_iff_eq] at h4
        rw [h4] at w1
        subst hk
        refine W.anew hx hb hown (hts _ (a_at_in w1)) (va_AO.use (hKW.2 _ (a_aty_obj t1))) rfl hdg rfl n0 (by omega) hRc hRs (fun cA kA comp f1 f2 f3 f4 => ?_)
        have hcA : cA = D.2.2 (a_atag (.object q.2.1)) := Option.some.inj (f1.symm.trans (hKN _ _ t3 t1).1)
        subst hcA
        obtain ⟨p1, p2⟩ := pushed (H1 := H.push { cls := D.2.2 (a_atag (.object q.2.1)), slots := Array.replicate n.toNatClampNeg .null, vm := .none }) a_row_ok (a_row_C (ty := .object q.2.1) (n := n.toNatClampNeg) t1) Array.getElem?_push_size (Array.size_push ..) (fun q hq => by rw [Array.getElem?_push, if_neg (Nat.ne_of_lt hq)])
        have k1 := kk _ _ locs hs1 p1 p2 len1 rfl
        rw [stk hw.tl.2.1] at k1
        exact k1
      · cases hr
    · cases hr
  · -- aastore
    rename_i v j a st'
    split at hr
    · rename_i t vs ha
      split at hr
      · rename_i u us hv
        split at hr
        · rename_i hc
          obtain ⟨hu, h19, hty⟩ := hc
          rw [Option.map_eq_some_iff] at hr
          obtain ⟨n, h1, rfl⟩ := hr
          obtain ⟨g1, g2, g3⟩ := a_ix_ok h1
          obtain ⟨cell, c1, c2⟩ := hH.1 a _ ha
          obtain ⟨cv, v1, v2⟩ := hH.1 v _ hv
          have hge := a_aty_ge hty
          obtain ⟨d1, d2, d3, d4⟩ := c2.arr hge
          obtain ⟨b1, b2, -, -⟩ := v2.obj (show u < 19 by omega)
          obtain ⟨-, kA, comp, k1, k2, k3, -⟩ := hKN t _ (show 20 ≤ t by omega) hty
          have hcls := (hKC u hu).2
          have hcomp : comp = D.1 u := Option.some.inj ((k3 _ rfl).symm.trans hcls.1)
          subst hcomp
          obtain ⟨kC, hkC, -⟩ := hcls.2
          refine W.aast hx hb c1 d2.2 d2.1 (by rw [d1]; exact k1) k2 rfl hkC ⟨fun q => g1 (Or.inl q), by rw [d3, g2]; exact g3⟩ v1 (fun q hq => by rw [b2] at hq; cases hq) (by rw [b1]; exact hkC) (by rw [b1]; exact va_assign hcls) rfl rfl hdg (fun H' e1 e2 e3 => ?_)
          rw [g2] at e1
          exact kk ad H' _ a_same.rf (hH.set ha e1 (c2.setArr hge g3 (.ref v)) e3) (hS.put e2 e3 (hH.2.2 a _ ha h19)) (Nat.le_of_eq (a_set_len ..).symm) rfl
        · cases hr
      · cases hr
    · cases hr
  · -- Object.<init>
    rename_i idx a st'
    split at hr
    · rename_i hc
      cases hr
      obtain ⟨hs, h8⟩ := hc
      obtain ⟨q, h1⟩ := Option.isSome_iff_exists.mp hs
      have w1 := a_all_of a_oin_ok (List.mem_of_find?_eq_some h1)
      have h4 := List.find?_some h1
      simp only [beq_iff_eq] at h4
      rw [h4] at w1
      have hcat := a_cat_ren (ad := ad) st'
      refine W.objInit hx hb hown (hts _ (a_at_in w1)) (hts _ (a_fix (by simp [a_fixW]))) (hts _ (a_fix (by simp [a_fixW]))) rfl hsz rfl hdg hRf (by show 2 * 0 + _ + 12 ≤ _; rw [hcat]; omega) ?_
      exact kk ad H locs a_same.rf hH hS (Nat.le_refl _) rfl
    · cases hr
  · -- Math.min, Math.max
    rename_i idx y x st'
    split at hr
    · rename_i q h1
      split at hr
      · rename_i h8
        cases hr
        have w1 := a_all_of a_mat_ok (List.mem_of_find?_eq_some h1)
        have h4 := List.find?_some h1
        simp only [beq_iff_eq] at h4
        rw [h4] at w1
        have w2 := hts _ (a_at_in w1)
        have hcat := a_cat_ren (ad := ad) st'
        have k1 := kk ad H locs a_same.rf hH hS (Nat.le_refl _) rfl
        by_cases hq : q.2.1 = true
        · rw [if_pos hq] at w2
          dsimp only at k1
          rw [if_pos hq] at k1
          exact va_mmax hx hb hsz.symm hown w2 (hts _ (a_fix (by simp [a_fixW]))) (hts _ (a_fix (by simp [a_fixW]))) (hts _ (a_fix (by simp [a_fixW]))) hRf (by rw [hcat]; omega) hRc hRs hdg k1
        · rw [if_neg hq] at w2
          dsimp only at k1
          rw [if_neg hq] at k1
          exact va_mmin hx hb hsz.symm hown w2 (hts _ (a_fix (by simp [a_fixW]))) (hts _ (a_fix (by simp [a_fixW]))) (hts _ (a_fix (by simp [a_fixW]))) hRf (by rw [hcat]; omega) hRc hRs hdg k1
      · cases hr
    · cases hr
  · cases hr
end AW6
