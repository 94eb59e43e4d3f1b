theorem a_cst_ok : a_all a_cst (fun own e => a_at e.2.2 (.constant (a_cN own) e.1 e.2.1)) = true := by decide +kernel
theorem a_csl_ok : a_all a_csl (fun own e => a_at e.2.2 (.constantLong (a_cN own) e.1 e.2.1)) = true := by decide +kernel
theorem a_cst_in {own idx : Nat} {q : Nat × Int32 × Nat × Nat} (h : (a_of a_cst own).find? (fun e => e.1 == idx) = some q) : Cond.constant (a_cN own) idx q.2.1 ∈ a_wG := by
  have h3 := a_all_of a_cst_ok (List.mem_of_find?_eq_some h)
  have h4 := List.find?_some h
  simp only [beq_iff_eq] at h4
  rw [← h4]
  exact a_at_in h3
theorem a_csl_in {own idx : Nat} {q : Nat × Int64 × Nat × Nat} (h : (a_of a_csl own).find? (fun e => e.1 == idx) = some q) : Cond.constantLong (a_cN own) idx q.2.1 ∈ a_wG := by
  have h3 := a_all_of a_csl_ok (List.mem_of_find?_eq_some h)
  have h4 := List.find?_some h
  simp only [beq_iff_eq] at h4
  rw [← h4]
  exact a_at_in h3
section AW5
variable {p : Program} {l : Launch} {e : Env} {R : Room} {s : State} {m : MethodId} {args : Array Value} {below : List Frame} {meth : Method} {c : Code} {H : Heap} {locs : List Loc} {cells slots : Nat} {Q : State → Prop} {cc : ByteArray} {pc : Nat} {ls : Array Slot} {rest : List Value} {i : Instr} {D : AD} {B : Nat} {ad : Nat → Nat} {h : AH} {H0 : Heap}
theorem a_st4_ok (hx : p.tables.exec = Jvm.exec) (hb : c.code = cc) (hdg : decode cc pc = .ok (i, a_len i)) {own : Nat} {ini : Bool} (hown : s.vm.findClass (a_cN own) = some m.cls) (hini : ini = true → meth.name = "<init>") (hts : ∀ w ∈ a_wG, w.before args s = true) (hKC : a_KC D s) (hKA : a_KA D s) (hH : a_H D B ad h H) (hS : va_S (fun q => B ≤ q) H0 H locs) {al : AL} {st : List Value} {r : AS} (hr : a_st4 own ini i pc al st h = some r)
    (kk : ∀ (H' : Heap) (locs' : List Loc), a_H D B ad r.2.2.2.1 H' → va_S (fun q => B ≤ q) H0 H' locs' → r.2.2.2.1.length = h.length → r.2.2.2.2 = (0, 0) → r.2.1 = al → W p l e R s m args below meth c H' locs' cells slots Q (F0 m r.1 ls (r.2.2.1.map (a_ren ad)))) : W p l e R s m args below meth c H locs cells slots Q (F0 m pc ls (st.map (a_ren ad))) := by
  unfold a_st4 at hr
  split at hr
  · split at hr
    · rename_i a st' _ t vs ha
      split at hr
      · rename_i ht
        cases hr
        obtain ⟨ty, hty⟩ := Option.isSome_iff_exists.mp ht
        obtain ⟨cell, c1, c2⟩ := hH.1 a _ ha
        obtain ⟨-, d2, d3, d4⟩ := c2.arr (a_aty_ge hty)
        exact W.alen hx hb c1 (c2.isArr hKA hty) (by rw [d3]) rfl rfl hdg (kk H locs hH hS rfl rfl rfl)
      · cases hr
    · cases hr
  · rw [Option.map_eq_some_iff] at hr
    obtain ⟨q, h1, rfl⟩ := hr
    exact lv_ldc hx hb hown (hts _ (a_cst_in h1)) hdg (kk H locs hH hS rfl rfl rfl)
  · rw [Option.map_eq_some_iff] at hr
    obtain ⟨q, h1, rfl⟩ := hr
    exact lv_ldcw hx hb hown (hts _ (a_cst_in h1)) hdg (kk H locs hH hS rfl rfl rfl)
  · rw [Option.map_eq_some_iff] at hr
    obtain ⟨q, h1, rfl⟩ := hr
    exact lv_ldc2 hx hb hown (hts _ (a_csl_in h1)) hdg (kk H locs hH hS rfl rfl rfl)
  · split at hr
    · rename_i idx a st' _ ci k hf
      split at hr
      · rename_i t vs ha
        split at hr
        · rename_i ht
          subst ht
          rw [Option.map_eq_some_iff] at hr
          obtain ⟨v, h2, rfl⟩ := hr
          obtain ⟨cell, c1, c2⟩ := hH.1 a _ ha
          exact a_getf_ok hx hb hown hts hKC hf c1 c2 h2 hdg (kk H locs hH hS rfl rfl rfl)
        · cases hr
      · cases hr
    · cases hr
  · split at hr
    · rename_i idx v a st' _ ci k hf
      split at hr
      · rename_i t vs ha
        split at hr
        · rename_i ht
          obtain ⟨ht, hk, hn, hfit, hfin⟩ := ht
          subst ht
          cases hr
          obtain ⟨cell, c1, c2⟩ := hH.1 a _ ha
          obtain ⟨-, -, hc13⟩ := a_field_in hf
          refine a_putf_ok (v := a_ren ad v) hx hb hown hts hKC hf c1 c2 hk (a_narrow_ren hn) (a_fits_ren hfit) ?_ hdg (fun H' e1 e2 e3 => ?_)
          · rcases hfin with q | ⟨q1, q2⟩
            · exact Or.inl q
            · exact Or.inr ⟨hini q1, q2⟩
          · have c3 := c2.setObj (show t < 19 by omega) hk (fun j hj hne => a_apart hts hKC hc13 k j (a_field_in hf).2.1 ?_ (Ne.symm hne)) v
            · exact kk H' _ (hH.set ha e1 c3 e3) (hS.put e2 e3 (hH.2.2 a _ ha (show t ≠ 19 by omega))) (a_set_len ..) rfl rfl
            · rw [← (c2.obj (show t < 19 by omega)).2.2.1]; exact hj
        · cases hr
      · cases hr
    · cases hr
  · split at hr
    · rename_i x j a st' _ _ _ _ _ _ t vs ha
      split at hr
      · rename_i v hv
        rw [Option.map_eq_some_iff] at hr
        obtain ⟨n, h1, rfl⟩ := hr
        exact a_ast_ok hx hb hdg hKA hH hS ha hv h1 (fun H' locs' g1 g2 => kk H' locs' g1 g2 (a_set_len ..) rfl rfl)
      · cases hr
    · cases hr
  · cases hr
end AW5
