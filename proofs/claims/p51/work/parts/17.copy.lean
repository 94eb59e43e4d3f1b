/-! System.arraycopy between arrays of one type that isn't a reference -/
def a_cpyW : List Cond := [.methodLink "JuryreelModel" 166 arraycopyName, .native arraycopyName, .static arraycopyName, .initialized "java/lang/System"]
theorem a_cpyW_in {n : Nat} (h0 : n < 0) {w : Cond} (_ : w ∈ a_cpyW) : w ∈ a_wG := absurd h0 (Nat.not_lt_zero n)
/-- pairs (value, place behind at_) laid into a list -/
def a_prs (at_ : Nat) : List (Value × Nat) → List Value → List Value
  | [], ws => ws
  | q :: r, ws => a_prs at_ r (ws.set (at_ + q.2) q.1)
def a_fitL (ty : FieldType) (xs : List Value) : Bool := xs.all fun v => decide (a_kind v < 4) && fits ty v
/-- the stretch that is copied -/
def a_sl (vs : List Value) (sp n : Nat) : List Value := (vs.drop sp).take n
def a_acp (own : Nat) (i : Instr) (len : Nat) (st : List Value) (h : AH) : Option (List Value × AH) := match i, st with
  | .invokestatic idx, .int n :: .int dp :: .ref b :: .int sp :: .ref a :: st =>
    if own = 12 ∧ idx = 166 ∧ len = 3 ∧ a_cat st < 0 ∧ ¬ sp < 0 ∧ ¬ dp < 0 ∧ ¬ n < 0 then
      match h[a]?, h[b]? with
      | some (t, vs), some (u, ws) => match a_aty t with
        | some ty => if t = u ∧ 20 ≤ t ∧ refKind ty = false ∧ sp.toNatClampNeg + n.toNatClampNeg ≤ vs.length ∧ dp.toNatClampNeg + n.toNatClampNeg ≤ ws.length ∧ a_fitL ty (a_sl vs sp.toNatClampNeg n.toNatClampNeg) = true then
            some (st, h.set b (u, a_prs dp.toNatClampNeg (a_sl vs sp.toNatClampNeg n.toNatClampNeg).zipIdx ws)) else none
        | none => none
      | _, _ => none
    else none
  | .pop2, v :: st => if len = 1 ∧ v.category = 2 then some (st, h) else none
  | _, _ => none
theorem a_prs_len (at_ : Nat) : ∀ (qs : List (Value × Nat)) (ws : List Value), (a_prs at_ qs ws).length = ws.length
  | [], ws => rfl
  | q :: r, ws => by rw [a_prs, a_prs_len at_ r, List.length_set]
theorem a_prs_in (at_ : Nat) : ∀ (qs : List (Value × Nat)) (ws : List Value) (v : Value), v ∈ a_prs at_ qs ws → v ∈ ws ∨ ∃ q ∈ qs, v = q.1
  | [], ws, v, h => Or.inl h
  | q :: r, ws, v, h => by
    rw [a_prs] at h
    rcases a_prs_in at_ r _ v h with g | ⟨q', g1, g2⟩
    · rcases List.mem_or_eq_of_mem_set g with g | g
      · exact Or.inl g
      · exact Or.inr ⟨q, List.mem_cons_self, g⟩
    · exact Or.inr ⟨q', List.mem_cons_of_mem _ g1, g2⟩
theorem a_fitL_in {ty : FieldType} {xs : List Value} (h : a_fitL ty xs = true) {v : Value} (hv : v ∈ xs) : a_kind v < 4 ∧ fits ty v = true := by
  have := List.all_eq_true.mp h v hv
  rw [Bool.and_eq_true, decide_eq_true_eq] at this
  exact this
theorem a_ren_k {ad : Nat → Nat} {v : Value} (h : a_kind v < 4) : a_ren ad v = v := by
  cases v <;> first | rfl | exact absurd h (by decide : ¬ (4 : Nat) < 4)
theorem a_zip_in {xs : List Value} {q : Value × Nat} (h : q ∈ xs.zipIdx) : q.1 ∈ xs ∧ q.2 < xs.length := by
  obtain ⟨v, k⟩ := q
  rw [List.mk_mem_zipIdx_iff_getElem?] at h
  exact ⟨List.mem_of_getElem? h, (List.getElem?_eq_some_iff.mp h).1⟩
theorem a_C.prs {D : AD} {ad : Nat → Nat} {t : Nat} (ht : 19 ≤ t) (at_ : Nat) : ∀ (qs : List (Value × Nat)) (vs : List Value) (ce : Cell), a_C D ad (t, vs) ce → (∀ q ∈ qs, a_kind q.1 < 4 ∧ at_ + q.2 < vs.length) → a_C D ad (t, a_prs at_ qs vs) (ce.storePairs at_ qs)
  | [], vs, ce, h, _ => h
  | q :: r, vs, ce, h, hq => by
    rw [a_prs]
    show a_C D ad _ ((ce.setSlot (at_ + q.2) q.1).storePairs at_ r)
    have h1 := h.setArr ht (hq q List.mem_cons_self).2 q.1
    rw [a_ren_k (hq q List.mem_cons_self).1] at h1
    exact a_C.prs ht at_ r _ _ h1 (fun q' hq' => ⟨(hq q' (List.mem_cons_of_mem _ hq')).1, by rw [List.length_set]; exact (hq q' (List.mem_cons_of_mem _ hq')).2⟩)
theorem a_acp_wf {own : Nat} {i : Instr} {len : Nat} {st st' : List Value} {h h' : AH} {al : AL} (hr : a_acp own i len st h = some (st', h')) (w : a_wf al st h) : a_wf al st' h' ∧ h.length ≤ h'.length := by
  unfold a_acp at hr
  split at hr
  · rename_i idx n dp b sp a st2
    split at hr
    · split at hr
      · rename_i t vs u ws ha hb
        split at hr
        · rename_i ty hty
          split at hr
          · rename_i hc
            cases hr
            refine ⟨w.tl.tl.tl.tl.tl.upd hb (fun v hv => ?_), Nat.le_of_eq (a_set_len ..).symm⟩
            rcases a_prs_in _ _ _ _ hv with g | ⟨q, g1, g2⟩
            · exact w.2.2 b _ hb v g
            · intro k hk
              have g3 := (a_fitL_in hc.2.2.2.2.2 (a_zip_in g1).1).1
              rw [← g2, hk] at g3
              exact absurd g3 (by decide : ¬ (4 : Nat) < 4)
          · cases hr
        · cases hr
      · cases hr
    · cases hr
  · split at hr
    · cases hr
      exact ⟨w.tl, Nat.le_refl _⟩
    · cases hr
  · cases hr
section AXC
variable {p : Program} {l : Launch} {e : Env} {R : Room} {s : State} {m : MethodId} {args : Array Value} {below : List Frame} {meth : Method} {c : Code} {H : Heap} {locs : List Loc} {cells slots : Nat} {Q : State → Prop} {cc : ByteArray} {pc : Nat} {ls : Array Slot} {D : AD} {B : Nat} {ad : Nat → Nat} {h : AH} {H0 : Heap}
theorem a_acp_ok (hx : p.tables.exec = Jvm.exec) (hb : c.code = cc) (hml : ls.size = c.maxLocals) {own len : Nat} (hown : s.vm.findClass (a_cN own) = some m.cls) (hts : ∀ w ∈ a_wG, w.before args s = true) (hKA : a_KA D s) (hH : a_H D B ad h H) (hS : va_S (fun q => B ≤ q) H0 H locs) {i : Instr} {st st' : List Value} {h' : AH} (hdg : decode cc pc = .ok (i, len)) (hr : a_acp own i len st h = some (st', h'))
    (hRf : 1 ≤ R.frames) (hRl : 100 ≤ R.locals)
    (kk : ∀ (H' : Heap) (locs' : List Loc), a_H D B ad h' H' → va_S (fun q => B ≤ q) H0 H' locs' → W p l e R s m args below meth c H' locs' cells slots Q (F0 m (pc + len) ls (st'.map (a_ren ad)))) : W p l e R s m args below meth c H locs cells slots Q (F0 m pc ls (st.map (a_ren ad))) := by
  have nn : ∀ z : Int32, ¬ z < 0 → z.toInt = (z.toNatClampNeg : Int) := by
    intro z hz
    have hz0 : (0 : Int) ≤ z.toInt := by
      have := Int32.not_lt.mp hz
      simpa using Int32.le_iff_toInt_le.mp this
    show z.toInt = ((z.toInt.toNat : Nat) : Int)
    omega
  unfold a_acp at hr
  split at hr
  · rename_i idx n dp b sp a st2
    split at hr
    · rename_i hc1
      obtain ⟨z1, z2, z3, z4, h1, h2, h3⟩ := hc1
      subst z1 z2 z3
      split at hr
      · rename_i t vs u ws ha hbb
        split at hr
        · rename_i ty hty
          split at hr
          · rename_i hc
            obtain ⟨y1, y2, y3, y4, y5, y6⟩ := hc
            subst y1
            cases hr
            intro T hT X
            obtain ⟨ca, a1, a2⟩ := hH.1 a _ ha
            obtain ⟨cb, b1, b2⟩ := hH.1 b _ hbb
            obtain ⟨p1, p2, p3, p4⟩ := a2.arr (show 19 ≤ t by omega)
            obtain ⟨q1, q2, q3, q4⟩ := b2.arr (show 19 ≤ t by omega)
            obtain ⟨kA, comp, k1, k2⟩ := hKA t ty hty
            have hstr : ca.stretch sp.toNatClampNeg n.toNatClampNeg = a_sl vs sp.toNatClampNeg n.toNatClampNeg := by
              apply List.ext_getElem?
              intro j
              unfold Cell.stretch a_sl
              rw [List.getElem?_map, List.getElem?_take]
              by_cases hj : j < n.toNatClampNeg
              · rw [List.getElem?_range hj, if_pos hj, List.getElem?_drop]
                have hlt : sp.toNatClampNeg + j < vs.length := by omega
                rw [List.getElem?_eq_getElem hlt]
                show some (ca.slots.getD (sp.toNatClampNeg + j) .null) = _
                rw [Array.getD_eq_getD_getElem?, p4 _ _ (List.getElem?_eq_getElem hlt)]
                have hm : vs[sp.toNatClampNeg + j] ∈ a_sl vs sp.toNatClampNeg n.toNatClampNeg := by
                  unfold a_sl
                  apply List.mem_of_getElem? (i := j)
                  rw [List.getElem?_take, if_pos hj, List.getElem?_drop, List.getElem?_eq_getElem hlt]
                rw [a_ren_k (a_fitL_in y6 hm).1]
                rfl
              · rw [if_neg hj, List.getElem?_eq_none (by rw [List.length_range]; omega)]
                rfl
            have hsz : ∀ j, j < n.toNatClampNeg → ca.slots.getD (sp.toNatClampNeg + j) .null ∈ a_sl vs sp.toNatClampNeg n.toNatClampNeg := fun j hj => by
              rw [← hstr]
              exact List.mem_map.mpr ⟨j, List.mem_range.mpr hj, rfl⟩
            obtain ⟨vm', X', step⟩ := X.arraycopy hx hown (hts _ (a_cpyW_in z4 (List.mem_cons_self))) (hts _ (a_cpyW_in z4 (List.mem_cons_of_mem _ List.mem_cons_self))) (hts _ (a_cpyW_in z4 (List.mem_cons_of_mem _ (List.mem_cons_of_mem _ List.mem_cons_self)))) (hts _ (a_cpyW_in z4 (List.mem_cons_of_mem _ (List.mem_cons_of_mem _ (List.mem_cons_of_mem _ List.mem_cons_self))))) (src := ad a) (dst := ad b) (cs := ca) (cd := cb) (srcPos := sp) (destPos := dp) (n := n) (by rw [hT]; exact a1) (by rw [hT]; exact b1)
              p2.2 q2.2 p2.1 q2.1 (by rw [p1]; exact k1) (by rw [q1]; exact k1) k2 k2 (by simp [y3]) h1 h2 h3
              (by rw [nn sp h1, nn n h3, p3]; show ¬ _ > ((vs.length : Nat) : Int); omega)
              (by rw [nn dp h2, nn n h3, q3]; show ¬ _ > ((ws.length : Nat) : Int); omega)
              (fun vm₁ _ j hj => by
                have hm := a_fitL_in y6 (hsz j hj)
                refine ⟨hm.2, ?_⟩
                generalize ca.slots.getD (sp.toNatClampNeg + j) .null = v at hm
                cases v <;> first | exact trivial | exact absurd hm.1 (by decide : ¬ (4 : Nat) < 4))
              (g := F0 m pc ls ((Value.int n :: .int dp :: .ref b :: .int sp :: .ref a :: st').map (a_ren ad))) rfl hml (rest := st'.map (a_ren ad)) rfl (by rw [hb]; exact hdg) hRf
              (by
                have hcat : ((st'.map (a_ren ad)).map fun v => v.category).sum = a_cat st' := by
                  unfold a_cat
                  rw [List.map_map]
                  congr 1
                  exact List.map_congr_left fun v _ => a_ren_cat ad v
                have hnw : nativeFrameWords "java/lang/System" "arraycopy" 5 ≤ 60 := by decide +kernel
                show 2 * 0 + _ + _ ≤ _
                rw [hcat]; omega)
            have e1 : copied ca cb sp dp n = cb.storePairs dp.toNatClampNeg (a_sl vs sp.toNatClampNeg n.toNatClampNeg).zipIdx := by
              show cb.storePairs dp.toNatClampNeg (ca.stretch sp.toNatClampNeg n.toNatClampNeg).zipIdx = _
              rw [hstr]
            rw [e1] at X' step
            have hin : ∀ q ∈ (a_sl vs sp.toNatClampNeg n.toNatClampNeg).zipIdx, a_kind q.1 < 4 ∧ dp.toNatClampNeg + q.2 < ws.length := fun q hq => by
              obtain ⟨g1, g2⟩ := a_zip_in hq
              have g3 : (a_sl vs sp.toNatClampNeg n.toNatClampNeg).length ≤ n.toNatClampNeg := by unfold a_sl; rw [List.length_take]; omega
              exact ⟨(a_fitL_in y6 g1).1, by omega⟩
            have hC := b2.prs (show 19 ≤ t by omega) dp.toNatClampNeg _ _ _ hin
            have hl : ad b < H.size := (Array.getElem?_eq_some_iff.mp b1).1
            generalize hcd : cb.storePairs dp.toNatClampNeg (a_sl vs sp.toNatClampNeg n.toNatClampNeg).zipIdx = cd at X' step hC
            have hheap : ((T.setVm vm').setCell (ad b) cd).heap = H.setIfInBounds (ad b) cd := by rw [← hT]; rfl
            have oq : ∀ q : Nat, q ≠ ad b → (H.setIfInBounds (ad b) cd)[q]? = H[q]? := fun q hq => by simp [Array.getElem?_setIfInBounds, Ne.symm hq]
            obtain ⟨t2, a9, b9⟩ := kk _ _ (hH.set hbb (show (H.setIfInBounds (ad b) cd)[ad b]? = some cd by simp [Array.getElem?_setIfInBounds, hl]) hC oq) ⟨by simp; exact hS.1, fun q g1 g2 => by
                rw [oq q (fun e => g2 (by rw [e]; exact hH.2.2 b _ hbb (by show t ≠ 19; omega)))]
                exact hS.2.1 q g1 g2, fun q hq => by
                rcases List.mem_append.mp hq with g | g
                · exact hS.2.2 q g
                · obtain ⟨z, -, hz⟩ := List.mem_map.mp g
                  rw [← hz]
                  exact hH.2.2 b _ hbb (by show t ≠ 19; omega)⟩ _ hheap X'
            exact ⟨t2, step t2 a9, b9⟩
          · cases hr
        · cases hr
      · cases hr
    · cases hr
  · split at hr
    · rename_i v st2 hc
      cases hr
      rw [hc.1] at hdg
      have k1 := kk H locs hH hS
      rw [hc.1] at k1
      exact lv_pop2_2 hx hb hdg (by rw [a_ren_cat]; exact hc.2) k1
    · cases hr
  · cases hr
end AXC
