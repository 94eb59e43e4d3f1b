/-! Relations put together: a relation and the regions that it reads, answers of both sides -/
def zRel (R : ZS → ZS → Prop) (KC KM : List Nat) : Prop := ∀ {c m c' m' : ZS}, R c m → (∀ r ∈ KC, c' r = c r) → (∀ r ∈ KM, m' r = m r) → R c' m'
theorem zR_rel : zRel zR zRC zRM := fun h hc hm => h.cg hc hm
def zAnd (R R' : ZS → ZS → Prop) : ZS → ZS → Prop := fun c m => R c m ∧ R' c m
theorem zRel.and {R R' : ZS → ZS → Prop} {KC KM KC' KM' : List Nat} (h : zRel R KC KM) (h' : zRel R' KC' KM') : zRel (zAnd R R') (KC ++ KC') (KM ++ KM') := fun q hc hm => ⟨h q.1 (fun r hr => hc r (List.mem_append_left _ hr)) (fun r hr => hm r (List.mem_append_left _ hr)), h' q.2 (fun r hr => hc r (List.mem_append_right _ hr)) (fun r hr => hm r (List.mem_append_right _ hr))⟩
/-- both sides end, with one exception or none, one answer, and the relation behind -/
def zBo (R : ZS → ZS → Prop) (A B : ZR) : Prop := ∃ (k v : Int) (c' m' : ZS), A = ((0, [k]), c') ∧ B = ((0, [v]), m') ∧ R c' m' ∧ m' r_m_thrown 0 0 0 = k ∧ (k = 0 → c' r_out 0 0 0 = v)
theorem zBoth.bo {A B : ZR} (h : zBoth A B) : zBo zR A B := h
theorem zBo.and {R R' : ZS → ZS → Prop} {A B : ZR} (h : zBo R A B) (h' : R' A.2 B.2) : zBo (zAnd R R') A B := by
  obtain ⟨k, v, c', m', e1, e2, h1, h2, h3⟩ := h
  refine ⟨k, v, c', m', e1, e2, ⟨h1, ?_⟩, h2, h3⟩
  rw [e1, e2] at h'
  exact h'
/-- a second relation that the two calls leave alone -/
theorem zBo.keep {R R' : ZS → ZS → Prop} {KC KM : List Nat} (hr : zRel R' KC KM) {nv nv' : Nat} {W W' : List Nat} {φ φ' : ZFn} (h : z_kp nv W φ) (h' : z_kp nv' W' φ') {L : List Int} (hL : L.length = nv) (hL' : L.length = nv') (hd : z_dis W KC = true) (hd' : z_dis W' KM = true) {c m : ZS} (hR : R' c m) (hB : zBo R (φ L c) (φ' L m)) : zBo (zAnd R R') (φ L c) (φ' L m) := by
  obtain ⟨k, v, c', m', e1, e2, -⟩ := id hB
  exact hB.and (hr hR (fun r hq => h.r hL (by rw [e1]) (z_dis_ok hd hq)) (fun r hq => h'.r hL' (by rw [e2]) (z_dis_ok hd' hq)))
/-- one call that leaves the relation's regions alone -/
theorem zRel.keep {R : ZS → ZS → Prop} {KC KM : List Nat} (hr : zRel R KC KM) {nv : Nat} {W : List Nat} {φ : ZFn} (h : z_kp nv W φ) {L : List Int} (hL : L.length = nv) {S : ZS} (h0 : (φ L S).1.1 = 0) (hd : z_dis W (KC ++ KM) = true) (hR : R S S) : R (φ L S).2 (φ L S).2 := hr hR (fun r hq => h.r hL h0 (z_dis_ok hd (List.mem_append_left _ hq))) (fun r hq => h.r hL h0 (z_dis_ok hd (List.mem_append_right _ hq)))
/-- the class's call, then the model's, on one state -/
theorem zRel.two {R : ZS → ZS → Prop} {KC KM : List Nat} (hr : zRel R KC KM) {nv nv' : Nat} {W W' : List Nat} {φ φ' : ZFn} (h : z_kp nv W φ) (h' : z_kp nv' W' φ') {L : List Int} (hL : L.length = nv) (hL' : L.length = nv') {S : ZS} (hR : R S S) (hd : z_dis W KM = true) (hd' : z_dis W' (r_out :: KC) = true) (hB : ∀ c m, R c m → zBo R (φ L c) (φ' L m)) : ∃ (k v : Int) (S1 S2 : ZS), φ L S = ((0, [k]), S1) ∧ φ' L S1 = ((0, [v]), S2) ∧ R S2 S2 ∧ S2 r_m_thrown 0 0 0 = k ∧ (k = 0 → S2 r_out 0 0 0 = v) := by
  obtain ⟨k0, v0, c0, m0, e0, -⟩ := hB S S hR
  have hS1 : R S c0 := hr hR (fun _ _ => rfl) (fun r hq => by
    have := h.r hL (S := S) (by rw [e0]) (z_dis_ok hd hq)
    rw [e0] at this
    exact this)
  obtain ⟨k, v, c', m', e1, e2, h3, h4, h5⟩ := hB S c0 hS1
  rw [e0] at e1
  have e3 : c0 = c' := congrArg Prod.snd e1
  have e4 : k0 = k := by
    have := congrArg Prod.fst e1
    simp only [Prod.mk.injEq, List.cons.injEq, and_true, true_and] at this
    exact this
  subst e3
  subst e4
  have kr : ∀ r, r ∈ r_out :: KC → m' r = c0 r := fun r hq => by
    have := h'.r hL' (S := c0) (by rw [e2]) (z_dis_ok hd' hq)
    rw [e2] at this
    exact this
  exact ⟨k0, v, c0, m', e0, e2, hr h3 (fun r hq => kr r (List.mem_cons_of_mem _ hq)) (fun _ _ => rfl), h4, fun q => by rw [kr r_out List.mem_cons_self]; exact h5 q⟩
