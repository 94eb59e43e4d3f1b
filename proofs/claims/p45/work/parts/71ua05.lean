/-! The law, turn by turn: tools -/
theorem z_post_b {Q : AH → Prop} {C : ZC} {mi f : Nat} {X : ZX} {R : ZR} {k : Int → ZS → ZR} (h : z_post Q C mi f X (e_bind R k)) (hX : ∃ y, X.1.1 = (0, [y])) : R.1.1 = 0 ∧ z_post Q C mi f X (k (R.1.2.getD 0 0) R.2) := by
  unfold e_bind at h
  cases hb : (R.1.1 == 0) with
  | true =>
    rw [hb] at h
    exact ⟨by simpa using hb, h⟩
  | false =>
    rw [hb] at h
    exfalso
    obtain ⟨y, hy⟩ := hX
    have := (h.1 (Nat.mod_lt _ (by decide))).1
    rw [this] at hy
    have hy : ((R.1.1 % 1000, []) : Nat × List Int) = (0, [y]) := hy
    rw [Prod.mk.injEq] at hy
    cases hy.2
theorem z_post_g {Q : AH → Prop} {C : ZC} {mi f pc : Nat} {X : ZX} {L : List Int} {S : ZS} (h : z_post Q C mi f X ((1000 + pc, L), S)) : ∃ f', f' < f ∧ z_goes Q C mi f' pc L S X := by
  obtain ⟨f', h1, h2⟩ := h.2 (Nat.le_add_right _ _)
  refine ⟨f', h1, ?_⟩
  have h2 : z_goes Q C mi f' (1000 + pc - 1000) L S X := h2
  rw [Nat.add_sub_cancel_left] at h2
  exact h2
theorem z_post_r {Q : AH → Prop} {C : ZC} {mi f c : Nat} {X : ZX} {l : List Int} {S : ZS} (hc : c < 1000) (h : z_post Q C mi f X ((c, l), S)) : X.1 = ((c, l), S) := (h.1 hc).1
/-- regions that a method doesn't write -/
def z_dis (W K : List Nat) : Bool := K.all fun r => !(W.contains r)
theorem z_kp.r {nv : Nat} {W : List Nat} {φ : ZFn} (h : z_kp nv W φ) {L : List Int} (hL : L.length = nv) {S : ZS} (h0 : (φ L S).1.1 = 0) {r : Nat} (hr : W.contains r = false) : (φ L S).2 r = S r := by
  funext i j k
  exact h L S hL (by rw [h0]; decide) r i j k hr
theorem z_dis_ok {W K : List Nat} (h : z_dis W K = true) {r : Nat} (hr : r ∈ K) : W.contains r = false := by
  have := List.all_eq_true.mp h r hr
  simpa using this
/-- an operation that leaves the regions of the relation as they are -/
theorem zR.keep {nv : Nat} {W : List Nat} {φ : ZFn} (h : z_kp nv W φ) {L : List Int} (hL : L.length = nv) {S : ZS} (h0 : (φ L S).1.1 = 0) (hd : z_dis W (zRC ++ zRM) = true) (hR : zR S S) : zR (φ L S).2 (φ L S).2 := hR.cg (fun r hr => h.r hL h0 (z_dis_ok hd (List.mem_append_left _ hr))) (fun r hr => h.r hL h0 (z_dis_ok hd (List.mem_append_right _ hr)))
theorem zBoth.two {nv nv' : Nat} {W W' : List Nat} {φ φ' : ZFn} (h : z_kp nv W φ) (h' : z_kp nv' W' φ') {L : List Int} (hL : L.length = nv) (hL' : L.length = nv') {S : ZS} (hR : zR S S) (hd : z_dis W zRM = true) (hd' : z_dis W' (r_out :: zRC) = true) (hB : ∀ c m, zR c m → zBoth (φ L c) (φ' L m)) : ∃ (k v : Int) (S1 S2 : ZS), φ L S = ((0, [k]), S1) ∧ φ' L S1 = ((0, [v]), S2) ∧ zR S2 S2 ∧ S2 r_m_thrown 0 0 0 = k ∧ (k = 0 → S2 r_out 0 0 0 = v) := by
  obtain ⟨k0, v0, c0, m0, e0, -⟩ := hB S S hR
  have hS1 : zR S c0 := hR.cg (fun _ _ => rfl) (fun r hr => by
    have := h.r hL (S := S) (by rw [e0]) (z_dis_ok hd hr)
    rw [e0] at this
    exact this)
  obtain ⟨k, v, c', m', e1, e2, h3, h4, h5⟩ := hB S c0 hS1
  rw [e0] at e1
  have e3 : c0 = c' := congrArg Prod.snd e1
  have e4 : k0 = k := by
    have := congrArg Prod.fst e1
    simp only [Prod.mk.injEq, List.cons.injEq, and_true, true_and] at this
    exact this
  subst e3
  subst e4
  have kr : ∀ r, r ∈ r_out :: zRC → m' r = c0 r := fun r hr => by
    have := h'.r hL' (S := c0) (by rw [e2]) (z_dis_ok hd' hr)
    rw [e2] at this
    exact this
  exact ⟨k0, v, c0, m', e0, e2, h3.cg (fun r hr => kr r (List.mem_cons_of_mem _ hr)) (fun _ _ => rfl), h4, fun q => by rw [kr r_out List.mem_cons_self]; exact h5 q⟩
theorem e_sw_in {x lo : Int} {ts : List ZN} {d : Nat} : e_sw x lo ts d = d ∨ ∃ t ∈ ts, e_sw x lo ts d = t.1 := by
  unfold e_sw
  split
  · exact Or.inl rfl
  · rw [List.getD_eq_getElem?_getD]
    cases h : ts[(x - lo).toNat]? with
    | none => exact Or.inl rfl
    | some t => exact Or.inr ⟨t, List.mem_of_getElem? h, rfl⟩
/-- a bound answer: the value is the one behind -/
theorem e_bind_ok {R : ZR} {k : Int → ZS → ZR} {v : Int} {S2 : ZS} (h : e_bind R k = ((0, [v]), S2)) : R.1.1 = 0 ∧ k (R.1.2.getD 0 0) R.2 = ((0, [v]), S2) := by
  unfold e_bind at h
  cases hb : (R.1.1 == 0) with
  | true =>
    rw [hb] at h
    exact ⟨by simpa using hb, h⟩
  | false =>
    rw [hb] at h
    have h : (((R.1.1 % 1000, []) : Nat × List Int), R.2) = ((0, [v]), S2) := h
    exact absurd (congrArg (fun q => q.1.2) h) (by intro q; cases q)
/-- a boolean's values -/
theorem e_bool {b : Bool} {R R' : ZR} {v : Int} {S2 : ZS} (h : (bif b then R else R') = ((0, [v]), S2)) (h1 : R = ((0, [v]), S2) → v = 0 ∨ v = 1) (h2 : R' = ((0, [v]), S2) → v = 0 ∨ v = 1) : v = 0 ∨ v = 1 := by
  cases b
  · exact h2 h
  · exact h1 h
theorem e_bool0 {S S2 : ZS} {v : Int} (h : (((0, [0]) : Nat × List Int), S) = ((0, [v]), S2)) : v = 0 ∨ v = 1 := by
  cases h
  exact Or.inl rfl
theorem e_bool1 {S S2 : ZS} {v : Int} (h : (((0, [1]) : Nat × List Int), S) = ((0, [v]), S2)) : v = 0 ∨ v = 1 := by
  cases h
  exact Or.inr rfl
theorem b_isDealt {a b v : Int} {S S2 : ZS} (h : f_m_isDealt [a, b] S = ((0, [v]), S2)) : v = 0 ∨ v = 1 := by
  unfold f_m_isDealt at h
  dsimp only at h
  exact e_bool (e_bind_ok h).2 e_bool0 (fun h => e_bool h e_bool0 e_bool1)
