/-! Calls without a wrapper: both sides give one value -/
/-- both sides give one value, without exceptions; the relation holds behind -/
def zDi (R : ZS → ZS → Prop) (A B : ZR) : Prop := ∃ (v : Int) (c' m' : ZS), A = ((0, [v]), c') ∧ B = ((0, [v]), m') ∧ R c' m'
theorem zRel.twoD {R : ZS → ZS → Prop} {KC KM : List Nat} (hr : zRel R KC KM) {nv nv' : Nat} {W W' : List Nat} {φ φ' : ZFn} (h : z_kp nv W φ) (h' : z_kp nv' W' φ') {L : List Int} (hL : L.length = nv) (hL' : L.length = nv') {S : ZS} (hR : R S S) (hd : z_dis W KM = true) (hd' : z_dis W' KC = true) (hB : ∀ c m, R c m → zDi R (φ L c) (φ' L m)) : ∃ (v : Int) (S1 S2 : ZS), φ L S = ((0, [v]), S1) ∧ φ' L S1 = ((0, [v]), S2) ∧ R S2 S2 := by
  obtain ⟨v0, c0, m0, e0, -⟩ := hB S S hR
  have hS1 : R S c0 := hr hR (fun _ _ => rfl) (fun r hq => by
    have := h.r hL (S := S) (by rw [e0]) (z_dis_ok hd hq)
    rw [e0] at this
    exact this)
  obtain ⟨v, c', m', e1, e2, h3⟩ := hB S c0 hS1
  rw [e0] at e1
  have e3 : c0 = c' := congrArg Prod.snd e1
  have e4 : v0 = v := by
    have := congrArg Prod.fst e1
    simp only [Prod.mk.injEq, List.cons.injEq, and_true, true_and] at this
    exact this
  subst e3
  subst e4
  exact ⟨v0, c0, m', e0, e2, hr h3 (fun r hq => by
    have := h'.r hL' (S := c0) (by rw [e2]) (z_dis_ok hd' hq)
    rw [e2] at this
    exact this) (fun _ _ => rfl)⟩
