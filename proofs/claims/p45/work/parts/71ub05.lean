/-! The sections' columns: the relation, section -/
def zSe (c m : ZS) : Prop := (0 ≤ c r_x_sectionCount 0 0 0 ∧ c r_x_sectionCount 0 0 0 ≤ 5 ∧ m r_m_sectionMany 0 0 0 = c r_x_sectionCount 0 0 0) ∧ ∀ s, 0 ≤ s → s < c r_x_sectionCount 0 0 0 → m r_m_quotas 0 0 s = c r_Section_quota s 0 0 ∧ m r_m_budgets 0 0 s = c r_Section_budget s 0 0 ∧ m r_m_leasts 0 0 s = c r_Section_least s 0 0 ∧ m r_m_sectionForms 0 0 s = c r_Section_form s 0 0 ∧ m r_m_premieres 0 0 s = c r_Section_premiere s 0 0
def zSeC : List Nat := [r_x_sectionCount, r_Section_quota, r_Section_budget, r_Section_least, r_Section_form, r_Section_premiere]
def zSeM : List Nat := [r_m_sectionMany, r_m_quotas, r_m_budgets, r_m_leasts, r_m_sectionForms, r_m_premieres]
theorem zSe_rel : zRel zSe zSeC zSeM := fun {c m c' m'} h hc hm => by
  unfold zSe
  rw [hc r_x_sectionCount (by decide), hc r_Section_quota (by decide), hc r_Section_budget (by decide), hc r_Section_least (by decide), hc r_Section_form (by decide), hc r_Section_premiere (by decide), hm r_m_sectionMany (by decide), hm r_m_quotas (by decide), hm r_m_budgets (by decide), hm r_m_leasts (by decide), hm r_m_sectionForms (by decide), hm r_m_premieres (by decide)]
  exact h
theorem zSe.out {c m : ZS} (h : zSe c m) {z : Int} : zSe (e_upd c r_out 0 0 0 z) m := zSe_rel.uc h (by decide)
theorem zSe.thr {c m : ZS} (h : zSe c m) {z : Int} : zSe c (e_upd m r_m_thrown 0 0 0 z) := zSe_rel.um h (by decide)
theorem oS_section {x1 x2 x3 x4 x5 : Int} {c m : ZS} (h : zSe c m) : zBo zSe (f_w_section [x1, x2, x3, x4, x5] c) (f_m_section [x1, x2, x3, x4, x5] m) := by
  obtain ⟨⟨a1, a2, a3⟩, hs⟩ := id h
  rw [q_wsection a1 a2, q_msection (by omega) (by omega), a3]
  split
  · split
    · exact ⟨2, 0, _, _, rfl, rfl, h.thr.thr, e_us, fun q => absurd q (by decide)⟩
    · refine ⟨0, _, _, _, rfl, rfl, zSe.out ⟨?_, fun s s0 s1 => ?_⟩, ?_, fun _ => e_us⟩
      · simp (decide := true) only [e_us]
        exact ⟨by omega, by omega, trivial⟩
      · simp (decide := true) only [e_us, e_un] at s1
        simp (decide := true) only [e_un, e_ur]
        by_cases q : s = c r_x_sectionCount 0 0 0
        · simp (decide := true) only [q, and_self, ↓reduceIte]
        · simp only [q, and_false, false_and, ↓reduceIte]
          exact hs s s0 (by omega)
      · simp (decide := true) only [e_un, e_us]
  · exact ⟨1, 0, _, _, rfl, rfl, h.thr, e_us, fun q => absurd q (by decide)⟩
/-- two relations together: what the one says, and that the regions of the other stay -/
theorem zBo.keepL {R R' : ZS → ZS → Prop} {KC KM : List Nat} (hr : zRel R KC KM) {nv nv' : Nat} {W W' : List Nat} {φ φ' : ZFn} (h : z_kp nv W φ) (h' : z_kp nv' W' φ') {L : List Int} (hL : L.length = nv) (hL' : L.length = nv') (hd : z_dis W KC = true) (hd' : z_dis W' KM = true) {c m : ZS} (hR : R c m) (hB : zBo R' (φ L c) (φ' L m)) : zBo (zAnd R R') (φ L c) (φ' L m) := by
  obtain ⟨k, v, c', m', e1, e2, h1, h2, h3⟩ := hB
  exact ⟨k, v, c', m', e1, e2, ⟨hr hR (fun r hq => by
    have := h.r hL (S := c) (by rw [e1]) (z_dis_ok hd hq)
    rw [e1] at this
    exact this) (fun r hq => by
    have := h'.r hL' (S := m) (by rw [e2]) (z_dis_ok hd' hq)
    rw [e2] at this
    exact this), h1⟩, h2, h3⟩
