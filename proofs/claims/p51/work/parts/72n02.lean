/-! Calls of the class from the law: they end, and what they answer is what the flat functions say -/
def n_I (h : AH) : Prop := b_H c_K h ∧ z_PI h
/-- the cells behind the class's own stay -/
def n_tail (h h' : AH) : Prop := h'.length = h.length ∧ ∀ a, z_N0 ≤ a → h'[a]? = h[a]?
theorem n_gtN {a : Nat} (h : z_N0 ≤ a) : c_gt[a]? = none := List.getElem?_eq_none (by
  have e : c_gt.length = z_N0 := by decide +kernel
  omega)
theorem n_frm {W : BW} {h h' : AH} (f : b_frm c_K W h h') {a : Nat} (ha : z_N0 ≤ a) (hl : h'.length = h.length) : h'[a]? = h[a]? := by
  cases e : h[a]? with
  | none =>
    rw [List.getElem?_eq_none_iff] at e ⊢
    omega
  | some c =>
    obtain ⟨vs, k1, k2, k3⟩ := f a c e
    rw [k1]
    have : vs = c.2 := by
      apply List.ext_getElem?
      intro j
      refine k3 j (fun w _ q => ?_)
      unfold b_key at q
      have hg : c_K.1 a = none := n_gtN ha
      rw [hg] at q
      cases q
    rw [this]
theorem n_total {R : BRw} {nv : Nat} {ps : List ZV} {φ : ZFn} {W : List Nat} {h : AH} {as : List Value} {L : List Int} {ν : BN} (hv : b_valid c_K R) (hz : z_met R.1 nv ps φ) (hk : z_kp nv W φ) (hW : W.contains z_rA = false) (hI : n_I h) (hL : L.length = nv) (hs : z_stk L ps as) (hF : R.2.2.1.2.2 = ([], [])) (hq : b_sat c_K R.2.2.1.2.1 ν) (ha : b_S R.2.2.1.2.1.length ν R.2.2.1.1 as) (hP : (R.2.2.2.2.all fun p => decide (p.2.2.1 ≤ 1) && (decide (p.2.2.2 ≤ 6) && (match p.1 with
    | .inl (some b) => decide (b.1 = 1)
    | .inl none => false
    | .inr _ => true))) = true) {v : Int} {S : ZS} (hφ : φ L (z_al h) = ((0, [v]), S)) : ∃ (x : Int32) (h' : AH) (c s : Nat), b_lim R.2.1 R.1 as h = some (.inl (some (.int x)), h', c, s) ∧ x.toInt = v ∧ n_I h' ∧ z_al h' = S ∧ n_tail h h' ∧ c ≤ 1 ∧ s ≤ 6 := by
  have hg : b_G c_K ν h h (b_pre R) := by
    unfold b_pre
    rw [hF]
    exact ⟨hq, fun f q => absurd q List.not_mem_nil, fun f q => absurd q List.not_mem_nil, fun f q => absurd q List.not_mem_nil, hI.1, b_frm.rf⟩
  obtain ⟨r, r1, p, p1, ν', -, p3, p4, p5⟩ := hv ν h as hg ha
  obtain ⟨m1, m2, m3⟩ := hz _ _ _ _ L r1 hI.2 hL hs
  rw [hφ] at m3
  have e1 : z_out r.1 = (0, [v]) := congrArg Prod.fst m3
  have e2 : z_al r.2.1 = S := congrArg Prod.snd m3
  have hp := List.all_eq_true.mp hP p p1
  rw [Bool.and_eq_true, Bool.and_eq_true, decide_eq_true_eq, decide_eq_true_eq] at hp
  obtain ⟨c1, c2, c3⟩ := hp
  obtain ⟨ro, rh, rc, rs⟩ := r
  have p5 : (rc, rs) = p.2.2 := p5
  have hl : rh.length = h.length := by
    have q := hk L (z_al h) hL (by rw [hφ]; exact (by decide : ¬ (0 : Nat) = 999)) z_rA 0 0 0 hW
    rw [hφ] at q
    have q : S z_rA 0 0 0 = z_al h z_rA 0 0 0 := q
    rw [← e2] at q
    unfold z_al at q
    rw [if_pos rfl, if_pos ⟨rfl, rfl, rfl⟩, if_pos rfl, if_pos ⟨rfl, rfl, rfl⟩] at q
    have l1 := hI.2.1
    have l2 := m1.1
    have q : (rh.length : Int) - z_N0 = (h.length : Int) - z_N0 := q
    omega
  have ho : ∃ x : Int32, ro = .inl (some (.int x)) := by
    have e1 : z_out ro = (0, [v]) := e1
    cases ro with
    | inr k => cases e1
    | inl o =>
      cases o with
      | none => cases e1
      | some w =>
        have p3 : b_fin (b_pst R p).1.length ν' p.1 (.inl (some w)) := p3
        split at c3
        · rename_i b hb
          rw [hb] at p3
          have p3 : b_v (b_pst R p).1.length ν' b w := p3
          obtain ⟨x, rfl, -⟩ := p3.int (by rw [of_decide_eq_true c3]; decide)
          exact ⟨x, rfl⟩
        · cases c3
        · rename_i k hb
          rw [hb] at p3
          exact p3.elim
  obtain ⟨x, rfl⟩ := ho
  have ex : x.toInt = v := by
    have e1 : (0, [x.toInt]) = ((0, [v]) : Nat × List Int) := e1
    simp only [Prod.mk.injEq, List.cons.injEq, and_true, true_and] at e1
    exact e1
  refine ⟨x, rh, rc, rs, r1, ex, ⟨p4.2.2.2.2.1, m1⟩, e2, ⟨hl, fun a h0 => n_frm p4.2.2.2.2.2 h0 hl⟩, ?_, ?_⟩
  · have := congrArg Prod.fst p5
    have : rc = p.2.2.1 := this
    omega
  · have := congrArg Prod.snd p5
    have : rs = p.2.2.2 := this
    omega
theorem n_xv {x : Int32} {v : Int} (h : x.toInt = v) : Value.int x = n_v v := by
  rw [← h]
  show Value.int x = Value.int (Int32.ofInt x.toInt)
  rw [Int32.ofInt_toInt]
