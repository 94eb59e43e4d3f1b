/-! What proofs by hand need -/
section HD
variable {K : BH} {ν : BN} {h0 h : AH} {G : BG}
/-- a method's contract out of its runs -/
theorem b_valid_of {R : BRw} {d : Nat} (hd : R.2.1 = d + 1) (ha : b_argOK R.1 R.2.2.1.1 = true) (hr : ∀ (ν : BN) (h : AH) (al : AL), b_L (b_pre R).1.length ν (b_args R.1 R.2.2.1.1) al → b_G K ν h h (b_pre R) → ∃ r, b_R d R.1 0 al [] h 0 0 r ∧ b_post K R ν h r) : b_valid K R := by
  intro ν h as g hs
  obtain ⟨r, r1, r2⟩ := hr ν h (a_args R.1 as) (b_args_ok hs) g
  refine ⟨r, ?_, r2⟩
  rw [hd]
  exact b_lim_run (b_argOK_ok hs ha) r1
/-- an end with an int -/
theorem b_post_int {R : BRw} {lo hi : Int} {c : Nat × Nat} {F : BF} {C : BC} {O : BO} {W : BW} {r : AR} {x : Int32} (hp : (.inl (some (1, R.2.2.1.2.1.length, 0)), ([(0, lo, hi)], [], []), c) ∈ R.2.2.2.2) (hx : r.1 = .inl (some (.int x))) (h1 : lo ≤ x.toInt) (h2 : x.toInt ≤ hi) (g : b_G K ν h r.2.1 (R.2.2.1.2.1, F, C, O, W)) (hW : ∀ w, w ∈ W → w ∈ R.2.2.2.1) (hc : r.2.2 = c) : b_post K R ν h r := by
  obtain ⟨g1, x1⟩ := g.add (q := (0, lo, hi)) (z := x.toInt) (by unfold b_q; rw [if_pos rfl]; exact ⟨h1, h2⟩)
  refine ⟨_, hp, _, x1, ?_, ⟨g1.1, (fun f hf => by cases hf), (fun f hf => by cases hf), (fun f hf => by cases hf), g1.2.2.2.2.1, g1.2.2.2.2.2.mono hW⟩, hc⟩
  rw [hx]
  refine Or.inr ⟨rfl, ?_, ?_⟩
  · show _ < (R.2.2.1.2.1 ++ [_]).length
    rw [List.length_append]
    exact Nat.lt_succ_self _
  · show _ = b_nu _ _ _ (R.2.2.1.2.1.length) + 0
    have e : (R.2.2.1.2.1, F, C, O, W).1.length = R.2.2.1.2.1.length := rfl
    rw [e, b_nu_n, Int.add_zero]
/-- an end with nothing -/
theorem b_post_void {R : BRw} {c : Nat × Nat} {F : BF} {C : BC} {O : BO} {W : BW} {r : AR} (hp : (.inl none, ([], [], []), c) ∈ R.2.2.2.2) (hx : r.1 = .inl none) (g : b_G K ν h r.2.1 (R.2.2.1.2.1, F, C, O, W)) (hW : ∀ w, w ∈ W → w ∈ R.2.2.2.1) (hc : r.2.2 = c) : b_post K R ν h r := by
  have e : R.2.2.1.2.1 ++ [] = R.2.2.1.2.1 := List.append_nil _
  refine ⟨_, hp, ν, ?_, ?_, ⟨?_, (fun f hf => by cases hf), (fun f hf => by cases hf), (fun f hf => by cases hf), g.2.2.2.2.1, g.2.2.2.2.2.mono hW⟩, hc⟩
  · show b_ext _ (R.2.2.1.2.1 ++ []).length ν ν
    rw [e]; exact b_ext.rf
  · rw [hx]; trivial
  · show b_sat K (R.2.2.1.2.1 ++ []) ν
    rw [e]; exact g.1
/-- an instance of a template, whatever was written -/
def b_ins1 (K : BH) (N0 : Nat) (E0 : BQ) (bl : BL) (T : BP) (bl' : BL) (G : BG) (σ : List BV) : Bool := b_locs σ bl bl' && (b_inst K σ T G && decide (σ.take N0 = b_id E0))
theorem b_ins1_ok {E0 : BQ} {bl bl' : BL} {T : BP} {σ : List BV} {al : AL} (hi : b_ins1 K E0.length E0 bl T bl' G σ = true) (hN : E0.length ≤ T.1.length) (g : b_G K ν h0 h G) (hl : b_L G.1.length ν bl' al) : b_L T.1.length (b_vT σ ν) bl al ∧ b_G K (b_vT σ ν) h h (T.1, T.2.1, T.2.2, [], []) ∧ b_ext E0.length T.1.length ν (b_vT σ ν) := by
  unfold b_ins1 at hi
  rw [Bool.and_eq_true, Bool.and_eq_true, decide_eq_true_eq] at hi
  obtain ⟨s1, s2, s3⟩ := hi
  obtain ⟨i1, i2, i3, i4, i5⟩ := b_inst_ok g s2
  refine ⟨?_, ⟨i3, i4, i5, (fun o ho => by cases ho), g.2.2.2.2.1, b_frm.rf⟩, ?_⟩
  · have := b_locs_ok (ν := ν) s1 hl
    rw [i1] at this
    exact this
  · have := b_id_ext (ν := ν) (by rw [i1]; exact hN) s3
    rw [i1] at this
    exact this
/-- two facts of one place -/
theorem b_fa_same {N N' : Nat} {ν ν' : BN} {h : AH} {b b' s s' v v' : BV} {a a' : Nat} (f : b_fa N ν h (b, s, v)) (f' : b_fa N' ν' h (b', s', v')) (hb : b_r N ν b a) (hb' : b_r N' ν' b' a') (ha : a = a') {z : Int} (hs : b_i N ν s z) (hs' : b_i N' ν' s' z) : ∃ w, b_v N ν v w ∧ b_v N' ν' v' w := by
  subst ha
  have n9 : ¬ s.1 = 9 := by rcases hs with ⟨e, -⟩ | ⟨e, -⟩ <;> omega
  have n9' : ¬ s'.1 = 9 := by rcases hs' with ⟨e, -⟩ | ⟨e, -⟩ <;> omega
  obtain ⟨a1, t, vs, k1, k2, k3⟩ := f
  obtain ⟨a2, t', vs', m1, m2, m3⟩ := f'
  have e1 := k1.fn hb
  have e2 := m1.fn hb'
  subst e1
  subst e2
  rw [k2] at m2
  cases m2
  rw [if_neg n9] at k3
  rw [if_neg n9'] at m3
  obtain ⟨j, w, j1, j2, j3⟩ := k3
  obtain ⟨j', w', j1', j2', j3'⟩ := m3
  have e3 : (j : Int) = z := j1.fn hs
  have e4 : (j' : Int) = z := j1'.fn hs'
  have e5 : j = j' := by omega
  subst e5
  rw [j2] at j2'
  cases j2'
  exact ⟨w, j3, j3'⟩
theorem b_post.cut {R : BRw} {h' : AH} {W : BW} {r : AR} (f : b_frm K W h h') (hW : ∀ w, w ∈ W → w ∈ R.2.2.2.1) (k : b_post K R ν h' r) : b_post K R ν h r := by
  obtain ⟨p, p1, ν', x, q1, q2, q3⟩ := k
  exact ⟨p, p1, ν', x, q1, ⟨q2.1, q2.2.1, q2.2.2.1, q2.2.2.2.1, q2.2.2.2.2.1, f.tr q2.2.2.2.2.2 hW (fun w hw => hw)⟩, q3⟩
end HD
