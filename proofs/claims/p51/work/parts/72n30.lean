/-! needs: n29. All tellings (wip/p51/gen_n30.py) -/
theorem n_I3.up {F R f : Nat} {A G : Nat → Int → Int} {M : Int → Int → Int} (h : n_I3 F R f R A G M) : n_I3 F R (f + 1) 0 A G M := by
  obtain ⟨h1, h2, h3, h4, h5, h6, h7⟩ := h
  refine ⟨h1, h2, h3, h4, fun i i0 i1 => ?_, fun g g0 i i0 i1 q => h6 g g0 i i0 i1 (by omega), h7⟩
  obtain ⟨q1, q2, q3, q4, q5, q6⟩ := h5 i i0 i1
  refine ⟨q1, q2, q3, ?_, q5, q6⟩
  rw [if_pos i1] at q4
  rw [if_neg (by omega)]
  omega
theorem n_I3.start {F R : Nat} {A G : Nat → Int → Int} {M : Int → Int → Int} (hR : R ≤ 5) (hF : F ≤ 7) (h : n_I2 F R F A G M) : n_I3 F R 0 0 (n_zr (n_zr A (7 + 2 * F)) (8 + 2 * F)) G M := by
  obtain ⟨h1, hL, hD, hP, hO, hN, h9, -⟩ := h
  have low : ∀ (a : Nat) (i : Int), a < 7 + 2 * F → n_zr (n_zr A (7 + 2 * F)) (8 + 2 * F) a i = A a i := fun a i ha => by
    unfold n_zr
    rw [if_neg (by omega), if_neg (by omega)]
  refine ⟨h1, fun g hg => ?_, fun j hj => ?_, fun g hg i i0 i1 => ?_, fun i i0 i1 => ?_, fun g hg i i0 i1 _ => ?_, h9⟩
  · rw [low 2 _ (by omega), low 3 _ (by omega), low 4 _ (by omega)]
    obtain ⟨q1, q2, q3, -⟩ := hO g hg
    exact ⟨q1, q2, q3⟩
  · rw [low 5 _ (by omega), low (6 + F) _ (by omega)]
    exact hP j hj
  · rw [low (6 + g) _ (by omega), low (7 + F + g) _ (by omega)]
    obtain ⟨-, -, -, q⟩ := hO g hg
    obtain ⟨q1, q2⟩ := q i i0 i1
    rcases q1 with q1 | q1
    · exact Or.inl ⟨q1.1, q1.2, q2⟩
    · exact Or.inr (Or.inl ⟨q1.1, q1.2, q2⟩)
  · obtain ⟨q1, q2, q3, q4⟩ := hD i i0 (by omega)
    have z1 : n_zr (n_zr A (7 + 2 * F)) (8 + 2 * F) (7 + 2 * F) i = 0 := by
      unfold n_zr
      rw [if_neg (by omega), if_pos rfl]
    have z2 : n_zr (n_zr A (7 + 2 * F)) (8 + 2 * F) (8 + 2 * F) i = 0 := by
      unfold n_zr
      rw [if_pos rfl]
    rw [z1, z2, q3, q4, if_neg (by omega)]
    refine ⟨rfl, rfl, Int.le_refl _, by omega, Int.le_refl _, by omega⟩
  · obtain ⟨-, -, -, q⟩ := hO g hg
    obtain ⟨q1, q2⟩ := q i i0 i1
    omega
section
variable {P : Value → AH → Prop} {F R : Nat} {b : Nat}
theorem n_tells (hR : 2 ≤ R ∧ R ≤ 5) (hF : 2 ≤ F ∧ F ≤ 7) (hx : ∀ A G M, n_I3 F R F 0 A G M → n_J 12 96 P (n_T F) (n_l F R) 923 [.ref 0, .ref 1, n_v 1, n_v R, n_v F, n_p 0, n_p 1, n_p 2, n_p 3, n_p 4, n_p 5, n_p (6 + F), n_p (7 + 2 * F), n_p (8 + 2 * F), n_v F] [] (9 + 2 * F) A (n_K G M) b) : ∀ (j f : Nat) (A G : Nat → Int → Int) (M : Int → Int → Int), f + j = F → n_I3 F R f 0 A G M → n_J 12 96 P (n_T F) (n_l F R) 702 [.ref 0, .ref 1, n_v 1, n_v R, n_v F, n_p 0, n_p 1, n_p 2, n_p 3, n_p 4, n_p 5, n_p (6 + F), n_p (7 + 2 * F), n_p (8 + 2 * F), n_v (f : Int)] [] (9 + 2 * F) A (n_K G M) (b + j * 10) := by
  intro j
  induction j with
  | zero =>
    intro f A G M fj h
    obtain rfl : f = F := by omega
    refine n_J.le (b' := b) ?_ (by omega)
    refine n_kil (p' := 704) n_i702 rfl rfl ?_
    refine n_kil (p' := 706) n_i704 rfl rfl ?_
    refine n_c2ge (t := 923) (p' := 709) n_i706 (by decide) rfl ⟨by omega, by omega⟩ ⟨by omega, by omega⟩ (fun e => ?_) (fun e => absurd e (by omega))
    exact hx A G M h
  | succ j ih =>
    intro f A G M fj h
    have hz : zcnt (fun i => decide (0 ≤ M f i)) R 0 = 0 := n_zcnt0 R 0 (fun i i0 i1 => by
      have := h.2.2.2.2.2.1 f (by omega) i i0 (by omega) (Or.inr ⟨rfl, i0⟩)
      simp
      omega)
    refine n_J.le (b' := b + j * 10 + R * 2) ?_ (by omega)
    refine n_kil (p' := 704) n_i702 rfl rfl ?_
    refine n_kil (p' := 706) n_i704 rfl rfl ?_
    refine n_c2ge (t := 923) (p' := 709) n_i706 (by decide) rfl ⟨by omega, by omega⟩ ⟨by omega, by omega⟩ (fun e => absurd e (by omega)) (fun e => ?_)
    refine n_kpush (z := 0) (p' := 710) n_i709 rfl rfl rfl rfl ?_
    refine n_kis (p' := 712) (vl' := [_, _, _, _, _, _, _, _, _, _, _, _, _, _, _, _]) n_i710 rfl n_mx rfl rfl rfl ?_
    refine n_kpush (z := 0) (p' := 713) n_i712 rfl rfl rfl rfl ?_
    refine n_kis (p' := 715) (vl' := [_, _, _, _, _, _, _, _, _, _, _, _, _, _, _, _, _]) n_i713 rfl n_mx rfl rfl rfl ?_
    refine (fun q => ?_ : _ → _) (n_reads (b := b + j * 10) (f := f) (F := F) (R := R) (P := P) (by omega) hR hF (fun A2 G2 M2 many h2 => ?_) R 0 A G M (Int.le_refl _) (by omega) h)
    · rw [hz] at q
      exact q
    refine n_kinc (p' := 920) (vl' := [_, _, _, _, _, _, _, _, _, _, _, _, _, _, _, _, _]) n_i917 rfl n_mx rfl rfl rfl ?_
    refine n_kgoto (p' := 702) n_i920 (by decide) ?_
    exact n_J.pre (vr := [_, _]) (ih (f + 1) A2 G2 M2 (by omega) h2.up)
theorem n_st3 (hR : 2 ≤ R ∧ R ≤ 5) (hF : 2 ≤ F ∧ F ≤ 7) (hx : ∀ A G M, n_I3 F R F 0 A G M → n_J 12 96 P (n_T F) (n_l F R) 923 [.ref 0, .ref 1, n_v 1, n_v R, n_v F, n_p 0, n_p 1, n_p 2, n_p 3, n_p 4, n_p 5, n_p (6 + F), n_p (7 + 2 * F), n_p (8 + 2 * F), n_v F] [] (9 + 2 * F) A (n_K G M) b) {A G : Nat → Int → Int} {M : Int → Int → Int} (h : n_I2 F R F A G M) : n_J 12 96 P (n_T F) (n_l F R) 689 [.ref 0, .ref 1, n_v 1, n_v R, n_v F, n_p 0, n_p 1, n_p 2, n_p 3, n_p 4, n_p 5, n_p (6 + F), n_v F] [] (7 + 2 * F) A (n_K G M) (b + 72) := by
  refine n_J.le (b' := b + F * 10 + 1 + 1) ?_ (by omega)
  refine n_kiln (p' := 690) n_i689 rfl rfl ?_
  refine n_knew (p' := 692) n_K_cl n_i690 (by decide +kernel) (n_T9.trans (by decide +kernel)) (by rw [n_T9]; decide) rfl (by omega) n_l9 rfl ?_
  rw [show 7 + 2 * F + 1 = 8 + 2 * F by omega]
  refine n_kas (p' := 694) (vl' := [_, _, _, _, _, _, _, _, _, _, _, _, _]) n_i692 rfl n_mx rfl rfl rfl ?_
  refine n_kiln (p' := 695) n_i694 rfl rfl ?_
  refine n_knew (p' := 697) n_K_cl n_i695 (by decide +kernel) (n_T10.trans (by decide +kernel)) (by rw [n_T10]; decide) rfl (by omega) n_l10 rfl ?_
  rw [show 8 + 2 * F + 1 = 9 + 2 * F by omega]
  refine n_kas (p' := 699) (vl' := [_, _, _, _, _, _, _, _, _, _, _, _, _, _]) n_i697 rfl n_mx rfl rfl rfl ?_
  refine n_kpush (z := 0) (p' := 700) n_i699 rfl rfl rfl rfl ?_
  refine n_kis (p' := 702) (vl' := [_, _, _, _, _, _, _, _, _, _, _, _, _, _, _]) n_i700 rfl n_mx rfl rfl rfl ?_
  exact n_tells hR hF hx F 0 _ _ _ (by omega) (n_I3.start hR.2 hF.2 h)
end
