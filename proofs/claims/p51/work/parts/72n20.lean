/-! needs: n12 n07. The law, first stage: readers (wip/p51/gen_n20.py) -/
theorem n_fit85 {x : Int} (h : n_r x) : n_fit c_r85.2.2.1.2.1 [x] := ⟨⟨rfl, h.1, h.2, h⟩, trivial⟩
def n_I1 (R k : Int) (A G : Nat → Int → Int) : Prop := (∀ i, 0 ≤ i → i < k → 0 ≤ A 0 i ∧ A 0 i < 3 ∧ G 1 i = A 0 i) ∧ (∀ i, 0 ≤ i → i < R → A 1 i = 0) ∧ G 0 0 = 0 ∧ G 0 1 = k ∧ G 0 2 = 0 ∧ ∀ i, G 2 i = 0 ∧ G 3 i = 0 ∧ G 4 i = 0 ∧ G 8 i = 3 ∧ G 9 i = -1
theorem n_I1.next {R k z : Int} {A G : Nat → Int → Int} (h : n_I1 R k A G) (z0 : 0 ≤ z) (z1 : z < 3) : n_I1 R (k + 1) (n_up A 0 k z) (n_up (n_up G 1 k z) 0 1 (k + 1)) := by
  obtain ⟨h1, h2, h3, h4, h5, h6⟩ := h
  refine ⟨fun i i0 i1 => ?_, fun i i0 i1 => ?_, ?_, ?_, ?_, fun i => ?_⟩
  · simp (decide := true) only [n_up_na, n_up_a, n_up_eq]
    by_cases e : i = k
    · simp only [if_pos e, and_true]
      exact ⟨z0, z1⟩
    · simp only [if_neg e]
      exact h1 i i0 (by omega)
  · simp (decide := true) only [n_up_na]
    exact h2 i i0 i1
  · simp (decide := true) only [n_up_na, n_up_a, if_false]
    exact h3
  · exact n_up_eq
  · simp (decide := true) only [n_up_na, n_up_a, if_false]
    exact h5
  · simp (decide := true) only [n_up_na]
    exact h6 i
section
variable {P : Value → AH → Prop} {F R : Nat} {b : Nat} {M : Int → Int → Int}
theorem n_st1 (hR : 2 ≤ R ∧ R ≤ 5) (hF : 2 ≤ F ∧ F ≤ 7) (hx : ∀ A G, n_I1 R R A G → n_J 12 96 P (n_T F) (n_l F R) 156 [.ref 0, .ref 1, n_v 1, n_v R, n_v F, n_p 0, n_p 1, n_v R] [] 2 A (n_K G M) b) : ∀ (j : Nat) (k : Int) (A G : Nat → Int → Int), 0 ≤ k → k + j = R → n_I1 R k A G → n_J 12 96 P (n_T F) (n_l F R) 107 [.ref 0, .ref 1, n_v 1, n_v R, n_v F, n_p 0, n_p 1, n_v k] [] 2 A (n_K G M) (b + j) := by
  intro j
  induction j with
  | zero =>
    intro k A G k0 kj h
    have e : k = R := by omega
    subst e
    refine n_kil (p' := 109) n_i107 rfl rfl ?_
    refine n_kiln (p' := 110) n_i109 rfl rfl ?_
    refine n_c2ge (t := 156) (p' := 113) n_i110 (by decide) rfl ⟨by omega, by omega⟩ ⟨by omega, by omega⟩ (fun e => ?_) (fun e => absurd e (by omega))
    exact hx A G h
  | succ j ih =>
    intro k A G k0 kj h
    obtain ⟨-, -, -, g01, -⟩ := id h
    refine n_J.le (b' := b + j + 1) ?_ (by omega)
    refine n_kil (p' := 109) n_i107 rfl rfl ?_
    refine n_kiln (p' := 110) n_i109 rfl rfl ?_
    refine n_c2ge (t := 156) (p' := 113) n_i110 (by decide) rfl ⟨by omega, by omega⟩ ⟨by omega, by omega⟩ (fun e => absurd e (by omega)) (fun e => ?_)
    refine n_kal (p' := 115) n_i113 rfl rfl ?_
    refine n_kil (p' := 117) n_i115 rfl rfl ?_
    refine n_kaln (p' := 118) n_i117 rfl rfl ?_
    refine n_kpush (z := 10) (p' := 120) n_i118 rfl rfl (by decide +kernel) rfl ?_
    refine n_kil (p' := 122) n_i120 rfl rfl ?_
    refine n_kadd (p' := 123) n_i122 rfl ?_
    refine n_kpush (z := 3) (p' := 124) n_i123 rfl rfl rfl rfl ?_
    refine n_kin (p' := 127) n_i124 (n_ain (Nat.le_of_ble_eq_true rfl)) (by decide) (by omega) (by omega) (by decide) (by decide) rfl (fun zl zl0 zl1 => ?_)
    refine n_kiast (p' := 128) n_K_cl n_i127 (by omega) n_T0 (by omega) (by rw [n_l0]; omega) (by rw [n_l0]; omega) rfl ?_
    refine n_kiln (p' := 129) n_i128 rfl rfl ?_
    refine n_kaln (p' := 130) n_i129 rfl rfl ?_
    refine n_kal (p' := 132) n_i130 rfl rfl ?_
    refine n_kil (p' := 134) n_i132 rfl rfl ?_
    refine n_kiald (p' := 135) n_i134 (by omega) n_T0 (by omega) (by rw [n_l0]; omega) (by rw [n_l0]; omega) rfl ?_
    rw [n_up_eq]
    refine n_o_reader (p' := 138) (v := k) (K' := n_K (n_up (n_up G 1 k zl) 0 1 (k + 1)) M) n_i135 (Nat.le_of_ble_eq_true rfl) rfl (n_fit85 ⟨by omega, by omega⟩) (fun S hS => ?_) ?_
    · have q := k_reader hS zl0 (by omega) (by omega) (by omega)
      rw [g01] at q
      exact q
    refine n_kil (p' := 140) n_i138 rfl rfl ?_
    refine n_c2ne (t := 147) (p' := 143) n_i140 (by decide) rfl ⟨by omega, by omega⟩ ⟨by omega, by omega⟩ (fun e => absurd rfl e) (fun e => ?_)
    refine n_kpush (z := 1) (p' := 144) n_i143 rfl rfl rfl rfl ?_
    refine n_kgoto (p' := 148) n_i144 (by decide) ?_
    refine n_kand (p' := 149) n_i148 rfl ?_
    refine n_kisn (p' := 150) (vl' := [_, _, _, _, _, _, _, _]) n_i149 rfl n_mx rfl rfl rfl ?_
    refine n_kinc (p' := 153) (vl' := [_, _, _, _, _, _, _, _]) n_i150 rfl n_mx rfl rfl rfl ?_
    refine n_kgoto (p' := 107) n_i153 (by decide) ?_
    exact ih (k + 1) _ _ (by omega) (by omega) (h.next zl0 zl1)
end
