/-! needs: n14 n20 n08. The law, second stage: films (wip/p51/gen_n21.py) -/
section
variable {P : Value → AH → Prop} {F R : Nat} {b : Nat} {A : Nat → Int → Int} {K : ZS → Prop}
def n_cp (A : Nat → Int → Int) (ln i : Int) : Bool := decide (A 0 i ≠ ln)
theorem n_can {f ln mn : Int} (hR : 2 ≤ R ∧ R ≤ 5) (hF : 2 ≤ F ∧ F ≤ 7) (hL : ∀ i : Int, 0 ≤ i → i < R → 0 ≤ A 0 i ∧ A 0 i < 3) (l0 : 0 ≤ ln) (l1 : ln < 3) (hx : n_J 12 96 P (n_T F) (n_l F R) 359 [.ref 0, .ref 1, n_v 1, n_v R, n_v F, n_p 0, n_p 1, n_p 2, n_p 3, n_p 4, n_p 5, n_p (6 + F), n_v f, n_v ln, n_v mn, n_v (zcnt (n_cp A ln) R 0), n_v R] [] (7 + 2 * F) A K b) : ∀ (j k : Nat), k + j = R → n_J 12 96 P (n_T F) (n_l F R) 327 [.ref 0, .ref 1, n_v 1, n_v R, n_v F, n_p 0, n_p 1, n_p 2, n_p 3, n_p 4, n_p 5, n_p (6 + F), n_v f, n_v ln, n_v mn, n_v (zcnt (n_cp A ln) k 0), n_v (k : Int)] [] (7 + 2 * F) A K b := by
  intro j
  induction j with
  | zero =>
    intro k kj
    have e : k = R := by omega
    subst e
    refine n_kil (p' := 329) n_i327 rfl rfl ?_
    refine n_kiln (p' := 330) n_i329 rfl rfl ?_
    refine n_c2ge (t := 359) (p' := 333) n_i330 (by decide) rfl ⟨by omega, by omega⟩ ⟨by omega, by omega⟩ (fun e => ?_) (fun e => absurd e (by omega))
    exact hx
  | succ j ih =>
    intro k kj
    have hk := hL k (by omega) (by omega)
    have q := ih (k + 1) (by omega)
    rw [zcnt_app] at q
    have ec : n_cp A ln (0 + k) = decide (A 0 k ≠ ln) := by
      unfold n_cp
      rw [Int.zero_add]
    rw [ec] at q
    refine n_kil (p' := 329) n_i327 rfl rfl ?_
    refine n_kiln (p' := 330) n_i329 rfl rfl ?_
    refine n_c2ge (t := 359) (p' := 333) n_i330 (by decide) rfl ⟨by omega, by omega⟩ ⟨by omega, by omega⟩ (fun e => absurd e (by omega)) (fun e => ?_)
    refine n_kil (p' := 335) n_i333 rfl rfl ?_
    refine n_kal (p' := 337) n_i335 rfl rfl ?_
    refine n_kil (p' := 339) n_i337 rfl rfl ?_
    refine n_kiald (p' := 340) n_i339 (by omega) n_T0 (by omega) (by rw [n_l0]; omega) (by rw [n_l0]; omega) rfl ?_
    refine n_kil (p' := 342) n_i340 rfl rfl ?_
    refine n_c2ne (t := 349) (p' := 345) n_i342 (by decide) rfl ⟨by omega, by omega⟩ ⟨by omega, by omega⟩ (fun e342 => ?_) (fun e342 => ?_)
    · refine n_kpush (z := 1) (p' := 350) n_i349 rfl rfl rfl rfl ?_
      refine n_kadd (p' := 351) n_i350 rfl ?_
      refine n_kis (p' := 353) (vl' := [_, _, _, _, _, _, _, _, _, _, _, _, _, _, _, _, _]) n_i351 rfl n_mx rfl rfl rfl ?_
      refine n_kinc (p' := 356) (vl' := [_, _, _, _, _, _, _, _, _, _, _, _, _, _, _, _, _]) n_i353 rfl n_mx rfl rfl rfl ?_
      refine n_kgoto (p' := 327) n_i356 (by decide) ?_
      rw [if_pos (by simpa using e342)] at q
      exact q
    · refine n_kpush (z := 0) (p' := 346) n_i345 rfl rfl rfl rfl ?_
      refine n_kgoto (p' := 350) n_i346 (by decide) ?_
      refine n_kadd (p' := 351) n_i350 rfl ?_
      refine n_kis (p' := 353) (vl' := [_, _, _, _, _, _, _, _, _, _, _, _, _, _, _, _, _]) n_i351 rfl n_mx rfl rfl rfl ?_
      refine n_kinc (p' := 356) (vl' := [_, _, _, _, _, _, _, _, _, _, _, _, _, _, _, _, _]) n_i353 rfl n_mx rfl rfl rfl ?_
      refine n_kgoto (p' := 327) n_i356 (by decide) ?_
      rw [if_neg (by simpa using e342)] at q
      exact q
end
