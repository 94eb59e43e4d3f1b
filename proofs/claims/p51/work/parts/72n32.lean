/-! needs: n31. Even scores in the law (wip/p51/gen_n32.py) -/
def n_tp (M : Int → Int → Int) (f i : Int) : Bool := decide (0 ≤ M f i)
def n_tw (G : Nat → Int → Int) (M : Int → Int → Int) (f i : Int) : Int := if 0 ≤ M f i then n_ev G M f i else 0
def n_lo (G : Nat → Int → Int) (M : Int → Int → Int) (f : Int) : Nat → Int
  | 0 => 9999
  | k + 1 => if 0 ≤ M f k ∧ n_ev G M f k < n_lo G M f k then n_ev G M f k else n_lo G M f k
def n_hi (G : Nat → Int → Int) (M : Int → Int → Int) (f : Int) : Nat → Int
  | 0 => -9999
  | k + 1 => if 0 ≤ M f k ∧ n_hi G M f k < n_ev G M f k then n_ev G M f k else n_hi G M f k
theorem n_lohi {G : Nat → Int → Int} {M : Int → Int → Int} {f : Int} : ∀ k : Nat, (∀ i : Int, 0 ≤ i → i < k → 0 ≤ M f i → -50 ≤ n_ev G M f i ∧ n_ev G M f i ≤ 150) → -50 ≤ n_lo G M f k ∧ n_lo G M f k ≤ 9999 ∧ -9999 ≤ n_hi G M f k ∧ n_hi G M f k ≤ 150
  | 0, _ => ⟨by show (-50 : Int) ≤ 9999; decide, Int.le_refl _, Int.le_refl _, by show (-9999 : Int) ≤ 150; decide⟩
  | k + 1, h => by
    have ih := n_lohi (G := G) (M := M) (f := f) k (fun i i0 i1 => h i i0 (by omega))
    have hk := h k (by omega) (by omega)
    rw [n_lo, n_hi]
    split <;> split <;> omega
section
variable {P : Value → AH → Prop} {F R : Nat} {b : Nat} {A G : Nat → Int → Int} {M : Int → Int → Int}
theorem n_evens {f : Nat} (hf : f < F) (hR : 2 ≤ R ∧ R ≤ 5) (hF : 2 ≤ F ∧ F ≤ 7) (g0 : G 0 0 = F) (g1 : G 0 1 = R) (hP : n_Pt F A) (hC : n_Ce F R A G M) (hS : ∀ i : Int, 0 ≤ i → i < R → A (7 + 2 * F) i = G 4 i ∧ A (8 + 2 * F) i = G 3 i ∧ 0 ≤ G 3 i ∧ G 3 i ≤ 8 ∧ 0 ≤ G 4 i ∧ G 4 i ≤ 100 * G 3 i) (hx : n_J 12 96 P (n_T F) (n_l F R) 1081 [.ref 0, .ref 1, n_v 1, n_v R, n_v F, n_p 0, n_p 1, n_p 2, n_p 3, n_p 4, n_p 5, n_p (6 + F), n_p (7 + 2 * F), n_p (8 + 2 * F), n_p (9 + 2 * F), n_p (10 + 2 * F), n_p (11 + 2 * F), n_v f, n_v (zsum (n_tw G M f) R 0), n_v (zcnt (n_tp M f) R 0), n_v (n_lo G M f R), n_v (n_hi G M f R), n_v R] [] (12 + 2 * F) A (n_K G M) b) : ∀ (j k : Nat), k + j = R → n_J 12 96 P (n_T F) (n_l F R) 970 [.ref 0, .ref 1, n_v 1, n_v R, n_v F, n_p 0, n_p 1, n_p 2, n_p 3, n_p 4, n_p 5, n_p (6 + F), n_p (7 + 2 * F), n_p (8 + 2 * F), n_p (9 + 2 * F), n_p (10 + 2 * F), n_p (11 + 2 * F), n_v f, n_v (zsum (n_tw G M f) k 0), n_v (zcnt (n_tp M f) k 0), n_v (n_lo G M f k), n_v (n_hi G M f k), n_v (k : Int)] [] (12 + 2 * F) A (n_K G M) (b + j) := by
  intro j
  induction j with
  | zero =>
    intro k kj
    obtain rfl : k = R := by omega
    refine n_kil (p' := 972) n_i970 rfl rfl ?_
    refine n_kiln (p' := 973) n_i972 rfl rfl ?_
    refine n_c2ge (t := 1081) (p' := 976) n_i973 (by decide) rfl ⟨by omega, by omega⟩ ⟨by omega, by omega⟩ (fun e => ?_) (fun e => absurd e (by omega))
    exact hx
  | succ j ih =>
    intro k kj
    have hc := hC f hf k (by omega) (by omega)
    have hk := hS k (by omega) (by omega)
    have evb : ∀ i : Int, 0 ≤ i → i < R → 0 ≤ M f i → -50 ≤ n_ev G M f i ∧ n_ev G M f i ≤ 150 := fun i i0 i1 hm => by
      have c := hC f hf i i0 i1
      have s := hS i i0 i1
      have t := n_tdivb s.2.2.2.2.1 s.2.2.2.2.2 (by omega)
      unfold n_ev
      omega
    have hlh := n_lohi (G := G) (M := M) (f := f) k (fun i i0 i1 => evb i i0 (by omega))
    have q := ih (k + 1) (by omega)
    rw [zsum_app, zcnt_app, n_lo, n_hi, Int.zero_add] at q
    refine n_J.le (b' := b + j + 1) ?_ (by omega)
    refine n_kil (p' := 972) n_i970 rfl rfl ?_
    refine n_kiln (p' := 973) n_i972 rfl rfl ?_
    refine n_c2ge (t := 1081) (p' := 976) n_i973 (by decide) rfl ⟨by omega, by omega⟩ ⟨by omega, by omega⟩ (fun e => absurd e (by omega)) (fun e => ?_)
    refine n_kal (p' := 978) n_i976 rfl rfl ?_
    refine n_kil (p' := 980) n_i978 rfl rfl ?_
    refine n_kaald (p' := 981) (r := 7 + F + f) n_i980 (by omega) (Or.inl n_T7) (by omega) (by rw [n_l7]; omega) (by rw [n_l7]; omega) (hP f hf).2 rfl ?_
    refine n_kil (p' := 983) n_i981 rfl rfl ?_
    refine n_kiald (p' := 984) n_i983 (by omega) (n_T8 hf) (by omega) (by rw [(n_l8 hf)]; omega) (by rw [(n_l8 hf)]; omega) rfl ?_
    refine n_c1lt (t := 1075) (p' := 987) n_i984 (by decide) rfl ⟨by omega, by omega⟩ (fun e984 => ?_) (fun e984 => ?_)
    · refine n_kinc (p' := 1078) (vl' := [_, _, _, _, _, _, _, _, _, _, _, _, _, _, _, _, _, _, _, _, _, _, _]) n_i1075 rfl n_mx rfl rfl rfl ?_
      refine n_kgoto (p' := 970) n_i1078 (by decide) ?_
      have hm : ¬ 0 ≤ M f k := by omega
      have w1 : n_tw G M f k = 0 := if_neg hm
      have w2 : ¬ n_tp M f k = true := fun w => hm (of_decide_eq_true w)
      rw [w1, if_neg w2, if_neg (fun w => hm w.1), if_neg (fun w => hm w.1), Int.add_zero, Int.add_zero] at q
      exact q.le (by omega)
    · refine n_kal (p' := 989) n_i987 rfl rfl ?_
      refine n_kil (p' := 991) n_i989 rfl rfl ?_
      refine n_kaald (p' := 992) (r := 7 + F + f) n_i991 (by omega) (Or.inl n_T7) (by omega) (by rw [n_l7]; omega) (by rw [n_l7]; omega) (hP f hf).2 rfl ?_
      refine n_kil (p' := 994) n_i992 rfl rfl ?_
      refine n_kiald (p' := 995) n_i994 (by omega) (n_T8 hf) (by omega) (by rw [(n_l8 hf)]; omega) (by rw [(n_l8 hf)]; omega) rfl ?_
      refine n_kal (p' := 997) n_i995 rfl rfl ?_
      refine n_kil (p' := 999) n_i997 rfl rfl ?_
      refine n_kiald (p' := 1000) n_i999 (by omega) n_T9 (by omega) (by rw [n_l9]; omega) (by rw [n_l9]; omega) rfl ?_
      refine n_kal (p' := 1002) n_i1000 rfl rfl ?_
      refine n_kil (p' := 1004) n_i1002 rfl rfl ?_
      refine n_kiald (p' := 1005) n_i1004 (by omega) n_T10 (by omega) (by rw [n_l10]; omega) (by rw [n_l10]; omega) rfl ?_
      refine n_kdiv (p' := 1006) n_i1005 rfl ⟨by omega, by omega⟩ ⟨by omega, by omega⟩ (by omega) ?_
      refine n_ksub (p' := 1007) n_i1006 rfl ?_
      refine n_kpush (z := 50) (p' := 1009) n_i1007 rfl rfl (by decide +kernel) rfl ?_
      refine n_kadd (p' := 1010) n_i1009 rfl ?_
      have hm0 : 0 ≤ M f k := by omega
      have hev := evb k (by omega) (by omega) hm0
      rw [show A (7 + F + f) k - (A (7 + 2 * F) k).tdiv (A (8 + 2 * F) k) + 50 = n_ev G M f k by unfold n_ev; rw [hk.1, hk.2.1, show A (7 + F + f) k = M f k by omega]]
      refine n_kis (p' := 1012) (vl' := [_, _, _, _, _, _, _, _, _, _, _, _, _, _, _, _, _, _, _, _, _, _, _, _]) n_i1010 rfl n_mx rfl rfl rfl ?_
      refine n_kiln (p' := 1013) n_i1012 rfl rfl ?_
      refine n_kaln (p' := 1014) n_i1013 rfl rfl ?_
      refine n_kil (p' := 1016) n_i1014 rfl rfl ?_
      refine n_kil (p' := 1018) n_i1016 rfl rfl ?_
      refine n_o_even (p' := 1021) (v := n_ev G M f k) (K' := n_K G M) n_i1018 (Nat.le_of_ble_eq_true rfl) rfl (n_fit88 ⟨by omega, by omega⟩ ⟨by omega, by omega⟩) (fun S hS => ⟨S, k_even hS (by omega) (by rw [g0]; omega) (by omega) (by omega) (by omega) (by omega) hm0 (by omega) (by omega) (by omega), hS⟩) ?_
      refine n_kil (p' := 1023) n_i1021 rfl rfl ?_
      refine n_c2ne (t := 1030) (p' := 1026) n_i1023 (by decide) rfl ⟨by omega, by omega⟩ ⟨by omega, by omega⟩ (fun e => absurd rfl e) (fun e => ?_)
      refine n_kpush (z := 1) (p' := 1027) n_i1026 rfl rfl rfl rfl ?_
      refine n_kgoto (p' := 1031) n_i1027 (by decide) ?_
      refine n_kand (p' := 1032) n_i1031 rfl ?_
      refine n_kisn (p' := 1033) (vl' := [_, _, _, _, _, _, _, _, _, _, _, _, _, _, _, _, _, _, _, _, _, _, _, _]) n_i1032 rfl n_mx rfl rfl rfl ?_
      refine n_kil (p' := 1035) n_i1033 rfl rfl ?_
      refine n_kil (p' := 1037) n_i1035 rfl rfl ?_
      refine n_kadd (p' := 1038) n_i1037 rfl ?_
      refine n_kis (p' := 1040) (vl' := [_, _, _, _, _, _, _, _, _, _, _, _, _, _, _, _, _, _, _, _, _, _, _, _]) n_i1038 rfl n_mx rfl rfl rfl ?_
      refine n_kinc (p' := 1043) (vl' := [_, _, _, _, _, _, _, _, _, _, _, _, _, _, _, _, _, _, _, _, _, _, _, _]) n_i1040 rfl n_mx rfl rfl rfl ?_
      refine n_kil (p' := 1045) n_i1043 rfl rfl ?_
      refine n_kil (p' := 1047) n_i1045 rfl rfl ?_
      refine n_c2ge (t := 1055) (p' := 1050) n_i1047 (by decide) rfl ⟨by omega, by omega⟩ ⟨by omega, by omega⟩ (fun e1047 => ?_) (fun e1047 => ?_)
      · refine n_kil (p' := 1057) n_i1055 rfl rfl ?_
        refine n_kis (p' := 1059) (vl' := [_, _, _, _, _, _, _, _, _, _, _, _, _, _, _, _, _, _, _, _, _, _, _, _]) n_i1057 rfl n_mx rfl rfl rfl ?_
        refine n_kil (p' := 1061) n_i1059 rfl rfl ?_
        refine n_kil (p' := 1063) n_i1061 rfl rfl ?_
        refine n_c2le (t := 1071) (p' := 1066) n_i1063 (by decide) rfl ⟨by omega, by omega⟩ ⟨by omega, by omega⟩ (fun e1063 => ?_) (fun e1063 => ?_)
        · refine n_kil (p' := 1073) n_i1071 rfl rfl ?_
          refine n_kis (p' := 1075) (vl' := [_, _, _, _, _, _, _, _, _, _, _, _, _, _, _, _, _, _, _, _, _, _, _, _]) n_i1073 rfl n_mx rfl rfl rfl ?_
          refine n_kinc (p' := 1078) (vl' := [_, _, _, _, _, _, _, _, _, _, _, _, _, _, _, _, _, _, _, _, _, _, _, _]) n_i1075 rfl n_mx rfl rfl rfl ?_
          refine n_kgoto (p' := 970) n_i1078 (by decide) ?_
          have hm : 0 ≤ M f k := by omega
          have w1 : n_tw G M f k = n_ev G M f k := if_pos hm
          have w2 : n_tp M f k = true := decide_eq_true hm
          rw [w1, if_pos w2, if_neg (fun w => absurd w.2 (by omega)), if_neg (fun w => absurd w.2 (by omega))] at q
          exact n_J.pre (vr := [_]) q
        · refine n_kil (p' := 1068) n_i1066 rfl rfl ?_
          refine n_kgoto (p' := 1073) n_i1068 (by decide) ?_
          refine n_kis (p' := 1075) (vl' := [_, _, _, _, _, _, _, _, _, _, _, _, _, _, _, _, _, _, _, _, _, _, _, _]) n_i1073 rfl n_mx rfl rfl rfl ?_
          refine n_kinc (p' := 1078) (vl' := [_, _, _, _, _, _, _, _, _, _, _, _, _, _, _, _, _, _, _, _, _, _, _, _]) n_i1075 rfl n_mx rfl rfl rfl ?_
          refine n_kgoto (p' := 970) n_i1078 (by decide) ?_
          have hm : 0 ≤ M f k := by omega
          have w1 : n_tw G M f k = n_ev G M f k := if_pos hm
          have w2 : n_tp M f k = true := decide_eq_true hm
          rw [w1, if_pos w2, if_neg (fun w => absurd w.2 (by omega)), if_pos ⟨hm, e1063⟩] at q
          exact n_J.pre (vr := [_]) q
      · refine n_kil (p' := 1052) n_i1050 rfl rfl ?_
        refine n_kgoto (p' := 1057) n_i1052 (by decide) ?_
        refine n_kis (p' := 1059) (vl' := [_, _, _, _, _, _, _, _, _, _, _, _, _, _, _, _, _, _, _, _, _, _, _, _]) n_i1057 rfl n_mx rfl rfl rfl ?_
        refine n_kil (p' := 1061) n_i1059 rfl rfl ?_
        refine n_kil (p' := 1063) n_i1061 rfl rfl ?_
        refine n_c2le (t := 1071) (p' := 1066) n_i1063 (by decide) rfl ⟨by omega, by omega⟩ ⟨by omega, by omega⟩ (fun e1063 => ?_) (fun e1063 => ?_)
        · refine n_kil (p' := 1073) n_i1071 rfl rfl ?_
          refine n_kis (p' := 1075) (vl' := [_, _, _, _, _, _, _, _, _, _, _, _, _, _, _, _, _, _, _, _, _, _, _, _]) n_i1073 rfl n_mx rfl rfl rfl ?_
          refine n_kinc (p' := 1078) (vl' := [_, _, _, _, _, _, _, _, _, _, _, _, _, _, _, _, _, _, _, _, _, _, _, _]) n_i1075 rfl n_mx rfl rfl rfl ?_
          refine n_kgoto (p' := 970) n_i1078 (by decide) ?_
          have hm : 0 ≤ M f k := by omega
          have w1 : n_tw G M f k = n_ev G M f k := if_pos hm
          have w2 : n_tp M f k = true := decide_eq_true hm
          rw [w1, if_pos w2, if_pos ⟨hm, e1047⟩, if_neg (fun w => absurd w.2 (by omega))] at q
          exact n_J.pre (vr := [_]) q
        · refine n_kil (p' := 1068) n_i1066 rfl rfl ?_
          refine n_kgoto (p' := 1073) n_i1068 (by decide) ?_
          refine n_kis (p' := 1075) (vl' := [_, _, _, _, _, _, _, _, _, _, _, _, _, _, _, _, _, _, _, _, _, _, _, _]) n_i1073 rfl n_mx rfl rfl rfl ?_
          refine n_kinc (p' := 1078) (vl' := [_, _, _, _, _, _, _, _, _, _, _, _, _, _, _, _, _, _, _, _, _, _, _, _]) n_i1075 rfl n_mx rfl rfl rfl ?_
          refine n_kgoto (p' := 970) n_i1078 (by decide) ?_
          have hm : 0 ≤ M f k := by omega
          have w1 : n_tw G M f k = n_ev G M f k := if_pos hm
          have w2 : n_tp M f k = true := decide_eq_true hm
          rw [w1, if_pos w2, if_pos ⟨hm, e1047⟩, if_pos ⟨hm, e1063⟩] at q
          exact n_J.pre (vr := [_]) q
end
