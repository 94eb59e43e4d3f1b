/-! needs: n28. The law, third stage: telling (wip/p51/gen_n29.py) -/
def n_Fl (F : Nat) (A G : Nat → Int → Int) : Prop := ∀ g : Nat, g < F → (1 ≤ A 2 (g : Int) ∧ A 2 (g : Int) ≤ 300 ∧ G 5 (g : Int) = A 2 (g : Int)) ∧ ((A 3 (g : Int) = 102 ∨ A 3 (g : Int) = 100) ∧ G 6 (g : Int) = A 3 (g : Int)) ∧ (0 ≤ A 4 (g : Int) ∧ A 4 (g : Int) ≤ 3 ∧ G 8 (g : Int) = A 4 (g : Int))
def n_Pt (F : Nat) (A : Nat → Int → Int) : Prop := ∀ j : Nat, j < F → A 5 (j : Int) = ((z_N0 + (6 + j) : Nat) : Int) ∧ A (6 + F) (j : Int) = ((z_N0 + (7 + F + j) : Nat) : Int)
def n_Ce (F R : Nat) (A G : Nat → Int → Int) (M : Int → Int → Int) : Prop := ∀ g : Nat, g < F → ∀ i : Int, 0 ≤ i → i < R → (A (6 + g) i = 0 ∧ M g i = -2 ∧ A (7 + F + g) i = -1) ∨ (A (6 + g) i = 1 ∧ M g i = -1 ∧ A (7 + F + g) i = -1) ∨ (A (6 + g) i = 1 ∧ 0 ≤ M g i ∧ M g i ≤ 100 ∧ A (7 + F + g) i = M g i ∧ 1 ≤ G 3 i)
def n_I3 (F R f : Nat) (k : Int) (A G : Nat → Int → Int) (M : Int → Int → Int) : Prop := (G 0 0 = F ∧ G 0 1 = R ∧ G 0 2 = 0) ∧ n_Fl F A G ∧ n_Pt F A ∧ n_Ce F R A G M ∧ (∀ i : Int, 0 ≤ i → i < R → A (7 + 2 * F) i = G 4 i ∧ A (8 + 2 * F) i = G 3 i ∧ 0 ≤ G 3 i ∧ G 3 i ≤ (if i < k then (f : Int) + 1 else f) ∧ 0 ≤ G 4 i ∧ G 4 i ≤ 100 * G 3 i) ∧ (∀ g : Nat, g < F → ∀ i : Int, 0 ≤ i → i < R → (f < g ∨ (f = g ∧ k ≤ i)) → M g i < 0) ∧ ∀ g : Int, G 9 g = -1
theorem n_I3.skip {F R f : Nat} {k : Int} {A G : Nat → Int → Int} {M : Int → Int → Int} (h : n_I3 F R f k A G M) : n_I3 F R f (k + 1) A G M := by
  obtain ⟨h1, h2, h3, h4, h5, h6, h7⟩ := h
  refine ⟨h1, h2, h3, h4, fun i i0 i1 => ?_, fun g g0 i i0 i1 q => h6 g g0 i i0 i1 (by omega), h7⟩
  obtain ⟨q1, q2, q3, q4, q5, q6⟩ := h5 i i0 i1
  refine ⟨q1, q2, q3, ?_, q5, q6⟩
  split at q4 <;> split <;> omega
theorem n_tcnt {M : Int → Int → Int} {f k its : Int} {R : Nat} (k0 : 0 ≤ k) (k1 : k < R) (i0 : 0 ≤ its) (hn : M f k = -1) : zcnt (fun i => decide (0 ≤ n_tM M f k its f i)) R 0 = zcnt (fun i => decide (0 ≤ M f i)) R 0 + 1 := by
  rw [zcnt_one (p := fun i => decide (0 ≤ n_tM M f k its f i)) (b := k) (by rw [n_tM_at, if_pos ⟨rfl, rfl⟩]; simpa using i0) R 0 k0 (by omega)]
  congr 1
  refine zcnt_cg R 0 (fun i _ _ => ?_)
  rw [n_tM_at]
  by_cases e : i = k
  · rw [e, hn]
    simp
  · simp [e]
theorem n_I3.tell {F R f : Nat} {k its : Int} {A G : Nat → Int → Int} {M : Int → Int → Int} (hf : f < F) (h : n_I3 F R f k A G M) (k0 : 0 ≤ k) (k1 : k < R) (i0 : 0 ≤ its) (i1 : its ≤ 100) (hn : M f k = -1) : n_I3 F R f (k + 1) (n_up (n_up (n_up A (7 + F + f) k its) (7 + 2 * F) k (n_up A (7 + F + f) k its (7 + 2 * F) k + its)) (8 + 2 * F) k (n_up (n_up A (7 + F + f) k its) (7 + 2 * F) k (n_up A (7 + F + f) k its (7 + 2 * F) k + its) (8 + 2 * F) k + 1)) (n_tG G k its) (n_tM M f k its) := by
  obtain ⟨h1, h2, h3, h4, h5, h6, h7⟩ := h
  have hk := h5 k k0 k1
  have e4 : n_up A (7 + F + f) k its (7 + 2 * F) k = G 4 k := by rw [n_up_ne (Or.inl (by omega))]; exact hk.1
  have e3 : n_up (n_up A (7 + F + f) k its) (7 + 2 * F) k (G 4 k + its) (8 + 2 * F) k = G 3 k := by rw [n_up_ne (Or.inl (by omega)), n_up_ne (Or.inl (by omega))]; exact hk.2.1
  rw [e4, e3]
  have low : ∀ (a : Nat) (i : Int), a ≠ 7 + F + f → a ≠ 7 + 2 * F → a ≠ 8 + 2 * F → n_up (n_up (n_up A (7 + F + f) k its) (7 + 2 * F) k (G 4 k + its)) (8 + 2 * F) k (G 3 k + 1) a i = A a i := fun a i q1 q2 q3 => by
    rw [n_up_ne (Or.inl q3), n_up_ne (Or.inl q2), n_up_ne (Or.inl q1)]
  have g3 : ∀ i, n_tG G k its 3 i = if i = k then G 3 k + 1 else G 3 i := fun i => by
    unfold n_tG
    rw [n_up_na rfl, n_up_a]
  have g4 : ∀ i, n_tG G k its 4 i = if i = k then G 4 k + its else G 4 i := fun i => by
    unfold n_tG
    rw [n_up_a]
    split
    · rfl
    · rw [n_up_na rfl]
  have go : ∀ a i, a ≠ 3 → a ≠ 4 → n_tG G k its a i = G a i := fun a i q1 q2 => by
    unfold n_tG
    rw [n_up_ne (Or.inl q2), n_up_ne (Or.inl q1)]
  refine ⟨?_, fun g hg => ?_, fun j hj => ?_, fun g hg i i0' i1' => ?_, fun i i0' i1' => ?_, fun g hg i i0' i1' q => ?_, fun g => ?_⟩
  · rw [go 0 0 (by decide) (by decide), go 0 1 (by decide) (by decide), go 0 2 (by decide) (by decide)]
    exact h1
  · rw [low 2 _ (by omega) (by omega) (by omega), low 3 _ (by omega) (by omega) (by omega), low 4 _ (by omega) (by omega) (by omega), go 5 _ (by decide) (by decide), go 6 _ (by decide) (by decide), go 8 _ (by decide) (by decide)]
    exact h2 g hg
  · rw [low 5 _ (by omega) (by omega) (by omega), low (6 + F) _ (by omega) (by omega) (by omega)]
    exact h3 j hj
  · rw [low (6 + g) _ (by omega) (by omega) (by omega), n_up_ne (a := 8 + 2 * F) (Or.inl (by omega)), n_up_ne (a := 7 + 2 * F) (Or.inl (by omega)), n_tM_at, g3]
    have c := h4 g hg i i0' i1'
    have hk3 := hk.2.2.1
    by_cases e : g = f
    · subst e
      by_cases e2 : i = k
      · subst e2
        rw [n_up_eq, if_pos ⟨rfl, rfl⟩, if_pos rfl]
        rcases c with c | c | c
        · omega
        · exact Or.inr (Or.inr ⟨c.1, i0, i1, rfl, by omega⟩)
        · omega
      · rw [n_up_ne (Or.inr e2), if_neg (fun q => e2 q.2), if_neg e2]
        exact c
    · rw [n_up_ne (Or.inl (by omega)), if_neg (by omega)]
      rcases c with c | c | c
      · exact Or.inl c
      · exact Or.inr (Or.inl c)
      · refine Or.inr (Or.inr ⟨c.1, c.2.1, c.2.2.1, c.2.2.2.1, ?_⟩)
        split
        · omega
        · exact c.2.2.2.2
  · obtain ⟨q1, q2, q3, q4, q5, q6⟩ := h5 i i0' i1'
    rw [g3, g4]
    by_cases e : i = k
    · subst e
      rw [if_neg (by omega)] at q4
      rw [n_up_ne (a' := 7 + 2 * F) (a := 8 + 2 * F) (Or.inl (by omega)), n_up_eq, n_up_eq, if_pos rfl, if_pos rfl, if_pos (by omega)]
      omega
    · rw [n_up_ne (a' := 7 + 2 * F) (a := 8 + 2 * F) (Or.inl (by omega)), n_up_ne (a' := 7 + 2 * F) (a := 7 + 2 * F) (Or.inr e), n_up_ne (a' := 7 + 2 * F) (Or.inl (by omega)), n_up_ne (a' := 8 + 2 * F) (a := 8 + 2 * F) (Or.inr e), n_up_ne (a' := 8 + 2 * F) (Or.inl (by omega)), n_up_ne (a' := 8 + 2 * F) (Or.inl (by omega)), if_neg e, if_neg e]
      refine ⟨q1, q2, q3, ?_, q5, q6⟩
      split at q4 <;> split <;> omega
  · rw [n_tM_at, if_neg (by omega)]
    exact h6 g hg i i0' i1' (by omega)
  · rw [go 9 _ (by decide) (by decide)]
    exact h7 g
section
variable {P : Value → AH → Prop} {F R : Nat} {b : Nat}
theorem n_reads {f : Nat} (hf : f < F) (hR : 2 ≤ R ∧ R ≤ 5) (hF : 2 ≤ F ∧ F ≤ 7) (hx : ∀ A G M many, n_I3 F R f R A G M → n_J 12 96 P (n_T F) (n_l F R) 917 [.ref 0, .ref 1, n_v 1, n_v R, n_v F, n_p 0, n_p 1, n_p 2, n_p 3, n_p 4, n_p 5, n_p (6 + F), n_p (7 + 2 * F), n_p (8 + 2 * F), n_v f, n_v many, n_v R] [] (9 + 2 * F) A (n_K G M) b) : ∀ (j : Nat) (k : Int) (A G : Nat → Int → Int) (M : Int → Int → Int), 0 ≤ k → k + j = R → n_I3 F R f k A G M → n_J 12 96 P (n_T F) (n_l F R) 715 [.ref 0, .ref 1, n_v 1, n_v R, n_v F, n_p 0, n_p 1, n_p 2, n_p 3, n_p 4, n_p 5, n_p (6 + F), n_p (7 + 2 * F), n_p (8 + 2 * F), n_v f, n_v (zcnt (fun i => decide (0 ≤ M f i)) R 0), n_v k] [] (9 + 2 * F) A (n_K G M) (b + j * 2) := by
  intro j
  induction j with
  | zero =>
    intro k A G M k0 kj h
    obtain rfl : k = R := by omega
    refine n_J.le (b' := b) ?_ (by omega)
    refine n_kil (p' := 717) n_i715 rfl rfl ?_
    refine n_kiln (p' := 718) n_i717 rfl rfl ?_
    refine n_c2ge (t := 917) (p' := 721) n_i718 (by decide) rfl ⟨by omega, by omega⟩ ⟨by omega, by omega⟩ (fun e => ?_) (fun e => absurd e (by omega))
    exact hx A G M _ h
  | succ j ih =>
    intro k A G M k0 kj h
    obtain ⟨⟨g1, g2, g3⟩, h2, hP, h4, h5, h6, h7⟩ := id h
    have hc := h4 f hf k k0 (by omega)
    have hm := h6 f hf k k0 (by omega) (Or.inr ⟨rfl, Int.le_refl _⟩)
    have hk := h5 k k0 (by omega)
    rw [if_neg (Int.lt_irrefl k)] at hk
    refine n_J.le (b' := b + j * 2 + 1 + 1) ?_ (by omega)
    refine n_kil (p' := 717) n_i715 rfl rfl ?_
    refine n_kiln (p' := 718) n_i717 rfl rfl ?_
    refine n_c2ge (t := 917) (p' := 721) n_i718 (by decide) rfl ⟨by omega, by omega⟩ ⟨by omega, by omega⟩ (fun e => absurd e (by omega)) (fun e => ?_)
    refine n_kaln (p' := 722) n_i721 rfl rfl ?_
    refine n_kpush (z := 80) (p' := 724) n_i722 rfl rfl (by decide +kernel) rfl ?_
    refine n_kpush (z := 8) (p' := 726) n_i724 rfl rfl (by decide +kernel) rfl ?_
    refine n_kil (p' := 728) n_i726 rfl rfl ?_
    refine n_kmul (p' := 729) n_i728 rfl ?_
    refine n_kadd (p' := 730) n_i729 rfl ?_
    refine n_kil (p' := 732) n_i730 rfl rfl ?_
    refine n_kadd (p' := 733) n_i732 rfl ?_
    refine n_kpush (z := 101) (p' := 735) n_i733 rfl rfl (by decide +kernel) rfl ?_
    refine n_kin (p' := 738) n_i735 (n_ain (Nat.le_of_ble_eq_true rfl)) (by decide) (by omega) (by omega) (by decide) (by decide) rfl (fun its its0 its1 => ?_)
    refine n_kis (p' := 740) (vl' := [_, _, _, _, _, _, _, _, _, _, _, _, _, _, _, _, _, _]) n_i738 rfl n_mx rfl rfl rfl ?_
    refine n_kal (p' := 742) n_i740 rfl rfl ?_
    refine n_kil (p' := 744) n_i742 rfl rfl ?_
    refine n_kaald (p' := 745) (r := 6 + f) n_i744 (by omega) (Or.inr n_T5) (by omega) (by rw [n_l5]; omega) (by rw [n_l5]; omega) (hP f hf).1 rfl ?_
    refine n_kil (p' := 747) n_i745 rfl rfl ?_
    refine n_kbald (p' := 748) n_i747 (by omega) (n_T6 hf) (by omega) (by rw [(n_l6 hf)]; omega) (by rw [(n_l6 hf)]; omega) rfl ?_
    refine n_c1eq (t := 775) (p' := 751) n_i748 (by decide) rfl ⟨by omega, by omega⟩ (fun e748 => ?_) (fun e748 => ?_)
    · refine n_kpush (z := 0) (p' := 776) n_i775 rfl rfl rfl rfl ?_
      refine n_kis (p' := 778) (vl' := [_, _, _, _, _, _, _, _, _, _, _, _, _, _, _, _, _, _, _]) n_i776 rfl n_mx rfl rfl rfl ?_
      refine n_kil (p' := 780) n_i778 rfl rfl ?_
      refine n_c1eq (t := 856) (p' := 783) n_i780 (by decide) rfl ⟨by omega, by omega⟩ (fun e => ?_) (fun e => absurd e (by decide))
      refine n_kiln (p' := 857) n_i856 rfl rfl ?_
      refine n_kal (p' := 859) n_i857 rfl rfl ?_
      refine n_kil (p' := 861) n_i859 rfl rfl ?_
      refine n_kaald (p' := 862) (r := 6 + f) n_i861 (by omega) (Or.inr n_T5) (by omega) (by rw [n_l5]; omega) (by rw [n_l5]; omega) (hP f hf).1 rfl ?_
      refine n_kil (p' := 864) n_i862 rfl rfl ?_
      refine n_kbald (p' := 865) n_i864 (by omega) (n_T6 hf) (by omega) (by rw [(n_l6 hf)]; omega) (by rw [(n_l6 hf)]; omega) rfl ?_
      refine n_c1eq (t := 889) (p' := 868) n_i865 (by decide) rfl ⟨by omega, by omega⟩ (fun e => ?_) (fun e => absurd e (by omega))
      refine n_kaln (p' := 890) n_i889 rfl rfl ?_
      refine n_kil (p' := 892) n_i890 rfl rfl ?_
      refine n_kil (p' := 894) n_i892 rfl rfl ?_
      refine n_kil (p' := 896) n_i894 rfl rfl ?_
      refine n_o_read (p' := 899) (v := -900003) (K' := n_K G M) n_i896 (Nat.le_of_ble_eq_true rfl) rfl (n_fit87 ⟨by omega, by omega⟩ ⟨by omega, by omega⟩ ⟨by omega, by omega⟩) (fun S hS => ⟨S, (k_read (R := R) hS (by omega) (by rw [g1]; omega) (by omega) k0 (by omega) g2 (by omega) its0 (by omega) (by omega) (by omega)).1 (by omega), hS⟩) ?_
      refine n_kldc (z := (-900003)) (p' := 901) n_i899 (by decide +kernel) rfl ?_
      refine n_c2ne (t := 908) (p' := 904) n_i901 (by decide) rfl ⟨by omega, by omega⟩ ⟨by omega, by omega⟩ (fun e => absurd rfl e) (fun e => ?_)
      refine n_kpush (z := 1) (p' := 905) n_i904 rfl rfl rfl rfl ?_
      refine n_kgoto (p' := 909) n_i905 (by decide) ?_
      refine n_kand (p' := 910) n_i909 rfl ?_
      refine n_kisn (p' := 911) (vl' := [_, _, _, _, _, _, _, _, _, _, _, _, _, _, _, _, _, _, _]) n_i910 rfl n_mx rfl rfl rfl ?_
      refine n_kinc (p' := 914) (vl' := [_, _, _, _, _, _, _, _, _, _, _, _, _, _, _, _, _, _, _]) n_i911 rfl n_mx rfl rfl rfl ?_
      refine n_kgoto (p' := 715) n_i914 (by decide) ?_
      exact n_J.pre (vr := [_, _]) ((ih (k + 1) A G M (by omega) (by omega) h.skip).le (by omega))
    · refine n_kaln (p' := 752) n_i751 rfl rfl ?_
      refine n_kpush (z := 150) (p' := 755) n_i752 rfl rfl (by decide +kernel) rfl ?_
      refine n_kpush (z := 8) (p' := 757) n_i755 rfl rfl (by decide +kernel) rfl ?_
      refine n_kil (p' := 759) n_i757 rfl rfl ?_
      refine n_kmul (p' := 760) n_i759 rfl ?_
      refine n_kadd (p' := 761) n_i760 rfl ?_
      refine n_kil (p' := 763) n_i761 rfl rfl ?_
      refine n_kadd (p' := 764) n_i763 rfl ?_
      refine n_kpush (z := 5) (p' := 765) n_i764 rfl rfl rfl rfl ?_
      refine n_kin (p' := 768) n_i765 (n_ain (Nat.le_of_ble_eq_true rfl)) (by decide) (by omega) (by omega) (by decide) (by decide) rfl (fun zt zt0 zt1 => ?_)
      refine n_c1le (t := 775) (p' := 771) n_i768 (by decide) rfl ⟨by omega, by omega⟩ (fun e768 => ?_) (fun e768 => ?_)
      · refine n_kpush (z := 0) (p' := 776) n_i775 rfl rfl rfl rfl ?_
        refine n_kis (p' := 778) (vl' := [_, _, _, _, _, _, _, _, _, _, _, _, _, _, _, _, _, _, _]) n_i776 rfl n_mx rfl rfl rfl ?_
        refine n_kil (p' := 780) n_i778 rfl rfl ?_
        refine n_c1eq (t := 856) (p' := 783) n_i780 (by decide) rfl ⟨by omega, by omega⟩ (fun e => ?_) (fun e => absurd e (by decide))
        refine n_kiln (p' := 857) n_i856 rfl rfl ?_
        refine n_kal (p' := 859) n_i857 rfl rfl ?_
        refine n_kil (p' := 861) n_i859 rfl rfl ?_
        refine n_kaald (p' := 862) (r := 6 + f) n_i861 (by omega) (Or.inr n_T5) (by omega) (by rw [n_l5]; omega) (by rw [n_l5]; omega) (hP f hf).1 rfl ?_
        refine n_kil (p' := 864) n_i862 rfl rfl ?_
        refine n_kbald (p' := 865) n_i864 (by omega) (n_T6 hf) (by omega) (by rw [(n_l6 hf)]; omega) (by rw [(n_l6 hf)]; omega) rfl ?_
        refine n_c1eq (t := 889) (p' := 868) n_i865 (by decide) rfl ⟨by omega, by omega⟩ (fun e => absurd e (by omega)) (fun e => ?_)
        refine n_kaln (p' := 869) n_i868 rfl rfl ?_
        refine n_kil (p' := 871) n_i869 rfl rfl ?_
        refine n_kil (p' := 873) n_i871 rfl rfl ?_
        refine n_o_even (p' := 876) (v := -900002) (K' := n_K G M) n_i873 (Nat.le_of_ble_eq_true rfl) rfl (n_fit88 ⟨by omega, by omega⟩ ⟨by omega, by omega⟩) (fun S hS => ⟨S, k_evenNone hS (by omega) (by rw [g1]; omega) (by omega) k0 (by omega) (by omega) hm, hS⟩) ?_
        refine n_kldc (z := (-900002)) (p' := 878) n_i876 (by decide +kernel) rfl ?_
        refine n_c2ne (t := 885) (p' := 881) n_i878 (by decide) rfl ⟨by omega, by omega⟩ ⟨by omega, by omega⟩ (fun e => absurd rfl e) (fun e => ?_)
        refine n_kpush (z := 1) (p' := 882) n_i881 rfl rfl rfl rfl ?_
        refine n_kgoto (p' := 909) n_i882 (by decide) ?_
        refine n_kand (p' := 910) n_i909 rfl ?_
        refine n_kisn (p' := 911) (vl' := [_, _, _, _, _, _, _, _, _, _, _, _, _, _, _, _, _, _, _]) n_i910 rfl n_mx rfl rfl rfl ?_
        refine n_kinc (p' := 914) (vl' := [_, _, _, _, _, _, _, _, _, _, _, _, _, _, _, _, _, _, _]) n_i911 rfl n_mx rfl rfl rfl ?_
        refine n_kgoto (p' := 715) n_i914 (by decide) ?_
        exact n_J.pre (vr := [_, _]) ((ih (k + 1) A G M (by omega) (by omega) h.skip).le (by omega))
      · refine n_kpush (z := 1) (p' := 772) n_i771 rfl rfl rfl rfl ?_
        refine n_kgoto (p' := 776) n_i772 (by decide) ?_
        refine n_kis (p' := 778) (vl' := [_, _, _, _, _, _, _, _, _, _, _, _, _, _, _, _, _, _, _]) n_i776 rfl n_mx rfl rfl rfl ?_
        refine n_kil (p' := 780) n_i778 rfl rfl ?_
        refine n_c1eq (t := 856) (p' := 783) n_i780 (by decide) rfl ⟨by omega, by omega⟩ (fun e => absurd e (by decide)) (fun e => ?_)
        refine n_kal (p' := 785) n_i783 rfl rfl ?_
        refine n_kil (p' := 787) n_i785 rfl rfl ?_
        refine n_kaald (p' := 788) (r := 7 + F + f) n_i787 (by omega) (Or.inl n_T7) (by omega) (by rw [n_l7]; omega) (by rw [n_l7]; omega) (hP f hf).2 rfl ?_
        refine n_kil (p' := 790) n_i788 rfl rfl ?_
        refine n_kil (p' := 792) n_i790 rfl rfl ?_
        refine n_kiast (p' := 793) n_K_cl n_i792 (by omega) (n_T8 hf) (by omega) (by rw [(n_l8 hf)]; omega) (by rw [(n_l8 hf)]; omega) rfl ?_
        refine n_kal (p' := 795) n_i793 rfl rfl ?_
        refine n_kil (p' := 797) n_i795 rfl rfl ?_
        refine n_kdup2 (p' := 798) n_i797 ⟨rfl, rfl⟩ rfl ?_
        refine n_kiald (p' := 799) n_i798 (by omega) n_T9 (by omega) (by rw [n_l9]; omega) (by rw [n_l9]; omega) rfl ?_
        refine n_kil (p' := 801) n_i799 rfl rfl ?_
        refine n_kadd (p' := 802) n_i801 rfl ?_
        refine n_kiast (p' := 803) n_K_cl n_i802 (by omega) n_T9 (by omega) (by rw [n_l9]; omega) (by rw [n_l9]; omega) rfl ?_
        refine n_kal (p' := 805) n_i803 rfl rfl ?_
        refine n_kil (p' := 807) n_i805 rfl rfl ?_
        refine n_kdup2 (p' := 808) n_i807 ⟨rfl, rfl⟩ rfl ?_
        refine n_kiald (p' := 809) n_i808 (by omega) n_T10 (by omega) (by rw [n_l10]; omega) (by rw [n_l10]; omega) rfl ?_
        refine n_kpush (z := 1) (p' := 810) n_i809 rfl rfl rfl rfl ?_
        refine n_kadd (p' := 811) n_i810 rfl ?_
        refine n_kiast (p' := 812) n_K_cl n_i811 (by omega) n_T10 (by omega) (by rw [n_l10]; omega) (by rw [n_l10]; omega) rfl ?_
        refine n_kinc (p' := 815) (vl' := [_, _, _, _, _, _, _, _, _, _, _, _, _, _, _, _, _, _, _]) n_i812 rfl n_mx rfl rfl rfl ?_
        refine n_kiln (p' := 816) n_i815 rfl rfl ?_
        refine n_kaln (p' := 817) n_i816 rfl rfl ?_
        refine n_kil (p' := 819) n_i817 rfl rfl ?_
        refine n_kil (p' := 821) n_i819 rfl rfl ?_
        refine n_kil (p' := 823) n_i821 rfl rfl ?_
        refine n_o_read (p' := 826) (v := zcnt (fun i => decide (0 ≤ M f i)) R 0 + 1) (K' := n_K (n_tG G k its) (n_tM M f k its)) n_i823 (Nat.le_of_ble_eq_true rfl) rfl (n_fit87 ⟨by omega, by omega⟩ ⟨by omega, by omega⟩ ⟨by omega, by omega⟩) (fun S hS => (k_read (R := R) hS (by omega) (by rw [g1]; omega) (by omega) k0 (by omega) g2 (by omega) its0 (by omega) (by omega) (by omega)).2 (by omega)) ?_
        have hzc := zcnt_le (fun i => decide (0 ≤ M f i)) R 0
        refine n_kil (p' := 828) n_i826 rfl rfl ?_
        refine n_c2ne (t := 850) (p' := 831) n_i828 (by decide) rfl ⟨by omega, by omega⟩ ⟨by omega, by omega⟩ (fun e => absurd rfl e) (fun e => ?_)
        refine n_kaln (p' := 832) n_i831 rfl rfl ?_
        refine n_kil (p' := 834) n_i832 rfl rfl ?_
        refine n_kil (p' := 836) n_i834 rfl rfl ?_
        refine n_kil (p' := 838) n_i836 rfl rfl ?_
        refine n_o_read (p' := 841) (v := -900003) (K' := n_K (n_tG G k its) (n_tM M f k its)) n_i838 (Nat.le_of_ble_eq_true rfl) rfl (n_fit87 ⟨by omega, by omega⟩ ⟨by omega, by omega⟩ ⟨by omega, by omega⟩) (fun S hS => ⟨S, (k_read (R := R) hS (by omega) (by unfold n_tG; rw [n_up_na rfl, n_up_na rfl, g1]; omega) (by unfold n_tG; rw [n_up_na rfl, n_up_na rfl, g1]; omega) k0 (by omega) (by unfold n_tG; rw [n_up_na rfl, n_up_na rfl]; exact g2) (by omega) its0 (by omega) (by unfold n_tG; rw [n_up_na rfl, n_up_eq]; omega) (by unfold n_tG; rw [n_up_eq]; omega)).1 (by rw [n_tM_at, if_pos ⟨rfl, rfl⟩]; omega), hS⟩) ?_
        refine n_kldc (z := (-900003)) (p' := 843) n_i841 (by decide +kernel) rfl ?_
        refine n_c2ne (t := 850) (p' := 846) n_i843 (by decide) rfl ⟨by omega, by omega⟩ ⟨by omega, by omega⟩ (fun e => absurd rfl e) (fun e => ?_)
        refine n_kpush (z := 1) (p' := 847) n_i846 rfl rfl rfl rfl ?_
        refine n_kgoto (p' := 851) n_i847 (by decide) ?_
        refine n_kand (p' := 852) n_i851 rfl ?_
        refine n_kisn (p' := 853) (vl' := [_, _, _, _, _, _, _, _, _, _, _, _, _, _, _, _, _, _, _]) n_i852 rfl n_mx rfl rfl rfl ?_
        refine n_kgoto (p' := 911) n_i853 (by decide) ?_
        refine n_kinc (p' := 914) (vl' := [_, _, _, _, _, _, _, _, _, _, _, _, _, _, _, _, _, _, _]) n_i911 rfl n_mx rfl rfl rfl ?_
        refine n_kgoto (p' := 715) n_i914 (by decide) ?_
        have hn : M f k = -1 := by omega
        have q := ih (k + 1) _ _ _ (by omega) (by omega) (h.tell hf k0 (by omega) its0 (show its ≤ 100 by omega) hn)
        rw [n_tcnt k0 (by omega) its0 hn] at q
        exact n_J.pre (vr := [_, _]) q
end
