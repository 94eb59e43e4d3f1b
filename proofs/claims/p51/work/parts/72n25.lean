/-! needs: n24. A film's end (wip/p51/gen_n25.py) -/
def n_Gf (G : Nat → Int → Int) (f c mt ln : Int) : Nat → Int → Int := n_up (n_up (n_up (n_up G 5 f mt) 6 f c) 7 f ln) 0 0 (f + 1)
theorem n_I2.next {F R f : Nat} {A0 A' B A : Nat → Int → Int} {G : Nat → Int → Int} {M : Int → Int → Int} {c mt ln st : Int} {s : (Int → Int) × (Int → Int)} (hf : f < F) (hF : F ≤ 7) (hR : R ≤ 5) (h : n_I2 F R f A0 G M) (hc : c = 102 ∨ c = 100) (m0 : 1 ≤ mt) (m1 : mt ≤ 300) (hlk : n_lk R f (n_up (n_up A0 2 f mt) 3 f c) A' s) (hs1 : ∀ i : Int, 0 ≤ i → i < 8 → 0 ≤ s.1 i ∧ s.1 i ≤ 3 * f + 3) (hs2 : ∀ i : Int, 0 ≤ i → i < 8 → s.2 i = -2 ∨ (s.2 i = -1 ∧ i < R)) (hs3 : ∀ i : Int, (R : Int) ≤ i → s.2 i = M f i) (b1 : ∀ i : Int, 0 ≤ i → i < R → B (7 + F + f) i = -1) (b2 : ∀ a i, a ≠ 7 + F + f → B a i = A' a i) (s0 : 0 ≤ st) (s3 : st ≤ 3) (a1 : A 4 (f : Int) = st) (a2 : ∀ a i, a ≠ 4 ∨ i ≠ (f : Int) → A a i = B a i) : n_I2 F R (f + 1) A (n_up (n_sG (n_Gf G f c mt ln) s.1) 8 f st) (n_sM M f s.2) := by
  obtain ⟨⟨g1, g2, g3⟩, hL, hD, hP, hO, hN, h9, hM8⟩ := h
  have oth : ∀ (a : Nat) (i : Int), a ≠ 1 → a ≠ 4 → a ≠ 6 + f → a ≠ 7 + F + f → A a i = n_up (n_up A0 2 f mt) 3 f c a i := fun a i q1 q2 q3 q4 => by
    rw [a2 a i (Or.inl q2), b2 a i q4]
    exact hlk.2 a i q1 q3
  have oth2 : ∀ (a : Nat) (i : Int), a ≠ 1 → a ≠ 2 → a ≠ 3 → a ≠ 4 → a ≠ 6 + f → a ≠ 7 + F + f → A a i = A0 a i := fun a i q1 q2 q3 q4 q5 q6 => by
    rw [oth a i q1 q4 q5 q6, n_up_ne (Or.inl q3), n_up_ne (Or.inl q2)]
  refine ⟨⟨?_, ?_, ?_⟩, fun i i0 i1 => ⟨?_, ?_⟩, fun i i0 i1 => ?_, fun j hj => ⟨?_, ?_⟩, fun g hg => ?_, fun g hg g20 => ?_, fun g => ?_, fun g i i0 i1 => ?_⟩
  · show n_up (n_sG (n_Gf G f c mt ln) s.1) 8 f st 0 0 = _
    rw [n_up_na rfl]
    show n_up (n_up (n_up (n_up G 5 f mt) 6 f c) 7 f ln) 0 0 ((f : Int) + 1) 0 0 = _
    rw [n_up_eq]
    omega
  · rw [n_up_na rfl]
    show n_up (n_up (n_up (n_up G 5 f mt) 6 f c) 7 f ln) 0 0 ((f : Int) + 1) 0 1 = _
    rw [n_up_ne (Or.inr (by decide)), n_up_na rfl, n_up_na rfl, n_up_na rfl]
    exact g2
  · rw [n_up_na rfl]
    show n_up (n_up (n_up (n_up G 5 f mt) 6 f c) 7 f ln) 0 0 ((f : Int) + 1) 0 2 = _
    rw [n_up_ne (Or.inr (by decide)), n_up_na rfl, n_up_na rfl, n_up_na rfl]
    exact g3
  · rw [oth2 0 i (by omega) (by omega) (by omega) (by omega) (by omega) (by omega), n_up_na rfl]
    show _ ∧ _ ∧ n_up (n_up (n_up (n_up G 5 f mt) 6 f c) 7 f ln) 0 0 ((f : Int) + 1) 1 i = _
    rw [n_up_na rfl, n_up_na rfl, n_up_na rfl, n_up_na rfl]
    exact (hL i i0 i1).1
  · rw [a2 1 i (Or.inl (by decide)), b2 1 i (by omega), (hlk.1 i i0 i1).1, n_up_na rfl]
    rfl
  · have q := hs1 i i0 i1
    have d := hD i i0 i1
    rw [n_up_na rfl, n_up_na rfl, n_up_na rfl]
    refine ⟨q.1, ?_, ?_, ?_⟩
    · show s.1 i ≤ _
      omega
    · show n_up (n_up (n_up (n_up G 5 f mt) 6 f c) 7 f ln) 0 0 ((f : Int) + 1) 3 i = 0
      rw [n_up_na rfl, n_up_na rfl, n_up_na rfl, n_up_na rfl]
      exact d.2.2.1
    · show n_up (n_up (n_up (n_up G 5 f mt) 6 f c) 7 f ln) 0 0 ((f : Int) + 1) 4 i = 0
      rw [n_up_na rfl, n_up_na rfl, n_up_na rfl, n_up_na rfl]
      exact d.2.2.2
  · rw [oth2 5 _ (by omega) (by omega) (by omega) (by omega) (by omega) (by omega)]
    exact (hP j hj).1
  · rw [oth2 (6 + F) _ (by omega) (by omega) (by omega) (by omega) (by omega) (by omega)]
    exact (hP j hj).2
  · have e2 : A 2 (g : Int) = if (g : Int) = f then mt else A0 2 g := by
      rw [oth 2 _ (by omega) (by omega) (by omega) (by omega), n_up_na rfl, n_up_a]
    have e3 : A 3 (g : Int) = if (g : Int) = f then c else A0 3 g := by
      rw [oth 3 _ (by omega) (by omega) (by omega) (by omega), n_up_a, n_up_na rfl]
    have e5 : n_up (n_sG (n_Gf G f c mt ln) s.1) 8 f st 5 (g : Int) = if (g : Int) = f then mt else G 5 g := by
      rw [n_up_na rfl]
      show n_up (n_up (n_up (n_up G 5 f mt) 6 f c) 7 f ln) 0 0 ((f : Int) + 1) 5 _ = _
      rw [n_up_na rfl, n_up_na rfl, n_up_na rfl, n_up_a]
    have e6 : n_up (n_sG (n_Gf G f c mt ln) s.1) 8 f st 6 (g : Int) = if (g : Int) = f then c else G 6 g := by
      rw [n_up_na rfl]
      show n_up (n_up (n_up (n_up G 5 f mt) 6 f c) 7 f ln) 0 0 ((f : Int) + 1) 6 _ = _
      rw [n_up_na rfl, n_up_na rfl, n_up_a, n_up_na rfl]
    have e8 : n_up (n_sG (n_Gf G f c mt ln) s.1) 8 f st 8 (g : Int) = if (g : Int) = f then st else G 8 g := by
      rw [n_up_a]
      split
      · rfl
      · show n_up (n_up (n_up (n_up G 5 f mt) 6 f c) 7 f ln) 0 0 ((f : Int) + 1) 8 _ = _
        rw [n_up_na rfl, n_up_na rfl, n_up_na rfl, n_up_na rfl]
    rw [e2, e3, e5, e6, e8]
    by_cases e : g = f
    · subst e
      rw [if_pos rfl, if_pos rfl, if_pos rfl, if_pos rfl, if_pos rfl, a1]
      refine ⟨⟨m0, m1, rfl⟩, ⟨hc, rfl⟩, ⟨s0, s3, rfl⟩, fun i i0 i1 => ⟨?_, ?_⟩⟩
      · rw [a2 _ i (Or.inl (by omega)), b2 _ i (by omega), (hlk.1 i i0 i1).2]
        unfold n_sM
        rw [if_pos rfl]
        rcases hs2 i i0 (by omega) with q | ⟨q, -⟩
        · rw [if_pos q]
          exact Or.inl ⟨rfl, q⟩
        · rw [if_neg (by omega)]
          exact Or.inr ⟨rfl, q⟩
      · rw [a2 _ i (Or.inl (by omega))]
        exact b1 i i0 i1
    · have en : ¬ (g : Int) = f := by omega
      rw [if_neg en, if_neg en, if_neg en, if_neg en, if_neg en, a2 4 _ (Or.inr en), b2 4 _ (by omega), hlk.2 4 _ (by omega) (by omega), n_up_na rfl, n_up_na rfl]
      obtain ⟨q1, q2, q3, q4⟩ := hO g (by omega)
      refine ⟨q1, q2, q3, fun i i0 i1 => ?_⟩
      rw [oth2 (6 + g) i (by omega) (by omega) (by omega) (by omega) (by omega) (by omega), oth2 (7 + F + g) i (by omega) (by omega) (by omega) (by omega) (by omega) (by omega)]
      unfold n_sM
      rw [if_neg en]
      exact q4 i i0 i1
  · have en : ¬ (g : Int) = f := by omega
    obtain ⟨q1, q2, q3⟩ := hN g (by omega) g20
    refine ⟨?_, fun i i0 i1 => ?_, fun gF i i0 i1 => ?_⟩
    · rw [n_up_ne (Or.inr en)]
      show n_up (n_up (n_up (n_up G 5 f mt) 6 f c) 7 f ln) 0 0 ((f : Int) + 1) 8 _ = _
      rw [n_up_na rfl, n_up_na rfl, n_up_na rfl, n_up_na rfl]
      exact q1
    · unfold n_sM
      rw [if_neg en]
      exact q2 i i0 i1
    · rw [oth2 (6 + g) i (by omega) (by omega) (by omega) (by omega) (by omega) (by omega)]
      exact q3 gF i i0 i1
  · rw [n_up_na rfl]
    show n_up (n_up (n_up (n_up G 5 f mt) 6 f c) 7 f ln) 0 0 ((f : Int) + 1) 9 _ = _
    rw [n_up_na rfl, n_up_na rfl, n_up_na rfl, n_up_na rfl]
    exact h9 g
  · unfold n_sM
    split
    · rw [hs3 i i0]
      exact hM8 f i i0 i1
    · exact hM8 g i i0 i1
section
variable {P : Value → AH → Prop} {F R : Nat} {b : Nat} {A0 A' G : Nat → Int → Int} {M : Int → Int → Int}
theorem n_filmC {f : Nat} {ln mn can told nn c mt : Int} {s : (Int → Int) × (Int → Int)} (hf : f < F) (hR : 2 ≤ R ∧ R ≤ 5) (hF : 2 ≤ F ∧ F ≤ 7) (h : n_I2 F R f A0 G M) (hc : c = 102 ∨ c = 100) (m0 : 1 ≤ mt) (m1 : mt ≤ 300) (hlk : n_lk R f (n_up (n_up A0 2 f mt) 3 f c) A' s) (hs1 : ∀ i : Int, 0 ≤ i → i < 8 → 0 ≤ s.1 i ∧ s.1 i ≤ 3 * f + 3) (hs2 : ∀ i : Int, 0 ≤ i → i < 8 → s.2 i = -2 ∨ (s.2 i = -1 ∧ i < R)) (hs3 : ∀ i : Int, (R : Int) ≤ i → s.2 i = M f i) (hx : ∀ A G' M', n_I2 F R (f + 1) A G' M' → n_J 12 96 P (n_T F) (n_l F R) 195 [.ref 0, .ref 1, n_v 1, n_v R, n_v F, n_p 0, n_p 1, n_p 2, n_p 3, n_p 4, n_p 5, n_p (6 + F), n_v ((f : Int) + 1)] [] (7 + 2 * F) A (n_K G' M') b) : n_J 12 96 P (n_T F) (n_l F R) 516 [.ref 0, .ref 1, n_v 1, n_v R, n_v F, n_p 0, n_p 1, n_p 2, n_p 3, n_p 4, n_p 5, n_p (6 + F), n_v f, n_v ln, n_v mn, n_v can, n_v told, n_v nn] [] (7 + 2 * F) A' (n_K (n_sG (n_Gf G f c mt ln) s.1) (n_sM M f s.2)) (b + 2 + R) := by
  obtain ⟨⟨g1, g2, g3⟩, hL, hD, hP, hO, hN, h9, hM8⟩ := id h
  have gg0 : n_sG (n_Gf G f c mt ln) s.1 0 0 = (f : Int) + 1 := by
    show n_up (n_up (n_up (n_up G 5 f mt) 6 f c) 7 f ln) 0 0 ((f : Int) + 1) 0 0 = _
    exact n_up_eq
  have ggR : n_sG (n_Gf G f c mt ln) s.1 0 1 = R := by
    show n_up (n_up (n_up (n_up G 5 f mt) 6 f c) 7 f ln) 0 0 ((f : Int) + 1) 0 1 = _
    rw [n_up_ne (Or.inr (by decide)), n_up_na rfl, n_up_na rfl, n_up_na rfl]
    exact g2
  have gg8 : n_sG (n_Gf G f c mt ln) s.1 8 (f : Int) = 3 := by
    show n_up (n_up (n_up (n_up G 5 f mt) 6 f c) 7 f ln) 0 0 ((f : Int) + 1) 8 _ = _
    rw [n_up_na rfl, n_up_na rfl, n_up_na rfl, n_up_na rfl]
    exact (hN f (Nat.le_refl _) (by omega)).1
  have hr : ∀ a : Nat, a ≠ 1 → a ≠ 2 → a ≠ 3 → a ≠ 6 + f → A' a (f : Int) = A0 a (f : Int) := fun a q1 q2 q3 q4 => by
    rw [hlk.2 a _ q1 q4, n_up_ne (Or.inl q3), n_up_ne (Or.inl q2)]
  refine n_kpush (z := 0) (p' := 517) n_i516 rfl rfl rfl rfl ?_
  refine n_kis (p' := 519) (vl' := [_, _, _, _, _, _, _, _, _, _, _, _, _, _, _, _, _, _]) n_i517 rfl n_mx rfl rfl rfl ?_
  refine n_isd (A1 := A') hf hR hF (by rw [gg0]; omega) (by rw [gg0]; omega) ggR (fun i i0 i1 => ?_) (by rw [hr 5 (by omega) (by omega) (by omega) (by omega)]; exact (hP f hf).1) (by rw [hr (6 + F) (by omega) (by omega) (by omega) (by omega)]; exact (hP f hf).2) (fun B q1 q2 => ?_) R 0 A' (Int.le_refl _) (by omega) (fun i i0 i1 => by omega) (fun _ _ _ => rfl)
  · rw [(hlk.1 i i0 i1).2]
    unfold n_sM
    rw [if_pos rfl]
    rcases hs2 i i0 (by omega) with q | ⟨q, -⟩
    · rw [if_pos q]
      exact Or.inl ⟨rfl, q⟩
    · rw [if_neg (by omega)]
      exact Or.inr ⟨rfl, by omega⟩
  refine n_rivals hf hR hF (by rw [gg0]; omega) (by rw [gg0]; omega) gg8 (fun A st s0 s3 a1 a2 => ?_)
  exact hx _ _ _ (h.next hf hF.2 hR.2 hc m0 m1 hlk hs1 hs2 hs3 q1 q2 s0 s3 a1 a2)
end
