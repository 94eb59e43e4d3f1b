/-! needs: n21. The law's own dealing (wip/p51/gen_n22.py) -/
theorem n_dlt_b {ld : Int → Int} {R : Nat} {l : Int} : ∀ (t : Nat) (s : (Int → Int) × (Int → Int)) (k : Int), s.1 k ≤ (n_dlt ld R l t s).1 k ∧ (n_dlt ld R l t s).1 k ≤ s.1 k + t
  | 0, s, k => ⟨Int.le_refl _, by show s.1 k ≤ s.1 k + ((0 : Nat) : Int); omega⟩
  | t + 1, s, k => by
    have h := n_dlt_b (ld := ld) (R := R) (l := l) t (n_dl1 ld R l s) k
    have e : (n_dl1 ld R l s).1 k = if k = n_bst ld R l s then s.1 k + 1 else s.1 k := rfl
    rw [e] at h
    show s.1 k ≤ (n_dlt ld R l t (n_dl1 ld R l s)).1 k ∧ (n_dlt ld R l t (n_dl1 ld R l s)).1 k ≤ s.1 k + ((t + 1 : Nat) : Int)
    split at h <;> omega
def n_lk (R f : Nat) (A0 A : Nat → Int → Int) (s : (Int → Int) × (Int → Int)) : Prop := (∀ i : Int, 0 ≤ i → i < R → A 1 i = s.1 i ∧ A (6 + f) i = if s.2 i = -2 then 0 else 1) ∧ ∀ a k, a ≠ 1 → a ≠ 6 + f → A a k = A0 a k
theorem n_lk.next {R f : Nat} {A0 A : Nat → Int → Int} {s : (Int → Int) × (Int → Int)} {ld : Int → Int} {l : Int} (h : n_lk R f A0 A s) (b0 : 0 ≤ n_bst ld R l s) (b1 : n_bst ld R l s < R) : n_lk R f A0 (n_up (n_up A (6 + f) (n_bst ld R l s) 1) 1 (n_bst ld R l s) (n_up A (6 + f) (n_bst ld R l s) 1 1 (n_bst ld R l s) + 1)) (n_dl1 ld R l s) := by
  obtain ⟨h1, h2⟩ := h
  have hb := h1 _ b0 b1
  refine ⟨fun i i0 i1 => ?_, fun a k a1 a6 => ?_⟩
  · have hi := h1 i i0 i1
    unfold n_dl1
    generalize n_bst ld R l s = B at b0 b1 hb ⊢
    dsimp only
    rw [n_up_ne (a' := 1) (a := 6 + f) (Or.inl (by omega)), n_up_a, n_up_ne (a' := 6 + f) (a := 1) (Or.inl (by omega)), n_up_a, n_up_ne (a' := 1) (a := 6 + f) (Or.inl (by omega))]
    by_cases e : i = B
    · simp [e, hb.1]
    · simp only [if_neg e]
      exact hi
  · rw [n_up_ne (Or.inl a1), n_up_ne (Or.inl a6)]
    exact h2 a k a1 a6
section
variable {P : Value → AH → Prop} {F R : Nat} {b : Nat} {A0 : Nat → Int → Int} {K : ZS → Prop}
theorem n_deals {f mn : Nat} {ln can told : Int} {ld : Int → Int} {s0 : (Int → Int) × (Int → Int)} (hK : n_cl K) (hf : f < F) (hR : 2 ≤ R ∧ R ≤ 5) (hF : 2 ≤ F ∧ F ≤ 7) (hm : mn ≤ 8) (hL : ∀ i : Int, 0 ≤ i → i < R → 0 ≤ A0 0 i ∧ A0 0 i < 3 ∧ ld i = A0 0 i) (hs : ∀ i : Int, 0 ≤ i → i < R → 0 ≤ s0.1 i ∧ s0.1 i ≤ 900) (hr : A0 5 (f : Int) = ((z_N0 + (6 + f) : Nat) : Int)) (l0 : 0 ≤ ln) (l1 : ln < 3) (hcm : (mn : Int) ≤ can) (hc8 : can ≤ 8) (hct : (mn : Int) ≤ zcnt (n_fr ld s0.2 ln) R 0) (hx : ∀ A, n_lk R f A0 A (n_dlt ld R ln mn s0) → n_J 12 96 P (n_T F) (n_l F R) 516 [.ref 0, .ref 1, n_v 1, n_v R, n_v F, n_p 0, n_p 1, n_p 2, n_p 3, n_p 4, n_p 5, n_p (6 + F), n_v f, n_v ln, n_v mn, n_v can, n_v told, n_v mn] [] (7 + 2 * F) A K b) : ∀ (j t : Nat) (A : Nat → Int → Int), t + j = mn → n_lk R f A0 A (n_dlt ld R ln t s0) → n_J 12 96 P (n_T F) (n_l F R) 399 [.ref 0, .ref 1, n_v 1, n_v R, n_v F, n_p 0, n_p 1, n_p 2, n_p 3, n_p 4, n_p 5, n_p (6 + F), n_v f, n_v ln, n_v mn, n_v can, n_v told, n_v t] [] (7 + 2 * F) A K b := by
  intro j
  induction j with
  | zero =>
    intro t A tj h
    obtain rfl : t = mn := by omega
    refine n_kil (p' := 401) n_i399 rfl rfl ?_
    refine n_kil (p' := 403) n_i401 rfl rfl ?_
    refine n_c2ge (t := 516) (p' := 406) n_i403 (by decide) rfl ⟨by omega, by omega⟩ ⟨by omega, by omega⟩ (fun e => ?_) (fun e => absurd e (by omega))
    exact hx A h
  | succ j ih =>
    intro t A tj h
    obtain ⟨h1, h2⟩ := id h
    have hct2 := (n_dlt_ct (ld := ld) (R := R) (l := ln) t s0 (by omega)).1
    have hnx := n_dlt_s (ld := ld) (R := R) (l := ln) t s0
    have hbd := n_dlt_b (ld := ld) (R := R) (l := ln) t s0
    generalize n_dlt ld R ln t s0 = s at h h1 hct2 hnx hbd
    obtain ⟨⟨b0, b1⟩, -, -⟩ := n_dl1_ct (ld := ld) (R := R) (l := ln) (s := s) (by omega)
    have hB : n_rb (n_mp A f ln) (A 1) R (-1) = n_bst ld R ln s := by
      rw [n_rb_best]
      refine zbest_cg R 0 (-1) (by omega) (fun i i0 i1 => ?_) (by omega)
      obtain ⟨q1, q2⟩ := h1 i i0 (by omega)
      refine ⟨?_, q1⟩
      unfold n_mp n_fr
      rw [q2, h2 0 i (by omega) (by omega), (hL i i0 (by omega)).2.2]
      congr 1
      by_cases e : s.2 i = -2
      · simp [e]
      · simp [e]
    have hx2 := h.next b0 b1
    rw [← hnx] at hx2
    generalize n_bst ld R ln s = B at b0 b1 hB hx2
    refine n_kil (p' := 401) n_i399 rfl rfl ?_
    refine n_kil (p' := 403) n_i401 rfl rfl ?_
    refine n_c2ge (t := 516) (p' := 406) n_i403 (by decide) rfl ⟨by omega, by omega⟩ ⟨by omega, by omega⟩ (fun e => absurd e (by omega)) (fun e => ?_)
    refine n_kil (p' := 408) n_i406 rfl rfl ?_
    refine n_kil (p' := 410) n_i408 rfl rfl ?_
    refine n_c2lt (t := 516) (p' := 413) n_i410 (by decide) rfl ⟨by omega, by omega⟩ ⟨by omega, by omega⟩ (fun e => absurd e (by omega)) (fun e => ?_)
    refine n_kpush (z := (-1)) (p' := 414) n_i413 rfl rfl rfl rfl ?_
    refine n_kis (p' := 416) (vl' := [_, _, _, _, _, _, _, _, _, _, _, _, _, _, _, _, _, _, _]) n_i414 rfl n_mx rfl rfl rfl ?_
    refine n_kiln (p' := 417) n_i416 rfl rfl ?_
    refine n_kpush (z := 1) (p' := 418) n_i417 rfl rfl rfl rfl ?_
    refine n_ksub (p' := 419) n_i418 rfl ?_
    refine n_kis (p' := 421) (vl' := [_, _, _, _, _, _, _, _, _, _, _, _, _, _, _, _, _, _, _, _]) n_i419 rfl n_mx rfl rfl rfl ?_
    refine n_best (f := f) (B := B) hf hR hF (fun i i0 i1 => ?_) (fun i i0 i1 => ?_) (fun i i0 i1 => ?_) (by rw [h2 5 _ (by omega) (by omega)]; exact hr) l0 l1 (fun k => ?_) R _ (-1) (Nat.le_refl _) rfl hB (by omega) (by omega)
    · rw [h2 0 i (by omega) (by omega)]
      exact ⟨(hL i i0 i1).1, (hL i i0 i1).2.1⟩
    · rw [(h1 i i0 i1).1]
      have q1 := hbd i
      have q2 := hs i i0 i1
      omega
    · rw [(h1 i i0 i1).2]
      split
      · exact Or.inl rfl
      · exact Or.inr rfl
    refine n_kal (p' := 494) n_i492 rfl rfl ?_
    refine n_kil (p' := 496) n_i494 rfl rfl ?_
    refine n_kaald (p' := 497) (r := 6 + f) n_i496 (by omega) (Or.inr n_T5) (by omega) (by rw [n_l5]; omega) (by rw [n_l5]; omega) (by rw [h2 5 _ (by omega) (by omega)]; exact hr) rfl ?_
    refine n_kil (p' := 499) n_i497 rfl rfl ?_
    refine n_kpush (z := 1) (p' := 500) n_i499 rfl rfl rfl rfl ?_
    refine n_kbast (p' := 501) hK n_i500 (by omega) (n_T6 hf) (Or.inr rfl) (by omega) (by rw [(n_l6 hf)]; omega) (by rw [(n_l6 hf)]; omega) rfl ?_
    refine n_kal (p' := 503) n_i501 rfl rfl ?_
    refine n_kil (p' := 505) n_i503 rfl rfl ?_
    refine n_kdup2 (p' := 506) n_i505 ⟨rfl, rfl⟩ rfl ?_
    refine n_kiald (p' := 507) n_i506 (by omega) n_T1 (by omega) (by rw [n_l1]; omega) (by rw [n_l1]; omega) rfl ?_
    refine n_kpush (z := 1) (p' := 508) n_i507 rfl rfl rfl rfl ?_
    refine n_kadd (p' := 509) n_i508 rfl ?_
    refine n_kiast (p' := 510) hK n_i509 (by omega) n_T1 (by omega) (by rw [n_l1]; omega) (by rw [n_l1]; omega) rfl ?_
    refine n_kinc (p' := 513) (vl' := [_, _, _, _, _, _, _, _, _, _, _, _, _, _, _, _, _, _, _, _]) n_i510 rfl n_mx rfl rfl rfl ?_
    refine n_kgoto (p' := 399) n_i513 (by decide) ?_
    exact n_J.pre (vr := [_, _]) (ih (t + 1) _ (by omega) hx2)
end
