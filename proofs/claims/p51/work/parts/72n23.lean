/-! needs: n22. Who is dealt; rivals (wip/p51/gen_n23.py) -/
theorem n_fit57 {x y : Int} (h : n_r x) (h2 : n_r y) : n_fit c_r57.2.2.1.2.1 [x, y] := ⟨⟨rfl, h.1, h.2, h⟩, ⟨rfl, h2.1, h2.2, h2⟩, trivial⟩
theorem n_fit90 {x y : Int} (h : n_r x) (h2 : 0 ≤ y ∧ y ≤ 65535) : n_fit c_r90.2.2.1.2.1 [x, y] := ⟨⟨rfl, h.1, h.2, h⟩, ⟨rfl, h2.1, h2.2, ⟨by omega, by omega⟩⟩, trivial⟩
theorem n_up_id {A : Nat → Int → Int} {a : Nat} {k z : Int} (h : A a k = z) : n_up A a k z = A := by
  funext a' k'
  unfold n_up
  split
  · rename_i q
    rw [q.1, q.2, h]
  · rfl
theorem k_isDealt {G : Nat → Int → Int} {M : Int → Int → Int} {S : ZS} {f k : Int} (h : n_K G M S) (f0 : 0 ≤ f) (f1 : f < G 0 0) (c20 : G 0 0 ≤ 20) (k0 : 0 ≤ k) (k1 : k < G 0 1) (r8 : G 0 1 ≤ 8) : f_x_isDealt [f, k] S = ((0, [if M f k = -2 then 0 else 1]), S) := by
  obtain ⟨⟨h1, h2, h3⟩, h4, h5, -⟩ := id h
  unfold f_x_isDealt
  dsimp only
  rw [q_film (by omega) (by omega), if_pos ⟨f0, by omega⟩, e_bnd0, q_reader (by omega) (by omega), if_pos ⟨k0, by omega⟩, e_bnd0, zb_d, (h5 f f0 (by omega)).2.2.2.2 k k0 (by omega)]
  split <;> rfl
theorem k_rival_x {G : Nat → Int → Int} {M : Int → Int → Int} {S : ZS} {f : Int} (h : n_K G M S) (f0 : 0 ≤ f) (f1 : f < G 0 0) (c20 : G 0 0 ≤ 20) : f_w_rival [f, 120] S = ((0, [-900002]), S) := by
  obtain ⟨⟨h1, h2, h3⟩, h4, h5, -⟩ := id h
  unfold f_w_rival f_x_rival
  dsimp only
  rw [q_film (by omega) (by omega), if_pos ⟨f0, by omega⟩]
  rfl
theorem n_K.still {G : Nat → Int → Int} {M : Int → Int → Int} {S : ZS} (h : n_K G M S) {f z : Int} : n_K (n_up G 8 f z) M (e_upd S r_Film_stillIs f 0 0 z) := by
  obtain ⟨⟨h1, h2, h3⟩, h4, h5, h6, h7, h8, h9⟩ := h
  refine ⟨⟨?_, ?_, ?_⟩, fun k k0 k1 => ?_, fun g g0 g1 => ?_, fun s s0 s1 => ?_, ?_, ?_, ?_⟩
  · simp (decide := true) only [e_un, n_up_na]
    exact h1
  · simp (decide := true) only [e_un, n_up_na]
    exact h2
  · simp (decide := true) only [e_un, n_up_na]
    exact h3
  · simp (decide := true) only [e_un, n_up_na]
    exact h4 k k0 k1
  · simp (decide := true) only [e_un, e_ur, n_up_na, n_up_a, and_true]
    obtain ⟨q1, q2, q3⟩ := h5 g g0 g1
    refine ⟨q1, ?_, q3⟩
    by_cases e : g = f
    · simp only [if_pos e]
    · simp only [if_neg e]
      exact q2
  · simp (decide := true) only [e_un, n_up_na]
    exact h6 s s0 s1
  · simp (decide := true) only [e_un]
    exact h7
  · simp (decide := true) only [e_un]
    exact h8
  · simp (decide := true) only [e_un]
    exact h9
theorem k_rival {G : Nat → Int → Int} {M : Int → Int → Int} {S : ZS} {f w c v : Int} (h : n_K G M S) (f0 : 0 ≤ f) (f1 : f < G 0 0) (c20 : G 0 0 ≤ 20) (h3 : G 8 f = 3) (hw : (w = 0 ∧ c = 97 ∧ v = 108) ∨ (w = 1 ∧ c = 108 ∧ v = 116) ∨ (w = 2 ∧ c = 116 ∧ v = 45)) : ∃ S', f_w_rival [f, c] S = ((0, [v]), S') ∧ n_K (n_up G 8 f (2 - w)) M S' := by
  refine ⟨e_upd S r_Film_stillIs f 0 0 (2 - w), ?_, h.still⟩
  obtain ⟨⟨h1, h2, -⟩, h4, h5, -⟩ := id h
  have hs : S r_Film_stillIs f 0 0 = 3 := by rw [(h5 f f0 (by omega)).2.1, h3]
  unfold f_w_rival f_x_rival f_Film_showElsewhere
  dsimp only
  rw [q_film (by omega) (by omega), if_pos ⟨f0, by omega⟩, e_bnd0]
  rcases hw with ⟨rfl, rfl, rfl⟩ | ⟨rfl, rfl, rfl⟩ | ⟨rfl, rfl, rfl⟩
  · simp (decide := true) only [zb_d, zb_n, hs, if_true, if_false, e_bnd0, e_us]
    rfl
  · simp (decide := true) only [zb_d, zb_n, hs, if_true, if_false, e_bnd0, e_us]
    rfl
  · simp (decide := true) only [zb_d, zb_n, hs, if_true, if_false, e_bnd0, e_us]
    rfl
section
variable {P : Value → AH → Prop} {F R : Nat} {b : Nat} {A1 G : Nat → Int → Int} {M : Int → Int → Int}
theorem n_isd {f : Nat} {ln mn can told : Int} (hf : f < F) (hR : 2 ≤ R ∧ R ≤ 5) (hF : 2 ≤ F ∧ F ≤ 7) (g0 : (f : Int) < G 0 0) (g20 : G 0 0 ≤ 20) (gR : G 0 1 = R) (hM : ∀ i : Int, 0 ≤ i → i < R → (A1 (6 + f) i = 0 ∧ M f i = -2) ∨ (A1 (6 + f) i = 1 ∧ M f i ≠ -2)) (hr : A1 5 (f : Int) = ((z_N0 + (6 + f) : Nat) : Int)) (hr2 : A1 (6 + F) (f : Int) = ((z_N0 + (7 + F + f) : Nat) : Int)) (hx : ∀ A, (∀ i : Int, 0 ≤ i → i < R → A (7 + F + f) i = -1) → (∀ a i, a ≠ 7 + F + f → A a i = A1 a i) → n_J 12 96 P (n_T F) (n_l F R) 567 [.ref 0, .ref 1, n_v 1, n_v R, n_v F, n_p 0, n_p 1, n_p 2, n_p 3, n_p 4, n_p 5, n_p (6 + F), n_v f, n_v ln, n_v mn, n_v can, n_v told, n_v R] [] (7 + 2 * F) A (n_K G M) b) : ∀ (j : Nat) (k : Int) (A : Nat → Int → Int), 0 ≤ k → k + j = R → (∀ i : Int, 0 ≤ i → i < k → A (7 + F + f) i = -1) → (∀ a i, a ≠ 7 + F + f → A a i = A1 a i) → n_J 12 96 P (n_T F) (n_l F R) 519 [.ref 0, .ref 1, n_v 1, n_v R, n_v F, n_p 0, n_p 1, n_p 2, n_p 3, n_p 4, n_p 5, n_p (6 + F), n_v f, n_v ln, n_v mn, n_v can, n_v told, n_v k] [] (7 + 2 * F) A (n_K G M) (b + j) := by
  intro j
  induction j with
  | zero =>
    intro k A k0 kj h1 h2
    obtain rfl : k = R := by omega
    refine n_kil (p' := 521) n_i519 rfl rfl ?_
    refine n_kiln (p' := 522) n_i521 rfl rfl ?_
    refine n_c2ge (t := 567) (p' := 525) n_i522 (by decide) rfl ⟨by omega, by omega⟩ ⟨by omega, by omega⟩ (fun e => ?_) (fun e => absurd e (by omega))
    exact hx A h1 h2
  | succ j ih =>
    intro k A k0 kj h1 h2
    have hm := hM k k0 (by omega)
    have hh : A (6 + f) k = A1 (6 + f) k := h2 _ _ (by omega)
    have hh2 : 0 ≤ A (6 + f) k ∧ A (6 + f) k ≤ 1 := by omega
    refine n_J.le (b' := b + j + 1) ?_ (by omega)
    refine n_kil (p' := 521) n_i519 rfl rfl ?_
    refine n_kiln (p' := 522) n_i521 rfl rfl ?_
    refine n_c2ge (t := 567) (p' := 525) n_i522 (by decide) rfl ⟨by omega, by omega⟩ ⟨by omega, by omega⟩ (fun e => absurd e (by omega)) (fun e => ?_)
    refine n_kiln (p' := 526) n_i525 rfl rfl ?_
    refine n_kaln (p' := 527) n_i526 rfl rfl ?_
    refine n_kil (p' := 529) n_i527 rfl rfl ?_
    refine n_kil (p' := 531) n_i529 rfl rfl ?_
    refine n_o_isDealt (p' := 534) (v := A (6 + f) k) (K' := n_K G M) n_i531 (Nat.le_of_ble_eq_true rfl) rfl (n_fit57 ⟨by omega, by omega⟩ ⟨by omega, by omega⟩) (fun S hS => ⟨S, ?_, hS⟩) ?_
    · rw [k_isDealt hS (by omega) g0 g20 k0 (by omega) (by omega), hh]
      rcases hm with ⟨q1, q2⟩ | ⟨q1, q2⟩
      · rw [q1, if_pos q2]
      · rw [q1, if_neg q2]
    refine n_kal (p' := 536) n_i534 rfl rfl ?_
    refine n_kil (p' := 538) n_i536 rfl rfl ?_
    refine n_kaald (p' := 539) (r := 6 + f) n_i538 (by omega) (Or.inr n_T5) (by omega) (by rw [n_l5]; omega) (by rw [n_l5]; omega) (by rw [h2 5 _ (by omega)]; exact hr) rfl ?_
    refine n_kil (p' := 541) n_i539 rfl rfl ?_
    refine n_kbald (p' := 542) n_i541 (by omega) (n_T6 hf) (by omega) (by rw [(n_l6 hf)]; omega) (by rw [(n_l6 hf)]; omega) rfl ?_
    refine n_c2ne (t := 549) (p' := 545) n_i542 (by decide) rfl ⟨by omega, by omega⟩ ⟨by omega, by omega⟩ (fun e => absurd rfl e) (fun e => ?_)
    refine n_kpush (z := 1) (p' := 546) n_i545 rfl rfl rfl rfl ?_
    refine n_kgoto (p' := 550) n_i546 (by decide) ?_
    refine n_kand (p' := 551) n_i550 rfl ?_
    refine n_kisn (p' := 552) (vl' := [_, _, _, _, _, _, _, _, _, _, _, _, _, _, _, _, _, _]) n_i551 rfl n_mx rfl rfl rfl ?_
    refine n_kal (p' := 554) n_i552 rfl rfl ?_
    refine n_kil (p' := 556) n_i554 rfl rfl ?_
    refine n_kaald (p' := 557) (r := 7 + F + f) n_i556 (by omega) (Or.inl n_T7) (by omega) (by rw [n_l7]; omega) (by rw [n_l7]; omega) (by rw [h2 _ _ (by omega)]; exact hr2) rfl ?_
    refine n_kil (p' := 559) n_i557 rfl rfl ?_
    refine n_kpush (z := (-1)) (p' := 560) n_i559 rfl rfl rfl rfl ?_
    refine n_kiast (p' := 561) n_K_cl n_i560 (by omega) (n_T8 hf) (by omega) (by rw [(n_l8 hf)]; omega) (by rw [(n_l8 hf)]; omega) rfl ?_
    refine n_kinc (p' := 564) (vl' := [_, _, _, _, _, _, _, _, _, _, _, _, _, _, _, _, _, _]) n_i561 rfl n_mx rfl rfl rfl ?_
    refine n_kgoto (p' := 519) n_i564 (by decide) ?_
    refine ih (k + 1) _ (by omega) (by omega) (fun i i0 i1 => ?_) (fun a i ha => ?_)
    · rw [n_up_a]
      split
      · rfl
      · exact h1 i i0 (by omega)
    · rw [n_up_ne (Or.inl ha)]
      exact h2 a i ha
theorem n_rivals {f : Nat} {ln mn can told kk : Int} {A : Nat → Int → Int} (hf : f < F) (hR : 2 ≤ R ∧ R ≤ 5) (hF : 2 ≤ F ∧ F ≤ 7) (g0 : (f : Int) < G 0 0) (g20 : G 0 0 ≤ 20) (g8 : G 8 f = 3) (hx : ∀ A' s, 0 ≤ s → s ≤ 3 → A' 4 (f : Int) = s → (∀ a i, a ≠ 4 ∨ i ≠ (f : Int) → A' a i = A a i) → n_J 12 96 P (n_T F) (n_l F R) 195 [.ref 0, .ref 1, n_v 1, n_v R, n_v F, n_p 0, n_p 1, n_p 2, n_p 3, n_p 4, n_p 5, n_p (6 + F), n_v ((f : Int) + 1)] [] (7 + 2 * F) A' (n_K (n_up G 8 f s) M) b) : n_J 12 96 P (n_T F) (n_l F R) 567 [.ref 0, .ref 1, n_v 1, n_v R, n_v F, n_p 0, n_p 1, n_p 2, n_p 3, n_p 4, n_p 5, n_p (6 + F), n_v f, n_v ln, n_v mn, n_v can, n_v told, n_v kk] [] (7 + 2 * F) A (n_K G M) (b + 2) := by
  refine n_kal (p' := 569) n_i567 rfl rfl ?_
  refine n_kil (p' := 571) n_i569 rfl rfl ?_
  refine n_kpush (z := 3) (p' := 572) n_i571 rfl rfl rfl rfl ?_
  refine n_kiast (p' := 573) n_K_cl n_i572 (by omega) n_T4 (by omega) (by rw [n_l4]; omega) (by rw [n_l4]; omega) rfl ?_
  refine n_kaln (p' := 574) n_i573 rfl rfl ?_
  refine n_kpush (z := 60) (p' := 576) n_i574 rfl rfl (by decide +kernel) rfl ?_
  refine n_kil (p' := 578) n_i576 rfl rfl ?_
  refine n_kadd (p' := 579) n_i578 rfl ?_
  refine n_kpush (z := 2) (p' := 580) n_i579 rfl rfl rfl rfl ?_
  refine n_kin (p' := 583) n_i580 (n_ain (Nat.le_of_ble_eq_true rfl)) (by decide) (by omega) (by omega) (by decide) (by decide) rfl (fun zr zr0 zr1 => ?_)
  refine n_c1ne (t := 683) (p' := 586) n_i583 (by decide) rfl ⟨by omega, by omega⟩ (fun e583 => ?_) (fun e583 => ?_)
  · refine n_kinc (p' := 686) (vl' := [_, _, _, _, _, _, _, _, _, _, _, _, _, _, _, _, _, _]) n_i683 rfl n_mx rfl rfl rfl ?_
    refine n_kgoto (p' := 195) n_i686 (by decide) ?_
    refine n_J.le (b' := b) ?_ (by omega)
    have q := hx (n_up A 4 f 3) 3 (by omega) (by omega) n_up_eq (fun a i h => n_up_ne h)
    rw [n_up_id g8] at q
    exact n_J.pre (vr := [_, _, _, _, _]) q
  · refine n_kaln (p' := 587) n_i586 rfl rfl ?_
    refine n_kpush (z := 70) (p' := 589) n_i587 rfl rfl (by decide +kernel) rfl ?_
    refine n_kil (p' := 591) n_i589 rfl rfl ?_
    refine n_kadd (p' := 592) n_i591 rfl ?_
    refine n_kpush (z := 3) (p' := 593) n_i592 rfl rfl rfl rfl ?_
    refine n_kin (p' := 596) n_i593 (n_ain (Nat.le_of_ble_eq_true rfl)) (by decide) (by omega) (by omega) (by decide) (by decide) rfl (fun zw zw0 zw1 => ?_)
    refine n_kis (p' := 598) (vl' := [_, _, _, _, _, _, _, _, _, _, _, _, _, _, _, _, _, _]) n_i596 rfl n_mx rfl rfl rfl ?_
    refine n_kal (p' := 600) n_i598 rfl rfl ?_
    refine n_kil (p' := 602) n_i600 rfl rfl ?_
    refine n_kpush (z := 2) (p' := 603) n_i602 rfl rfl rfl rfl ?_
    refine n_kil (p' := 605) n_i603 rfl rfl ?_
    refine n_ksub (p' := 606) n_i605 rfl ?_
    refine n_kiast (p' := 607) n_K_cl n_i606 (by omega) n_T4 (by omega) (by rw [n_l4]; omega) (by rw [n_l4]; omega) rfl ?_
    obtain q | q | q : zw = 0 ∨ zw = 1 ∨ zw = 2 := by omega
    · subst q
      refine n_kiln (p' := 608) n_i607 rfl rfl ?_
      refine n_kaln (p' := 609) n_i608 rfl rfl ?_
      refine n_kil (p' := 611) n_i609 rfl rfl ?_
      refine n_kil (p' := 613) n_i611 rfl rfl ?_
      refine n_c1ne (t := 621) (p' := 616) n_i613 (by decide) rfl ⟨by omega, by omega⟩ (fun e => absurd e (by omega)) (fun e => ?_)
      refine n_kpush (z := 97) (p' := 618) n_i616 rfl rfl (by decide +kernel) rfl ?_
      refine n_kgoto (p' := 634) n_i618 (by decide) ?_
      refine n_o_rival (p' := 637) (v := 108) (K' := n_K (n_up G 8 f (2 - 0)) M) n_i634 (Nat.le_of_ble_eq_true rfl) rfl (n_fit90 ⟨by omega, by omega⟩ ⟨by omega, by omega⟩) (fun S hS => k_rival hS (by omega) g0 g20 g8 (by omega)) ?_
      refine n_kil (p' := 639) n_i637 rfl rfl ?_
      refine n_c1ne (t := 647) (p' := 642) n_i639 (by decide) rfl ⟨by omega, by omega⟩ (fun e => absurd e (by omega)) (fun e => ?_)
      refine n_kpush (z := 108) (p' := 644) n_i642 rfl rfl (by decide +kernel) rfl ?_
      refine n_kgoto (p' := 660) n_i644 (by decide) ?_
      refine n_c2ne (t := 680) (p' := 663) n_i660 (by decide) rfl ⟨by omega, by omega⟩ ⟨by omega, by omega⟩ (fun e => absurd rfl e) (fun e => ?_)
      refine n_kaln (p' := 664) n_i663 rfl rfl ?_
      refine n_kil (p' := 666) n_i664 rfl rfl ?_
      refine n_kpush (z := 120) (p' := 668) n_i666 rfl rfl (by decide +kernel) rfl ?_
      refine n_o_rival (p' := 671) (v := -900002) (K' := n_K (n_up G 8 f (2 - 0)) M) n_i668 (Nat.le_of_ble_eq_true rfl) rfl (n_fit90 ⟨by omega, by omega⟩ ⟨by omega, by omega⟩) (fun S hS => ⟨S, k_rival_x hS (by omega) (by rw [n_up_ne (Or.inl (by omega))]; exact g0) (by rw [n_up_ne (Or.inl (by omega))]; exact g20), hS⟩) ?_
      refine n_kldc (z := (-900002)) (p' := 673) n_i671 (by decide +kernel) rfl ?_
      refine n_c2ne (t := 680) (p' := 676) n_i673 (by decide) rfl ⟨by omega, by omega⟩ ⟨by omega, by omega⟩ (fun e => absurd rfl e) (fun e => ?_)
      refine n_kpush (z := 1) (p' := 677) n_i676 rfl rfl rfl rfl ?_
      refine n_kgoto (p' := 681) n_i677 (by decide) ?_
      refine n_kand (p' := 682) n_i681 rfl ?_
      refine n_kisn (p' := 683) (vl' := [_, _, _, _, _, _, _, _, _, _, _, _, _, _, _, _, _, _]) n_i682 rfl n_mx rfl rfl rfl ?_
      refine n_kinc (p' := 686) (vl' := [_, _, _, _, _, _, _, _, _, _, _, _, _, _, _, _, _, _]) n_i683 rfl n_mx rfl rfl rfl ?_
      refine n_kgoto (p' := 195) n_i686 (by decide) ?_
      have q := hx (n_up (n_up A 4 f 3) 4 f (2 - 0)) (2 - 0) (by omega) (by omega) n_up_eq (fun a i h => (n_up_ne h).trans (n_up_ne h))
      exact n_J.pre (vr := [_, _, _, _, _]) q
    · subst q
      refine n_kiln (p' := 608) n_i607 rfl rfl ?_
      refine n_kaln (p' := 609) n_i608 rfl rfl ?_
      refine n_kil (p' := 611) n_i609 rfl rfl ?_
      refine n_kil (p' := 613) n_i611 rfl rfl ?_
      refine n_c1ne (t := 621) (p' := 616) n_i613 (by decide) rfl ⟨by omega, by omega⟩ (fun e => ?_) (fun e => absurd e (by omega))
      refine n_kil (p' := 623) n_i621 rfl rfl ?_
      refine n_kpush (z := 1) (p' := 624) n_i623 rfl rfl rfl rfl ?_
      refine n_c2ne (t := 632) (p' := 627) n_i624 (by decide) rfl ⟨by omega, by omega⟩ ⟨by omega, by omega⟩ (fun e => absurd e (by omega)) (fun e => ?_)
      refine n_kpush (z := 108) (p' := 629) n_i627 rfl rfl (by decide +kernel) rfl ?_
      refine n_kgoto (p' := 634) n_i629 (by decide) ?_
      refine n_o_rival (p' := 637) (v := 116) (K' := n_K (n_up G 8 f (2 - 1)) M) n_i634 (Nat.le_of_ble_eq_true rfl) rfl (n_fit90 ⟨by omega, by omega⟩ ⟨by omega, by omega⟩) (fun S hS => k_rival hS (by omega) g0 g20 g8 (by omega)) ?_
      refine n_kil (p' := 639) n_i637 rfl rfl ?_
      refine n_c1ne (t := 647) (p' := 642) n_i639 (by decide) rfl ⟨by omega, by omega⟩ (fun e => ?_) (fun e => absurd e (by omega))
      refine n_kil (p' := 649) n_i647 rfl rfl ?_
      refine n_kpush (z := 1) (p' := 650) n_i649 rfl rfl rfl rfl ?_
      refine n_c2ne (t := 658) (p' := 653) n_i650 (by decide) rfl ⟨by omega, by omega⟩ ⟨by omega, by omega⟩ (fun e => absurd e (by omega)) (fun e => ?_)
      refine n_kpush (z := 116) (p' := 655) n_i653 rfl rfl (by decide +kernel) rfl ?_
      refine n_kgoto (p' := 660) n_i655 (by decide) ?_
      refine n_c2ne (t := 680) (p' := 663) n_i660 (by decide) rfl ⟨by omega, by omega⟩ ⟨by omega, by omega⟩ (fun e => absurd rfl e) (fun e => ?_)
      refine n_kaln (p' := 664) n_i663 rfl rfl ?_
      refine n_kil (p' := 666) n_i664 rfl rfl ?_
      refine n_kpush (z := 120) (p' := 668) n_i666 rfl rfl (by decide +kernel) rfl ?_
      refine n_o_rival (p' := 671) (v := -900002) (K' := n_K (n_up G 8 f (2 - 1)) M) n_i668 (Nat.le_of_ble_eq_true rfl) rfl (n_fit90 ⟨by omega, by omega⟩ ⟨by omega, by omega⟩) (fun S hS => ⟨S, k_rival_x hS (by omega) (by rw [n_up_ne (Or.inl (by omega))]; exact g0) (by rw [n_up_ne (Or.inl (by omega))]; exact g20), hS⟩) ?_
      refine n_kldc (z := (-900002)) (p' := 673) n_i671 (by decide +kernel) rfl ?_
      refine n_c2ne (t := 680) (p' := 676) n_i673 (by decide) rfl ⟨by omega, by omega⟩ ⟨by omega, by omega⟩ (fun e => absurd rfl e) (fun e => ?_)
      refine n_kpush (z := 1) (p' := 677) n_i676 rfl rfl rfl rfl ?_
      refine n_kgoto (p' := 681) n_i677 (by decide) ?_
      refine n_kand (p' := 682) n_i681 rfl ?_
      refine n_kisn (p' := 683) (vl' := [_, _, _, _, _, _, _, _, _, _, _, _, _, _, _, _, _, _]) n_i682 rfl n_mx rfl rfl rfl ?_
      refine n_kinc (p' := 686) (vl' := [_, _, _, _, _, _, _, _, _, _, _, _, _, _, _, _, _, _]) n_i683 rfl n_mx rfl rfl rfl ?_
      refine n_kgoto (p' := 195) n_i686 (by decide) ?_
      have q := hx (n_up (n_up A 4 f 3) 4 f (2 - 1)) (2 - 1) (by omega) (by omega) n_up_eq (fun a i h => (n_up_ne h).trans (n_up_ne h))
      exact n_J.pre (vr := [_, _, _, _, _]) q
    · subst q
      refine n_kiln (p' := 608) n_i607 rfl rfl ?_
      refine n_kaln (p' := 609) n_i608 rfl rfl ?_
      refine n_kil (p' := 611) n_i609 rfl rfl ?_
      refine n_kil (p' := 613) n_i611 rfl rfl ?_
      refine n_c1ne (t := 621) (p' := 616) n_i613 (by decide) rfl ⟨by omega, by omega⟩ (fun e => ?_) (fun e => absurd e (by omega))
      refine n_kil (p' := 623) n_i621 rfl rfl ?_
      refine n_kpush (z := 1) (p' := 624) n_i623 rfl rfl rfl rfl ?_
      refine n_c2ne (t := 632) (p' := 627) n_i624 (by decide) rfl ⟨by omega, by omega⟩ ⟨by omega, by omega⟩ (fun e => ?_) (fun e => absurd e (by omega))
      refine n_kpush (z := 116) (p' := 634) n_i632 rfl rfl (by decide +kernel) rfl ?_
      refine n_o_rival (p' := 637) (v := 45) (K' := n_K (n_up G 8 f (2 - 2)) M) n_i634 (Nat.le_of_ble_eq_true rfl) rfl (n_fit90 ⟨by omega, by omega⟩ ⟨by omega, by omega⟩) (fun S hS => k_rival hS (by omega) g0 g20 g8 (by omega)) ?_
      refine n_kil (p' := 639) n_i637 rfl rfl ?_
      refine n_c1ne (t := 647) (p' := 642) n_i639 (by decide) rfl ⟨by omega, by omega⟩ (fun e => ?_) (fun e => absurd e (by omega))
      refine n_kil (p' := 649) n_i647 rfl rfl ?_
      refine n_kpush (z := 1) (p' := 650) n_i649 rfl rfl rfl rfl ?_
      refine n_c2ne (t := 658) (p' := 653) n_i650 (by decide) rfl ⟨by omega, by omega⟩ ⟨by omega, by omega⟩ (fun e => ?_) (fun e => absurd e (by omega))
      refine n_kpush (z := 45) (p' := 660) n_i658 rfl rfl (by decide +kernel) rfl ?_
      refine n_c2ne (t := 680) (p' := 663) n_i660 (by decide) rfl ⟨by omega, by omega⟩ ⟨by omega, by omega⟩ (fun e => absurd rfl e) (fun e => ?_)
      refine n_kaln (p' := 664) n_i663 rfl rfl ?_
      refine n_kil (p' := 666) n_i664 rfl rfl ?_
      refine n_kpush (z := 120) (p' := 668) n_i666 rfl rfl (by decide +kernel) rfl ?_
      refine n_o_rival (p' := 671) (v := -900002) (K' := n_K (n_up G 8 f (2 - 2)) M) n_i668 (Nat.le_of_ble_eq_true rfl) rfl (n_fit90 ⟨by omega, by omega⟩ ⟨by omega, by omega⟩) (fun S hS => ⟨S, k_rival_x hS (by omega) (by rw [n_up_ne (Or.inl (by omega))]; exact g0) (by rw [n_up_ne (Or.inl (by omega))]; exact g20), hS⟩) ?_
      refine n_kldc (z := (-900002)) (p' := 673) n_i671 (by decide +kernel) rfl ?_
      refine n_c2ne (t := 680) (p' := 676) n_i673 (by decide) rfl ⟨by omega, by omega⟩ ⟨by omega, by omega⟩ (fun e => absurd rfl e) (fun e => ?_)
      refine n_kpush (z := 1) (p' := 677) n_i676 rfl rfl rfl rfl ?_
      refine n_kgoto (p' := 681) n_i677 (by decide) ?_
      refine n_kand (p' := 682) n_i681 rfl ?_
      refine n_kisn (p' := 683) (vl' := [_, _, _, _, _, _, _, _, _, _, _, _, _, _, _, _, _, _]) n_i682 rfl n_mx rfl rfl rfl ?_
      refine n_kinc (p' := 686) (vl' := [_, _, _, _, _, _, _, _, _, _, _, _, _, _, _, _, _, _]) n_i683 rfl n_mx rfl rfl rfl ?_
      refine n_kgoto (p' := 195) n_i686 (by decide) ?_
      have q := hx (n_up (n_up A 4 f 3) 4 f (2 - 2)) (2 - 2) (by omega) (by omega) n_up_eq (fun a i h => (n_up_ne h).trans (n_up_ne h))
      exact n_J.pre (vr := [_, _, _, _, _]) q
end
