/-! needs: n14 n20 n08. The law, second stage: films (wip/p51/gen_n21.py) -/
section
variable {P : Value → AH → Prop} {F R : Nat} {b : Nat} {A : Nat → Int → Int} {K : ZS → Prop}
def n_cp (A : Nat → Int → Int) (ln i : Int) : Bool := decide (A 0 i ≠ ln)
theorem n_can {f ln mn : Int} (hR : 2 ≤ R ∧ R ≤ 5) (hF : 2 ≤ F ∧ F ≤ 7) (hL : ∀ i : Int, 0 ≤ i → i < R → 0 ≤ A 0 i ∧ A 0 i < 3) (l0 : 0 ≤ ln) (l1 : ln < 3) (hx : n_J 12 96 P (n_T F) (n_l F R) 359 [.ref 0, .ref 1, n_v 1, n_v R, n_v F, n_p 0, n_p 1, n_p 2, n_p 3, n_p 4, n_p 5, n_p (6 + F), n_v f, n_v ln, n_v mn, n_v (zcnt (n_cp A ln) R 0), n_v R] [] (7 + 2 * F) A K b) : ∀ (j k : Nat), k + j = R → n_J 12 96 P (n_T F) (n_l F R) 327 [.ref 0, .ref 1, n_v 1, n_v R, n_v F, n_p 0, n_p 1, n_p 2, n_p 3, n_p 4, n_p 5, n_p (6 + F), n_v f, n_v ln, n_v mn, n_v (zcnt (n_cp A ln) k 0), n_v (k : Int)] [] (7 + 2 * F) A K b := by
  intro j
  induction j with
  | zero =>
    intro k kj
    have e : k = R := by omega
    subst e
    refine n_kil (p' := 329) n_i327 rfl rfl ?_
    refine n_kiln (p' := 330) n_i329 rfl rfl ?_
    refine n_c2ge (t := 359) (p' := 333) n_i330 (by decide) rfl ⟨by omega, by omega⟩ ⟨by omega, by omega⟩ (fun e => ?_) (fun e => absurd e (by omega))
    exact hx
  | succ j ih =>
    intro k kj
    have hk := hL k (by omega) (by omega)
    have q := ih (k + 1) (by omega)
    rw [zcnt_app] at q
    have ec : n_cp A ln (0 + k) = decide (A 0 k ≠ ln) := by
      unfold n_cp
      rw [Int.zero_add]
    rw [ec] at q
    refine n_kil (p' := 329) n_i327 rfl rfl ?_
    refine n_kiln (p' := 330) n_i329 rfl rfl ?_
    refine n_c2ge (t := 359) (p' := 333) n_i330 (by decide) rfl ⟨by omega, by omega⟩ ⟨by omega, by omega⟩ (fun e => absurd e (by omega)) (fun e => ?_)
    refine n_kil (p' := 335) n_i333 rfl rfl ?_
    refine n_kal (p' := 337) n_i335 rfl rfl ?_
    refine n_kil (p' := 339) n_i337 rfl rfl ?_
    refine n_kiald (p' := 340) n_i339 (by omega) n_T0 (by omega) (by rw [n_l0]; omega) (by rw [n_l0]; omega) rfl ?_
    refine n_kil (p' := 342) n_i340 rfl rfl ?_
    refine n_c2ne (t := 349) (p' := 345) n_i342 (by decide) rfl ⟨by omega, by omega⟩ ⟨by omega, by omega⟩ (fun e342 => ?_) (fun e342 => ?_)
    · refine n_kpush (z := 1) (p' := 350) n_i349 rfl rfl rfl rfl ?_
      refine n_kadd (p' := 351) n_i350 rfl ?_
      refine n_kis (p' := 353) (vl' := [_, _, _, _, _, _, _, _, _, _, _, _, _, _, _, _, _]) n_i351 rfl n_mx rfl rfl rfl ?_
      refine n_kinc (p' := 356) (vl' := [_, _, _, _, _, _, _, _, _, _, _, _, _, _, _, _, _]) n_i353 rfl n_mx rfl rfl rfl ?_
      refine n_kgoto (p' := 327) n_i356 (by decide) ?_
      rw [if_pos (by simpa using e342)] at q
      exact q
    · refine n_kpush (z := 0) (p' := 346) n_i345 rfl rfl rfl rfl ?_
      refine n_kgoto (p' := 350) n_i346 (by decide) ?_
      refine n_kadd (p' := 351) n_i350 rfl ?_
      refine n_kis (p' := 353) (vl' := [_, _, _, _, _, _, _, _, _, _, _, _, _, _, _, _, _]) n_i351 rfl n_mx rfl rfl rfl ?_
      refine n_kinc (p' := 356) (vl' := [_, _, _, _, _, _, _, _, _, _, _, _, _, _, _, _, _]) n_i353 rfl n_mx rfl rfl rfl ?_
      refine n_kgoto (p' := 327) n_i356 (by decide) ?_
      rw [if_neg (by simpa using e342)] at q
      exact q
def n_mp (A : Nat → Int → Int) (f : Nat) (ln i : Int) : Bool := decide (A 0 i ≠ ln) && decide (A (6 + f) i = 0)
theorem n_rbT {p : Int → Bool} {w : Int → Int} {j : Nat} {b B : Int} (hB : n_rb p w (j + 1) b = B) (h : p j = true ∧ (b < 0 ∨ w j ≤ w b)) : n_rb p w j j = B := by
  rw [n_rb, if_pos h] at hB
  exact hB
theorem n_rbF {p : Int → Bool} {w : Int → Int} {j : Nat} {b B : Int} (hB : n_rb p w (j + 1) b = B) (h : ¬ (p j = true ∧ (b < 0 ∨ w j ≤ w b))) : n_rb p w j b = B := by
  rw [n_rb, if_neg h] at hB
  exact hB
theorem n_best {f : Nat} {ln mn can told nn B : Int} (hf : f < F) (hR : 2 ≤ R ∧ R ≤ 5) (hF : 2 ≤ F ∧ F ≤ 7) (hL : ∀ i : Int, 0 ≤ i → i < R → 0 ≤ A 0 i ∧ A 0 i < 3) (hD : ∀ i : Int, 0 ≤ i → i < R → 0 ≤ A 1 i ∧ A 1 i ≤ 1000) (hH : ∀ i : Int, 0 ≤ i → i < R → A (6 + f) i = 0 ∨ A (6 + f) i = 1) (hr : A 5 (f : Int) = ((z_N0 + (6 + f) : Nat) : Int)) (l0 : 0 ≤ ln) (l1 : ln < 3) (hx : ∀ k : Int, n_J 12 96 P (n_T F) (n_l F R) 492 [.ref 0, .ref 1, n_v 1, n_v R, n_v F, n_p 0, n_p 1, n_p 2, n_p 3, n_p 4, n_p 5, n_p (6 + F), n_v f, n_v ln, n_v mn, n_v can, n_v told, n_v nn, n_v B, n_v k] [] (7 + 2 * F) A K b) : ∀ (j : Nat) (k bb : Int), j ≤ R → k = (j : Int) - 1 → n_rb (n_mp A f ln) (A 1) j bb = B → -1 ≤ bb → bb < R → n_J 12 96 P (n_T F) (n_l F R) 421 [.ref 0, .ref 1, n_v 1, n_v R, n_v F, n_p 0, n_p 1, n_p 2, n_p 3, n_p 4, n_p 5, n_p (6 + F), n_v f, n_v ln, n_v mn, n_v can, n_v told, n_v nn, n_v bb, n_v k] [] (7 + 2 * F) A K b := by
  intro j
  induction j with
  | zero =>
    intro k bb _ hk hB b0 b1
    have hB : bb = B := hB
    subst hB
    refine n_kil (p' := 423) n_i421 rfl rfl ?_
    refine n_c1lt (t := 492) (p' := 426) n_i423 (by decide) rfl ⟨by omega, by omega⟩ (fun e => ?_) (fun e => absurd e (by omega))
    exact hx k
  | succ j ih =>
    intro k bb hj hk hB b0 b1
    obtain rfl : k = (j : Int) := by omega
    have hk1 := hL j (by omega) (by omega)
    have hk2 := hD j (by omega) (by omega)
    have hk3 := hH j (by omega) (by omega)
    have mp : n_mp A f ln j = true ↔ A 0 j ≠ ln ∧ A (6 + f) j = 0 := by
      unfold n_mp
      rw [Bool.and_eq_true, decide_eq_true_eq, decide_eq_true_eq]
    refine n_kil (p' := 423) n_i421 rfl rfl ?_
    refine n_c1lt (t := 492) (p' := 426) n_i423 (by decide) rfl ⟨by omega, by omega⟩ (fun e => absurd e (by omega)) (fun e => ?_)
    refine n_kal (p' := 428) n_i426 rfl rfl ?_
    refine n_kil (p' := 430) n_i428 rfl rfl ?_
    refine n_kiald (p' := 431) n_i430 (by omega) n_T0 (by omega) (by rw [n_l0]; omega) (by rw [n_l0]; omega) rfl ?_
    refine n_kil (p' := 433) n_i431 rfl rfl ?_
    refine n_c2eq (t := 451) (p' := 436) n_i433 (by decide) rfl ⟨by omega, by omega⟩ ⟨by omega, by omega⟩ (fun e433 => ?_) (fun e433 => ?_)
    · refine n_kpush (z := 0) (p' := 452) n_i451 rfl rfl rfl rfl ?_
      refine n_kis (p' := 454) (vl' := [_, _, _, _, _, _, _, _, _, _, _, _, _, _, _, _, _, _, _, _, _]) n_i452 rfl n_mx rfl rfl rfl ?_
      refine n_kil (p' := 456) n_i454 rfl rfl ?_
      refine n_c1eq (t := 482) (p' := 459) n_i456 (by decide) rfl ⟨by omega, by omega⟩ (fun e => ?_) (fun e => absurd e (by decide))
      refine n_kil (p' := 484) n_i482 rfl rfl ?_
      refine n_kis (p' := 486) (vl' := [_, _, _, _, _, _, _, _, _, _, _, _, _, _, _, _, _, _, _, _, _]) n_i484 rfl n_mx rfl rfl rfl ?_
      refine n_kinc (p' := 489) (vl' := [_, _, _, _, _, _, _, _, _, _, _, _, _, _, _, _, _, _, _, _, _]) n_i486 rfl n_mx rfl rfl rfl ?_
      refine n_kgoto (p' := 421) n_i489 (by decide) ?_
      exact n_J.pre (vr := [_]) (ih ((j : Int) + -1) bb (by omega) (by omega) (n_rbF hB (fun q => (mp.mp q.1).1 e433)) (by omega) (by omega))
    · refine n_kal (p' := 438) n_i436 rfl rfl ?_
      refine n_kil (p' := 440) n_i438 rfl rfl ?_
      refine n_kaald (p' := 441) (r := 6 + f) n_i440 (by omega) (Or.inr n_T5) (by omega) (by rw [n_l5]; omega) (by rw [n_l5]; omega) hr rfl ?_
      refine n_kil (p' := 443) n_i441 rfl rfl ?_
      refine n_kbald (p' := 444) n_i443 (by omega) (n_T6 hf) (by omega) (by rw [(n_l6 hf)]; omega) (by rw [(n_l6 hf)]; omega) rfl ?_
      refine n_c1ne (t := 451) (p' := 447) n_i444 (by decide) rfl ⟨by omega, by omega⟩ (fun e444 => ?_) (fun e444 => ?_)
      · refine n_kpush (z := 0) (p' := 452) n_i451 rfl rfl rfl rfl ?_
        refine n_kis (p' := 454) (vl' := [_, _, _, _, _, _, _, _, _, _, _, _, _, _, _, _, _, _, _, _, _]) n_i452 rfl n_mx rfl rfl rfl ?_
        refine n_kil (p' := 456) n_i454 rfl rfl ?_
        refine n_c1eq (t := 482) (p' := 459) n_i456 (by decide) rfl ⟨by omega, by omega⟩ (fun e => ?_) (fun e => absurd e (by decide))
        refine n_kil (p' := 484) n_i482 rfl rfl ?_
        refine n_kis (p' := 486) (vl' := [_, _, _, _, _, _, _, _, _, _, _, _, _, _, _, _, _, _, _, _, _]) n_i484 rfl n_mx rfl rfl rfl ?_
        refine n_kinc (p' := 489) (vl' := [_, _, _, _, _, _, _, _, _, _, _, _, _, _, _, _, _, _, _, _, _]) n_i486 rfl n_mx rfl rfl rfl ?_
        refine n_kgoto (p' := 421) n_i489 (by decide) ?_
        exact n_J.pre (vr := [_]) (ih ((j : Int) + -1) bb (by omega) (by omega) (n_rbF hB (fun q => e444 (mp.mp q.1).2)) (by omega) (by omega))
      · refine n_kpush (z := 1) (p' := 448) n_i447 rfl rfl rfl rfl ?_
        refine n_kgoto (p' := 452) n_i448 (by decide) ?_
        refine n_kis (p' := 454) (vl' := [_, _, _, _, _, _, _, _, _, _, _, _, _, _, _, _, _, _, _, _, _]) n_i452 rfl n_mx rfl rfl rfl ?_
        refine n_kil (p' := 456) n_i454 rfl rfl ?_
        refine n_c1eq (t := 482) (p' := 459) n_i456 (by decide) rfl ⟨by omega, by omega⟩ (fun e => absurd e (by decide)) (fun e => ?_)
        refine n_kil (p' := 461) n_i459 rfl rfl ?_
        refine n_c1lt (t := 477) (p' := 464) n_i461 (by decide) rfl ⟨by omega, by omega⟩ (fun e461 => ?_) (fun e461 => ?_)
        · refine n_kil (p' := 479) n_i477 rfl rfl ?_
          refine n_kgoto (p' := 484) n_i479 (by decide) ?_
          refine n_kis (p' := 486) (vl' := [_, _, _, _, _, _, _, _, _, _, _, _, _, _, _, _, _, _, _, _, _]) n_i484 rfl n_mx rfl rfl rfl ?_
          refine n_kinc (p' := 489) (vl' := [_, _, _, _, _, _, _, _, _, _, _, _, _, _, _, _, _, _, _, _, _]) n_i486 rfl n_mx rfl rfl rfl ?_
          refine n_kgoto (p' := 421) n_i489 (by decide) ?_
          exact n_J.pre (vr := [_]) (ih ((j : Int) + -1) j (by omega) (by omega) (n_rbT hB ⟨mp.mpr ⟨e433, e444⟩, Or.inl e461⟩) (by omega) (by omega))
        · have hb := hD bb (by omega) (by omega)
          refine n_kal (p' := 466) n_i464 rfl rfl ?_
          refine n_kil (p' := 468) n_i466 rfl rfl ?_
          refine n_kiald (p' := 469) n_i468 (by omega) n_T1 (by omega) (by rw [n_l1]; omega) (by rw [n_l1]; omega) rfl ?_
          refine n_kal (p' := 471) n_i469 rfl rfl ?_
          refine n_kil (p' := 473) n_i471 rfl rfl ?_
          refine n_kiald (p' := 474) n_i473 (by omega) n_T1 (by omega) (by rw [n_l1]; omega) (by rw [n_l1]; omega) rfl ?_
          refine n_c2gt (t := 482) (p' := 477) n_i474 (by decide) rfl ⟨by omega, by omega⟩ ⟨by omega, by omega⟩ (fun e474 => ?_) (fun e474 => ?_)
          · refine n_kil (p' := 484) n_i482 rfl rfl ?_
            refine n_kis (p' := 486) (vl' := [_, _, _, _, _, _, _, _, _, _, _, _, _, _, _, _, _, _, _, _, _]) n_i484 rfl n_mx rfl rfl rfl ?_
            refine n_kinc (p' := 489) (vl' := [_, _, _, _, _, _, _, _, _, _, _, _, _, _, _, _, _, _, _, _, _]) n_i486 rfl n_mx rfl rfl rfl ?_
            refine n_kgoto (p' := 421) n_i489 (by decide) ?_
            exact n_J.pre (vr := [_]) (ih ((j : Int) + -1) bb (by omega) (by omega) (n_rbF hB (fun q => by omega)) (by omega) (by omega))
          · refine n_kil (p' := 479) n_i477 rfl rfl ?_
            refine n_kgoto (p' := 484) n_i479 (by decide) ?_
            refine n_kis (p' := 486) (vl' := [_, _, _, _, _, _, _, _, _, _, _, _, _, _, _, _, _, _, _, _, _]) n_i484 rfl n_mx rfl rfl rfl ?_
            refine n_kinc (p' := 489) (vl' := [_, _, _, _, _, _, _, _, _, _, _, _, _, _, _, _, _, _, _, _, _]) n_i486 rfl n_mx rfl rfl rfl ?_
            refine n_kgoto (p' := 421) n_i489 (by decide) ?_
            exact n_J.pre (vr := [_]) (ih ((j : Int) + -1) j (by omega) (by omega) (n_rbT hB ⟨mp.mpr ⟨e433, e444⟩, Or.inr e474⟩) (by omega) (by omega))
end
