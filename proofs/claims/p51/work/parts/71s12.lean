/-! What a method leaves as it is -/
/-- all regions but those of W are as before, where it comes to an end -/
def z_kp (nv : Nat) (W : List Nat) (φ : ZFn) : Prop := ∀ (L : List Int) (S : ZS), L.length = nv → (φ L S).1.1 ≠ 999 → ∀ (r : Nat) (i j k : Int), W.contains r = false → (φ L S).2 r i j k = S r i j k
/-- methods that are called, the number of their arguments, what they write -/
abbrev ZK : Type := List (Nat × Nat × List Nat)
def z_sub (V W : List Nat) : Bool := V.all fun r => W.contains r
def z_kc (KT : ZK) (W : List Nat) (mt n : Nat) : Bool := KT.any fun e => e.1 == mt && (e.2.1 == n && z_sub e.2.2 W)
def z_wr1 (KT : ZK) (W : List Nat) (op : ZO) : Bool := match op with
  | (6, r :: _) => W.contains r.1
  | (8, _) => W.contains z_rA
  | (9, [_, _, _, _, r', _, _, _, _]) => W.contains r'.1
  | (7, mt :: xs) => z_kc KT W mt.1 xs.length
  | (11, mt :: m :: xs) => z_kc KT W mt.1 (xs.drop m.1).length && (xs.take m.1).all fun e => decide (e.1 < 900)
  | (13, mt :: _ :: xs) => decide (mt.1 = 163) && (z_kc KT W mt.1 xs.length && decide (xs.length = 2))
  | _ => true
theorem e_upd_kp {S : ZS} {W : List Nat} {r r' : Nat} {i j k z i' j' k' : Int} (h : W.contains r = true) (h' : W.contains r' = false) : e_upd S r i j k z r' i' j' k' = S r' i' j' k' := if_neg fun q => by
  rw [q.1, h] at h'
  cases h'
theorem e_acp_kp {S : ZS} {W : List Nat} {r r' ρ : Nat} {x y sp x' y' dp n i j k : Int} (h : W.contains r' = true) (h' : W.contains ρ = false) : e_acp S r x y sp r' x' y' dp n ρ i j k = S ρ i j k := if_neg fun q => by
  rw [q.1, h] at h'
  cases h'
/-- the callees keep what they say -/
def z_kOK (KT : ZK) (F : Nat → ZFn) : Prop := ∀ e ∈ KT, z_kp e.2.1 e.2.2 (F e.1)
theorem z_kc_ok {KT : ZK} {F : Nat → ZFn} (hK : z_kOK KT F) {W : List Nat} {mt n : Nat} (h : z_kc KT W mt n = true) : z_kp n W (F mt) := by
  obtain ⟨e, e1, e2⟩ := List.any_eq_true.mp h
  simp only [Bool.and_eq_true, beq_iff_eq] at e2
  obtain ⟨rfl, rfl, e3⟩ := e2
  intro L S hL hc r i j k hr
  refine hK e e1 L S hL hc r i j k ?_
  cases hq : e.2.2.contains r with
  | false => rfl
  | true =>
    have := List.all_eq_true.mp e3 r (by simpa using hq)
    rw [hr] at this
    cases this
theorem z_ev_kp {KT : ZK} {F : Nat → ZFn} {W : List Nat} (hK : z_kOK KT F) (h163 : ∀ L S, (F 163 L S).1.1 = 0 ∨ (∀ n, z_kc KT W 163 n = false)) : ∀ (n : Nat) (p : List ZO) (ν : List Int) (S : ZS), (p.all (z_wr1 KT W)) = true → (z_ev F n p ν S).1.1 ≠ 999 → ∀ (r : Nat) (i j k : Int), W.contains r = false → (z_ev F n p ν S).2 r i j k = S r i j k
  | 0, _, _, _, _, _, _, _, _, _, _ => rfl
  | _ + 1, [], _, _, _, _, _, _, _, _, _ => rfl
  | n + 1, op :: p, ν, S, hp, hc, r, i, j, k, hr => by
    rw [List.all_cons, Bool.and_eq_true] at hp
    obtain ⟨h1, h2⟩ := hp
    have hd : ∀ o, ((p.drop o).all (z_wr1 KT W)) = true := fun o => List.all_eq_true.mpr fun x hx => List.all_eq_true.mp h2 x (List.mem_of_mem_drop hx)
    have ih := fun ν S => z_ev_kp hK h163 n p ν S h2
    unfold z_ev at hc ⊢
    split at hc
    · rfl
    · rfl
    · rfl
    · rename_i c sk x y
      (try dsimp only at hc ⊢)
      cases hb : e_cmp c.1 (o_v ν x) (o_v ν y) with
      | true =>
        rw [hb] at hc
        exact ih _ _ hc r i j k hr
      | false =>
        rw [hb] at hc
        exact z_ev_kp hK h163 n _ _ _ (hd _) hc r i j k hr
    · exact ih _ _ hc r i j k hr
    · exact ih _ _ hc r i j k hr
    · exact (ih _ _ hc r i j k hr).trans (e_upd_kp h1 hr)
    · rename_i mt xs
      unfold e_bind at hc ⊢
      have hF := z_kc_ok hK h1 (xs.map (o_v ν)) S (List.length_map _)
      (try dsimp only at hc ⊢)
      cases hb : ((F mt.1 (xs.map (o_v ν)) S).1.1 == 0) with
      | true =>
        rw [hb] at hc
        have h0 : (F mt.1 (xs.map (o_v ν)) S).1.1 = 0 := by simpa using hb
        exact (ih _ _ hc r i j k hr).trans (hF (by rw [h0]; decide) r i j k hr)
      | false =>
        rw [hb] at hc
        have hc : (F mt.1 (xs.map (o_v ν)) S).1.1 % 1000 ≠ 999 := hc
        exact hF (fun q => by rw [q] at hc; exact hc rfl) r i j k hr
    · exact (ih _ _ hc r i j k hr).trans (e_upd_kp h1 hr)
    · exact (ih _ _ hc r i j k hr).trans (e_acp_kp h1 hr)
    · rfl
    · rename_i mt kk xs
      have h1 : (decide (mt.1 = 163) && (z_kc KT W mt.1 xs.length && decide (xs.length = 2))) = true := h1
      simp only [Bool.and_eq_true, decide_eq_true_eq] at h1
      obtain ⟨h3, h4, h5⟩ := h1
      refine (ih _ _ hc r i j k hr).trans (z_kc_ok hK h4 (xs.map (o_v ν)) S (List.length_map _) ?_ r i j k hr)
      rw [h3] at h4 ⊢
      rcases h163 (xs.map (o_v ν)) S with q | q
      · rw [q]; decide
      · rw [q] at h4; cases h4
    · rename_i mt m xs
      have h1 : (z_kc KT W mt.1 (xs.drop m.1).length && (xs.take m.1).all fun e => decide (e.1 < 900)) = true := h1
      rw [Bool.and_eq_true] at h1
      obtain ⟨h1, h9⟩ := h1
      unfold e_bindX at hc ⊢
      have hF := z_kc_ok hK h1 ((xs.drop m.1).map (o_v ν)) S (List.length_map _)
      (try dsimp only at hc ⊢)
      cases hb : ((F mt.1 ((xs.drop m.1).map (o_v ν)) S).1.1 == 0) with
      | true =>
        rw [hb] at hc
        have h0 : (F mt.1 ((xs.drop m.1).map (o_v ν)) S).1.1 = 0 := by simpa using hb
        exact (ih _ _ hc r i j k hr).trans (hF (by rw [h0]; decide) r i j k hr)
      | false =>
        rw [hb] at hc
        generalize hR : F mt.1 ((xs.drop m.1).map (o_v ν)) S = R at hc hF ⊢
        have key : ∀ (l : List ZN), (l.all fun e => decide (e.1 < 900)) = true → (e_hs R.1.1 (fun o => z_ev F n (p.drop o) ν R.2) R.2 l).1.1 ≠ 999 → (e_hs R.1.1 (fun o => z_ev F n (p.drop o) ν R.2) R.2 l).2 r i j k = S r i j k := by
          intro l
          induction l with
          | nil =>
            intro _ q
            have q : R.1.1 % 1000 ≠ 999 := q
            exact hF (fun q2 => by rw [q2] at q; exact q rfl) r i j k hr
          | cons e l ih2 =>
            intro h9 q
            rw [List.all_cons, Bool.and_eq_true, decide_eq_true_eq] at h9
            rw [e_hs] at q ⊢
            cases hb2 : (e.1 + 1 == R.1.1) with
            | true =>
              rw [hb2] at q
              have q8 : e.1 + 1 = R.1.1 := by simpa using hb2
              have q9 : R.1.1 ≠ 999 := by omega
              exact (z_ev_kp hK h163 n _ _ _ (hd _) q r i j k hr).trans (hF q9 r i j k hr)
            | false =>
              rw [hb2] at q
              exact ih2 h9.2 q
        exact key _ h9 hc
    · rfl
theorem z_h163 {KT : ZK} {F : Nat → ZFn} {W : List Nat} (h : (KT.all fun e => !(e.1 == 163)) = true) (L : List Int) (S : ZS) : (F 163 L S).1.1 = 0 ∨ (∀ n, z_kc KT W 163 n = false) := Or.inr fun n => by
  cases hq : z_kc KT W 163 n with
  | false => rfl
  | true =>
    obtain ⟨e, e1, e2⟩ := List.any_eq_true.mp hq
    have := List.all_eq_true.mp h e e1
    rw [Bool.and_eq_true] at e2
    rw [e2.1] at this
    cases this
theorem z_psi_kp {KT : ZK} {F : Nat → ZFn} {W : List Nat} {D : ZD} (hK : z_kOK KT F) (h163 : ∀ L S, (F 163 L S).1.1 = 0 ∨ (∀ n, z_kc KT W 163 n = false)) (hD : (D.all fun e => e.2.2.2.2.all (z_wr1 KT W)) = true) (R : ZR) (hR : (z_psi (z_st F D) R).1.1 ≠ 999) (r : Nat) (i j k : Int) (hr : W.contains r = false) : (z_psi (z_st F D) R).2 r i j k = R.2 r i j k := by
  have st : ∀ (pc : Nat) (L : List Int) (S : ZS), (z_st F D pc L S).1.1 ≠ 999 → (z_st F D pc L S).2 r i j k = S r i j k := by
    intro pc L S hc
    unfold z_st at hc ⊢
    split
    · rename_i e he
      rw [he] at hc
      exact z_ev_kp hK h163 _ _ _ _ (List.all_eq_true.mp hD e (List.mem_of_find?_eq_some he)) hc r i j k hr
    · rfl
  have it : ∀ (n : Nat) (R : ZR), (z_it (z_st F D) n R).1.1 < 1000 → (z_it (z_st F D) n R).1.1 ≠ 999 → (z_it (z_st F D) n R).2 r i j k = R.2 r i j k := by
    intro n
    induction n with
    | zero => intro R _ _; rfl
    | succ n ih =>
      intro R h1 h2
      by_cases c : R.1.1 < 1000
      · rw [z_it_fin c]
      · rw [z_it_go c] at h1 h2 ⊢
        refine (ih _ h1 h2).trans (st _ _ _ fun q => ?_)
        rw [z_it_fin (by rw [q]; decide)] at h2
        exact h2 q
  by_cases q : ∃ n, (z_it (z_st F D) n R).1.1 < 1000
  · obtain ⟨n, hn⟩ := q
    rw [z_psi_of hn] at hR ⊢
    exact it n R hn hR
  · exfalso
    apply hR
    unfold z_psi
    rw [dif_neg q]
theorem z_kOK.n {F : Nat → ZFn} : z_kOK [] F := fun _ h => absurd h List.not_mem_nil
theorem z_kOK.c {mt nv : Nat} {W : List Nat} {KT : ZK} {F : Nat → ZFn} {φ : ZFn} (hF : F mt = φ) (h : z_kp nv W φ) (hT : z_kOK KT F) : z_kOK ((mt, nv, W) :: KT) F := List.forall_mem_cons.mpr ⟨by subst hF; exact h, hT⟩
theorem z_kp_ev {KT : ZK} {F : Nat → ZFn} {W : List Nat} {n nv : Nat} {p : List ZO} {φ : ZFn} (hK : z_kOK KT F) (h163 : ∀ L S, (F 163 L S).1.1 = 0 ∨ (∀ n, z_kc KT W 163 n = false)) (hp : (p.all (z_wr1 KT W)) = true) (he : ∀ (L : List Int) (S : ZS), L.length = nv → z_ev F n p L S = φ L S) : z_kp nv W φ := fun L S hL hc r i j k hr => by
  rw [← he L S hL] at hc ⊢
  exact z_ev_kp hK h163 n p L S hp hc r i j k hr
/-! A long table of cuts, one by one -/
noncomputable def z_chk1 (C : ZC) (A : ZM) (I : List (Nat × Nat)) (mi : Nat) (l : ZD) : Bool := l.all fun e => z_go C A I mi 400 true e.2.2.2.1 e.2.2.2.2 e.1 e.2.2.1 [] e.2.1
theorem z_chk1.n {C : ZC} {A : ZM} {I : List (Nat × Nat)} {mi : Nat} : z_chk1 C A I mi [] = true := rfl
theorem z_chk1.c {C : ZC} {A : ZM} {I : List (Nat × Nat)} {mi pc nv n : Nat} {sg : ZL} {p : List ZO} {l : ZD} (h : z_go C A I mi 400 true n p pc sg [] nv = true) (hl : z_chk1 C A I mi l = true) : z_chk1 C A I mi ((pc, nv, sg, n, p) :: l) = true := by
  unfold z_chk1 at hl ⊢
  rw [List.all_cons, Bool.and_eq_true]
  exact ⟨h, hl⟩
/-- the rule where all cuts have the same locals -/
def z_Cm (ps : List Nat) (k : Nat) (sg : ZL) : ZC := ps.map fun pc => (pc, k, sg)
theorem z_turnA {Q : AH → Prop} {T : ZT} {ps : List Nat} {k : Nat} {sg : ZL} {mi g n f pc : Nat} {p : List ZO} {L : List Int} {S : ZS} {X : ZX} (hT : z_ok T) (hQ : ∀ h, Q h) (hg : z_go (z_Cm ps k sg) (z_A T) [] mi g true n p pc sg [] k = true) (hr : z_goes Q (z_Cm ps k sg) mi f pc L S X) : z_post Q (z_Cm ps k sg) mi f X (z_ev (z_F T) n p L S) := by
  obtain ⟨sg', d, al, h, mc, ms, r, h1, hrest⟩ := id hr
  have hs := h1
  unfold z_sg z_Cm at h1
  rw [Option.map_eq_some_iff] at h1
  obtain ⟨e, he, h2⟩ := h1
  obtain ⟨_, _, rfl⟩ := List.mem_map.mp (List.mem_of_find?_eq_some he)
  have h2 : ((k, sg) : Nat × ZL) = (L.length, sg') := h2
  rw [Prod.mk.injEq] at h2
  rw [← h2.2] at hs
  rw [h2.1] at hg
  exact z_turn hT.h (fun _ _ h => absurd h List.not_mem_nil) (fun _ _ _ _ _ _ _ _ _ _ _ _ _ _ => hQ _) (Or.inl hQ) hs (by rw [← h2.1] at hg ⊢; exact hg) hr
