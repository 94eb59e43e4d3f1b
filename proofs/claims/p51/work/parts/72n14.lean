/-! needs: n13. A film's dealing, and the search from behind -/
theorem k_dlt {f l : Int} {R : Nat} (f0 : 0 ≤ f) (f1 : f < 20) (hR8 : R ≤ 8) : ∀ (t : Nat) (G : Nat → Int → Int) (M : Int → Int → Int) (S : ZS), n_K G M S → G 0 1 = R → (∀ k, 0 ≤ k → k < 8 → 0 ≤ G 2 k ∧ G 2 k + t ≤ 1000) → n_K (n_sG G (n_dlt (G 1) R l t (G 2, M f)).1) (n_sM M f (n_dlt (G 1) R l t (G 2, M f)).2) (zit (sF f l) t S)
  | 0, G, M, S, h, hR, hb => h.eq (fun a ha => by
      funext k
      exact if_neg ha) (fun k _ _ => rfl) (fun g k _ _ _ _ => by
      unfold n_sM
      split
      · rename_i e
        rw [e]
        rfl
      · rfl)
  | t + 1, G, M, S, h, hR, hb => by
    have h1 := k_sF (l := l) h f0 f1 hR hR8 (fun k k0 k1 => ⟨(hb k k0 k1).1, by have := (hb k k0 k1).2; omega⟩)
    have ih := k_dlt (f := f) (l := l) f0 f1 hR8 t _ _ _ h1 hR (fun k k0 k1 => by
      have := hb k k0 k1
      show 0 ≤ (if k = _ then G 2 k + 1 else G 2 k) ∧ (if k = _ then G 2 k + 1 else G 2 k) + (t : Int) ≤ 1000
      split <;> omega)
    have e1 : n_sG G (n_dl1 (G 1) R l (G 2, M f)).1 1 = G 1 := rfl
    have e2 : (n_sG G (n_dl1 (G 1) R l (G 2, M f)).1 2, n_sM M f (n_dl1 (G 1) R l (G 2, M f)).2 f) = n_dl1 (G 1) R l (G 2, M f) := Prod.ext rfl (funext fun k => if_pos rfl)
    rw [e1, e2] at ih
    refine ih.eq (fun a ha => ?_) (fun k _ _ => rfl) (fun g k _ _ _ _ => ?_)
    · funext k
      unfold n_sG
      rw [if_neg ha, if_neg ha, if_neg ha]
    · unfold n_sM
      by_cases e : g = f
      · rw [if_pos e, if_pos e]
        rfl
      · rw [if_neg e, if_neg e, if_neg e]
theorem k_deal {G : Nat → Int → Int} {M : Int → Int → Int} {S : ZS} {f n l : Int} {R : Nat} (h : n_K G M S) (f0 : 0 ≤ f) (f1 : f < G 0 0) (c20 : G 0 0 ≤ 20) (hl : G 7 f = l) (n0 : 1 ≤ n) (n1 : n ≤ 8) (hR : G 0 1 = R) (hR8 : R ≤ 8) (hb : ∀ k, 0 ≤ k → k < 8 → 0 ≤ G 2 k ∧ G 2 k ≤ 900) (hM : ∀ k : Int, 0 ≤ k → k < R → M f k = -2) : (zcnt (n_fr (G 1) (M f) l) R 0 < n → f_w_deal [f, n] S = ((0, [-900003]), S)) ∧ (n ≤ zcnt (n_fr (G 1) (M f) l) R 0 → ∃ S', f_w_deal [f, n] S = ((0, [n]), S') ∧ n_K (n_sG G (n_dlt (G 1) R l n.toNat (G 2, M f)).1) (n_sM M f (n_dlt (G 1) R l n.toNat (G 2, M f)).2) S') := by
  obtain ⟨⟨h1, h2, h3⟩, h4, h5, -⟩ := id h
  have hland : S r_Film_land f 0 0 = l := by rw [((h5 f f0 (by omega)).1 f1).2.2, hl]
  have hfree : zcnt (dpF S f l) (S r_Readings_readerCount 0 0 0).toNat 0 = zcnt (n_fr (G 1) (M f) l) R 0 := by
    rw [h2, hR, Int.toNat_natCast]
    refine zcnt_cg R 0 (fun i i0 i1 => ?_)
    unfold dpF n_fr
    rw [(h4 i i0 (by omega)).1 (by omega), (h5 f f0 (by omega)).2.2.2.2 i i0 (by omega)]
  have hx : f_x_deal [f, n] S = if n ≤ zcnt (n_fr (G 1) (M f) l) R 0 then g_x_deal ((1061, [f, n, l, 0]), S) else ((4, []), S) := by
    unfold f_x_deal
    rw [g_x_deal_0, q_film (by omega) (by omega), if_pos ⟨f0, by omega⟩, e_bnd0, zb_n, q_within, if_neg (by rw [if_pos ⟨n0, n1⟩]; decide), hland, q_countFree (by omega) (by omega), hfree, e_bnd, zb_d]
  refine ⟨fun hlt => ?_, fun hle => ?_⟩
  · unfold f_w_deal
    dsimp only
    rw [hx, if_neg (by omega)]
    rfl
  · have hK := k_dlt (f := f) (l := l) f0 (by omega) hR8 n.toNat G M S h hR (fun k k0 k1 => by
      have := hb k k0 k1
      omega)
    refine ⟨_, ?_, hK⟩
    have hloop := q_dealLoop (f := f) (l := l) n1 n.toNat 0 S (by omega) (by omega) (by omega) (by omega)
    have hcount : zcnt (fun k => decide (zit (sF f l) n.toNat S r_Readings_marks_r f 0 k ≠ -2)) (S r_Readings_readerCount 0 0 0).toNat 0 = n := by
      rw [h2, hR, Int.toNat_natCast]
      have e : zcnt (fun k => decide (zit (sF f l) n.toNat S r_Readings_marks_r f 0 k ≠ -2)) R 0 = zcnt (fun k => decide ((n_dlt (G 1) R l n.toNat (G 2, M f)).2 k ≠ -2)) R 0 := zcnt_cg R 0 (fun i i0 i1 => by
        rw [(hK.2.2.1 f f0 (by omega)).2.2.2.2 i i0 (by omega)]
        unfold n_sM
        simp)
      have e2 : zcnt (fun k => decide ((G 2, M f).2 k ≠ -2)) R 0 = 0 := by
        have : zcnt (fun k => decide ((G 2, M f).2 k ≠ -2)) R 0 = zcnt (fun _ => false) R 0 := zcnt_cg R 0 (fun i i0 i1 => by
          show decide (M f i ≠ -2) = false
          rw [hM i i0 (by omega)]
          decide)
        rw [this]
        have z : ∀ (j : Nat) (k : Int), zcnt (fun _ => false) j k = 0 := by
          intro j
          induction j with
          | zero => intro k; rfl
          | succ j ih => intro k; rw [zcnt, ih]; rfl
        exact z R 0
      rw [e, (n_dlt_ct n.toNat (G 2, M f) (by show ((n.toNat : Nat) : Int) ≤ zcnt (n_fr (G 1) (M f) l) R 0; omega)).2, e2]
      omega
    rw [hcount] at hloop
    unfold f_w_deal
    dsimp only
    rw [hx, if_pos hle, hloop]
    rfl
/-- the search from behind: of like ones the lowest -/
def n_rb (p : Int → Bool) (w : Int → Int) : Nat → Int → Int
  | 0, b => b
  | j + 1, b => n_rb p w j (if p j = true ∧ (b < 0 ∨ w j ≤ w b) then (j : Int) else b)
theorem n_rb_ok {p : Int → Bool} {w : Int → Int} {R : Nat} : ∀ (j : Nat) (b : Int), j ≤ R → ((b = -1 ∧ ∀ i, (j : Int) ≤ i → i < R → p i = false) ∨ (p b = true ∧ j ≤ b ∧ b < R ∧ ∀ i, (j : Int) ≤ i → i < R → p i = true → i = b ∨ w b < w i ∨ (w i = w b ∧ b < i))) → n_rb p w j b = zbest p w R 0 (-1)
  | 0, b, _, h => by
    rcases h with ⟨rfl, h⟩ | ⟨h1, h2, h3, h4⟩
    · rw [zbest_none R 0 (-1) (fun i i0 i1 => h i (by omega) (by omega))]
      rfl
    · rw [zbest_is h1 (by omega) R 0 (-1) (by omega) (by omega) (Or.inl (by omega)) (fun i i0 i1 => h4 i (by omega) (by omega))]
      rfl
  | j + 1, b, hj, h => by
    show n_rb p w j (if p j = true ∧ (b < 0 ∨ w j ≤ w b) then (j : Int) else b) = _
    refine n_rb_ok j _ (by omega) ?_
    by_cases hp : p j = true
    · by_cases hw : b < 0 ∨ w j ≤ w b
      · rw [if_pos ⟨hp, hw⟩]
        refine Or.inr ⟨hp, Int.le_refl _, by omega, fun i i0 i1 hi => ?_⟩
        by_cases e : i = j
        · exact Or.inl e
        · rcases h with ⟨rfl, h⟩ | ⟨h1, h2, h3, h4⟩
          · have := h i (by omega) i1
            rw [hi] at this
            cases this
          · have hw : w j ≤ w b := by
              rcases hw with q | q
              · omega
              · exact q
            rcases h4 i (by omega) i1 hi with rfl | q | ⟨q, q2⟩
            · by_cases e3 : w j < w i
              · exact Or.inr (Or.inl e3)
              · exact Or.inr (Or.inr ⟨by omega, by omega⟩)
            · exact Or.inr (Or.inl (by omega))
            · by_cases e3 : w j < w i
              · exact Or.inr (Or.inl e3)
              · exact Or.inr (Or.inr ⟨by omega, by omega⟩)
      · rw [if_neg (fun q => hw q.2)]
        rcases h with ⟨rfl, h⟩ | ⟨h1, h2, h3, h4⟩
        · exact absurd (Or.inl (by omega)) hw
        · refine Or.inr ⟨h1, by omega, h3, fun i i0 i1 hi => ?_⟩
          by_cases e : i = j
          · subst e
            exact Or.inr (Or.inl (by omega))
          · exact h4 i (by omega) i1 hi
    · rw [if_neg (fun q => hp q.1)]
      rcases h with ⟨rfl, h⟩ | ⟨h1, h2, h3, h4⟩
      · refine Or.inl ⟨rfl, fun i i0 i1 => ?_⟩
        by_cases e : i = j
        · subst e
          simpa using hp
        · exact h i (by omega) i1
      · refine Or.inr ⟨h1, by omega, h3, fun i i0 i1 hi => ?_⟩
        by_cases e : i = j
        · subst e
          exact absurd hi hp
        · exact h4 i (by omega) i1 hi
theorem n_rb_best {p : Int → Bool} {w : Int → Int} {R : Nat} : n_rb p w R (-1) = zbest p w R 0 (-1) := n_rb_ok R (-1) (Nat.le_refl _) (Or.inl ⟨rfl, fun i i0 i1 => by omega⟩)
