/-! The class's order and the model's choice of the best that is left -/
theorem zbest_stay {p : Int → Bool} {w : Int → Int} {t : Int} (t0 : 0 ≤ t) : ∀ (j : Nat) (k : Int), (∀ i, k ≤ i → i < k + j → p i = true → w t ≤ w i) → zbest p w j k t = t
  | 0, _, _ => rfl
  | j + 1, k, h => by
    rw [zbest]
    have e : (if p k = true then (if t < 0 then k else if w k < w t then k else t) else t) = t := by
      by_cases q : p k = true
      · have := h k (Int.le_refl _) (by omega) q
        rw [if_pos q, if_neg (by omega), if_neg (by omega)]
      · rw [if_neg q]
    rw [e]
    exact zbest_stay t0 j (k + 1) (fun i a b => h i (by omega) (by omega))
theorem zbest_is {p : Int → Bool} {w : Int → Int} {t : Int} (hp : p t = true) (t0 : 0 ≤ t) : ∀ (j : Nat) (k b : Int), k ≤ t → t < k + j → (b < 0 ∨ w t < w b) → (∀ i, k ≤ i → i < k + j → p i = true → i = t ∨ w t < w i ∨ (w i = w t ∧ t < i)) → zbest p w j k b = t
  | 0, k, b, h1, h2, _, _ => by omega
  | j + 1, k, b, h1, h2, h3, h4 => by
    rw [zbest]
    by_cases e : k = t
    · subst e
      have e1 : (if p k = true then (if b < 0 then k else if w k < w b then k else b) else b) = k := by
        rw [if_pos hp]
        rcases h3 with h3 | h3
        · rw [if_pos h3]
        · rw [if_pos h3, ite_self]
      rw [e1]
      refine zbest_stay t0 j (k + 1) (fun i a b' q => ?_)
      have := h4 i (by omega) (by omega) q
      omega
    · refine zbest_is hp t0 j (k + 1) _ (by omega) (by omega) ?_ (fun i a b' => h4 i (by omega) (by omega))
      by_cases q : p k = true
      · have := h4 k (Int.le_refl _) (by omega) q
        rw [if_pos q]
        split
        · exact Or.inr (by omega)
        · split
          · exact Or.inr (by omega)
          · exact h3
      · rw [if_neg q]
        exact h3
theorem zbest_none {p : Int → Bool} {w : Int → Int} : ∀ (j : Nat) (k b : Int), (∀ i, k ≤ i → i < k + j → p i = false) → zbest p w j k b = b
  | 0, _, _, _ => rfl
  | j + 1, k, b, h => by
    rw [zbest, h k (Int.le_refl _) (by omega), if_neg (by decide)]
    exact zbest_none j (k + 1) b (fun i a b' => h i (by omega) (by omega))
/-- the first n places of an order: all that p allows of those below k, the greatest V first, of like ones the lowest -/
def zOrd (o w V : Int → Int) (p : Int → Bool) (n k : Int) : Prop := (∀ i, 0 ≤ i → i < n → 0 ≤ o i ∧ o i < k ∧ p (o i) = true ∧ w i = V (o i)) ∧ (∀ i j, 0 ≤ i → i < j → j < n → V (o j) < V (o i) ∨ (V (o j) = V (o i) ∧ o i < o j)) ∧ ∀ f, 0 ≤ f → f < k → p f = true → ∃ i, 0 ≤ i ∧ i < n ∧ o i = f
theorem zOrd.skip {o w V : Int → Int} {p : Int → Bool} {n k : Int} (h : zOrd o w V p n k) (hp : p k = false) : zOrd o w V p n (k + 1) := by
  obtain ⟨h1, h2, h3⟩ := h
  refine ⟨fun i a b => ?_, h2, fun f a b q => ?_⟩
  · have := h1 i a b
    exact ⟨this.1, by omega, this.2.2⟩
  · by_cases e : f = k
    · rw [e, hp] at q
      cases q
    · exact h3 f a (by omega) q
theorem zOrd.put {o w o' w' V : Int → Int} {p : Int → Bool} {n k t : Int} (h : zOrd o w V p n k) (k0 : 0 ≤ k) (hp : p k = true) (t0 : 0 ≤ t) (t1 : t ≤ n) (ha : t = 0 ∨ V k ≤ w (t - 1)) (hb : ∀ i, t ≤ i → i < n → w i < V k) (ho : ∀ i, o' i = if i = t then k else if t < i ∧ i ≤ n then o (i - 1) else o i) (hw : ∀ i, w' i = if i = t then V k else if t < i ∧ i ≤ n then w (i - 1) else w i) : zOrd o' w' V p (n + 1) (k + 1) := by
  obtain ⟨h1, h2, h3⟩ := h
  have lo : ∀ i, i < t → o' i = o i ∧ w' i = w i := fun i hi => by
    rw [ho, hw, if_neg (by omega), if_neg (by omega), if_neg (by omega), if_neg (by omega)]
    exact ⟨rfl, rfl⟩
  have at_ : o' t = k ∧ w' t = V k := by
    rw [ho, hw, if_pos rfl, if_pos rfl]
    exact ⟨rfl, rfl⟩
  have hi : ∀ i, t < i → i ≤ n → o' i = o (i - 1) ∧ w' i = w (i - 1) := fun i a b => by
    rw [ho, hw, if_neg (by omega), if_pos ⟨a, b⟩, if_neg (by omega), if_pos ⟨a, b⟩]
    exact ⟨rfl, rfl⟩
  refine ⟨fun i i0 i1 => ?_, fun i j i0 ij j1 => ?_, fun f f0 f1 q => ?_⟩
  · by_cases c1 : i < t
    · rw [(lo i c1).1, (lo i c1).2]
      have := h1 i i0 (by omega)
      exact ⟨this.1, by omega, this.2.2⟩
    · by_cases c2 : i = t
      · rw [c2, at_.1, at_.2]
        exact ⟨k0, by omega, hp, rfl⟩
      · rw [(hi i (by omega) (by omega)).1, (hi i (by omega) (by omega)).2]
        have := h1 (i - 1) (by omega) (by omega)
        exact ⟨this.1, by omega, this.2.2⟩
  · by_cases c1 : j < t
    · rw [(lo i (by omega)).1, (lo j c1).1]
      exact h2 i j i0 ij (by omega)
    · by_cases c2 : j = t
      · rw [c2, at_.1, (lo i (by omega)).1]
        have a1 := h1 i i0 (by omega)
        have a2 := h1 (t - 1) (by omega) (by omega)
        have a3 : V k ≤ w (t - 1) := by
          rcases ha with ha | ha
          · omega
          · exact ha
        by_cases c3 : i = t - 1
        · rw [c3] at a1 ⊢
          omega
        · have := h2 i (t - 1) i0 (by omega) (by omega)
          omega
      · rw [(hi j (by omega) (by omega)).1]
        by_cases c3 : i < t
        · rw [(lo i c3).1]
          exact h2 i (j - 1) i0 (by omega) (by omega)
        · by_cases c4 : i = t
          · rw [c4, at_.1]
            have a1 := h1 (j - 1) (by omega) (by omega)
            have a2 := hb (j - 1) (by omega) (by omega)
            omega
          · rw [(hi i (by omega) (by omega)).1]
            exact h2 (i - 1) (j - 1) (by omega) (by omega) (by omega)
  · by_cases e : f = k
    · exact ⟨t, t0, by omega, by rw [at_.1, e]⟩
    · obtain ⟨i, i0, i1, i2⟩ := h3 f f0 (by omega) q
      by_cases c1 : i < t
      · exact ⟨i, i0, by omega, by rw [(lo i c1).1, i2]⟩
      · refine ⟨i + 1, by omega, by omega, ?_⟩
        rw [(hi (i + 1) (by omega) (by omega)).1, Int.add_sub_cancel, i2]
/-- the best of those that are left is the next of the order -/
theorem zOrd.best {o w V : Int → Int} {p : Int → Bool} {n k i : Int} (h : zOrd o w V p n k) (i0 : 0 ≤ i) (i1 : i < n) {l : Int → Bool} (hl : ∀ f, 0 ≤ f → f < k → (l f = true ↔ ∃ j, i ≤ j ∧ j < n ∧ o j = f)) : zbest l (fun f => - V f) k.toNat 0 (-1) = o i := by
  obtain ⟨h1, h2, h3⟩ := h
  obtain ⟨a1, a2, a3, a4⟩ := h1 i i0 i1
  refine zbest_is ((hl _ a1 a2).mpr ⟨i, Int.le_refl _, i1, rfl⟩) a1 k.toNat 0 (-1) a1 (by omega) (Or.inl (by omega)) (fun f f0 f1 q => ?_)
  obtain ⟨j, j0, j1, j2⟩ := (hl f f0 (by omega)).mp q
  by_cases e : j = i
  · rw [e] at j2
    exact Or.inl j2.symm
  · have := h2 i j i0 (by omega) j1
    rw [j2] at this
    (try dsimp only)
    omega
/-- a film is put into the order -/
theorem q_put : ∀ (j : Nat) (f W place : Int) (S : ZS), place = j → place ≤ 1000 → ∃ S', g_x_putInOrder ((1003, [f, W, place]), S) = ((0, []), S') ∧ (∀ r, [r_x_order, r_x_weights].contains r = false → S' r = S r) ∧ ∃ t, 0 ≤ t ∧ t ≤ place ∧ (t = 0 ∨ W ≤ S r_x_weights 0 0 (t - 1)) ∧ (∀ i, t ≤ i → i < place → S r_x_weights 0 0 i < W) ∧ (∀ i, S' r_x_order 0 0 i = if i = t then f else if t < i ∧ i ≤ place then S r_x_order 0 0 (i - 1) else S r_x_order 0 0 i) ∧ ∀ i, S' r_x_weights 0 0 i = if i = t then W else if t < i ∧ i ≤ place then S r_x_weights 0 0 (i - 1) else S r_x_weights 0 0 i := by
  have fr : ∀ {S : ZS} {i j x y : Int} {r : Nat}, [r_x_order, r_x_weights].contains r = false → (e_upd (e_upd S r_x_order 0 0 i x) r_x_weights 0 0 j y) r = S r := fun {S i j x y r} hr => by
    have h1 : (r == r_x_order) = false := by
      cases e : r == r_x_order with
      | false => rfl
      | true => rw [beq_iff_eq] at e; rw [e] at hr; exact absurd hr (by decide)
    have h2 : (r == r_x_weights) = false := by
      cases e : r == r_x_weights with
      | false => rfl
      | true => rw [beq_iff_eq] at e; rw [e] at hr; exact absurd hr (by decide)
    funext a b d
    rw [e_un h2, e_un h1]
  intro j
  induction j with
  | zero =>
    intro f W place S hp hm
    refine ⟨e_upd (e_upd S r_x_order 0 0 place f) r_x_weights 0 0 place W, ?_, fun r hr => fr hr, 0, Int.le_refl _, by omega, Or.inl rfl, fun i a b => by omega, fun i => ?_, fun i => ?_⟩
    · rw [g_x_putInOrder_3, zb_d, if_pos (by omega)]
    · simp (decide := true) only [e_un, e_ur, true_and]
      by_cases q : i = 0
      · rw [if_pos (by omega), if_pos q]
      · rw [if_neg (by omega), if_neg q, if_neg (by omega)]
    · simp (decide := true) only [e_un, e_ur, true_and]
      by_cases q : i = 0
      · rw [if_pos (by omega), if_pos q]
      · rw [if_neg (by omega), if_neg q, if_neg (by omega)]
  | succ j ih =>
    intro f W place S hp hm
    have hw1 : e_wr (place - 1) = place - 1 := e_wr_id (by omega) (by omega)
    have hw2 : e_wr (place + -1) = place - 1 := by
      rw [e_wr_id (by omega) (by omega)]
      omega
    by_cases q : W ≤ S r_x_weights 0 0 (place - 1)
    · refine ⟨e_upd (e_upd S r_x_order 0 0 place f) r_x_weights 0 0 place W, ?_, fun r hr => fr hr, place, by omega, Int.le_refl _, Or.inr q, fun i a b => by omega, fun i => ?_, fun i => ?_⟩
      · rw [g_x_putInOrder_3, zb_d, if_neg (by omega), hw1, zb_d, if_pos q]
      · simp (decide := true) only [e_un, e_ur, true_and]
        by_cases q : i = place
        · rw [if_pos q, if_pos q]
        · rw [if_neg q, if_neg q, if_neg (by omega)]
      · simp (decide := true) only [e_un, e_ur, true_and]
        by_cases q : i = place
        · rw [if_pos q, if_pos q]
        · rw [if_neg q, if_neg q, if_neg (by omega)]
    · obtain ⟨S', e1, e2, t, t0, t1, ta, tb, to, tw⟩ := ih f W (place - 1) (e_upd (e_upd S r_x_order 0 0 place (S r_x_order 0 0 (place - 1))) r_x_weights 0 0 place (S r_x_weights 0 0 (place - 1))) (by omega) (by omega)
      have ro : ∀ i, (e_upd (e_upd S r_x_order 0 0 place (S r_x_order 0 0 (place - 1))) r_x_weights 0 0 place (S r_x_weights 0 0 (place - 1))) r_x_order 0 0 i = if i = place then S r_x_order 0 0 (place - 1) else S r_x_order 0 0 i := fun i => by
        simp (decide := true) only [e_un, e_ur, true_and]
      have rw_ : ∀ i, (e_upd (e_upd S r_x_order 0 0 place (S r_x_order 0 0 (place - 1))) r_x_weights 0 0 place (S r_x_weights 0 0 (place - 1))) r_x_weights 0 0 i = if i = place then S r_x_weights 0 0 (place - 1) else S r_x_weights 0 0 i := fun i => by
        simp (decide := true) only [e_un, e_ur, true_and]
      refine ⟨S', ?_, fun r hr => (e2 r hr).trans (fr hr), t, t0, by omega, ?_, fun i a b => ?_, fun i => ?_, fun i => ?_⟩
      · rw [g_x_putInOrder_3, zb_d, if_neg (by omega), hw1, zb_d, if_neg q, hw2]
        exact e1
      · rcases ta with ta | ta
        · exact Or.inl ta
        · rw [rw_, if_neg (by omega)] at ta
          exact Or.inr ta
      · by_cases c : i = place - 1
        · rw [c]
          omega
        · have := tb i a (by omega)
          rw [rw_, if_neg (by omega)] at this
          exact this
      · rw [to, ro, ro]
        by_cases c1 : i = t
        · rw [if_pos c1, if_pos c1]
        · rw [if_neg c1, if_neg c1]
          by_cases c2 : i = place
          · rw [if_neg (by omega), if_pos c2, if_pos (by omega), c2]
          · by_cases c3 : t < i ∧ i ≤ place
            · rw [if_pos (by omega), if_neg (by omega), if_pos c3]
            · rw [if_neg (by omega), if_neg c2, if_neg c3]
      · rw [tw, rw_, rw_]
        by_cases c1 : i = t
        · rw [if_pos c1, if_pos c1]
        · rw [if_neg c1, if_neg c1]
          by_cases c2 : i = place
          · rw [if_neg (by omega), if_pos c2, if_pos (by omega), c2]
          · by_cases c3 : t < i ∧ i ≤ place
            · rw [if_pos (by omega), if_neg (by omega), if_pos c3]
            · rw [if_neg (by omega), if_neg c2, if_neg c3]
theorem q_putInOrder {f W n : Int} {S : ZS} (n0 : 0 ≤ n) (n1 : n ≤ 1000) : ∃ S', f_x_putInOrder [n, f, W] S = ((0, []), S') ∧ (∀ r, [r_x_order, r_x_weights].contains r = false → S' r = S r) ∧ ∀ {V : Int → Int} {p : Int → Bool} {k : Int}, zOrd (fun i => S r_x_order 0 0 i) (fun i => S r_x_weights 0 0 i) V p n k → 0 ≤ k → p k = true → f = k → W = V k → zOrd (fun i => S' r_x_order 0 0 i) (fun i => S' r_x_weights 0 0 i) V p (n + 1) (k + 1) := by
  obtain ⟨S', e1, e2, t, t0, t1, ta, tb, to, tw⟩ := q_put n.toNat f W n S (by omega) n1
  refine ⟨S', ?_, e2, fun {V p k} h k0 hp hf hW => ?_⟩
  · show g_x_putInOrder ((1000, [n, f, W]), S) = _
    rw [g_x_putInOrder_0]
    exact e1
  · subst hf
    subst hW
    exact h.put k0 hp t0 t1 ta tb to tw
