/-! The flat state of a heap that was written -/
theorem z_layOK : ((List.range 51).all fun f => match z_tab[f]? with
  | some row => row.1.2.1.2 != 0 && (List.range row.1.2.1.2).all fun i => (List.range row.1.2.2.2).all fun j => z_at (row.1.1 + row.1.2.1.1 * i + row.1.2.2.1 * j) == some (f, i, j)
  | none => false) = true := by decide +kernel
theorem z_tab112 : z_tab[51]? = some ((365, (1, 0), (0, 1)), 1, []) := rfl
theorem z_tabLen : z_tab.length = 52 := by decide +kernel
theorem z_layLen : z_lay.length = 14 ∧ (z_lay[13]?).map List.length = some 1 := by decide +kernel
theorem z_at_lt {a : Nat} {x : Nat × Nat × Nat} (h : z_at a = some x) : a < 365 := by
  unfold z_at at h
  split at h
  · rename_i l hl
    have h1 := (List.getElem?_eq_some_iff.mp hl).1
    rw [z_layLen.1] at h1
    by_cases c : a / 28 = 13
    · have h2 := z_layLen.2
      rw [← c, hl] at h2
      have h2 : l.length = 1 := Option.some.inj h2
      have h3 := (List.getElem?_eq_some_iff.mp h).1
      omega
    · omega
  · cases h
theorem z_tab_lt {f : Nat} {row : ZF} (h : z_tab[f]? = some row) : f < 52 := by
  have := (List.getElem?_eq_some_iff.mp h).1
  rw [z_tabLen] at this
  exact this
theorem z_ad_lay {f a : Nat} {i j : Int} (h : z_ad f i j = some a) : 0 ≤ i ∧ 0 ≤ j ∧ ((f < 51 ∧ z_at a = some (f, i.toNat, j.toNat)) ∨ (f = 51 ∧ a = 365 + i.toNat ∧ j = 0)) := by
  unfold z_ad at h
  split at h
  · rename_i row hrow
    split at h
    · rename_i hc
      obtain ⟨h1, h2, h3, h4⟩ := hc
      refine ⟨h1, h3, ?_⟩
      have hf := z_tab_lt hrow
      by_cases e : f = 51
      · subst e
        rw [z_tab112] at hrow
        cases hrow
        right
        refine ⟨rfl, ?_, ?_⟩
        · have h := Option.some.inj h
          dsimp only at h
          omega
        · dsimp only at h4
          omega
      · left
        refine ⟨by omega, ?_⟩
        have k := List.all_eq_true.mp z_layOK f (List.mem_range.mpr (by omega))
        rw [hrow] at k
        dsimp only at k
        rw [Bool.and_eq_true] at k
        have k0 : row.1.2.1.2 ≠ 0 := by simpa using k.1
        have k1 := List.all_eq_true.mp k.2 i.toNat (List.mem_range.mpr (by omega))
        have k2 := List.all_eq_true.mp k1 j.toNat (List.mem_range.mpr (by omega))
        rw [beq_iff_eq] at k2
        have h := Option.some.inj h
        rw [← h]
        exact k2
    · cases h
  · cases h
theorem z_inj {f f' a : Nat} {i j i' j' : Int} (h : z_ad f i j = some a) (h' : z_ad f' i' j' = some a) : f' = f ∧ i' = i ∧ j' = j := by
  obtain ⟨a1, a2, a3⟩ := z_ad_lay h
  obtain ⟨b1, b2, b3⟩ := z_ad_lay h'
  have lt : ∀ {x}, z_at a = some x → a < 365 := fun hx => z_at_lt hx
  rcases a3 with ⟨c1, c2⟩ | ⟨c1, c2, c3⟩ <;> rcases b3 with ⟨d1, d2⟩ | ⟨d1, d2, d3⟩
  · rw [c2] at d2
    have := Option.some.inj d2
    simp only [Prod.mk.injEq] at this
    omega
  · have := lt c2
    omega
  · have := lt d2
    omega
  · omega
theorem z_ad_new {a i j : Int} {f b : Nat} (h : z_ad f i j = some b) (hb : 365 ≤ b) : f = 51 := by
  obtain ⟨a1, a2, a3⟩ := z_ad_lay h
  rcases a3 with ⟨c1, c2⟩ | ⟨c1, c2, c3⟩
  · have := z_at_lt c2
    omega
  · exact c1
theorem e_at_put {h : AH} {a t k : Nat} {vs : List Value} {v : Value} (ha : h[a]? = some (t, vs)) (hk : k < vs.length) (a' k' : Nat) : e_at (h.set a (t, vs.set k v)) a' k' = if a' = a ∧ k' = k then e_v v else e_at h a' k' := by
  have hl : a < h.length := (List.getElem?_eq_some_iff.mp ha).1
  unfold e_at
  by_cases e : a' = a
  · subst e
    rw [List.getElem?_set_self hl, ha]
    dsimp only
    by_cases e2 : k' = k
    · subst e2
      rw [if_pos ⟨rfl, rfl⟩, List.getElem?_set_self hk]
    · rw [if_neg (fun q => e2 q.2), List.getElem?_set_ne (Ne.symm e2)]
  · rw [if_neg (fun q => e q.1), List.getElem?_set_ne (Ne.symm e)]
theorem e_len_set {h : AH} {a t u : Nat} {vs ws : List Value} (ha : h[a]? = some (t, vs)) (hk : ws.length = vs.length) (a' : Nat) : e_len (h.set a (u, ws)) a' = e_len h a' := by
  have hl : a < h.length := (List.getElem?_eq_some_iff.mp ha).1
  unfold e_len
  by_cases e : a' = a
  · subst e
    rw [List.getElem?_set_self hl, ha]
    dsimp only
    rw [hk]
  · rw [List.getElem?_set_ne (Ne.symm e)]
theorem z_slot_inj {f s s' n : Nat} {k k' : Int} (h : z_slot f s k = some n) (h' : z_slot f s' k' = some n) : s' = s ∧ k' = k := by
  unfold z_slot at h h'
  split at h
  · rename_i row hrow
    rw [hrow] at h'
    dsimp only at h'
    split at h
    · rename_i e
      rw [if_pos e] at h'
      split at h <;> split at h' <;> first
        | (cases h; done)
        | (cases h'; done)
        | (cases h; have h' := Option.some.inj h'; omega)
    · rename_i e
      rw [if_neg e] at h'
      split at h <;> split at h' <;> first
        | (cases h; done)
        | (cases h'; done)
        | (cases h; have h' := Option.some.inj h'; omega)
  · cases h
theorem z_slot_lt {f s n : Nat} {k : Int} (h : z_slot f s k = some n) : s < 63 ∧ f < 52 := by
  unfold z_slot at h
  split at h
  · rename_i row hrow
    have := z_tab_lt hrow
    split at h <;> split at h <;> cases h <;> omega
  · cases h
theorem z_reg {f s : Nat} (hs : s < 64) : (f * 64 + s) / 64 = f ∧ (f * 64 + s) % 64 = s := by omega
/-- a number is written -/
theorem z_al_put {h : AH} {f s a t n : Nat} {i j k : Int} {vs : List Value} {v : Value} (hd : z_ad f i j = some a) (hs : z_slot f s k = some n) (ha : h[a]? = some (t, vs)) (hn : n < vs.length) : z_al (h.set a (t, vs.set n v)) = e_upd (z_al h) (f * 64 + s) i j k (e_v v) := by
  have hlt := z_slot_lt hs
  obtain ⟨g1, g2⟩ := z_reg (f := f) (s := s) (by omega)
  funext r i' j' k'
  unfold e_upd
  by_cases c : r = f * 64 + s ∧ (i' = i ∧ (j' = j ∧ k' = k))
  · rw [if_pos c]
    obtain ⟨rfl, rfl, rfl, rfl⟩ := c
    unfold z_al
    rw [if_neg (by unfold z_rA; omega), g1, g2, hd]
    dsimp only
    rw [hs]
    dsimp only
    rw [e_at_put ha hn, if_pos ⟨rfl, rfl⟩]
  · rw [if_neg c]
    unfold z_al
    split
    · rw [List.length_set]
    · split
      · rename_i b hb
        split
        · rename_i m hm
          rw [e_at_put ha hn, if_neg]
          rintro ⟨rfl, rfl⟩
          obtain ⟨q1, q2, q3⟩ := z_inj hd hb
          rw [q1] at hm
          obtain ⟨q4, q5⟩ := z_slot_inj hs hm
          exact c ⟨by omega, q2, q3, q5⟩
        · rw [e_len_set ha List.length_set]
      · rfl
theorem z_PI_put {h : AH} {f a t n : Nat} {i j : Int} {vs : List Value} {v : Value} (P : z_PI h) (hd : z_ad f i j = some a) (ha : h[a]? = some (t, vs)) (h1 : z_po f n = none) (h2 : z_pa f = none) : z_PI (h.set a (t, vs.set n v)) := by
  refine ⟨by rw [List.length_set]; exact P.1, fun f' i' j' a' t' vs' hd' ha' => ?_⟩
  by_cases e : a' = a
  · subst e
    rw [List.getElem?_set_self (List.getElem?_eq_some_iff.mp ha).1] at ha'
    cases ha'
    obtain ⟨rfl, rfl, rfl⟩ := z_inj hd hd'
    obtain ⟨p1, p2⟩ := P.2 _ _ _ _ _ _ hd ha
    refine ⟨fun s g w hg hw => ?_, fun g p e w hg hw => ?_⟩
    · have : n ≠ s := by
        intro q
        subst q
        rw [h1] at hg
        cases hg
      rw [List.getElem?_set_ne this] at hw
      exact p1 s g w hg hw
    · rw [h2] at hg
      cases hg
  · rw [List.getElem?_set_ne (Ne.symm e)] at ha'
    exact P.2 _ _ _ _ _ _ hd' ha'
/-- an array is made -/
theorem z_al_new {h : AH} {t : Nat} {vs : List Value} (P : z_PI h) (hv : ∀ v ∈ vs, e_v v = 0) : z_al (h ++ [(t, vs)]) = e_upd (z_al h) z_rA 0 0 0 (z_al h z_rA 0 0 0 + 1) ∧ z_PI (h ++ [(t, vs)]) ∧ z_ad 51 (z_al h z_rA 0 0 0) 0 = some h.length := by
  have p0 : 365 ≤ h.length := P.1
  have e0 : z_al h z_rA 0 0 0 = (h.length : Int) - 365 := by
    unfold z_al
    rw [if_pos rfl, if_pos ⟨rfl, rfl, rfl⟩]
    rfl
  have old : ∀ (b : Nat), b ≠ h.length → (h ++ [(t, vs)])[b]? = h[b]? := fun b hb => by
    rcases Nat.lt_or_ge b h.length with q | q
    · rw [List.getElem?_append_left q]
    · rw [List.getElem?_eq_none (by rw [List.length_append, List.length_singleton]; omega), List.getElem?_eq_none q]
  refine ⟨?_, ⟨by rw [List.length_append]; exact Nat.le_trans P.1 (Nat.le_add_right _ _), fun f i j a t' vs' hd ha => ?_⟩, ?_⟩
  · funext r i' j' k'
    unfold e_upd
    split
    · rename_i c
      obtain ⟨rfl, rfl, rfl, rfl⟩ := c
      rw [e0]
      unfold z_al
      rw [if_pos rfl, if_pos ⟨rfl, rfl, rfl⟩, List.length_append, List.length_singleton]
      show ((h.length + 1 : Nat) : Int) - 365 = _
      omega
    · rename_i c
      unfold z_al
      split
      · rename_i e
        rw [if_neg (fun q => c ⟨e, q.1, q.2.1, q.2.2⟩), if_neg (fun q => c ⟨e, q.1, q.2.1, q.2.2⟩)]
      · split
        · rename_i b hb
          by_cases e : b = h.length
          · have f112 := z_ad_new (a := 0) hb (by omega)
            split
            · rename_i m hm
              unfold e_at
              rw [e, List.getElem?_append_right (Nat.le_refl _), Nat.sub_self, List.getElem?_eq_none (Nat.le_refl h.length)]
              show (match vs[m]? with | some v => e_v v | none => 0) = 0
              split
              · rename_i v hv'
                exact hv v (List.mem_of_getElem? hv')
              · rfl
            · rw [if_neg (fun q => q.2.2 f112), if_neg (fun q => q.2.2 f112)]
          · split
            · unfold e_at
              rw [old b e]
            · unfold e_len
              rw [old b e]
        · rfl
  · by_cases e : a = h.length
    · have f112 := z_ad_new (a := 0) hd (by omega)
      subst f112
      exact ⟨fun s g v hg => (by cases hg), fun g p e' v hg => (by cases hg)⟩
    · rw [old a e] at ha
      exact P.2 _ _ _ _ _ _ hd ha
  · rw [e0]
    unfold z_ad
    rw [z_tab112]
    dsimp only
    rw [if_pos ⟨by omega, Or.inl rfl, by omega, by decide⟩]
    congr 1
    omega
theorem z_prs {at_ : Nat} : ∀ (xs : List Value) (b k : Nat) (ws : List Value), at_ + b + xs.length ≤ ws.length → (a_prs at_ (xs.zipIdx b) ws)[k]? = if at_ + b ≤ k ∧ k < at_ + b + xs.length then xs[k - (at_ + b)]? else ws[k]?
  | [], b, k, ws, _ => by
    rw [List.zipIdx_nil, a_prs, if_neg]
    rintro ⟨q1, q2⟩
    rw [List.length_nil] at q2
    omega
  | x :: xs, b, k, ws, hl => by
    rw [List.length_cons] at hl
    rw [List.zipIdx_cons, a_prs, z_prs xs (b + 1) k _ (by rw [List.length_set]; omega), List.length_cons]
    by_cases c : at_ + b = k
    · subst c
      rw [if_neg (by omega), if_pos (by omega), List.getElem?_set_self (by omega), Nat.sub_self]
      rfl
    · rw [List.getElem?_set_ne c]
      by_cases c2 : at_ + (b + 1) ≤ k ∧ k < at_ + (b + 1) + xs.length
      · rw [if_pos c2, if_pos (by omega), show k - (at_ + b) = (k - (at_ + (b + 1))) + 1 by omega, List.getElem?_cons_succ]
      · rw [if_neg c2, if_neg (by omega)]
theorem z_sl {vs : List Value} {sp n k : Nat} (hk : k < n) : (a_sl vs sp n)[k]? = vs[sp + k]? := by
  unfold a_sl
  rw [List.getElem?_take, if_pos hk, List.getElem?_drop]
/-- a stretch is copied -/
theorem z_al_acp {h : AH} {f f' a b t u n : Nat} {i j sp i' j' dp : Int} {vs ws : List Value} (hd : z_ad f i j = some a) (hd' : z_ad f' i' j' = some b) (ha : h[a]? = some (t, vs)) (hb : h[b]? = some (u, ws)) (m1 : ∀ k, 0 ≤ k → z_slot f 0 k = some k.toNat) (m2 : ∀ k, 0 ≤ k → z_slot f' 0 k = some k.toNat) (s0 : 0 ≤ sp) (d0 : 0 ≤ dp) (hs : sp.toNat + n ≤ vs.length) (ht : dp.toNat + n ≤ ws.length) : z_al (h.set b (u, a_prs dp.toNat (a_sl vs sp.toNat n).zipIdx ws)) = e_acp (z_al h) (f * 64) i j sp (f' * 64) i' j' dp n := by
  have hlen : (a_sl vs sp.toNat n).length = n := by
    unfold a_sl
    rw [List.length_take, List.length_drop]
    omega
  have hlb : b < h.length := (List.getElem?_eq_some_iff.mp hb).1
  have key : ∀ k : Nat, (a_prs dp.toNat (a_sl vs sp.toNat n).zipIdx ws)[k]? = if dp.toNat ≤ k ∧ k < dp.toNat + n then vs[sp.toNat + (k - dp.toNat)]? else ws[k]? := fun k => by
    have := z_prs (at_ := dp.toNat) (a_sl vs sp.toNat n) 0 k ws (by rw [hlen]; omega)
    rw [hlen] at this
    rw [this]
    by_cases c : dp.toNat ≤ k ∧ k < dp.toNat + n
    · rw [if_pos (by omega), if_pos c, z_sl (by omega)]
      congr 1
    · rw [if_neg (by omega), if_neg c]
  have lf : f < 52 := (z_slot_lt (m1 0 (Int.le_refl _))).2
  have lf' : f' < 52 := (z_slot_lt (m2 0 (Int.le_refl _))).2
  funext r x y k
  unfold e_acp
  by_cases c : r = f' * 64 ∧ (x = i' ∧ (y = j' ∧ (dp ≤ k ∧ k < dp + n)))
  · rw [if_pos c]
    obtain ⟨rfl, rfl, rfl, c1, c2⟩ := c
    unfold z_al
    rw [if_neg (by unfold z_rA; omega), if_neg (by unfold z_rA; omega), Nat.mul_div_cancel _ (by decide), Nat.mul_div_cancel _ (by decide), Nat.mul_mod_left, Nat.mul_mod_left, hd, hd']
    dsimp only
    rw [m2 k (by omega), m1 (k - dp + sp) (by omega)]
    dsimp only
    unfold e_at
    rw [List.getElem?_set_self hlb, ha]
    dsimp only
    rw [key, if_pos (by omega)]
    congr 2
    omega
  · rw [if_neg c]
    unfold z_al
    split
    · rw [List.length_set]
    · split
      · rename_i b' hb'
        split
        · rename_i m hm
          unfold e_at
          by_cases e : b' = b
          · subst e
            rw [List.getElem?_set_self hlb, hb]
            dsimp only
            obtain ⟨q1, q2, q3⟩ := z_inj hd' hb'
            rw [q1] at hm
            rw [key, if_neg]
            rintro ⟨r1, r2⟩
            have hm0 := m2 (m : Int) (by omega)
            rw [Int.toNat_natCast] at hm0
            obtain ⟨q4, q5⟩ := z_slot_inj hm0 hm
            exact c ⟨by omega, q2, q3, by omega, by omega⟩
          · rw [List.getElem?_set_ne (Ne.symm e)]
        · rw [e_len_set hb (a_prs_len _ _ _)]
      · rfl
theorem z_PI_set {h : AH} {f a t u : Nat} {i j : Int} {vs ws : List Value} (P : z_PI h) (hd : z_ad f i j = some a) (ha : h[a]? = some (t, vs)) (h1 : ∀ n, z_po f n = none) (h2 : z_pa f = none) : z_PI (h.set a (u, ws)) := by
  refine ⟨by rw [List.length_set]; exact P.1, fun f' i' j' a' t' vs' hd' ha' => ?_⟩
  by_cases e : a' = a
  · subst e
    obtain ⟨rfl, rfl, rfl⟩ := z_inj hd hd'
    exact ⟨fun s g w hg => (by rw [h1 s] at hg; cases hg), fun g p e w hg => (by rw [h2] at hg; cases hg)⟩
  · rw [List.getElem?_set_ne (Ne.symm e)] at ha'
    exact P.2 _ _ _ _ _ _ hd' ha'
