/-! Templates: what a state is an instance of -/
/-- the value that a template's symbol gets -/
def b_vl (ν : BN) (b : BV) : Int := if b.1 = 0 then b.2.2 else if b.1 = 1 then ν b.2.1 + b.2.2 else if b.1 = 2 then (b.2.1 : Int) else ν b.2.1
def b_vT (σ : List BV) (ν : BN) : BN := fun n => match σ[n]? with
  | some b => b_vl ν b
  | none => 0
def b_sb (σ : List BV) (b : BV) : Option BV := match b.1 with
  | 1 => match σ[b.2.1]? with
    | some (0, _, c) => some (0, 0, c + b.2.2)
    | some (1, m, c) => some (1, m, c + b.2.2)
    | _ => none
  | 3 => match σ[b.2.1]? with
    | some (2, m, _) => some (2, m, 0)
    | some (3, m, _) => some (3, m, 0)
    | _ => none
  | 7 => match σ[b.2.1]? with
    | some (0, _, c) => some (8, 0, c + b.2.2)
    | some (1, m, c) => some (7, m, c + b.2.2)
    | _ => none
  | _ => some b
theorem b_sb1 {σ : List BV} {n : Nat} {c : Int} : b_sb σ (1, n, c) = match σ[n]? with
    | some (0, _, k) => some (0, 0, k + c)
    | some (1, m, k) => some (1, m, k + c)
    | _ => none := rfl
theorem b_sb3 {σ : List BV} {n : Nat} {c : Int} : b_sb σ (3, n, c) = match σ[n]? with
    | some (2, m, _) => some (2, m, 0)
    | some (3, m, _) => some (3, m, 0)
    | _ => none := rfl
theorem b_sb7 {σ : List BV} {n : Nat} {c : Int} : b_sb σ (7, n, c) = match σ[n]? with
    | some (0, _, k) => some (8, 0, k + c)
    | some (1, m, k) => some (7, m, k + c)
    | _ => none := rfl
theorem b_sbo {σ : List BV} {b : BV} (h1 : b.1 ≠ 1) (h3 : b.1 ≠ 3) (h7 : b.1 ≠ 7) : b_sb σ b = some b := by
  unfold b_sb
  split <;> first | contradiction | rfl
/-- its symbols have been given -/
def b_lt (N : Nat) (σ : List BV) : Prop := ∀ (n : Nat) (b : BV), σ[n]? = some b → (b.1 = 1 ∨ b.1 = 3) → b.2.1 < N
theorem b_vT_at {σ : List BV} {ν : BN} {n : Nat} {b : BV} (h : σ[n]? = some b) : b_vT σ ν n = b_vl ν b := by unfold b_vT; rw [h]
theorem b_at_lt {σ : List BV} {n : Nat} {b : BV} (h : σ[n]? = some b) : n < σ.length := (List.getElem?_eq_some_iff.mp h).1
/-- an instance's value is the template's -/
theorem b_sb_i {σ : List BV} {ν : BN} {N : Nat} {b b' : BV} {z : Int} (hs : b_sb σ b = some b') (hk : b.1 < 2) (h : b_i N ν b' z) : b_i σ.length (b_vT σ ν) b z := by
  obtain ⟨k, n, c⟩ := b
  dsimp only at hk
  rcases Nat.lt_or_ge k 1 with q | q
  · obtain rfl : k = 0 := by omega
    cases hs
    rcases h with h | ⟨h, -⟩
    · exact Or.inl h
    · cases h
  · obtain rfl : k = 1 := by omega
    rw [b_sb1] at hs
    split at hs
    · rename_i c' he
      cases hs
      refine Or.inr ⟨rfl, b_at_lt he, ?_⟩
      rw [b_vT_at he]
      rcases h with ⟨-, h⟩ | ⟨h, -⟩
      · exact h
      · cases h
    · rename_i m c' he
      cases hs
      refine Or.inr ⟨rfl, b_at_lt he, ?_⟩
      rw [b_vT_at he]
      rcases h with ⟨h, -⟩ | ⟨-, -, h⟩
      · cases h
      · show z = ν m + c' + c
        have h : z = ν m + (c' + c) := h
        omega
    · cases hs
theorem b_sb_r {σ : List BV} {ν : BN} {N : Nat} {b b' : BV} {a : Nat} (hs : b_sb σ b = some b') (hk : b.1 = 2 ∨ b.1 = 3) (h : b_r N ν b' a) : b_r σ.length (b_vT σ ν) b a := by
  obtain ⟨k, n, c⟩ := b
  dsimp only at hk
  rcases hk with rfl | rfl
  · cases hs
    rcases h with h | ⟨h, -⟩
    · exact Or.inl h
    · cases h
  · rw [b_sb3] at hs
    split at hs
    · rename_i m _ he
      cases hs
      refine Or.inr ⟨rfl, b_at_lt he, ?_⟩
      rw [b_vT_at he]
      rcases h with ⟨-, h⟩ | ⟨h, -⟩
      · show (a : Int) = (m : Int)
        have h : a = m := h
        rw [h]
      · cases h
    · rename_i m _ he
      cases hs
      refine Or.inr ⟨rfl, b_at_lt he, ?_⟩
      rw [b_vT_at he]
      rcases h with ⟨h, -⟩ | ⟨-, -, h⟩
      · cases h
      · exact h
    · cases hs
theorem b_sb_v {σ : List BV} {ν : BN} {N : Nat} {b b' : BV} {v : Value} (hs : b_sb σ b = some b') (h : b_v N ν b' v) : b_v σ.length (b_vT σ ν) b v := by
  obtain ⟨k, n, c⟩ := b
  by_cases k0 : k = 0
  · subst k0
    cases hs
    obtain ⟨x, rfl, hx⟩ := h.int (by show 0 < 2; decide)
    exact b_sb_i (b := (0, n, c)) rfl (by show 0 < 2; decide) hx
  by_cases k1 : k = 1
  · subst k1
    have hk : b'.1 < 2 := by
      rw [b_sb1] at hs
      split at hs <;> cases hs <;> (dsimp only; decide)
    obtain ⟨x, rfl, hx⟩ := h.int hk
    exact b_sb_i hs (by show 1 < 2; decide) hx
  by_cases k2 : k = 2
  · subst k2
    cases hs
    obtain ⟨a, rfl, ha⟩ := h.ref (Or.inl rfl)
    exact b_sb_r (b := (2, n, c)) rfl (Or.inl rfl) ha
  by_cases k3 : k = 3
  · subst k3
    have hk : b'.1 = 2 ∨ b'.1 = 3 := by
      rw [b_sb3] at hs
      split at hs
      · cases hs; exact Or.inl rfl
      · cases hs; exact Or.inr rfl
      · cases hs
    obtain ⟨a, rfl, ha⟩ := h.ref hk
    exact b_sb_r hs (Or.inr rfl) ha
  by_cases k7 : k = 7
  · subst k7
    rw [b_sb7] at hs
    split at hs
    · rename_i c' he
      cases hs
      obtain ⟨x, rfl⟩ := h.long (Or.inr (Or.inr rfl))
      rcases h with h | ⟨-, h⟩ | ⟨h, -⟩
      · cases h
      · exact Or.inr (Or.inr ⟨rfl, b_at_lt he, by rw [b_vT_at he]; exact h⟩)
      · cases h
    · rename_i m c' he
      cases hs
      obtain ⟨x, rfl⟩ := h.long (Or.inr (Or.inl rfl))
      rcases h with h | ⟨h, -⟩ | ⟨-, -, h⟩
      · cases h
      · cases h
      · refine Or.inr (Or.inr ⟨rfl, b_at_lt he, ?_⟩)
        rw [b_vT_at he]
        show x.toInt = ν m + c' + c
        have h : x.toInt = ν m + (c' + c) := h
        omega
    · cases hs
  · have e : b' = (k, n, c) := by
      rw [b_sbo k1 k3 k7] at hs
      cases hs; rfl
    subst e
    cases v with
    | int x => rcases h with ⟨h, -⟩ | ⟨h, -⟩ <;> first | exact absurd h k0 | exact absurd h k1
    | ref x => rcases h with ⟨h, -⟩ | ⟨h, -⟩ <;> first | exact absurd h k2 | exact absurd h k3
    | long x =>
      rcases h with h | h | ⟨h, -⟩
      · exact Or.inl h
      · exact Or.inr (Or.inl h)
      · exact absurd h k7
    | _ => exact h
/-- and the other way round -/
theorem b_bs_v {σ : List BV} {ν : BN} {N : Nat} {b b' : BV} {v : Value} (hl : b_lt N σ) (hs : b_sb σ b = some b') (h : b_v σ.length (b_vT σ ν) b v) : b_v N ν b' v := by
  obtain ⟨k, n, c⟩ := b
  by_cases k1 : k = 1
  · subst k1
    obtain ⟨x, rfl, hx⟩ := h.int (by show 1 < 2; decide)
    rcases hx with ⟨e, -⟩ | ⟨-, -, hx⟩
    · cases e
    · rw [b_sb1] at hs
      split at hs
      · rename_i c' he
        cases hs
        rw [b_vT_at he] at hx
        exact Or.inl ⟨rfl, hx⟩
      · rename_i m c' he
        cases hs
        rw [b_vT_at he] at hx
        refine Or.inr ⟨rfl, hl n (1, m, c') he (Or.inl rfl), ?_⟩
        have hx : x.toInt = ν m + c' + c := hx
        show x.toInt = ν m + (c' + c)
        omega
      · cases hs
  by_cases k3 : k = 3
  · subst k3
    obtain ⟨x, rfl, hx⟩ := h.ref (Or.inr rfl)
    rcases hx with ⟨e, -⟩ | ⟨-, -, hx⟩
    · cases e
    · rw [b_sb3] at hs
      split at hs
      · rename_i m _ he
        cases hs
        rw [b_vT_at he] at hx
        have hx : (x : Int) = (m : Int) := hx
        exact Or.inl ⟨rfl, Int.ofNat.inj hx⟩
      · rename_i m _ he
        cases hs
        rw [b_vT_at he] at hx
        have hn := hl n _ he (Or.inr rfl)
        exact Or.inr ⟨rfl, hn, hx⟩
      · cases hs
  by_cases k7 : k = 7
  · subst k7
    obtain ⟨x, rfl⟩ := h.long (Or.inr (Or.inl rfl))
    rcases h with h | ⟨h, -⟩ | ⟨-, -, hx⟩
    · cases h
    · cases h
    · rw [b_sb7] at hs
      split at hs
      · rename_i c' he
        cases hs
        rw [b_vT_at he] at hx
        exact Or.inr (Or.inl ⟨rfl, hx⟩)
      · rename_i m c' he
        cases hs
        rw [b_vT_at he] at hx
        refine Or.inr (Or.inr ⟨rfl, hl n (1, m, c') he (Or.inl rfl), ?_⟩)
        have hx : x.toInt = ν m + c' + c := hx
        show x.toInt = ν m + (c' + c)
        omega
      · cases hs
  · rw [b_sbo k1 k3 k7] at hs
    cases hs
    cases v with
    | int x =>
      rcases h with h | ⟨h, -⟩
      · exact Or.inl h
      · exact absurd h k1
    | ref x =>
      rcases h with h | ⟨h, -⟩
      · exact Or.inl h
      · exact absurd h k3
    | long x =>
      rcases h with h | h | ⟨h, -⟩
      · exact Or.inl h
      · exact Or.inr (Or.inl h)
      · exact absurd h k7
    | _ => exact h
/-- a symbol's value is of its kind -/
def b_okq (K : BH) (E : BQ) (b : BV) (q : Nat × Int × Int) : Bool := if q.1 = 0 then (if b.1 = 0 then decide (q.2.1 ≤ b.2.2) && decide (b.2.2 ≤ q.2.2) else b.1 == 1 && (match E[b.2.1]? with
  | some (0, lo, hi) => decide (q.2.1 ≤ lo + b.2.2) && decide (hi + b.2.2 ≤ q.2.2)
  | _ => false)) else b_gr K E b == some (q.1 - 1) || (decide (q.2.1 = 1) && (b.1 == 3 && (match E[b.2.1]? with
  | some (_ + 1, _, _) => true
  | _ => false)))
theorem b_okq_ok {K : BH} {E : BQ} {ν : BN} {b : BV} {q : Nat × Int × Int} (hs : b_sat K E ν) (h : b_okq K E b q = true) : b_q K q (b_vl ν b) ∧ ((b.1 = 1 ∨ b.1 = 3) → b.2.1 < E.length) := by
  unfold b_okq at h
  unfold b_q
  split at h
  · rename_i e
    rw [if_pos e]
    split at h
    · rename_i e0
      rw [Bool.and_eq_true, decide_eq_true_eq, decide_eq_true_eq] at h
      unfold b_vl
      rw [if_pos e0]
      exact ⟨h, fun q => by omega⟩
    · rename_i e0
      rw [Bool.and_eq_true, beq_iff_eq] at h
      obtain ⟨e1, h⟩ := h
      split at h
      · rename_i lo hi he
        rw [Bool.and_eq_true, decide_eq_true_eq, decide_eq_true_eq] at h
        have k := hs _ _ he
        unfold b_q at k
        rw [if_pos rfl] at k
        dsimp only at k
        unfold b_vl
        rw [if_neg e0, if_pos e1]
        exact ⟨by omega, fun _ => (List.getElem?_eq_some_iff.mp he).1⟩
      · cases h
  · rename_i e
    rw [if_neg e]
    rw [Bool.or_eq_true] at h
    rcases h with h | h
    · rw [beq_iff_eq] at h
      unfold b_gr at h
      split at h
      · rename_i e2
        unfold b_vl
        rw [if_neg (by omega), if_neg (by omega), if_pos e2]
        exact ⟨⟨b.2.1, rfl, fun _ => h⟩, fun q => by omega⟩
      · split at h
        · rename_i e3
          split at h
          · rename_i g lo _ he
            split at h
            · rename_i e0
              have k := hs _ _ he
              unfold b_q at k
              rw [if_neg (by dsimp only; omega)] at k
              obtain ⟨a, k1, k2⟩ := k
              have h : some g = some (q.1 - 1) := h
              unfold b_vl
              rw [if_neg (by omega), if_neg (by omega), if_neg (by omega)]
              refine ⟨⟨a, k1, fun _ => ?_⟩, fun _ => (List.getElem?_eq_some_iff.mp he).1⟩
              rw [← h]
              exact k2 e0
            · cases h
          · cases h
        · cases h
    · simp only [Bool.and_eq_true, decide_eq_true_eq, beq_iff_eq] at h
      obtain ⟨e1, e3, h⟩ := h
      split at h
      · rename_i g lo _ he
        have k := hs _ _ he
        unfold b_q at k
        rw [if_neg (by dsimp only; omega)] at k
        obtain ⟨a, k1, k2⟩ := k
        unfold b_vl
        rw [if_neg (by omega), if_neg (by omega), if_neg (by omega)]
        exact ⟨⟨a, k1, fun e0 => by omega⟩, fun _ => (List.getElem?_eq_some_iff.mp he).1⟩
      · cases h
