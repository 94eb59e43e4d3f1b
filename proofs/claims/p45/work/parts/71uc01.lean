/-! Tools for the grid: loops that look for one, the archive's entries -/
def zany (p : Int → Bool) : Nat → Int → Bool
  | 0, _ => false
  | j + 1, k => p k || zany p j (k + 1)
theorem zany_iff {p : Int → Bool} : ∀ (j : Nat) (k : Int), zany p j k = true ↔ ∃ i, k ≤ i ∧ i < k + j ∧ p i = true
  | 0, k => by
    rw [zany]
    exact ⟨fun h => absurd h (by decide), fun ⟨i, h1, h2, _⟩ => by omega⟩
  | j + 1, k => by
    rw [zany, Bool.or_eq_true, zany_iff j (k + 1)]
    constructor
    · rintro (h | ⟨i, h1, h2, h3⟩)
      · exact ⟨k, by omega, by omega, h⟩
      · exact ⟨i, by omega, by omega, h3⟩
    · rintro ⟨i, h1, h2, h3⟩
      by_cases e : i = k
      · exact Or.inl (e ▸ h3)
      · exact Or.inr ⟨i, by omega, by omega, h3⟩
theorem zany_cg {p q : Int → Bool} : ∀ (j : Nat) (k : Int), (∀ i, k ≤ i → i < k + j → p i = q i) → zany p j k = zany q j k
  | 0, _, _ => rfl
  | j + 1, k, h => by rw [zany, zany, h k (Int.le_refl _) (by omega), zany_cg j (k + 1) (fun i a b => h i (by omega) (by omega))]
/-- a loop that ends at the first -/
theorem zl_any {n : Int} {p : Int → Bool} {A B : ZR} {G : Int → ZR} (hE : ∀ k, k = n → G k = B) (hG : ∀ k, 0 ≤ k → k < n → G k = if p k = true then A else G (k + 1)) : ∀ (j : Nat) (k : Int), 0 ≤ k → k + j = n → G k = if zany p j k = true then A else B
  | 0, k, h1, h2 => by
    rw [hE k (by omega), zany, if_neg (by decide)]
  | j + 1, k, h1, h2 => by
    rw [hG k h1 (by omega), zany, zl_any hE hG j (k + 1) (by omega) (by omega)]
    cases p k
    · rw [if_neg (by decide), Bool.false_or]
    · rw [if_pos rfl, Bool.true_or, if_pos rfl]
/-- a loop that goes on and sets -/
theorem zl_set {n z : Int} {p : Int → Bool} {P : Int → Prop} (hz : P z) {fin : Int → ZR} {G : Int → Int → ZR} (hE : ∀ x k, k = n → P x → G x k = fin x) (hG : ∀ x k, 0 ≤ k → k < n → P x → G x k = G (if p k = true then z else x) (k + 1)) : ∀ (j : Nat) (x k : Int), 0 ≤ k → k + j = n → P x → G x k = fin (if zany p j k = true then z else x)
  | 0, x, k, h1, h2, h3 => by
    rw [hE x k (by omega) h3, zany, if_neg (by decide)]
  | j + 1, x, k, h1, h2, h3 => by
    rw [hG x k h1 (by omega) h3, zany]
    cases p k
    · rw [if_neg (by decide), Bool.false_or]
      exact zl_set hz hE hG j x (k + 1) (by omega) (by omega) h3
    · rw [if_pos rfl, Bool.true_or, if_pos rfl, zl_set hz hE hG j z (k + 1) (by omega) (by omega) hz]
      congr 1
      split <;> rfl
def zbit (x : Int) : Prop := x = 0 ∨ x = 1
theorem zbit0 : zbit 0 := Or.inl rfl
theorem zbit1 : zbit 1 := Or.inr rfl
theorem e_or0 {x : Int} (h : zbit x) : e_or x 0 = x := by
  rcases h with rfl | rfl <;> decide +kernel
theorem e_or1 {x : Int} (h : zbit x) : e_or x 1 = 1 := by
  rcases h with rfl | rfl <;> decide +kernel
theorem e_and0 {x : Int} (h : zbit x) : e_and x 0 = 0 := by
  rcases h with rfl | rfl <;> decide +kernel
theorem e_and1 {x : Int} (h : zbit x) : e_and x 1 = x := by
  rcases h with rfl | rfl <;> decide +kernel
def zb (b : Bool) : Int := if b = true then 1 else 0
theorem zb_bit {b : Bool} : zbit (zb b) := by
  cases b
  · exact zbit0
  · exact zbit1
theorem zb0 {b : Bool} : zb b = 0 ↔ b = false := by
  cases b <;> decide
/-- the states behind an entry of the archive -/
def zcA (l f : Int) (c : ZS) : ZS := (f_Archive_add [l, f] c).2
def zmA (l f : Int) (m : ZS) : ZS := (f_m_writes [l, f] m).2
theorem q_zcA {l f : Int} {c : ZS} : f_Archive_add [l, f] c = ((0, []), zcA l f c) := rfl
theorem q_zmA {l f : Int} {m : ZS} : f_m_writes [l, f] m = ((0, []), zmA l f m) := by
  unfold zmA f_m_writes
  dsimp only
  rw [zb_n]
  split <;> rfl
theorem zcA_o {l f : Int} {c : ZS} {r : Nat} (hr : zArC.contains r = false) : (zcA l f c) r = c r := q_add_o hr
theorem zmA_o {l f : Int} {m : ZS} {r : Nat} (hr : zArM.contains r = false) : (zmA l f m) r = m r := by
  funext i j k
  have h1 : (r == r_m_lineMany) = false := by
    cases e : r == r_m_lineMany with
    | false => rfl
    | true => rw [beq_iff_eq] at e; rw [e] at hr; exact absurd hr (by decide)
  have h2 : (r == r_m_letters) = false := by
    cases e : r == r_m_letters with
    | false => rfl
    | true => rw [beq_iff_eq] at e; rw [e] at hr; exact absurd hr (by decide)
  have h3 : (r == r_m_lineFilms) = false := by
    cases e : r == r_m_lineFilms with
    | false => rfl
    | true => rw [beq_iff_eq] at e; rw [e] at hr; exact absurd hr (by decide)
  unfold zmA f_m_writes
  dsimp only
  rw [zb_n]
  split
  · show e_upd (e_upd (e_upd (e_upd (e_acp (e_acp _ _ _ _ _ _ _ _ _ _) _ _ _ _ _ _ _ _ _) _ _ _ _ _) _ _ _ _ _) _ _ _ _ _) _ _ _ _ _ r i j k = _
    rw [e_un h1, e_un h3, e_un h2, e_un h1, e_an h3, e_an h2]
  · show e_upd (e_upd (e_upd _ _ _ _ _ _) _ _ _ _ _) _ _ _ _ _ r i j k = _
    rw [e_un h1, e_un h3, e_un h2]
def z_nin (K W : List Nat) : Bool := K.all fun r => !(W.contains r)
theorem z_nin_ok {K W : List Nat} (h : z_nin K W = true) {r : Nat} (hr : r ∈ K) : W.contains r = false := by
  have := List.all_eq_true.mp h r hr
  simpa using this
theorem zRel.zcA {R : ZS → ZS → Prop} {KC KM : List Nat} (hr : zRel R KC KM) (hd : z_nin KC zArC = true) {l f : Int} {c m : ZS} (h : R c m) : R (zcA l f c) m := hr h (fun r hq => zcA_o (z_nin_ok hd hq)) (fun _ _ => rfl)
theorem zRel.zmA {R : ZS → ZS → Prop} {KC KM : List Nat} (hr : zRel R KC KM) (hd : z_nin KM zArM = true) {l f : Int} {c m : ZS} (h : R c m) : R c (zmA l f m) := hr h (fun _ _ => rfl) (fun r hq => zmA_o (z_nin_ok hd hq))
/-- both sides give one value and leave their states as they are -/
def zV (A B : ZR) (c m : ZS) : Prop := ∃ v, A = ((0, [v]), c) ∧ B = ((0, [v]), m)
