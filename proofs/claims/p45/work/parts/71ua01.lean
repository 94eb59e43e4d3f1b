/-! Tools for the states: arithmetic, writes, loops that count or choose -/
theorem e_wr_id {x : Int} (h1 : -2147483648 ≤ x) (h2 : x ≤ 2147483647) : e_wr x = x := b_bm h1 h2
theorem e_us {S : ZS} {r : Nat} {i j k z : Int} : e_upd S r i j k z r i j k = z := if_pos ⟨rfl, rfl, rfl, rfl⟩
theorem e_ur {S : ZS} {r : Nat} {i j k z i' j' k' : Int} : e_upd S r i j k z r i' j' k' = if i' = i ∧ j' = j ∧ k' = k then z else S r i' j' k' := by
  unfold e_upd
  by_cases c : i' = i ∧ j' = j ∧ k' = k
  · rw [if_pos c, if_pos ⟨rfl, c⟩]
  · rw [if_neg c, if_neg (fun q => c q.2)]
theorem e_nb0 : e_nar 1 0 = 0 := by decide
theorem e_nb1 : e_nar 1 1 = 1 := by decide
theorem e_nc {x : Int} (h1 : 0 ≤ x) (h2 : x ≤ 65535) : e_nar 2 x = x := by
  have hx : x.bmod (2 ^ 32) = x := b_bm (by omega) (by omega)
  show (Int32.ofInt x).toUInt32.toUInt16.toUInt32.toInt32.toInt = x
  have e1 : (Int32.ofInt x).toInt = x := by rw [Int32.toInt_ofInt]; exact hx
  have e2 : (Int32.ofInt x).toUInt32.toNat = x.toNat := by
    have : (Int32.ofInt x).toUInt32.toNat = (Int32.ofInt x).toBitVec.toNat := rfl
    have k : (Int32.ofInt x).toInt = (Int32.ofInt x).toBitVec.toInt := rfl
    rw [BitVec.toInt_eq_toNat_cond] at k
    have lt : (Int32.ofInt x).toBitVec.toNat < 4294967296 := (Int32.ofInt x).toBitVec.isLt
    rw [this]
    split at k <;> omega
  have e3 : (Int32.ofInt x).toUInt32.toUInt16.toUInt32.toNat = x.toNat := by
    rw [UInt16.toNat_toUInt32, UInt32.toNat_toUInt16, e2]
    omega
  have e4 : (Int32.ofInt x).toUInt32.toUInt16.toUInt32.toInt32.toInt = ((Int32.ofInt x).toUInt32.toUInt16.toUInt32.toNat : Int) := by
    have k : ∀ y : UInt32, y.toNat < 65536 → y.toInt32.toInt = (y.toNat : Int) := fun y hy => by
      have : y.toInt32.toInt = y.toBitVec.toInt := rfl
      rw [this, BitVec.toInt_eq_toNat_cond, if_pos]
      · rfl
      · have : y.toBitVec.toNat = y.toNat := rfl
        omega
    exact k _ (by rw [e3]; omega)
  rw [e4, e3]
  omega
/-- how many of j from k on -/
def zcnt (p : Int → Bool) : Nat → Int → Int
  | 0, _ => 0
  | j + 1, k => (if p k = true then 1 else 0) + zcnt p j (k + 1)
theorem zcnt_cg {p q : Int → Bool} : ∀ (j : Nat) (k : Int), (∀ i, k ≤ i → i < k + j → p i = q i) → zcnt p j k = zcnt q j k
  | 0, _, _ => rfl
  | j + 1, k, h => by rw [zcnt, zcnt, h k (Int.le_refl _) (by omega), zcnt_cg j (k + 1) (fun i a b => h i (by omega) (by omega))]
theorem zcnt_le (p : Int → Bool) : ∀ (j : Nat) (k : Int), 0 ≤ zcnt p j k ∧ zcnt p j k ≤ j
  | 0, _ => ⟨Int.le_refl _, Int.le_refl _⟩
  | j + 1, k => by
    have := zcnt_le p j (k + 1)
    rw [zcnt]
    split <;> omega
theorem zcnt_pos {p : Int → Bool} : ∀ (j : Nat) (k : Int), 0 < zcnt p j k → ∃ i, k ≤ i ∧ i < k + j ∧ p i = true
  | 0, k, h => absurd h (by rw [zcnt]; omega)
  | j + 1, k, h => by
    cases e : p k with
    | true => exact ⟨k, Int.le_refl _, by omega, e⟩
    | false =>
      rw [zcnt, e, if_neg (by decide), Int.zero_add] at h
      obtain ⟨i, i1, i2, i3⟩ := zcnt_pos j (k + 1) h
      exact ⟨i, by omega, by omega, i3⟩
theorem zcnt_one {p : Int → Bool} {b : Int} (hb : p b = true) : ∀ (j : Nat) (k : Int), k ≤ b → b < k + j → zcnt p j k = zcnt (fun i => p i && decide (i ≠ b)) j k + 1
  | 0, k, h1, h2 => by omega
  | j + 1, k, h1, h2 => by
    rw [zcnt, zcnt]
    by_cases e : k = b
    · subst e
      rw [hb, if_pos rfl, if_neg (by simp)]
      have := zcnt_cg (p := p) (q := fun i => p i && decide (i ≠ k)) j (k + 1) (fun i a c => by
        have : i ≠ k := by omega
        simp [this])
      rw [this]
      omega
    · have ih := zcnt_one hb j (k + 1) (by omega) (by omega)
      have e2 : (p k && decide (k ≠ b)) = p k := by simp [e]
      rw [ih, e2]
      omega
/-- a loop that counts -/
theorem zl_cnt {n : Int} {p : Int → Bool} {fin : Int → ZR} {G : Int → Int → ZR} (hE : ∀ m k, k = n → G m k = fin m) (hG : ∀ m k, 0 ≤ k → k < n → 0 ≤ m → m ≤ k → G m k = if p k = true then G (m + 1) (k + 1) else G m (k + 1)) : ∀ (j : Nat) (m k : Int), 0 ≤ k → k + j = n → 0 ≤ m → m ≤ k → G m k = fin (m + zcnt p j k)
  | 0, m, k, h1, h2, h3, h4 => by rw [hE m k (by omega), zcnt, Int.add_zero]
  | j + 1, m, k, h1, h2, h3, h4 => by
    rw [hG m k h1 (by omega) h3 h4, zcnt]
    split
    · rw [zl_cnt hE hG j (m + 1) (k + 1) (by omega) (by omega) (by omega) (by omega)]
      congr 1
      omega
    · rw [zl_cnt hE hG j m (k + 1) (by omega) (by omega) (by omega) (by omega)]
      congr 1
      omega
/-- the first with the least w of those that p allows; b: who leads so far -/
def zbest (p : Int → Bool) (w : Int → Int) : Nat → Int → Int → Int
  | 0, _, b => b
  | j + 1, k, b => zbest p w j (k + 1) (if p k = true then (if b < 0 then k else if w k < w b then k else b) else b)
theorem zbest_lt {p : Int → Bool} {w : Int → Int} : ∀ (j : Nat) (k b : Int), 0 ≤ k → -1 ≤ b → b < k → -1 ≤ zbest p w j k b ∧ zbest p w j k b < k + j
  | 0, k, b, h0, h1, h2 => by rw [zbest]; omega
  | j + 1, k, b, h0, h1, h2 => by
    rw [zbest]
    have := zbest_lt (p := p) (w := w) j (k + 1) (if p k = true then (if b < 0 then k else if w k < w b then k else b) else b) (by omega) (by (repeat' split) <;> omega) (by (repeat' split) <;> omega)
    omega
theorem zbest_nn {p : Int → Bool} {w : Int → Int} : ∀ (j : Nat) (k b : Int), 0 ≤ k → (0 ≤ b ∨ ∃ i, k ≤ i ∧ i < k + j ∧ p i = true) → 0 ≤ zbest p w j k b
  | 0, k, b, h0, h => by
    rw [zbest]
    rcases h with h | ⟨i, i1, i2, -⟩ <;> omega
  | j + 1, k, b, h0, h => by
    rw [zbest]
    apply zbest_nn j (k + 1) _ (by omega)
    rcases h with h | ⟨i, i1, i2, i3⟩
    · left
      (repeat' split) <;> omega
    · by_cases e : i = k
      · subst e
        left
        rw [if_pos i3]
        (repeat' split) <;> omega
      · exact Or.inr ⟨i, by omega, by omega, i3⟩
theorem zbest_p {p : Int → Bool} {w : Int → Int} : ∀ (j : Nat) (k b : Int), (b < 0 ∨ p b = true) → zbest p w j k b < 0 ∨ p (zbest p w j k b) = true
  | 0, k, b, h => by rw [zbest]; exact h
  | j + 1, k, b, h => by
    rw [zbest]
    apply zbest_p j (k + 1)
    split
    · rename_i e
      (repeat' split) <;> first | exact Or.inr e | exact h
    · exact h
theorem zbest_cg {p q : Int → Bool} {w v : Int → Int} : ∀ (j : Nat) (k b : Int), 0 ≤ k → (∀ i, 0 ≤ i → i < k + j → p i = q i ∧ w i = v i) → b < k → zbest p w j k b = zbest q v j k b
  | 0, _, _, _, _, _ => rfl
  | j + 1, k, b, h0, h, hb => by
    rw [zbest, zbest, (h k h0 (by omega)).1, (h k h0 (by omega)).2]
    by_cases c : b < 0
    · rw [if_pos c, if_pos c]
      exact zbest_cg j (k + 1) _ (by omega) (fun i a a2 => h i a (by omega)) (by (repeat' split) <;> omega)
    · rw [if_neg c, if_neg c, (h b (by omega) (by omega)).2]
      exact zbest_cg j (k + 1) _ (by omega) (fun i a a2 => h i a (by omega)) (by (repeat' split) <;> omega)
/-- a sum -/
def zsum (w : Int → Int) : Nat → Int → Int
  | 0, _ => 0
  | j + 1, k => w k + zsum w j (k + 1)
theorem zsum_cg {v w : Int → Int} : ∀ (j : Nat) (k : Int), (∀ i, k ≤ i → i < k + j → v i = w i) → zsum v j k = zsum w j k
  | 0, _, _ => rfl
  | j + 1, k, h => by rw [zsum, zsum, h k (Int.le_refl _) (by omega), zsum_cg j (k + 1) (fun i a b => h i (by omega) (by omega))]
theorem zsum_le {w : Int → Int} {lo hi : Int} : ∀ (j : Nat) (k : Int), (∀ i, k ≤ i → i < k + j → lo ≤ w i ∧ w i ≤ hi) → lo * j ≤ zsum w j k ∧ zsum w j k ≤ hi * j
  | 0, _, _ => by rw [zsum]; omega
  | j + 1, k, h => by
    have h1 := h k (Int.le_refl _) (by omega)
    have h2 := zsum_le (w := w) (lo := lo) (hi := hi) j (k + 1) (fun i a b => h i (by omega) (by omega))
    rw [zsum]
    have e1 : lo * ((j + 1 : Nat) : Int) = lo * j + lo := by rw [Int.natCast_add, Int.mul_add]; simp
    have e2 : hi * ((j + 1 : Nat) : Int) = hi * j + hi := by rw [Int.natCast_add, Int.mul_add]; simp
    omega
theorem zsum_app {w : Int → Int} : ∀ (j : Nat) (k : Int), zsum w (j + 1) k = zsum w j k + w (k + j)
  | 0, k => by simp [zsum]
  | j + 1, k => by
    rw [zsum, zsum_app j (k + 1), zsum]
    have : k + 1 + (j : Int) = k + ((j + 1 : Nat) : Int) := by omega
    rw [this]
    omega
theorem zcnt_app {p : Int → Bool} : ∀ (j : Nat) (k : Int), zcnt p (j + 1) k = zcnt p j k + (if p (k + j) = true then 1 else 0)
  | 0, k => by simp [zcnt]
  | j + 1, k => by
    rw [zcnt, zcnt_app j (k + 1), zcnt]
    have : k + 1 + (j : Int) = k + ((j + 1 : Nat) : Int) := by omega
    rw [this]
    omega
/-- one place is told anew -/
theorem zsum_upd {w : Int → Int} {b z : Int} : ∀ (j : Nat) (k : Int), k ≤ b → b < k + j → zsum (fun i => if i = b then z else w i) j k = zsum w j k - w b + z
  | 0, k, h1, h2 => by omega
  | j + 1, k, h1, h2 => by
    rw [zsum, zsum]
    by_cases e : k = b
    · subst e
      rw [if_pos rfl, zsum_cg (v := fun i => if i = k then z else w i) (w := w) j (k + 1) (fun i a c => if_neg (by omega))]
      omega
    · rw [if_neg e, zsum_upd j (k + 1) (by omega) (by omega)]
      omega
