/-! The class alone, by program (wip/p51/extract.py) from u01 u02 u03 u10 w08 -/
theorem e_wr_id {x : Int} (h1 : -2147483648 ≤ x) (h2 : x ≤ 2147483647) : e_wr x = x := b_bm h1 h2
theorem e_us {S : ZS} {r : Nat} {i j k z : Int} : e_upd S r i j k z r i j k = z := if_pos ⟨rfl, rfl, rfl, rfl⟩
theorem e_ur {S : ZS} {r : Nat} {i j k z i' j' k' : Int} : e_upd S r i j k z r i' j' k' = if i' = i ∧ j' = j ∧ k' = k then z else S r i' j' k' := by
  unfold e_upd
  by_cases c : i' = i ∧ j' = j ∧ k' = k
  · rw [if_pos c, if_pos ⟨rfl, c⟩]
  · rw [if_neg c, if_neg (fun q => c q.2)]
theorem e_nb0 : e_nar 1 0 = 0 := by decide
theorem e_nb1 : e_nar 1 1 = 1 := by decide
theorem e_nc {x : Int} (h1 : 0 ≤ x) (h2 : x ≤ 65535) : e_nar 2 x = x := by
  have hx : x.bmod (2 ^ 32) = x := b_bm (by omega) (by omega)
  show (Int32.ofInt x).toUInt32.toUInt16.toUInt32.toInt32.toInt = x
  have e1 : (Int32.ofInt x).toInt = x := by rw [Int32.toInt_ofInt]; exact hx
  have e2 : (Int32.ofInt x).toUInt32.toNat = x.toNat := by
    have : (Int32.ofInt x).toUInt32.toNat = (Int32.ofInt x).toBitVec.toNat := rfl
    have k : (Int32.ofInt x).toInt = (Int32.ofInt x).toBitVec.toInt := rfl
    rw [BitVec.toInt_eq_toNat_cond] at k
    have lt : (Int32.ofInt x).toBitVec.toNat < 4294967296 := (Int32.ofInt x).toBitVec.isLt
    rw [this]
    split at k <;> omega
  have e3 : (Int32.ofInt x).toUInt32.toUInt16.toUInt32.toNat = x.toNat := by
    rw [UInt16.toNat_toUInt32, UInt32.toNat_toUInt16, e2]
    omega
  have e4 : (Int32.ofInt x).toUInt32.toUInt16.toUInt32.toInt32.toInt = ((Int32.ofInt x).toUInt32.toUInt16.toUInt32.toNat : Int) := by
    have k : ∀ y : UInt32, y.toNat < 65536 → y.toInt32.toInt = (y.toNat : Int) := fun y hy => by
      have : y.toInt32.toInt = y.toBitVec.toInt := rfl
      rw [this, BitVec.toInt_eq_toNat_cond, if_pos]
      · rfl
      · have : y.toBitVec.toNat = y.toNat := rfl
        omega
    exact k _ (by rw [e3]; omega)
  rw [e4, e3]
  omega
/-- how many of j from k on -/
def zcnt (p : Int → Bool) : Nat → Int → Int
  | 0, _ => 0
  | j + 1, k => (if p k = true then 1 else 0) + zcnt p j (k + 1)
theorem zcnt_cg {p q : Int → Bool} : ∀ (j : Nat) (k : Int), (∀ i, k ≤ i → i < k + j → p i = q i) → zcnt p j k = zcnt q j k
  | 0, _, _ => rfl
  | j + 1, k, h => by rw [zcnt, zcnt, h k (Int.le_refl _) (by omega), zcnt_cg j (k + 1) (fun i a b => h i (by omega) (by omega))]
theorem zcnt_le (p : Int → Bool) : ∀ (j : Nat) (k : Int), 0 ≤ zcnt p j k ∧ zcnt p j k ≤ j
  | 0, _ => ⟨Int.le_refl _, Int.le_refl _⟩
  | j + 1, k => by
    have := zcnt_le p j (k + 1)
    rw [zcnt]
    split <;> omega
theorem zcnt_pos {p : Int → Bool} : ∀ (j : Nat) (k : Int), 0 < zcnt p j k → ∃ i, k ≤ i ∧ i < k + j ∧ p i = true
  | 0, k, h => absurd h (by rw [zcnt]; omega)
  | j + 1, k, h => by
    cases e : p k with
    | true => exact ⟨k, Int.le_refl _, by omega, e⟩
    | false =>
      rw [zcnt, e, if_neg (by decide), Int.zero_add] at h
      obtain ⟨i, i1, i2, i3⟩ := zcnt_pos j (k + 1) h
      exact ⟨i, by omega, by omega, i3⟩
theorem zcnt_one {p : Int → Bool} {b : Int} (hb : p b = true) : ∀ (j : Nat) (k : Int), k ≤ b → b < k + j → zcnt p j k = zcnt (fun i => p i && decide (i ≠ b)) j k + 1
  | 0, k, h1, h2 => by omega
  | j + 1, k, h1, h2 => by
    rw [zcnt, zcnt]
    by_cases e : k = b
    · subst e
      rw [hb, if_pos rfl, if_neg (by simp)]
      have := zcnt_cg (p := p) (q := fun i => p i && decide (i ≠ k)) j (k + 1) (fun i a c => by
        have : i ≠ k := by omega
        simp [this])
      rw [this]
      omega
    · have ih := zcnt_one hb j (k + 1) (by omega) (by omega)
      have e2 : (p k && decide (k ≠ b)) = p k := by simp [e]
      rw [ih, e2]
      omega
/-- a loop that counts -/
theorem zl_cnt {n : Int} {p : Int → Bool} {fin : Int → ZR} {G : Int → Int → ZR} (hE : ∀ m k, k = n → G m k = fin m) (hG : ∀ m k, 0 ≤ k → k < n → 0 ≤ m → m ≤ k → G m k = if p k = true then G (m + 1) (k + 1) else G m (k + 1)) : ∀ (j : Nat) (m k : Int), 0 ≤ k → k + j = n → 0 ≤ m → m ≤ k → G m k = fin (m + zcnt p j k)
  | 0, m, k, h1, h2, h3, h4 => by rw [hE m k (by omega), zcnt, Int.add_zero]
  | j + 1, m, k, h1, h2, h3, h4 => by
    rw [hG m k h1 (by omega) h3 h4, zcnt]
    split
    · rw [zl_cnt hE hG j (m + 1) (k + 1) (by omega) (by omega) (by omega) (by omega)]
      congr 1
      omega
    · rw [zl_cnt hE hG j m (k + 1) (by omega) (by omega) (by omega) (by omega)]
      congr 1
      omega
/-- the first with the least w of those that p allows; b: who leads so far -/
def zbest (p : Int → Bool) (w : Int → Int) : Nat → Int → Int → Int
  | 0, _, b => b
  | j + 1, k, b => zbest p w j (k + 1) (if p k = true then (if b < 0 then k else if w k < w b then k else b) else b)
theorem zbest_lt {p : Int → Bool} {w : Int → Int} : ∀ (j : Nat) (k b : Int), 0 ≤ k → -1 ≤ b → b < k → -1 ≤ zbest p w j k b ∧ zbest p w j k b < k + j
  | 0, k, b, h0, h1, h2 => by rw [zbest]; omega
  | j + 1, k, b, h0, h1, h2 => by
    rw [zbest]
    have := zbest_lt (p := p) (w := w) j (k + 1) (if p k = true then (if b < 0 then k else if w k < w b then k else b) else b) (by omega) (by (repeat' split) <;> omega) (by (repeat' split) <;> omega)
    omega
theorem zbest_nn {p : Int → Bool} {w : Int → Int} : ∀ (j : Nat) (k b : Int), 0 ≤ k → (0 ≤ b ∨ ∃ i, k ≤ i ∧ i < k + j ∧ p i = true) → 0 ≤ zbest p w j k b
  | 0, k, b, h0, h => by
    rw [zbest]
    rcases h with h | ⟨i, i1, i2, -⟩ <;> omega
  | j + 1, k, b, h0, h => by
    rw [zbest]
    apply zbest_nn j (k + 1) _ (by omega)
    rcases h with h | ⟨i, i1, i2, i3⟩
    · left
      (repeat' split) <;> omega
    · by_cases e : i = k
      · subst e
        left
        rw [if_pos i3]
        (repeat' split) <;> omega
      · exact Or.inr ⟨i, by omega, by omega, i3⟩
theorem zbest_p {p : Int → Bool} {w : Int → Int} : ∀ (j : Nat) (k b : Int), (b < 0 ∨ p b = true) → zbest p w j k b < 0 ∨ p (zbest p w j k b) = true
  | 0, k, b, h => by rw [zbest]; exact h
  | j + 1, k, b, h => by
    rw [zbest]
    apply zbest_p j (k + 1)
    split
    · rename_i e
      (repeat' split) <;> first | exact Or.inr e | exact h
    · exact h
theorem zbest_cg {p q : Int → Bool} {w v : Int → Int} : ∀ (j : Nat) (k b : Int), 0 ≤ k → (∀ i, 0 ≤ i → i < k + j → p i = q i ∧ w i = v i) → b < k → zbest p w j k b = zbest q v j k b
  | 0, _, _, _, _, _ => rfl
  | j + 1, k, b, h0, h, hb => by
    rw [zbest, zbest, (h k h0 (by omega)).1, (h k h0 (by omega)).2]
    by_cases c : b < 0
    · rw [if_pos c, if_pos c]
      exact zbest_cg j (k + 1) _ (by omega) (fun i a a2 => h i a (by omega)) (by (repeat' split) <;> omega)
    · rw [if_neg c, if_neg c, (h b (by omega) (by omega)).2]
      exact zbest_cg j (k + 1) _ (by omega) (fun i a a2 => h i a (by omega)) (by (repeat' split) <;> omega)
/-- a sum -/
def zsum (w : Int → Int) : Nat → Int → Int
  | 0, _ => 0
  | j + 1, k => w k + zsum w j (k + 1)
theorem zsum_cg {v w : Int → Int} : ∀ (j : Nat) (k : Int), (∀ i, k ≤ i → i < k + j → v i = w i) → zsum v j k = zsum w j k
  | 0, _, _ => rfl
  | j + 1, k, h => by rw [zsum, zsum, h k (Int.le_refl _) (by omega), zsum_cg j (k + 1) (fun i a b => h i (by omega) (by omega))]
theorem zsum_le {w : Int → Int} {lo hi : Int} : ∀ (j : Nat) (k : Int), (∀ i, k ≤ i → i < k + j → lo ≤ w i ∧ w i ≤ hi) → lo * j ≤ zsum w j k ∧ zsum w j k ≤ hi * j
  | 0, _, _ => by rw [zsum]; omega
  | j + 1, k, h => by
    have h1 := h k (Int.le_refl _) (by omega)
    have h2 := zsum_le (w := w) (lo := lo) (hi := hi) j (k + 1) (fun i a b => h i (by omega) (by omega))
    rw [zsum]
    have e1 : lo * ((j + 1 : Nat) : Int) = lo * j + lo := by rw [Int.natCast_add, Int.mul_add]; simp
    have e2 : hi * ((j + 1 : Nat) : Int) = hi * j + hi := by rw [Int.natCast_add, Int.mul_add]; simp
    omega
theorem zsum_app {w : Int → Int} : ∀ (j : Nat) (k : Int), zsum w (j + 1) k = zsum w j k + w (k + j)
  | 0, k => by simp [zsum]
  | j + 1, k => by
    rw [zsum, zsum_app j (k + 1), zsum]
    have : k + 1 + (j : Int) = k + ((j + 1 : Nat) : Int) := by omega
    rw [this]
    omega
theorem zcnt_app {p : Int → Bool} : ∀ (j : Nat) (k : Int), zcnt p (j + 1) k = zcnt p j k + (if p (k + j) = true then 1 else 0)
  | 0, k => by simp [zcnt]
  | j + 1, k => by
    rw [zcnt, zcnt_app j (k + 1), zcnt]
    have : k + 1 + (j : Int) = k + ((j + 1 : Nat) : Int) := by omega
    rw [this]
    omega
/-- one place is told anew -/
theorem zsum_upd {w : Int → Int} {b z : Int} : ∀ (j : Nat) (k : Int), k ≤ b → b < k + j → zsum (fun i => if i = b then z else w i) j k = zsum w j k - w b + z
  | 0, k, h1, h2 => by omega
  | j + 1, k, h1, h2 => by
    rw [zsum, zsum]
    by_cases e : k = b
    · subst e
      rw [if_pos rfl, zsum_cg (v := fun i => if i = k then z else w i) (w := w) j (k + 1) (fun i a c => if_neg (by omega))]
      omega
    · rw [if_neg e, zsum_upd j (k + 1) (by omega) (by omega)]
      omega

theorem zb_n {α : Type} {p : Prop} [Decidable p] {a b : α} : (bif !decide p then a else b) = if p then b else a := by
  by_cases h : p <;> simp [h]
theorem zb_d {α : Type} {p : Prop} [Decidable p] {a b : α} : (bif decide p then a else b) = if p then a else b := by
  by_cases h : p <;> simp [h]
theorem q_within {x a b : Int} {S : ZS} : v_x_isWithin x a b S = if a ≤ x ∧ x ≤ b then 1 else 0 := by
  unfold v_x_isWithin
  simp only [zb_d]
  repeat' split
  all_goals first | rfl | omega
theorem q_num {x n : Int} {S : ZS} (h0 : 0 ≤ n) (h1 : n ≤ 1000) : f_x_checkNumber [x, n] S = if 0 ≤ x ∧ x < n then ((0, []), S) else ((1, []), S) := by
  show (bif !decide (v_x_isWithin x 0 (e_wr (n - 1)) S = 0) then _ else _) = _
  rw [zb_n, q_within, e_wr_id (by omega) (by omega)]
  repeat' split
  all_goals first | rfl | omega
theorem e_b_ok {l : List Int} {S : ZS} {k : Int → ZS → ZR} : e_bind ((0, l), S) k = k (l.getD 0 0) S := rfl
theorem e_b_x {c : Nat} {S : ZS} {k : Int → ZS → ZR} (h : c ≠ 0) (h2 : c < 1000) : e_bind ((c, []), S) k = ((c, []), S) := by
  unfold e_bind
  have : (c == 0) = false := by simpa using h
  rw [this]
  show ((c % 1000, []), S) = _
  rw [Nat.mod_eq_of_lt h2]
theorem e_b_if {p : Prop} [Decidable p] {A B : ZR} {k : Int → ZS → ZR} : e_bind (if p then A else B) k = if p then e_bind A k else e_bind B k := by split <;> rfl
theorem q_film {f : Int} {S : ZS} (h0 : 0 ≤ S r_x_filmCount 0 0 0) (h1 : S r_x_filmCount 0 0 0 ≤ 1000) : f_x_checkFilm [f] S = if 0 ≤ f ∧ f < S r_x_filmCount 0 0 0 then ((0, []), S) else ((1, []), S) := by
  show e_bind (f_x_checkNumber [f, S r_x_filmCount 0 0 0] S) (fun _ S1 => ((0, []), S1)) = _
  rw [q_num h0 h1, e_b_if]
  rfl
theorem q_reader {k : Int} {S : ZS} (h0 : 0 ≤ S r_Readings_readerCount 0 0 0) (h1 : S r_Readings_readerCount 0 0 0 ≤ 1000) : f_x_checkReader [k] S = if 0 ≤ k ∧ k < S r_Readings_readerCount 0 0 0 then ((0, []), S) else ((1, []), S) := by
  show e_bind (f_x_checkNumber [k, S r_Readings_readerCount 0 0 0] S) (fun _ S1 => ((0, []), S1)) = _
  rw [q_num h0 h1, e_b_if]
  rfl
def dpF (S : ZS) (f l k : Int) : Bool := decide (S r_Readings_lands 0 0 k ≠ l) && decide (S r_Readings_marks_r f 0 k = -2)
theorem q_isFree {f l k : Int} {S : ZS} : v_Readings_isFree f l k S = if dpF S f l k = true then 1 else 0 := by
  unfold v_Readings_isFree dpF
  rw [zb_d, zb_n]
  repeat' split
  all_goals simp_all
theorem q_countFree {f l : Int} {S : ZS} (h0 : 0 ≤ S r_Readings_readerCount 0 0 0) (h1 : S r_Readings_readerCount 0 0 0 ≤ 8) : f_Readings_countFree [f, l] S = ((0, [zcnt (dpF S f l) (S r_Readings_readerCount 0 0 0).toNat 0]), S) := by
  show g_Readings_countFree ((1000, [f, l]), S) = _
  rw [g_Readings_countFree_0]
  refine (zl_cnt (n := S r_Readings_readerCount 0 0 0) (p := dpF S f l) (fin := fun m => ((0, [m]), S)) (G := fun m k => g_Readings_countFree ((1005, [f, l, m, k]), S)) (fun m k hk => ?_) (fun m k k1 k2 m1 m2 => ?_) (S r_Readings_readerCount 0 0 0).toNat 0 0 (by omega) (by omega) (by omega) (by omega)).trans ?_
  · rw [g_Readings_countFree_5, zb_d, if_pos (by omega)]
  · rw [g_Readings_countFree_5, zb_d, if_neg (by omega), zb_d, q_isFree, e_wr_id (by omega) (by omega), e_wr_id (by omega) (by omega)]
    cases dpF S f l k <;> rfl
  · rw [Int.zero_add]
theorem q_countDealt {f : Int} {S : ZS} (h0 : 0 ≤ S r_Readings_readerCount 0 0 0) (h1 : S r_Readings_readerCount 0 0 0 ≤ 8) : f_Readings_countDealt [f] S = ((0, [zcnt (fun k => decide (S r_Readings_marks_r f 0 k ≠ -2)) (S r_Readings_readerCount 0 0 0).toNat 0]), S) := by
  show g_Readings_countDealt ((1000, [f]), S) = _
  rw [g_Readings_countDealt_0]
  refine (zl_cnt (n := S r_Readings_readerCount 0 0 0) (p := fun k => decide (S r_Readings_marks_r f 0 k ≠ -2)) (fin := fun m => ((0, [m]), S)) (G := fun m k => g_Readings_countDealt ((1004, [f, m, k]), S)) (fun m k hk => ?_) (fun m k k1 k2 m1 m2 => ?_) (S r_Readings_readerCount 0 0 0).toNat 0 0 (by omega) (by omega) (by omega) (by omega)).trans ?_
  · rw [g_Readings_countDealt_4, zb_d, if_pos (by omega)]
  · rw [g_Readings_countDealt_4, zb_d, if_neg (by omega), zb_d, e_wr_id (by omega) (by omega), e_wr_id (by omega) (by omega)]
    by_cases c : S r_Readings_marks_r f 0 k = -2 <;> simp [c]
  · rw [Int.zero_add]
theorem q_countTold {f : Int} {S : ZS} (h0 : 0 ≤ S r_Readings_readerCount 0 0 0) (h1 : S r_Readings_readerCount 0 0 0 ≤ 8) : f_Readings_countTold [f] S = ((0, [zcnt (fun k => decide (0 ≤ S r_Readings_marks_r f 0 k)) (S r_Readings_readerCount 0 0 0).toNat 0]), S) := by
  show g_Readings_countTold ((1000, [f]), S) = _
  rw [g_Readings_countTold_0]
  refine (zl_cnt (n := S r_Readings_readerCount 0 0 0) (p := fun k => decide (0 ≤ S r_Readings_marks_r f 0 k)) (fin := fun m => ((0, [m]), S)) (G := fun m k => g_Readings_countTold ((1004, [f, m, k]), S)) (fun m k hk => ?_) (fun m k k1 k2 m1 m2 => ?_) (S r_Readings_readerCount 0 0 0).toNat 0 0 (by omega) (by omega) (by omega) (by omega)).trans ?_
  · rw [g_Readings_countTold_4, zb_d, if_pos (by omega)]
  · rw [g_Readings_countTold_4, zb_d, if_neg (by omega), zb_d, e_wr_id (by omega) (by omega), e_wr_id (by omega) (by omega)]
    by_cases c : S r_Readings_marks_r f 0 k < 0
    · rw [if_pos c, if_neg (by simp; omega)]
    · rw [if_neg c, if_pos (by simp; omega)]
  · rw [Int.zero_add]
theorem zl_best {n : Int} {p : Int → Bool} {w : Int → Int} {fin : Int → ZR} {G : Int → Int → ZR} (hE : ∀ b k, k = n → -1 ≤ b → b < k → G b k = fin b) (hG : ∀ b k, 0 ≤ k → k < n → -1 ≤ b → b < k → G b k = G (if p k = true then (if b < 0 then k else if w k < w b then k else b) else b) (k + 1)) : ∀ (j : Nat) (b k : Int), 0 ≤ k → k + j = n → -1 ≤ b → b < k → G b k = fin (zbest p w j k b)
  | 0, b, k, h1, h2, h3, h4 => by rw [hE b k (by omega) h3 h4, zbest]
  | j + 1, b, k, h1, h2, h3, h4 => by
    rw [hG b k h1 (by omega) h3 h4, zbest]
    exact zl_best hE hG j _ (k + 1) (by omega) (by omega) (by (repeat' split) <;> omega) (by (repeat' split) <;> omega)
def bF (S : ZS) (f l : Int) : Int := zbest (dpF S f l) (fun k => S r_Readings_dealtFilms 0 0 k) (S r_Readings_readerCount 0 0 0).toNat 0 (-1)
def sF (f l : Int) (S : ZS) : ZS := if bF S f l = -1 then S else e_upd (e_upd S r_Readings_marks_r f 0 (bF S f l) (-1)) r_Readings_dealtFilms 0 0 (bF S f l) (e_wr (S r_Readings_dealtFilms 0 0 (bF S f l) + 1))
theorem q_dealOnce {f l : Int} {S : ZS} (h0 : 0 ≤ S r_Readings_readerCount 0 0 0) (h1 : S r_Readings_readerCount 0 0 0 ≤ 8) : f_Readings_dealOnce [f, l] S = ((0, []), sF f l S) := by
  show g_Readings_dealOnce ((1000, [f, l]), S) = _
  rw [g_Readings_dealOnce_0]
  refine (zl_best (n := S r_Readings_readerCount 0 0 0) (p := dpF S f l) (w := fun k => S r_Readings_dealtFilms 0 0 k) (fin := fun b => ((0, []), if b = -1 then S else e_upd (e_upd S r_Readings_marks_r f 0 b (-1)) r_Readings_dealtFilms 0 0 b (e_wr (S r_Readings_dealtFilms 0 0 b + 1)))) (G := fun b k => g_Readings_dealOnce ((1005, [f, l, b, k]), S)) (fun b k hk _ _ => ?_) (fun b k k1 k2 m1 m2 => ?_) (S r_Readings_readerCount 0 0 0).toNat (-1) 0 (by omega) (by omega) (by omega) (by omega))
  · rw [g_Readings_dealOnce_5, zb_d, if_pos (by omega), zb_d]
    split <;> rfl
  · rw [g_Readings_dealOnce_5, zb_d, if_neg (by omega), zb_d, zb_d, zb_d, q_isFree, e_wr_id (x := k + 1) (by omega) (by omega)]
    cases dpF S f l k with
    | false => rfl
    | true =>
      rw [if_neg (by decide), if_pos rfl]
      by_cases c : b = -1
      · rw [if_pos c, if_pos (by omega)]
      · rw [if_neg c, if_neg (show ¬ b < 0 by omega)]
        by_cases d : S r_Readings_dealtFilms 0 0 b ≤ S r_Readings_dealtFilms 0 0 k
        · rw [if_pos d, if_neg (by omega)]
        · rw [if_neg d, if_pos (by omega)]
def zit (s : ZS → ZS) : Nat → ZS → ZS
  | 0, S => S
  | t + 1, S => zit s t (s S)
theorem sF_n {f l : Int} {S : ZS} : (sF f l S) r_Readings_readerCount 0 0 0 = S r_Readings_readerCount 0 0 0 := by
  unfold sF
  split
  · rfl
  · rw [e_un (by decide), e_un (by decide)]
theorem q_dealLoop {f n l : Int} (n1 : n ≤ 8) : ∀ (t : Nat) (i : Int) (S : ZS), 0 ≤ i → i + t = n → 0 ≤ S r_Readings_readerCount 0 0 0 → S r_Readings_readerCount 0 0 0 ≤ 8 → g_x_deal ((1061, [f, n, l, i]), S) = ((0, [zcnt (fun k => decide (zit (sF f l) t S r_Readings_marks_r f 0 k ≠ -2)) (S r_Readings_readerCount 0 0 0).toNat 0]), zit (sF f l) t S)
  | 0, i, S, h1, h2, h3, h4 => by
    rw [g_x_deal_61, zb_d, if_pos (by omega), q_countDealt h3 h4]
    rfl
  | t + 1, i, S, h1, h2, h3, h4 => by
    rw [g_x_deal_61, zb_d, if_neg (by omega), q_dealOnce h3 h4, e_wr_id (by omega) (by omega)]
    show g_x_deal ((1061, [f, n, l, i + 1]), sF f l S) = _
    rw [q_dealLoop n1 t (i + 1) (sF f l S) (by omega) (by omega) (by rw [sF_n]; exact h3) (by rw [sF_n]; exact h4), sF_n]
    rfl
/-- the regions that it speaks of -/
def zRC : List Nat := [r_x_filmCount, r_Readings_readerCount, r_Readings_lands, r_Film_land, r_Readings_marks_r, r_Readings_dealtFilms, r_Readings_toldScores, r_Readings_sums]
theorem zit_n {f l : Int} : ∀ (t : Nat) (S : ZS), (zit (sF f l) t S) r_Readings_readerCount 0 0 0 = S r_Readings_readerCount 0 0 0
  | 0, S => rfl
  | t + 1, S => by rw [zit, zit_n t, sF_n]
theorem q_addReader {l : Int} {c : ZS} (b1 : 0 ≤ c r_Readings_readerCount 0 0 0) (b2 : c r_Readings_readerCount 0 0 0 ≤ 8) : f_Readings_addReader [l] c = ((0, [c r_Readings_readerCount 0 0 0]), e_upd (e_upd c r_Readings_lands 0 0 (c r_Readings_readerCount 0 0 0) l) r_Readings_readerCount 0 0 0 (c r_Readings_readerCount 0 0 0 + 1)) := by
  unfold f_Readings_addReader
  dsimp only
  rw [e_us, e_wr_id (x := c r_Readings_readerCount 0 0 0 + 1) (by omega) (by omega), e_wr_id (by omega) (by omega), Int.add_sub_cancel]
theorem z_sync {α β : Type} {n : Int} {A : α → Int → ZR} {B : β → Int → ZR} {R : Int → α → β → Prop} {Goal : ZR → ZR → Prop} (he : ∀ a b, R n a b → Goal (A a n) (B b n)) (hs : ∀ k a b, 0 ≤ k → k < n → R k a b → ∃ a' b', A a k = A a' (k + 1) ∧ B b k = B b' (k + 1) ∧ R (k + 1) a' b') : ∀ (j : Nat) (k : Int) (a : α) (b : β), 0 ≤ k → k + j = n → R k a b → Goal (A a k) (B b k)
  | 0, k, a, b, h0, h1, h => by
    have e : k = n := by omega
    subst e
    exact he a b h
  | j + 1, k, a, b, h0, h1, h => by
    obtain ⟨a', b', e1, e2, h'⟩ := hs k a b h0 (by omega) h
    rw [e1, e2]
    exact z_sync he hs j (k + 1) a' b' (by omega) (by omega) h'
theorem e_wr_wr {x : Int} : e_wr (e_wr x) = e_wr x := Int.bmod_bmod
theorem zsum_cut {w : Int → Int} : ∀ (a b : Nat) (k : Int), zsum w (a + b) k = zsum w a k + zsum w b (k + a)
  | 0, b, k => by simp [zsum]
  | a + 1, b, k => by
    rw [Nat.add_right_comm, zsum, zsum, zsum_cut a b (k + 1)]
    have e : k + 1 + (a : Int) = k + ((a + 1 : Nat) : Int) := by omega
    rw [e]
    omega
theorem zsum_z {w : Int → Int} : ∀ (j : Nat) (k : Int), (∀ i, k ≤ i → i < k + j → w i = 0) → zsum w j k = 0
  | 0, _, _ => rfl
  | j + 1, k, h => by rw [zsum, h k (Int.le_refl _) (by omega), zsum_z j (k + 1) (fun i a b => h i (by omega) (by omega))]; rfl
def zw (c : ZS) (r g : Int) : Int := if 0 ≤ c r_Readings_marks_r g 0 r then c r_Readings_marks_r g 0 r else 0
def zp (c : ZS) (r g : Int) : Bool := decide (0 ≤ c r_Readings_marks_r g 0 r)
theorem zbest_stay {p : Int → Bool} {w : Int → Int} {t : Int} (t0 : 0 ≤ t) : ∀ (j : Nat) (k : Int), (∀ i, k ≤ i → i < k + j → p i = true → w t ≤ w i) → zbest p w j k t = t
  | 0, _, _ => rfl
  | j + 1, k, h => by
    rw [zbest]
    have e : (if p k = true then (if t < 0 then k else if w k < w t then k else t) else t) = t := by
      by_cases q : p k = true
      · have := h k (Int.le_refl _) (by omega) q
        rw [if_pos q, if_neg (by omega), if_neg (by omega)]
      · rw [if_neg q]
    rw [e]
    exact zbest_stay t0 j (k + 1) (fun i a b => h i (by omega) (by omega))
theorem zbest_is {p : Int → Bool} {w : Int → Int} {t : Int} (hp : p t = true) (t0 : 0 ≤ t) : ∀ (j : Nat) (k b : Int), k ≤ t → t < k + j → (b < 0 ∨ w t < w b) → (∀ i, k ≤ i → i < k + j → p i = true → i = t ∨ w t < w i ∨ (w i = w t ∧ t < i)) → zbest p w j k b = t
  | 0, k, b, h1, h2, _, _ => by omega
  | j + 1, k, b, h1, h2, h3, h4 => by
    rw [zbest]
    by_cases e : k = t
    · subst e
      have e1 : (if p k = true then (if b < 0 then k else if w k < w b then k else b) else b) = k := by
        rw [if_pos hp]
        rcases h3 with h3 | h3
        · rw [if_pos h3]
        · rw [if_pos h3, ite_self]
      rw [e1]
      refine zbest_stay t0 j (k + 1) (fun i a b' q => ?_)
      have := h4 i (by omega) (by omega) q
      omega
    · refine zbest_is hp t0 j (k + 1) _ (by omega) (by omega) ?_ (fun i a b' => h4 i (by omega) (by omega))
      by_cases q : p k = true
      · have := h4 k (Int.le_refl _) (by omega) q
        rw [if_pos q]
        split
        · exact Or.inr (by omega)
        · split
          · exact Or.inr (by omega)
          · exact h3
      · rw [if_neg q]
        exact h3
theorem zbest_none {p : Int → Bool} {w : Int → Int} : ∀ (j : Nat) (k b : Int), (∀ i, k ≤ i → i < k + j → p i = false) → zbest p w j k b = b
  | 0, _, _, _ => rfl
  | j + 1, k, b, h => by
    rw [zbest, h k (Int.le_refl _) (by omega), if_neg (by decide)]
    exact zbest_none j (k + 1) b (fun i a b' => h i (by omega) (by omega))
/-- the first n places of an order: all that p allows of those below k, the greatest V first, of like ones the lowest -/
def zOrd (o w V : Int → Int) (p : Int → Bool) (n k : Int) : Prop := (∀ i, 0 ≤ i → i < n → 0 ≤ o i ∧ o i < k ∧ p (o i) = true ∧ w i = V (o i)) ∧ (∀ i j, 0 ≤ i → i < j → j < n → V (o j) < V (o i) ∨ (V (o j) = V (o i) ∧ o i < o j)) ∧ ∀ f, 0 ≤ f → f < k → p f = true → ∃ i, 0 ≤ i ∧ i < n ∧ o i = f
theorem zOrd.skip {o w V : Int → Int} {p : Int → Bool} {n k : Int} (h : zOrd o w V p n k) (hp : p k = false) : zOrd o w V p n (k + 1) := by
  obtain ⟨h1, h2, h3⟩ := h
  refine ⟨fun i a b => ?_, h2, fun f a b q => ?_⟩
  · have := h1 i a b
    exact ⟨this.1, by omega, this.2.2⟩
  · by_cases e : f = k
    · rw [e, hp] at q
      cases q
    · exact h3 f a (by omega) q
theorem zOrd.put {o w o' w' V : Int → Int} {p : Int → Bool} {n k t : Int} (h : zOrd o w V p n k) (k0 : 0 ≤ k) (hp : p k = true) (t0 : 0 ≤ t) (t1 : t ≤ n) (ha : t = 0 ∨ V k ≤ w (t - 1)) (hb : ∀ i, t ≤ i → i < n → w i < V k) (ho : ∀ i, o' i = if i = t then k else if t < i ∧ i ≤ n then o (i - 1) else o i) (hw : ∀ i, w' i = if i = t then V k else if t < i ∧ i ≤ n then w (i - 1) else w i) : zOrd o' w' V p (n + 1) (k + 1) := by
  obtain ⟨h1, h2, h3⟩ := h
  have lo : ∀ i, i < t → o' i = o i ∧ w' i = w i := fun i hi => by
    rw [ho, hw, if_neg (by omega), if_neg (by omega), if_neg (by omega), if_neg (by omega)]
    exact ⟨rfl, rfl⟩
  have at_ : o' t = k ∧ w' t = V k := by
    rw [ho, hw, if_pos rfl, if_pos rfl]
    exact ⟨rfl, rfl⟩
  have hi : ∀ i, t < i → i ≤ n → o' i = o (i - 1) ∧ w' i = w (i - 1) := fun i a b => by
    rw [ho, hw, if_neg (by omega), if_pos ⟨a, b⟩, if_neg (by omega), if_pos ⟨a, b⟩]
    exact ⟨rfl, rfl⟩
  refine ⟨fun i i0 i1 => ?_, fun i j i0 ij j1 => ?_, fun f f0 f1 q => ?_⟩
  · by_cases c1 : i < t
    · rw [(lo i c1).1, (lo i c1).2]
      have := h1 i i0 (by omega)
      exact ⟨this.1, by omega, this.2.2⟩
    · by_cases c2 : i = t
      · rw [c2, at_.1, at_.2]
        exact ⟨k0, by omega, hp, rfl⟩
      · rw [(hi i (by omega) (by omega)).1, (hi i (by omega) (by omega)).2]
        have := h1 (i - 1) (by omega) (by omega)
        exact ⟨this.1, by omega, this.2.2⟩
  · by_cases c1 : j < t
    · rw [(lo i (by omega)).1, (lo j c1).1]
      exact h2 i j i0 ij (by omega)
    · by_cases c2 : j = t
      · rw [c2, at_.1, (lo i (by omega)).1]
        have a1 := h1 i i0 (by omega)
        have a2 := h1 (t - 1) (by omega) (by omega)
        have a3 : V k ≤ w (t - 1) := by
          rcases ha with ha | ha
          · omega
          · exact ha
        by_cases c3 : i = t - 1
        · rw [c3] at a1 ⊢
          omega
        · have := h2 i (t - 1) i0 (by omega) (by omega)
          omega
      · rw [(hi j (by omega) (by omega)).1]
        by_cases c3 : i < t
        · rw [(lo i c3).1]
          exact h2 i (j - 1) i0 (by omega) (by omega)
        · by_cases c4 : i = t
          · rw [c4, at_.1]
            have a1 := h1 (j - 1) (by omega) (by omega)
            have a2 := hb (j - 1) (by omega) (by omega)
            omega
          · rw [(hi i (by omega) (by omega)).1]
            exact h2 (i - 1) (j - 1) (by omega) (by omega) (by omega)
  · by_cases e : f = k
    · exact ⟨t, t0, by omega, by rw [at_.1, e]⟩
    · obtain ⟨i, i0, i1, i2⟩ := h3 f f0 (by omega) q
      by_cases c1 : i < t
      · exact ⟨i, i0, by omega, by rw [(lo i c1).1, i2]⟩
      · refine ⟨i + 1, by omega, by omega, ?_⟩
        rw [(hi (i + 1) (by omega) (by omega)).1, Int.add_sub_cancel, i2]
/-- the best of those that are left is the next of the order -/
theorem zOrd.best {o w V : Int → Int} {p : Int → Bool} {n k i : Int} (h : zOrd o w V p n k) (i0 : 0 ≤ i) (i1 : i < n) {l : Int → Bool} (hl : ∀ f, 0 ≤ f → f < k → (l f = true ↔ ∃ j, i ≤ j ∧ j < n ∧ o j = f)) : zbest l (fun f => - V f) k.toNat 0 (-1) = o i := by
  obtain ⟨h1, h2, h3⟩ := h
  obtain ⟨a1, a2, a3, a4⟩ := h1 i i0 i1
  refine zbest_is ((hl _ a1 a2).mpr ⟨i, Int.le_refl _, i1, rfl⟩) a1 k.toNat 0 (-1) a1 (by omega) (Or.inl (by omega)) (fun f f0 f1 q => ?_)
  obtain ⟨j, j0, j1, j2⟩ := (hl f f0 (by omega)).mp q
  by_cases e : j = i
  · rw [e] at j2
    exact Or.inl j2.symm
  · have := h2 i j i0 (by omega) j1
    rw [j2] at this
    (try dsimp only)
    omega
/-- a film is put into the order -/
theorem q_put : ∀ (j : Nat) (f W place : Int) (S : ZS), place = j → place ≤ 1000 → ∃ S', g_x_putInOrder ((1003, [f, W, place]), S) = ((0, []), S') ∧ (∀ r, [r_x_order, r_x_weights].contains r = false → S' r = S r) ∧ ∃ t, 0 ≤ t ∧ t ≤ place ∧ (t = 0 ∨ W ≤ S r_x_weights 0 0 (t - 1)) ∧ (∀ i, t ≤ i → i < place → S r_x_weights 0 0 i < W) ∧ (∀ i, S' r_x_order 0 0 i = if i = t then f else if t < i ∧ i ≤ place then S r_x_order 0 0 (i - 1) else S r_x_order 0 0 i) ∧ ∀ i, S' r_x_weights 0 0 i = if i = t then W else if t < i ∧ i ≤ place then S r_x_weights 0 0 (i - 1) else S r_x_weights 0 0 i := by
  have fr : ∀ {S : ZS} {i j x y : Int} {r : Nat}, [r_x_order, r_x_weights].contains r = false → (e_upd (e_upd S r_x_order 0 0 i x) r_x_weights 0 0 j y) r = S r := fun {S i j x y r} hr => by
    have h1 : (r == r_x_order) = false := by
      cases e : r == r_x_order with
      | false => rfl
      | true => rw [beq_iff_eq] at e; rw [e] at hr; exact absurd hr (by decide)
    have h2 : (r == r_x_weights) = false := by
      cases e : r == r_x_weights with
      | false => rfl
      | true => rw [beq_iff_eq] at e; rw [e] at hr; exact absurd hr (by decide)
    funext a b d
    rw [e_un h2, e_un h1]
  intro j
  induction j with
  | zero =>
    intro f W place S hp hm
    refine ⟨e_upd (e_upd S r_x_order 0 0 place f) r_x_weights 0 0 place W, ?_, fun r hr => fr hr, 0, Int.le_refl _, by omega, Or.inl rfl, fun i a b => by omega, fun i => ?_, fun i => ?_⟩
    · rw [g_x_putInOrder_3, zb_d, if_pos (by omega)]
    · simp (decide := true) only [e_un, e_ur, true_and]
      by_cases q : i = 0
      · rw [if_pos (by omega), if_pos q]
      · rw [if_neg (by omega), if_neg q, if_neg (by omega)]
    · simp (decide := true) only [e_un, e_ur, true_and]
      by_cases q : i = 0
      · rw [if_pos (by omega), if_pos q]
      · rw [if_neg (by omega), if_neg q, if_neg (by omega)]
  | succ j ih =>
    intro f W place S hp hm
    have hw1 : e_wr (place - 1) = place - 1 := e_wr_id (by omega) (by omega)
    have hw2 : e_wr (place + -1) = place - 1 := by
      rw [e_wr_id (by omega) (by omega)]
      omega
    by_cases q : W ≤ S r_x_weights 0 0 (place - 1)
    · refine ⟨e_upd (e_upd S r_x_order 0 0 place f) r_x_weights 0 0 place W, ?_, fun r hr => fr hr, place, by omega, Int.le_refl _, Or.inr q, fun i a b => by omega, fun i => ?_, fun i => ?_⟩
      · rw [g_x_putInOrder_3, zb_d, if_neg (by omega), hw1, zb_d, if_pos q]
      · simp (decide := true) only [e_un, e_ur, true_and]
        by_cases q : i = place
        · rw [if_pos q, if_pos q]
        · rw [if_neg q, if_neg q, if_neg (by omega)]
      · simp (decide := true) only [e_un, e_ur, true_and]
        by_cases q : i = place
        · rw [if_pos q, if_pos q]
        · rw [if_neg q, if_neg q, if_neg (by omega)]
    · obtain ⟨S', e1, e2, t, t0, t1, ta, tb, to, tw⟩ := ih f W (place - 1) (e_upd (e_upd S r_x_order 0 0 place (S r_x_order 0 0 (place - 1))) r_x_weights 0 0 place (S r_x_weights 0 0 (place - 1))) (by omega) (by omega)
      have ro : ∀ i, (e_upd (e_upd S r_x_order 0 0 place (S r_x_order 0 0 (place - 1))) r_x_weights 0 0 place (S r_x_weights 0 0 (place - 1))) r_x_order 0 0 i = if i = place then S r_x_order 0 0 (place - 1) else S r_x_order 0 0 i := fun i => by
        simp (decide := true) only [e_un, e_ur, true_and]
      have rw_ : ∀ i, (e_upd (e_upd S r_x_order 0 0 place (S r_x_order 0 0 (place - 1))) r_x_weights 0 0 place (S r_x_weights 0 0 (place - 1))) r_x_weights 0 0 i = if i = place then S r_x_weights 0 0 (place - 1) else S r_x_weights 0 0 i := fun i => by
        simp (decide := true) only [e_un, e_ur, true_and]
      refine ⟨S', ?_, fun r hr => (e2 r hr).trans (fr hr), t, t0, by omega, ?_, fun i a b => ?_, fun i => ?_, fun i => ?_⟩
      · rw [g_x_putInOrder_3, zb_d, if_neg (by omega), hw1, zb_d, if_neg q, hw2]
        exact e1
      · rcases ta with ta | ta
        · exact Or.inl ta
        · rw [rw_, if_neg (by omega)] at ta
          exact Or.inr ta
      · by_cases c : i = place - 1
        · rw [c]
          omega
        · have := tb i a (by omega)
          rw [rw_, if_neg (by omega)] at this
          exact this
      · rw [to, ro, ro]
        by_cases c1 : i = t
        · rw [if_pos c1, if_pos c1]
        · rw [if_neg c1, if_neg c1]
          by_cases c2 : i = place
          · rw [if_neg (by omega), if_pos c2, if_pos (by omega), c2]
          · by_cases c3 : t < i ∧ i ≤ place
            · rw [if_pos (by omega), if_neg (by omega), if_pos c3]
            · rw [if_neg (by omega), if_neg c2, if_neg c3]
      · rw [tw, rw_, rw_]
        by_cases c1 : i = t
        · rw [if_pos c1, if_pos c1]
        · rw [if_neg c1, if_neg c1]
          by_cases c2 : i = place
          · rw [if_neg (by omega), if_pos c2, if_pos (by omega), c2]
          · by_cases c3 : t < i ∧ i ≤ place
            · rw [if_pos (by omega), if_neg (by omega), if_pos c3]
            · rw [if_neg (by omega), if_neg c2, if_neg c3]
theorem q_putInOrder {f W n : Int} {S : ZS} (n0 : 0 ≤ n) (n1 : n ≤ 1000) : ∃ S', f_x_putInOrder [n, f, W] S = ((0, []), S') ∧ (∀ r, [r_x_order, r_x_weights].contains r = false → S' r = S r) ∧ ∀ {V : Int → Int} {p : Int → Bool} {k : Int}, zOrd (fun i => S r_x_order 0 0 i) (fun i => S r_x_weights 0 0 i) V p n k → 0 ≤ k → p k = true → f = k → W = V k → zOrd (fun i => S' r_x_order 0 0 i) (fun i => S' r_x_weights 0 0 i) V p (n + 1) (k + 1) := by
  obtain ⟨S', e1, e2, t, t0, t1, ta, tb, to, tw⟩ := q_put n.toNat f W n S (by omega) n1
  refine ⟨S', ?_, e2, fun {V p k} h k0 hp hf hW => ?_⟩
  · show g_x_putInOrder ((1000, [n, f, W]), S) = _
    rw [g_x_putInOrder_0]
    exact e1
  · subst hf
    subst hW
    exact h.put k0 hp t0 t1 ta tb to tw

