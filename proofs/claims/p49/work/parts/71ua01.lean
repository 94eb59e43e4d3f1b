/-! part 71ua01 -/
section
/-! Tools for the states: arithmetic, writes, loops that count or choose -/
theorem e_wr_id {x : Int} (h1 : -2147483648 ≤ x) (h2 : x ≤ 2147483647) : e_wr x = x := b_bm h1 h2
theorem e_us {S : ZS} {r : Nat} {i j k z : Int} : e_upd S r i j k z r i j k = z := if_pos ⟨rfl, rfl, rfl, rfl⟩
theorem e_ur {S : ZS} {r : Nat} {i j k z i' j' k' : Int} : e_upd S r i j k z r i' j' k' = if i' = i ∧ j' = j ∧ k' = k then z else S r i' j' k' := by
  unfold e_upd
  by_cases c : i' = i ∧ j' = j ∧ k' = k
  · rw [if_pos c, if_pos ⟨rfl, c⟩]
  · rw [if_neg c, if_neg (fun q => c q.2)]
theorem e_nb0 : e_nar 1 0 = 0 := by decide
theorem e_nb1 : e_nar 1 1 = 1 := by decide
theorem e_nc {x : Int} (h1 : 0 ≤ x) (h2 : x ≤ 65535) : e_nar 2 x = x := by
  have hx : x.bmod (2 ^ 32) = x := b_bm (by omega) (by omega)
  show (Int32.ofInt x).toUInt32.toUInt16.toUInt32.toInt32.toInt = x
  have e1 : (Int32.ofInt x).toInt = x := by rw [Int32.toInt_ofInt]; exact hx
  have e2 : (Int32.ofInt x).toUInt32.toNat = x.toNat := by
    have : (Int32.ofInt x).toUInt32.toNat = (Int32.ofInt x).toBitVec.toNat := rfl
    have k : (Int32.ofInt x).toInt = (Int32.ofInt x).toBitVec.toInt := rfl
    rw [BitVec.toInt_eq_toNat_cond] at k
    have lt : (Int32.ofInt x).toBitVec.toNat < 4294967296 := (Int32.ofInt x).toBitVec.isLt
    rw [this]
    split at k <;> omega
  have e3 : (Int32.ofInt x).toUInt32.toUInt16.toUInt32.toNat = x.toNat := by
    rw [UInt16.toNat_toUInt32, UInt32.toNat_toUInt16, e2]
    omega
  have e4 : (Int32.ofInt x).toUInt32.toUInt16.toUInt32.toInt32.toInt = ((Int32.ofInt x).toUInt32.toUInt16.toUInt32.toNat : Int) := by
    have k : ∀ y : UInt32, y.toNat < 65536 → y.toInt32.toInt = (y.toNat : Int) := fun y hy => by
      have : y.toInt32.toInt = y.toBitVec.toInt := rfl
      rw [this, BitVec.toInt_eq_toNat_cond, if_pos]
      · rfl
      · have : y.toBitVec.toNat = y.toNat := rfl
        omega
    exact k _ (by rw [e3]; omega)
  rw [e4, e3]
  omega
/-- how many of j from k on -/
def zcnt (p : Int → Bool) : Nat → Int → Int
  | 0, _ => 0
  | j + 1, k => (if p k = true then 1 else 0) + zcnt p j (k + 1)
theorem zcnt_cg {p q : Int → Bool} : ∀ (j : Nat) (k : Int), (∀ i, k ≤ i → i < k + j → p i = q i) → zcnt p j k = zcnt q j k
  | 0, _, _ => rfl
  | j + 1, k, h => by rw [zcnt, zcnt, h k (Int.le_refl _) (by omega), zcnt_cg j (k + 1) (fun i a b => h i (by omega) (by omega))]
theorem zcnt_le (p : Int → Bool) : ∀ (j : Nat) (k : Int), 0 ≤ zcnt p j k ∧ zcnt p j k ≤ j
  | 0, _ => ⟨Int.le_refl _, Int.le_refl _⟩
  | j + 1, k => by
    have := zcnt_le p j (k + 1)
    rw [zcnt]
    split <;> omega
theorem zcnt_pos {p : Int → Bool} : ∀ (j : Nat) (k : Int), 0 < zcnt p j k → ∃ i, k ≤ i ∧ i < k + j ∧ p i = true
  | 0, k, h => absurd h (by rw [zcnt]; omega)
  | j + 1, k, h => by
    cases e : p k with
    | true => exact ⟨k, Int.le_refl _, by omega, e⟩
    | false =>
      rw [zcnt, e, if_neg (by decide), Int.zero_add] at h
      obtain ⟨i, i1, i2, i3⟩ := zcnt_pos j (k + 1) h
      exact ⟨i, by omega, by omega, i3⟩
theorem zcnt_one {p : Int → Bool} {b : Int} (hb : p b = true) : ∀ (j : Nat) (k : Int), k ≤ b → b < k + j → zcnt p j k = zcnt (fun i => p i && decide (i ≠ b)) j k + 1
  | 0, k, h1, h2 => by omega
  | j + 1, k, h1, h2 => by
    rw [zcnt, zcnt]
    by_cases e : k = b
    · subst e
      rw [hb, if_pos rfl, if_neg (by simp)]
      have := zcnt_cg (p := p) (q := fun i => p i && decide (i ≠ k)) j (k + 1) (fun i a c => by
        have : i ≠ k := by omega
        simp [this])
      rw [this]
      omega
    · have ih := zcnt_one hb j (k + 1) (by omega) (by omega)
      have e2 : (p k && decide (k ≠ b)) = p k := by simp [e]
      rw [ih, e2]
      omega
/-- a loop that counts -/
theorem zl_cnt {n : Int} {p : Int → Bool} {fin : Int → ZR} {G : Int → Int → ZR} (hE : ∀ m k, k = n → G m k = fin m) (hG : ∀ m k, 0 ≤ k → k < n → 0 ≤ m → m ≤ k → G m k = if p k = true then G (m + 1) (k + 1) else G m (k + 1)) : ∀ (j : Nat) (m k : Int), 0 ≤ k → k + j = n → 0 ≤ m → m ≤ k → G m k = fin (m + zcnt p j k)
  | 0, m, k, h1, h2, h3, h4 => by rw [hE m k (by omega), zcnt, Int.add_zero]
  | j + 1, m, k, h1, h2, h3, h4 => by
    rw [hG m k h1 (by omega) h3 h4, zcnt]
    split
    · rw [zl_cnt hE hG j (m + 1) (k + 1) (by omega) (by omega) (by omega) (by omega)]
      congr 1
      omega
    · rw [zl_cnt hE hG j m (k + 1) (by omega) (by omega) (by omega) (by omega)]
      congr 1
      omega
/-- the first with the least w of those that p allows; b: who leads so far -/
def zbest (p : Int → Bool) (w : Int → Int) : Nat → Int → Int → Int
  | 0, _, b => b
  | j + 1, k, b => zbest p w j (k + 1) (if p k = true then (if b < 0 then k else if w k < w b then k else b) else b)
theorem zbest_lt {p : Int → Bool} {w : Int → Int} : ∀ (j : Nat) (k b : Int), 0 ≤ k → -1 ≤ b → b < k → -1 ≤ zbest p w j k b ∧ zbest p w j k b < k + j
  | 0, k, b, h0, h1, h2 => by rw [zbest]; omega
  | j + 1, k, b, h0, h1, h2 => by
    rw [zbest]
    have := zbest_lt (p := p) (w := w) j (k + 1) (if p k = true then (if b < 0 then k else if w k < w b then k else b) else b) (by omega) (by (repeat' split) <;> omega) (by (repeat' split) <;> omega)
    omega
theorem zbest_nn {p : Int → Bool} {w : Int → Int} : ∀ (j : Nat) (k b : Int), 0 ≤ k → (0 ≤ b ∨ ∃ i, k ≤ i ∧ i < k + j ∧ p i = true) → 0 ≤ zbest p w j k b
  | 0, k, b, h0, h => by
    rw [zbest]
    rcases h with h | ⟨i, i1, i2, -⟩ <;> omega
  | j + 1, k, b, h0, h => by
    rw [zbest]
    apply zbest_nn j (k + 1) _ (by omega)
    rcases h with h | ⟨i, i1, i2, i3⟩
    · left
      (repeat' split) <;> omega
    · by_cases e : i = k
      · subst e
        left
        rw [if_pos i3]
        (repeat' split) <;> omega
      · exact Or.inr ⟨i, by omega, by omega, i3⟩
theorem zbest_p {p : Int → Bool} {w : Int → Int} : ∀ (j : Nat) (k b : Int), (b < 0 ∨ p b = true) → zbest p w j k b < 0 ∨ p (zbest p w j k b) = true
  | 0, k, b, h => by rw [zbest]; exact h
  | j + 1, k, b, h => by
    rw [zbest]
    apply zbest_p j (k + 1)
    split
    · rename_i e
      (repeat' split) <;> first | exact Or.inr e | exact h
    · exact h
theorem zbest_cg {p q : Int → Bool} {w v : Int → Int} : ∀ (j : Nat) (k b : Int), 0 ≤ k → (∀ i, 0 ≤ i → i < k + j → p i = q i ∧ w i = v i) → b < k → zbest p w j k b = zbest q v j k b
  | 0, _, _, _, _, _ => rfl
  | j + 1, k, b, h0, h, hb => by
    rw [zbest, zbest, (h k h0 (by omega)).1, (h k h0 (by omega)).2]
    by_cases c : b < 0
    · rw [if_pos c, if_pos c]
      exact zbest_cg j (k + 1) _ (by omega) (fun i a a2 => h i a (by omega)) (by (repeat' split) <;> omega)
    · rw [if_neg c, if_neg c, (h b (by omega) (by omega)).2]
      exact zbest_cg j (k + 1) _ (by omega) (fun i a a2 => h i a (by omega)) (by (repeat' split) <;> omega)
/-- a sum -/
def zsum (w : Int → Int) : Nat → Int → Int
  | 0, _ => 0
  | j + 1, k => w k + zsum w j (k + 1)
theorem zsum_cg {v w : Int → Int} : ∀ (j : Nat) (k : Int), (∀ i, k ≤ i → i < k + j → v i = w i) → zsum v j k = zsum w j k
  | 0, _, _ => rfl
  | j + 1, k, h => by rw [zsum, zsum, h k (Int.le_refl _) (by omega), zsum_cg j (k + 1) (fun i a b => h i (by omega) (by omega))]
theorem zsum_le {w : Int → Int} {lo hi : Int} : ∀ (j : Nat) (k : Int), (∀ i, k ≤ i → i < k + j → lo ≤ w i ∧ w i ≤ hi) → lo * j ≤ zsum w j k ∧ zsum w j k ≤ hi * j
  | 0, _, _ => by rw [zsum]; omega
  | j + 1, k, h => by
    have h1 := h k (Int.le_refl _) (by omega)
    have h2 := zsum_le (w := w) (lo := lo) (hi := hi) j (k + 1) (fun i a b => h i (by omega) (by omega))
    rw [zsum]
    have e1 : lo * ((j + 1 : Nat) : Int) = lo * j + lo := by rw [Int.natCast_add, Int.mul_add]; simp
    have e2 : hi * ((j + 1 : Nat) : Int) = hi * j + hi := by rw [Int.natCast_add, Int.mul_add]; simp
    omega
theorem zsum_app {w : Int → Int} : ∀ (j : Nat) (k : Int), zsum w (j + 1) k = zsum w j k + w (k + j)
  | 0, k => by simp [zsum]
  | j + 1, k => by
    rw [zsum, zsum_app j (k + 1), zsum]
    have : k + 1 + (j : Int) = k + ((j + 1 : Nat) : Int) := by omega
    rw [this]
    omega
theorem zcnt_app {p : Int → Bool} : ∀ (j : Nat) (k : Int), zcnt p (j + 1) k = zcnt p j k + (if p (k + j) = true then 1 else 0)
  | 0, k => by simp [zcnt]
  | j + 1, k => by
    rw [zcnt, zcnt_app j (k + 1), zcnt]
    have : k + 1 + (j : Int) = k + ((j + 1 : Nat) : Int) := by omega
    rw [this]
    omega
/-- one place is told anew -/
theorem zsum_upd {w : Int → Int} {b z : Int} : ∀ (j : Nat) (k : Int), k ≤ b → b < k + j → zsum (fun i => if i = b then z else w i) j k = zsum w j k - w b + z
  | 0, k, h1, h2 => by omega
  | j + 1, k, h1, h2 => by
    rw [zsum, zsum]
    by_cases e : k = b
    · subst e
      rw [if_pos rfl, zsum_cg (v := fun i => if i = k then z else w i) (w := w) j (k + 1) (fun i a c => if_neg (by omega))]
      omega
    · rw [if_neg e, zsum_upd j (k + 1) (by omega) (by omega)]
      omega
end
/-! part 71ua02 -/
section
/-! Dealing, reading: what the methods say -/
theorem zb_n {α : Type} {p : Prop} [Decidable p] {a b : α} : (bif !decide p then a else b) = if p then b else a := by
  by_cases h : p <;> simp [h]
theorem zb_d {α : Type} {p : Prop} [Decidable p] {a b : α} : (bif decide p then a else b) = if p then a else b := by
  by_cases h : p <;> simp [h]
theorem q_within {x a b : Int} {S : ZS} : v_x_isWithin x a b S = if a ≤ x ∧ x ≤ b then 1 else 0 := by
  unfold v_x_isWithin
  simp only [zb_d]
  repeat' split
  all_goals first | rfl | omega
theorem q_isIn {x a b : Int} {S : ZS} : v_m_isIn x a b S = if a ≤ x ∧ x ≤ b then 1 else 0 := by
  unfold v_m_isIn
  simp only [zb_d]
  repeat' split
  all_goals first | rfl | omega
theorem q_num {x n : Int} {S : ZS} (h0 : 0 ≤ n) (h1 : n ≤ 1000) : f_x_checkNumber [x, n] S = if 0 ≤ x ∧ x < n then ((0, []), S) else ((1, []), S) := by
  show (bif !decide (v_x_isWithin x 0 (e_wr (n - 1)) S = 0) then _ else _) = _
  rw [zb_n, q_within, e_wr_id (by omega) (by omega)]
  repeat' split
  all_goals first | rfl | omega
theorem e_b_ok {l : List Int} {S : ZS} {k : Int → ZS → ZR} : e_bind ((0, l), S) k = k (l.getD 0 0) S := rfl
theorem e_b_x {c : Nat} {S : ZS} {k : Int → ZS → ZR} (h : c ≠ 0) (h2 : c < 1000) : e_bind ((c, []), S) k = ((c, []), S) := by
  unfold e_bind
  have : (c == 0) = false := by simpa using h
  rw [this]
  show ((c % 1000, []), S) = _
  rw [Nat.mod_eq_of_lt h2]
theorem e_b_if {p : Prop} [Decidable p] {A B : ZR} {k : Int → ZS → ZR} : e_bind (if p then A else B) k = if p then e_bind A k else e_bind B k := by split <;> rfl
theorem q_film {f : Int} {S : ZS} (h0 : 0 ≤ S r_x_filmCount 0 0 0) (h1 : S r_x_filmCount 0 0 0 ≤ 1000) : f_x_checkFilm [f] S = if 0 ≤ f ∧ f < S r_x_filmCount 0 0 0 then ((0, []), S) else ((1, []), S) := by
  show e_bind (f_x_checkNumber [f, S r_x_filmCount 0 0 0] S) (fun _ S1 => ((0, []), S1)) = _
  rw [q_num h0 h1, e_b_if]
  rfl
theorem q_reader {k : Int} {S : ZS} (h0 : 0 ≤ S r_Readings_readerCount 0 0 0) (h1 : S r_Readings_readerCount 0 0 0 ≤ 1000) : f_x_checkReader [k] S = if 0 ≤ k ∧ k < S r_Readings_readerCount 0 0 0 then ((0, []), S) else ((1, []), S) := by
  show e_bind (f_x_checkNumber [k, S r_Readings_readerCount 0 0 0] S) (fun _ S1 => ((0, []), S1)) = _
  rw [q_num h0 h1, e_b_if]
  rfl
theorem q_noFilm {f : Int} {S : ZS} (h0 : 0 ≤ S r_m_films 0 0 0) (h1 : S r_m_films 0 0 0 ≤ 1000) : v_m_isNoFilm f S = if 0 ≤ f ∧ f < S r_m_films 0 0 0 then 0 else 1 := by
  unfold v_m_isNoFilm
  rw [zb_n, q_isIn, e_wr_id (by omega) (by omega)]
  repeat' split
  all_goals first | rfl | omega
theorem q_noReader {f k : Int} {S : ZS} (h0 : 0 ≤ S r_m_films 0 0 0) (h1 : S r_m_films 0 0 0 ≤ 1000) (h2 : 0 ≤ S r_m_readers 0 0 0) (h3 : S r_m_readers 0 0 0 ≤ 1000) : f_m_isNoReader [f, k] S = if (0 ≤ f ∧ f < S r_m_films 0 0 0) ∧ 0 ≤ k ∧ k < S r_m_readers 0 0 0 then ((0, [0]), e_upd S r_m_thrown 0 0 0 0) else ((0, [1]), e_upd S r_m_thrown 0 0 0 1) := by
  show (bif !decide (v_m_isNoFilm f S = 0) then _ else (bif !decide (v_m_isIn k 0 (e_wr (S r_m_readers 0 0 0 - 1)) S = 0) then _ else _)) = _
  rw [zb_n, zb_n, q_noFilm h0 h1, q_isIn, e_wr_id (by omega) (by omega)]
  repeat' split
  all_goals first | rfl | omega
/-! who may read -/
def dpF (S : ZS) (f l k : Int) : Bool := decide (S r_Readings_lands 0 0 k ≠ l) && decide (S r_Readings_marks_r f 0 k = -2)
def pM (S : ZS) (f k : Int) : Bool := decide (S r_m_readerLands 0 0 k ≠ S r_m_lands 0 0 f) && decide (S r_m_areDealt_r f 0 k = 0)
theorem q_isFree {f l k : Int} {S : ZS} : v_Readings_isFree f l k S = if dpF S f l k = true then 1 else 0 := by
  unfold v_Readings_isFree dpF
  rw [zb_d, zb_n]
  repeat' split
  all_goals simp_all
theorem q_mayRead {f k : Int} {S : ZS} : v_m_mayRead f k S = if pM S f k = true then 1 else 0 := by
  unfold v_m_mayRead pM
  rw [zb_d, zb_n]
  repeat' split
  all_goals simp_all
theorem q_countFree {f l : Int} {S : ZS} (h0 : 0 ≤ S r_Readings_readerCount 0 0 0) (h1 : S r_Readings_readerCount 0 0 0 ≤ 8) : f_Readings_countFree [f, l] S = ((0, [zcnt (dpF S f l) (S r_Readings_readerCount 0 0 0).toNat 0]), S) := by
  show g_Readings_countFree ((1000, [f, l]), S) = _
  rw [g_Readings_countFree_0]
  refine (zl_cnt (n := S r_Readings_readerCount 0 0 0) (p := dpF S f l) (fin := fun m => ((0, [m]), S)) (G := fun m k => g_Readings_countFree ((1005, [f, l, m, k]), S)) (fun m k hk => ?_) (fun m k k1 k2 m1 m2 => ?_) (S r_Readings_readerCount 0 0 0).toNat 0 0 (by omega) (by omega) (by omega) (by omega)).trans ?_
  · rw [g_Readings_countFree_5, zb_d, if_pos (by omega)]
  · rw [g_Readings_countFree_5, zb_d, if_neg (by omega), zb_d, q_isFree, e_wr_id (by omega) (by omega), e_wr_id (by omega) (by omega)]
    cases dpF S f l k <;> rfl
  · rw [Int.zero_add]
theorem q_countDealt {f : Int} {S : ZS} (h0 : 0 ≤ S r_Readings_readerCount 0 0 0) (h1 : S r_Readings_readerCount 0 0 0 ≤ 8) : f_Readings_countDealt [f] S = ((0, [zcnt (fun k => decide (S r_Readings_marks_r f 0 k ≠ -2)) (S r_Readings_readerCount 0 0 0).toNat 0]), S) := by
  show g_Readings_countDealt ((1000, [f]), S) = _
  rw [g_Readings_countDealt_0]
  refine (zl_cnt (n := S r_Readings_readerCount 0 0 0) (p := fun k => decide (S r_Readings_marks_r f 0 k ≠ -2)) (fin := fun m => ((0, [m]), S)) (G := fun m k => g_Readings_countDealt ((1004, [f, m, k]), S)) (fun m k hk => ?_) (fun m k k1 k2 m1 m2 => ?_) (S r_Readings_readerCount 0 0 0).toNat 0 0 (by omega) (by omega) (by omega) (by omega)).trans ?_
  · rw [g_Readings_countDealt_4, zb_d, if_pos (by omega)]
  · rw [g_Readings_countDealt_4, zb_d, if_neg (by omega), zb_d, e_wr_id (by omega) (by omega), e_wr_id (by omega) (by omega)]
    by_cases c : S r_Readings_marks_r f 0 k = -2 <;> simp [c]
  · rw [Int.zero_add]
theorem q_countTold {f : Int} {S : ZS} (h0 : 0 ≤ S r_Readings_readerCount 0 0 0) (h1 : S r_Readings_readerCount 0 0 0 ≤ 8) : f_Readings_countTold [f] S = ((0, [zcnt (fun k => decide (0 ≤ S r_Readings_marks_r f 0 k)) (S r_Readings_readerCount 0 0 0).toNat 0]), S) := by
  show g_Readings_countTold ((1000, [f]), S) = _
  rw [g_Readings_countTold_0]
  refine (zl_cnt (n := S r_Readings_readerCount 0 0 0) (p := fun k => decide (0 ≤ S r_Readings_marks_r f 0 k)) (fin := fun m => ((0, [m]), S)) (G := fun m k => g_Readings_countTold ((1004, [f, m, k]), S)) (fun m k hk => ?_) (fun m k k1 k2 m1 m2 => ?_) (S r_Readings_readerCount 0 0 0).toNat 0 0 (by omega) (by omega) (by omega) (by omega)).trans ?_
  · rw [g_Readings_countTold_4, zb_d, if_pos (by omega)]
  · rw [g_Readings_countTold_4, zb_d, if_neg (by omega), zb_d, e_wr_id (by omega) (by omega), e_wr_id (by omega) (by omega)]
    by_cases c : S r_Readings_marks_r f 0 k < 0
    · rw [if_pos c, if_neg (by simp; omega)]
    · rw [if_neg c, if_pos (by simp; omega)]
  · rw [Int.zero_add]
theorem q_scoreMany {f : Int} {S : ZS} (h0 : 0 ≤ S r_m_readers 0 0 0) (h1 : S r_m_readers 0 0 0 ≤ 8) : f_m_scoreMany [f] S = ((0, [zcnt (fun k => decide (0 ≤ S r_m_scores_r f 0 k)) (S r_m_readers 0 0 0).toNat 0]), S) := by
  show g_m_scoreMany ((1000, [f]), S) = _
  rw [g_m_scoreMany_0]
  refine (zl_cnt (n := S r_m_readers 0 0 0) (p := fun k => decide (0 ≤ S r_m_scores_r f 0 k)) (fin := fun m => ((0, [m]), S)) (G := fun m k => g_m_scoreMany ((1004, [f, m, k]), S)) (fun m k hk => ?_) (fun m k k1 k2 m1 m2 => ?_) (S r_m_readers 0 0 0).toNat 0 0 (by omega) (by omega) (by omega) (by omega)).trans ?_
  · rw [g_m_scoreMany_4, zb_d, if_pos (by omega)]
  · rw [g_m_scoreMany_4, zb_d, if_neg (by omega), zb_d, Int.add_zero, e_wr_id (x := m) (by omega) (by omega), e_wr_id (by omega) (by omega), e_wr_id (by omega) (by omega)]
    by_cases c : S r_m_scores_r f 0 k < 0
    · rw [if_pos c, if_neg (by simp; omega)]
    · rw [if_neg c, if_pos (by simp; omega)]
  · rw [Int.zero_add]
end
/-! part 71ua03 -/
section
/-! Dealing on both sides -/
theorem zl_best {n : Int} {p : Int → Bool} {w : Int → Int} {fin : Int → ZR} {G : Int → Int → ZR} (hE : ∀ b k, k = n → -1 ≤ b → b < k → G b k = fin b) (hG : ∀ b k, 0 ≤ k → k < n → -1 ≤ b → b < k → G b k = G (if p k = true then (if b < 0 then k else if w k < w b then k else b) else b) (k + 1)) : ∀ (j : Nat) (b k : Int), 0 ≤ k → k + j = n → -1 ≤ b → b < k → G b k = fin (zbest p w j k b)
  | 0, b, k, h1, h2, h3, h4 => by rw [hE b k (by omega) h3 h4, zbest]
  | j + 1, b, k, h1, h2, h3, h4 => by
    rw [hG b k h1 (by omega) h3 h4, zbest]
    exact zl_best hE hG j _ (k + 1) (by omega) (by omega) (by (repeat' split) <;> omega) (by (repeat' split) <;> omega)
def bF (S : ZS) (f l : Int) : Int := zbest (dpF S f l) (fun k => S r_Readings_dealtFilms 0 0 k) (S r_Readings_readerCount 0 0 0).toNat 0 (-1)
def sF (f l : Int) (S : ZS) : ZS := if bF S f l = -1 then S else e_upd (e_upd S r_Readings_marks_r f 0 (bF S f l) (-1)) r_Readings_dealtFilms 0 0 (bF S f l) (e_wr (S r_Readings_dealtFilms 0 0 (bF S f l) + 1))
theorem q_dealOnce {f l : Int} {S : ZS} (h0 : 0 ≤ S r_Readings_readerCount 0 0 0) (h1 : S r_Readings_readerCount 0 0 0 ≤ 8) : f_Readings_dealOnce [f, l] S = ((0, []), sF f l S) := by
  show g_Readings_dealOnce ((1000, [f, l]), S) = _
  rw [g_Readings_dealOnce_0]
  refine (zl_best (n := S r_Readings_readerCount 0 0 0) (p := dpF S f l) (w := fun k => S r_Readings_dealtFilms 0 0 k) (fin := fun b => ((0, []), if b = -1 then S else e_upd (e_upd S r_Readings_marks_r f 0 b (-1)) r_Readings_dealtFilms 0 0 b (e_wr (S r_Readings_dealtFilms 0 0 b + 1)))) (G := fun b k => g_Readings_dealOnce ((1005, [f, l, b, k]), S)) (fun b k hk _ _ => ?_) (fun b k k1 k2 m1 m2 => ?_) (S r_Readings_readerCount 0 0 0).toNat (-1) 0 (by omega) (by omega) (by omega) (by omega))
  · rw [g_Readings_dealOnce_5, zb_d, if_pos (by omega), zb_d]
    split <;> rfl
  · rw [g_Readings_dealOnce_5, zb_d, if_neg (by omega), zb_d, zb_d, zb_d, q_isFree, e_wr_id (x := k + 1) (by omega) (by omega)]
    cases dpF S f l k with
    | false => rfl
    | true =>
      rw [if_neg (by decide), if_pos rfl]
      by_cases c : b = -1
      · rw [if_pos c, if_pos (by omega)]
      · rw [if_neg c, if_neg (show ¬ b < 0 by omega)]
        by_cases d : S r_Readings_dealtFilms 0 0 b ≤ S r_Readings_dealtFilms 0 0 k
        · rw [if_pos d, if_neg (by omega)]
        · rw [if_neg d, if_pos (by omega)]
def bM (S : ZS) (f : Int) : Int := zbest (pM S f) (fun k => S r_m_dealtMany 0 0 k) (S r_m_readers 0 0 0).toNat 0 (-1)
def dsM (f : Int) (S : ZS) : ZS := e_upd (e_upd S r_m_areDealt_r f 0 (bM S f) 1) r_m_dealtMany 0 0 (bM S f) (e_wr (S r_m_dealtMany 0 0 (bM S f) + 1))
theorem q_mdealOnce {f n i : Int} {S : ZS} (h0 : 0 ≤ S r_m_readers 0 0 0) (h1 : S r_m_readers 0 0 0 ≤ 8) (i0 : 0 ≤ i) (i1 : i < 1000) : g_m_deal ((1111, [f, n, i, -1, 0]), S) = g_m_deal ((1099, [f, n, i + 1]), dsM f S) := by
  refine (zl_best (n := S r_m_readers 0 0 0) (p := pM S f) (w := fun k => S r_m_dealtMany 0 0 k) (fin := fun b => g_m_deal ((1099, [f, n, i + 1]), e_upd (e_upd S r_m_areDealt_r f 0 b 1) r_m_dealtMany 0 0 b (e_wr (S r_m_dealtMany 0 0 b + 1)))) (G := fun b k => g_m_deal ((1111, [f, n, i, b, k]), S)) (fun b k hk _ _ => ?_) (fun b k k1 k2 m1 m2 => ?_) (S r_m_readers 0 0 0).toNat (-1) 0 (by omega) (by omega) (by omega) (by omega))
  · rw [g_m_deal_111, zb_d, if_pos (by omega), e_nb1, e_wr_id (x := i + 1) (by omega) (by omega)]
  · rw [g_m_deal_111, zb_d, if_neg (by omega), zb_d, zb_d, zb_d, q_mayRead, e_wr_id (x := k + 1) (by omega) (by omega)]
    cases pM S f k with
    | false => rfl
    | true =>
      rw [if_neg (by decide), if_pos rfl]
      by_cases c : b < 0
      · rw [if_pos c, if_pos c]
      · rw [if_neg c, if_neg c]
        by_cases d : S r_m_dealtMany 0 0 b ≤ S r_m_dealtMany 0 0 k
        · rw [if_pos d, if_neg (by omega)]
        · rw [if_neg d, if_pos (by omega)]
/-! Many dealings -/
def zit (s : ZS → ZS) : Nat → ZS → ZS
  | 0, S => S
  | t + 1, S => zit s t (s S)
theorem sF_n {f l : Int} {S : ZS} : (sF f l S) r_Readings_readerCount 0 0 0 = S r_Readings_readerCount 0 0 0 := by
  unfold sF
  split
  · rfl
  · rw [e_un (by decide), e_un (by decide)]
theorem q_dealLoop {f n l : Int} (n1 : n ≤ 8) : ∀ (t : Nat) (i : Int) (S : ZS), 0 ≤ i → i + t = n → 0 ≤ S r_Readings_readerCount 0 0 0 → S r_Readings_readerCount 0 0 0 ≤ 8 → g_x_deal ((1061, [f, n, l, i]), S) = ((0, [zcnt (fun k => decide (zit (sF f l) t S r_Readings_marks_r f 0 k ≠ -2)) (S r_Readings_readerCount 0 0 0).toNat 0]), zit (sF f l) t S)
  | 0, i, S, h1, h2, h3, h4 => by
    rw [g_x_deal_61, zb_d, if_pos (by omega), q_countDealt h3 h4]
    rfl
  | t + 1, i, S, h1, h2, h3, h4 => by
    rw [g_x_deal_61, zb_d, if_neg (by omega), q_dealOnce h3 h4, e_wr_id (by omega) (by omega)]
    show g_x_deal ((1061, [f, n, l, i + 1]), sF f l S) = _
    rw [q_dealLoop n1 t (i + 1) (sF f l S) (by omega) (by omega) (by rw [sF_n]; exact h3) (by rw [sF_n]; exact h4), sF_n]
    rfl
theorem sM_n {f : Int} {S : ZS} : (dsM f S) r_m_readers 0 0 0 = S r_m_readers 0 0 0 := by
  unfold dsM
  rw [e_un (by decide), e_un (by decide)]
theorem q_mHave {f : Int} {S : ZS} (h0 : 0 ≤ S r_m_readers 0 0 0) (h1 : S r_m_readers 0 0 0 ≤ 8) : g_m_deal ((1200, [f, 0, 0]), S) = ((0, [zcnt (fun k => decide (S r_m_areDealt_r f 0 k ≠ 0)) (S r_m_readers 0 0 0).toNat 0]), S) := by
  refine (zl_cnt (n := S r_m_readers 0 0 0) (p := fun k => decide (S r_m_areDealt_r f 0 k ≠ 0)) (fin := fun m => ((0, [m]), S)) (G := fun m k => g_m_deal ((1200, [f, m, k]), S)) (fun m k hk => ?_) (fun m k k1 k2 m1 m2 => ?_) (S r_m_readers 0 0 0).toNat 0 0 (by omega) (by omega) (by omega) (by omega)).trans ?_
  · rw [g_m_deal_200, zb_d, if_pos (by omega)]
  · rw [g_m_deal_200, zb_d, if_neg (by omega), zb_d, Int.add_zero, e_wr_id (x := m) (by omega) (by omega), e_wr_id (by omega) (by omega), e_wr_id (by omega) (by omega)]
    by_cases c : S r_m_areDealt_r f 0 k = 0 <;> simp [c]
  · rw [Int.zero_add]
theorem q_mdealLoop {f n : Int} (n1 : n ≤ 8) : ∀ (t : Nat) (i : Int) (S : ZS), 0 ≤ i → i + t = n → 0 ≤ S r_m_readers 0 0 0 → S r_m_readers 0 0 0 ≤ 8 → g_m_deal ((1099, [f, n, i]), S) = ((0, [zcnt (fun k => decide (zit (dsM f) t S r_m_areDealt_r f 0 k ≠ 0)) (S r_m_readers 0 0 0).toNat 0]), zit (dsM f) t S)
  | 0, i, S, h1, h2, h3, h4 => by
    rw [g_m_deal_99, zb_d, if_pos (by omega), q_mHave h3 h4]
    rfl
  | t + 1, i, S, h1, h2, h3, h4 => by
    rw [g_m_deal_99, zb_d, if_neg (by omega), q_mdealOnce h3 h4 h1 (by omega), q_mdealLoop n1 t (i + 1) (dsM f S) (by omega) (by omega) (by rw [sM_n]; exact h3) (by rw [sM_n]; exact h4), sM_n]
    rfl
theorem q_mcan {f n : Int} {S : ZS} (h0 : 0 ≤ S r_m_readers 0 0 0) (h1 : S r_m_readers 0 0 0 ≤ 8) : g_m_deal ((1043, [f, n, 0, 0]), S) = (fun m => if n ≤ m then g_m_deal ((1099, [f, n, 0]), e_upd S r_m_thrown 0 0 0 0) else ((0, [0]), e_upd S r_m_thrown 0 0 0 3)) (zcnt (pM S f) (S r_m_readers 0 0 0).toNat 0) := by
  refine (zl_cnt (n := S r_m_readers 0 0 0) (p := pM S f) (fin := fun m => if n ≤ m then g_m_deal ((1099, [f, n, 0]), e_upd S r_m_thrown 0 0 0 0) else ((0, [0]), e_upd S r_m_thrown 0 0 0 3)) (G := fun m k => g_m_deal ((1043, [f, n, m, k]), S)) (fun m k hk => ?_) (fun m k k1 k2 m1 m2 => ?_) (S r_m_readers 0 0 0).toNat 0 0 (by omega) (by omega) (by omega) (by omega)).trans ?_
  · rw [g_m_deal_43, zb_d, if_pos (by omega), zb_d]
  · rw [g_m_deal_43, zb_d, if_neg (by omega), zb_d, Int.add_zero, q_mayRead, e_wr_id (x := m) (by omega) (by omega), e_wr_id (by omega) (by omega), e_wr_id (by omega) (by omega)]
    cases pM S f k <;> rfl
  · rw [Int.zero_add]
/-! The two sides beside each other: c holds the class, m the model -/
def zR (c m : ZS) : Prop := (0 ≤ c r_x_filmCount 0 0 0 ∧ c r_x_filmCount 0 0 0 ≤ 20 ∧ m r_m_films 0 0 0 = c r_x_filmCount 0 0 0) ∧ (0 ≤ c r_Readings_readerCount 0 0 0 ∧ c r_Readings_readerCount 0 0 0 ≤ 8 ∧ m r_m_readers 0 0 0 = c r_Readings_readerCount 0 0 0) ∧ (∀ k, 0 ≤ k → k < 8 → m r_m_readerLands 0 0 k = c r_Readings_lands 0 0 k) ∧ (∀ f, 0 ≤ f → f < c r_x_filmCount 0 0 0 → m r_m_lands 0 0 f = c r_Film_land f 0 0) ∧ (∀ f k, 0 ≤ f → f < 20 → 0 ≤ k → k < 8 → m r_m_areDealt_r f 0 k = if c r_Readings_marks_r f 0 k = -2 then 0 else 1) ∧ (∀ k, 0 ≤ k → k < 8 → m r_m_dealtMany 0 0 k = c r_Readings_dealtFilms 0 0 k) ∧ (∀ f k, 0 ≤ f → f < 20 → 0 ≤ k → k < 8 → (-2 ≤ c r_Readings_marks_r f 0 k ∧ c r_Readings_marks_r f 0 k ≤ 100) ∧ (c r_x_filmCount 0 0 0 ≤ f → c r_Readings_marks_r f 0 k = -2) ∧ (0 ≤ c r_Readings_marks_r f 0 k → m r_m_scores_r f 0 k = c r_Readings_marks_r f 0 k) ∧ (c r_Readings_marks_r f 0 k < 0 → f < c r_x_filmCount 0 0 0 → m r_m_scores_r f 0 k = -1)) ∧ ∀ k, 0 ≤ k → k < 8 → c r_Readings_toldScores 0 0 k = zcnt (fun f => decide (0 ≤ c r_Readings_marks_r f 0 k)) 20 0 ∧ c r_Readings_sums 0 0 k = zsum (fun f => if 0 ≤ c r_Readings_marks_r f 0 k then c r_Readings_marks_r f 0 k else 0) 20 0
/-- the regions that it speaks of -/
def zRC : List Nat := [r_x_filmCount, r_Readings_readerCount, r_Readings_lands, r_Film_land, r_Readings_marks_r, r_Readings_dealtFilms, r_Readings_toldScores, r_Readings_sums]
def zRM : List Nat := [r_m_films, r_m_readers, r_m_readerLands, r_m_lands, r_m_areDealt_r, r_m_dealtMany, r_m_scores_r]
theorem zR.cg {c m c' m' : ZS} (h : zR c m) (hc : ∀ r ∈ zRC, c' r = c r) (hm : ∀ r ∈ zRM, m' r = m r) : zR c' m' := by
  unfold zR
  rw [hc r_x_filmCount (by decide), hc r_Readings_readerCount (by decide), hc r_Readings_lands (by decide), hc r_Film_land (by decide), hc r_Readings_marks_r (by decide), hc r_Readings_dealtFilms (by decide), hc r_Readings_toldScores (by decide), hc r_Readings_sums (by decide), hm r_m_films (by decide), hm r_m_readers (by decide), hm r_m_readerLands (by decide), hm r_m_lands (by decide), hm r_m_areDealt_r (by decide), hm r_m_dealtMany (by decide), hm r_m_scores_r (by decide)]
  exact h
theorem zR.p {c m : ZS} (h : zR c m) {f : Int} (f0 : 0 ≤ f) (f1 : f < c r_x_filmCount 0 0 0) {k : Int} (k0 : 0 ≤ k) (k1 : k < 8) : pM m f k = dpF c f (c r_Film_land f 0 0) k := by
  obtain ⟨⟨a1, a2, a3⟩, b, l, fl, ad, -⟩ := h
  unfold pM dpF
  rw [l k k0 k1, fl f f0 f1, ad f k f0 (by omega) k0 k1]
  by_cases q : c r_Readings_marks_r f 0 k = -2 <;> simp [q]
theorem zR.b {c m : ZS} (h : zR c m) {f : Int} (f0 : 0 ≤ f) (f1 : f < c r_x_filmCount 0 0 0) : bM m f = bF c f (c r_Film_land f 0 0) := by
  have hp := fun k k0 k1 => h.p f0 f1 (k := k) k0 k1
  obtain ⟨-, ⟨b1, b2, b3⟩, -, -, -, dm, -⟩ := h
  unfold bM bF
  rw [b3]
  exact zbest_cg _ 0 (-1) (Int.le_refl _) (fun i i0 i1 => ⟨hp i i0 (by omega), dm i i0 (by omega)⟩) (by omega)
theorem zR.cnt {c m : ZS} (h : zR c m) {f : Int} (f0 : 0 ≤ f) (f1 : f < c r_x_filmCount 0 0 0) : zcnt (pM m f) (m r_m_readers 0 0 0).toNat 0 = zcnt (dpF c f (c r_Film_land f 0 0)) (c r_Readings_readerCount 0 0 0).toNat 0 := by
  have hp := fun k k0 k1 => h.p f0 f1 (k := k) k0 k1
  obtain ⟨-, ⟨b1, b2, b3⟩, -⟩ := h
  rw [b3]
  exact zcnt_cg _ 0 (fun i i0 i1 => hp i i0 (by omega))
theorem zR.dealOnce {c m : ZS} (h : zR c m) {f : Int} (f0 : 0 ≤ f) (f1 : f < c r_x_filmCount 0 0 0) (hn : 0 < zcnt (dpF c f (c r_Film_land f 0 0)) (c r_Readings_readerCount 0 0 0).toNat 0) : zR (sF f (c r_Film_land f 0 0) c) (dsM f m) ∧ (sF f (c r_Film_land f 0 0) c) r_x_filmCount 0 0 0 = c r_x_filmCount 0 0 0 ∧ (sF f (c r_Film_land f 0 0) c) r_Film_land f 0 0 = c r_Film_land f 0 0 ∧ zcnt (dpF (sF f (c r_Film_land f 0 0) c) f (c r_Film_land f 0 0)) (c r_Readings_readerCount 0 0 0).toNat 0 + 1 = zcnt (dpF c f (c r_Film_land f 0 0)) (c r_Readings_readerCount 0 0 0).toNat 0 := by
  have hb := h.b f0 f1
  obtain ⟨⟨a1, a2, a3⟩, ⟨b1, b2, b3⟩, l, fl, ad, dm, mk, ts⟩ := h
  have nn : 0 ≤ bF c f (c r_Film_land f 0 0) := zbest_nn _ 0 (-1) (Int.le_refl _) (Or.inr (zcnt_pos _ 0 hn))
  have lt := zbest_lt (p := dpF c f (c r_Film_land f 0 0)) (w := fun k => c r_Readings_dealtFilms 0 0 k) (c r_Readings_readerCount 0 0 0).toNat 0 (-1) (Int.le_refl _) (by omega) (by omega)
  have pb : dpF c f (c r_Film_land f 0 0) (bF c f (c r_Film_land f 0 0)) = true := (zbest_p (p := dpF c f (c r_Film_land f 0 0)) (w := fun k => c r_Readings_dealtFilms 0 0 k) (c r_Readings_readerCount 0 0 0).toNat 0 (-1) (Or.inl (by omega))).resolve_left (fun q => absurd q (by have : 0 ≤ bF c f (c r_Film_land f 0 0) := nn; unfold bF at this; omega))
  have lt2 : bF c f (c r_Film_land f 0 0) < c r_Readings_readerCount 0 0 0 := by
    have : bF c f (c r_Film_land f 0 0) < 0 + ((c r_Readings_readerCount 0 0 0).toNat : Int) := lt.2
    omega
  have eF : sF f (c r_Film_land f 0 0) c = e_upd (e_upd c r_Readings_marks_r f 0 (bF c f (c r_Film_land f 0 0)) (-1)) r_Readings_dealtFilms 0 0 (bF c f (c r_Film_land f 0 0)) (e_wr (c r_Readings_dealtFilms 0 0 (bF c f (c r_Film_land f 0 0)) + 1)) := by
    unfold sF
    rw [if_neg (by omega)]
  have eM : dsM f m = e_upd (e_upd m r_m_areDealt_r f 0 (bF c f (c r_Film_land f 0 0)) 1) r_m_dealtMany 0 0 (bF c f (c r_Film_land f 0 0)) (e_wr (m r_m_dealtMany 0 0 (bF c f (c r_Film_land f 0 0)) + 1)) := by
    unfold dsM
    rw [hb]
  rw [eF, eM]
  generalize hbb : bF c f (c r_Film_land f 0 0) = b at nn lt2 pb
  generalize hl : c r_Film_land f 0 0 = lnd at pb hn ⊢
  have mkb : c r_Readings_marks_r f 0 b = -2 := by
    unfold dpF at pb
    simp only [Bool.and_eq_true, decide_eq_true_eq] at pb
    exact pb.2
  have rd : ∀ g k : Int, (e_upd (e_upd c r_Readings_marks_r f 0 b (-1)) r_Readings_dealtFilms 0 0 b (e_wr (c r_Readings_dealtFilms 0 0 b + 1))) r_Readings_marks_r g 0 k = if g = f ∧ k = b then -1 else c r_Readings_marks_r g 0 k := fun g k => by
    rw [e_un (by decide), e_ur]
    by_cases q : g = f ∧ k = b
    · rw [if_pos q, if_pos ⟨q.1, rfl, q.2⟩]
    · rw [if_neg q, if_neg (fun z => q ⟨z.1, z.2.2⟩)]
  refine ⟨⟨?_, ?_, ?_, ?_, ?_, ?_, ?_, ?_⟩, ?_, ?_, ?_⟩
  · rw [e_un (by decide), e_un (by decide), e_un (by decide), e_un (by decide)]
    exact ⟨a1, a2, a3⟩
  · rw [e_un (by decide), e_un (by decide), e_un (by decide), e_un (by decide)]
    exact ⟨b1, b2, b3⟩
  · intro k k0 k1
    rw [e_un (by decide), e_un (by decide), e_un (by decide), e_un (by decide)]
    exact l k k0 k1
  · intro g g0 g1
    rw [e_un (by decide), e_un (by decide)] at g1
    rw [e_un (by decide), e_un (by decide), e_un (by decide), e_un (by decide)]
    exact fl g g0 g1
  · intro g k g0 g1 k0 k1
    rw [rd, e_un (by decide), e_ur]
    by_cases q : g = f ∧ k = b
    · rw [if_pos ⟨q.1, rfl, q.2⟩, if_pos q, if_neg (by decide)]
    · rw [if_neg (fun z => q ⟨z.1, z.2.2⟩), if_neg q]
      exact ad g k g0 g1 k0 k1
  · intro k k0 k1
    rw [e_ur, e_ur, e_un (by decide), e_un (by decide), dm k k0 k1, dm b nn (by omega)]
  · intro g k g0 g1 k0 k1
    rw [rd, e_un (by decide), e_un (by decide), e_un (by decide), e_un (by decide)]
    obtain ⟨m1, m2, m3, m4⟩ := mk g k g0 g1 k0 k1
    by_cases q : g = f ∧ k = b
    · rw [if_pos q]
      refine ⟨by omega, fun z => by omega, fun z => by omega, fun _ z => m4 (by rw [q.1, q.2, mkb]; decide) z⟩
    · rw [if_neg q]
      exact ⟨m1, m2, m3, m4⟩
  · intro k k0 k1
    rw [e_un (by decide), e_un (by decide), e_un (by decide), e_un (by decide), (ts k k0 k1).1, (ts k k0 k1).2]
    refine ⟨zcnt_cg 20 0 (fun i i0 i1 => ?_), zsum_cg 20 0 (fun i i0 i1 => ?_)⟩
    · rw [rd]
      by_cases q : i = f ∧ k = b
      · rw [if_pos q, q.1, q.2, mkb]
        rfl
      · rw [if_neg q]
    · rw [rd]
      by_cases q : i = f ∧ k = b
      · rw [if_pos q, q.1, q.2, mkb]
        rfl
      · rw [if_neg q]
  · rw [e_un (by decide), e_un (by decide)]
  · rw [e_un (by decide), e_un (by decide), hl]
  · rw [zcnt_one pb _ 0 nn (by omega)]
    congr 1
    refine zcnt_cg _ 0 (fun i i0 i1 => ?_)
    unfold dpF
    rw [rd, e_un (by decide), e_un (by decide)]
    by_cases q : i = b
    · subst q
      simp
    · rw [if_neg (fun z => q z.2)]
      simp [q]
theorem zR.deals {f l : Int} : ∀ (t : Nat) {c m : ZS}, zR c m → 0 ≤ f → f < c r_x_filmCount 0 0 0 → c r_Film_land f 0 0 = l → (t : Int) ≤ zcnt (dpF c f l) (c r_Readings_readerCount 0 0 0).toNat 0 → zR (zit (sF f l) t c) (zit (dsM f) t m)
  | 0, c, m, h, _, _, _, _ => h
  | t + 1, c, m, h, f0, f1, hl, ht => by
    subst hl
    obtain ⟨h1, h2, h3, h4⟩ := h.dealOnce f0 f1 (by omega)
    rw [zit, zit]
    exact zR.deals t h1 f0 (by rw [h2]; exact f1) h3 (by rw [sF_n]; omega)
theorem zit_n {f l : Int} : ∀ (t : Nat) (S : ZS), (zit (sF f l) t S) r_Readings_readerCount 0 0 0 = S r_Readings_readerCount 0 0 0
  | 0, S => rfl
  | t + 1, S => by rw [zit, zit_n t, sF_n]
theorem zit_nM {f : Int} : ∀ (t : Nat) (S : ZS), (zit (dsM f) t S) r_m_readers 0 0 0 = S r_m_readers 0 0 0
  | 0, S => rfl
  | t + 1, S => by rw [zit, zit_nM t, sM_n]
theorem sM_t {f : Int} : ∀ (t : Nat) (S : ZS), (zit (dsM f) t S) r_m_thrown 0 0 0 = S r_m_thrown 0 0 0
  | 0, S => rfl
  | t + 1, S => by
    rw [zit, sM_t t]
    unfold dsM
    rw [e_un (by decide), e_un (by decide)]
/-- how an operation goes on both sides -/
def zBoth (A B : ZR) : Prop := ∃ (k v : Int) (c' m' : ZS), A = ((0, [k]), c') ∧ B = ((0, [v]), m') ∧ zR c' m' ∧ m' r_m_thrown 0 0 0 = k ∧ (k = 0 → c' r_out 0 0 0 = v)
theorem zR.thr {c m : ZS} (h : zR c m) {z : Int} : zR c (e_upd m r_m_thrown 0 0 0 z) := h.cg (fun _ _ => rfl) (fun r hr => by
  funext i j k
  exact e_un (by
    simp only [zRM, List.mem_cons, List.not_mem_nil, or_false] at hr
    rcases hr with rfl | rfl | rfl | rfl | rfl | rfl | rfl <;> decide))
theorem zR.out {c m : ZS} (h : zR c m) {z : Int} : zR (e_upd c r_out 0 0 0 z) m := h.cg (fun r hr => by
  funext i j k
  exact e_un (by
    simp only [zRC, List.mem_cons, List.not_mem_nil, or_false] at hr
    rcases hr with rfl | rfl | rfl | rfl | rfl | rfl | rfl | rfl <;> decide)) (fun _ _ => rfl)
theorem o_deal {f n : Int} {c m : ZS} (h : zR c m) : zBoth (f_w_deal [f, n] c) (f_m_deal [f, n] m) := by
  obtain ⟨⟨a1, a2, a3⟩, ⟨b1, b2, b3⟩, -⟩ := id h
  show zBoth (e_try (g_x_deal ((1000, [f, n]), c)) (fun v1 S1 => ((0, [0]), e_upd S1 r_out 0 0 0 v1)) [(0, 1), (1, 2), (3, 3)]) (g_m_deal ((1000, [f, n]), m))
  rw [g_x_deal_0, q_film a1 (by omega), g_m_deal_0, q_noFilm (by omega) (by omega), a3, zb_n, zb_n, zb_n, q_isIn]
  by_cases hf : 0 ≤ f ∧ f < c r_x_filmCount 0 0 0
  · rw [if_pos hf, if_pos hf, if_pos rfl, e_b_ok, zb_n, q_within]
    by_cases hn : 1 ≤ n ∧ n ≤ 8
    · rw [if_pos hn, if_pos rfl, if_neg (by decide), if_neg (by decide), q_countFree b1 b2, e_b_ok, zb_d]
      rw [q_mcan (by rw [e_un (by decide), e_un (by decide), b3]; exact b1) (by rw [e_un (by decide), e_un (by decide), b3]; exact b2)]
      have hc := (h.thr.thr : zR c (e_upd (e_upd m r_m_thrown 0 0 0 0) r_m_thrown 0 0 0 0)).cnt hf.1 hf.2
      rw [hc]
      show zBoth (e_try (if n ≤ zcnt _ _ _ then _ else _) _ _) (if n ≤ zcnt _ _ _ then _ else _)
      by_cases hk : n ≤ zcnt (dpF c f (c r_Film_land f 0 0)) (c r_Readings_readerCount 0 0 0).toNat 0
      · rw [if_pos hk, if_pos hk, q_dealLoop hn.2 n.toNat 0 c (Int.le_refl _) (by omega) b1 b2]
        rw [q_mdealLoop hn.2 n.toNat 0 _ (Int.le_refl _) (by omega) (by rw [e_un (by decide), e_un (by decide), e_un (by decide), b3]; exact b1) (by rw [e_un (by decide), e_un (by decide), e_un (by decide), b3]; exact b2)]
        have hd := zR.deals n.toNat (h.thr.thr.thr : zR c (e_upd (e_upd (e_upd m r_m_thrown 0 0 0 0) r_m_thrown 0 0 0 0) r_m_thrown 0 0 0 0)) hf.1 hf.2 rfl (by omega)
        refine ⟨0, _, _, _, rfl, rfl, hd.out, ?_, fun _ => ?_⟩
        · rw [sM_t, e_us]
        · rw [e_us, e_un (by decide), e_un (by decide), e_un (by decide), b3]
          obtain ⟨-, ⟨d1, d2, d3⟩, -, -, ad, -⟩ := hd
          refine zcnt_cg _ 0 (fun i i0 i1 => ?_)
          rw [ad f i hf.1 (by omega) i0 (by omega)]
          by_cases q : zit (sF f (c r_Film_land f 0 0)) n.toNat c r_Readings_marks_r f 0 i = -2 <;> simp [q]
      · rw [if_neg hk, if_neg hk]
        exact ⟨3, 0, _, _, rfl, rfl, h.thr.thr.thr, e_us, fun q => absurd q (by decide)⟩
    · simp only [if_neg hn, ↓reduceIte]
      exact ⟨2, 0, _, _, rfl, rfl, h.thr.thr, e_us, fun q => absurd q (by decide)⟩
  · rw [if_neg hf, if_neg hf, if_neg (by decide), e_b_x (by decide) (by decide)]
    exact ⟨1, 0, _, _, rfl, rfl, h.thr, e_us, fun q => absurd q (by decide)⟩
theorem o_isDealt {f k : Int} {c m : ZS} (h : zR c m) : zBoth (f_w_isDealt [f, k] c) (f_m_isDealt [f, k] m) := by
  obtain ⟨⟨a1, a2, a3⟩, ⟨b1, b2, b3⟩, -, -, ad, -⟩ := id h
  show zBoth (e_try (e_bind (f_x_checkFilm [f] c) (fun _ S1 => e_bind (f_x_checkReader [k] S1) (fun _ S2 => (bif decide (S2 r_Readings_marks_r f 0 k = -2) then ((0, [0]), S2) else ((0, [1]), S2))))) (fun v1 S1 => (bif decide (v1 = 0) then ((0, [0]), e_upd S1 r_out 0 0 0 0) else ((0, [0]), e_upd S1 r_out 0 0 0 1))) [(0, 1)]) (e_bind (f_m_isNoReader [f, k] m) (fun v1 S1 => (bif !decide (v1 = 0) then ((0, [0]), S1) else (bif decide (S1 r_m_areDealt_r f 0 k = 0) then ((0, [0]), S1) else ((0, [1]), S1)))))
  rw [q_film a1 (by omega), q_noReader (by omega) (by omega) (by omega) (by omega), a3, b3]
  by_cases hf : 0 ≤ f ∧ f < c r_x_filmCount 0 0 0
  · rw [if_pos hf, e_b_ok, q_reader b1 (by omega)]
    by_cases hk : 0 ≤ k ∧ k < c r_Readings_readerCount 0 0 0
    · rw [if_pos hk, if_pos ⟨hf, hk⟩, e_b_ok, e_b_ok, zb_d]
      show zBoth _ (bif !decide ((0 : Int) = 0) then _ else _)
      rw [zb_n, if_pos rfl, zb_d, e_un (by decide), ad f k hf.1 (by omega) hk.1 (by omega)]
      by_cases q : c r_Readings_marks_r f 0 k = -2
      · simp only [if_pos q, ↓reduceIte]
        exact ⟨0, 0, _, _, rfl, rfl, h.thr.out, e_us, fun _ => e_us⟩
      · rw [if_neg q, if_neg q, if_neg (by decide)]
        exact ⟨0, 1, _, _, rfl, rfl, h.thr.out, e_us, fun _ => e_us⟩
    · rw [if_neg hk, if_neg (fun q => hk q.2), e_b_x (by decide) (by decide), e_b_ok]
      exact ⟨1, 0, _, _, rfl, rfl, h.thr, e_us, fun q => absurd q (by decide)⟩
  · rw [if_neg hf, if_neg (fun q => hf q.1), e_b_x (by decide) (by decide), e_b_ok]
    exact ⟨1, 0, _, _, rfl, rfl, h.thr, e_us, fun q => absurd q (by decide)⟩
theorem q_addReader {l : Int} {c : ZS} (b1 : 0 ≤ c r_Readings_readerCount 0 0 0) (b2 : c r_Readings_readerCount 0 0 0 ≤ 8) : f_Readings_addReader [l] c = ((0, [c r_Readings_readerCount 0 0 0]), e_upd (e_upd c r_Readings_lands 0 0 (c r_Readings_readerCount 0 0 0) l) r_Readings_readerCount 0 0 0 (c r_Readings_readerCount 0 0 0 + 1)) := by
  unfold f_Readings_addReader
  dsimp only
  rw [e_us, e_wr_id (x := c r_Readings_readerCount 0 0 0 + 1) (by omega) (by omega), e_wr_id (by omega) (by omega), Int.add_sub_cancel]
theorem o_reader {l : Int} {c m : ZS} (h : zR c m) : zBoth (f_w_reader [l] c) (f_m_reader [l] m) := by
  obtain ⟨a, ⟨b1, b2, b3⟩, ll, fl, ad, dm, mk, ts⟩ := id h
  show zBoth (e_try (bif !decide (v_x_isWithin l 0 9 c = 0) then (bif decide (c r_Readings_readerCount 0 0 0 < 8) then (e_bind (f_Readings_addReader [l] c) (fun v1 S1 => ((0, [v1]), S1))) else ((3, []), c)) else ((2, []), c)) (fun v1 S1 => ((0, [0]), e_upd S1 r_out 0 0 0 v1)) [(1, 1), (2, 2)]) (bif !decide (v_m_isIn l 0 9 m = 0) then (bif !decide (m r_m_readers 0 0 0 = 8) then _ else _) else _)
  simp only [zb_n, zb_d, q_within, q_isIn, b3, q_addReader b1 b2, e_bnd]
  by_cases hl : 0 ≤ l ∧ l ≤ 9
  · by_cases hr : c r_Readings_readerCount 0 0 0 = 8
    · simp only [if_pos hl, if_pos hr, if_neg (show ¬ c r_Readings_readerCount 0 0 0 < 8 by omega), Int.reduceEq, ↓reduceIte]
      exact ⟨2, 0, _, _, rfl, rfl, h.thr.thr, e_us, fun q => absurd q (by decide)⟩
    · simp only [if_pos hl, if_neg hr, if_pos (show c r_Readings_readerCount 0 0 0 < 8 by omega), Int.reduceEq, ↓reduceIte]
      rw [e_us, e_wr_id (x := c r_Readings_readerCount 0 0 0 + 1) (by omega) (by omega), e_wr_id (by omega) (by omega)]
      refine ⟨0, c r_Readings_readerCount 0 0 0 + 1 - 1, _, _, rfl, rfl, zR.out ?_, by simp (decide := true) only [e_un, e_us], fun _ => ?_⟩
      · refine ⟨?_, ?_, ?_, ?_, ?_, ?_, ?_, ?_⟩
        · simpa (decide := true) only [e_un] using a
        · simp (decide := true) only [e_us]
          exact ⟨by omega, by omega, trivial⟩
        · intro k k0 k1
          simp (decide := true) only [e_un, e_ur]
          rw [ll k k0 k1]
        · simpa (decide := true) only [e_un] using fl
        · simpa (decide := true) only [e_un] using ad
        · simpa (decide := true) only [e_un] using dm
        · simpa (decide := true) only [e_un] using mk
        · simpa (decide := true) only [e_un] using ts
      · simp (decide := true) only [e_us, Int.add_sub_cancel]
        rfl
  · simp only [if_neg hl, ↓reduceIte]
    exact ⟨1, 0, _, _, rfl, rfl, h.thr, e_us, fun q => absurd q (by decide)⟩
end
/-! part 71ua04 -/
section
/-! Films, scores told -/
theorem q_isForm {x : Int} {S : ZS} : v_x_isForm x S = if x = 102 ∨ x = 115 ∨ x = 100 then 1 else 0 := by
  unfold v_x_isForm
  simp only [zb_d, zb_n]
  repeat' split
  all_goals first | rfl | omega
theorem q_misForm {x : Int} {S : ZS} : v_m_isForm x S = if x = 102 ∨ x = 115 ∨ x = 100 then 1 else 0 := by
  unfold v_m_isForm
  simp only [zb_d, zb_n]
  repeat' split
  all_goals first | rfl | omega
/-- a row is filled from k on -/
def zfl (f : Int) : Nat → Int → ZS → ZS
  | 0, _, S => S
  | j + 1, k, S => zfl f j (k + 1) (e_upd S r_m_scores_r f 0 k (-1))
theorem zfl_o {f : Int} {r : Nat} (h : (r == r_m_scores_r) = false) : ∀ (j : Nat) (k : Int) (S : ZS), (zfl f j k S) r = S r
  | 0, _, _ => rfl
  | j + 1, k, S => by
    rw [zfl, zfl_o h j]
    funext x y z
    exact e_un h
theorem zfl_s {f g k' : Int} : ∀ (j : Nat) (k : Int) (S : ZS), (zfl f j k S) r_m_scores_r g 0 k' = if g = f ∧ k ≤ k' ∧ k' < k + j then -1 else S r_m_scores_r g 0 k'
  | 0, k, S => by
    rw [if_neg (by omega)]
    rfl
  | j + 1, k, S => by
    rw [zfl, zfl_s j, e_ur]
    by_cases c : g = f ∧ k + 1 ≤ k' ∧ k' < k + 1 + j
    · rw [if_pos c, if_pos (by omega)]
    · rw [if_neg c]
      by_cases d : g = f ∧ k' = k
      · rw [if_pos ⟨d.1, rfl, d.2⟩, if_pos (by omega)]
      · rw [if_neg (fun q => d ⟨q.1, q.2.2⟩), if_neg (by omega)]
theorem q_mfilmLoop : ∀ (j : Nat) (k : Int) (S : ZS), 0 ≤ k → k + j = 8 → 0 ≤ S r_m_films 0 0 0 → S r_m_films 0 0 0 < 20 → g_m_film ((1118, [k]), S) = ((0, [S r_m_films 0 0 0]), e_upd (zfl (S r_m_films 0 0 0) j k S) r_m_films 0 0 0 (S r_m_films 0 0 0 + 1))
  | 0, k, S, h1, h2, h3, h4 => by
    rw [g_m_film_118, zb_d, if_pos (by omega), e_us, e_wr_id (x := S r_m_films 0 0 0 + 1) (by omega) (by omega), e_wr_id (by omega) (by omega), Int.add_sub_cancel]
    rfl
  | j + 1, k, S, h1, h2, h3, h4 => by
    have e : (e_upd S r_m_scores_r (S r_m_films 0 0 0) 0 k (-1)) r_m_films 0 0 0 = S r_m_films 0 0 0 := e_un (by decide)
    rw [g_m_film_118, zb_d, if_neg (by omega), e_wr_id (by omega) (by omega), q_mfilmLoop j (k + 1) _ (by omega) (by omega) (by rw [e]; exact h3) (by rw [e]; exact h4), e]
    rfl
theorem o_film {x y z : Int} {c m : ZS} (h : zR c m) : zBoth (f_w_film [x, y, z] c) (f_m_film [x, y, z] m) := by
  obtain ⟨⟨a1, a2, a3⟩, b, ll, fl, ad, dm, mk, ts⟩ := id h
  show zBoth (e_try (f_x_film [x, y, z] c) (fun v1 S1 => ((0, [0]), e_upd S1 r_out 0 0 0 v1)) [(1, 1), (2, 2)]) (g_m_film ((1000, [x, y, z]), m))
  rw [g_m_film_0]
  unfold f_x_film f_Film_begin
  simp only [zb_n, zb_d, q_within, q_isIn, q_isForm, q_misForm, a3, e_bnd0]
  by_cases hx : x = 102 ∨ x = 115 ∨ x = 100
  · by_cases hy : 1 ≤ y ∧ y ≤ 300
    · by_cases hz : 0 ≤ z ∧ z ≤ 9
      · by_cases hn : c r_x_filmCount 0 0 0 = 20
        · simp only [if_pos hx, if_pos hy, if_pos hz, if_pos hn, if_neg (show ¬ c r_x_filmCount 0 0 0 < 20 by omega), Int.reduceEq, ↓reduceIte]
          exact ⟨2, 0, _, _, rfl, rfl, h.thr.thr, e_us, fun q => absurd q (by decide)⟩
        · simp only [if_pos hx, if_pos hy, if_pos hz, if_neg hn, if_pos (show c r_x_filmCount 0 0 0 < 20 by omega), Int.reduceEq, ↓reduceIte]
          rw [q_mfilmLoop 8 0 _ (by omega) (by omega) (by simp (decide := true) only [e_un]; omega) (by simp (decide := true) only [e_un]; omega)]
          have hw : e_wr (c r_x_filmCount 0 0 0 + 1) = c r_x_filmCount 0 0 0 + 1 := e_wr_id (by omega) (by omega)
          have hw2 : e_wr (c r_x_filmCount 0 0 0 + 1 - 1) = c r_x_filmCount 0 0 0 := by rw [e_wr_id (by omega) (by omega), Int.add_sub_cancel]
          simp (decide := true) only [e_un, e_us, hw, hw2, a3]
          refine ⟨0, c r_x_filmCount 0 0 0, _, _, rfl, rfl, zR.out ?_, ?_, fun _ => ?_⟩
          · refine ⟨?_, ?_, ?_, ?_, ?_, ?_, ?_, ?_⟩
            · simp (decide := true) only [e_us]
              exact ⟨by omega, by omega, trivial⟩
            · simpa (decide := true) only [e_un, zfl_o] using b
            · simpa (decide := true) only [e_un, zfl_o] using ll
            · intro g g0 g1
              simp (decide := true) only [e_un, e_us, e_ur, zfl_o] at g1 ⊢
              by_cases q : g = c r_x_filmCount 0 0 0
              · simp [q]
              · simp only [q, false_and, and_false, ↓reduceIte]
                exact fl g g0 (by omega)
            · simpa (decide := true) only [e_un, zfl_o] using ad
            · simpa (decide := true) only [e_un, zfl_o] using dm
            · intro g k g0 g1 k0 k1
              obtain ⟨m1, m2, m3, m4⟩ := mk g k g0 g1 k0 k1
              simp (decide := true) only [e_un, e_us, zfl_s]
              refine ⟨m1, fun q => m2 (by omega), fun q => ?_, fun q w => ?_⟩
              · rw [if_neg (fun z => by have := m2 (by omega); omega)]
                exact m3 q
              · by_cases e : g = c r_x_filmCount 0 0 0
                · rw [if_pos ⟨e, by omega, by omega⟩]
                · rw [if_neg (fun z => e z.1)]
                  exact m4 q (by omega)
            · simpa (decide := true) only [e_un, zfl_o] using ts
          · simp (decide := true) only [e_un, e_us, zfl_o]
          · simp (decide := true) only [e_us]
            rfl
      · simp only [if_pos hx, if_pos hy, if_neg hz, Int.reduceEq, ↓reduceIte]
        exact ⟨1, 0, _, _, rfl, rfl, h.thr, e_us, fun q => absurd q (by decide)⟩
    · simp only [if_pos hx, if_neg hy, Int.reduceEq, ↓reduceIte]
      exact ⟨1, 0, _, _, rfl, rfl, h.thr, e_us, fun q => absurd q (by decide)⟩
  · simp only [if_neg hx, Int.reduceEq, ↓reduceIte]
    exact ⟨1, 0, _, _, rfl, rfl, h.thr, e_us, fun q => absurd q (by decide)⟩
theorem zcnt_sum {p : Int → Bool} : ∀ (j : Nat) (k : Int), zcnt p j k = zsum (fun i => if p i = true then 1 else 0) j k
  | 0, _ => rfl
  | j + 1, k => by rw [zcnt, zsum, zcnt_sum j]
theorem zR.told {c m : ZS} (h : zR c m) {f : Int} (f0 : 0 ≤ f) (f1 : f < c r_x_filmCount 0 0 0) : zcnt (fun k => decide (0 ≤ m r_m_scores_r f 0 k)) (m r_m_readers 0 0 0).toNat 0 = zcnt (fun k => decide (0 ≤ c r_Readings_marks_r f 0 k)) (c r_Readings_readerCount 0 0 0).toNat 0 := by
  obtain ⟨⟨a1, a2, a3⟩, ⟨b1, b2, b3⟩, ll, fl, ad, dm, mk, ts⟩ := h
  rw [b3]
  refine zcnt_cg _ 0 (fun k k0 k1 => ?_)
  obtain ⟨m1, m2, m3, m4⟩ := mk f k f0 (by omega) k0 (by omega)
  by_cases q : 0 ≤ c r_Readings_marks_r f 0 k
  · rw [m3 q]
  · rw [m4 (by omega) f1]
    simp [q]
theorem o_read {f k s : Int} {c m : ZS} (h : zR c m) : zBoth (f_w_read [f, k, s] c) (f_m_read [f, k, s] m) := by
  obtain ⟨⟨a1, a2, a3⟩, ⟨b1, b2, b3⟩, ll, fl, ad, dm, mk, ts⟩ := id h
  show zBoth (e_try (f_x_read [f, k, s] c) (fun v1 S1 => ((0, [0]), e_upd S1 r_out 0 0 0 v1)) [(0, 1), (1, 2), (3, 3)]) (f_m_read [f, k, s] m)
  unfold f_x_read f_m_read
  dsimp only
  rw [q_film a1 (by omega), q_noReader (by omega) (by omega) (by omega) (by omega), a3, b3]
  by_cases hf : 0 ≤ f ∧ f < c r_x_filmCount 0 0 0
  · rw [if_pos hf, e_b_ok, q_reader b1 (by omega)]
    by_cases hk : 0 ≤ k ∧ k < c r_Readings_readerCount 0 0 0
    · rw [if_pos hk, if_pos ⟨hf, hk⟩, e_b_ok, e_bnd]
      simp only [zb_n, zb_d, q_within, q_isIn]
      obtain ⟨m1, m2, m3, m4⟩ := mk f k hf.1 (by omega) hk.1 (by omega)
      have had := ad f k hf.1 (by omega) hk.1 (by omega)
      by_cases hs : 0 ≤ s ∧ s ≤ 100
      · by_cases h1 : c r_Readings_marks_r f 0 k = -1
        · have h2 : m r_m_areDealt_r f 0 k = 1 := by rw [had, if_neg (by omega)]
          have h3 : m r_m_scores_r f 0 k = -1 := m4 (by omega) hf.2
          simp (decide := true) only [if_pos hs, if_pos h1, Int.reduceEq, ↓reduceIte, e_un, h2, h3]
          unfold f_Readings_tell
          dsimp only
          rw [e_bnd0]
          obtain ⟨t1, t2⟩ := ts k hk.1 (by omega)
          have u1 := zcnt_le (fun f => decide (0 ≤ c r_Readings_marks_r f 0 k)) 20 0
          have u2 := zsum_le (w := fun f => if 0 ≤ c r_Readings_marks_r f 0 k then c r_Readings_marks_r f 0 k else 0) (lo := 0) (hi := 100) 20 0 (fun i i0 i1 => by
            have := (mk i k i0 (by omega) hk.1 (by omega)).1
            (try dsimp only)
            split <;> omega)
          have w1 : e_wr (c r_Readings_toldScores 0 0 k + 1) = c r_Readings_toldScores 0 0 k + 1 := e_wr_id (by omega) (by omega)
          have w2 : e_wr (c r_Readings_sums 0 0 k + s) = c r_Readings_sums 0 0 k + s := e_wr_id (by omega) (by omega)
          simp (decide := true) only [e_un, w1, w2]
          have hR : zR (e_upd (e_upd (e_upd c r_Readings_marks_r f 0 k s) r_Readings_toldScores 0 0 k (c r_Readings_toldScores 0 0 k + 1)) r_Readings_sums 0 0 k (c r_Readings_sums 0 0 k + s)) (e_upd (e_upd (e_upd (e_upd m r_m_thrown 0 0 0 0) r_m_thrown 0 0 0 0) r_m_thrown 0 0 0 0) r_m_scores_r f 0 k s) := by
            refine ⟨?_, ?_, ?_, ?_, ?_, ?_, ?_, ?_⟩
            · simpa (decide := true) only [e_un] using ⟨a1, a2, a3⟩
            · simpa (decide := true) only [e_un] using ⟨b1, b2, b3⟩
            · simpa (decide := true) only [e_un] using ll
            · simpa (decide := true) only [e_un] using fl
            · intro g i g0 g1 i0 i1
              simp (decide := true) only [e_un, e_ur]
              by_cases q : g = f ∧ True ∧ i = k
              · rw [if_pos q, q.1, q.2.2, h2, if_neg (by omega)]
              · rw [if_neg q]
                exact ad g i g0 g1 i0 i1
            · simpa (decide := true) only [e_un] using dm
            · intro g i g0 g1 i0 i1
              simp (decide := true) only [e_un, e_ur]
              by_cases q : g = f ∧ True ∧ i = k
              · rw [if_pos q, if_pos q]
                exact ⟨by omega, fun z => by omega, fun _ => rfl, fun z => by omega⟩
              · rw [if_neg q, if_neg q]
                exact mk g i g0 g1 i0 i1
            · intro i i0 i1
              simp (decide := true) only [e_un, e_ur]
              obtain ⟨v1, v2⟩ := ts i i0 i1
              by_cases q : i = k
              · subst q
                simp only [true_and, and_true, ↓reduceIte]
                have x1 := zsum_upd (w := fun g => if decide (0 ≤ c r_Readings_marks_r g 0 i) = true then 1 else 0) (b := f) (z := 1) 20 0 hf.1 (by omega)
                have x2 := zsum_upd (w := fun g => if 0 ≤ c r_Readings_marks_r g 0 i then c r_Readings_marks_r g 0 i else 0) (b := f) (z := s) 20 0 hf.1 (by omega)
                rw [zcnt_sum] at v1
                rw [zcnt_sum]
                constructor
                · rw [v1]
                  rw [zsum_cg (v := fun g => if decide (0 ≤ if g = f then s else c r_Readings_marks_r g 0 i) = true then 1 else 0) (w := fun g => if g = f then 1 else if decide (0 ≤ c r_Readings_marks_r g 0 i) = true then 1 else 0) 20 0 (fun g _ _ => by
                    (try dsimp only)
                    by_cases e : g = f
                    · simp [e, hs.1]
                    · simp [e]), x1]
                  simp [h1]
                · rw [v2]
                  rw [zsum_cg (v := fun g => if 0 ≤ (if g = f then s else c r_Readings_marks_r g 0 i) then (if g = f then s else c r_Readings_marks_r g 0 i) else 0) (w := fun g => if g = f then s else if 0 ≤ c r_Readings_marks_r g 0 i then c r_Readings_marks_r g 0 i else 0) 20 0 (fun g _ _ => by
                    (try dsimp only)
                    by_cases e : g = f
                    · simp [e, hs.1]
                    · simp [e]), x2]
                  simp [h1]
              · simp only [q, and_false, ↓reduceIte]
                exact ⟨v1, v2⟩
          have e1 : (e_upd (e_upd (e_upd c r_Readings_marks_r f 0 k s) r_Readings_toldScores 0 0 k (c r_Readings_toldScores 0 0 k + 1)) r_Readings_sums 0 0 k (c r_Readings_sums 0 0 k + s)) r_Readings_readerCount 0 0 0 = c r_Readings_readerCount 0 0 0 := by simp (decide := true) only [e_un]
          have e2 : (e_upd (e_upd (e_upd (e_upd m r_m_thrown 0 0 0 0) r_m_thrown 0 0 0 0) r_m_thrown 0 0 0 0) r_m_scores_r f 0 k s) r_m_readers 0 0 0 = c r_Readings_readerCount 0 0 0 := by simp (decide := true) only [e_un, b3]
          rw [q_countTold (by rw [e1]; exact b1) (by rw [e1]; exact b2), q_scoreMany (by rw [e2]; exact b1) (by rw [e2]; exact b2), e_bnd, e_bnd, hR.told hf.1 (by simp (decide := true) only [e_un]; exact hf.2)]
          exact ⟨0, _, _, _, rfl, rfl, hR.out, by simp (decide := true) only [e_un, e_us], fun _ => e_us⟩
        · by_cases h5 : c r_Readings_marks_r f 0 k = -2
          · have h2 : m r_m_areDealt_r f 0 k = 0 := by rw [had, if_pos h5]
            simp (decide := true) only [if_pos hs, if_neg h1, Int.reduceEq, ↓reduceIte, e_un, h2]
            exact ⟨3, 0, _, _, rfl, rfl, h.thr.thr.thr, e_us, fun q => absurd q (by decide)⟩
          · have h2 : m r_m_areDealt_r f 0 k = 1 := by rw [had, if_neg h5]
            have h3 : ¬ m r_m_scores_r f 0 k < 0 := by rw [m3 (by omega)]; omega
            simp (decide := true) only [if_pos hs, if_neg h1, Int.reduceEq, ↓reduceIte, e_un, h2, if_neg h3]
            exact ⟨3, 0, _, _, rfl, rfl, h.thr.thr.thr, e_us, fun q => absurd q (by decide)⟩
      · simp (decide := true) only [if_neg hs, Int.reduceEq, ↓reduceIte]
        exact ⟨2, 0, _, _, rfl, rfl, h.thr.thr, e_us, fun q => absurd q (by decide)⟩
    · rw [if_neg hk, if_neg (fun q => hk q.2), e_b_x (by decide) (by decide), e_bnd]
      exact ⟨1, 0, _, _, rfl, rfl, h.thr, e_us, fun q => absurd q (by decide)⟩
  · rw [if_neg hf, if_neg (fun q => hf q.1), e_b_x (by decide) (by decide), e_bnd]
    exact ⟨1, 0, _, _, rfl, rfl, h.thr, e_us, fun q => absurd q (by decide)⟩
end
/-! part 71ua05 -/
section
/-! The law, turn by turn: tools -/
theorem z_post_b {Q : AH → Prop} {C : ZC} {mi f : Nat} {X : ZX} {R : ZR} {k : Int → ZS → ZR} (h : z_post Q C mi f X (e_bind R k)) (hX : ∃ y, X.1.1 = (0, [y])) : R.1.1 = 0 ∧ z_post Q C mi f X (k (R.1.2.getD 0 0) R.2) := by
  unfold e_bind at h
  cases hb : (R.1.1 == 0) with
  | true =>
    rw [hb] at h
    exact ⟨by simpa using hb, h⟩
  | false =>
    rw [hb] at h
    exfalso
    obtain ⟨y, hy⟩ := hX
    have := (h.1 (Nat.mod_lt _ (by decide))).1
    rw [this] at hy
    have hy : ((R.1.1 % 1000, []) : Nat × List Int) = (0, [y]) := hy
    rw [Prod.mk.injEq] at hy
    cases hy.2
theorem z_post_g {Q : AH → Prop} {C : ZC} {mi f pc : Nat} {X : ZX} {L : List Int} {S : ZS} (h : z_post Q C mi f X ((1000 + pc, L), S)) : ∃ f', f' < f ∧ z_goes Q C mi f' pc L S X := by
  obtain ⟨f', h1, h2⟩ := h.2 (Nat.le_add_right _ _)
  refine ⟨f', h1, ?_⟩
  have h2 : z_goes Q C mi f' (1000 + pc - 1000) L S X := h2
  rw [Nat.add_sub_cancel_left] at h2
  exact h2
theorem z_post_r {Q : AH → Prop} {C : ZC} {mi f c : Nat} {X : ZX} {l : List Int} {S : ZS} (hc : c < 1000) (h : z_post Q C mi f X ((c, l), S)) : X.1 = ((c, l), S) := (h.1 hc).1
/-- regions that a method doesn't write -/
def z_dis (W K : List Nat) : Bool := K.all fun r => !(W.contains r)
theorem z_kp.r {nv : Nat} {W : List Nat} {φ : ZFn} (h : z_kp nv W φ) {L : List Int} (hL : L.length = nv) {S : ZS} (h0 : (φ L S).1.1 = 0) {r : Nat} (hr : W.contains r = false) : (φ L S).2 r = S r := by
  funext i j k
  exact h L S hL (by rw [h0]; decide) r i j k hr
theorem z_dis_ok {W K : List Nat} (h : z_dis W K = true) {r : Nat} (hr : r ∈ K) : W.contains r = false := by
  have := List.all_eq_true.mp h r hr
  simpa using this
/-- an operation that leaves the regions of the relation as they are -/
theorem zR.keep {nv : Nat} {W : List Nat} {φ : ZFn} (h : z_kp nv W φ) {L : List Int} (hL : L.length = nv) {S : ZS} (h0 : (φ L S).1.1 = 0) (hd : z_dis W (zRC ++ zRM) = true) (hR : zR S S) : zR (φ L S).2 (φ L S).2 := hR.cg (fun r hr => h.r hL h0 (z_dis_ok hd (List.mem_append_left _ hr))) (fun r hr => h.r hL h0 (z_dis_ok hd (List.mem_append_right _ hr)))
theorem zBoth.two {nv nv' : Nat} {W W' : List Nat} {φ φ' : ZFn} (h : z_kp nv W φ) (h' : z_kp nv' W' φ') {L : List Int} (hL : L.length = nv) (hL' : L.length = nv') {S : ZS} (hR : zR S S) (hd : z_dis W zRM = true) (hd' : z_dis W' (r_out :: zRC) = true) (hB : ∀ c m, zR c m → zBoth (φ L c) (φ' L m)) : ∃ (k v : Int) (S1 S2 : ZS), φ L S = ((0, [k]), S1) ∧ φ' L S1 = ((0, [v]), S2) ∧ zR S2 S2 ∧ S2 r_m_thrown 0 0 0 = k ∧ (k = 0 → S2 r_out 0 0 0 = v) := by
  obtain ⟨k0, v0, c0, m0, e0, -⟩ := hB S S hR
  have hS1 : zR S c0 := hR.cg (fun _ _ => rfl) (fun r hr => by
    have := h.r hL (S := S) (by rw [e0]) (z_dis_ok hd hr)
    rw [e0] at this
    exact this)
  obtain ⟨k, v, c', m', e1, e2, h3, h4, h5⟩ := hB S c0 hS1
  rw [e0] at e1
  have e3 : c0 = c' := congrArg Prod.snd e1
  have e4 : k0 = k := by
    have := congrArg Prod.fst e1
    simp only [Prod.mk.injEq, List.cons.injEq, and_true, true_and] at this
    exact this
  subst e3
  subst e4
  have kr : ∀ r, r ∈ r_out :: zRC → m' r = c0 r := fun r hr => by
    have := h'.r hL' (S := c0) (by rw [e2]) (z_dis_ok hd' hr)
    rw [e2] at this
    exact this
  exact ⟨k0, v, c0, m', e0, e2, h3.cg (fun r hr => kr r (List.mem_cons_of_mem _ hr)) (fun _ _ => rfl), h4, fun q => by rw [kr r_out List.mem_cons_self]; exact h5 q⟩
theorem e_sw_in {x lo : Int} {ts : List ZN} {d : Nat} : e_sw x lo ts d = d ∨ ∃ t ∈ ts, e_sw x lo ts d = t.1 := by
  unfold e_sw
  split
  · exact Or.inl rfl
  · rw [List.getD_eq_getElem?_getD]
    cases h : ts[(x - lo).toNat]? with
    | none => exact Or.inl rfl
    | some t => exact Or.inr ⟨t, List.mem_of_getElem? h, rfl⟩
/-- a bound answer: the value is the one behind -/
theorem e_bind_ok {R : ZR} {k : Int → ZS → ZR} {v : Int} {S2 : ZS} (h : e_bind R k = ((0, [v]), S2)) : R.1.1 = 0 ∧ k (R.1.2.getD 0 0) R.2 = ((0, [v]), S2) := by
  unfold e_bind at h
  cases hb : (R.1.1 == 0) with
  | true =>
    rw [hb] at h
    exact ⟨by simpa using hb, h⟩
  | false =>
    rw [hb] at h
    have h : (((R.1.1 % 1000, []) : Nat × List Int), R.2) = ((0, [v]), S2) := h
    exact absurd (congrArg (fun q => q.1.2) h) (by intro q; cases q)
/-- a boolean's values -/
theorem e_bool {b : Bool} {R R' : ZR} {v : Int} {S2 : ZS} (h : (bif b then R else R') = ((0, [v]), S2)) (h1 : R = ((0, [v]), S2) → v = 0 ∨ v = 1) (h2 : R' = ((0, [v]), S2) → v = 0 ∨ v = 1) : v = 0 ∨ v = 1 := by
  cases b
  · exact h2 h
  · exact h1 h
theorem e_bool0 {S S2 : ZS} {v : Int} (h : (((0, [0]) : Nat × List Int), S) = ((0, [v]), S2)) : v = 0 ∨ v = 1 := by
  cases h
  exact Or.inl rfl
theorem e_bool1 {S S2 : ZS} {v : Int} (h : (((0, [1]) : Nat × List Int), S) = ((0, [v]), S2)) : v = 0 ∨ v = 1 := by
  cases h
  exact Or.inr rfl
theorem b_isDealt {a b v : Int} {S S2 : ZS} (h : f_m_isDealt [a, b] S = ((0, [v]), S2)) : v = 0 ∨ v = 1 := by
  unfold f_m_isDealt at h
  dsimp only at h
  exact e_bool (e_bind_ok h).2 e_bool0 (fun h => e_bool h e_bool0 e_bool1)
end
/-! part 71ua05b -/
section
/-! Relations put together: a relation and the regions that it reads, answers of both sides -/
def zRel (R : ZS → ZS → Prop) (KC KM : List Nat) : Prop := ∀ {c m c' m' : ZS}, R c m → (∀ r ∈ KC, c' r = c r) → (∀ r ∈ KM, m' r = m r) → R c' m'
theorem zR_rel : zRel zR zRC zRM := fun h hc hm => h.cg hc hm
def zAnd (R R' : ZS → ZS → Prop) : ZS → ZS → Prop := fun c m => R c m ∧ R' c m
theorem zRel.and {R R' : ZS → ZS → Prop} {KC KM KC' KM' : List Nat} (h : zRel R KC KM) (h' : zRel R' KC' KM') : zRel (zAnd R R') (KC ++ KC') (KM ++ KM') := fun q hc hm => ⟨h q.1 (fun r hr => hc r (List.mem_append_left _ hr)) (fun r hr => hm r (List.mem_append_left _ hr)), h' q.2 (fun r hr => hc r (List.mem_append_right _ hr)) (fun r hr => hm r (List.mem_append_right _ hr))⟩
/-- both sides end, with one exception or none, one answer, and the relation behind -/
def zBo (R : ZS → ZS → Prop) (A B : ZR) : Prop := ∃ (k v : Int) (c' m' : ZS), A = ((0, [k]), c') ∧ B = ((0, [v]), m') ∧ R c' m' ∧ m' r_m_thrown 0 0 0 = k ∧ (k = 0 → c' r_out 0 0 0 = v)
theorem zBoth.bo {A B : ZR} (h : zBoth A B) : zBo zR A B := h
theorem zBo.and {R R' : ZS → ZS → Prop} {A B : ZR} (h : zBo R A B) (h' : R' A.2 B.2) : zBo (zAnd R R') A B := by
  obtain ⟨k, v, c', m', e1, e2, h1, h2, h3⟩ := h
  refine ⟨k, v, c', m', e1, e2, ⟨h1, ?_⟩, h2, h3⟩
  rw [e1, e2] at h'
  exact h'
/-- a second relation that the two calls leave alone -/
theorem zBo.keep {R R' : ZS → ZS → Prop} {KC KM : List Nat} (hr : zRel R' KC KM) {nv nv' : Nat} {W W' : List Nat} {φ φ' : ZFn} (h : z_kp nv W φ) (h' : z_kp nv' W' φ') {L : List Int} (hL : L.length = nv) (hL' : L.length = nv') (hd : z_dis W KC = true) (hd' : z_dis W' KM = true) {c m : ZS} (hR : R' c m) (hB : zBo R (φ L c) (φ' L m)) : zBo (zAnd R R') (φ L c) (φ' L m) := by
  obtain ⟨k, v, c', m', e1, e2, -⟩ := id hB
  exact hB.and (hr hR (fun r hq => h.r hL (by rw [e1]) (z_dis_ok hd hq)) (fun r hq => h'.r hL' (by rw [e2]) (z_dis_ok hd' hq)))
/-- one call that leaves the relation's regions alone -/
theorem zRel.keep {R : ZS → ZS → Prop} {KC KM : List Nat} (hr : zRel R KC KM) {nv : Nat} {W : List Nat} {φ : ZFn} (h : z_kp nv W φ) {L : List Int} (hL : L.length = nv) {S : ZS} (h0 : (φ L S).1.1 = 0) (hd : z_dis W (KC ++ KM) = true) (hR : R S S) : R (φ L S).2 (φ L S).2 := hr hR (fun r hq => h.r hL h0 (z_dis_ok hd (List.mem_append_left _ hq))) (fun r hq => h.r hL h0 (z_dis_ok hd (List.mem_append_right _ hq)))
/-- the class's call, then the model's, on one state -/
theorem zRel.two {R : ZS → ZS → Prop} {KC KM : List Nat} (hr : zRel R KC KM) {nv nv' : Nat} {W W' : List Nat} {φ φ' : ZFn} (h : z_kp nv W φ) (h' : z_kp nv' W' φ') {L : List Int} (hL : L.length = nv) (hL' : L.length = nv') {S : ZS} (hR : R S S) (hd : z_dis W KM = true) (hd' : z_dis W' (r_out :: KC) = true) (hB : ∀ c m, R c m → zBo R (φ L c) (φ' L m)) : ∃ (k v : Int) (S1 S2 : ZS), φ L S = ((0, [k]), S1) ∧ φ' L S1 = ((0, [v]), S2) ∧ R S2 S2 ∧ S2 r_m_thrown 0 0 0 = k ∧ (k = 0 → S2 r_out 0 0 0 = v) := by
  obtain ⟨k0, v0, c0, m0, e0, -⟩ := hB S S hR
  have hS1 : R S c0 := hr hR (fun _ _ => rfl) (fun r hq => by
    have := h.r hL (S := S) (by rw [e0]) (z_dis_ok hd hq)
    rw [e0] at this
    exact this)
  obtain ⟨k, v, c', m', e1, e2, h3, h4, h5⟩ := hB S c0 hS1
  rw [e0] at e1
  have e3 : c0 = c' := congrArg Prod.snd e1
  have e4 : k0 = k := by
    have := congrArg Prod.fst e1
    simp only [Prod.mk.injEq, List.cons.injEq, and_true, true_and] at this
    exact this
  subst e3
  subst e4
  have kr : ∀ r, r ∈ r_out :: KC → m' r = c0 r := fun r hq => by
    have := h'.r hL' (S := c0) (by rw [e2]) (z_dis_ok hd' hq)
    rw [e2] at this
    exact this
  exact ⟨k0, v, c0, m', e0, e2, hr h3 (fun r hq => kr r (List.mem_cons_of_mem _ hq)) (fun _ _ => rfl), h4, fun q => by rw [kr r_out List.mem_cons_self]; exact h5 q⟩
end
/-! part 71ua10 -/
section
/-! Even scores, scores of films, quarrels: what both sides work out -/
theorem z_sync {α β : Type} {n : Int} {A : α → Int → ZR} {B : β → Int → ZR} {R : Int → α → β → Prop} {Goal : ZR → ZR → Prop} (he : ∀ a b, R n a b → Goal (A a n) (B b n)) (hs : ∀ k a b, 0 ≤ k → k < n → R k a b → ∃ a' b', A a k = A a' (k + 1) ∧ B b k = B b' (k + 1) ∧ R (k + 1) a' b') : ∀ (j : Nat) (k : Int) (a : α) (b : β), 0 ≤ k → k + j = n → R k a b → Goal (A a k) (B b k)
  | 0, k, a, b, h0, h1, h => by
    have e : k = n := by omega
    subst e
    exact he a b h
  | j + 1, k, a, b, h0, h1, h => by
    obtain ⟨a', b', e1, e2, h'⟩ := hs k a b h0 (by omega) h
    rw [e1, e2]
    exact z_sync he hs j (k + 1) a' b' (by omega) (by omega) h'
theorem e_wr_wr {x : Int} : e_wr (e_wr x) = e_wr x := Int.bmod_bmod
theorem zsum_cut {w : Int → Int} : ∀ (a b : Nat) (k : Int), zsum w (a + b) k = zsum w a k + zsum w b (k + a)
  | 0, b, k => by simp [zsum]
  | a + 1, b, k => by
    rw [Nat.add_right_comm, zsum, zsum, zsum_cut a b (k + 1)]
    have e : k + 1 + (a : Int) = k + ((a + 1 : Nat) : Int) := by omega
    rw [e]
    omega
theorem zsum_z {w : Int → Int} : ∀ (j : Nat) (k : Int), (∀ i, k ≤ i → i < k + j → w i = 0) → zsum w j k = 0
  | 0, _, _ => rfl
  | j + 1, k, h => by rw [zsum, h k (Int.le_refl _) (by omega), zsum_z j (k + 1) (fun i a b => h i (by omega) (by omega))]; rfl
def zw (c : ZS) (r g : Int) : Int := if 0 ≤ c r_Readings_marks_r g 0 r then c r_Readings_marks_r g 0 r else 0
def zp (c : ZS) (r g : Int) : Bool := decide (0 ≤ c r_Readings_marks_r g 0 r)
theorem q_evenOf {c m : ZS} (h : zR c m) {f r : Int} (f0 : 0 ≤ f) (f1 : f < c r_x_filmCount 0 0 0) (r0 : 0 ≤ r) (r1 : r < 8) (hs : 0 ≤ c r_Readings_marks_r f 0 r) : f_m_evenOf [f, r] m = ((0, [v_Readings_evenScore f r c]), m) ∧ -3000 ≤ v_Readings_evenScore f r c ∧ v_Readings_evenScore f r c ≤ 3000 := by
  obtain ⟨⟨a1, a2, a3⟩, b, ll, fl, ad, dm, mk, ts⟩ := id h
  have t1 : c r_Readings_toldScores 0 0 r = zcnt (zp c r) 20 0 := (ts r r0 r1).1
  have t2 : c r_Readings_sums 0 0 r = zsum (zw c r) 20 0 := (ts r r0 r1).2
  have hN : (c r_x_filmCount 0 0 0).toNat + (20 - (c r_x_filmCount 0 0 0).toNat) = 20 := by omega
  have hz : ∀ i, c r_x_filmCount 0 0 0 ≤ i → i < 20 → c r_Readings_marks_r i 0 r = -2 := fun i i0 i1 => (mk i r (by omega) i1 r0 r1).2.1 i0
  have z1 : zcnt (zp c r) (c r_x_filmCount 0 0 0).toNat 0 = zcnt (zp c r) 20 0 := by
    have e := zsum_cut (w := fun i => if zp c r i = true then 1 else 0) (c r_x_filmCount 0 0 0).toNat (20 - (c r_x_filmCount 0 0 0).toNat) 0
    rw [hN] at e
    have e0 := zsum_z (w := fun i => if zp c r i = true then 1 else 0) (20 - (c r_x_filmCount 0 0 0).toNat) (0 + ((c r_x_filmCount 0 0 0).toNat : Int)) (fun i i0 i1 => by
      have := hz i (by omega) (by omega)
      simp [zp, this])
    rw [zcnt_sum, zcnt_sum, e, e0, Int.add_zero]
  have z2 : zsum (zw c r) (c r_x_filmCount 0 0 0).toNat 0 = zsum (zw c r) 20 0 := by
    have e := zsum_cut (w := zw c r) (c r_x_filmCount 0 0 0).toNat (20 - (c r_x_filmCount 0 0 0).toNat) 0
    rw [hN] at e
    have e0 := zsum_z (w := zw c r) (20 - (c r_x_filmCount 0 0 0).toNat) (0 + ((c r_x_filmCount 0 0 0).toNat : Int)) (fun i i0 i1 => by
      have := hz i (by omega) (by omega)
      simp [zw, this])
    rw [e, e0, Int.add_zero]
  have key : ∀ (j : Nat) (k s n : Int), 0 ≤ k → k + j = c r_x_filmCount 0 0 0 → s = zsum (zw c r) k.toNat 0 → n = zcnt (zp c r) k.toNat 0 → g_m_evenOf ((1008, [f, r, s, n, k]), m) = ((0, [e_wr (e_wr (m r_m_scores_r f 0 r - e_div (zsum (zw c r) 20 0) (zcnt (zp c r) 20 0)) + 50)]), m) := by
    intro j
    induction j with
    | zero =>
      intro k s n k0 k1 hs hn
      have hk : k = c r_x_filmCount 0 0 0 := by omega
      rw [g_m_evenOf_8, zb_d, if_pos (by omega), hs, hn, hk, z1, z2]
    | succ j ih =>
      intro k s n k0 k1 hs hn
      have e : (k + 1).toNat = k.toNat + 1 := by omega
      have ek : (0 : Int) + (k.toNat : Int) = k := by omega
      have b1 := zsum_le (w := zw c r) (lo := 0) (hi := 100) k.toNat 0 (fun i i0 i1 => by
        have := (mk i r (by omega) (by omega) r0 r1).1
        unfold zw
        split <;> omega)
      have b2 := zcnt_le (zp c r) k.toNat 0
      have b3 : 0 ≤ s ∧ s ≤ 2000 := by omega
      have b4 : 0 ≤ n ∧ n ≤ 20 := by omega
      obtain ⟨m1, m2, m3, m4⟩ := mk k r k0 (by omega) r0 r1
      have hk1 : e_wr (k + 1) = k + 1 := e_wr_id (by omega) (by omega)
      rw [g_m_evenOf_8, zb_d, if_neg (by omega), zb_d, hk1]
      by_cases q : 0 ≤ c r_Readings_marks_r k 0 r
      · have w1 : (if 0 < c r_Readings_marks_r k 0 r then c r_Readings_marks_r k 0 r else 0) = c r_Readings_marks_r k 0 r := by split <;> omega
        have w2 : e_wr (s + c r_Readings_marks_r k 0 r) = s + c r_Readings_marks_r k 0 r := e_wr_id (by omega) (by omega)
        have w3 : e_wr (n + 1) = n + 1 := e_wr_id (by omega) (by omega)
        rw [m3 q, if_neg (by omega), w1, w2, w3]
        refine ih (k + 1) _ _ (by omega) (by omega) ?_ ?_
        · rw [e, zsum_app, ek, hs]
          unfold zw
          rw [if_pos q]
        · rw [e, zcnt_app, ek, hn]
          simp [zp, q]
      · have w1 : (if (0 : Int) < -1 then (-1 : Int) else 0) = 0 := by decide
        have w2 : e_wr (s + 0) = s := by rw [Int.add_zero]; exact e_wr_id (by omega) (by omega)
        have w3 : e_wr (n + 0) = n := by rw [Int.add_zero]; exact e_wr_id (by omega) (by omega)
        rw [m4 (by omega) (by omega), if_pos (by decide), w1, w2, w3]
        refine ih (k + 1) _ _ (by omega) (by omega) ?_ ?_
        · rw [e, zsum_app, ek, hs]
          unfold zw
          rw [if_neg q, Int.add_zero]
        · rw [e, zcnt_app, ek, hn]
          simp [zp, q]
  have n1 : 1 ≤ zcnt (zp c r) 20 0 := by
    have hp : zp c r f = true := by simp [zp, hs]
    have := zcnt_one hp 20 0 f0 (by omega)
    have := zcnt_le (fun i => zp c r i && decide (i ≠ f)) 20 0
    omega
  have s1 := zsum_le (w := zw c r) (lo := 0) (hi := 100) 20 0 (fun i i0 i1 => by
    have := (mk i r (by omega) (by omega) r0 r1).1
    unfold zw
    split <;> omega)
  have hv : v_Readings_evenScore f r c = e_wr (e_wr (c r_Readings_marks_r f 0 r - e_div (zsum (zw c r) 20 0) (zcnt (zp c r) 20 0)) + 50) := by
    unfold v_Readings_evenScore
    rw [zb_n, t1, t2, if_neg (by omega)]
  have hq : 0 ≤ e_div (zsum (zw c r) 20 0) (zcnt (zp c r) 20 0) ∧ e_div (zsum (zw c r) 20 0) (zcnt (zp c r) 20 0) ≤ 2000 := by
    unfold e_div
    rw [Int.tdiv_eq_ediv_of_nonneg (by omega)]
    have d0 : 0 ≤ zsum (zw c r) 20 0 / zcnt (zp c r) 20 0 := Int.ediv_nonneg (by omega) (by omega)
    have d1 : zsum (zw c r) 20 0 / zcnt (zp c r) 20 0 ≤ zsum (zw c r) 20 0 := Int.ediv_le_self _ (by omega)
    rw [e_wr_id (by omega) (by omega)]
    omega
  have mb := (mk f r f0 (by omega) r0 r1).1
  refine ⟨?_, ?_⟩
  · show g_m_evenOf ((1000, [f, r]), m) = _
    rw [g_m_evenOf_0, key (c r_x_filmCount 0 0 0).toNat 0 0 0 (Int.le_refl _) (by omega) rfl rfl, hv, (mk f r f0 (by omega) r0 r1).2.2.1 hs]
  · rw [hv, e_wr_id (x := c r_Readings_marks_r f 0 r - e_div (zsum (zw c r) 20 0) (zcnt (zp c r) 20 0)) (by omega) (by omega), e_wr_id (by omega) (by omega)]
    omega
/-- the score of a film, on both sides -/
theorem q_scoreOf {c m : ZS} (h : zR c m) {f : Int} (f0 : 0 ≤ f) (f1 : f < c r_x_filmCount 0 0 0) : ∃ v, f_Readings_meanOfEven [f] c = ((0, [v]), c) ∧ f_m_scoreOf [f] m = ((0, [v]), m) := by
  obtain ⟨⟨a1, a2, a3⟩, ⟨b1, b2, b3⟩, ll, fl, ad, dm, mk, ts⟩ := id h
  have ht := h.told f0 f1
  show ∃ v, g_Readings_meanOfEven ((1000, [f]), c) = ((0, [v]), c) ∧ g_m_scoreOf ((1000, [f]), m) = ((0, [v]), m)
  rw [g_Readings_meanOfEven_0, g_m_scoreOf_0]
  refine z_sync (n := c r_Readings_readerCount 0 0 0) (A := fun (a : Int × Int) k => g_Readings_meanOfEven ((1007, [f, a.1, a.2, k]), c)) (B := fun (s : Int) k => g_m_scoreOf ((1004, [f, s, k]), m)) (R := fun k a s => a.1 = s ∧ e_wr s = s ∧ a.2 = zcnt (fun k => decide (0 ≤ c r_Readings_marks_r f 0 k)) k.toNat 0) (Goal := fun A B => ∃ v, A = ((0, [v]), c) ∧ B = ((0, [v]), m)) ?_ ?_ (c r_Readings_readerCount 0 0 0).toNat 0 (0, 0) 0 (Int.le_refl _) (by omega) ⟨rfl, e_wr_id (by omega) (by omega), rfl⟩
  · rintro ⟨s, n⟩ s' ⟨e1, e2, e3⟩
    have e1 : s = s' := e1
    have e3 : n = _ := e3
    subst e1
    show ∃ v, g_Readings_meanOfEven ((1007, [f, s, n, c r_Readings_readerCount 0 0 0]), c) = ((0, [v]), c) ∧ g_m_scoreOf ((1004, [f, s, c r_Readings_readerCount 0 0 0]), m) = ((0, [v]), m)
    rw [g_Readings_meanOfEven_7, g_m_scoreOf_4, zb_d, if_pos (Int.le_refl _), zb_d, if_pos (by omega), zb_n, q_scoreMany (by omega) (by omega), ht, e_b_ok]
    by_cases q : n = 0
    · rw [if_pos q, ← e3]
      refine ⟨0, rfl, ?_⟩
      show ((0, [e_div s n]), m) = (((0, [0]) : Nat × List Int), m)
      rw [q]
      have : e_div s 0 = 0 := by
        unfold e_div
        rw [Int.tdiv_zero]
        decide
      rw [this]
    · rw [if_neg q, ← e3]
      exact ⟨_, rfl, rfl⟩
  · rintro k ⟨s, n⟩ s' k0 k1 ⟨e1, e2, e3⟩
    have e1 : s = s' := e1
    have e3 : n = _ := e3
    subst e1
    have ek : (k + 1).toNat = k.toNat + 1 := by omega
    have e0 : (0 : Int) + (k.toNat : Int) = k := by omega
    have b := zcnt_le (fun k => decide (0 ≤ c r_Readings_marks_r f 0 k)) k.toNat 0
    have hk1 : e_wr (k + 1) = k + 1 := e_wr_id (by omega) (by omega)
    obtain ⟨m1, m2, m3, m4⟩ := mk f k f0 (by omega) k0 (by omega)
    by_cases q : 0 ≤ c r_Readings_marks_r f 0 k
    · obtain ⟨v1, -, -⟩ := q_evenOf h f0 f1 k0 (by omega) q
      have hn : e_wr (n + 1) = n + 1 := e_wr_id (by omega) (by omega)
      refine ⟨(e_wr (s + v_Readings_evenScore f k c), n + 1), e_wr (s + v_Readings_evenScore f k c), ?_, ?_, rfl, e_wr_wr, ?_⟩
      · show g_Readings_meanOfEven ((1007, [f, s, n, k]), c) = g_Readings_meanOfEven ((1007, [f, e_wr (s + v_Readings_evenScore f k c), n + 1, k + 1]), c)
        rw [g_Readings_meanOfEven_7, zb_d, if_neg (by omega), zb_d, if_neg (by omega), hk1, hn]
      · show g_m_scoreOf ((1004, [f, s, k]), m) = g_m_scoreOf ((1004, [f, e_wr (s + v_Readings_evenScore f k c), k + 1]), m)
        rw [g_m_scoreOf_4, zb_d, if_neg (by omega), zb_d, m3 q, if_neg (by omega), v1, e_b_ok, hk1]
        rfl
      · show n + 1 = _
        rw [ek, zcnt_app, e0, e3]
        simp [q]
    · refine ⟨(s, n), s, ?_, ?_, rfl, e2, ?_⟩
      · show g_Readings_meanOfEven ((1007, [f, s, n, k]), c) = g_Readings_meanOfEven ((1007, [f, s, n, k + 1]), c)
        rw [g_Readings_meanOfEven_7, zb_d, if_neg (by omega), zb_d, if_pos (by omega), hk1]
      · show g_m_scoreOf ((1004, [f, s, k]), m) = g_m_scoreOf ((1004, [f, s, k + 1]), m)
        rw [g_m_scoreOf_4, zb_d, if_neg (by omega), zb_d, m4 (by omega) f1, if_pos (by decide), Int.add_zero, e2, hk1]
      · show n = _
        rw [ek, zcnt_app, e0, e3]
        simp [q]
/-- whether a film is in quarrel, on both sides -/
theorem q_quarrel {c m : ZS} (h : zR c m) {f : Int} (f0 : 0 ≤ f) (f1 : f < c r_x_filmCount 0 0 0) : ∃ v, f_Readings_spread [f] c = ((0, [v]), c) ∧ f_m_isQuarrel [f] m = ((0, [if v ≤ 30 then 0 else 1]), m) := by
  obtain ⟨⟨a1, a2, a3⟩, ⟨b1, b2, b3⟩, ll, fl, ad, dm, mk, ts⟩ := id h
  have ht := h.told f0 f1
  show ∃ v, g_Readings_spread ((1000, [f]), c) = ((0, [v]), c) ∧ g_m_isQuarrel ((1000, [f]), m) = ((0, [if v ≤ 30 then 0 else 1]), m)
  rw [g_Readings_spread_0, g_m_isQuarrel_0]
  refine z_sync (n := c r_Readings_readerCount 0 0 0) (A := fun (a : Int × Int × Int) k => g_Readings_spread ((1010, [f, a.1, a.2.1, a.2.2, k]), c)) (B := fun (s : Int × Int) k => g_m_isQuarrel ((1009, [f, s.1, s.2, k]), m)) (R := fun k a s => (zcnt (fun k => decide (0 ≤ c r_Readings_marks_r f 0 k)) k.toNat 0 = 0 ∧ a = (0, 0, 0) ∧ s = (2147483647, -2147483648)) ∨ (0 < zcnt (fun k => decide (0 ≤ c r_Readings_marks_r f 0 k)) k.toNat 0 ∧ a.2.2 = 1 ∧ s = (a.1, a.2.1))) (Goal := fun A B => ∃ v, A = ((0, [v]), c) ∧ B = ((0, [if v ≤ 30 then 0 else 1]), m)) ?_ ?_ (c r_Readings_readerCount 0 0 0).toNat 0 (0, 0, 0) (2147483647, -2147483648) (Int.le_refl _) (by omega) (Or.inl ⟨rfl, rfl, rfl⟩)
  · rintro ⟨x, y, z⟩ ⟨x', y'⟩ hh
    show ∃ v, g_Readings_spread ((1010, [f, x, y, z, c r_Readings_readerCount 0 0 0]), c) = ((0, [v]), c) ∧ g_m_isQuarrel ((1009, [f, x', y', c r_Readings_readerCount 0 0 0]), m) = ((0, [if v ≤ 30 then 0 else 1]), m)
    rw [g_Readings_spread_10, g_m_isQuarrel_9, zb_d, if_pos (Int.le_refl _), zb_d, if_pos (by omega), q_scoreMany (by omega) (by omega), ht, e_b_ok]
    show ∃ v, _ ∧ (bif decide (zcnt (fun k => decide (0 ≤ c r_Readings_marks_r f 0 k)) (c r_Readings_readerCount 0 0 0).toNat 0 ≤ 0) then _ else _) = _
    rw [zb_d, zb_d]
    rcases hh with ⟨e1, e2, e3⟩ | ⟨e1, e2, e3⟩
    · cases e2
      cases e3
      refine ⟨_, rfl, ?_⟩
      rw [if_pos (by omega)]
      rfl
    · cases e3
      refine ⟨_, rfl, ?_⟩
      rw [if_neg (by omega)]
      split <;> rfl
  · rintro k ⟨x, y, z⟩ ⟨x', y'⟩ k0 k1 hh
    have ek : (k + 1).toNat = k.toNat + 1 := by omega
    have e0 : (0 : Int) + (k.toNat : Int) = k := by omega
    have b := zcnt_le (fun k => decide (0 ≤ c r_Readings_marks_r f 0 k)) k.toNat 0
    have hk1 : e_wr (k + 1) = k + 1 := e_wr_id (by omega) (by omega)
    obtain ⟨m1, m2, m3, m4⟩ := mk f k f0 (by omega) k0 (by omega)
    by_cases q : 0 ≤ c r_Readings_marks_r f 0 k
    · obtain ⟨v1, v2, v3⟩ := q_evenOf h f0 f1 k0 (by omega) q
      have hc : zcnt (fun k => decide (0 ≤ c r_Readings_marks_r f 0 k)) (k + 1).toNat 0 = zcnt (fun k => decide (0 ≤ c r_Readings_marks_r f 0 k)) k.toNat 0 + 1 := by
        rw [ek, zcnt_app, e0]
        simp [q]
      generalize hv : v_Readings_evenScore f k c = v at v1 v2 v3
      have hB : g_m_isQuarrel ((1009, [f, x', y', k]), m) = g_m_isQuarrel ((1009, [f, (if v < x' then v else x'), (if y' < v then v else y'), k + 1]), m) := by
        rw [g_m_isQuarrel_9, zb_d, if_neg (by omega), zb_d, m3 q, if_neg (by omega), v1, e_b_ok]
        show e_bind (f_m_evenOf [f, k] m) _ = _
        rw [v1, e_b_ok, hk1]
        rfl
      rcases hh with ⟨e1, e2, e3⟩ | ⟨e1, e2, e3⟩
      · cases e2
        cases e3
        refine ⟨(v, v, 1), (v, v), ?_, ?_, Or.inr ⟨by omega, rfl, rfl⟩⟩
        · show g_Readings_spread ((1010, [f, 0, 0, 0, k]), c) = g_Readings_spread ((1010, [f, v, v, 1, k + 1]), c)
          rw [g_Readings_spread_10, zb_d, if_neg (by omega), zb_d, if_neg (by omega), hk1, hv]
          rfl
        · show g_m_isQuarrel ((1009, [f, 2147483647, -2147483648, k]), m) = g_m_isQuarrel ((1009, [f, v, v, k + 1]), m)
          rw [hB, if_pos (by omega), if_pos (by omega)]
      · cases e3
        have e2 : z = 1 := e2
        subst e2
        refine ⟨((if v < x then v else x), (if y < v then v else y), 1), ((if v < x then v else x), (if y < v then v else y)), ?_, hB, Or.inr ⟨by omega, rfl, rfl⟩⟩
        show g_Readings_spread ((1010, [f, x, y, 1, k]), c) = g_Readings_spread ((1010, [f, (if v < x then v else x), (if y < v then v else y), 1, k + 1]), c)
        rw [g_Readings_spread_10, zb_d, if_neg (by omega), zb_d, if_neg (by omega), hk1, hv]
        rfl
    · have hc : zcnt (fun k => decide (0 ≤ c r_Readings_marks_r f 0 k)) (k + 1).toNat 0 = zcnt (fun k => decide (0 ≤ c r_Readings_marks_r f 0 k)) k.toNat 0 := by
        rw [ek, zcnt_app, e0]
        simp [q]
      refine ⟨(x, y, z), (x', y'), ?_, ?_, ?_⟩
      · show g_Readings_spread ((1010, [f, x, y, z, k]), c) = g_Readings_spread ((1010, [f, x, y, z, k + 1]), c)
        rw [g_Readings_spread_10, zb_d, if_neg (by omega), zb_d, if_pos (by omega), hk1]
      · show g_m_isQuarrel ((1009, [f, x', y', k]), m) = g_m_isQuarrel ((1009, [f, x', y', k + 1]), m)
        rw [g_m_isQuarrel_9, zb_d, if_neg (by omega), zb_d, m4 (by omega) f1, if_pos (by decide), hk1]
      · rw [hc]
        exact hh
theorem o_even {f k : Int} {c m : ZS} (h : zR c m) : zBoth (f_w_even [f, k] c) (f_m_even [f, k] m) := by
  obtain ⟨⟨a1, a2, a3⟩, ⟨b1, b2, b3⟩, ll, fl, ad, dm, mk, ts⟩ := id h
  show zBoth (e_try (f_x_even [f, k] c) (fun v1 S1 => ((0, [0]), e_upd S1 r_out 0 0 0 v1)) [(0, 1), (4, 2)]) (f_m_even [f, k] m)
  unfold f_x_even f_m_even
  dsimp only
  rw [q_film a1 (by omega), q_noReader (by omega) (by omega) (by omega) (by omega), a3, b3]
  by_cases hf : 0 ≤ f ∧ f < c r_x_filmCount 0 0 0
  · rw [if_pos hf, e_b_ok, q_reader b1 (by omega)]
    by_cases hk : 0 ≤ k ∧ k < c r_Readings_readerCount 0 0 0
    · rw [if_pos hk, if_pos ⟨hf, hk⟩, e_b_ok, e_bnd]
      obtain ⟨m1, m2, m3, m4⟩ := mk f k hf.1 (by omega) hk.1 (by omega)
      simp (decide := true) only [zb_n, zb_d, e_un, Int.reduceEq, ↓reduceIte]
      by_cases q : 0 ≤ c r_Readings_marks_r f 0 k
      · rw [m3 q, if_pos q, if_pos q, (q_evenOf (h.thr.thr : zR c (e_upd (e_upd m r_m_thrown 0 0 0 0) r_m_thrown 0 0 0 0)) hf.1 hf.2 hk.1 (by omega) q).1, e_bnd]
        exact ⟨0, _, _, _, rfl, rfl, h.thr.thr.out, e_us, fun _ => e_us⟩
      · rw [m4 (by omega) hf.2, if_neg q, if_neg (by decide)]
        exact ⟨2, 0, _, _, rfl, rfl, h.thr.thr, e_us, fun q => absurd q (by decide)⟩
    · rw [if_neg hk, if_neg (fun q => hk q.2), e_b_x (by decide) (by decide), e_bnd]
      exact ⟨1, 0, _, _, rfl, rfl, h.thr, e_us, fun q => absurd q (by decide)⟩
  · rw [if_neg hf, if_neg (fun q => hf q.1), e_b_x (by decide) (by decide), e_bnd]
    exact ⟨1, 0, _, _, rfl, rfl, h.thr, e_us, fun q => absurd q (by decide)⟩
theorem o_score {f : Int} {c m : ZS} (h : zR c m) : zBoth (f_w_score [f] c) (f_m_score [f] m) := by
  obtain ⟨⟨a1, a2, a3⟩, ⟨b1, b2, b3⟩, ll, fl, ad, dm, mk, ts⟩ := id h
  show zBoth (e_try (f_x_score [f] c) (fun v1 S1 => ((0, [0]), e_upd S1 r_out 0 0 0 v1)) [(0, 1), (4, 2)]) (f_m_score [f] m)
  unfold f_x_score f_m_score
  dsimp only
  rw [q_film a1 (by omega), q_noFilm (by omega) (by omega), a3]
  by_cases hf : 0 ≤ f ∧ f < c r_x_filmCount 0 0 0
  · obtain ⟨v, v1, v2⟩ := q_scoreOf (h.thr.thr : zR c (e_upd (e_upd m r_m_thrown 0 0 0 0) r_m_thrown 0 0 0 0)) hf.1 hf.2
    have ht := h.told hf.1 hf.2
    rw [if_pos hf, if_pos hf, e_b_ok, q_countTold b1 b2, e_b_ok]
    simp (decide := true) only [zb_n, zb_d, Int.reduceEq, ↓reduceIte]
    rw [q_scoreMany (by rw [e_un (by decide)]; omega) (by rw [e_un (by decide)]; omega), e_bnd]
    have hm : zcnt (fun k => decide (0 ≤ (e_upd m r_m_thrown 0 0 0 0) r_m_scores_r f 0 k)) ((e_upd m r_m_thrown 0 0 0 0) r_m_readers 0 0 0).toNat 0 = zcnt (fun k => decide (0 ≤ c r_Readings_marks_r f 0 k)) (c r_Readings_readerCount 0 0 0).toNat 0 := (h.thr : zR c (e_upd m r_m_thrown 0 0 0 0)).told hf.1 hf.2
    rw [hm]
    show zBoth (e_try (if zcnt (fun k => decide (0 ≤ c r_Readings_marks_r f 0 k)) (c r_Readings_readerCount 0 0 0).toNat 0 = 0 then _ else _) _ _) _
    by_cases q : zcnt (fun k => decide (0 ≤ c r_Readings_marks_r f 0 k)) (c r_Readings_readerCount 0 0 0).toNat 0 = 0
    · simp only [if_pos q]
      exact ⟨2, 0, _, _, rfl, rfl, h.thr.thr, e_us, fun q => absurd q (by decide)⟩
    · simp only [if_neg q]
      rw [v1, v2, e_bnd, e_bnd]
      exact ⟨0, _, _, _, rfl, rfl, h.thr.thr.out, e_us, fun _ => e_us⟩
  · rw [if_neg hf, if_neg hf, e_b_x (by decide) (by decide)]
    simp (decide := true) only [zb_n, zb_d, ↓reduceIte]
    exact ⟨1, 0, _, _, rfl, rfl, h.thr, e_us, fun q => absurd q (by decide)⟩
theorem o_isInQuarrel {f : Int} {c m : ZS} (h : zR c m) : zBoth (f_w_isInQuarrel [f] c) (f_m_isInQuarrel [f] m) := by
  obtain ⟨⟨a1, a2, a3⟩, -⟩ := id h
  show zBoth (e_try (f_x_isInQuarrel [f] c) (fun v1 S1 => (bif decide (v1 = 0) then ((0, [0]), (e_upd S1 r_out 0 0 0 0)) else ((0, [0]), (e_upd S1 r_out 0 0 0 1)))) [(0, 1)]) (f_m_isInQuarrel [f] m)
  unfold f_x_isInQuarrel f_m_isInQuarrel
  dsimp only
  rw [q_film a1 (by omega), q_noFilm (by omega) (by omega), a3]
  by_cases hf : 0 ≤ f ∧ f < c r_x_filmCount 0 0 0
  · obtain ⟨v, v1, v2⟩ := q_quarrel (h.thr : zR c (e_upd m r_m_thrown 0 0 0 0)) hf.1 hf.2
    rw [if_pos hf, if_pos hf, e_b_ok, v1, e_bnd]
    simp (decide := true) only [zb_n, zb_d, Int.reduceEq, ↓reduceIte]
    rw [v2, e_bnd]
    by_cases q : v ≤ 30
    · simp (decide := true) only [if_pos q, Int.reduceEq, ↓reduceIte]
      exact ⟨0, _, _, _, rfl, rfl, h.thr.out, e_us, fun _ => e_us⟩
    · simp (decide := true) only [if_neg q, Int.reduceEq, ↓reduceIte]
      exact ⟨0, _, _, _, rfl, rfl, h.thr.out, e_us, fun _ => e_us⟩
  · rw [if_neg hf, if_neg hf, e_b_x (by decide) (by decide)]
    simp (decide := true) only [zb_n, zb_d, ↓reduceIte]
    exact ⟨1, 0, _, _, rfl, rfl, h.thr, e_us, fun q => absurd q (by decide)⟩
theorem b_isInQuarrel {a v : Int} {S S2 : ZS} (h : f_m_isInQuarrel [a] S = ((0, [v]), S2)) : v = 0 ∨ v = 1 := by
  unfold f_m_isInQuarrel at h
  dsimp only at h
  exact e_bool h e_bool0 (fun h => e_bool (e_bind_ok h).2 e_bool0 e_bool1)
end
/-! part 71ub01 -/
section
/-! The films' own columns: what film does, as states -/
theorem q_wfilm {x y z : Int} {c : ZS} (a1 : 0 ≤ c r_x_filmCount 0 0 0) (a2 : c r_x_filmCount 0 0 0 ≤ 20) : f_w_film [x, y, z] c = if (x = 102 ∨ x = 115 ∨ x = 100) ∧ (1 ≤ y ∧ y ≤ 300) ∧ 0 ≤ z ∧ z ≤ 9 then (if c r_x_filmCount 0 0 0 = 20 then ((0, [2]), c) else ((0, [0]), e_upd (e_upd (e_upd (e_upd (e_upd c r_Film_form (c r_x_filmCount 0 0 0) 0 0 x) r_Film_minutes (c r_x_filmCount 0 0 0) 0 0 y) r_Film_land (c r_x_filmCount 0 0 0) 0 0 z) r_x_filmCount 0 0 0 (c r_x_filmCount 0 0 0 + 1)) r_out 0 0 0 (c r_x_filmCount 0 0 0))) else ((0, [1]), c) := by
  show e_try (f_x_film [x, y, z] c) (fun v1 S1 => ((0, [0]), e_upd S1 r_out 0 0 0 v1)) [(1, 1), (2, 2)] = _
  unfold f_x_film f_Film_begin
  simp only [zb_n, zb_d, q_within, q_isForm, e_bnd0]
  by_cases hx : x = 102 ∨ x = 115 ∨ x = 100
  · by_cases hy : 1 ≤ y ∧ y ≤ 300
    · by_cases hz : 0 ≤ z ∧ z ≤ 9
      · by_cases hn : c r_x_filmCount 0 0 0 = 20
        · simp only [if_pos hx, if_pos hy, if_pos hz, if_pos hn, if_pos (And.intro hx (And.intro hy hz)), if_neg (show ¬ c r_x_filmCount 0 0 0 < 20 by omega), Int.reduceEq, ↓reduceIte]
          rfl
        · simp only [if_pos hx, if_pos hy, if_pos hz, if_neg hn, if_pos (And.intro hx (And.intro hy hz)), if_pos (show c r_x_filmCount 0 0 0 < 20 by omega), Int.reduceEq, ↓reduceIte]
          have hw : e_wr (c r_x_filmCount 0 0 0 + 1) = c r_x_filmCount 0 0 0 + 1 := e_wr_id (by omega) (by omega)
          have hw2 : e_wr (c r_x_filmCount 0 0 0 + 1 - 1) = c r_x_filmCount 0 0 0 := by rw [e_wr_id (by omega) (by omega), Int.add_sub_cancel]
          simp (decide := true) only [e_un, e_us, hw, hw2]
          rfl
      · simp only [if_pos hx, if_pos hy, if_neg hz, if_neg (fun q : (x = 102 ∨ x = 115 ∨ x = 100) ∧ (1 ≤ y ∧ y ≤ 300) ∧ 0 ≤ z ∧ z ≤ 9 => hz q.2.2), Int.reduceEq, ↓reduceIte]
        rfl
    · simp only [if_pos hx, if_neg hy, if_neg (fun q : (x = 102 ∨ x = 115 ∨ x = 100) ∧ (1 ≤ y ∧ y ≤ 300) ∧ 0 ≤ z ∧ z ≤ 9 => hy q.2.1), Int.reduceEq, ↓reduceIte]
      rfl
  · simp only [if_neg hx, if_neg (fun q : (x = 102 ∨ x = 115 ∨ x = 100) ∧ (1 ≤ y ∧ y ≤ 300) ∧ 0 ≤ z ∧ z ≤ 9 => hx q.1), Int.reduceEq, ↓reduceIte]
    rfl
theorem q_mfilm {x y z : Int} {m : ZS} (a1 : 0 ≤ m r_m_films 0 0 0) (a2 : m r_m_films 0 0 0 ≤ 20) : f_m_film [x, y, z] m = if (x = 102 ∨ x = 115 ∨ x = 100) ∧ (1 ≤ y ∧ y ≤ 300) ∧ 0 ≤ z ∧ z ≤ 9 then (if m r_m_films 0 0 0 = 20 then ((0, [0]), e_upd (e_upd m r_m_thrown 0 0 0 0) r_m_thrown 0 0 0 2) else ((0, [m r_m_films 0 0 0]), e_upd (zfl (m r_m_films 0 0 0) 8 0 (e_upd (e_upd (e_upd (e_upd (e_upd (e_upd (e_upd m r_m_thrown 0 0 0 0) r_m_thrown 0 0 0 0) r_m_forms 0 0 (m r_m_films 0 0 0) x) r_m_minutes 0 0 (m r_m_films 0 0 0) y) r_m_lands 0 0 (m r_m_films 0 0 0) z) r_m_still 0 0 (m r_m_films 0 0 0) 3) r_m_sections 0 0 (m r_m_films 0 0 0) (-1))) r_m_films 0 0 0 (m r_m_films 0 0 0 + 1))) else ((0, [0]), e_upd m r_m_thrown 0 0 0 1) := by
  show g_m_film ((1000, [x, y, z]), m) = _
  rw [g_m_film_0]
  simp only [zb_n, zb_d, q_isIn, q_misForm]
  by_cases hx : x = 102 ∨ x = 115 ∨ x = 100
  · by_cases hy : 1 ≤ y ∧ y ≤ 300
    · by_cases hz : 0 ≤ z ∧ z ≤ 9
      · by_cases hn : m r_m_films 0 0 0 = 20
        · simp only [if_pos hx, if_pos hy, if_pos hz, if_pos hn, if_pos (And.intro hx (And.intro hy hz)), Int.reduceEq, ↓reduceIte]
        · simp only [if_pos hx, if_pos hy, if_pos hz, if_neg hn, if_pos (And.intro hx (And.intro hy hz)), Int.reduceEq, ↓reduceIte]
          rw [q_mfilmLoop 8 0 _ (by omega) (by omega) (by simp (decide := true) only [e_un]; omega) (by simp (decide := true) only [e_un]; omega), e_nc (by omega) (by omega)]
          simp (decide := true) only [e_un]
      · simp only [if_pos hx, if_pos hy, if_neg hz, if_neg (fun q : (x = 102 ∨ x = 115 ∨ x = 100) ∧ (1 ≤ y ∧ y ≤ 300) ∧ 0 ≤ z ∧ z ≤ 9 => hz q.2.2), Int.reduceEq, ↓reduceIte]
    · simp only [if_pos hx, if_neg hy, if_neg (fun q : (x = 102 ∨ x = 115 ∨ x = 100) ∧ (1 ≤ y ∧ y ≤ 300) ∧ 0 ≤ z ∧ z ≤ 9 => hy q.2.1), Int.reduceEq, ↓reduceIte]
  · simp only [if_neg hx, if_neg (fun q : (x = 102 ∨ x = 115 ∨ x = 100) ∧ (1 ≤ y ∧ y ≤ 300) ∧ 0 ≤ z ∧ z ≤ 9 => hx q.1), Int.reduceEq, ↓reduceIte]
end
/-! part 71ub02 -/
section
/-! The films' own columns: the relation, film and rival -/
def zFs (c m : ZS) : Prop := (∀ f, 0 ≤ f → f < c r_x_filmCount 0 0 0 → m r_m_forms 0 0 f = c r_Film_form f 0 0 ∧ m r_m_minutes 0 0 f = c r_Film_minutes f 0 0 ∧ m r_m_still 0 0 f = c r_Film_stillIs f 0 0 ∧ m r_m_sections 0 0 f = c r_Film_section f 0 0) ∧ (∀ f, c r_x_filmCount 0 0 0 ≤ f → f < 20 → c r_Film_stillIs f 0 0 = 3 ∧ c r_Film_section f 0 0 = -1) ∧ ∀ f, 0 ≤ f → f < 20 → m r_m_promises 0 0 f = c r_Film_promise f 0 0 ∧ -1 ≤ c r_Film_section f 0 0
def zFsC : List Nat := [r_x_filmCount, r_Film_form, r_Film_minutes, r_Film_stillIs, r_Film_section, r_Film_promise]
def zFsM : List Nat := [r_m_forms, r_m_minutes, r_m_still, r_m_sections, r_m_promises]
theorem zFs_rel : zRel zFs zFsC zFsM := fun {c m c' m'} h hc hm => by
  unfold zFs
  rw [hc r_x_filmCount (by decide), hc r_Film_form (by decide), hc r_Film_minutes (by decide), hc r_Film_stillIs (by decide), hc r_Film_section (by decide), hc r_Film_promise (by decide), hm r_m_forms (by decide), hm r_m_minutes (by decide), hm r_m_still (by decide), hm r_m_sections (by decide), hm r_m_promises (by decide)]
  exact h
/-- a write that a relation doesn't see -/
theorem zRel.uc {R : ZS → ZS → Prop} {KC KM : List Nat} (hr : zRel R KC KM) {c m : ZS} (h : R c m) {q : Nat} {i j k z : Int} (hq : KC.contains q = false) : R (e_upd c q i j k z) m := hr h (fun r hr' => by
  funext x y w
  exact e_un (by
    cases e : r == q with
    | false => rfl
    | true =>
      rw [beq_iff_eq] at e
      rw [e, ← List.contains_iff_mem] at hr'
      rw [hr'] at hq
      cases hq)) (fun _ _ => rfl)
theorem zRel.um {R : ZS → ZS → Prop} {KC KM : List Nat} (hr : zRel R KC KM) {c m : ZS} (h : R c m) {q : Nat} {i j k z : Int} (hq : KM.contains q = false) : R c (e_upd m q i j k z) := hr h (fun _ _ => rfl) (fun r hr' => by
  funext x y w
  exact e_un (by
    cases e : r == q with
    | false => rfl
    | true =>
      rw [beq_iff_eq] at e
      rw [e, ← List.contains_iff_mem] at hr'
      rw [hr'] at hq
      cases hq))
theorem zFs.out {c m : ZS} (h : zFs c m) {z : Int} : zFs (e_upd c r_out 0 0 0 z) m := zFs_rel.uc h (by decide)
theorem zFs.thr {c m : ZS} (h : zFs c m) {z : Int} : zFs c (e_upd m r_m_thrown 0 0 0 z) := zFs_rel.um h (by decide)
theorem s_film {x y z : Int} {c m : ZS} (h : zR c m) (hs : zFs c m) : zFs (f_w_film [x, y, z] c).2 (f_m_film [x, y, z] m).2 := by
  obtain ⟨⟨a1, a2, a3⟩, -⟩ := id h
  rw [q_wfilm a1 a2, q_mfilm (by omega) (by omega), a3]
  split
  · split
    · exact hs.thr.thr
    · rename_i hn
      refine zFs.out ?_
      obtain ⟨s1, s2, s3⟩ := hs
      refine ⟨fun f f0 f1 => ?_, fun f f0 f1 => ?_, fun f f0 f1 => ?_⟩
      · simp (decide := true) only [e_us, e_un] at f1
        simp (decide := true) only [e_un, e_ur, zfl_o]
        by_cases q : f = c r_x_filmCount 0 0 0
        · simp (decide := true) only [q, and_self, ↓reduceIte, true_and]
          exact ⟨((s2 _ (Int.le_refl _) (by omega)).1).symm, ((s2 _ (Int.le_refl _) (by omega)).2).symm⟩
        · simp only [q, and_false, false_and, ↓reduceIte]
          exact s1 f f0 (by omega)
      · simp (decide := true) only [e_us, e_un] at f0 ⊢
        exact s2 f (by omega) f1
      · simp (decide := true) only [e_un, zfl_o]
        exact s3 f f0 f1
  · exact hs.thr
theorem oB_film {x y z : Int} {c m : ZS} (h : zAnd zR zFs c m) : zBo (zAnd zR zFs) (f_w_film [x, y, z] c) (f_m_film [x, y, z] m) := (o_film h.1).bo.and (s_film h.1 h.2)
def zlv (w : Int) : Int := if w = 97 then 2 else if w = 108 then 1 else 0
def zmn (a b : Int) : Int := if a < b then a else b
theorem q_letter {x : Int} {S S' : ZS} : v_m_letterOf x S = v_x_premiereOf x S' := rfl
theorem q_wrival {f w : Int} {c : ZS} (a1 : 0 ≤ c r_x_filmCount 0 0 0) (a2 : c r_x_filmCount 0 0 0 ≤ 20) : f_w_rival [f, w] c = if 0 ≤ f ∧ f < c r_x_filmCount 0 0 0 then (if w = 97 ∨ w = 108 ∨ w = 116 then ((0, [0]), e_upd (e_upd c r_Film_stillIs f 0 0 (zmn (zlv w) (c r_Film_stillIs f 0 0))) r_out 0 0 0 (v_x_premiereOf (zmn (zlv w) (c r_Film_stillIs f 0 0)) c)) else ((0, [2]), c)) else ((0, [1]), c) := by
  show e_try (f_x_rival [f, w] c) (fun v1 S1 => ((0, [0]), e_upd S1 r_out 0 0 0 v1)) [(0, 1), (1, 2)] = _
  unfold f_x_rival f_Film_showElsewhere
  dsimp only
  rw [q_film a1 (by omega)]
  by_cases hf : 0 ≤ f ∧ f < c r_x_filmCount 0 0 0
  · rw [if_pos hf, if_pos hf, e_b_ok]
    by_cases w1 : w = 97
    · subst w1
      simp (decide := true) only [zb_n, zb_d, e_b_ok, ↓reduceIte, e_us]
      rfl
    · by_cases w2 : w = 108
      · subst w2
        simp (decide := true) only [zb_n, zb_d, e_b_ok, ↓reduceIte, e_us]
        rfl
      · by_cases w3 : w = 116
        · subst w3
          simp (decide := true) only [zb_n, zb_d, e_b_ok, ↓reduceIte, e_us]
          rfl
        · simp (decide := true) only [zb_n, zb_d, w1, w2, w3, ↓reduceIte]
          rfl
  · rw [if_neg hf, if_neg hf, e_b_x (by decide) (by decide)]
    rfl
theorem q_mrival {f w : Int} {m : ZS} (a1 : 0 ≤ m r_m_films 0 0 0) (a2 : m r_m_films 0 0 0 ≤ 20) : f_m_rival [f, w] m = if 0 ≤ f ∧ f < m r_m_films 0 0 0 then (if w = 97 ∨ w = 108 ∨ w = 116 then ((0, [v_x_premiereOf (zmn (zlv w) (m r_m_still 0 0 f)) m]), e_upd (e_upd (e_upd m r_m_thrown 0 0 0 0) r_m_thrown 0 0 0 0) r_m_still 0 0 f (zmn (zlv w) (m r_m_still 0 0 f))) else ((0, [32]), e_upd (e_upd m r_m_thrown 0 0 0 0) r_m_thrown 0 0 0 2)) else ((0, [32]), e_upd m r_m_thrown 0 0 0 1) := by
  unfold f_m_rival
  dsimp only
  rw [q_noFilm a1 (by omega)]
  by_cases hf : 0 ≤ f ∧ f < m r_m_films 0 0 0
  · rw [if_pos hf, if_pos hf]
    by_cases w1 : w = 97
    · subst w1
      simp (decide := true) only [zb_n, zb_d, ↓reduceIte, e_us, e_un]
      rfl
    · by_cases w2 : w = 108
      · subst w2
        simp (decide := true) only [zb_n, zb_d, ↓reduceIte, e_us, e_un]
        rfl
      · by_cases w3 : w = 116
        · subst w3
          simp (decide := true) only [zb_n, zb_d, ↓reduceIte, e_us, e_un]
          rfl
        · simp (decide := true) only [zb_n, zb_d, w1, w2, w3, ↓reduceIte, or_self]
  · rw [if_neg hf, if_neg hf]
    simp (decide := true) only [zb_n, zb_d, ↓reduceIte]
    repeat' split
    all_goals rfl
end
/-! part 71ub03 -/
section
/-! rival -/
theorem oB_rival {f w : Int} {c m : ZS} (h : zAnd zR zFs c m) : zBo (zAnd zR zFs) (f_w_rival [f, w] c) (f_m_rival [f, w] m) := by
  obtain ⟨hR, hS⟩ := h
  obtain ⟨⟨a1, a2, a3⟩, -⟩ := id hR
  rw [q_wrival a1 a2, q_mrival (by omega) (by omega), a3]
  by_cases hf : 0 ≤ f ∧ f < c r_x_filmCount 0 0 0
  · rw [if_pos hf, if_pos hf]
    by_cases hw : w = 97 ∨ w = 108 ∨ w = 116
    · rw [if_pos hw, if_pos hw, (hS.1 f hf.1 hf.2).2.2.1]
      refine ⟨0, _, _, _, rfl, rfl, ⟨?_, ?_⟩, ?_, fun _ => ?_⟩
      · exact zR_rel.um (zR_rel.uc (zR_rel.uc hR.thr.thr (by decide)) (by decide)) (by decide)
      · refine zFs.out ?_
        obtain ⟨s1, s2, s3⟩ := hS
        refine ⟨fun g g0 g1 => ?_, fun g g0 g1 => ?_, fun g g0 g1 => ?_⟩
        · simp (decide := true) only [e_un] at g1
          simp (decide := true) only [e_un, e_ur]
          obtain ⟨t1, t2, t3, t4⟩ := s1 g g0 g1
          refine ⟨t1, t2, ?_, t4⟩
          by_cases q : g = f
          · simp (decide := true) only [q, and_self, ↓reduceIte]
          · simp only [q, and_false, false_and, ↓reduceIte]
            exact t3
        · simp (decide := true) only [e_un] at g0
          simp (decide := true) only [e_un, e_ur]
          rw [if_neg (by omega)]
          exact s2 g g0 g1
        · simp (decide := true) only [e_un]
          exact s3 g g0 g1
      · simp (decide := true) only [e_un, e_us]
      · rw [e_us]
        rfl
    · rw [if_neg hw, if_neg hw]
      exact ⟨2, 32, _, _, rfl, rfl, ⟨hR.thr.thr, hS.thr.thr⟩, e_us, fun q => absurd q (by decide)⟩
  · rw [if_neg hf, if_neg hf]
    exact ⟨1, 32, _, _, rfl, rfl, ⟨hR.thr, hS.thr⟩, e_us, fun q => absurd q (by decide)⟩
end
/-! part 71ub04 -/
section
/-! The sections' columns: section -/
def zpl (x : Int) : Int := if x = 119 then 3 else if x = 108 then 2 else if x = 116 then 1 else if x = 45 then 0 else -1
theorem q_level {x : Int} {S : ZS} : v_x_levelOf x S = zpl x := by
  unfold v_x_levelOf zpl
  simp only [zb_n]
theorem q_mlevel {x : Int} {S : ZS} : v_m_premiereOf x S = zpl x := by
  unfold v_m_premiereOf zpl
  simp only [zb_n]
theorem zpl_r {x : Int} : zpl x = -1 ∨ 0 ≤ zpl x := by
  unfold zpl
  repeat' split
  all_goals omega
abbrev zSec (x1 x2 x3 x4 x5 : Int) : Prop := (1 ≤ x1 ∧ x1 ≤ 9) ∧ (1 ≤ x2 ∧ x2 ≤ 2000) ∧ (0 ≤ x3 ∧ x3 ≤ 100) ∧ (x4 = 45 ∨ x4 = 102 ∨ x4 = 115 ∨ x4 = 100) ∧ zpl x5 ≠ -1
theorem q_wsection {x1 x2 x3 x4 x5 : Int} {c : ZS} (a1 : 0 ≤ c r_x_sectionCount 0 0 0) (a2 : c r_x_sectionCount 0 0 0 ≤ 5) : f_w_section [x1, x2, x3, x4, x5] c = if zSec x1 x2 x3 x4 x5 then (if c r_x_sectionCount 0 0 0 = 5 then ((0, [2]), c) else ((0, [0]), e_upd (e_upd (e_upd (e_upd (e_upd (e_upd (e_upd c r_Section_quota (c r_x_sectionCount 0 0 0) 0 0 x1) r_Section_budget (c r_x_sectionCount 0 0 0) 0 0 x2) r_Section_least (c r_x_sectionCount 0 0 0) 0 0 x3) r_Section_form (c r_x_sectionCount 0 0 0) 0 0 x4) r_Section_premiere (c r_x_sectionCount 0 0 0) 0 0 (zpl x5)) r_x_sectionCount 0 0 0 (c r_x_sectionCount 0 0 0 + 1)) r_out 0 0 0 (c r_x_sectionCount 0 0 0))) else ((0, [1]), c) := by
  show e_try (f_x_section [x1, x2, x3, x4, x5] c) (fun v1 S1 => ((0, [0]), e_upd S1 r_out 0 0 0 v1)) [(1, 1), (2, 2)] = _
  unfold f_x_section f_Section_begin
  simp only [zb_n, zb_d, q_within, q_isForm, q_level, e_bnd0]
  have hw : e_wr (c r_x_sectionCount 0 0 0 + 1) = c r_x_sectionCount 0 0 0 + 1 := e_wr_id (by omega) (by omega)
  have hw2 : e_wr (c r_x_sectionCount 0 0 0 + 1 - 1) = c r_x_sectionCount 0 0 0 := by rw [e_wr_id (by omega) (by omega), Int.add_sub_cancel]
  by_cases h1 : 1 ≤ x1 ∧ x1 ≤ 9
  · by_cases h2 : 1 ≤ x2 ∧ x2 ≤ 2000
    · by_cases h3 : 0 ≤ x3 ∧ x3 ≤ 100
      · by_cases h5 : zpl x5 = -1
        · rw [if_neg (fun q : zSec x1 x2 x3 x4 x5 => q.2.2.2.2 h5)]
          simp (decide := true) only [if_pos h1, if_pos h2, if_pos h3, h5, ↓reduceIte, ite_self, Int.reduceEq]
          repeat' split
          all_goals rfl
        · by_cases h4 : x4 = 45 ∨ x4 = 102 ∨ x4 = 115 ∨ x4 = 100
          · rw [if_pos (show zSec x1 x2 x3 x4 x5 from ⟨h1, h2, h3, h4, h5⟩)]
            by_cases hn : c r_x_sectionCount 0 0 0 = 5
            · rw [if_pos hn]
              rcases h4 with h4 | h4
              · simp (decide := true) only [if_pos h1, if_pos h2, if_pos h3, h4, h5, hn, ↓reduceIte, Int.reduceEq]
                rfl
              · simp (decide := true) only [if_pos h1, if_pos h2, if_pos h3, if_pos h4, if_neg (show ¬ x4 = 45 by omega), h5, hn, ↓reduceIte, Int.reduceEq]
                rfl
            · rw [if_neg hn]
              rcases h4 with h4 | h4
              · simp (decide := true) only [if_pos h1, if_pos h2, if_pos h3, h4, h5, if_pos (show c r_x_sectionCount 0 0 0 < 5 by omega), ↓reduceIte, Int.reduceEq, e_un, e_us, hw, hw2]
                rfl
              · simp (decide := true) only [if_pos h1, if_pos h2, if_pos h3, if_pos h4, if_neg (show ¬ x4 = 45 by omega), h5, if_pos (show c r_x_sectionCount 0 0 0 < 5 by omega), ↓reduceIte, Int.reduceEq, e_un, e_us, hw, hw2]
                rfl
          · rw [if_neg (fun q : zSec x1 x2 x3 x4 x5 => h4 q.2.2.2.1)]
            simp (decide := true) only [if_pos h1, if_pos h2, if_pos h3, if_neg (show ¬ (x4 = 102 ∨ x4 = 115 ∨ x4 = 100) by omega), if_neg (show ¬ x4 = 45 by omega), ↓reduceIte, Int.reduceEq]
            rfl
      · rw [if_neg (fun q : zSec x1 x2 x3 x4 x5 => h3 q.2.2.1)]
        simp (decide := true) only [if_pos h1, if_pos h2, if_neg h3, ↓reduceIte, Int.reduceEq]
        rfl
    · rw [if_neg (fun q : zSec x1 x2 x3 x4 x5 => h2 q.2.1)]
      simp (decide := true) only [if_pos h1, if_neg h2, ↓reduceIte, Int.reduceEq]
      rfl
  · rw [if_neg (fun q : zSec x1 x2 x3 x4 x5 => h1 q.1)]
    simp (decide := true) only [if_neg h1, ↓reduceIte, Int.reduceEq]
    rfl
theorem q_msection {x1 x2 x3 x4 x5 : Int} {m : ZS} (a1 : 0 ≤ m r_m_sectionMany 0 0 0) (a2 : m r_m_sectionMany 0 0 0 ≤ 5) : f_m_section [x1, x2, x3, x4, x5] m = if zSec x1 x2 x3 x4 x5 then (if m r_m_sectionMany 0 0 0 = 5 then ((0, [0]), e_upd (e_upd m r_m_thrown 0 0 0 0) r_m_thrown 0 0 0 2) else ((0, [m r_m_sectionMany 0 0 0]), e_upd (e_upd (e_upd (e_upd (e_upd (e_upd (e_upd (e_upd (e_upd m r_m_thrown 0 0 0 0) r_m_thrown 0 0 0 0) r_m_quotas 0 0 (m r_m_sectionMany 0 0 0) x1) r_m_budgets 0 0 (m r_m_sectionMany 0 0 0) x2) r_m_leasts 0 0 (m r_m_sectionMany 0 0 0) x3) r_m_sectionForms 0 0 (m r_m_sectionMany 0 0 0) x4) r_m_premieres 0 0 (m r_m_sectionMany 0 0 0) (zpl x5)) r_m_rules 0 0 (m r_m_sectionMany 0 0 0) 109) r_m_sectionMany 0 0 0 (m r_m_sectionMany 0 0 0 + 1))) else ((0, [0]), e_upd m r_m_thrown 0 0 0 1) := by
  unfold f_m_section
  simp only [zb_n, zb_d, q_isIn, q_misForm, q_mlevel]
  have hw : e_wr (m r_m_sectionMany 0 0 0 + 1) = m r_m_sectionMany 0 0 0 + 1 := e_wr_id (by omega) (by omega)
  have hw2 : e_wr (m r_m_sectionMany 0 0 0 + 1 - 1) = m r_m_sectionMany 0 0 0 := by rw [e_wr_id (by omega) (by omega), Int.add_sub_cancel]
  have hr : e_nar 2 109 = 109 := by decide
  by_cases h1 : 1 ≤ x1 ∧ x1 ≤ 9
  · by_cases h2 : 1 ≤ x2 ∧ x2 ≤ 2000
    · by_cases h3 : 0 ≤ x3 ∧ x3 ≤ 100
      · by_cases h5 : zpl x5 = -1
        · rw [if_neg (fun q : zSec x1 x2 x3 x4 x5 => q.2.2.2.2 h5)]
          simp (decide := true) only [if_pos h1, if_pos h2, if_pos h3, h5, ↓reduceIte, ite_self, Int.reduceEq]
        · have h6 : ¬ zpl x5 < 0 := by have := zpl_r (x := x5); omega
          by_cases h4 : x4 = 45 ∨ x4 = 102 ∨ x4 = 115 ∨ x4 = 100
          · have hc : e_nar 2 x4 = x4 := e_nc (by omega) (by omega)
            rw [if_pos (show zSec x1 x2 x3 x4 x5 from ⟨h1, h2, h3, h4, h5⟩)]
            by_cases hn : m r_m_sectionMany 0 0 0 = 5
            · rw [if_pos hn]
              rcases h4 with h4 | h4
              · simp (decide := true) only [if_pos h1, if_pos h2, if_pos h3, h4, h6, hn, ↓reduceIte, Int.reduceEq]
              · simp (decide := true) only [if_pos h1, if_pos h2, if_pos h3, if_pos h4, h6, hn, ↓reduceIte, Int.reduceEq]
            · rw [if_neg hn]
              by_cases h4' : x4 = 102 ∨ x4 = 115 ∨ x4 = 100
              · simp (decide := true) only [if_pos h1, if_pos h2, if_pos h3, if_pos h4', h6, hn, hc, hr, ↓reduceIte, Int.reduceEq, e_un, e_us, hw, hw2]
              · simp (decide := true) only [if_pos h1, if_pos h2, if_pos h3, if_neg h4', if_pos (show x4 = 45 by omega), h6, hn, hc, hr, ↓reduceIte, Int.reduceEq, e_un, e_us, hw, hw2]
          · rw [if_neg (fun q : zSec x1 x2 x3 x4 x5 => h4 q.2.2.2.1)]
            simp (decide := true) only [if_pos h1, if_pos h2, if_pos h3, if_neg (show ¬ (x4 = 102 ∨ x4 = 115 ∨ x4 = 100) by omega), if_neg (show ¬ x4 = 45 by omega), ↓reduceIte, Int.reduceEq]
      · rw [if_neg (fun q : zSec x1 x2 x3 x4 x5 => h3 q.2.2.1)]
        simp (decide := true) only [if_pos h1, if_pos h2, if_neg h3, ↓reduceIte, Int.reduceEq]
    · rw [if_neg (fun q : zSec x1 x2 x3 x4 x5 => h2 q.2.1)]
      simp (decide := true) only [if_pos h1, if_neg h2, ↓reduceIte, Int.reduceEq]
  · rw [if_neg (fun q : zSec x1 x2 x3 x4 x5 => h1 q.1)]
    simp (decide := true) only [if_neg h1, ↓reduceIte, Int.reduceEq]
end
/-! part 71ub05 -/
section
/-! The sections' columns: the relation, section -/
def zSe (c m : ZS) : Prop := (0 ≤ c r_x_sectionCount 0 0 0 ∧ c r_x_sectionCount 0 0 0 ≤ 5 ∧ m r_m_sectionMany 0 0 0 = c r_x_sectionCount 0 0 0) ∧ ∀ s, 0 ≤ s → s < c r_x_sectionCount 0 0 0 → m r_m_quotas 0 0 s = c r_Section_quota s 0 0 ∧ m r_m_budgets 0 0 s = c r_Section_budget s 0 0 ∧ m r_m_leasts 0 0 s = c r_Section_least s 0 0 ∧ m r_m_sectionForms 0 0 s = c r_Section_form s 0 0 ∧ m r_m_premieres 0 0 s = c r_Section_premiere s 0 0
def zSeC : List Nat := [r_x_sectionCount, r_Section_quota, r_Section_budget, r_Section_least, r_Section_form, r_Section_premiere]
def zSeM : List Nat := [r_m_sectionMany, r_m_quotas, r_m_budgets, r_m_leasts, r_m_sectionForms, r_m_premieres]
theorem zSe_rel : zRel zSe zSeC zSeM := fun {c m c' m'} h hc hm => by
  unfold zSe
  rw [hc r_x_sectionCount (by decide), hc r_Section_quota (by decide), hc r_Section_budget (by decide), hc r_Section_least (by decide), hc r_Section_form (by decide), hc r_Section_premiere (by decide), hm r_m_sectionMany (by decide), hm r_m_quotas (by decide), hm r_m_budgets (by decide), hm r_m_leasts (by decide), hm r_m_sectionForms (by decide), hm r_m_premieres (by decide)]
  exact h
theorem zSe.out {c m : ZS} (h : zSe c m) {z : Int} : zSe (e_upd c r_out 0 0 0 z) m := zSe_rel.uc h (by decide)
theorem zSe.thr {c m : ZS} (h : zSe c m) {z : Int} : zSe c (e_upd m r_m_thrown 0 0 0 z) := zSe_rel.um h (by decide)
theorem oS_section {x1 x2 x3 x4 x5 : Int} {c m : ZS} (h : zSe c m) : zBo zSe (f_w_section [x1, x2, x3, x4, x5] c) (f_m_section [x1, x2, x3, x4, x5] m) := by
  obtain ⟨⟨a1, a2, a3⟩, hs⟩ := id h
  rw [q_wsection a1 a2, q_msection (by omega) (by omega), a3]
  split
  · split
    · exact ⟨2, 0, _, _, rfl, rfl, h.thr.thr, e_us, fun q => absurd q (by decide)⟩
    · refine ⟨0, _, _, _, rfl, rfl, zSe.out ⟨?_, fun s s0 s1 => ?_⟩, ?_, fun _ => e_us⟩
      · simp (decide := true) only [e_us]
        exact ⟨by omega, by omega, trivial⟩
      · simp (decide := true) only [e_us, e_un] at s1
        simp (decide := true) only [e_un, e_ur]
        by_cases q : s = c r_x_sectionCount 0 0 0
        · simp (decide := true) only [q, and_self, ↓reduceIte]
        · simp only [q, and_false, false_and, ↓reduceIte]
          exact hs s s0 (by omega)
      · simp (decide := true) only [e_un, e_us]
  · exact ⟨1, 0, _, _, rfl, rfl, h.thr, e_us, fun q => absurd q (by decide)⟩
/-- two relations together: what the one says, and that the regions of the other stay -/
theorem zBo.keepL {R R' : ZS → ZS → Prop} {KC KM : List Nat} (hr : zRel R KC KM) {nv nv' : Nat} {W W' : List Nat} {φ φ' : ZFn} (h : z_kp nv W φ) (h' : z_kp nv' W' φ') {L : List Int} (hL : L.length = nv) (hL' : L.length = nv') (hd : z_dis W KC = true) (hd' : z_dis W' KM = true) {c m : ZS} (hR : R c m) (hB : zBo R' (φ L c) (φ' L m)) : zBo (zAnd R R') (φ L c) (φ' L m) := by
  obtain ⟨k, v, c', m', e1, e2, h1, h2, h3⟩ := hB
  exact ⟨k, v, c', m', e1, e2, ⟨hr hR (fun r hq => by
    have := h.r hL (S := c) (by rw [e1]) (z_dis_ok hd hq)
    rw [e1] at this
    exact this) (fun r hq => by
    have := h'.r hL' (S := m) (by rw [e2]) (z_dis_ok hd' hq)
    rw [e2] at this
    exact this), h1⟩, h2, h3⟩
end
/-! part 71ub06 -/
section
/-! The archive: the class's ring and the model's row that moves up -/
theorem e_an {S : ZS} {r r' ρ : Nat} {x y sp x' y' dp n i j k : Int} (h : (ρ == r') = false) : e_acp S r x y sp r' x' y' dp n ρ i j k = S ρ i j k := if_neg fun q => by
  rw [q.1, beq_self_eq_true] at h
  cases h
theorem e_as {S : ZS} {r r' : Nat} {x y sp x' y' dp n k : Int} : e_acp S r x y sp r' x' y' dp n r' x' y' k = if dp ≤ k ∧ k < dp + n then S r x y (k - dp + sp) else S r' x' y' k := by
  unfold e_acp
  by_cases h : dp ≤ k ∧ k < dp + n
  · rw [if_pos ⟨rfl, rfl, rfl, h⟩, if_pos h]
  · rw [if_neg (fun q => h q.2.2.2), if_neg h]
def zix (p : Int) : Int := if p < 0 then p + 400 else p
def zAr (c m : ZS) : Prop := (0 ≤ c r_Archive_lineCount 0 0 0 ∧ c r_Archive_lineCount 0 0 0 ≤ 400 ∧ m r_m_lineMany 0 0 0 = c r_Archive_lineCount 0 0 0) ∧ (0 ≤ c r_Archive_next 0 0 0 ∧ c r_Archive_next 0 0 0 < 400 ∧ (c r_Archive_lineCount 0 0 0 < 400 → c r_Archive_next 0 0 0 = c r_Archive_lineCount 0 0 0)) ∧ ∀ i, 0 ≤ i → i < c r_Archive_lineCount 0 0 0 → m r_m_letters 0 0 i = c r_Archive_letters 0 0 (zix (c r_Archive_next 0 0 0 + i - c r_Archive_lineCount 0 0 0)) ∧ m r_m_lineFilms 0 0 i = c r_Archive_filmOf 0 0 (zix (c r_Archive_next 0 0 0 + i - c r_Archive_lineCount 0 0 0))
def zArC : List Nat := [r_Archive_lineCount, r_Archive_next, r_Archive_letters, r_Archive_filmOf]
def zArM : List Nat := [r_m_lineMany, r_m_letters, r_m_lineFilms]
theorem zAr_rel : zRel zAr zArC zArM := fun {c m c' m'} h hc hm => by
  unfold zAr
  rw [hc r_Archive_lineCount (by decide), hc r_Archive_next (by decide), hc r_Archive_letters (by decide), hc r_Archive_filmOf (by decide), hm r_m_lineMany (by decide), hm r_m_letters (by decide), hm r_m_lineFilms (by decide)]
  exact h
theorem q_next {x : Int} (h0 : 0 ≤ x) (h1 : x < 400) : e_wr ((e_wr (x + 1)) - e_wr (e_div (e_wr (x + 1)) 400 * 400)) = if x = 399 then 0 else x + 1 := by
  rw [e_wr_id (x := x + 1) (by omega) (by omega)]
  unfold e_div
  rw [Int.tdiv_eq_ediv_of_nonneg (by omega)]
  by_cases q : x = 399
  · subst q
    decide
  · have : (x + 1) / 400 = 0 := by omega
    rw [this, if_neg q, e_wr_id (x := (0 : Int)) (by omega) (by omega), Int.zero_mul, e_wr_id (x := (0 : Int)) (by omega) (by omega), Int.sub_zero, e_wr_id (by omega) (by omega)]
theorem q_add {l f : Int} {c : ZS} (n0 : 0 ≤ c r_Archive_lineCount 0 0 0) (n1 : c r_Archive_lineCount 0 0 0 ≤ 400) (x0 : 0 ≤ c r_Archive_next 0 0 0) (x1 : c r_Archive_next 0 0 0 < 400) : f_Archive_add [l, f] c = ((0, []), e_upd (e_upd (e_upd (e_upd c r_Archive_letters 0 0 (c r_Archive_next 0 0 0) (e_nar 2 l)) r_Archive_filmOf 0 0 (c r_Archive_next 0 0 0) f) r_Archive_next 0 0 0 (if c r_Archive_next 0 0 0 = 399 then 0 else c r_Archive_next 0 0 0 + 1)) r_Archive_lineCount 0 0 0 (if c r_Archive_lineCount 0 0 0 = 400 then 400 else c r_Archive_lineCount 0 0 0 + 1)) := by
  unfold f_Archive_add
  dsimp only
  rw [q_next x0 x1, e_wr_id (x := c r_Archive_lineCount 0 0 0 + 1) (by omega) (by omega)]
  by_cases q : c r_Archive_lineCount 0 0 0 = 400
  · rw [if_pos (show 400 < c r_Archive_lineCount 0 0 0 + 1 by omega), if_pos q]
  · rw [if_neg (show ¬ 400 < c r_Archive_lineCount 0 0 0 + 1 by omega), if_neg q]
theorem q_writes {l f : Int} {m : ZS} (n0 : 0 ≤ m r_m_lineMany 0 0 0) (n1 : m r_m_lineMany 0 0 0 ≤ 400) : f_m_writes [l, f] m = ((0, []), if m r_m_lineMany 0 0 0 = 400 then e_upd (e_upd (e_upd (e_upd (e_acp (e_acp m r_m_letters 0 0 1 r_m_letters 0 0 0 399) r_m_lineFilms 0 0 1 r_m_lineFilms 0 0 0 399) r_m_lineMany 0 0 0 399) r_m_letters 0 0 399 (e_nar 2 l)) r_m_lineFilms 0 0 399 f) r_m_lineMany 0 0 0 400 else e_upd (e_upd (e_upd m r_m_letters 0 0 (m r_m_lineMany 0 0 0) (e_nar 2 l)) r_m_lineFilms 0 0 (m r_m_lineMany 0 0 0) f) r_m_lineMany 0 0 0 (m r_m_lineMany 0 0 0 + 1)) := by
  unfold f_m_writes
  simp only [zb_n]
  by_cases q : m r_m_lineMany 0 0 0 = 400
  · rw [if_pos q, if_pos q]
    simp (decide := true) only [e_us, e_un, e_an, q, e_wr_id, Int.reduceSub, Int.reduceAdd]
  · rw [if_neg q, if_neg q, e_wr_id (by omega) (by omega)]
theorem s_add {l f : Int} {c m : ZS} (h : zAr c m) : zAr (f_Archive_add [l, f] c).2 (f_m_writes [l, f] m).2 := by
  obtain ⟨⟨a1, a2, a3⟩, ⟨b1, b2, b3⟩, s⟩ := h
  rw [q_add a1 a2 b1 b2, q_writes (by omega) (by omega), a3]
  by_cases q : c r_Archive_lineCount 0 0 0 = 400
  · rw [q] at s
    rw [if_pos q]
    refine ⟨?_, ?_, fun i i0 i1 => ?_⟩
    · simp (decide := true) only [e_us, q, ↓reduceIte]
    · refine ⟨?_, ?_, fun z => absurd z ?_⟩
      · simp (decide := true) only [e_us, e_un]
        split <;> omega
      · simp (decide := true) only [e_us, e_un]
        split <;> omega
      · simp (decide := true) only [e_us, e_un, q, ↓reduceIte]
    · simp (decide := true) only [e_us, e_un, q, ↓reduceIte] at i1
      simp (decide := true) only [e_us, e_un, e_ur, e_an, e_as, q, ↓reduceIte, true_and]
      by_cases w : i = 399
      · subst w
        have : zix ((if c r_Archive_next 0 0 0 = 399 then 0 else c r_Archive_next 0 0 0 + 1) + 399 - 400) = c r_Archive_next 0 0 0 := by
          unfold zix
          split <;> split <;> omega
        rw [this]
        simp (decide := true) only [↓reduceIte]
      · have e : zix ((if c r_Archive_next 0 0 0 = 399 then 0 else c r_Archive_next 0 0 0 + 1) + i - 400) = zix (c r_Archive_next 0 0 0 + (i + 1) - 400) := by
          unfold zix
          split <;> split <;> split <;> omega
        have e2 : zix (c r_Archive_next 0 0 0 + (i + 1) - 400) ≠ c r_Archive_next 0 0 0 := by
          unfold zix
          split <;> omega
        rw [e, if_neg e2, if_neg e2, if_neg w, if_neg w, if_pos (by omega), if_pos (by omega), Int.sub_zero]
        exact s (i + 1) (by omega) (by omega)
  · have hx := b3 (by omega)
    rw [if_neg q]
    refine ⟨?_, ?_, fun i i0 i1 => ?_⟩
    · simp (decide := true) only [e_us, q, ↓reduceIte]
      exact ⟨by omega, by omega, trivial⟩
    · refine ⟨?_, ?_, fun z => ?_⟩
      · simp (decide := true) only [e_us, e_un]
        split <;> omega
      · simp (decide := true) only [e_us, e_un]
        split <;> omega
      · simp (decide := true) only [e_us, e_un, q, ↓reduceIte] at z ⊢
        split <;> omega
    · simp (decide := true) only [e_us, e_un, q, ↓reduceIte] at i1
      simp (decide := true) only [e_us, e_un, e_ur, q, ↓reduceIte, true_and]
      have e : zix ((if c r_Archive_next 0 0 0 = 399 then 0 else c r_Archive_next 0 0 0 + 1) + i - (c r_Archive_lineCount 0 0 0 + 1)) = i := by
        unfold zix
        split <;> split <;> omega
      rw [e, hx]
      by_cases w : i = c r_Archive_lineCount 0 0 0
      · simp only [if_pos w, and_self]
      · rw [if_neg w, if_neg w, if_neg w, if_neg w]
        have := s i i0 (by omega)
        rw [hx, show c r_Archive_lineCount 0 0 0 + i - c r_Archive_lineCount 0 0 0 = i by omega, show zix i = i from if_neg (by omega)] at this
        exact this
end
/-! part 71ub07 -/
section
/-! sectionOf, giveUp -/
theorem zAr.out {c m : ZS} (h : zAr c m) {z : Int} : zAr (e_upd c r_out 0 0 0 z) m := zAr_rel.uc h (by decide)
theorem zAr.thr {c m : ZS} (h : zAr c m) {z : Int} : zAr c (e_upd m r_m_thrown 0 0 0 z) := zAr_rel.um h (by decide)
theorem q_writes0 {l f : Int} {m : ZS} (n0 : 0 ≤ m r_m_lineMany 0 0 0) (n1 : m r_m_lineMany 0 0 0 ≤ 400) : f_m_writes [l, f] m = ((0, []), (f_m_writes [l, f] m).2) := by
  rw [q_writes n0 n1]
theorem q_add0 {l f : Int} {c : ZS} : f_Archive_add [l, f] c = ((0, []), (f_Archive_add [l, f] c).2) := rfl
theorem q_writes_o {l f : Int} {m : ZS} (n0 : 0 ≤ m r_m_lineMany 0 0 0) (n1 : m r_m_lineMany 0 0 0 ≤ 400) {r : Nat} (hr : zArM.contains r = false) : (f_m_writes [l, f] m).2 r = m r := by
  funext i j k
  have h1 : (r == r_m_lineMany) = false := by
    cases e : r == r_m_lineMany with
    | false => rfl
    | true => rw [beq_iff_eq] at e; rw [e] at hr; exact absurd hr (by decide)
  have h2 : (r == r_m_letters) = false := by
    cases e : r == r_m_letters with
    | false => rfl
    | true => rw [beq_iff_eq] at e; rw [e] at hr; exact absurd hr (by decide)
  have h3 : (r == r_m_lineFilms) = false := by
    cases e : r == r_m_lineFilms with
    | false => rfl
    | true => rw [beq_iff_eq] at e; rw [e] at hr; exact absurd hr (by decide)
  rw [q_writes n0 n1]
  dsimp only
  split
  · rw [e_un h1, e_un h3, e_un h2, e_un h1, e_an h3, e_an h2]
  · rw [e_un h1, e_un h3, e_un h2]
theorem q_add_o {l f : Int} {c : ZS} {r : Nat} (hr : zArC.contains r = false) : (f_Archive_add [l, f] c).2 r = c r := by
  funext i j k
  have h1 : (r == r_Archive_lineCount) = false := by
    cases e : r == r_Archive_lineCount with
    | false => rfl
    | true => rw [beq_iff_eq] at e; rw [e] at hr; exact absurd hr (by decide)
  have h2 : (r == r_Archive_letters) = false := by
    cases e : r == r_Archive_letters with
    | false => rfl
    | true => rw [beq_iff_eq] at e; rw [e] at hr; exact absurd hr (by decide)
  have h3 : (r == r_Archive_filmOf) = false := by
    cases e : r == r_Archive_filmOf with
    | false => rfl
    | true => rw [beq_iff_eq] at e; rw [e] at hr; exact absurd hr (by decide)
  have h4 : (r == r_Archive_next) = false := by
    cases e : r == r_Archive_next with
    | false => rfl
    | true => rw [beq_iff_eq] at e; rw [e] at hr; exact absurd hr (by decide)
  show e_upd _ _ _ _ _ _ r i j k = _
  rw [e_un h1, e_un h4, e_un h3, e_un h2]
/-- an entry of the archive leaves every other relation as it is -/
theorem zRel.add {R : ZS → ZS → Prop} {KC KM : List Nat} (hr : zRel R KC KM) (hC : (KC.all fun r => !zArC.contains r) = true) (hM : (KM.all fun r => !zArM.contains r) = true) {l f : Int} {c m : ZS} (n0 : 0 ≤ m r_m_lineMany 0 0 0) (n1 : m r_m_lineMany 0 0 0 ≤ 400) (h : R c m) : R (f_Archive_add [l, f] c).2 (f_m_writes [l, f] m).2 := hr h (fun r hq => q_add_o (by have := List.all_eq_true.mp hC r hq; simpa using this)) (fun r hq => q_writes_o n0 n1 (by have := List.all_eq_true.mp hM r hq; simpa using this))
end
/-! part 71ub08 -/
section
/-! sectionOf, giveUp -/
theorem oB_sectionOf {f : Int} {c m : ZS} (h : zAnd zR zFs c m) : zBo (zAnd zR zFs) (f_w_sectionOf [f] c) (f_m_sectionOf [f] m) := by
  obtain ⟨hR, hS⟩ := h
  obtain ⟨⟨a1, a2, a3⟩, -⟩ := id hR
  show zBo _ (e_try (f_x_sectionOf [f] c) (fun v1 S1 => ((0, [0]), e_upd S1 r_out 0 0 0 v1)) [(0, 1), (4, 2)]) _
  unfold f_x_sectionOf f_m_sectionOf
  dsimp only
  rw [q_film a1 (by omega), q_noFilm (by omega) (by omega), a3]
  by_cases hf : 0 ≤ f ∧ f < c r_x_filmCount 0 0 0
  · have e4 := (hS.1 f hf.1 hf.2).2.2.2
    have e5 := (hS.2.2 f hf.1 (by omega)).2
    rw [if_pos hf, if_pos hf, e_b_ok]
    simp only [zb_n, zb_d, e4]
    by_cases q : c r_Film_section f 0 0 = -1
    · simp (decide := true) only [q, ↓reduceIte]
      exact ⟨2, 0, _, _, rfl, rfl, ⟨hR.thr.thr, hS.thr.thr⟩, e_us, fun q => absurd q (by decide)⟩
    · simp (decide := true) only [q, if_pos (show 0 ≤ c r_Film_section f 0 0 by omega), ↓reduceIte]
      exact ⟨0, _, _, _, rfl, rfl, ⟨hR.thr.thr.out, hS.thr.thr.out⟩, e_us, fun _ => e_us⟩
  · rw [if_neg hf, if_neg hf, e_b_x (by decide) (by decide)]
    simp (decide := true) only [zb_n, zb_d, ↓reduceIte]
    exact ⟨1, 0, _, _, rfl, rfl, ⟨hR.thr, hS.thr⟩, e_us, fun q => absurd q (by decide)⟩
theorem oB_giveUp {f : Int} {c m : ZS} (h : zAnd (zAnd zR zFs) zAr c m) : zBo (zAnd (zAnd zR zFs) zAr) (f_w_giveUp [f] c) (f_m_giveUp [f] m) := by
  obtain ⟨⟨hR, hS⟩, hA⟩ := h
  obtain ⟨⟨a1, a2, a3⟩, -⟩ := id hR
  obtain ⟨⟨n0, n1, n2⟩, -⟩ := id hA
  show zBo _ (e_try (f_x_giveUp [f] c) (fun v1 S1 => ((0, [0]), e_upd S1 r_out 0 0 0 v1)) [(0, 1), (3, 2)]) _
  unfold f_x_giveUp f_m_giveUp
  dsimp only
  rw [q_film a1 (by omega), q_noFilm (by omega) (by omega), a3]
  by_cases hf : 0 ≤ f ∧ f < c r_x_filmCount 0 0 0
  · have e4 := (hS.2.2 f hf.1 (by omega)).1
    rw [if_pos hf, if_pos hf, e_b_ok]
    simp only [zb_n, zb_d, e4]
    by_cases q : c r_Film_promise f 0 0 = 0
    · simp (decide := true) only [q, ↓reduceIte]
      exact ⟨2, 32, _, _, rfl, rfl, ⟨⟨hR.thr.thr, hS.thr.thr⟩, hA.thr.thr⟩, e_us, fun q => absurd q (by decide)⟩
    · simp (decide := true) only [q, ↓reduceIte]
      rw [q_add0, q_writes0 (by simp (decide := true) only [e_un]; omega) (by simp (decide := true) only [e_un]; omega), e_b_ok, e_b_ok]
      have k0 : (0 : Int) ≤ (e_upd (e_upd (e_upd m r_m_thrown 0 0 0 0) r_m_thrown 0 0 0 0) r_m_promises 0 0 f 0) r_m_lineMany 0 0 0 := by simp (decide := true) only [e_un]; omega
      have k1 : (e_upd (e_upd (e_upd m r_m_thrown 0 0 0 0) r_m_thrown 0 0 0 0) r_m_promises 0 0 f 0) r_m_lineMany 0 0 0 ≤ 400 := by simp (decide := true) only [e_un]; omega
      refine ⟨0, _, _, _, rfl, rfl, ⟨⟨?_, ?_⟩, ?_⟩, ?_, fun _ => ?_⟩
      · exact zR.out (zR_rel.add (by decide) (by decide) k0 k1 (zR_rel.uc (zR_rel.um hR.thr.thr (by decide)) (by decide)))
      · refine zFs.out (zFs_rel.add (by decide) (by decide) k0 k1 ?_)
        obtain ⟨s1, s2, s3⟩ := hS
        refine ⟨fun g g0 g1 => ?_, fun g g0 g1 => ?_, fun g g0 g1 => ?_⟩
        · simp (decide := true) only [e_un] at g1 ⊢
          exact s1 g g0 g1
        · simp (decide := true) only [e_un] at g0 ⊢
          exact s2 g g0 g1
        · simp (decide := true) only [e_un, e_ur]
          by_cases w : g = f
          · simp (decide := true) only [w, and_self, ↓reduceIte, true_and]
            exact (s3 f hf.1 (by omega)).2
          · simp only [w, and_false, false_and, ↓reduceIte]
            exact s3 g g0 g1
      · exact zAr.out (s_add (zAr_rel.uc (zAr_rel.um hA.thr.thr (by decide)) (by decide)))
      · rw [q_writes_o k0 k1 (by decide)]
        simp (decide := true) only [e_un, e_us]
      · rw [e_us]
        rfl
  · rw [if_neg hf, if_neg hf, e_b_x (by decide) (by decide)]
    simp (decide := true) only [zb_n, zb_d, ↓reduceIte]
    exact ⟨1, 32, _, _, rfl, rfl, ⟨⟨hR.thr, hS.thr⟩, hA.thr⟩, e_us, fun q => absurd q (by decide)⟩
end
