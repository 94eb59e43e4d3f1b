/-! part 71u01 -/
section
/-! Tools for the states: arithmetic, writes, loops that count or choose -/
theorem e_wr_id {x : Int} (h1 : -2147483648 ≤ x) (h2 : x ≤ 2147483647) : e_wr x = x := b_bm h1 h2
theorem e_us {S : ZS} {r : Nat} {i j k z : Int} : e_upd S r i j k z r i j k = z := if_pos ⟨rfl, rfl, rfl, rfl⟩
theorem e_ur {S : ZS} {r : Nat} {i j k z i' j' k' : Int} : e_upd S r i j k z r i' j' k' = if i' = i ∧ j' = j ∧ k' = k then z else S r i' j' k' := by
  unfold e_upd
  by_cases c : i' = i ∧ j' = j ∧ k' = k
  · rw [if_pos c, if_pos ⟨rfl, c⟩]
  · rw [if_neg c, if_neg (fun q => c q.2)]
theorem e_nb0 : e_nar 1 0 = 0 := by decide
theorem e_nb1 : e_nar 1 1 = 1 := by decide
theorem e_nc {x : Int} (h1 : 0 ≤ x) (h2 : x ≤ 65535) : e_nar 2 x = x := by
  have hx : x.bmod (2 ^ 32) = x := b_bm (by omega) (by omega)
  show (Int32.ofInt x).toUInt32.toUInt16.toUInt32.toInt32.toInt = x
  have e1 : (Int32.ofInt x).toInt = x := by rw [Int32.toInt_ofInt]; exact hx
  have e2 : (Int32.ofInt x).toUInt32.toNat = x.toNat := by
    have : (Int32.ofInt x).toUInt32.toNat = (Int32.ofInt x).toBitVec.toNat := rfl
    have k : (Int32.ofInt x).toInt = (Int32.ofInt x).toBitVec.toInt := rfl
    rw [BitVec.toInt_eq_toNat_cond] at k
    have lt : (Int32.ofInt x).toBitVec.toNat < 4294967296 := (Int32.ofInt x).toBitVec.isLt
    rw [this]
    split at k <;> omega
  have e3 : (Int32.ofInt x).toUInt32.toUInt16.toUInt32.toNat = x.toNat := by
    rw [UInt16.toNat_toUInt32, UInt32.toNat_toUInt16, e2]
    omega
  have e4 : (Int32.ofInt x).toUInt32.toUInt16.toUInt32.toInt32.toInt = ((Int32.ofInt x).toUInt32.toUInt16.toUInt32.toNat : Int) := by
    have k : ∀ y : UInt32, y.toNat < 65536 → y.toInt32.toInt = (y.toNat : Int) := fun y hy => by
      have : y.toInt32.toInt = y.toBitVec.toInt := rfl
      rw [this, BitVec.toInt_eq_toNat_cond, if_pos]
      · rfl
      · have : y.toBitVec.toNat = y.toNat := rfl
        omega
    exact k _ (by rw [e3]; omega)
  rw [e4, e3]
  omega
/-- how many of j from k on -/
def zcnt (p : Int → Bool) : Nat → Int → Int
  | 0, _ => 0
  | j + 1, k => (if p k = true then 1 else 0) + zcnt p j (k + 1)
theorem zcnt_cg {p q : Int → Bool} : ∀ (j : Nat) (k : Int), (∀ i, k ≤ i → i < k + j → p i = q i) → zcnt p j k = zcnt q j k
  | 0, _, _ => rfl
  | j + 1, k, h => by rw [zcnt, zcnt, h k (Int.le_refl _) (by omega), zcnt_cg j (k + 1) (fun i a b => h i (by omega) (by omega))]
theorem zcnt_le (p : Int → Bool) : ∀ (j : Nat) (k : Int), 0 ≤ zcnt p j k ∧ zcnt p j k ≤ j
  | 0, _ => ⟨Int.le_refl _, Int.le_refl _⟩
  | j + 1, k => by
    have := zcnt_le p j (k + 1)
    rw [zcnt]
    split <;> omega
theorem zcnt_pos {p : Int → Bool} : ∀ (j : Nat) (k : Int), 0 < zcnt p j k → ∃ i, k ≤ i ∧ i < k + j ∧ p i = true
  | 0, k, h => absurd h (by rw [zcnt]; omega)
  | j + 1, k, h => by
    cases e : p k with
    | true => exact ⟨k, Int.le_refl _, by omega, e⟩
    | false =>
      rw [zcnt, e, if_neg (by decide), Int.zero_add] at h
      obtain ⟨i, i1, i2, i3⟩ := zcnt_pos j (k + 1) h
      exact ⟨i, by omega, by omega, i3⟩
theorem zcnt_one {p : Int → Bool} {b : Int} (hb : p b = true) : ∀ (j : Nat) (k : Int), k ≤ b → b < k + j → zcnt p j k = zcnt (fun i => p i && decide (i ≠ b)) j k + 1
  | 0, k, h1, h2 => by omega
  | j + 1, k, h1, h2 => by
    rw [zcnt, zcnt]
    by_cases e : k = b
    · subst e
      rw [hb, if_pos rfl, if_neg (by simp)]
      have := zcnt_cg (p := p) (q := fun i => p i && decide (i ≠ k)) j (k + 1) (fun i a c => by
        have : i ≠ k := by omega
        simp [this])
      rw [this]
      omega
    · have ih := zcnt_one hb j (k + 1) (by omega) (by omega)
      have e2 : (p k && decide (k ≠ b)) = p k := by simp [e]
      rw [ih, e2]
      omega
/-- a loop that counts -/
theorem zl_cnt {n : Int} {p : Int → Bool} {fin : Int → ZR} {G : Int → Int → ZR} (hE : ∀ m k, k = n → G m k = fin m) (hG : ∀ m k, 0 ≤ k → k < n → 0 ≤ m → m ≤ k → G m k = if p k = true then G (m + 1) (k + 1) else G m (k + 1)) : ∀ (j : Nat) (m k : Int), 0 ≤ k → k + j = n → 0 ≤ m → m ≤ k → G m k = fin (m + zcnt p j k)
  | 0, m, k, h1, h2, h3, h4 => by rw [hE m k (by omega), zcnt, Int.add_zero]
  | j + 1, m, k, h1, h2, h3, h4 => by
    rw [hG m k h1 (by omega) h3 h4, zcnt]
    split
    · rw [zl_cnt hE hG j (m + 1) (k + 1) (by omega) (by omega) (by omega) (by omega)]
      congr 1
      omega
    · rw [zl_cnt hE hG j m (k + 1) (by omega) (by omega) (by omega) (by omega)]
      congr 1
      omega
/-- the first with the least w of those that p allows; b: who leads so far -/
def zbest (p : Int → Bool) (w : Int → Int) : Nat → Int → Int → Int
  | 0, _, b => b
  | j + 1, k, b => zbest p w j (k + 1) (if p k = true then (if b < 0 then k else if w k < w b then k else b) else b)
theorem zbest_lt {p : Int → Bool} {w : Int → Int} : ∀ (j : Nat) (k b : Int), 0 ≤ k → -1 ≤ b → b < k → -1 ≤ zbest p w j k b ∧ zbest p w j k b < k + j
  | 0, k, b, h0, h1, h2 => by rw [zbest]; omega
  | j + 1, k, b, h0, h1, h2 => by
    rw [zbest]
    have := zbest_lt (p := p) (w := w) j (k + 1) (if p k = true then (if b < 0 then k else if w k < w b then k else b) else b) (by omega) (by (repeat' split) <;> omega) (by (repeat' split) <;> omega)
    omega
theorem zbest_nn {p : Int → Bool} {w : Int → Int} : ∀ (j : Nat) (k b : Int), 0 ≤ k → (0 ≤ b ∨ ∃ i, k ≤ i ∧ i < k + j ∧ p i = true) → 0 ≤ zbest p w j k b
  | 0, k, b, h0, h => by
    rw [zbest]
    rcases h with h | ⟨i, i1, i2, -⟩ <;> omega
  | j + 1, k, b, h0, h => by
    rw [zbest]
    apply zbest_nn j (k + 1) _ (by omega)
    rcases h with h | ⟨i, i1, i2, i3⟩
    · left
      (repeat' split) <;> omega
    · by_cases e : i = k
      · subst e
        left
        rw [if_pos i3]
        (repeat' split) <;> omega
      · exact Or.inr ⟨i, by omega, by omega, i3⟩
theorem zbest_p {p : Int → Bool} {w : Int → Int} : ∀ (j : Nat) (k b : Int), (b < 0 ∨ p b = true) → zbest p w j k b < 0 ∨ p (zbest p w j k b) = true
  | 0, k, b, h => by rw [zbest]; exact h
  | j + 1, k, b, h => by
    rw [zbest]
    apply zbest_p j (k + 1)
    split
    · rename_i e
      (repeat' split) <;> first | exact Or.inr e | exact h
    · exact h
theorem zbest_cg {p q : Int → Bool} {w v : Int → Int} : ∀ (j : Nat) (k b : Int), 0 ≤ k → (∀ i, 0 ≤ i → i < k + j → p i = q i ∧ w i = v i) → b < k → zbest p w j k b = zbest q v j k b
  | 0, _, _, _, _, _ => rfl
  | j + 1, k, b, h0, h, hb => by
    rw [zbest, zbest, (h k h0 (by omega)).1, (h k h0 (by omega)).2]
    by_cases c : b < 0
    · rw [if_pos c, if_pos c]
      exact zbest_cg j (k + 1) _ (by omega) (fun i a a2 => h i a (by omega)) (by (repeat' split) <;> omega)
    · rw [if_neg c, if_neg c, (h b (by omega) (by omega)).2]
      exact zbest_cg j (k + 1) _ (by omega) (fun i a a2 => h i a (by omega)) (by (repeat' split) <;> omega)
/-- a sum -/
def zsum (w : Int → Int) : Nat → Int → Int
  | 0, _ => 0
  | j + 1, k => w k + zsum w j (k + 1)
theorem zsum_cg {v w : Int → Int} : ∀ (j : Nat) (k : Int), (∀ i, k ≤ i → i < k + j → v i = w i) → zsum v j k = zsum w j k
  | 0, _, _ => rfl
  | j + 1, k, h => by rw [zsum, zsum, h k (Int.le_refl _) (by omega), zsum_cg j (k + 1) (fun i a b => h i (by omega) (by omega))]
theorem zsum_le {w : Int → Int} {lo hi : Int} : ∀ (j : Nat) (k : Int), (∀ i, k ≤ i → i < k + j → lo ≤ w i ∧ w i ≤ hi) → lo * j ≤ zsum w j k ∧ zsum w j k ≤ hi * j
  | 0, _, _ => by rw [zsum]; omega
  | j + 1, k, h => by
    have h1 := h k (Int.le_refl _) (by omega)
    have h2 := zsum_le (w := w) (lo := lo) (hi := hi) j (k + 1) (fun i a b => h i (by omega) (by omega))
    rw [zsum]
    have e1 : lo * ((j + 1 : Nat) : Int) = lo * j + lo := by rw [Int.natCast_add, Int.mul_add]; simp
    have e2 : hi * ((j + 1 : Nat) : Int) = hi * j + hi := by rw [Int.natCast_add, Int.mul_add]; simp
    omega
theorem zsum_app {w : Int → Int} : ∀ (j : Nat) (k : Int), zsum w (j + 1) k = zsum w j k + w (k + j)
  | 0, k => by simp [zsum]
  | j + 1, k => by
    rw [zsum, zsum_app j (k + 1), zsum]
    have : k + 1 + (j : Int) = k + ((j + 1 : Nat) : Int) := by omega
    rw [this]
    omega
theorem zcnt_app {p : Int → Bool} : ∀ (j : Nat) (k : Int), zcnt p (j + 1) k = zcnt p j k + (if p (k + j) = true then 1 else 0)
  | 0, k => by simp [zcnt]
  | j + 1, k => by
    rw [zcnt, zcnt_app j (k + 1), zcnt]
    have : k + 1 + (j : Int) = k + ((j + 1 : Nat) : Int) := by omega
    rw [this]
    omega
/-- one place is told anew -/
theorem zsum_upd {w : Int → Int} {b z : Int} : ∀ (j : Nat) (k : Int), k ≤ b → b < k + j → zsum (fun i => if i = b then z else w i) j k = zsum w j k - w b + z
  | 0, k, h1, h2 => by omega
  | j + 1, k, h1, h2 => by
    rw [zsum, zsum]
    by_cases e : k = b
    · subst e
      rw [if_pos rfl, zsum_cg (v := fun i => if i = k then z else w i) (w := w) j (k + 1) (fun i a c => if_neg (by omega))]
      omega
    · rw [if_neg e, zsum_upd j (k + 1) (by omega) (by omega)]
      omega
end
/-! part 71u02 -/
section
/-! Dealing, reading: what the methods say -/
theorem zb_n {α : Type} {p : Prop} [Decidable p] {a b : α} : (bif !decide p then a else b) = if p then b else a := by
  by_cases h : p <;> simp [h]
theorem zb_d {α : Type} {p : Prop} [Decidable p] {a b : α} : (bif decide p then a else b) = if p then a else b := by
  by_cases h : p <;> simp [h]
theorem q_within {x a b : Int} {S : ZS} : v_x_isWithin x a b S = if a ≤ x ∧ x ≤ b then 1 else 0 := by
  unfold v_x_isWithin
  simp only [zb_d]
  repeat' split
  all_goals first | rfl | omega
theorem q_isIn {x a b : Int} {S : ZS} : v_m_isIn x a b S = if a ≤ x ∧ x ≤ b then 1 else 0 := by
  unfold v_m_isIn
  simp only [zb_d]
  repeat' split
  all_goals first | rfl | omega
theorem q_num {x n : Int} {S : ZS} (h0 : 0 ≤ n) (h1 : n ≤ 1000) : f_x_checkNumber [x, n] S = if 0 ≤ x ∧ x < n then ((0, []), S) else ((1, []), S) := by
  show (bif !decide (v_x_isWithin x 0 (e_wr (n - 1)) S = 0) then _ else _) = _
  rw [zb_n, q_within, e_wr_id (by omega) (by omega)]
  repeat' split
  all_goals first | rfl | omega
theorem e_b_ok {l : List Int} {S : ZS} {k : Int → ZS → ZR} : e_bind ((0, l), S) k = k (l.getD 0 0) S := rfl
theorem e_b_x {c : Nat} {S : ZS} {k : Int → ZS → ZR} (h : c ≠ 0) (h2 : c < 1000) : e_bind ((c, []), S) k = ((c, []), S) := by
  unfold e_bind
  have : (c == 0) = false := by simpa using h
  rw [this]
  show ((c % 1000, []), S) = _
  rw [Nat.mod_eq_of_lt h2]
theorem e_b_if {p : Prop} [Decidable p] {A B : ZR} {k : Int → ZS → ZR} : e_bind (if p then A else B) k = if p then e_bind A k else e_bind B k := by split <;> rfl
theorem q_film {f : Int} {S : ZS} (h0 : 0 ≤ S r_x_filmCount 0 0 0) (h1 : S r_x_filmCount 0 0 0 ≤ 1000) : f_x_checkFilm [f] S = if 0 ≤ f ∧ f < S r_x_filmCount 0 0 0 then ((0, []), S) else ((1, []), S) := by
  show e_bind (f_x_checkNumber [f, S r_x_filmCount 0 0 0] S) (fun _ S1 => ((0, []), S1)) = _
  rw [q_num h0 h1, e_b_if]
  rfl
theorem q_reader {k : Int} {S : ZS} (h0 : 0 ≤ S r_Readings_readerCount 0 0 0) (h1 : S r_Readings_readerCount 0 0 0 ≤ 1000) : f_x_checkReader [k] S = if 0 ≤ k ∧ k < S r_Readings_readerCount 0 0 0 then ((0, []), S) else ((1, []), S) := by
  show e_bind (f_x_checkNumber [k, S r_Readings_readerCount 0 0 0] S) (fun _ S1 => ((0, []), S1)) = _
  rw [q_num h0 h1, e_b_if]
  rfl
theorem q_noFilm {f : Int} {S : ZS} (h0 : 0 ≤ S r_m_films 0 0 0) (h1 : S r_m_films 0 0 0 ≤ 1000) : v_m_isNoFilm f S = if 0 ≤ f ∧ f < S r_m_films 0 0 0 then 0 else 1 := by
  unfold v_m_isNoFilm
  rw [zb_n, q_isIn, e_wr_id (by omega) (by omega)]
  repeat' split
  all_goals first | rfl | omega
theorem q_noReader {f k : Int} {S : ZS} (h0 : 0 ≤ S r_m_films 0 0 0) (h1 : S r_m_films 0 0 0 ≤ 1000) (h2 : 0 ≤ S r_m_readers 0 0 0) (h3 : S r_m_readers 0 0 0 ≤ 1000) : f_m_isNoReader [f, k] S = if (0 ≤ f ∧ f < S r_m_films 0 0 0) ∧ 0 ≤ k ∧ k < S r_m_readers 0 0 0 then ((0, [0]), e_upd S r_m_thrown 0 0 0 0) else ((0, [1]), e_upd S r_m_thrown 0 0 0 1) := by
  show (bif !decide (v_m_isNoFilm f S = 0) then _ else (bif !decide (v_m_isIn k 0 (e_wr (S r_m_readers 0 0 0 - 1)) S = 0) then _ else _)) = _
  rw [zb_n, zb_n, q_noFilm h0 h1, q_isIn, e_wr_id (by omega) (by omega)]
  repeat' split
  all_goals first | rfl | omega
/-! who may read -/
def dpF (S : ZS) (f l k : Int) : Bool := decide (S r_Readings_lands 0 0 k ≠ l) && decide (S r_Readings_marks_r f 0 k = -2)
def pM (S : ZS) (f k : Int) : Bool := decide (S r_m_readerLands 0 0 k ≠ S r_m_lands 0 0 f) && decide (S r_m_areDealt_r f 0 k = 0)
theorem q_isFree {f l k : Int} {S : ZS} : v_Readings_isFree f l k S = if dpF S f l k = true then 1 else 0 := by
  unfold v_Readings_isFree dpF
  rw [zb_d, zb_n]
  repeat' split
  all_goals simp_all
theorem q_mayRead {f k : Int} {S : ZS} : v_m_mayRead f k S = if pM S f k = true then 1 else 0 := by
  unfold v_m_mayRead pM
  rw [zb_d, zb_n]
  repeat' split
  all_goals simp_all
theorem q_countFree {f l : Int} {S : ZS} (h0 : 0 ≤ S r_Readings_readerCount 0 0 0) (h1 : S r_Readings_readerCount 0 0 0 ≤ 8) : f_Readings_countFree [f, l] S = ((0, [zcnt (dpF S f l) (S r_Readings_readerCount 0 0 0).toNat 0]), S) := by
  show g_Readings_countFree ((1000, [f, l]), S) = _
  rw [g_Readings_countFree_0]
  refine (zl_cnt (n := S r_Readings_readerCount 0 0 0) (p := dpF S f l) (fin := fun m => ((0, [m]), S)) (G := fun m k => g_Readings_countFree ((1005, [f, l, m, k]), S)) (fun m k hk => ?_) (fun m k k1 k2 m1 m2 => ?_) (S r_Readings_readerCount 0 0 0).toNat 0 0 (by omega) (by omega) (by omega) (by omega)).trans ?_
  · rw [g_Readings_countFree_5, zb_d, if_pos (by omega)]
  · rw [g_Readings_countFree_5, zb_d, if_neg (by omega), zb_d, q_isFree, e_wr_id (by omega) (by omega), e_wr_id (by omega) (by omega)]
    cases dpF S f l k <;> rfl
  · rw [Int.zero_add]
theorem q_countDealt {f : Int} {S : ZS} (h0 : 0 ≤ S r_Readings_readerCount 0 0 0) (h1 : S r_Readings_readerCount 0 0 0 ≤ 8) : f_Readings_countDealt [f] S = ((0, [zcnt (fun k => decide (S r_Readings_marks_r f 0 k ≠ -2)) (S r_Readings_readerCount 0 0 0).toNat 0]), S) := by
  show g_Readings_countDealt ((1000, [f]), S) = _
  rw [g_Readings_countDealt_0]
  refine (zl_cnt (n := S r_Readings_readerCount 0 0 0) (p := fun k => decide (S r_Readings_marks_r f 0 k ≠ -2)) (fin := fun m => ((0, [m]), S)) (G := fun m k => g_Readings_countDealt ((1004, [f, m, k]), S)) (fun m k hk => ?_) (fun m k k1 k2 m1 m2 => ?_) (S r_Readings_readerCount 0 0 0).toNat 0 0 (by omega) (by omega) (by omega) (by omega)).trans ?_
  · rw [g_Readings_countDealt_4, zb_d, if_pos (by omega)]
  · rw [g_Readings_countDealt_4, zb_d, if_neg (by omega), zb_d, e_wr_id (by omega) (by omega), e_wr_id (by omega) (by omega)]
    by_cases c : S r_Readings_marks_r f 0 k = -2 <;> simp [c]
  · rw [Int.zero_add]
theorem q_countTold {f : Int} {S : ZS} (h0 : 0 ≤ S r_Readings_readerCount 0 0 0) (h1 : S r_Readings_readerCount 0 0 0 ≤ 8) : f_Readings_countTold [f] S = ((0, [zcnt (fun k => decide (0 ≤ S r_Readings_marks_r f 0 k)) (S r_Readings_readerCount 0 0 0).toNat 0]), S) := by
  show g_Readings_countTold ((1000, [f]), S) = _
  rw [g_Readings_countTold_0]
  refine (zl_cnt (n := S r_Readings_readerCount 0 0 0) (p := fun k => decide (0 ≤ S r_Readings_marks_r f 0 k)) (fin := fun m => ((0, [m]), S)) (G := fun m k => g_Readings_countTold ((1004, [f, m, k]), S)) (fun m k hk => ?_) (fun m k k1 k2 m1 m2 => ?_) (S r_Readings_readerCount 0 0 0).toNat 0 0 (by omega) (by omega) (by omega) (by omega)).trans ?_
  · rw [g_Readings_countTold_4, zb_d, if_pos (by omega)]
  · rw [g_Readings_countTold_4, zb_d, if_neg (by omega), zb_d, e_wr_id (by omega) (by omega), e_wr_id (by omega) (by omega)]
    by_cases c : S r_Readings_marks_r f 0 k < 0
    · rw [if_pos c, if_neg (by simp; omega)]
    · rw [if_neg c, if_pos (by simp; omega)]
  · rw [Int.zero_add]
theorem q_scoreMany {f : Int} {S : ZS} (h0 : 0 ≤ S r_m_readers 0 0 0) (h1 : S r_m_readers 0 0 0 ≤ 8) : f_m_scoreMany [f] S = ((0, [zcnt (fun k => decide (0 ≤ S r_m_scores_r f 0 k)) (S r_m_readers 0 0 0).toNat 0]), S) := by
  show g_m_scoreMany ((1000, [f]), S) = _
  rw [g_m_scoreMany_0]
  refine (zl_cnt (n := S r_m_readers 0 0 0) (p := fun k => decide (0 ≤ S r_m_scores_r f 0 k)) (fin := fun m => ((0, [m]), S)) (G := fun m k => g_m_scoreMany ((1004, [f, m, k]), S)) (fun m k hk => ?_) (fun m k k1 k2 m1 m2 => ?_) (S r_m_readers 0 0 0).toNat 0 0 (by omega) (by omega) (by omega) (by omega)).trans ?_
  · rw [g_m_scoreMany_4, zb_d, if_pos (by omega)]
  · rw [g_m_scoreMany_4, zb_d, if_neg (by omega), zb_d, Int.add_zero, e_wr_id (x := m) (by omega) (by omega), e_wr_id (by omega) (by omega), e_wr_id (by omega) (by omega)]
    by_cases c : S r_m_scores_r f 0 k < 0
    · rw [if_pos c, if_neg (by simp; omega)]
    · rw [if_neg c, if_pos (by simp; omega)]
  · rw [Int.zero_add]
end
/-! part 71u03 -/
section
/-! Dealing on both sides -/
theorem zl_best {n : Int} {p : Int → Bool} {w : Int → Int} {fin : Int → ZR} {G : Int → Int → ZR} (hE : ∀ b k, k = n → -1 ≤ b → b < k → G b k = fin b) (hG : ∀ b k, 0 ≤ k → k < n → -1 ≤ b → b < k → G b k = G (if p k = true then (if b < 0 then k else if w k < w b then k else b) else b) (k + 1)) : ∀ (j : Nat) (b k : Int), 0 ≤ k → k + j = n → -1 ≤ b → b < k → G b k = fin (zbest p w j k b)
  | 0, b, k, h1, h2, h3, h4 => by rw [hE b k (by omega) h3 h4, zbest]
  | j + 1, b, k, h1, h2, h3, h4 => by
    rw [hG b k h1 (by omega) h3 h4, zbest]
    exact zl_best hE hG j _ (k + 1) (by omega) (by omega) (by (repeat' split) <;> omega) (by (repeat' split) <;> omega)
def bF (S : ZS) (f l : Int) : Int := zbest (dpF S f l) (fun k => S r_Readings_dealtFilms 0 0 k) (S r_Readings_readerCount 0 0 0).toNat 0 (-1)
def sF (f l : Int) (S : ZS) : ZS := if bF S f l = -1 then S else e_upd (e_upd S r_Readings_marks_r f 0 (bF S f l) (-1)) r_Readings_dealtFilms 0 0 (bF S f l) (e_wr (S r_Readings_dealtFilms 0 0 (bF S f l) + 1))
theorem q_dealOnce {f l : Int} {S : ZS} (h0 : 0 ≤ S r_Readings_readerCount 0 0 0) (h1 : S r_Readings_readerCount 0 0 0 ≤ 8) : f_Readings_dealOnce [f, l] S = ((0, []), sF f l S) := by
  show g_Readings_dealOnce ((1000, [f, l]), S) = _
  rw [g_Readings_dealOnce_0]
  refine (zl_best (n := S r_Readings_readerCount 0 0 0) (p := dpF S f l) (w := fun k => S r_Readings_dealtFilms 0 0 k) (fin := fun b => ((0, []), if b = -1 then S else e_upd (e_upd S r_Readings_marks_r f 0 b (-1)) r_Readings_dealtFilms 0 0 b (e_wr (S r_Readings_dealtFilms 0 0 b + 1)))) (G := fun b k => g_Readings_dealOnce ((1005, [f, l, b, k]), S)) (fun b k hk _ _ => ?_) (fun b k k1 k2 m1 m2 => ?_) (S r_Readings_readerCount 0 0 0).toNat (-1) 0 (by omega) (by omega) (by omega) (by omega))
  · rw [g_Readings_dealOnce_5, zb_d, if_pos (by omega), zb_d]
    split <;> rfl
  · rw [g_Readings_dealOnce_5, zb_d, if_neg (by omega), zb_d, zb_d, zb_d, q_isFree, e_wr_id (x := k + 1) (by omega) (by omega)]
    cases dpF S f l k with
    | false => rfl
    | true =>
      rw [if_neg (by decide), if_pos rfl]
      by_cases c : b = -1
      · rw [if_pos c, if_pos (by omega)]
      · rw [if_neg c, if_neg (show ¬ b < 0 by omega)]
        by_cases d : S r_Readings_dealtFilms 0 0 b ≤ S r_Readings_dealtFilms 0 0 k
        · rw [if_pos d, if_neg (by omega)]
        · rw [if_neg d, if_pos (by omega)]
def bM (S : ZS) (f : Int) : Int := zbest (pM S f) (fun k => S r_m_dealtMany 0 0 k) (S r_m_readers 0 0 0).toNat 0 (-1)
def dsM (f : Int) (S : ZS) : ZS := e_upd (e_upd S r_m_areDealt_r f 0 (bM S f) 1) r_m_dealtMany 0 0 (bM S f) (e_wr (S r_m_dealtMany 0 0 (bM S f) + 1))
theorem q_mdealOnce {f n i : Int} {S : ZS} (h0 : 0 ≤ S r_m_readers 0 0 0) (h1 : S r_m_readers 0 0 0 ≤ 8) (i0 : 0 ≤ i) (i1 : i < 1000) : g_m_deal ((1111, [f, n, i, -1, 0]), S) = g_m_deal ((1099, [f, n, i + 1]), dsM f S) := by
  refine (zl_best (n := S r_m_readers 0 0 0) (p := pM S f) (w := fun k => S r_m_dealtMany 0 0 k) (fin := fun b => g_m_deal ((1099, [f, n, i + 1]), e_upd (e_upd S r_m_areDealt_r f 0 b 1) r_m_dealtMany 0 0 b (e_wr (S r_m_dealtMany 0 0 b + 1)))) (G := fun b k => g_m_deal ((1111, [f, n, i, b, k]), S)) (fun b k hk _ _ => ?_) (fun b k k1 k2 m1 m2 => ?_) (S r_m_readers 0 0 0).toNat (-1) 0 (by omega) (by omega) (by omega) (by omega))
  · rw [g_m_deal_111, zb_d, if_pos (by omega), e_nb1, e_wr_id (x := i + 1) (by omega) (by omega)]
  · rw [g_m_deal_111, zb_d, if_neg (by omega), zb_d, zb_d, zb_d, q_mayRead, e_wr_id (x := k + 1) (by omega) (by omega)]
    cases pM S f k with
    | false => rfl
    | true =>
      rw [if_neg (by decide), if_pos rfl]
      by_cases c : b < 0
      · rw [if_pos c, if_pos c]
      · rw [if_neg c, if_neg c]
        by_cases d : S r_m_dealtMany 0 0 b ≤ S r_m_dealtMany 0 0 k
        · rw [if_pos d, if_neg (by omega)]
        · rw [if_neg d, if_pos (by omega)]
/-! Many dealings -/
def zit (s : ZS → ZS) : Nat → ZS → ZS
  | 0, S => S
  | t + 1, S => zit s t (s S)
theorem sF_n {f l : Int} {S : ZS} : (sF f l S) r_Readings_readerCount 0 0 0 = S r_Readings_readerCount 0 0 0 := by
  unfold sF
  split
  · rfl
  · rw [e_un (by decide), e_un (by decide)]
theorem q_dealLoop {f n l : Int} (n1 : n ≤ 8) : ∀ (t : Nat) (i : Int) (S : ZS), 0 ≤ i → i + t = n → 0 ≤ S r_Readings_readerCount 0 0 0 → S r_Readings_readerCount 0 0 0 ≤ 8 → g_x_deal ((1061, [f, n, l, i]), S) = ((0, [zcnt (fun k => decide (zit (sF f l) t S r_Readings_marks_r f 0 k ≠ -2)) (S r_Readings_readerCount 0 0 0).toNat 0]), zit (sF f l) t S)
  | 0, i, S, h1, h2, h3, h4 => by
    rw [g_x_deal_61, zb_d, if_pos (by omega), q_countDealt h3 h4]
    rfl
  | t + 1, i, S, h1, h2, h3, h4 => by
    rw [g_x_deal_61, zb_d, if_neg (by omega), q_dealOnce h3 h4, e_wr_id (by omega) (by omega)]
    show g_x_deal ((1061, [f, n, l, i + 1]), sF f l S) = _
    rw [q_dealLoop n1 t (i + 1) (sF f l S) (by omega) (by omega) (by rw [sF_n]; exact h3) (by rw [sF_n]; exact h4), sF_n]
    rfl
theorem sM_n {f : Int} {S : ZS} : (dsM f S) r_m_readers 0 0 0 = S r_m_readers 0 0 0 := by
  unfold dsM
  rw [e_un (by decide), e_un (by decide)]
theorem q_mHave {f : Int} {S : ZS} (h0 : 0 ≤ S r_m_readers 0 0 0) (h1 : S r_m_readers 0 0 0 ≤ 8) : g_m_deal ((1200, [f, 0, 0]), S) = ((0, [zcnt (fun k => decide (S r_m_areDealt_r f 0 k ≠ 0)) (S r_m_readers 0 0 0).toNat 0]), S) := by
  refine (zl_cnt (n := S r_m_readers 0 0 0) (p := fun k => decide (S r_m_areDealt_r f 0 k ≠ 0)) (fin := fun m => ((0, [m]), S)) (G := fun m k => g_m_deal ((1200, [f, m, k]), S)) (fun m k hk => ?_) (fun m k k1 k2 m1 m2 => ?_) (S r_m_readers 0 0 0).toNat 0 0 (by omega) (by omega) (by omega) (by omega)).trans ?_
  · rw [g_m_deal_200, zb_d, if_pos (by omega)]
  · rw [g_m_deal_200, zb_d, if_neg (by omega), zb_d, Int.add_zero, e_wr_id (x := m) (by omega) (by omega), e_wr_id (by omega) (by omega), e_wr_id (by omega) (by omega)]
    by_cases c : S r_m_areDealt_r f 0 k = 0 <;> simp [c]
  · rw [Int.zero_add]
theorem q_mdealLoop {f n : Int} (n1 : n ≤ 8) : ∀ (t : Nat) (i : Int) (S : ZS), 0 ≤ i → i + t = n → 0 ≤ S r_m_readers 0 0 0 → S r_m_readers 0 0 0 ≤ 8 → g_m_deal ((1099, [f, n, i]), S) = ((0, [zcnt (fun k => decide (zit (dsM f) t S r_m_areDealt_r f 0 k ≠ 0)) (S r_m_readers 0 0 0).toNat 0]), zit (dsM f) t S)
  | 0, i, S, h1, h2, h3, h4 => by
    rw [g_m_deal_99, zb_d, if_pos (by omega), q_mHave h3 h4]
    rfl
  | t + 1, i, S, h1, h2, h3, h4 => by
    rw [g_m_deal_99, zb_d, if_neg (by omega), q_mdealOnce h3 h4 h1 (by omega), q_mdealLoop n1 t (i + 1) (dsM f S) (by omega) (by omega) (by rw [sM_n]; exact h3) (by rw [sM_n]; exact h4), sM_n]
    rfl
theorem q_mcan {f n : Int} {S : ZS} (h0 : 0 ≤ S r_m_readers 0 0 0) (h1 : S r_m_readers 0 0 0 ≤ 8) : g_m_deal ((1043, [f, n, 0, 0]), S) = (fun m => if n ≤ m then g_m_deal ((1099, [f, n, 0]), e_upd S r_m_thrown 0 0 0 0) else ((0, [0]), e_upd S r_m_thrown 0 0 0 3)) (zcnt (pM S f) (S r_m_readers 0 0 0).toNat 0) := by
  refine (zl_cnt (n := S r_m_readers 0 0 0) (p := pM S f) (fin := fun m => if n ≤ m then g_m_deal ((1099, [f, n, 0]), e_upd S r_m_thrown 0 0 0 0) else ((0, [0]), e_upd S r_m_thrown 0 0 0 3)) (G := fun m k => g_m_deal ((1043, [f, n, m, k]), S)) (fun m k hk => ?_) (fun m k k1 k2 m1 m2 => ?_) (S r_m_readers 0 0 0).toNat 0 0 (by omega) (by omega) (by omega) (by omega)).trans ?_
  · rw [g_m_deal_43, zb_d, if_pos (by omega), zb_d]
  · rw [g_m_deal_43, zb_d, if_neg (by omega), zb_d, Int.add_zero, q_mayRead, e_wr_id (x := m) (by omega) (by omega), e_wr_id (by omega) (by omega), e_wr_id (by omega) (by omega)]
    cases pM S f k <;> rfl
  · rw [Int.zero_add]
/-! The two sides beside each other: c holds the class, m the model -/
def zR (c m : ZS) : Prop := (0 ≤ c r_x_filmCount 0 0 0 ∧ c r_x_filmCount 0 0 0 ≤ 20 ∧ m r_m_films 0 0 0 = c r_x_filmCount 0 0 0) ∧ (0 ≤ c r_Readings_readerCount 0 0 0 ∧ c r_Readings_readerCount 0 0 0 ≤ 8 ∧ m r_m_readers 0 0 0 = c r_Readings_readerCount 0 0 0) ∧ (∀ k, 0 ≤ k → k < 8 → m r_m_readerLands 0 0 k = c r_Readings_lands 0 0 k) ∧ (∀ f, 0 ≤ f → f < c r_x_filmCount 0 0 0 → m r_m_lands 0 0 f = c r_Film_land f 0 0) ∧ (∀ f k, 0 ≤ f → f < 20 → 0 ≤ k → k < 8 → m r_m_areDealt_r f 0 k = if c r_Readings_marks_r f 0 k = -2 then 0 else 1) ∧ (∀ k, 0 ≤ k → k < 8 → m r_m_dealtMany 0 0 k = c r_Readings_dealtFilms 0 0 k) ∧ (∀ f k, 0 ≤ f → f < 20 → 0 ≤ k → k < 8 → (-2 ≤ c r_Readings_marks_r f 0 k ∧ c r_Readings_marks_r f 0 k ≤ 100) ∧ (c r_x_filmCount 0 0 0 ≤ f → c r_Readings_marks_r f 0 k = -2) ∧ (0 ≤ c r_Readings_marks_r f 0 k → m r_m_scores_r f 0 k = c r_Readings_marks_r f 0 k) ∧ (c r_Readings_marks_r f 0 k < 0 → f < c r_x_filmCount 0 0 0 → m r_m_scores_r f 0 k = -1)) ∧ ∀ k, 0 ≤ k → k < 8 → c r_Readings_toldScores 0 0 k = zcnt (fun f => decide (0 ≤ c r_Readings_marks_r f 0 k)) 20 0 ∧ c r_Readings_sums 0 0 k = zsum (fun f => if 0 ≤ c r_Readings_marks_r f 0 k then c r_Readings_marks_r f 0 k else 0) 20 0
/-- the regions that it speaks of -/
def zRC : List Nat := [r_x_filmCount, r_Readings_readerCount, r_Readings_lands, r_Film_land, r_Readings_marks_r, r_Readings_dealtFilms, r_Readings_toldScores, r_Readings_sums]
def zRM : List Nat := [r_m_films, r_m_readers, r_m_readerLands, r_m_lands, r_m_areDealt_r, r_m_dealtMany, r_m_scores_r]
theorem zR.cg {c m c' m' : ZS} (h : zR c m) (hc : ∀ r ∈ zRC, c' r = c r) (hm : ∀ r ∈ zRM, m' r = m r) : zR c' m' := by
  unfold zR
  rw [hc r_x_filmCount (by decide), hc r_Readings_readerCount (by decide), hc r_Readings_lands (by decide), hc r_Film_land (by decide), hc r_Readings_marks_r (by decide), hc r_Readings_dealtFilms (by decide), hc r_Readings_toldScores (by decide), hc r_Readings_sums (by decide), hm r_m_films (by decide), hm r_m_readers (by decide), hm r_m_readerLands (by decide), hm r_m_lands (by decide), hm r_m_areDealt_r (by decide), hm r_m_dealtMany (by decide), hm r_m_scores_r (by decide)]
  exact h
theorem zR.p {c m : ZS} (h : zR c m) {f : Int} (f0 : 0 ≤ f) (f1 : f < c r_x_filmCount 0 0 0) {k : Int} (k0 : 0 ≤ k) (k1 : k < 8) : pM m f k = dpF c f (c r_Film_land f 0 0) k := by
  obtain ⟨⟨a1, a2, a3⟩, b, l, fl, ad, -⟩ := h
  unfold pM dpF
  rw [l k k0 k1, fl f f0 f1, ad f k f0 (by omega) k0 k1]
  by_cases q : c r_Readings_marks_r f 0 k = -2 <;> simp [q]
theorem zR.b {c m : ZS} (h : zR c m) {f : Int} (f0 : 0 ≤ f) (f1 : f < c r_x_filmCount 0 0 0) : bM m f = bF c f (c r_Film_land f 0 0) := by
  have hp := fun k k0 k1 => h.p f0 f1 (k := k) k0 k1
  obtain ⟨-, ⟨b1, b2, b3⟩, -, -, -, dm, -⟩ := h
  unfold bM bF
  rw [b3]
  exact zbest_cg _ 0 (-1) (Int.le_refl _) (fun i i0 i1 => ⟨hp i i0 (by omega), dm i i0 (by omega)⟩) (by omega)
theorem zR.cnt {c m : ZS} (h : zR c m) {f : Int} (f0 : 0 ≤ f) (f1 : f < c r_x_filmCount 0 0 0) : zcnt (pM m f) (m r_m_readers 0 0 0).toNat 0 = zcnt (dpF c f (c r_Film_land f 0 0)) (c r_Readings_readerCount 0 0 0).toNat 0 := by
  have hp := fun k k0 k1 => h.p f0 f1 (k := k) k0 k1
  obtain ⟨-, ⟨b1, b2, b3⟩, -⟩ := h
  rw [b3]
  exact zcnt_cg _ 0 (fun i i0 i1 => hp i i0 (by omega))
theorem zR.dealOnce {c m : ZS} (h : zR c m) {f : Int} (f0 : 0 ≤ f) (f1 : f < c r_x_filmCount 0 0 0) (hn : 0 < zcnt (dpF c f (c r_Film_land f 0 0)) (c r_Readings_readerCount 0 0 0).toNat 0) : zR (sF f (c r_Film_land f 0 0) c) (dsM f m) ∧ (sF f (c r_Film_land f 0 0) c) r_x_filmCount 0 0 0 = c r_x_filmCount 0 0 0 ∧ (sF f (c r_Film_land f 0 0) c) r_Film_land f 0 0 = c r_Film_land f 0 0 ∧ zcnt (dpF (sF f (c r_Film_land f 0 0) c) f (c r_Film_land f 0 0)) (c r_Readings_readerCount 0 0 0).toNat 0 + 1 = zcnt (dpF c f (c r_Film_land f 0 0)) (c r_Readings_readerCount 0 0 0).toNat 0 := by
  have hb := h.b f0 f1
  obtain ⟨⟨a1, a2, a3⟩, ⟨b1, b2, b3⟩, l, fl, ad, dm, mk, ts⟩ := h
  have nn : 0 ≤ bF c f (c r_Film_land f 0 0) := zbest_nn _ 0 (-1) (Int.le_refl _) (Or.inr (zcnt_pos _ 0 hn))
  have lt := zbest_lt (p := dpF c f (c r_Film_land f 0 0)) (w := fun k => c r_Readings_dealtFilms 0 0 k) (c r_Readings_readerCount 0 0 0).toNat 0 (-1) (Int.le_refl _) (by omega) (by omega)
  have pb : dpF c f (c r_Film_land f 0 0) (bF c f (c r_Film_land f 0 0)) = true := (zbest_p (p := dpF c f (c r_Film_land f 0 0)) (w := fun k => c r_Readings_dealtFilms 0 0 k) (c r_Readings_readerCount 0 0 0).toNat 0 (-1) (Or.inl (by omega))).resolve_left (fun q => absurd q (by have : 0 ≤ bF c f (c r_Film_land f 0 0) := nn; unfold bF at this; omega))
  have lt2 : bF c f (c r_Film_land f 0 0) < c r_Readings_readerCount 0 0 0 := by
    have : bF c f (c r_Film_land f 0 0) < 0 + ((c r_Readings_readerCount 0 0 0).toNat : Int) := lt.2
    omega
  have eF : sF f (c r_Film_land f 0 0) c = e_upd (e_upd c r_Readings_marks_r f 0 (bF c f (c r_Film_land f 0 0)) (-1)) r_Readings_dealtFilms 0 0 (bF c f (c r_Film_land f 0 0)) (e_wr (c r_Readings_dealtFilms 0 0 (bF c f (c r_Film_land f 0 0)) + 1)) := by
    unfold sF
    rw [if_neg (by omega)]
  have eM : dsM f m = e_upd (e_upd m r_m_areDealt_r f 0 (bF c f (c r_Film_land f 0 0)) 1) r_m_dealtMany 0 0 (bF c f (c r_Film_land f 0 0)) (e_wr (m r_m_dealtMany 0 0 (bF c f (c r_Film_land f 0 0)) + 1)) := by
    unfold dsM
    rw [hb]
  rw [eF, eM]
  generalize hbb : bF c f (c r_Film_land f 0 0) = b at nn lt2 pb
  generalize hl : c r_Film_land f 0 0 = lnd at pb hn ⊢
  have mkb : c r_Readings_marks_r f 0 b = -2 := by
    unfold dpF at pb
    simp only [Bool.and_eq_true, decide_eq_true_eq] at pb
    exact pb.2
  have rd : ∀ g k : Int, (e_upd (e_upd c r_Readings_marks_r f 0 b (-1)) r_Readings_dealtFilms 0 0 b (e_wr (c r_Readings_dealtFilms 0 0 b + 1))) r_Readings_marks_r g 0 k = if g = f ∧ k = b then -1 else c r_Readings_marks_r g 0 k := fun g k => by
    rw [e_un (by decide), e_ur]
    by_cases q : g = f ∧ k = b
    · rw [if_pos q, if_pos ⟨q.1, rfl, q.2⟩]
    · rw [if_neg q, if_neg (fun z => q ⟨z.1, z.2.2⟩)]
  refine ⟨⟨?_, ?_, ?_, ?_, ?_, ?_, ?_, ?_⟩, ?_, ?_, ?_⟩
  · rw [e_un (by decide), e_un (by decide), e_un (by decide), e_un (by decide)]
    exact ⟨a1, a2, a3⟩
  · rw [e_un (by decide), e_un (by decide), e_un (by decide), e_un (by decide)]
    exact ⟨b1, b2, b3⟩
  · intro k k0 k1
    rw [e_un (by decide), e_un (by decide), e_un (by decide), e_un (by decide)]
    exact l k k0 k1
  · intro g g0 g1
    rw [e_un (by decide), e_un (by decide)] at g1
    rw [e_un (by decide), e_un (by decide), e_un (by decide), e_un (by decide)]
    exact fl g g0 g1
  · intro g k g0 g1 k0 k1
    rw [rd, e_un (by decide), e_ur]
    by_cases q : g = f ∧ k = b
    · rw [if_pos ⟨q.1, rfl, q.2⟩, if_pos q, if_neg (by decide)]
    · rw [if_neg (fun z => q ⟨z.1, z.2.2⟩), if_neg q]
      exact ad g k g0 g1 k0 k1
  · intro k k0 k1
    rw [e_ur, e_ur, e_un (by decide), e_un (by decide), dm k k0 k1, dm b nn (by omega)]
  · intro g k g0 g1 k0 k1
    rw [rd, e_un (by decide), e_un (by decide), e_un (by decide), e_un (by decide)]
    obtain ⟨m1, m2, m3, m4⟩ := mk g k g0 g1 k0 k1
    by_cases q : g = f ∧ k = b
    · rw [if_pos q]
      refine ⟨by omega, fun z => by omega, fun z => by omega, fun _ z => m4 (by rw [q.1, q.2, mkb]; decide) z⟩
    · rw [if_neg q]
      exact ⟨m1, m2, m3, m4⟩
  · intro k k0 k1
    rw [e_un (by decide), e_un (by decide), e_un (by decide), e_un (by decide), (ts k k0 k1).1, (ts k k0 k1).2]
    refine ⟨zcnt_cg 20 0 (fun i i0 i1 => ?_), zsum_cg 20 0 (fun i i0 i1 => ?_)⟩
    · rw [rd]
      by_cases q : i = f ∧ k = b
      · rw [if_pos q, q.1, q.2, mkb]
        rfl
      · rw [if_neg q]
    · rw [rd]
      by_cases q : i = f ∧ k = b
      · rw [if_pos q, q.1, q.2, mkb]
        rfl
      · rw [if_neg q]
  · rw [e_un (by decide), e_un (by decide)]
  · rw [e_un (by decide), e_un (by decide), hl]
  · rw [zcnt_one pb _ 0 nn (by omega)]
    congr 1
    refine zcnt_cg _ 0 (fun i i0 i1 => ?_)
    unfold dpF
    rw [rd, e_un (by decide), e_un (by decide)]
    by_cases q : i = b
    · subst q
      simp
    · rw [if_neg (fun z => q z.2)]
      simp [q]
theorem zR.deals {f l : Int} : ∀ (t : Nat) {c m : ZS}, zR c m → 0 ≤ f → f < c r_x_filmCount 0 0 0 → c r_Film_land f 0 0 = l → (t : Int) ≤ zcnt (dpF c f l) (c r_Readings_readerCount 0 0 0).toNat 0 → zR (zit (sF f l) t c) (zit (dsM f) t m)
  | 0, c, m, h, _, _, _, _ => h
  | t + 1, c, m, h, f0, f1, hl, ht => by
    subst hl
    obtain ⟨h1, h2, h3, h4⟩ := h.dealOnce f0 f1 (by omega)
    rw [zit, zit]
    exact zR.deals t h1 f0 (by rw [h2]; exact f1) h3 (by rw [sF_n]; omega)
theorem zit_n {f l : Int} : ∀ (t : Nat) (S : ZS), (zit (sF f l) t S) r_Readings_readerCount 0 0 0 = S r_Readings_readerCount 0 0 0
  | 0, S => rfl
  | t + 1, S => by rw [zit, zit_n t, sF_n]
theorem zit_nM {f : Int} : ∀ (t : Nat) (S : ZS), (zit (dsM f) t S) r_m_readers 0 0 0 = S r_m_readers 0 0 0
  | 0, S => rfl
  | t + 1, S => by rw [zit, zit_nM t, sM_n]
theorem sM_t {f : Int} : ∀ (t : Nat) (S : ZS), (zit (dsM f) t S) r_m_thrown 0 0 0 = S r_m_thrown 0 0 0
  | 0, S => rfl
  | t + 1, S => by
    rw [zit, sM_t t]
    unfold dsM
    rw [e_un (by decide), e_un (by decide)]
/-- how an operation goes on both sides -/
def zBoth (A B : ZR) : Prop := ∃ (k v : Int) (c' m' : ZS), A = ((0, [k]), c') ∧ B = ((0, [v]), m') ∧ zR c' m' ∧ m' r_m_thrown 0 0 0 = k ∧ (k = 0 → c' r_out 0 0 0 = v)
theorem zR.thr {c m : ZS} (h : zR c m) {z : Int} : zR c (e_upd m r_m_thrown 0 0 0 z) := h.cg (fun _ _ => rfl) (fun r hr => by
  funext i j k
  exact e_un (by
    simp only [zRM, List.mem_cons, List.not_mem_nil, or_false] at hr
    rcases hr with rfl | rfl | rfl | rfl | rfl | rfl | rfl <;> decide))
theorem zR.out {c m : ZS} (h : zR c m) {z : Int} : zR (e_upd c r_out 0 0 0 z) m := h.cg (fun r hr => by
  funext i j k
  exact e_un (by
    simp only [zRC, List.mem_cons, List.not_mem_nil, or_false] at hr
    rcases hr with rfl | rfl | rfl | rfl | rfl | rfl | rfl | rfl <;> decide)) (fun _ _ => rfl)
theorem o_deal {f n : Int} {c m : ZS} (h : zR c m) : zBoth (f_w_deal [f, n] c) (f_m_deal [f, n] m) := by
  obtain ⟨⟨a1, a2, a3⟩, ⟨b1, b2, b3⟩, -⟩ := id h
  show zBoth (e_try (g_x_deal ((1000, [f, n]), c)) (fun v1 S1 => ((0, [0]), e_upd S1 r_out 0 0 0 v1)) [(0, 1), (1, 2), (3, 3)]) (g_m_deal ((1000, [f, n]), m))
  rw [g_x_deal_0, q_film a1 (by omega), g_m_deal_0, q_noFilm (by omega) (by omega), a3, zb_n, zb_n, zb_n, q_isIn]
  by_cases hf : 0 ≤ f ∧ f < c r_x_filmCount 0 0 0
  · rw [if_pos hf, if_pos hf, if_pos rfl, e_b_ok, zb_n, q_within]
    by_cases hn : 1 ≤ n ∧ n ≤ 8
    · rw [if_pos hn, if_pos rfl, if_neg (by decide), if_neg (by decide), q_countFree b1 b2, e_b_ok, zb_d]
      rw [q_mcan (by rw [e_un (by decide), e_un (by decide), b3]; exact b1) (by rw [e_un (by decide), e_un (by decide), b3]; exact b2)]
      have hc := (h.thr.thr : zR c (e_upd (e_upd m r_m_thrown 0 0 0 0) r_m_thrown 0 0 0 0)).cnt hf.1 hf.2
      rw [hc]
      show zBoth (e_try (if n ≤ zcnt _ _ _ then _ else _) _ _) (if n ≤ zcnt _ _ _ then _ else _)
      by_cases hk : n ≤ zcnt (dpF c f (c r_Film_land f 0 0)) (c r_Readings_readerCount 0 0 0).toNat 0
      · rw [if_pos hk, if_pos hk, q_dealLoop hn.2 n.toNat 0 c (Int.le_refl _) (by omega) b1 b2]
        rw [q_mdealLoop hn.2 n.toNat 0 _ (Int.le_refl _) (by omega) (by rw [e_un (by decide), e_un (by decide), e_un (by decide), b3]; exact b1) (by rw [e_un (by decide), e_un (by decide), e_un (by decide), b3]; exact b2)]
        have hd := zR.deals n.toNat (h.thr.thr.thr : zR c (e_upd (e_upd (e_upd m r_m_thrown 0 0 0 0) r_m_thrown 0 0 0 0) r_m_thrown 0 0 0 0)) hf.1 hf.2 rfl (by omega)
        refine ⟨0, _, _, _, rfl, rfl, hd.out, ?_, fun _ => ?_⟩
        · rw [sM_t, e_us]
        · rw [e_us, e_un (by decide), e_un (by decide), e_un (by decide), b3]
          obtain ⟨-, ⟨d1, d2, d3⟩, -, -, ad, -⟩ := hd
          refine zcnt_cg _ 0 (fun i i0 i1 => ?_)
          rw [ad f i hf.1 (by omega) i0 (by omega)]
          by_cases q : zit (sF f (c r_Film_land f 0 0)) n.toNat c r_Readings_marks_r f 0 i = -2 <;> simp [q]
      · rw [if_neg hk, if_neg hk]
        exact ⟨3, 0, _, _, rfl, rfl, h.thr.thr.thr, e_us, fun q => absurd q (by decide)⟩
    · simp only [if_neg hn, ↓reduceIte]
      exact ⟨2, 0, _, _, rfl, rfl, h.thr.thr, e_us, fun q => absurd q (by decide)⟩
  · rw [if_neg hf, if_neg hf, if_neg (by decide), e_b_x (by decide) (by decide)]
    exact ⟨1, 0, _, _, rfl, rfl, h.thr, e_us, fun q => absurd q (by decide)⟩
theorem o_isDealt {f k : Int} {c m : ZS} (h : zR c m) : zBoth (f_w_isDealt [f, k] c) (f_m_isDealt [f, k] m) := by
  obtain ⟨⟨a1, a2, a3⟩, ⟨b1, b2, b3⟩, -, -, ad, -⟩ := id h
  show zBoth (e_try (e_bind (f_x_checkFilm [f] c) (fun _ S1 => e_bind (f_x_checkReader [k] S1) (fun _ S2 => (bif decide (S2 r_Readings_marks_r f 0 k = -2) then ((0, [0]), S2) else ((0, [1]), S2))))) (fun v1 S1 => (bif decide (v1 = 0) then ((0, [0]), e_upd S1 r_out 0 0 0 0) else ((0, [0]), e_upd S1 r_out 0 0 0 1))) [(0, 1)]) (e_bind (f_m_isNoReader [f, k] m) (fun v1 S1 => (bif !decide (v1 = 0) then ((0, [0]), S1) else (bif decide (S1 r_m_areDealt_r f 0 k = 0) then ((0, [0]), S1) else ((0, [1]), S1)))))
  rw [q_film a1 (by omega), q_noReader (by omega) (by omega) (by omega) (by omega), a3, b3]
  by_cases hf : 0 ≤ f ∧ f < c r_x_filmCount 0 0 0
  · rw [if_pos hf, e_b_ok, q_reader b1 (by omega)]
    by_cases hk : 0 ≤ k ∧ k < c r_Readings_readerCount 0 0 0
    · rw [if_pos hk, if_pos ⟨hf, hk⟩, e_b_ok, e_b_ok, zb_d]
      show zBoth _ (bif !decide ((0 : Int) = 0) then _ else _)
      rw [zb_n, if_pos rfl, zb_d, e_un (by decide), ad f k hf.1 (by omega) hk.1 (by omega)]
      by_cases q : c r_Readings_marks_r f 0 k = -2
      · simp only [if_pos q, ↓reduceIte]
        exact ⟨0, 0, _, _, rfl, rfl, h.thr.out, e_us, fun _ => e_us⟩
      · rw [if_neg q, if_neg q, if_neg (by decide)]
        exact ⟨0, 1, _, _, rfl, rfl, h.thr.out, e_us, fun _ => e_us⟩
    · rw [if_neg hk, if_neg (fun q => hk q.2), e_b_x (by decide) (by decide), e_b_ok]
      exact ⟨1, 0, _, _, rfl, rfl, h.thr, e_us, fun q => absurd q (by decide)⟩
  · rw [if_neg hf, if_neg (fun q => hf q.1), e_b_x (by decide) (by decide), e_b_ok]
    exact ⟨1, 0, _, _, rfl, rfl, h.thr, e_us, fun q => absurd q (by decide)⟩
theorem q_addReader {l : Int} {c : ZS} (b1 : 0 ≤ c r_Readings_readerCount 0 0 0) (b2 : c r_Readings_readerCount 0 0 0 ≤ 8) : f_Readings_addReader [l] c = ((0, [c r_Readings_readerCount 0 0 0]), e_upd (e_upd c r_Readings_lands 0 0 (c r_Readings_readerCount 0 0 0) l) r_Readings_readerCount 0 0 0 (c r_Readings_readerCount 0 0 0 + 1)) := by
  unfold f_Readings_addReader
  dsimp only
  rw [e_us, e_wr_id (x := c r_Readings_readerCount 0 0 0 + 1) (by omega) (by omega), e_wr_id (by omega) (by omega), Int.add_sub_cancel]
theorem o_reader {l : Int} {c m : ZS} (h : zR c m) : zBoth (f_w_reader [l] c) (f_m_reader [l] m) := by
  obtain ⟨a, ⟨b1, b2, b3⟩, ll, fl, ad, dm, mk, ts⟩ := id h
  show zBoth (e_try (bif !decide (v_x_isWithin l 0 9 c = 0) then (bif decide (c r_Readings_readerCount 0 0 0 < 8) then (e_bind (f_Readings_addReader [l] c) (fun v1 S1 => ((0, [v1]), S1))) else ((3, []), c)) else ((2, []), c)) (fun v1 S1 => ((0, [0]), e_upd S1 r_out 0 0 0 v1)) [(1, 1), (2, 2)]) (bif !decide (v_m_isIn l 0 9 m = 0) then (bif !decide (m r_m_readers 0 0 0 = 8) then _ else _) else _)
  simp only [zb_n, zb_d, q_within, q_isIn, b3, q_addReader b1 b2, e_bnd]
  by_cases hl : 0 ≤ l ∧ l ≤ 9
  · by_cases hr : c r_Readings_readerCount 0 0 0 = 8
    · simp only [if_pos hl, if_pos hr, if_neg (show ¬ c r_Readings_readerCount 0 0 0 < 8 by omega), Int.reduceEq, ↓reduceIte]
      exact ⟨2, 0, _, _, rfl, rfl, h.thr.thr, e_us, fun q => absurd q (by decide)⟩
    · simp only [if_pos hl, if_neg hr, if_pos (show c r_Readings_readerCount 0 0 0 < 8 by omega), Int.reduceEq, ↓reduceIte]
      rw [e_us, e_wr_id (x := c r_Readings_readerCount 0 0 0 + 1) (by omega) (by omega), e_wr_id (by omega) (by omega)]
      refine ⟨0, c r_Readings_readerCount 0 0 0 + 1 - 1, _, _, rfl, rfl, zR.out ?_, by simp (decide := true) only [e_un, e_us], fun _ => ?_⟩
      · refine ⟨?_, ?_, ?_, ?_, ?_, ?_, ?_, ?_⟩
        · simpa (decide := true) only [e_un] using a
        · simp (decide := true) only [e_us]
          exact ⟨by omega, by omega, trivial⟩
        · intro k k0 k1
          simp (decide := true) only [e_un, e_ur]
          rw [ll k k0 k1]
        · simpa (decide := true) only [e_un] using fl
        · simpa (decide := true) only [e_un] using ad
        · simpa (decide := true) only [e_un] using dm
        · simpa (decide := true) only [e_un] using mk
        · simpa (decide := true) only [e_un] using ts
      · simp (decide := true) only [e_us, Int.add_sub_cancel]
        rfl
  · simp only [if_neg hl, ↓reduceIte]
    exact ⟨1, 0, _, _, rfl, rfl, h.thr, e_us, fun q => absurd q (by decide)⟩
end
/-! part 71u04 -/
section
/-! Films, scores told -/
theorem q_isForm {x : Int} {S : ZS} : v_x_isForm x S = if x = 102 ∨ x = 115 ∨ x = 100 then 1 else 0 := by
  unfold v_x_isForm
  simp only [zb_d, zb_n]
  repeat' split
  all_goals first | rfl | omega
theorem q_misForm {x : Int} {S : ZS} : v_m_isForm x S = if x = 102 ∨ x = 115 ∨ x = 100 then 1 else 0 := by
  unfold v_m_isForm
  simp only [zb_d, zb_n]
  repeat' split
  all_goals first | rfl | omega
/-- a row is filled from k on -/
def zfl (f : Int) : Nat → Int → ZS → ZS
  | 0, _, S => S
  | j + 1, k, S => zfl f j (k + 1) (e_upd S r_m_scores_r f 0 k (-1))
theorem zfl_o {f : Int} {r : Nat} (h : (r == r_m_scores_r) = false) : ∀ (j : Nat) (k : Int) (S : ZS), (zfl f j k S) r = S r
  | 0, _, _ => rfl
  | j + 1, k, S => by
    rw [zfl, zfl_o h j]
    funext x y z
    exact e_un h
theorem zfl_s {f g k' : Int} : ∀ (j : Nat) (k : Int) (S : ZS), (zfl f j k S) r_m_scores_r g 0 k' = if g = f ∧ k ≤ k' ∧ k' < k + j then -1 else S r_m_scores_r g 0 k'
  | 0, k, S => by
    rw [if_neg (by omega)]
    rfl
  | j + 1, k, S => by
    rw [zfl, zfl_s j, e_ur]
    by_cases c : g = f ∧ k + 1 ≤ k' ∧ k' < k + 1 + j
    · rw [if_pos c, if_pos (by omega)]
    · rw [if_neg c]
      by_cases d : g = f ∧ k' = k
      · rw [if_pos ⟨d.1, rfl, d.2⟩, if_pos (by omega)]
      · rw [if_neg (fun q => d ⟨q.1, q.2.2⟩), if_neg (by omega)]
theorem q_mfilmLoop : ∀ (j : Nat) (k : Int) (S : ZS), 0 ≤ k → k + j = 8 → 0 ≤ S r_m_films 0 0 0 → S r_m_films 0 0 0 < 20 → g_m_film ((1118, [k]), S) = ((0, [S r_m_films 0 0 0]), e_upd (zfl (S r_m_films 0 0 0) j k S) r_m_films 0 0 0 (S r_m_films 0 0 0 + 1))
  | 0, k, S, h1, h2, h3, h4 => by
    rw [g_m_film_118, zb_d, if_pos (by omega), e_us, e_wr_id (x := S r_m_films 0 0 0 + 1) (by omega) (by omega), e_wr_id (by omega) (by omega), Int.add_sub_cancel]
    rfl
  | j + 1, k, S, h1, h2, h3, h4 => by
    have e : (e_upd S r_m_scores_r (S r_m_films 0 0 0) 0 k (-1)) r_m_films 0 0 0 = S r_m_films 0 0 0 := e_un (by decide)
    rw [g_m_film_118, zb_d, if_neg (by omega), e_wr_id (by omega) (by omega), q_mfilmLoop j (k + 1) _ (by omega) (by omega) (by rw [e]; exact h3) (by rw [e]; exact h4), e]
    rfl
theorem o_film {x y z : Int} {c m : ZS} (h : zR c m) : zBoth (f_w_film [x, y, z] c) (f_m_film [x, y, z] m) := by
  obtain ⟨⟨a1, a2, a3⟩, b, ll, fl, ad, dm, mk, ts⟩ := id h
  show zBoth (e_try (f_x_film [x, y, z] c) (fun v1 S1 => ((0, [0]), e_upd S1 r_out 0 0 0 v1)) [(1, 1), (2, 2)]) (g_m_film ((1000, [x, y, z]), m))
  rw [g_m_film_0]
  unfold f_x_film f_Film_begin
  simp only [zb_n, zb_d, q_within, q_isIn, q_isForm, q_misForm, a3, e_bnd0]
  by_cases hx : x = 102 ∨ x = 115 ∨ x = 100
  · by_cases hy : 1 ≤ y ∧ y ≤ 300
    · by_cases hz : 0 ≤ z ∧ z ≤ 9
      · by_cases hn : c r_x_filmCount 0 0 0 = 20
        · simp only [if_pos hx, if_pos hy, if_pos hz, if_pos hn, if_neg (show ¬ c r_x_filmCount 0 0 0 < 20 by omega), Int.reduceEq, ↓reduceIte]
          exact ⟨2, 0, _, _, rfl, rfl, h.thr.thr, e_us, fun q => absurd q (by decide)⟩
        · simp only [if_pos hx, if_pos hy, if_pos hz, if_neg hn, if_pos (show c r_x_filmCount 0 0 0 < 20 by omega), Int.reduceEq, ↓reduceIte]
          rw [q_mfilmLoop 8 0 _ (by omega) (by omega) (by simp (decide := true) only [e_un]; omega) (by simp (decide := true) only [e_un]; omega)]
          have hw : e_wr (c r_x_filmCount 0 0 0 + 1) = c r_x_filmCount 0 0 0 + 1 := e_wr_id (by omega) (by omega)
          have hw2 : e_wr (c r_x_filmCount 0 0 0 + 1 - 1) = c r_x_filmCount 0 0 0 := by rw [e_wr_id (by omega) (by omega), Int.add_sub_cancel]
          simp (decide := true) only [e_un, e_us, hw, hw2, a3]
          refine ⟨0, c r_x_filmCount 0 0 0, _, _, rfl, rfl, zR.out ?_, ?_, fun _ => ?_⟩
          · refine ⟨?_, ?_, ?_, ?_, ?_, ?_, ?_, ?_⟩
            · simp (decide := true) only [e_us]
              exact ⟨by omega, by omega, trivial⟩
            · simpa (decide := true) only [e_un, zfl_o] using b
            · simpa (decide := true) only [e_un, zfl_o] using ll
            · intro g g0 g1
              simp (decide := true) only [e_un, e_us, e_ur, zfl_o] at g1 ⊢
              by_cases q : g = c r_x_filmCount 0 0 0
              · simp [q]
              · simp only [q, false_and, and_false, ↓reduceIte]
                exact fl g g0 (by omega)
            · simpa (decide := true) only [e_un, zfl_o] using ad
            · simpa (decide := true) only [e_un, zfl_o] using dm
            · intro g k g0 g1 k0 k1
              obtain ⟨m1, m2, m3, m4⟩ := mk g k g0 g1 k0 k1
              simp (decide := true) only [e_un, e_us, zfl_s]
              refine ⟨m1, fun q => m2 (by omega), fun q => ?_, fun q w => ?_⟩
              · rw [if_neg (fun z => by have := m2 (by omega); omega)]
                exact m3 q
              · by_cases e : g = c r_x_filmCount 0 0 0
                · rw [if_pos ⟨e, by omega, by omega⟩]
                · rw [if_neg (fun z => e z.1)]
                  exact m4 q (by omega)
            · simpa (decide := true) only [e_un, zfl_o] using ts
          · simp (decide := true) only [e_un, e_us, zfl_o]
          · simp (decide := true) only [e_us]
            rfl
      · simp only [if_pos hx, if_pos hy, if_neg hz, Int.reduceEq, ↓reduceIte]
        exact ⟨1, 0, _, _, rfl, rfl, h.thr, e_us, fun q => absurd q (by decide)⟩
    · simp only [if_pos hx, if_neg hy, Int.reduceEq, ↓reduceIte]
      exact ⟨1, 0, _, _, rfl, rfl, h.thr, e_us, fun q => absurd q (by decide)⟩
  · simp only [if_neg hx, Int.reduceEq, ↓reduceIte]
    exact ⟨1, 0, _, _, rfl, rfl, h.thr, e_us, fun q => absurd q (by decide)⟩
theorem zcnt_sum {p : Int → Bool} : ∀ (j : Nat) (k : Int), zcnt p j k = zsum (fun i => if p i = true then 1 else 0) j k
  | 0, _ => rfl
  | j + 1, k => by rw [zcnt, zsum, zcnt_sum j]
theorem zR.told {c m : ZS} (h : zR c m) {f : Int} (f0 : 0 ≤ f) (f1 : f < c r_x_filmCount 0 0 0) : zcnt (fun k => decide (0 ≤ m r_m_scores_r f 0 k)) (m r_m_readers 0 0 0).toNat 0 = zcnt (fun k => decide (0 ≤ c r_Readings_marks_r f 0 k)) (c r_Readings_readerCount 0 0 0).toNat 0 := by
  obtain ⟨⟨a1, a2, a3⟩, ⟨b1, b2, b3⟩, ll, fl, ad, dm, mk, ts⟩ := h
  rw [b3]
  refine zcnt_cg _ 0 (fun k k0 k1 => ?_)
  obtain ⟨m1, m2, m3, m4⟩ := mk f k f0 (by omega) k0 (by omega)
  by_cases q : 0 ≤ c r_Readings_marks_r f 0 k
  · rw [m3 q]
  · rw [m4 (by omega) f1]
    simp [q]
theorem o_read {f k s : Int} {c m : ZS} (h : zR c m) : zBoth (f_w_read [f, k, s] c) (f_m_read [f, k, s] m) := by
  obtain ⟨⟨a1, a2, a3⟩, ⟨b1, b2, b3⟩, ll, fl, ad, dm, mk, ts⟩ := id h
  show zBoth (e_try (f_x_read [f, k, s] c) (fun v1 S1 => ((0, [0]), e_upd S1 r_out 0 0 0 v1)) [(0, 1), (1, 2), (3, 3)]) (f_m_read [f, k, s] m)
  unfold f_x_read f_m_read
  dsimp only
  rw [q_film a1 (by omega), q_noReader (by omega) (by omega) (by omega) (by omega), a3, b3]
  by_cases hf : 0 ≤ f ∧ f < c r_x_filmCount 0 0 0
  · rw [if_pos hf, e_b_ok, q_reader b1 (by omega)]
    by_cases hk : 0 ≤ k ∧ k < c r_Readings_readerCount 0 0 0
    · rw [if_pos hk, if_pos ⟨hf, hk⟩, e_b_ok, e_bnd]
      simp only [zb_n, zb_d, q_within, q_isIn]
      obtain ⟨m1, m2, m3, m4⟩ := mk f k hf.1 (by omega) hk.1 (by omega)
      have had := ad f k hf.1 (by omega) hk.1 (by omega)
      by_cases hs : 0 ≤ s ∧ s ≤ 100
      · by_cases h1 : c r_Readings_marks_r f 0 k = -1
        · have h2 : m r_m_areDealt_r f 0 k = 1 := by rw [had, if_neg (by omega)]
          have h3 : m r_m_scores_r f 0 k = -1 := m4 (by omega) hf.2
          simp (decide := true) only [if_pos hs, if_pos h1, Int.reduceEq, ↓reduceIte, e_un, h2, h3]
          unfold f_Readings_tell
          dsimp only
          rw [e_bnd0]
          obtain ⟨t1, t2⟩ := ts k hk.1 (by omega)
          have u1 := zcnt_le (fun f => decide (0 ≤ c r_Readings_marks_r f 0 k)) 20 0
          have u2 := zsum_le (w := fun f => if 0 ≤ c r_Readings_marks_r f 0 k then c r_Readings_marks_r f 0 k else 0) (lo := 0) (hi := 100) 20 0 (fun i i0 i1 => by
            have := (mk i k i0 (by omega) hk.1 (by omega)).1
            (try dsimp only)
            split <;> omega)
          have w1 : e_wr (c r_Readings_toldScores 0 0 k + 1) = c r_Readings_toldScores 0 0 k + 1 := e_wr_id (by omega) (by omega)
          have w2 : e_wr (c r_Readings_sums 0 0 k + s) = c r_Readings_sums 0 0 k + s := e_wr_id (by omega) (by omega)
          simp (decide := true) only [e_un, w1, w2]
          have hR : zR (e_upd (e_upd (e_upd c r_Readings_marks_r f 0 k s) r_Readings_toldScores 0 0 k (c r_Readings_toldScores 0 0 k + 1)) r_Readings_sums 0 0 k (c r_Readings_sums 0 0 k + s)) (e_upd (e_upd (e_upd (e_upd m r_m_thrown 0 0 0 0) r_m_thrown 0 0 0 0) r_m_thrown 0 0 0 0) r_m_scores_r f 0 k s) := by
            refine ⟨?_, ?_, ?_, ?_, ?_, ?_, ?_, ?_⟩
            · simpa (decide := true) only [e_un] using ⟨a1, a2, a3⟩
            · simpa (decide := true) only [e_un] using ⟨b1, b2, b3⟩
            · simpa (decide := true) only [e_un] using ll
            · simpa (decide := true) only [e_un] using fl
            · intro g i g0 g1 i0 i1
              simp (decide := true) only [e_un, e_ur]
              by_cases q : g = f ∧ True ∧ i = k
              · rw [if_pos q, q.1, q.2.2, h2, if_neg (by omega)]
              · rw [if_neg q]
                exact ad g i g0 g1 i0 i1
            · simpa (decide := true) only [e_un] using dm
            · intro g i g0 g1 i0 i1
              simp (decide := true) only [e_un, e_ur]
              by_cases q : g = f ∧ True ∧ i = k
              · rw [if_pos q, if_pos q]
                exact ⟨by omega, fun z => by omega, fun _ => rfl, fun z => by omega⟩
              · rw [if_neg q, if_neg q]
                exact mk g i g0 g1 i0 i1
            · intro i i0 i1
              simp (decide := true) only [e_un, e_ur]
              obtain ⟨v1, v2⟩ := ts i i0 i1
              by_cases q : i = k
              · subst q
                simp only [true_and, and_true, ↓reduceIte]
                have x1 := zsum_upd (w := fun g => if decide (0 ≤ c r_Readings_marks_r g 0 i) = true then 1 else 0) (b := f) (z := 1) 20 0 hf.1 (by omega)
                have x2 := zsum_upd (w := fun g => if 0 ≤ c r_Readings_marks_r g 0 i then c r_Readings_marks_r g 0 i else 0) (b := f) (z := s) 20 0 hf.1 (by omega)
                rw [zcnt_sum] at v1
                rw [zcnt_sum]
                constructor
                · rw [v1]
                  rw [zsum_cg (v := fun g => if decide (0 ≤ if g = f then s else c r_Readings_marks_r g 0 i) = true then 1 else 0) (w := fun g => if g = f then 1 else if decide (0 ≤ c r_Readings_marks_r g 0 i) = true then 1 else 0) 20 0 (fun g _ _ => by
                    (try dsimp only)
                    by_cases e : g = f
                    · simp [e, hs.1]
                    · simp [e]), x1]
                  simp [h1]
                · rw [v2]
                  rw [zsum_cg (v := fun g => if 0 ≤ (if g = f then s else c r_Readings_marks_r g 0 i) then (if g = f then s else c r_Readings_marks_r g 0 i) else 0) (w := fun g => if g = f then s else if 0 ≤ c r_Readings_marks_r g 0 i then c r_Readings_marks_r g 0 i else 0) 20 0 (fun g _ _ => by
                    (try dsimp only)
                    by_cases e : g = f
                    · simp [e, hs.1]
                    · simp [e]), x2]
                  simp [h1]
              · simp only [q, and_false, ↓reduceIte]
                exact ⟨v1, v2⟩
          have e1 : (e_upd (e_upd (e_upd c r_Readings_marks_r f 0 k s) r_Readings_toldScores 0 0 k (c r_Readings_toldScores 0 0 k + 1)) r_Readings_sums 0 0 k (c r_Readings_sums 0 0 k + s)) r_Readings_readerCount 0 0 0 = c r_Readings_readerCount 0 0 0 := by simp (decide := true) only [e_un]
          have e2 : (e_upd (e_upd (e_upd (e_upd m r_m_thrown 0 0 0 0) r_m_thrown 0 0 0 0) r_m_thrown 0 0 0 0) r_m_scores_r f 0 k s) r_m_readers 0 0 0 = c r_Readings_readerCount 0 0 0 := by simp (decide := true) only [e_un, b3]
          rw [q_countTold (by rw [e1]; exact b1) (by rw [e1]; exact b2), q_scoreMany (by rw [e2]; exact b1) (by rw [e2]; exact b2), e_bnd, e_bnd, hR.told hf.1 (by simp (decide := true) only [e_un]; exact hf.2)]
          exact ⟨0, _, _, _, rfl, rfl, hR.out, by simp (decide := true) only [e_un, e_us], fun _ => e_us⟩
        · by_cases h5 : c r_Readings_marks_r f 0 k = -2
          · have h2 : m r_m_areDealt_r f 0 k = 0 := by rw [had, if_pos h5]
            simp (decide := true) only [if_pos hs, if_neg h1, Int.reduceEq, ↓reduceIte, e_un, h2]
            exact ⟨3, 0, _, _, rfl, rfl, h.thr.thr.thr, e_us, fun q => absurd q (by decide)⟩
          · have h2 : m r_m_areDealt_r f 0 k = 1 := by rw [had, if_neg h5]
            have h3 : ¬ m r_m_scores_r f 0 k < 0 := by rw [m3 (by omega)]; omega
            simp (decide := true) only [if_pos hs, if_neg h1, Int.reduceEq, ↓reduceIte, e_un, h2, if_neg h3]
            exact ⟨3, 0, _, _, rfl, rfl, h.thr.thr.thr, e_us, fun q => absurd q (by decide)⟩
      · simp (decide := true) only [if_neg hs, Int.reduceEq, ↓reduceIte]
        exact ⟨2, 0, _, _, rfl, rfl, h.thr.thr, e_us, fun q => absurd q (by decide)⟩
    · rw [if_neg hk, if_neg (fun q => hk q.2), e_b_x (by decide) (by decide), e_bnd]
      exact ⟨1, 0, _, _, rfl, rfl, h.thr, e_us, fun q => absurd q (by decide)⟩
  · rw [if_neg hf, if_neg (fun q => hf q.1), e_b_x (by decide) (by decide), e_bnd]
    exact ⟨1, 0, _, _, rfl, rfl, h.thr, e_us, fun q => absurd q (by decide)⟩
end
/-! part 71u05 -/
section
/-! The law, turn by turn: tools -/
theorem z_post_b {Q : AH → Prop} {C : ZC} {mi f : Nat} {X : ZX} {R : ZR} {k : Int → ZS → ZR} (h : z_post Q C mi f X (e_bind R k)) (hX : ∃ y, X.1.1 = (0, [y])) : R.1.1 = 0 ∧ z_post Q C mi f X (k (R.1.2.getD 0 0) R.2) := by
  unfold e_bind at h
  cases hb : (R.1.1 == 0) with
  | true =>
    rw [hb] at h
    exact ⟨by simpa using hb, h⟩
  | false =>
    rw [hb] at h
    exfalso
    obtain ⟨y, hy⟩ := hX
    have := (h.1 (Nat.mod_lt _ (by decide))).1
    rw [this] at hy
    have hy : ((R.1.1 % 1000, []) : Nat × List Int) = (0, [y]) := hy
    rw [Prod.mk.injEq] at hy
    cases hy.2
theorem z_post_g {Q : AH → Prop} {C : ZC} {mi f pc : Nat} {X : ZX} {L : List Int} {S : ZS} (h : z_post Q C mi f X ((1000 + pc, L), S)) : ∃ f', f' < f ∧ z_goes Q C mi f' pc L S X := by
  obtain ⟨f', h1, h2⟩ := h.2 (Nat.le_add_right _ _)
  refine ⟨f', h1, ?_⟩
  have h2 : z_goes Q C mi f' (1000 + pc - 1000) L S X := h2
  rw [Nat.add_sub_cancel_left] at h2
  exact h2
theorem z_post_r {Q : AH → Prop} {C : ZC} {mi f c : Nat} {X : ZX} {l : List Int} {S : ZS} (hc : c < 1000) (h : z_post Q C mi f X ((c, l), S)) : X.1 = ((c, l), S) := (h.1 hc).1
/-- regions that a method doesn't write -/
def z_dis (W K : List Nat) : Bool := K.all fun r => !(W.contains r)
theorem z_kp.r {nv : Nat} {W : List Nat} {φ : ZFn} (h : z_kp nv W φ) {L : List Int} (hL : L.length = nv) {S : ZS} (h0 : (φ L S).1.1 = 0) {r : Nat} (hr : W.contains r = false) : (φ L S).2 r = S r := by
  funext i j k
  exact h L S hL (by rw [h0]; decide) r i j k hr
theorem z_dis_ok {W K : List Nat} (h : z_dis W K = true) {r : Nat} (hr : r ∈ K) : W.contains r = false := by
  have := List.all_eq_true.mp h r hr
  simpa using this
/-- an operation that leaves the regions of the relation as they are -/
theorem zR.keep {nv : Nat} {W : List Nat} {φ : ZFn} (h : z_kp nv W φ) {L : List Int} (hL : L.length = nv) {S : ZS} (h0 : (φ L S).1.1 = 0) (hd : z_dis W (zRC ++ zRM) = true) (hR : zR S S) : zR (φ L S).2 (φ L S).2 := hR.cg (fun r hr => h.r hL h0 (z_dis_ok hd (List.mem_append_left _ hr))) (fun r hr => h.r hL h0 (z_dis_ok hd (List.mem_append_right _ hr)))
theorem zBoth.two {nv nv' : Nat} {W W' : List Nat} {φ φ' : ZFn} (h : z_kp nv W φ) (h' : z_kp nv' W' φ') {L : List Int} (hL : L.length = nv) (hL' : L.length = nv') {S : ZS} (hR : zR S S) (hd : z_dis W zRM = true) (hd' : z_dis W' (r_out :: zRC) = true) (hB : ∀ c m, zR c m → zBoth (φ L c) (φ' L m)) : ∃ (k v : Int) (S1 S2 : ZS), φ L S = ((0, [k]), S1) ∧ φ' L S1 = ((0, [v]), S2) ∧ zR S2 S2 ∧ S2 r_m_thrown 0 0 0 = k ∧ (k = 0 → S2 r_out 0 0 0 = v) := by
  obtain ⟨k0, v0, c0, m0, e0, -⟩ := hB S S hR
  have hS1 : zR S c0 := hR.cg (fun _ _ => rfl) (fun r hr => by
    have := h.r hL (S := S) (by rw [e0]) (z_dis_ok hd hr)
    rw [e0] at this
    exact this)
  obtain ⟨k, v, c', m', e1, e2, h3, h4, h5⟩ := hB S c0 hS1
  rw [e0] at e1
  have e3 : c0 = c' := congrArg Prod.snd e1
  have e4 : k0 = k := by
    have := congrArg Prod.fst e1
    simp only [Prod.mk.injEq, List.cons.injEq, and_true, true_and] at this
    exact this
  subst e3
  subst e4
  have kr : ∀ r, r ∈ r_out :: zRC → m' r = c0 r := fun r hr => by
    have := h'.r hL' (S := c0) (by rw [e2]) (z_dis_ok hd' hr)
    rw [e2] at this
    exact this
  exact ⟨k0, v, c0, m', e0, e2, h3.cg (fun r hr => kr r (List.mem_cons_of_mem _ hr)) (fun _ _ => rfl), h4, fun q => by rw [kr r_out List.mem_cons_self]; exact h5 q⟩
theorem e_sw_in {x lo : Int} {ts : List ZN} {d : Nat} : e_sw x lo ts d = d ∨ ∃ t ∈ ts, e_sw x lo ts d = t.1 := by
  unfold e_sw
  split
  · exact Or.inl rfl
  · rw [List.getD_eq_getElem?_getD]
    cases h : ts[(x - lo).toNat]? with
    | none => exact Or.inl rfl
    | some t => exact Or.inr ⟨t, List.mem_of_getElem? h, rfl⟩
/-- a bound answer: the value is the one behind -/
theorem e_bind_ok {R : ZR} {k : Int → ZS → ZR} {v : Int} {S2 : ZS} (h : e_bind R k = ((0, [v]), S2)) : R.1.1 = 0 ∧ k (R.1.2.getD 0 0) R.2 = ((0, [v]), S2) := by
  unfold e_bind at h
  cases hb : (R.1.1 == 0) with
  | true =>
    rw [hb] at h
    exact ⟨by simpa using hb, h⟩
  | false =>
    rw [hb] at h
    have h : (((R.1.1 % 1000, []) : Nat × List Int), R.2) = ((0, [v]), S2) := h
    exact absurd (congrArg (fun q => q.1.2) h) (by intro q; cases q)
/-- a boolean's values -/
theorem e_bool {b : Bool} {R R' : ZR} {v : Int} {S2 : ZS} (h : (bif b then R else R') = ((0, [v]), S2)) (h1 : R = ((0, [v]), S2) → v = 0 ∨ v = 1) (h2 : R' = ((0, [v]), S2) → v = 0 ∨ v = 1) : v = 0 ∨ v = 1 := by
  cases b
  · exact h2 h
  · exact h1 h
theorem e_bool0 {S S2 : ZS} {v : Int} (h : (((0, [0]) : Nat × List Int), S) = ((0, [v]), S2)) : v = 0 ∨ v = 1 := by
  cases h
  exact Or.inl rfl
theorem e_bool1 {S S2 : ZS} {v : Int} (h : (((0, [1]) : Nat × List Int), S) = ((0, [v]), S2)) : v = 0 ∨ v = 1 := by
  cases h
  exact Or.inr rfl
theorem b_isDealt {a b v : Int} {S S2 : ZS} (h : f_m_isDealt [a, b] S = ((0, [v]), S2)) : v = 0 ∨ v = 1 := by
  unfold f_m_isDealt at h
  dsimp only at h
  exact e_bool (e_bind_ok h).2 e_bool0 (fun h => e_bool h e_bool0 e_bool1)
end
/-! part 71u05b -/
section
/-! Relations put together: a relation and the regions that it reads, answers of both sides -/
def zRel (R : ZS → ZS → Prop) (KC KM : List Nat) : Prop := ∀ {c m c' m' : ZS}, R c m → (∀ r ∈ KC, c' r = c r) → (∀ r ∈ KM, m' r = m r) → R c' m'
theorem zR_rel : zRel zR zRC zRM := fun h hc hm => h.cg hc hm
def zAnd (R R' : ZS → ZS → Prop) : ZS → ZS → Prop := fun c m => R c m ∧ R' c m
theorem zRel.and {R R' : ZS → ZS → Prop} {KC KM KC' KM' : List Nat} (h : zRel R KC KM) (h' : zRel R' KC' KM') : zRel (zAnd R R') (KC ++ KC') (KM ++ KM') := fun q hc hm => ⟨h q.1 (fun r hr => hc r (List.mem_append_left _ hr)) (fun r hr => hm r (List.mem_append_left _ hr)), h' q.2 (fun r hr => hc r (List.mem_append_right _ hr)) (fun r hr => hm r (List.mem_append_right _ hr))⟩
/-- both sides end, with one exception or none, one answer, and the relation behind -/
def zBo (R : ZS → ZS → Prop) (A B : ZR) : Prop := ∃ (k v : Int) (c' m' : ZS), A = ((0, [k]), c') ∧ B = ((0, [v]), m') ∧ R c' m' ∧ m' r_m_thrown 0 0 0 = k ∧ (k = 0 → c' r_out 0 0 0 = v)
theorem zBoth.bo {A B : ZR} (h : zBoth A B) : zBo zR A B := h
theorem zBo.and {R R' : ZS → ZS → Prop} {A B : ZR} (h : zBo R A B) (h' : R' A.2 B.2) : zBo (zAnd R R') A B := by
  obtain ⟨k, v, c', m', e1, e2, h1, h2, h3⟩ := h
  refine ⟨k, v, c', m', e1, e2, ⟨h1, ?_⟩, h2, h3⟩
  rw [e1, e2] at h'
  exact h'
/-- a second relation that the two calls leave alone -/
theorem zBo.keep {R R' : ZS → ZS → Prop} {KC KM : List Nat} (hr : zRel R' KC KM) {nv nv' : Nat} {W W' : List Nat} {φ φ' : ZFn} (h : z_kp nv W φ) (h' : z_kp nv' W' φ') {L : List Int} (hL : L.length = nv) (hL' : L.length = nv') (hd : z_dis W KC = true) (hd' : z_dis W' KM = true) {c m : ZS} (hR : R' c m) (hB : zBo R (φ L c) (φ' L m)) : zBo (zAnd R R') (φ L c) (φ' L m) := by
  obtain ⟨k, v, c', m', e1, e2, -⟩ := id hB
  exact hB.and (hr hR (fun r hq => h.r hL (by rw [e1]) (z_dis_ok hd hq)) (fun r hq => h'.r hL' (by rw [e2]) (z_dis_ok hd' hq)))
/-- one call that leaves the relation's regions alone -/
theorem zRel.keep {R : ZS → ZS → Prop} {KC KM : List Nat} (hr : zRel R KC KM) {nv : Nat} {W : List Nat} {φ : ZFn} (h : z_kp nv W φ) {L : List Int} (hL : L.length = nv) {S : ZS} (h0 : (φ L S).1.1 = 0) (hd : z_dis W (KC ++ KM) = true) (hR : R S S) : R (φ L S).2 (φ L S).2 := hr hR (fun r hq => h.r hL h0 (z_dis_ok hd (List.mem_append_left _ hq))) (fun r hq => h.r hL h0 (z_dis_ok hd (List.mem_append_right _ hq)))
/-- the class's call, then the model's, on one state -/
theorem zRel.two {R : ZS → ZS → Prop} {KC KM : List Nat} (hr : zRel R KC KM) {nv nv' : Nat} {W W' : List Nat} {φ φ' : ZFn} (h : z_kp nv W φ) (h' : z_kp nv' W' φ') {L : List Int} (hL : L.length = nv) (hL' : L.length = nv') {S : ZS} (hR : R S S) (hd : z_dis W KM = true) (hd' : z_dis W' (r_out :: KC) = true) (hB : ∀ c m, R c m → zBo R (φ L c) (φ' L m)) : ∃ (k v : Int) (S1 S2 : ZS), φ L S = ((0, [k]), S1) ∧ φ' L S1 = ((0, [v]), S2) ∧ R S2 S2 ∧ S2 r_m_thrown 0 0 0 = k ∧ (k = 0 → S2 r_out 0 0 0 = v) := by
  obtain ⟨k0, v0, c0, m0, e0, -⟩ := hB S S hR
  have hS1 : R S c0 := hr hR (fun _ _ => rfl) (fun r hq => by
    have := h.r hL (S := S) (by rw [e0]) (z_dis_ok hd hq)
    rw [e0] at this
    exact this)
  obtain ⟨k, v, c', m', e1, e2, h3, h4, h5⟩ := hB S c0 hS1
  rw [e0] at e1
  have e3 : c0 = c' := congrArg Prod.snd e1
  have e4 : k0 = k := by
    have := congrArg Prod.fst e1
    simp only [Prod.mk.injEq, List.cons.injEq, and_true, true_and] at this
    exact this
  subst e3
  subst e4
  have kr : ∀ r, r ∈ r_out :: KC → m' r = c0 r := fun r hq => by
    have := h'.r hL' (S := c0) (by rw [e2]) (z_dis_ok hd' hq)
    rw [e2] at this
    exact this
  exact ⟨k0, v, c0, m', e0, e2, hr h3 (fun r hq => kr r (List.mem_cons_of_mem _ hq)) (fun _ _ => rfl), h4, fun q => by rw [kr r_out List.mem_cons_self]; exact h5 q⟩
end
/-! part 71u05qA -/
section
/-! The relation of the law, group A: the readings -/
abbrev zQ : ZS → ZS → Prop := zR
abbrev zQC : List Nat := zRC
abbrev zQM : List Nat := zRM
theorem zQ_rel : zRel zQ zQC zQM := zR_rel
end
/-! part 71u06 -/
section
/-! The law, turn by turn: its operations, by program (wip/s/lawgen.py) -/
theorem e_lcmp_self {x : Int} : e_lcmp x x = 0 := by
  unfold e_lcmp
  rw [if_neg (by omega), if_pos rfl]
theorem zOp_252 {f : Nat} {x1 : Int} {S : ZS} {X : ZX} (h : z_goes z_Q0 zC301 301 f 252 [x1] S X) (hX : ∃ y, X.1.1 = (0, [y])) (hR : zQ S S) : ∃ f2 S2, f2 < f ∧ z_goes z_Q0 zC301 301 f2 2056 [x1] S2 X ∧ zQ S2 S2 := by
  have h := zL_252 h
  obtain ⟨k, v, S1, S2, e1, e2, hR2, ht, ho⟩ := zQ_rel.two (L := [(e_i2c (S r_script 0 0 (e_wr (x1 + 1)))), (S r_script 0 0 (e_wr (x1 + 2))), (S r_script 0 0 (e_wr (x1 + 3)))]) zK256 zK168 rfl rfl hR (by decide +kernel) (by decide +kernel) (fun c m h => o_film h)
  have hs : S1 r_script = S r_script := by
    have := zK256.r (L := [(e_i2c (S r_script 0 0 (e_wr (x1 + 1)))), (S r_script 0 0 (e_wr (x1 + 2))), (S r_script 0 0 (e_wr (x1 + 3)))]) rfl (S := S) (by rw [e1]) (r := r_script) (by decide +kernel)
    rw [e1] at this
    exact this
  rw [e1, e_bnd, hs, e2, e_bnd] at h
  obtain ⟨f2, h1, h2⟩ := z_post_g (pc := 2056) h
  exact ⟨f2, _, h1, h2, hR2⟩
theorem zOp_306 {f : Nat} {x1 : Int} {S : ZS} {X : ZX} (h : z_goes z_Q0 zC301 301 f 306 [x1] S X) (hX : ∃ y, X.1.1 = (0, [y])) (hR : zQ S S) : ∃ f2 S2, f2 < f ∧ z_goes z_Q0 zC301 301 f2 2056 [x1] S2 X ∧ zQ S2 S2 := by
  have h := zL_306 h
  obtain ⟨k, v, S1, S2, e1, e2, hR2, ht, ho⟩ := zQ_rel.two (L := [(S r_script 0 0 (e_wr (x1 + 1)))]) zK257 zK169 rfl rfl hR (by decide +kernel) (by decide +kernel) (fun c m h => o_reader h)
  have hs : S1 r_script = S r_script := by
    have := zK257.r (L := [(S r_script 0 0 (e_wr (x1 + 1)))]) rfl (S := S) (by rw [e1]) (r := r_script) (by decide +kernel)
    rw [e1] at this
    exact this
  rw [e1, e_bnd, hs, e2, e_bnd] at h
  obtain ⟨f2, h1, h2⟩ := z_post_g (pc := 2056) h
  exact ⟨f2, _, h1, h2, hR2⟩
theorem zOp_334 {f : Nat} {x1 : Int} {S : ZS} {X : ZX} (h : z_goes z_Q0 zC301 301 f 334 [x1] S X) (hX : ∃ y, X.1.1 = (0, [y])) (hR : zQ S S) : ∃ f2 S2, f2 < f ∧ z_goes z_Q0 zC301 301 f2 2056 [x1] S2 X ∧ zQ S2 S2 := by
  have h := zL_334 h
  obtain ⟨k, v, S1, S2, e1, e2, hR2, ht, ho⟩ := zQ_rel.two (L := [(S r_script 0 0 (e_wr (x1 + 1))), (S r_script 0 0 (e_wr (x1 + 2)))]) zK258 zK171 rfl rfl hR (by decide +kernel) (by decide +kernel) (fun c m h => o_deal h)
  have hs : S1 r_script = S r_script := by
    have := zK258.r (L := [(S r_script 0 0 (e_wr (x1 + 1))), (S r_script 0 0 (e_wr (x1 + 2)))]) rfl (S := S) (by rw [e1]) (r := r_script) (by decide +kernel)
    rw [e1] at this
    exact this
  rw [e1, e_bnd, hs, e2, e_bnd] at h
  rw [show v_m_thrown S2 = k from ht] at h
  simp only [zb_d, zb_n, ↓reduceIte] at h
  by_cases hk : k = 0
  · simp only [hk, ↓reduceIte, ho hk, e_lcmp_self] at h
    obtain ⟨f2, h1, h2⟩ := z_post_g (pc := 2056) h
    exact ⟨f2, _, h1, h2, hR2⟩
  · rw [if_neg hk] at h
    obtain ⟨f2, h1, h2⟩ := z_post_g (pc := 2056) h
    exact ⟨f2, _, h1, h2, hR2⟩
theorem zOp_402 {f : Nat} {x1 : Int} {S : ZS} {X : ZX} (h : z_goes z_Q0 zC301 301 f 402 [x1] S X) (hX : ∃ y, X.1.1 = (0, [y])) (hR : zQ S S) : ∃ f2 S2, f2 < f ∧ z_goes z_Q0 zC301 301 f2 2056 [x1] S2 X ∧ zQ S2 S2 := by
  have h := zL_402 h
  obtain ⟨c0, h⟩ := z_post_b h hX
  have hR := zQ_rel.keep zK259 rfl c0 (by decide +kernel) hR
  obtain ⟨c1, h⟩ := z_post_b h hX
  have hR := zQ_rel.keep zK173 rfl c1 (by decide +kernel) hR
  obtain ⟨f2, h1, h2⟩ := z_post_g (pc := 2056) h
  exact ⟨f2, _, h1, h2, hR⟩
theorem zOp_442 {f : Nat} {x1 : Int} {S : ZS} {X : ZX} (h : z_goes z_Q0 zC301 301 f 442 [x1] S X) (hX : ∃ y, X.1.1 = (0, [y])) (hR : zQ S S) : ∃ f2 S2, f2 < f ∧ z_goes z_Q0 zC301 301 f2 2056 [x1] S2 X ∧ zQ S2 S2 := by
  have h := zL_442 h
  obtain ⟨k, v, S1, S2, e1, e2, hR2, ht, ho⟩ := zQ_rel.two (L := [(S r_script 0 0 (e_wr (x1 + 1))), (S r_script 0 0 (e_wr (x1 + 2))), (S r_script 0 0 (e_wr (x1 + 3)))]) zK260 zK175 rfl rfl hR (by decide +kernel) (by decide +kernel) (fun c m h => o_read h)
  have hs : S1 r_script = S r_script := by
    have := zK260.r (L := [(S r_script 0 0 (e_wr (x1 + 1))), (S r_script 0 0 (e_wr (x1 + 2))), (S r_script 0 0 (e_wr (x1 + 3)))]) rfl (S := S) (by rw [e1]) (r := r_script) (by decide +kernel)
    rw [e1] at this
    exact this
  rw [e1, e_bnd, hs, e2, e_bnd] at h
  obtain ⟨f2, h1, h2⟩ := z_post_g (pc := 2056) h
  exact ⟨f2, _, h1, h2, hR2⟩
theorem zOp_494 {f : Nat} {x1 : Int} {S : ZS} {X : ZX} (h : z_goes z_Q0 zC301 301 f 494 [x1] S X) (hX : ∃ y, X.1.1 = (0, [y])) (hR : zQ S S) : ∃ f2 S2, f2 < f ∧ z_goes z_Q0 zC301 301 f2 2056 [x1] S2 X ∧ zQ S2 S2 := by
  have h := zL_494 h
  obtain ⟨c0, h⟩ := z_post_b h hX
  have hR := zQ_rel.keep zK261 rfl c0 (by decide +kernel) hR
  obtain ⟨c1, h⟩ := z_post_b h hX
  have hR := zQ_rel.keep zK177 rfl c1 (by decide +kernel) hR
  obtain ⟨f2, h1, h2⟩ := z_post_g (pc := 2056) h
  exact ⟨f2, _, h1, h2, hR⟩
theorem zOp_534 {f : Nat} {x1 : Int} {S : ZS} {X : ZX} (h : z_goes z_Q0 zC301 301 f 534 [x1] S X) (hX : ∃ y, X.1.1 = (0, [y])) (hR : zQ S S) : ∃ f2 S2, f2 < f ∧ z_goes z_Q0 zC301 301 f2 2056 [x1] S2 X ∧ zQ S2 S2 := by
  have h := zL_534 h
  obtain ⟨c0, h⟩ := z_post_b h hX
  have hR := zQ_rel.keep zK262 rfl c0 (by decide +kernel) hR
  obtain ⟨c1, h⟩ := z_post_b h hX
  have hR := zQ_rel.keep zK179 rfl c1 (by decide +kernel) hR
  obtain ⟨f2, h1, h2⟩ := z_post_g (pc := 2056) h
  exact ⟨f2, _, h1, h2, hR⟩
theorem zOp_562 {f : Nat} {x1 : Int} {S : ZS} {X : ZX} (h : z_goes z_Q0 zC301 301 f 562 [x1] S X) (hX : ∃ y, X.1.1 = (0, [y])) (hR : zQ S S) : ∃ f2 S2, f2 < f ∧ z_goes z_Q0 zC301 301 f2 2056 [x1] S2 X ∧ zQ S2 S2 := by
  have h := zL_562 h
  obtain ⟨c0, h⟩ := z_post_b h hX
  have hR := zQ_rel.keep zK263 rfl c0 (by decide +kernel) hR
  obtain ⟨c1, h⟩ := z_post_b h hX
  have hR := zQ_rel.keep zK181 rfl c1 (by decide +kernel) hR
  obtain ⟨f2, h1, h2⟩ := z_post_g (pc := 2056) h
  exact ⟨f2, _, h1, h2, hR⟩
theorem zOp_590 {f : Nat} {x1 : Int} {S : ZS} {X : ZX} (h : z_goes z_Q0 zC301 301 f 590 [x1] S X) (hX : ∃ y, X.1.1 = (0, [y])) (hR : zQ S S) : ∃ f2 S2, f2 < f ∧ z_goes z_Q0 zC301 301 f2 2056 [x1] S2 X ∧ zQ S2 S2 := by
  have h := zL_590 h
  obtain ⟨c0, h⟩ := z_post_b h hX
  have hR := zQ_rel.keep zK264 rfl c0 (by decide +kernel) hR
  obtain ⟨c1, h⟩ := z_post_b h hX
  have hR := zQ_rel.keep zK184 rfl c1 (by decide +kernel) hR
  obtain ⟨f2, h1, h2⟩ := z_post_g (pc := 2056) h
  exact ⟨f2, _, h1, h2, hR⟩
theorem zOp_632 {f : Nat} {x1 : Int} {S : ZS} {X : ZX} (h : z_goes z_Q0 zC301 301 f 632 [x1] S X) (hX : ∃ y, X.1.1 = (0, [y])) (hR : zQ S S) : ∃ f2 S2, f2 < f ∧ z_goes z_Q0 zC301 301 f2 2056 [x1] S2 X ∧ zQ S2 S2 := by
  have h := zL_632 h
  obtain ⟨c0, h⟩ := z_post_b h hX
  have hR := zQ_rel.keep zK265 rfl c0 (by decide +kernel) hR
  obtain ⟨c1, h⟩ := z_post_b h hX
  have hR := zQ_rel.keep zK185 rfl c1 (by decide +kernel) hR
  obtain ⟨f2, h1, h2⟩ := z_post_g (pc := 2056) h
  exact ⟨f2, _, h1, h2, hR⟩
theorem zOp_712 {f : Nat} {x1 : Int} {S : ZS} {X : ZX} (h : z_goes z_Q0 zC301 301 f 712 [x1] S X) (hX : ∃ y, X.1.1 = (0, [y])) (hR : zQ S S) : ∃ f2 S2, f2 < f ∧ z_goes z_Q0 zC301 301 f2 2056 [x1] S2 X ∧ zQ S2 S2 := by
  have h := zL_712 h
  obtain ⟨c0, h⟩ := z_post_b h hX
  have hR := zQ_rel.keep zK266 rfl c0 (by decide +kernel) hR
  obtain ⟨c1, h⟩ := z_post_b h hX
  have hR := zQ_rel.keep zK190 rfl c1 (by decide +kernel) hR
  obtain ⟨f2, h1, h2⟩ := z_post_g (pc := 2056) h
  exact ⟨f2, _, h1, h2, hR⟩
theorem zOp_740 {f : Nat} {x1 : Int} {S : ZS} {X : ZX} (h : z_goes z_Q0 zC301 301 f 740 [x1] S X) (hX : ∃ y, X.1.1 = (0, [y])) (hR : zQ S S) : ∃ f2 S2, f2 < f ∧ z_goes z_Q0 zC301 301 f2 2056 [x1] S2 X ∧ zQ S2 S2 := by
  have h := zL_740 h
  obtain ⟨c0, h⟩ := z_post_b h hX
  have hR := zQ_rel.keep zK267 rfl c0 (by decide +kernel) hR
  obtain ⟨c1, h⟩ := z_post_b h hX
  have hR := zQ_rel.keep zK191 rfl c1 (by decide +kernel) hR
  obtain ⟨f2, h1, h2⟩ := z_post_g (pc := 2056) h
  exact ⟨f2, _, h1, h2, hR⟩
theorem zOp_768 {f : Nat} {x1 : Int} {S : ZS} {X : ZX} (h : z_goes z_Q0 zC301 301 f 768 [x1] S X) (hX : ∃ y, X.1.1 = (0, [y])) (hR : zQ S S) : ∃ f2 S2, f2 < f ∧ z_goes z_Q0 zC301 301 f2 2056 [x1] S2 X ∧ zQ S2 S2 := by
  have h := zL_768 h
  obtain ⟨c0, h⟩ := z_post_b h hX
  have hR := zQ_rel.keep zK268 rfl c0 (by decide +kernel) hR
  obtain ⟨c1, h⟩ := z_post_b h hX
  have hR := zQ_rel.keep zK192 rfl c1 (by decide +kernel) hR
  obtain ⟨f2, h1, h2⟩ := z_post_g (pc := 2056) h
  exact ⟨f2, _, h1, h2, hR⟩
theorem zOp_796 {f : Nat} {x1 : Int} {S : ZS} {X : ZX} (h : z_goes z_Q0 zC301 301 f 796 [x1] S X) (hX : ∃ y, X.1.1 = (0, [y])) (hR : zQ S S) : ∃ f2 S2, f2 < f ∧ z_goes z_Q0 zC301 301 f2 2056 [x1] S2 X ∧ zQ S2 S2 := by
  have h := zL_796 h
  obtain ⟨c0, h⟩ := z_post_b h hX
  have hR := zQ_rel.keep zK269 rfl c0 (by decide +kernel) hR
  obtain ⟨c1, h⟩ := z_post_b h hX
  have hR := zQ_rel.keep zK193 rfl c1 (by decide +kernel) hR
  obtain ⟨f2, h1, h2⟩ := z_post_g (pc := 2056) h
  exact ⟨f2, _, h1, h2, hR⟩
theorem zOp_824 {f : Nat} {x1 : Int} {S : ZS} {X : ZX} (h : z_goes z_Q0 zC301 301 f 824 [x1] S X) (hX : ∃ y, X.1.1 = (0, [y])) (hR : zQ S S) : ∃ f2 S2, f2 < f ∧ z_goes z_Q0 zC301 301 f2 2056 [x1] S2 X ∧ zQ S2 S2 := by
  have h := zL_824 h
  obtain ⟨c0, h⟩ := z_post_b h hX
  have hR := zQ_rel.keep zK270 rfl c0 (by decide +kernel) hR
  obtain ⟨c1, h⟩ := z_post_b h hX
  have hR := zQ_rel.keep zK194 rfl c1 (by decide +kernel) hR
  obtain ⟨f2, h1, h2⟩ := z_post_g (pc := 2056) h
  exact ⟨f2, _, h1, h2, hR⟩
theorem zOp_852 {f : Nat} {x1 : Int} {S : ZS} {X : ZX} (h : z_goes z_Q0 zC301 301 f 852 [x1] S X) (hX : ∃ y, X.1.1 = (0, [y])) (hR : zQ S S) : ∃ f2 S2, f2 < f ∧ z_goes z_Q0 zC301 301 f2 2056 [x1] S2 X ∧ zQ S2 S2 := by
  have h := zL_852 h
  rw [zb_d] at h
  split at h
  · obtain ⟨c0, h⟩ := z_post_b h hX
    have hR := zQ_rel.keep zK271 rfl c0 (by decide +kernel) hR
    rw [zb_d] at h
    split at h
    · obtain ⟨c1, h⟩ := z_post_b h hX
      have hR := zQ_rel.keep zK195 rfl c1 (by decide +kernel) hR
      obtain ⟨f2, h1, h2⟩ := z_post_g (pc := 2056) h
      exact ⟨f2, _, h1, h2, hR⟩
    · obtain ⟨c1, h⟩ := z_post_b h hX
      have hR := zQ_rel.keep zK195 rfl c1 (by decide +kernel) hR
      obtain ⟨f2, h1, h2⟩ := z_post_g (pc := 2056) h
      exact ⟨f2, _, h1, h2, hR⟩
  · obtain ⟨c0, h⟩ := z_post_b h hX
    have hR := zQ_rel.keep zK271 rfl c0 (by decide +kernel) hR
    rw [zb_d] at h
    split at h
    · obtain ⟨c1, h⟩ := z_post_b h hX
      have hR := zQ_rel.keep zK195 rfl c1 (by decide +kernel) hR
      obtain ⟨f2, h1, h2⟩ := z_post_g (pc := 2056) h
      exact ⟨f2, _, h1, h2, hR⟩
    · obtain ⟨c1, h⟩ := z_post_b h hX
      have hR := zQ_rel.keep zK195 rfl c1 (by decide +kernel) hR
      obtain ⟨f2, h1, h2⟩ := z_post_g (pc := 2056) h
      exact ⟨f2, _, h1, h2, hR⟩
theorem zOp_908 {f : Nat} {x1 : Int} {S : ZS} {X : ZX} (h : z_goes z_Q0 zC301 301 f 908 [x1] S X) (hX : ∃ y, X.1.1 = (0, [y])) (hR : zQ S S) : ∃ f2 S2, f2 < f ∧ z_goes z_Q0 zC301 301 f2 2056 [x1] S2 X ∧ zQ S2 S2 := by
  have h := zL_908 h
  obtain ⟨c0, h⟩ := z_post_b h hX
  have hR := zQ_rel.keep zK272 rfl c0 (by decide +kernel) hR
  obtain ⟨c1, h⟩ := z_post_b h hX
  have hR := zQ_rel.keep zK198 rfl c1 (by decide +kernel) hR
  obtain ⟨f2, h1, h2⟩ := z_post_g (pc := 2056) h
  exact ⟨f2, _, h1, h2, hR⟩
theorem zOp_962 {f : Nat} {x1 : Int} {S : ZS} {X : ZX} (h : z_goes z_Q0 zC301 301 f 962 [x1] S X) (hX : ∃ y, X.1.1 = (0, [y])) (hR : zQ S S) : ∃ f2 S2, f2 < f ∧ z_goes z_Q0 zC301 301 f2 2056 [x1] S2 X ∧ zQ S2 S2 := by
  have h := zL_962 h
  obtain ⟨c0, h⟩ := z_post_b h hX
  have hR := zQ_rel.keep zK273 rfl c0 (by decide +kernel) hR
  obtain ⟨c1, h⟩ := z_post_b h hX
  have hR := zQ_rel.keep zK199 rfl c1 (by decide +kernel) hR
  obtain ⟨f2, h1, h2⟩ := z_post_g (pc := 2056) h
  exact ⟨f2, _, h1, h2, hR⟩
theorem zOp_1026 {f : Nat} {x1 : Int} {S : ZS} {X : ZX} (h : z_goes z_Q0 zC301 301 f 1026 [x1] S X) (hX : ∃ y, X.1.1 = (0, [y])) (hR : zQ S S) : ∃ f2 S2, f2 < f ∧ z_goes z_Q0 zC301 301 f2 2056 [x1] S2 X ∧ zQ S2 S2 := by
  have h := zL_1026 h
  obtain ⟨c0, h⟩ := z_post_b h hX
  have hR := zQ_rel.keep zK274 rfl c0 (by decide +kernel) hR
  obtain ⟨c1, h⟩ := z_post_b h hX
  have hR := zQ_rel.keep zK201 rfl c1 (by decide +kernel) hR
  obtain ⟨f2, h1, h2⟩ := z_post_g (pc := 2056) h
  exact ⟨f2, _, h1, h2, hR⟩
theorem zOp_1078 {f : Nat} {x1 : Int} {S : ZS} {X : ZX} (h : z_goes z_Q0 zC301 301 f 1078 [x1] S X) (hX : ∃ y, X.1.1 = (0, [y])) (hR : zQ S S) : ∃ f2 S2, f2 < f ∧ z_goes z_Q0 zC301 301 f2 2056 [x1] S2 X ∧ zQ S2 S2 := by
  have h := zL_1078 h
  obtain ⟨c0, h⟩ := z_post_b h hX
  have hR := zQ_rel.keep zK275 rfl c0 (by decide +kernel) hR
  obtain ⟨c1, h⟩ := z_post_b h hX
  have hR := zQ_rel.keep zK209 rfl c1 (by decide +kernel) hR
  obtain ⟨f2, h1, h2⟩ := z_post_g (pc := 2056) h
  exact ⟨f2, _, h1, h2, hR⟩
theorem zOp_1130 {f : Nat} {x1 : Int} {S : ZS} {X : ZX} (h : z_goes z_Q0 zC301 301 f 1130 [x1] S X) (hX : ∃ y, X.1.1 = (0, [y])) (hR : zQ S S) : ∃ f2 S2, f2 < f ∧ z_goes z_Q0 zC301 301 f2 2056 [x1] S2 X ∧ zQ S2 S2 := by
  have h := zL_1130 h
  obtain ⟨c0, h⟩ := z_post_b h hX
  have hR := zQ_rel.keep zK276 rfl c0 (by decide +kernel) hR
  obtain ⟨c1, h⟩ := z_post_b h hX
  have hR := zQ_rel.keep zK211 rfl c1 (by decide +kernel) hR
  obtain ⟨f2, h1, h2⟩ := z_post_g (pc := 2056) h
  exact ⟨f2, _, h1, h2, hR⟩
theorem zOp_1158 {f : Nat} {x1 : Int} {S : ZS} {X : ZX} (h : z_goes z_Q0 zC301 301 f 1158 [x1] S X) (hX : ∃ y, X.1.1 = (0, [y])) (hR : zQ S S) : ∃ f2 S2, f2 < f ∧ z_goes z_Q0 zC301 301 f2 2056 [x1] S2 X ∧ zQ S2 S2 := by
  have h := zL_1158 h
  obtain ⟨c0, h⟩ := z_post_b h hX
  have hR := zQ_rel.keep zK277 rfl c0 (by decide +kernel) hR
  obtain ⟨c1, h⟩ := z_post_b h hX
  have hR := zQ_rel.keep zK213 rfl c1 (by decide +kernel) hR
  obtain ⟨f2, h1, h2⟩ := z_post_g (pc := 2056) h
  exact ⟨f2, _, h1, h2, hR⟩
theorem zOp_1200 {f : Nat} {x1 : Int} {S : ZS} {X : ZX} (h : z_goes z_Q0 zC301 301 f 1200 [x1] S X) (hX : ∃ y, X.1.1 = (0, [y])) (hR : zQ S S) : ∃ f2 S2, f2 < f ∧ z_goes z_Q0 zC301 301 f2 2056 [x1] S2 X ∧ zQ S2 S2 := by
  have h := zL_1200 h
  obtain ⟨c0, h⟩ := z_post_b h hX
  have hR := zQ_rel.keep zK278 rfl c0 (by decide +kernel) hR
  obtain ⟨c1, h⟩ := z_post_b h hX
  have hR := zQ_rel.keep zK214 rfl c1 (by decide +kernel) hR
  obtain ⟨f2, h1, h2⟩ := z_post_g (pc := 2056) h
  exact ⟨f2, _, h1, h2, hR⟩
theorem zOp_1228 {f : Nat} {x1 : Int} {S : ZS} {X : ZX} (h : z_goes z_Q0 zC301 301 f 1228 [x1] S X) (hX : ∃ y, X.1.1 = (0, [y])) (hR : zQ S S) : ∃ f2 S2, f2 < f ∧ z_goes z_Q0 zC301 301 f2 2056 [x1] S2 X ∧ zQ S2 S2 := by
  have h := zL_1228 h
  obtain ⟨c0, h⟩ := z_post_b h hX
  have hR := zQ_rel.keep zK279 rfl c0 (by decide +kernel) hR
  obtain ⟨c1, h⟩ := z_post_b h hX
  have hR := zQ_rel.keep zK215 rfl c1 (by decide +kernel) hR
  obtain ⟨f2, h1, h2⟩ := z_post_g (pc := 2056) h
  exact ⟨f2, _, h1, h2, hR⟩
theorem zOp_1268 {f : Nat} {x1 : Int} {S : ZS} {X : ZX} (h : z_goes z_Q0 zC301 301 f 1268 [x1] S X) (hX : ∃ y, X.1.1 = (0, [y])) (hR : zQ S S) : ∃ f2 S2, f2 < f ∧ z_goes z_Q0 zC301 301 f2 2056 [x1] S2 X ∧ zQ S2 S2 := by
  have h := zL_1268 h
  obtain ⟨c0, h⟩ := z_post_b h hX
  have hR := zQ_rel.keep zK280 rfl c0 (by decide +kernel) hR
  obtain ⟨c1, h⟩ := z_post_b h hX
  have hR := zQ_rel.keep zK216 rfl c1 (by decide +kernel) hR
  obtain ⟨f2, h1, h2⟩ := z_post_g (pc := 2056) h
  exact ⟨f2, _, h1, h2, hR⟩
theorem zOp_1296 {f : Nat} {x1 : Int} {S : ZS} {X : ZX} (h : z_goes z_Q0 zC301 301 f 1296 [x1] S X) (hX : ∃ y, X.1.1 = (0, [y])) (hR : zQ S S) : ∃ f2 S2, f2 < f ∧ z_goes z_Q0 zC301 301 f2 2056 [x1] S2 X ∧ zQ S2 S2 := by
  have h := zL_1296 h
  obtain ⟨c0, h⟩ := z_post_b h hX
  have hR := zQ_rel.keep zK217 rfl c0 (by decide +kernel) hR
  obtain ⟨f2, h1, h2⟩ := z_post_g (pc := 2056) h
  exact ⟨f2, _, h1, h2, hR⟩
theorem zOp_1309 {f : Nat} {x1 : Int} {S : ZS} {X : ZX} (h : z_goes z_Q0 zC301 301 f 1309 [x1] S X) (hX : ∃ y, X.1.1 = (0, [y])) (hR : zQ S S) : ∃ f2 S2, f2 < f ∧ z_goes z_Q0 zC301 301 f2 2056 [x1] S2 X ∧ zQ S2 S2 := by
  have h := zL_1309 h
  obtain ⟨c0, h⟩ := z_post_b h hX
  have hR := zQ_rel.keep zK281 rfl c0 (by decide +kernel) hR
  obtain ⟨c1, h⟩ := z_post_b h hX
  have hR := zQ_rel.keep zK221 rfl c1 (by decide +kernel) hR
  obtain ⟨f2, h1, h2⟩ := z_post_g (pc := 2056) h
  exact ⟨f2, _, h1, h2, hR⟩
theorem zOp_1337 {f : Nat} {x1 : Int} {S : ZS} {X : ZX} (h : z_goes z_Q0 zC301 301 f 1337 [x1] S X) (hX : ∃ y, X.1.1 = (0, [y])) (hR : zQ S S) : ∃ f2 S2, f2 < f ∧ z_goes z_Q0 zC301 301 f2 2056 [x1] S2 X ∧ zQ S2 S2 := by
  have h := zL_1337 h
  obtain ⟨c0, h⟩ := z_post_b h hX
  have hR := zQ_rel.keep zK282 rfl c0 (by decide +kernel) hR
  obtain ⟨c1, h⟩ := z_post_b h hX
  have hR := zQ_rel.keep zK222 rfl c1 (by decide +kernel) hR
  obtain ⟨f2, h1, h2⟩ := z_post_g (pc := 2056) h
  exact ⟨f2, _, h1, h2, hR⟩
theorem zOp_1377 {f : Nat} {x1 : Int} {S : ZS} {X : ZX} (h : z_goes z_Q0 zC301 301 f 1377 [x1] S X) (hX : ∃ y, X.1.1 = (0, [y])) (hR : zQ S S) : ∃ f2 S2, f2 < f ∧ z_goes z_Q0 zC301 301 f2 2056 [x1] S2 X ∧ zQ S2 S2 := by
  have h := zL_1377 h
  obtain ⟨c0, h⟩ := z_post_b h hX
  have hR := zQ_rel.keep zK283 rfl c0 (by decide +kernel) hR
  obtain ⟨c1, h⟩ := z_post_b h hX
  have hR := zQ_rel.keep zK223 rfl c1 (by decide +kernel) hR
  obtain ⟨f2, h1, h2⟩ := z_post_g (pc := 2056) h
  exact ⟨f2, _, h1, h2, hR⟩
theorem zOp_1405 {f : Nat} {x1 : Int} {S : ZS} {X : ZX} (h : z_goes z_Q0 zC301 301 f 1405 [x1] S X) (hX : ∃ y, X.1.1 = (0, [y])) (hR : zQ S S) : ∃ f2 S2, f2 < f ∧ z_goes z_Q0 zC301 301 f2 2056 [x1] S2 X ∧ zQ S2 S2 := by
  have h := zL_1405 h
  obtain ⟨c0, h⟩ := z_post_b h hX
  have hR := zQ_rel.keep zK284 rfl c0 (by decide +kernel) hR
  obtain ⟨c1, h⟩ := z_post_b h hX
  have hR := zQ_rel.keep zK224 rfl c1 (by decide +kernel) hR
  obtain ⟨f2, h1, h2⟩ := z_post_g (pc := 2056) h
  exact ⟨f2, _, h1, h2, hR⟩
theorem zOp_1433 {f : Nat} {x1 : Int} {S : ZS} {X : ZX} (h : z_goes z_Q0 zC301 301 f 1433 [x1] S X) (hX : ∃ y, X.1.1 = (0, [y])) (hR : zQ S S) : ∃ f2 S2, f2 < f ∧ z_goes z_Q0 zC301 301 f2 2056 [x1] S2 X ∧ zQ S2 S2 := by
  have h := zL_1433 h
  obtain ⟨c0, h⟩ := z_post_b h hX
  have hR := zQ_rel.keep zK285 rfl c0 (by decide +kernel) hR
  obtain ⟨c1, h⟩ := z_post_b h hX
  have hR := zQ_rel.keep zK226 rfl c1 (by decide +kernel) hR
  obtain ⟨f2, h1, h2⟩ := z_post_g (pc := 2056) h
  exact ⟨f2, _, h1, h2, hR⟩
theorem zOp_1473 {f : Nat} {x1 : Int} {S : ZS} {X : ZX} (h : z_goes z_Q0 zC301 301 f 1473 [x1] S X) (hX : ∃ y, X.1.1 = (0, [y])) (hR : zQ S S) : ∃ f2 S2, f2 < f ∧ z_goes z_Q0 zC301 301 f2 2056 [x1] S2 X ∧ zQ S2 S2 := by
  have h := zL_1473 h
  obtain ⟨c0, h⟩ := z_post_b h hX
  have hR := zQ_rel.keep zK286 rfl c0 (by decide +kernel) hR
  obtain ⟨c1, h⟩ := z_post_b h hX
  have hR := zQ_rel.keep zK228 rfl c1 (by decide +kernel) hR
  obtain ⟨f2, h1, h2⟩ := z_post_g (pc := 2056) h
  exact ⟨f2, _, h1, h2, hR⟩
theorem zOp_1501 {f : Nat} {x1 : Int} {S : ZS} {X : ZX} (h : z_goes z_Q0 zC301 301 f 1501 [x1] S X) (hX : ∃ y, X.1.1 = (0, [y])) (hR : zQ S S) : ∃ f2 S2, f2 < f ∧ z_goes z_Q0 zC301 301 f2 2056 [x1] S2 X ∧ zQ S2 S2 := by
  have h := zL_1501 h
  obtain ⟨c0, h⟩ := z_post_b h hX
  have hR := zQ_rel.keep zK287 rfl c0 (by decide +kernel) hR
  obtain ⟨c1, h⟩ := z_post_b h hX
  have hR := zQ_rel.keep zK229 rfl c1 (by decide +kernel) hR
  obtain ⟨f2, h1, h2⟩ := z_post_g (pc := 2056) h
  exact ⟨f2, _, h1, h2, hR⟩
theorem zOp_1541 {f : Nat} {x1 : Int} {S : ZS} {X : ZX} (h : z_goes z_Q0 zC301 301 f 1541 [x1] S X) (hX : ∃ y, X.1.1 = (0, [y])) (hR : zQ S S) : ∃ f2 S2, f2 < f ∧ z_goes z_Q0 zC301 301 f2 2056 [x1] S2 X ∧ zQ S2 S2 := by
  have h := zL_1541 h
  obtain ⟨c0, h⟩ := z_post_b h hX
  have hR := zQ_rel.keep zK288 rfl c0 (by decide +kernel) hR
  obtain ⟨c1, h⟩ := z_post_b h hX
  have hR := zQ_rel.keep zK230 rfl c1 (by decide +kernel) hR
  obtain ⟨f2, h1, h2⟩ := z_post_g (pc := 2056) h
  exact ⟨f2, _, h1, h2, hR⟩
theorem zOp_1581 {f : Nat} {x1 : Int} {S : ZS} {X : ZX} (h : z_goes z_Q0 zC301 301 f 1581 [x1] S X) (hX : ∃ y, X.1.1 = (0, [y])) (hR : zQ S S) : ∃ f2 S2, f2 < f ∧ z_goes z_Q0 zC301 301 f2 2056 [x1] S2 X ∧ zQ S2 S2 := by
  have h := zL_1581 h
  obtain ⟨c0, h⟩ := z_post_b h hX
  have hR := zQ_rel.keep zK289 rfl c0 (by decide +kernel) hR
  obtain ⟨c1, h⟩ := z_post_b h hX
  have hR := zQ_rel.keep zK231 rfl c1 (by decide +kernel) hR
  obtain ⟨f2, h1, h2⟩ := z_post_g (pc := 2056) h
  exact ⟨f2, _, h1, h2, hR⟩
theorem zOp_1623 {f : Nat} {x1 : Int} {S : ZS} {X : ZX} (h : z_goes z_Q0 zC301 301 f 1623 [x1] S X) (hX : ∃ y, X.1.1 = (0, [y])) (hR : zQ S S) : ∃ f2 S2, f2 < f ∧ z_goes z_Q0 zC301 301 f2 2056 [x1] S2 X ∧ zQ S2 S2 := by
  have h := zL_1623 h
  obtain ⟨c0, h⟩ := z_post_b h hX
  have hR := zQ_rel.keep zK290 rfl c0 (by decide +kernel) hR
  obtain ⟨c1, h⟩ := z_post_b h hX
  have hR := zQ_rel.keep zK233 rfl c1 (by decide +kernel) hR
  obtain ⟨f2, h1, h2⟩ := z_post_g (pc := 2056) h
  exact ⟨f2, _, h1, h2, hR⟩
theorem zOp_1675 {f : Nat} {x1 : Int} {S : ZS} {X : ZX} (h : z_goes z_Q0 zC301 301 f 1675 [x1] S X) (hX : ∃ y, X.1.1 = (0, [y])) (hR : zQ S S) : ∃ f2 S2, f2 < f ∧ z_goes z_Q0 zC301 301 f2 2056 [x1] S2 X ∧ zQ S2 S2 := by
  have h := zL_1675 h
  obtain ⟨c0, h⟩ := z_post_b h hX
  have hR := zQ_rel.keep zK291 rfl c0 (by decide +kernel) hR
  obtain ⟨c1, h⟩ := z_post_b h hX
  have hR := zQ_rel.keep zK234 rfl c1 (by decide +kernel) hR
  obtain ⟨f2, h1, h2⟩ := z_post_g (pc := 2056) h
  exact ⟨f2, _, h1, h2, hR⟩
theorem zOp_1703 {f : Nat} {x1 : Int} {S : ZS} {X : ZX} (h : z_goes z_Q0 zC301 301 f 1703 [x1] S X) (hX : ∃ y, X.1.1 = (0, [y])) (hR : zQ S S) : ∃ f2 S2, f2 < f ∧ z_goes z_Q0 zC301 301 f2 2056 [x1] S2 X ∧ zQ S2 S2 := by
  have h := zL_1703 h
  obtain ⟨c0, h⟩ := z_post_b h hX
  have hR := zQ_rel.keep zK127 rfl c0 (by decide +kernel) hR
  obtain ⟨c1, h⟩ := z_post_b h hX
  have hR := zQ_rel.keep zK235 rfl c1 (by decide +kernel) hR
  obtain ⟨f2, h1, h2⟩ := z_post_g (pc := 2056) h
  exact ⟨f2, _, h1, h2, hR⟩
theorem zOp_1716 {f : Nat} {x1 : Int} {S : ZS} {X : ZX} (h : z_goes z_Q0 zC301 301 f 1716 [x1] S X) (hX : ∃ y, X.1.1 = (0, [y])) (hR : zQ S S) : ∃ f2 S2, f2 < f ∧ z_goes z_Q0 zC301 301 f2 2056 [x1] S2 X ∧ zQ S2 S2 := by
  have h := zL_1716 h
  obtain ⟨c0, h⟩ := z_post_b h hX
  have hR := zQ_rel.keep zK292 rfl c0 (by decide +kernel) hR
  obtain ⟨c1, h⟩ := z_post_b h hX
  have hR := zQ_rel.keep zK237 rfl c1 (by decide +kernel) hR
  obtain ⟨f2, h1, h2⟩ := z_post_g (pc := 2056) h
  exact ⟨f2, _, h1, h2, hR⟩
theorem zOp_1756 {f : Nat} {x1 : Int} {S : ZS} {X : ZX} (h : z_goes z_Q0 zC301 301 f 1756 [x1] S X) (hX : ∃ y, X.1.1 = (0, [y])) (hR : zQ S S) : ∃ f2 S2, f2 < f ∧ z_goes z_Q0 zC301 301 f2 2056 [x1] S2 X ∧ zQ S2 S2 := by
  have h := zL_1756 h
  obtain ⟨c0, h⟩ := z_post_b h hX
  have hR := zQ_rel.keep zK293 rfl c0 (by decide +kernel) hR
  obtain ⟨c1, h⟩ := z_post_b h hX
  have hR := zQ_rel.keep zK247 rfl c1 (by decide +kernel) hR
  obtain ⟨f2, h1, h2⟩ := z_post_g (pc := 2056) h
  exact ⟨f2, _, h1, h2, hR⟩
theorem zOp_1784 {f : Nat} {x1 : Int} {S : ZS} {X : ZX} (h : z_goes z_Q0 zC301 301 f 1784 [x1] S X) (hX : ∃ y, X.1.1 = (0, [y])) (hR : zQ S S) : ∃ f2 S2, f2 < f ∧ z_goes z_Q0 zC301 301 f2 2056 [x1] S2 X ∧ zQ S2 S2 := by
  have h := zL_1784 h
  obtain ⟨c0, h⟩ := z_post_b h hX
  have hR := zQ_rel.keep zK294 rfl c0 (by decide +kernel) hR
  obtain ⟨c1, h⟩ := z_post_b h hX
  have hR := zQ_rel.keep zK248 rfl c1 (by decide +kernel) hR
  obtain ⟨f2, h1, h2⟩ := z_post_g (pc := 2056) h
  exact ⟨f2, _, h1, h2, hR⟩
theorem zOp_1812 {f : Nat} {x1 : Int} {S : ZS} {X : ZX} (h : z_goes z_Q0 zC301 301 f 1812 [x1] S X) (hX : ∃ y, X.1.1 = (0, [y])) (hR : zQ S S) : ∃ f2 S2, f2 < f ∧ z_goes z_Q0 zC301 301 f2 2056 [x1] S2 X ∧ zQ S2 S2 := by
  have h := zL_1812 h
  obtain ⟨c0, h⟩ := z_post_b h hX
  have hR := zQ_rel.keep zK295 rfl c0 (by decide +kernel) hR
  obtain ⟨c1, h⟩ := z_post_b h hX
  have hR := zQ_rel.keep zK249 rfl c1 (by decide +kernel) hR
  obtain ⟨f2, h1, h2⟩ := z_post_g (pc := 2056) h
  exact ⟨f2, _, h1, h2, hR⟩
theorem zOp_1888 {f : Nat} {x1 : Int} {S : ZS} {X : ZX} (h : z_goes z_Q0 zC301 301 f 1888 [x1] S X) (hX : ∃ y, X.1.1 = (0, [y])) (hR : zQ S S) : ∃ f2 S2, f2 < f ∧ z_goes z_Q0 zC301 301 f2 2056 [x1] S2 X ∧ zQ S2 S2 := by
  have h := zL_1888 h
  obtain ⟨c0, h⟩ := z_post_b h hX
  have hR := zQ_rel.keep zK296 rfl c0 (by decide +kernel) hR
  obtain ⟨c1, h⟩ := z_post_b h hX
  have hR := zQ_rel.keep zK250 rfl c1 (by decide +kernel) hR
  obtain ⟨f2, h1, h2⟩ := z_post_g (pc := 2056) h
  exact ⟨f2, _, h1, h2, hR⟩
theorem zOp_1940 {f : Nat} {x1 : Int} {S : ZS} {X : ZX} (h : z_goes z_Q0 zC301 301 f 1940 [x1] S X) (hX : ∃ y, X.1.1 = (0, [y])) (hR : zQ S S) : ∃ f2 S2, f2 < f ∧ z_goes z_Q0 zC301 301 f2 2056 [x1] S2 X ∧ zQ S2 S2 := by
  have h := zL_1940 h
  rw [zb_d] at h
  split at h
  · obtain ⟨c0, h⟩ := z_post_b h hX
    have hR := zQ_rel.keep zK297 rfl c0 (by decide +kernel) hR
    rw [zb_d] at h
    split at h
    · obtain ⟨c1, h⟩ := z_post_b h hX
      have hR := zQ_rel.keep zK251 rfl c1 (by decide +kernel) hR
      obtain ⟨f2, h1, h2⟩ := z_post_g (pc := 2056) h
      exact ⟨f2, _, h1, h2, hR⟩
    · obtain ⟨c1, h⟩ := z_post_b h hX
      have hR := zQ_rel.keep zK251 rfl c1 (by decide +kernel) hR
      obtain ⟨f2, h1, h2⟩ := z_post_g (pc := 2056) h
      exact ⟨f2, _, h1, h2, hR⟩
  · obtain ⟨c0, h⟩ := z_post_b h hX
    have hR := zQ_rel.keep zK297 rfl c0 (by decide +kernel) hR
    rw [zb_d] at h
    split at h
    · obtain ⟨c1, h⟩ := z_post_b h hX
      have hR := zQ_rel.keep zK251 rfl c1 (by decide +kernel) hR
      obtain ⟨f2, h1, h2⟩ := z_post_g (pc := 2056) h
      exact ⟨f2, _, h1, h2, hR⟩
    · obtain ⟨c1, h⟩ := z_post_b h hX
      have hR := zQ_rel.keep zK251 rfl c1 (by decide +kernel) hR
      obtain ⟨f2, h1, h2⟩ := z_post_g (pc := 2056) h
      exact ⟨f2, _, h1, h2, hR⟩
theorem zOp_1996 {f : Nat} {x1 : Int} {S : ZS} {X : ZX} (h : z_goes z_Q0 zC301 301 f 1996 [x1] S X) (hX : ∃ y, X.1.1 = (0, [y])) (hR : zQ S S) : ∃ f2 S2, f2 < f ∧ z_goes z_Q0 zC301 301 f2 2056 [x1] S2 X ∧ zQ S2 S2 := by
  have h := zL_1996 h
  obtain ⟨c0, h⟩ := z_post_b h hX
  have hR := zQ_rel.keep zK134 rfl c0 (by decide +kernel) hR
  obtain ⟨c1, h⟩ := z_post_b h hX
  have hR := zQ_rel.keep zK252 rfl c1 (by decide +kernel) hR
  obtain ⟨f2, h1, h2⟩ := z_post_g (pc := 2056) h
  exact ⟨f2, _, h1, h2, hR⟩
theorem zOp_2009 {f : Nat} {x1 : Int} {S : ZS} {X : ZX} (h : z_goes z_Q0 zC301 301 f 2009 [x1] S X) (hX : ∃ y, X.1.1 = (0, [y])) (hR : zQ S S) : ∃ f2 S2, f2 < f ∧ z_goes z_Q0 zC301 301 f2 2056 [x1] S2 X ∧ zQ S2 S2 := by
  have h := zL_2009 h
  obtain ⟨c0, h⟩ := z_post_b h hX
  have hR := zQ_rel.keep zK298 rfl c0 (by decide +kernel) hR
  obtain ⟨c1, h⟩ := z_post_b h hX
  have hR := zQ_rel.keep zK253 rfl c1 (by decide +kernel) hR
  obtain ⟨f2, h1, h2⟩ := z_post_g (pc := 2056) h
  exact ⟨f2, _, h1, h2, hR⟩
theorem zOp_2026 {f : Nat} {x1 : Int} {S : ZS} {X : ZX} (h : z_goes z_Q0 zC301 301 f 2026 [x1] S X) (hX : ∃ y, X.1.1 = (0, [y])) (hR : zQ S S) : ∃ f2 S2, f2 < f ∧ z_goes z_Q0 zC301 301 f2 2056 [x1] S2 X ∧ zQ S2 S2 := by
  have h := zL_2026 h
  obtain ⟨c0, h⟩ := z_post_b h hX
  have hR := zQ_rel.keep zK299 rfl c0 (by decide +kernel) hR
  obtain ⟨c1, h⟩ := z_post_b h hX
  have hR := zQ_rel.keep zK254 rfl c1 (by decide +kernel) hR
  obtain ⟨f2, h1, h2⟩ := z_post_g (pc := 2056) h
  exact ⟨f2, _, h1, h2, hR⟩
theorem zOp_2043 {f : Nat} {x1 : Int} {S : ZS} {X : ZX} (h : z_goes z_Q0 zC301 301 f 2043 [x1] S X) (hX : ∃ y, X.1.1 = (0, [y])) (hR : zQ S S) : ∃ f2 S2, f2 < f ∧ z_goes z_Q0 zC301 301 f2 2056 [x1] S2 X ∧ zQ S2 S2 := by
  have h := zL_2043 h
  obtain ⟨c0, h⟩ := z_post_b h hX
  have hR := zQ_rel.keep zK137 rfl c0 (by decide +kernel) hR
  obtain ⟨c1, h⟩ := z_post_b h hX
  have hR := zQ_rel.keep zK255 rfl c1 (by decide +kernel) hR
  obtain ⟨f2, h1, h2⟩ := z_post_g (pc := 2056) h
  exact ⟨f2, _, h1, h2, hR⟩
theorem z_law : ∀ (f : Nat) (i : Int) (S : ZS) (X : ZX), (∃ y, X.1.1 = (0, [y])) → zQ S S → z_goes z_Q0 zC301 301 f 28 [i] S X → X.1.1 = (0, [1]) := by
  intro f
  induction f using Nat.strongRecOn with
  | ind f ih =>
    intro i S X hX hR hg
    have h := zL_28 hg
    rw [zb_d] at h
    split at h
    · exact congrArg Prod.fst (z_post_r (by decide) h)
    · obtain ⟨f1, h1, h2⟩ := z_post_g h
      have key : ∃ f2 S2, f2 < f ∧ z_goes z_Q0 zC301 301 f2 2056 [i] S2 X ∧ zQ S2 S2 := by
        generalize e_and (S r_script 0 0 i) 63 = q at h2
        rcases (e_sw_in : e_sw q 0 [(252, 0), (306, 0), (334, 0), (402, 0), (442, 0), (494, 0), (534, 0), (562, 0), (590, 0), (632, 0), (712, 0), (740, 0), (768, 0), (796, 0), (824, 0), (852, 0), (908, 0), (962, 0), (1026, 0), (1078, 0), (1130, 0), (1158, 0), (1200, 0), (1228, 0), (1268, 0), (1296, 0), (1309, 0), (1337, 0), (1377, 0), (1405, 0), (1433, 0), (1473, 0), (1501, 0), (1541, 0), (1581, 0), (1623, 0), (1675, 0), (1703, 0), (1716, 0), (1756, 0), (1784, 0), (1812, 0), (1888, 0), (1940, 0), (1996, 0), (2009, 0), (2026, 0), (2043, 0)] 2056 = _ ∨ _) with e | ⟨t, ht, e⟩
        · rw [e] at h2
          exact ⟨f1, S, h1, h2, hR⟩
        · rw [e] at h2
          simp only [List.mem_cons, List.not_mem_nil, or_false] at ht
          rcases ht with rfl | rfl | rfl | rfl | rfl | rfl | rfl | rfl | rfl | rfl | rfl | rfl | rfl | rfl | rfl | rfl | rfl | rfl | rfl | rfl | rfl | rfl | rfl | rfl | rfl | rfl | rfl | rfl | rfl | rfl | rfl | rfl | rfl | rfl | rfl | rfl | rfl | rfl | rfl | rfl | rfl | rfl | rfl | rfl | rfl | rfl | rfl | rfl
          · obtain ⟨f2, S2, k1, k2, k3⟩ := zOp_252 h2 hX hR
            exact ⟨f2, S2, Nat.lt_trans k1 h1, k2, k3⟩
          · obtain ⟨f2, S2, k1, k2, k3⟩ := zOp_306 h2 hX hR
            exact ⟨f2, S2, Nat.lt_trans k1 h1, k2, k3⟩
          · obtain ⟨f2, S2, k1, k2, k3⟩ := zOp_334 h2 hX hR
            exact ⟨f2, S2, Nat.lt_trans k1 h1, k2, k3⟩
          · obtain ⟨f2, S2, k1, k2, k3⟩ := zOp_402 h2 hX hR
            exact ⟨f2, S2, Nat.lt_trans k1 h1, k2, k3⟩
          · obtain ⟨f2, S2, k1, k2, k3⟩ := zOp_442 h2 hX hR
            exact ⟨f2, S2, Nat.lt_trans k1 h1, k2, k3⟩
          · obtain ⟨f2, S2, k1, k2, k3⟩ := zOp_494 h2 hX hR
            exact ⟨f2, S2, Nat.lt_trans k1 h1, k2, k3⟩
          · obtain ⟨f2, S2, k1, k2, k3⟩ := zOp_534 h2 hX hR
            exact ⟨f2, S2, Nat.lt_trans k1 h1, k2, k3⟩
          · obtain ⟨f2, S2, k1, k2, k3⟩ := zOp_562 h2 hX hR
            exact ⟨f2, S2, Nat.lt_trans k1 h1, k2, k3⟩
          · obtain ⟨f2, S2, k1, k2, k3⟩ := zOp_590 h2 hX hR
            exact ⟨f2, S2, Nat.lt_trans k1 h1, k2, k3⟩
          · obtain ⟨f2, S2, k1, k2, k3⟩ := zOp_632 h2 hX hR
            exact ⟨f2, S2, Nat.lt_trans k1 h1, k2, k3⟩
          · obtain ⟨f2, S2, k1, k2, k3⟩ := zOp_712 h2 hX hR
            exact ⟨f2, S2, Nat.lt_trans k1 h1, k2, k3⟩
          · obtain ⟨f2, S2, k1, k2, k3⟩ := zOp_740 h2 hX hR
            exact ⟨f2, S2, Nat.lt_trans k1 h1, k2, k3⟩
          · obtain ⟨f2, S2, k1, k2, k3⟩ := zOp_768 h2 hX hR
            exact ⟨f2, S2, Nat.lt_trans k1 h1, k2, k3⟩
          · obtain ⟨f2, S2, k1, k2, k3⟩ := zOp_796 h2 hX hR
            exact ⟨f2, S2, Nat.lt_trans k1 h1, k2, k3⟩
          · obtain ⟨f2, S2, k1, k2, k3⟩ := zOp_824 h2 hX hR
            exact ⟨f2, S2, Nat.lt_trans k1 h1, k2, k3⟩
          · obtain ⟨f2, S2, k1, k2, k3⟩ := zOp_852 h2 hX hR
            exact ⟨f2, S2, Nat.lt_trans k1 h1, k2, k3⟩
          · obtain ⟨f2, S2, k1, k2, k3⟩ := zOp_908 h2 hX hR
            exact ⟨f2, S2, Nat.lt_trans k1 h1, k2, k3⟩
          · obtain ⟨f2, S2, k1, k2, k3⟩ := zOp_962 h2 hX hR
            exact ⟨f2, S2, Nat.lt_trans k1 h1, k2, k3⟩
          · obtain ⟨f2, S2, k1, k2, k3⟩ := zOp_1026 h2 hX hR
            exact ⟨f2, S2, Nat.lt_trans k1 h1, k2, k3⟩
          · obtain ⟨f2, S2, k1, k2, k3⟩ := zOp_1078 h2 hX hR
            exact ⟨f2, S2, Nat.lt_trans k1 h1, k2, k3⟩
          · obtain ⟨f2, S2, k1, k2, k3⟩ := zOp_1130 h2 hX hR
            exact ⟨f2, S2, Nat.lt_trans k1 h1, k2, k3⟩
          · obtain ⟨f2, S2, k1, k2, k3⟩ := zOp_1158 h2 hX hR
            exact ⟨f2, S2, Nat.lt_trans k1 h1, k2, k3⟩
          · obtain ⟨f2, S2, k1, k2, k3⟩ := zOp_1200 h2 hX hR
            exact ⟨f2, S2, Nat.lt_trans k1 h1, k2, k3⟩
          · obtain ⟨f2, S2, k1, k2, k3⟩ := zOp_1228 h2 hX hR
            exact ⟨f2, S2, Nat.lt_trans k1 h1, k2, k3⟩
          · obtain ⟨f2, S2, k1, k2, k3⟩ := zOp_1268 h2 hX hR
            exact ⟨f2, S2, Nat.lt_trans k1 h1, k2, k3⟩
          · obtain ⟨f2, S2, k1, k2, k3⟩ := zOp_1296 h2 hX hR
            exact ⟨f2, S2, Nat.lt_trans k1 h1, k2, k3⟩
          · obtain ⟨f2, S2, k1, k2, k3⟩ := zOp_1309 h2 hX hR
            exact ⟨f2, S2, Nat.lt_trans k1 h1, k2, k3⟩
          · obtain ⟨f2, S2, k1, k2, k3⟩ := zOp_1337 h2 hX hR
            exact ⟨f2, S2, Nat.lt_trans k1 h1, k2, k3⟩
          · obtain ⟨f2, S2, k1, k2, k3⟩ := zOp_1377 h2 hX hR
            exact ⟨f2, S2, Nat.lt_trans k1 h1, k2, k3⟩
          · obtain ⟨f2, S2, k1, k2, k3⟩ := zOp_1405 h2 hX hR
            exact ⟨f2, S2, Nat.lt_trans k1 h1, k2, k3⟩
          · obtain ⟨f2, S2, k1, k2, k3⟩ := zOp_1433 h2 hX hR
            exact ⟨f2, S2, Nat.lt_trans k1 h1, k2, k3⟩
          · obtain ⟨f2, S2, k1, k2, k3⟩ := zOp_1473 h2 hX hR
            exact ⟨f2, S2, Nat.lt_trans k1 h1, k2, k3⟩
          · obtain ⟨f2, S2, k1, k2, k3⟩ := zOp_1501 h2 hX hR
            exact ⟨f2, S2, Nat.lt_trans k1 h1, k2, k3⟩
          · obtain ⟨f2, S2, k1, k2, k3⟩ := zOp_1541 h2 hX hR
            exact ⟨f2, S2, Nat.lt_trans k1 h1, k2, k3⟩
          · obtain ⟨f2, S2, k1, k2, k3⟩ := zOp_1581 h2 hX hR
            exact ⟨f2, S2, Nat.lt_trans k1 h1, k2, k3⟩
          · obtain ⟨f2, S2, k1, k2, k3⟩ := zOp_1623 h2 hX hR
            exact ⟨f2, S2, Nat.lt_trans k1 h1, k2, k3⟩
          · obtain ⟨f2, S2, k1, k2, k3⟩ := zOp_1675 h2 hX hR
            exact ⟨f2, S2, Nat.lt_trans k1 h1, k2, k3⟩
          · obtain ⟨f2, S2, k1, k2, k3⟩ := zOp_1703 h2 hX hR
            exact ⟨f2, S2, Nat.lt_trans k1 h1, k2, k3⟩
          · obtain ⟨f2, S2, k1, k2, k3⟩ := zOp_1716 h2 hX hR
            exact ⟨f2, S2, Nat.lt_trans k1 h1, k2, k3⟩
          · obtain ⟨f2, S2, k1, k2, k3⟩ := zOp_1756 h2 hX hR
            exact ⟨f2, S2, Nat.lt_trans k1 h1, k2, k3⟩
          · obtain ⟨f2, S2, k1, k2, k3⟩ := zOp_1784 h2 hX hR
            exact ⟨f2, S2, Nat.lt_trans k1 h1, k2, k3⟩
          · obtain ⟨f2, S2, k1, k2, k3⟩ := zOp_1812 h2 hX hR
            exact ⟨f2, S2, Nat.lt_trans k1 h1, k2, k3⟩
          · obtain ⟨f2, S2, k1, k2, k3⟩ := zOp_1888 h2 hX hR
            exact ⟨f2, S2, Nat.lt_trans k1 h1, k2, k3⟩
          · obtain ⟨f2, S2, k1, k2, k3⟩ := zOp_1940 h2 hX hR
            exact ⟨f2, S2, Nat.lt_trans k1 h1, k2, k3⟩
          · obtain ⟨f2, S2, k1, k2, k3⟩ := zOp_1996 h2 hX hR
            exact ⟨f2, S2, Nat.lt_trans k1 h1, k2, k3⟩
          · obtain ⟨f2, S2, k1, k2, k3⟩ := zOp_2009 h2 hX hR
            exact ⟨f2, S2, Nat.lt_trans k1 h1, k2, k3⟩
          · obtain ⟨f2, S2, k1, k2, k3⟩ := zOp_2026 h2 hX hR
            exact ⟨f2, S2, Nat.lt_trans k1 h1, k2, k3⟩
          · obtain ⟨f2, S2, k1, k2, k3⟩ := zOp_2043 h2 hX hR
            exact ⟨f2, S2, Nat.lt_trans k1 h1, k2, k3⟩
      obtain ⟨f2, S2, k1, k2, k3⟩ := key
      obtain ⟨f3, k4, k5⟩ := z_post_g (pc := 28) (zL_2056 k2)
      exact ih f3 (Nat.lt_trans k4 k1) _ S2 X hX k3 k5
end
