/-! Dealing, reading: what the methods say -/
theorem zb_n {α : Type} {p : Prop} [Decidable p] {a b : α} : (bif !decide p then a else b) = if p then b else a := by
  by_cases h : p <;> simp [h]
theorem zb_d {α : Type} {p : Prop} [Decidable p] {a b : α} : (bif decide p then a else b) = if p then a else b := by
  by_cases h : p <;> simp [h]
theorem q_within {x a b : Int} {S : ZS} : v_x_isWithin x a b S = if a ≤ x ∧ x ≤ b then 1 else 0 := by
  unfold v_x_isWithin
  simp only [zb_d]
  repeat' split
  all_goals first | rfl | omega
theorem q_isIn {x a b : Int} {S : ZS} : v_m_isIn x a b S = if a ≤ x ∧ x ≤ b then 1 else 0 := by
  unfold v_m_isIn
  simp only [zb_d]
  repeat' split
  all_goals first | rfl | omega
theorem q_num {x n : Int} {S : ZS} (h0 : 0 ≤ n) (h1 : n ≤ 1000) : f_x_checkNumber [x, n] S = if 0 ≤ x ∧ x < n then ((0, []), S) else ((1, []), S) := by
  show (bif !decide (v_x_isWithin x 0 (e_wr (n - 1)) S = 0) then _ else _) = _
  rw [zb_n, q_within, e_wr_id (by omega) (by omega)]
  repeat' split
  all_goals first | rfl | omega
theorem e_b_ok {l : List Int} {S : ZS} {k : Int → ZS → ZR} : e_bind ((0, l), S) k = k (l.getD 0 0) S := rfl
theorem e_b_x {c : Nat} {S : ZS} {k : Int → ZS → ZR} (h : c ≠ 0) (h2 : c < 1000) : e_bind ((c, []), S) k = ((c, []), S) := by
  unfold e_bind
  have : (c == 0) = false := by simpa using h
  rw [this]
  show ((c % 1000, []), S) = _
  rw [Nat.mod_eq_of_lt h2]
theorem e_b_if {p : Prop} [Decidable p] {A B : ZR} {k : Int → ZS → ZR} : e_bind (if p then A else B) k = if p then e_bind A k else e_bind B k := by split <;> rfl
theorem q_film {f : Int} {S : ZS} (h0 : 0 ≤ S r_x_filmCount 0 0 0) (h1 : S r_x_filmCount 0 0 0 ≤ 1000) : f_x_checkFilm [f] S = if 0 ≤ f ∧ f < S r_x_filmCount 0 0 0 then ((0, []), S) else ((1, []), S) := by
  show e_bind (f_x_checkNumber [f, S r_x_filmCount 0 0 0] S) (fun _ S1 => ((0, []), S1)) = _
  rw [q_num h0 h1, e_b_if]
  rfl
theorem q_reader {k : Int} {S : ZS} (h0 : 0 ≤ S r_Readings_readerCount 0 0 0) (h1 : S r_Readings_readerCount 0 0 0 ≤ 1000) : f_x_checkReader [k] S = if 0 ≤ k ∧ k < S r_Readings_readerCount 0 0 0 then ((0, []), S) else ((1, []), S) := by
  show e_bind (f_x_checkNumber [k, S r_Readings_readerCount 0 0 0] S) (fun _ S1 => ((0, []), S1)) = _
  rw [q_num h0 h1, e_b_if]
  rfl
theorem q_noFilm {f : Int} {S : ZS} (h0 : 0 ≤ S r_m_films 0 0 0) (h1 : S r_m_films 0 0 0 ≤ 1000) : v_m_isNoFilm f S = if 0 ≤ f ∧ f < S r_m_films 0 0 0 then 0 else 1 := by
  unfold v_m_isNoFilm
  rw [zb_n, q_isIn, e_wr_id (by omega) (by omega)]
  repeat' split
  all_goals first | rfl | omega
theorem q_noReader {f k : Int} {S : ZS} (h0 : 0 ≤ S r_m_films 0 0 0) (h1 : S r_m_films 0 0 0 ≤ 1000) (h2 : 0 ≤ S r_m_readers 0 0 0) (h3 : S r_m_readers 0 0 0 ≤ 1000) : f_m_isNoReader [f, k] S = if (0 ≤ f ∧ f < S r_m_films 0 0 0) ∧ 0 ≤ k ∧ k < S r_m_readers 0 0 0 then ((0, [0]), e_upd S r_m_thrown 0 0 0 0) else ((0, [1]), e_upd S r_m_thrown 0 0 0 1) := by
  show (bif !decide (v_m_isNoFilm f S = 0) then _ else (bif !decide (v_m_isIn k 0 (e_wr (S r_m_readers 0 0 0 - 1)) S = 0) then _ else _)) = _
  rw [zb_n, zb_n, q_noFilm h0 h1, q_isIn, e_wr_id (by omega) (by omega)]
  repeat' split
  all_goals first | rfl | omega
/-! who may read -/
def dpF (S : ZS) (f l k : Int) : Bool := decide (S r_Readings_lands 0 0 k ≠ l) && decide (S r_Readings_marks_r f 0 k = -2)
def pM (S : ZS) (f k : Int) : Bool := decide (S r_m_readerLands 0 0 k ≠ S r_m_lands 0 0 f) && decide (S r_m_areDealt_r f 0 k = 0)
theorem q_isFree {f l k : Int} {S : ZS} : v_Readings_isFree f l k S = if dpF S f l k = true then 1 else 0 := by
  unfold v_Readings_isFree dpF
  rw [zb_d, zb_n]
  repeat' split
  all_goals simp_all
theorem q_mayRead {f k : Int} {S : ZS} : v_m_mayRead f k S = if pM S f k = true then 1 else 0 := by
  unfold v_m_mayRead pM
  rw [zb_d, zb_n]
  repeat' split
  all_goals simp_all
theorem q_countFree {f l : Int} {S : ZS} (h0 : 0 ≤ S r_Readings_readerCount 0 0 0) (h1 : S r_Readings_readerCount 0 0 0 ≤ 8) : f_Readings_countFree [f, l] S = ((0, [zcnt (dpF S f l) (S r_Readings_readerCount 0 0 0).toNat 0]), S) := by
  show g_Readings_countFree ((1000, [f, l]), S) = _
  rw [g_Readings_countFree_0]
  refine (zl_cnt (n := S r_Readings_readerCount 0 0 0) (p := dpF S f l) (fin := fun m => ((0, [m]), S)) (G := fun m k => g_Readings_countFree ((1005, [f, l, m, k]), S)) (fun m k hk => ?_) (fun m k k1 k2 m1 m2 => ?_) (S r_Readings_readerCount 0 0 0).toNat 0 0 (by omega) (by omega) (by omega) (by omega)).trans ?_
  · rw [g_Readings_countFree_5, zb_d, if_pos (by omega)]
  · rw [g_Readings_countFree_5, zb_d, if_neg (by omega), zb_d, q_isFree, e_wr_id (by omega) (by omega), e_wr_id (by omega) (by omega)]
    cases dpF S f l k <;> rfl
  · rw [Int.zero_add]
theorem q_countDealt {f : Int} {S : ZS} (h0 : 0 ≤ S r_Readings_readerCount 0 0 0) (h1 : S r_Readings_readerCount 0 0 0 ≤ 8) : f_Readings_countDealt [f] S = ((0, [zcnt (fun k => decide (S r_Readings_marks_r f 0 k ≠ -2)) (S r_Readings_readerCount 0 0 0).toNat 0]), S) := by
  show g_Readings_countDealt ((1000, [f]), S) = _
  rw [g_Readings_countDealt_0]
  refine (zl_cnt (n := S r_Readings_readerCount 0 0 0) (p := fun k => decide (S r_Readings_marks_r f 0 k ≠ -2)) (fin := fun m => ((0, [m]), S)) (G := fun m k => g_Readings_countDealt ((1004, [f, m, k]), S)) (fun m k hk => ?_) (fun m k k1 k2 m1 m2 => ?_) (S r_Readings_readerCount 0 0 0).toNat 0 0 (by omega) (by omega) (by omega) (by omega)).trans ?_
  · rw [g_Readings_countDealt_4, zb_d, if_pos (by omega)]
  · rw [g_Readings_countDealt_4, zb_d, if_neg (by omega), zb_d, e_wr_id (by omega) (by omega), e_wr_id (by omega) (by omega)]
    by_cases c : S r_Readings_marks_r f 0 k = -2 <;> simp [c]
  · rw [Int.zero_add]
theorem q_countTold {f : Int} {S : ZS} (h0 : 0 ≤ S r_Readings_readerCount 0 0 0) (h1 : S r_Readings_readerCount 0 0 0 ≤ 8) : f_Readings_countTold [f] S = ((0, [zcnt (fun k => decide (0 ≤ S r_Readings_marks_r f 0 k)) (S r_Readings_readerCount 0 0 0).toNat 0]), S) := by
  show g_Readings_countTold ((1000, [f]), S) = _
  rw [g_Readings_countTold_0]
  refine (zl_cnt (n := S r_Readings_readerCount 0 0 0) (p := fun k => decide (0 ≤ S r_Readings_marks_r f 0 k)) (fin := fun m => ((0, [m]), S)) (G := fun m k => g_Readings_countTold ((1004, [f, m, k]), S)) (fun m k hk => ?_) (fun m k k1 k2 m1 m2 => ?_) (S r_Readings_readerCount 0 0 0).toNat 0 0 (by omega) (by omega) (by omega) (by omega)).trans ?_
  · rw [g_Readings_countTold_4, zb_d, if_pos (by omega)]
  · rw [g_Readings_countTold_4, zb_d, if_neg (by omega), zb_d, e_wr_id (by omega) (by omega), e_wr_id (by omega) (by omega)]
    by_cases c : S r_Readings_marks_r f 0 k < 0
    · rw [if_pos c, if_neg (by simp; omega)]
    · rw [if_neg c, if_pos (by simp; omega)]
  · rw [Int.zero_add]
theorem q_scoreMany {f : Int} {S : ZS} (h0 : 0 ≤ S r_m_readers 0 0 0) (h1 : S r_m_readers 0 0 0 ≤ 8) : f_m_scoreMany [f] S = ((0, [zcnt (fun k => decide (0 ≤ S r_m_scores_r f 0 k)) (S r_m_readers 0 0 0).toNat 0]), S) := by
  show g_m_scoreMany ((1000, [f]), S) = _
  rw [g_m_scoreMany_0]
  refine (zl_cnt (n := S r_m_readers 0 0 0) (p := fun k => decide (0 ≤ S r_m_scores_r f 0 k)) (fin := fun m => ((0, [m]), S)) (G := fun m k => g_m_scoreMany ((1004, [f, m, k]), S)) (fun m k hk => ?_) (fun m k k1 k2 m1 m2 => ?_) (S r_m_readers 0 0 0).toNat 0 0 (by omega) (by omega) (by omega) (by omega)).trans ?_
  · rw [g_m_scoreMany_4, zb_d, if_pos (by omega)]
  · rw [g_m_scoreMany_4, zb_d, if_neg (by omega), zb_d, Int.add_zero, e_wr_id (x := m) (by omega) (by omega), e_wr_id (by omega) (by omega), e_wr_id (by omega) (by omega)]
    by_cases c : S r_m_scores_r f 0 k < 0
    · rw [if_pos c, if_neg (by simp; omega)]
    · rw [if_neg c, if_pos (by simp; omega)]
  · rw [Int.zero_add]
