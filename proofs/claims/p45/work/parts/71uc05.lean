/-! Whether a show can be set: both sides -/
/-- a show hinders a film on a screen, whatever the time -/
def zhd (c : ZS) (f s i : Int) : Bool := decide (c r_Show_screen i 0 0 = s ∨ c r_Show_film i 0 0 = f ∨ c r_Film_section (c r_Show_film i 0 0) 0 0 = c r_Film_section f 0 0)
def zhin (c : ZS) (f s x n i : Int) : Bool := zin c i x n && zhd c f s i
def zfre (c : ZS) (f s x n : Int) : Bool := !zany (zhin c f s x n) (c r_Grid_showCount 0 0 0).toNat 0
theorem q_isFree2 {c m : ZS} (h : zSw c m) {f s x : Int} (x0 : 0 ≤ x) (x1 : x < 50) : f_Grid_isFree [f, s, x] c = ((0, [zb (zfre c f s x (zln c f))]), c) := by
  obtain ⟨n0, n1, -⟩ := id h.1
  have hr := zln_r (c := c) (f := f)
  show g_Grid_isFree ((1000, [f, s, x]), c) = _
  rw [g_Grid_isFree_0, q_hoursLong]
  refine (zl_any (n := c r_Grid_showCount 0 0 0) (p := zhin c f s x (zln c f)) (A := ((0, [0]), c)) (B := ((0, [1]), c)) (G := fun k => g_Grid_isFree ((1025, [f, s, x, zln c f, c r_Film_section f 0 0, k]), c)) (fun k hk => ?_) (fun k h0 h1 => ?_) (c r_Grid_showCount 0 0 0).toNat 0 (Int.le_refl _) (by omega)).trans ?_
  · rw [g_Grid_isFree_25, zb_d, if_pos (by omega)]
  · have hk : e_wr (k + 1) = k + 1 := e_wr_id (by omega) (by omega)
    rw [g_Grid_isFree_25, zb_d, if_neg (by omega), q_standsIn h h0 h1 x0 (by omega) (by omega) (by omega), hk]
    unfold zhin
    cases hz : zin c k x (zln c f)
    · rw [zb_d, if_pos (by decide), Bool.false_and, if_neg (by decide)]
    · rw [zb_d, if_neg (by decide), Bool.true_and]
      unfold zhd
      simp only [zb_d, zb_n, decide_eq_true_eq]
      repeat' split
      all_goals first | rfl | (exfalso; omega)
  · unfold zfre zb
    cases zany (zhin c f s x (zln c f)) (c r_Grid_showCount 0 0 0).toNat 0 <;> rfl
/-- the model's inner loop -/
theorem q_mfree {c m : ZS} (h : zSw c m) (hf : zFs c m) {f s x n v y : Int} (f0 : 0 ≤ f) (f1 : f < c r_x_filmCount 0 0 0) (hs : 0 ≤ c r_Film_section f 0 0) (hv : zbit v) : g_m_canSet ((1073, [f, s, x, n, v, y, 0]), m) = g_m_canSet ((1046, [f, s, x, n, if zany (zhin c f s y 1) (c r_Grid_showCount 0 0 0).toNat 0 = true then 0 else v, e_wr (y + 1)]), m) := by
  obtain ⟨n0, n1, n2⟩ := id h.1
  refine zl_set (n := c r_Grid_showCount 0 0 0) (z := 0) (p := zhin c f s y 1) (P := zbit) zbit0 (fin := fun v => g_m_canSet ((1046, [f, s, x, n, v, e_wr (y + 1)]), m)) (G := fun v k => g_m_canSet ((1073, [f, s, x, n, v, y, k]), m)) (fun v k e hv => ?_) (fun v k h0 h1 hv => ?_) (c r_Grid_showCount 0 0 0).toNat v 0 (Int.le_refl _) (by omega) hv
  · rw [g_m_canSet_73, zb_d, if_pos (by omega)]
  · have hk : e_wr (k + 1) = k + 1 := e_wr_id (by omega) (by omega)
    obtain ⟨a, b, d, e, g⟩ := h.row hf h0 h1
    obtain ⟨⟨-, a2, a3⟩, -⟩ := h.2.1 k h0 h1
    have s1 := (hf.1 _ a2 a3).2.2.2
    have s2 := (hf.1 f f0 f1).2.2.2
    rw [g_m_canSet_73, zb_d, if_neg (by omega), hk, q_hasHour h hf h0 h1, a, b, s1, s2, e_and0 hv, e_and1 hv]
    unfold zhin zhd
    cases hz : zin c k y 1
    · rw [Bool.false_and, if_neg (by decide)]
      have hb : zb false = 0 := rfl
      simp only [zb_d, zb_n, hb, ↓reduceIte, ite_self]
    · rw [Bool.true_and]
      have hb : ¬ zb true = 0 := by decide
      simp only [zb_d, zb_n, if_neg hb, decide_eq_true_eq]
      repeat' split
      all_goals first | rfl | (exfalso; omega)
def zset (c : ZS) (f s x : Int) : Bool := decide (c r_Grid_hour 0 0 0 ≤ x ∧ e_wr (e_wr (x - e_wr (e_div x 5 * 5)) + zln c f) ≤ 5 ∧ c r_Grid_isStormy 0 0 (e_div x 5) = 0) && (zthr c f s x (c r_Film_comes f 0 0) && zfre c f s x (zln c f))
theorem q_canBeSet {c m : ZS} (h : zSw c m) (hv : zVe c m) {f s x : Int} (s0 : 0 ≤ s) (s1 : s < 4) (x0 : 0 ≤ x) (x1 : x < 50) : f_Grid_canBeSet [f, s, x] c = ((0, [zb (zset c f s x)]), c) := by
  unfold f_Grid_canBeSet zset
  dsimp only
  rw [q_hoursLong, q_canRunThrough hv s0 s1 x0 (by omega), e_bnd, q_isFree2 h x0 x1, e_bnd]
  simp only [zb_d, zb_n, zb0]
  by_cases q1 : x < c r_Grid_hour 0 0 0
  · rw [if_pos q1, decide_eq_false (by omega)]
    rfl
  · rw [if_neg q1, if_neg (by omega)]
    by_cases q2 : e_wr (e_wr (x - e_wr (e_div x 5 * 5)) + zln c f) ≤ 5
    · rw [if_pos q2]
      by_cases q3 : c r_Grid_isStormy 0 0 (e_div x 5) = 0
      · rw [if_pos q3, decide_eq_true (show c r_Grid_hour 0 0 0 ≤ x ∧ e_wr (e_wr (x - e_wr (e_div x 5 * 5)) + zln c f) ≤ 5 ∧ c r_Grid_isStormy 0 0 (e_div x 5) = 0 from ⟨by omega, q2, q3⟩)]
        cases zthr c f s x (c r_Film_comes f 0 0) <;> cases zfre c f s x (zln c f) <;> rfl
      · rw [if_neg q3, decide_eq_false (fun w => q3 w.2.2)]
        rfl
    · rw [if_neg q2, decide_eq_false (fun w => q2 w.2.1)]
      rfl
theorem zfre1 {c : ZS} {f s x : Int} : zfre c f s x 1 = !zany (zhin c f s x 1) (c r_Grid_showCount 0 0 0).toNat 0 := rfl
theorem zfre2 {c : ZS} {f s x : Int} : zfre c f s x 2 = (!zany (zhin c f s x 1) (c r_Grid_showCount 0 0 0).toNat 0 && !zany (zhin c f s (x + 1) 1) (c r_Grid_showCount 0 0 0).toNat 0) := by
  have e : zany (zhin c f s x 2) (c r_Grid_showCount 0 0 0).toNat 0 = (zany (zhin c f s x 1) (c r_Grid_showCount 0 0 0).toNat 0 || zany (zhin c f s (x + 1) 1) (c r_Grid_showCount 0 0 0).toNat 0) := by
    have hi : ∀ i, zhin c f s x 2 i = (zhin c f s x 1 i || zhin c f s (x + 1) 1 i) := fun i => by
      have hr := zln_r (c := c) (f := c r_Show_film i 0 0)
      unfold zhin zin
      rw [← Bool.and_or_distrib_right, ← Bool.decide_or]
      congr 1
      apply decide_eq_decide.mpr
      omega
    rw [Bool.eq_iff_iff, Bool.or_eq_true, zany_iff, zany_iff, zany_iff]
    constructor
    · rintro ⟨i, h1, h2, h3⟩
      rw [hi, Bool.or_eq_true] at h3
      rcases h3 with h3 | h3
      · exact Or.inl ⟨i, h1, h2, h3⟩
      · exact Or.inr ⟨i, h1, h2, h3⟩
    · rintro (⟨i, h1, h2, h3⟩ | ⟨i, h1, h2, h3⟩)
      · exact ⟨i, h1, h2, by rw [hi, h3, Bool.true_or]⟩
      · exact ⟨i, h1, h2, by rw [hi, h3, Bool.or_true]⟩
  unfold zfre
  rw [e, Bool.not_or]
theorem q_canSet {c m : ZS} (h : zSw c m) (hf : zFs c m) (hv : zVe c m) (hk : zPk c m) (hp : zPh c m) (hh : zHr c m) (ht : zSt c m) {f s x : Int} (f0 : 0 ≤ f) (f1 : f < c r_x_filmCount 0 0 0) (f2 : f < 20) (hs : 0 ≤ c r_Film_section f 0 0) (s0 : 0 ≤ s) (s1 : s < 4) (x0 : 0 ≤ x) (x1 : x < 50) : f_m_canSet [f, s, x] m = ((0, [zb (zset c f s x)]), m) := by
  have hr := zln_r (c := c) (f := f)
  have hd : 0 ≤ e_div x 5 ∧ e_div x 5 < 10 := by
    unfold e_div
    rw [Int.tdiv_eq_ediv_of_nonneg x0, e_wr_id (by omega) (by omega)]
    omega
  have hw : e_wr (x + zln c f) = x + zln c f := e_wr_id (by omega) (by omega)
  have hx1 : e_wr (x + 1) = x + 1 := e_wr_id (by omega) (by omega)
  have hx2 : e_wr (x + 1 + 1) = x + 1 + 1 := e_wr_id (by omega) (by omega)
  have hw2 : e_wr (x + 2) = x + 2 := e_wr_id (by omega) (by omega)
  have e0 : g_m_canSet ((1046, [f, s, x, zln c f, 0, x]), m) = ((0, [0]), m) := by
    rw [g_m_canSet_46, zb_d, hw, if_neg (by omega), zb_d, if_pos rfl]
  have e1 : g_m_canSet ((1046, [f, s, x, zln c f, 1, x]), m) = ((0, [zb (zthr c f s x (c r_Film_comes f 0 0) && zfre c f s x (zln c f))]), m) := by
    rw [g_m_canSet_46, zb_d, hw, if_neg (by omega), zb_d, if_neg (by decide), q_canShowNow hv hk f0 f2 s0 s1, e_bnd, hp f f0 f2, q_mfree h hf f0 f1 hs zb_bit, hx1]
    unfold zthr
    cases h1 : zcan c f s x (c r_Film_comes f 0 0)
    · rw [g_m_canSet_46, zb_d, hw]
      have hz : (if zany (zhin c f s x 1) (c r_Grid_showCount 0 0 0).toNat 0 = true then 0 else zb false) = 0 := by split <;> rfl
      rw [hz]
      split
      · rfl
      · rw [zb_d, if_pos rfl]
        rfl
    · by_cases q : zln c f = 1
      · rw [g_m_canSet_46, zb_d, hw, if_pos (by omega), decide_eq_true q, q, zfre1]
        cases zany (zhin c f s x 1) (c r_Grid_showCount 0 0 0).toNat 0 <;> rfl
      · have q2 : zln c f = 2 := by omega
        rw [g_m_canSet_46, zb_d, hw, if_neg (by omega), decide_eq_false q, q2, zfre2]
        cases h2 : zany (zhin c f s x 1) (c r_Grid_showCount 0 0 0).toNat 0
        · rw [if_neg (by decide), zb_d, if_neg (by decide), q_canShowNow hv hk f0 f2 s0 s1, e_bnd, hp f f0 f2, q_mfree h hf f0 f1 hs zb_bit, hx2, g_m_canSet_46, zb_d, hw2, if_pos (by omega)]
          cases zcan c f s (x + 1) (c r_Film_comes f 0 0) <;> cases zany (zhin c f s (x + 1) 1) (c r_Grid_showCount 0 0 0).toNat 0 <;> rfl
        · rw [if_pos rfl, zb_d, if_pos rfl]
          cases zcan c f s (x + 1) (c r_Film_comes f 0 0) <;> rfl
  show g_m_canSet ((1000, [f, s, x]), m) = _
  rw [g_m_canSet_0, q_lengthOf ((hf.1 f f0 f1).2.1), e0, e1, hh.2.2, ht _ hd.1 hd.2]
  unfold zset
  simp only [zb_d, zb_n]
  by_cases q1 : x < c r_Grid_hour 0 0 0
  · rw [if_pos q1, decide_eq_false (by omega)]
    rfl
  · rw [if_neg q1]
    by_cases q2 : e_wr (e_wr (x - e_wr (e_div x 5 * 5)) + zln c f) ≤ 5
    · rw [if_neg (by omega)]
      by_cases q3 : c r_Grid_isStormy 0 0 (e_div x 5) = 0
      · rw [if_pos q3, decide_eq_true (show c r_Grid_hour 0 0 0 ≤ x ∧ e_wr (e_wr (x - e_wr (e_div x 5 * 5)) + zln c f) ≤ 5 ∧ c r_Grid_isStormy 0 0 (e_div x 5) = 0 from ⟨by omega, q2, q3⟩), Bool.true_and]
      · rw [if_neg q3, decide_eq_false (fun w => q3 w.2.2)]
        rfl
    · rw [if_pos (by omega), decide_eq_false (fun w => q2 w.2.1)]
      rfl
