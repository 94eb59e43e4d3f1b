/-! The winner by the most, by duels, by rounds: both sides -/
theorem zrk_lt {s f : Int} {c m : ZS} (h : zWb s c m) (hz : zrk c s f = true) : 0 ≤ f ∧ f < c r_x_filmCount 0 0 0 := by
  obtain ⟨⟨s0, s1⟩, -, hB, hJ⟩ := h
  obtain ⟨⟨u0, u1, -⟩, -⟩ := hJ s s0 s1
  unfold zrk zob at hz
  rw [Bool.and_eq_true, zany_iff] at hz
  obtain ⟨-, j, j0, j1, hj⟩ := hz
  unfold zon at hj
  rw [zany_iff] at hj
  obtain ⟨k, k0, k1, hk⟩ := hj
  obtain ⟨⟨n0, n1, -⟩, hb, -⟩ := hB s j s0 s1 j0 (by omega)
  have hk := of_decide_eq_true hk
  obtain ⟨-, b0, b1⟩ := hb k k0 (by omega)
  rw [hk] at b0 b1
  exact ⟨b0, b1⟩
noncomputable def zvl (b : Int) (c : ZS) (s f : Int) : Int := if b = 0 then zfs c s f else zpt c s f
theorem zvl_nn {b s f : Int} {c m : ZS} (h : zWc s c m) : 0 ≤ zvl b c s f := by
  unfold zvl
  split
  · exact (zcnt_le _ _ _).1
  · exact (q_points h).2.2
theorem q_most {s b : Int} {c m : ZS} (h : zWc s c m) (hb : b = 0 ∨ b = 1) : ∃ w, f_Count_withMost [s, b] c = ((0, [w]), c) ∧ f_m_byCount [s, b] m = ((0, [w]), m) ∧ ((w = -1 ∧ ∀ f, 0 ≤ f → f < c r_x_filmCount 0 0 0 → zrk c s f = false) ∨ (0 ≤ w ∧ w < c r_x_filmCount 0 0 0 ∧ zrk c s w = true ∧ ∀ f, 0 ≤ f → f < c r_x_filmCount 0 0 0 → zrk c s f = true → zvl b c s f ≤ zvl b c s w)) := by
  obtain ⟨⟨-, ⟨a1, a2, a3⟩, -, -⟩, hL⟩ := id h
  show ∃ w, g_Count_withMost ((1000, [s, b]), c) = ((0, [w]), c) ∧ g_m_byCount ((1000, [s, b]), m) = ((0, [w]), m) ∧ _
  rw [g_Count_withMost_0, g_m_byCount_0]
  have tail : ∀ (t : Nat) (k x y : Int), c r_x_filmCount 0 0 0 ≤ k → k + t = 20 → g_Count_withMost ((1008, [s, b, x, y, k]), c) = ((0, [x]), c) := by
    intro t
    induction t with
    | zero =>
      intro k x y k0 k1
      rw [g_Count_withMost_8, zb_d, if_pos (by omega)]
    | succ t ih =>
      intro k x y k0 k1
      have hk : e_wr (k + 1) = k + 1 := e_wr_id (by omega) (by omega)
      have hz : zrk c s k = false := by
        cases e : zrk c s k with
        | false => rfl
        | true =>
          have := zrk_lt h.1 e
          omega
      rw [g_Count_withMost_8, zb_d, if_neg (by omega), q_isRanked h, e_bnd, zb_d, hz, if_pos (by rfl), hk]
      exact ih (k + 1) x y (by omega) (by omega)
  have key : ∀ (t : Nat) (k x y : Int), 0 ≤ k → k + t = c r_x_filmCount 0 0 0 → ((x = -1 ∧ y = -1 ∧ ∀ f, 0 ≤ f → f < k → zrk c s f = false) ∨ (0 ≤ x ∧ x < k ∧ zrk c s x = true ∧ y = zvl b c s x ∧ ∀ f, 0 ≤ f → f < k → zrk c s f = true → zvl b c s f ≤ zvl b c s x)) → ∃ w, g_Count_withMost ((1008, [s, b, x, y, k]), c) = ((0, [w]), c) ∧ g_m_byCount ((1005, [s, b, x, k]), m) = ((0, [w]), m) ∧ ((w = -1 ∧ ∀ f, 0 ≤ f → f < c r_x_filmCount 0 0 0 → zrk c s f = false) ∨ (0 ≤ w ∧ w < c r_x_filmCount 0 0 0 ∧ zrk c s w = true ∧ ∀ f, 0 ≤ f → f < c r_x_filmCount 0 0 0 → zrk c s f = true → zvl b c s f ≤ zvl b c s w)) := by
    intro t
    induction t with
    | zero =>
      intro k x y k0 k1 hi
      have e : k = c r_x_filmCount 0 0 0 := by omega
      refine ⟨x, tail (20 - k).toNat k x y (by omega) (by omega), ?_, ?_⟩
      · rw [g_m_byCount_5, zb_d, if_pos (by omega)]
      · rw [e] at hi
        rcases hi with ⟨i1, -, i3⟩ | ⟨i1, i2, i3, -, i5⟩
        · exact Or.inl ⟨i1, i3⟩
        · exact Or.inr ⟨i1, i2, i3, i5⟩
    | succ t ih =>
      intro k x y k0 k1 hi
      have hk : e_wr (k + 1) = k + 1 := e_wr_id (by omega) (by omega)
      have eC := g_Count_withMost_8 (x1 := s) (x2 := b) (x3 := x) (x4 := y) (x5 := k) (S := c)
      rw [zb_d, if_neg (by omega), q_isRanked h, e_bnd, zb_d, hk] at eC
      have eM := g_m_byCount_5 (x1 := s) (x2 := b) (x3 := x) (x4 := k) (S := m)
      rw [zb_d, if_neg (by omega), zb_d, hk] at eM
      have hl := hL k k0 (by omega)
      by_cases q : zrk c s k = true
      · have hml : ¬ m r_m_areLeft 0 0 k = 0 := hl.mpr q
        rw [q, if_neg (by decide), zb_d] at eC
        rw [if_neg hml, zb_d] at eM
        have hn := zvl_nn (b := b) (f := k) h
        have eC2 : g_Count_withMost ((1008, [s, b, x, y, k]), c) = if zvl b c s k ≤ y then g_Count_withMost ((1008, [s, b, x, y, k + 1]), c) else g_Count_withMost ((1008, [s, b, k, zvl b c s k, k + 1]), c) := by
          rw [eC]
          unfold zvl
          rcases hb with rfl | rfl
          · simp only [zb_d, (q_firsts h).1, e_bnd, ↓reduceIte]
          · simp only [zb_d, (q_points h).1, e_bnd, Int.reduceEq, ↓reduceIte]
        have eM2 : g_m_byCount ((1005, [s, b, x, k]), m) = if zvl b c s k ≤ (if 0 ≤ x then zvl b c s x else -1) then g_m_byCount ((1005, [s, b, x, k + 1]), m) else g_m_byCount ((1005, [s, b, k, k + 1]), m) := by
          rw [eM]
          unfold zvl
          rcases hb with rfl | rfl
          · simp only [zb_d, (q_firsts h).2, e_bnd, ↓reduceIte]
            by_cases w : 0 ≤ x
            · rw [if_pos w, if_pos w]
            · rw [if_neg w, if_neg w]
          · simp only [zb_d, (q_points h).2.1, e_bnd, Int.reduceEq, ↓reduceIte]
            by_cases w : 0 ≤ x
            · rw [if_pos w, if_pos w]
            · rw [if_neg w, if_neg w]
        rw [eC2, eM2]
        rcases hi with ⟨rfl, rfl, i3⟩ | ⟨i1, i2, i3, i4, i5⟩
        · rw [if_neg (show ¬ zvl b c s k ≤ -1 by omega), if_neg (show ¬ (0 : Int) ≤ -1 by decide), if_neg (by omega)]
          refine ih (k + 1) k _ (by omega) (by omega) (Or.inr ⟨k0, by omega, q, rfl, fun f f0 f1 hf => ?_⟩)
          by_cases w : f = k
          · rw [w]
            exact Int.le_refl _
          · rw [i3 f f0 (by omega)] at hf
            cases hf
        · rw [i4, if_pos i1]
          by_cases v : zvl b c s k ≤ zvl b c s x
          · rw [if_pos v, if_pos v, ← i4]
            refine ih (k + 1) x y (by omega) (by omega) (Or.inr ⟨i1, by omega, i3, i4, fun f f0 f1 hf => ?_⟩)
            by_cases w : f = k
            · rw [w]
              exact v
            · exact i5 f f0 (by omega) hf
          · rw [if_neg v, if_neg v]
            refine ih (k + 1) k _ (by omega) (by omega) (Or.inr ⟨k0, by omega, q, rfl, fun f f0 f1 hf => ?_⟩)
            by_cases w : f = k
            · rw [w]
              exact Int.le_refl _
            · have := i5 f f0 (by omega) hf
              omega
      · have q' : zrk c s k = false := by simpa using q
        have hml : m r_m_areLeft 0 0 k = 0 := by
          by_cases w : m r_m_areLeft 0 0 k = 0
          · exact w
          · exact absurd (hl.mp w) q
        rw [q', if_pos (by rfl)] at eC
        rw [if_pos hml] at eM
        rw [eC, eM]
        refine ih (k + 1) x y (by omega) (by omega) ?_
        rcases hi with ⟨i1, i2, i3⟩ | ⟨i1, i2, i3, i4, i5⟩
        · refine Or.inl ⟨i1, i2, fun f f0 f1 => ?_⟩
          by_cases w : f = k
          · rw [w]
            exact q'
          · exact i3 f f0 (by omega)
        · refine Or.inr ⟨i1, by omega, i3, i4, fun f f0 f1 hf => ?_⟩
          by_cases w : f = k
          · rw [w] at hf
            exact absurd hf q
          · exact i5 f f0 (by omega) hf
  exact key (c r_x_filmCount 0 0 0).toNat 0 (-1) (-1) (Int.le_refl _) (by omega) (Or.inl ⟨rfl, rfl, fun f a b => by omega⟩)
/-- who doesn't win against a film -/
def zlo (c : ZS) (L : Int → Int → Int) (s f g : Int) : Bool := decide (g ≠ f) && (zrk c s g && decide (L f g ≤ 0))
theorem zany_tail {p : Int → Bool} {a b : Nat} {k : Int} (ha : a ≤ b) (h : ∀ i, k + a ≤ i → i < k + b → p i = false) : zany p b k = zany p a k := by
  rw [Bool.eq_iff_iff, zany_iff, zany_iff]
  constructor
  · rintro ⟨i, i0, i1, hi⟩
    refine ⟨i, i0, ?_, hi⟩
    by_cases q : i < k + a
    · exact q
    · rw [h i (by omega) i1] at hi
      cases hi
  · rintro ⟨i, i0, i1, hi⟩
    exact ⟨i, i0, by omega, hi⟩
theorem q_wins {s f : Int} {c m : ZS} (h : zWc s c m) : f_Count_winsEachDuel [s, f] c = ((0, [zb (!zany (zlo c (zld c s) s f) (c r_x_filmCount 0 0 0).toNat 0)]), c) := by
  obtain ⟨⟨-, ⟨a1, a2, a3⟩, -, -⟩, hL⟩ := id h
  show g_Count_winsEachDuel ((1000, [s, f]), c) = _
  rw [g_Count_winsEachDuel_0]
  refine (zl_any (n := 20) (p := zlo c (zld c s) s f) (A := ((0, [0]), c)) (B := ((0, [1]), c)) (G := fun k => g_Count_winsEachDuel ((1002, [s, f, k]), c)) (fun k hk => ?_) (fun k k0 k1 => ?_) 20 0 (Int.le_refl _) (by omega)).trans ?_
  · rw [g_Count_winsEachDuel_2, zb_d, if_pos (by omega)]
  · have hk : e_wr (k + 1) = k + 1 := e_wr_id (by omega) (by omega)
    rw [g_Count_winsEachDuel_2, zb_d, if_neg (by omega), zb_d, q_isRanked h, e_bnd, zb_d, (q_lead h).1, e_bnd, zb_d, hk]
    unfold zlo
    by_cases q1 : k = f
    · rw [if_pos q1, decide_eq_false (fun z => z q1), Bool.false_and, if_neg (by decide)]
    · rw [if_neg q1, decide_eq_true (show k ≠ f from q1), Bool.true_and]
      cases zrk c s k
      · rw [if_pos (by rfl), Bool.false_and, if_neg (by decide)]
      · rw [if_neg (by decide), Bool.true_and]
        by_cases q2 : 0 < zld c s f k
        · rw [if_pos q2, decide_eq_false (by omega), if_neg (by decide)]
        · rw [if_neg q2, decide_eq_true (by omega), if_pos rfl]
  · rw [zany_tail (a := (c r_x_filmCount 0 0 0).toNat) (by omega) (fun i i0 i1 => by
      have hz : zrk c s i = false := by
        cases e : zrk c s i with
        | false => rfl
        | true =>
          have := zrk_lt h.1 e
          omega
      unfold zlo
      rw [hz, Bool.false_and, Bool.and_false])]
    unfold zb
    cases zany (zlo c (zld c s) s f) (c r_x_filmCount 0 0 0).toNat 0 <;> rfl
theorem q_duels {s : Int} {c m : ZS} (h : zWc s c m) : ∃ w, f_Count_byDuels [s] c = ((0, [w]), c) ∧ f_m_byDuels [s] m = ((0, [w]), m) ∧ -1 ≤ w ∧ w < c r_x_filmCount 0 0 0 := by
  obtain ⟨⟨-, ⟨a1, a2, a3⟩, -, -⟩, hL⟩ := id h
  obtain ⟨w, w1, w2, w3⟩ := q_most h (Or.inr rfl)
  have wr : -1 ≤ w ∧ w < c r_x_filmCount 0 0 0 := by
    rcases w3 with w3 | w3 <;> omega
  show ∃ w, g_Count_byDuels ((1000, [s]), c) = ((0, [w]), c) ∧ g_m_byDuels ((1000, [s]), m) = ((0, [w]), m) ∧ _
  rw [g_Count_byDuels_0, g_m_byDuels_0]
  have tail : ∀ (t : Nat) (k : Int), c r_x_filmCount 0 0 0 ≤ k → k + t = 20 → g_Count_byDuels ((1002, [s, k]), c) = ((0, [w]), c) := by
    intro t
    induction t with
    | zero =>
      intro k k0 k1
      rw [g_Count_byDuels_2, zb_d, if_pos (by omega), w1, e_bnd]
    | succ t ih =>
      intro k k0 k1
      have hk : e_wr (k + 1) = k + 1 := e_wr_id (by omega) (by omega)
      have hz : zrk c s k = false := by
        cases e : zrk c s k with
        | false => rfl
        | true =>
          have := zrk_lt h.1 e
          omega
      rw [g_Count_byDuels_2, zb_d, if_neg (by omega), q_isRanked h, e_bnd, zb_d, hz, if_pos (by rfl), hk]
      exact ih (k + 1) (by omega) (by omega)
  have inner : ∀ (f : Int), 0 ≤ f → f < c r_x_filmCount 0 0 0 → ∀ (t : Nat) (k x : Int), 0 ≤ k → k + t = c r_x_filmCount 0 0 0 → x ≠ 0 → g_m_byDuels ((1020, [s, f, x, k]), m) = if zany (zlo c (zld c s) s f) t k = true then g_m_byDuels ((1002, [s, f + 1]), m) else ((0, [f]), m) := by
    intro f f0 f1 t
    have hf : e_wr (f + 1) = f + 1 := e_wr_id (by omega) (by omega)
    induction t with
    | zero =>
      intro k x k0 k1 hx
      rw [g_m_byDuels_20, zb_d, if_pos (by omega), zb_d, if_neg hx, zany, if_neg (by decide)]
    | succ t ih =>
      intro k x k0 k1 hx
      have hk : e_wr (k + 1) = k + 1 := e_wr_id (by omega) (by omega)
      have hl := hL k k0 (by omega)
      have eM := g_m_byDuels_20 (x1 := s) (x2 := f) (x3 := x) (x4 := k) (S := m)
      rw [zb_d, if_neg (by omega), zb_d, if_neg hx, zb_d, zb_d, (q_lead h).2, e_bnd, zb_d, hk] at eM
      rw [eM, zany]
      unfold zlo
      by_cases q1 : k = f
      · rw [if_pos q1, decide_eq_false (fun z => z q1), Bool.false_and, Bool.false_or]
        exact ih (k + 1) 1 (by omega) (by omega) (by decide)
      · rw [if_neg q1, decide_eq_true (show k ≠ f from q1), Bool.true_and]
        by_cases q2 : zrk c s k = true
        · have hml : ¬ m r_m_areLeft 0 0 k = 0 := hl.mpr q2
          rw [if_neg hml, q2, Bool.true_and]
          by_cases q3 : zld c s f k ≤ 0
          · rw [if_pos q3, decide_eq_true q3, Bool.true_or, if_pos rfl, if_pos rfl]
            have e0 := g_m_byDuels_20 (x1 := s) (x2 := f) (x3 := 0) (x4 := k + 1) (S := m)
            simp only [zb_d, ↓reduceIte, hf, ite_self] at e0
            exact e0
          · rw [if_neg q3, decide_eq_false q3, Bool.false_or, if_neg (by decide)]
            exact ih (k + 1) 1 (by omega) (by omega) (by decide)
        · have q2' : zrk c s k = false := by simpa using q2
          have hml : m r_m_areLeft 0 0 k = 0 := by
            by_cases v : m r_m_areLeft 0 0 k = 0
            · exact v
            · exact absurd (hl.mp v) q2
          rw [if_pos hml, q2', Bool.false_and, Bool.false_or]
          exact ih (k + 1) 1 (by omega) (by omega) (by decide)
  have key : ∀ (t : Nat) (k : Int), 0 ≤ k → k + t = c r_x_filmCount 0 0 0 → ∃ w, g_Count_byDuels ((1002, [s, k]), c) = ((0, [w]), c) ∧ g_m_byDuels ((1002, [s, k]), m) = ((0, [w]), m) ∧ -1 ≤ w ∧ w < c r_x_filmCount 0 0 0 := by
    intro t
    induction t with
    | zero =>
      intro k k0 k1
      refine ⟨w, tail (20 - k).toNat k (by omega) (by omega), ?_, wr⟩
      rw [g_m_byDuels_2, zb_d, if_pos (by omega), w2, e_bnd]
    | succ t ih =>
      intro k k0 k1
      have hk : e_wr (k + 1) = k + 1 := e_wr_id (by omega) (by omega)
      have hl := hL k k0 (by omega)
      have eC := g_Count_byDuels_2 (x1 := s) (x2 := k) (S := c)
      rw [zb_d, if_neg (by omega), q_isRanked h, e_bnd, zb_d, q_wins h, e_bnd, zb_d, hk] at eC
      have eM := g_m_byDuels_2 (x1 := s) (x2 := k) (S := m)
      rw [zb_d, if_neg (by omega)] at eM
      rw [eC, eM]
      by_cases q2 : zrk c s k = true
      · have hml : ¬ m r_m_areLeft 0 0 k = 0 := hl.mpr q2
        rw [q2, if_neg (by decide), inner k k0 (by omega) (c r_x_filmCount 0 0 0).toNat 0 _ (Int.le_refl _) (by omega) hml]
        cases zany (zlo c (zld c s) s k) (c r_x_filmCount 0 0 0).toNat 0
        · rw [if_neg (by decide), if_neg (by decide)]
          exact ⟨k, rfl, rfl, by omega, by omega⟩
        · rw [if_pos (by rfl), if_pos rfl]
          exact ih (k + 1) (by omega) (by omega)
      · have q2' : zrk c s k = false := by simpa using q2
        have hml : m r_m_areLeft 0 0 k = 0 := by
          by_cases v : m r_m_areLeft 0 0 k = 0
          · exact v
          · exact absurd (hl.mp v) q2
        have e0 : g_m_byDuels ((1020, [s, k, 0, 0]), m) = g_m_byDuels ((1002, [s, k + 1]), m) := by
          have e0 := g_m_byDuels_20 (x1 := s) (x2 := k) (x3 := 0) (x4 := 0) (S := m)
          simp only [zb_d, ↓reduceIte, hk, ite_self] at e0
          exact e0
        rw [q2', if_pos (by rfl), hml, e0]
        exact ih (k + 1) (by omega) (by omega)
  exact key (c r_x_filmCount 0 0 0).toNat 0 (Int.le_refl _) (by omega)
