/-! Ballots counted: both sides -/
def zon (c : ZS) (s j f : Int) : Bool := zany (fun k => decide (c r_Juror_ballot s j k = f)) (c r_Juror_ballotSize s j 0).toNat 0
def zob (c : ZS) (s f : Int) : Bool := zany (fun j => zon c s j f) (c r_Section_jurorCount s 0 0).toNat 0
def zrk (c : ZS) (s f : Int) : Bool := decide (c r_Count_isOut 0 0 f = 0) && zob c s f
def zLf (s : Int) (c m : ZS) : Prop := ∀ f, 0 ≤ f → f < c r_x_filmCount 0 0 0 → (m r_m_areLeft 0 0 f ≠ 0 ↔ zrk c s f = true)
def zWb (s : Int) (c m : ZS) : Prop := (0 ≤ s ∧ s < 5) ∧ (0 ≤ c r_x_filmCount 0 0 0 ∧ c r_x_filmCount 0 0 0 ≤ 20 ∧ m r_m_films 0 0 0 = c r_x_filmCount 0 0 0) ∧ zBa c m ∧ zJu c m
def zWc (s : Int) (c m : ZS) : Prop := zWb s c m ∧ zLf s c m
theorem zWc.left {s j k : Int} {c m : ZS} (h : zWc s c m) (j0 : 0 ≤ j) (j1 : j < c r_Section_jurorCount s 0 0) (k0 : 0 ≤ k) (k1 : k < c r_Juror_ballotSize s j 0) : zob c s (c r_Juror_ballot s j k) = true ∧ (m r_m_areLeft 0 0 (c r_Juror_ballot s j k) = 0 ↔ ¬ c r_Count_isOut 0 0 (c r_Juror_ballot s j k) = 0) := by
  obtain ⟨⟨⟨s0, s1⟩, -, hB, hJ⟩, hL⟩ := h
  obtain ⟨⟨u0, u1, -⟩, -⟩ := hJ s s0 s1
  obtain ⟨-, hb, -⟩ := hB s j s0 s1 j0 (by omega)
  obtain ⟨-, b0, b1⟩ := hb k k0 k1
  have ho : zob c s (c r_Juror_ballot s j k) = true := (zany_iff _ _).mpr ⟨j, j0, by omega, (zany_iff _ _).mpr ⟨k, k0, by omega, decide_eq_true rfl⟩⟩
  refine ⟨ho, ?_⟩
  have := hL _ b0 b1
  unfold zrk at this
  rw [ho, Bool.and_true, decide_eq_true_eq] at this
  constructor
  · intro z w
    exact this.mpr w z
  · intro z
    by_cases w : m r_m_areLeft 0 0 (c r_Juror_ballot s j k) = 0
    · exact w
    · exact absurd (this.mp w) z
noncomputable def zfo (c : ZS) (s j : Int) : Int := (f_Count_firstOn [s, j] c).1.2.getD 0 0
theorem q_first {s j : Int} {c m : ZS} (h : zWc s c m) (j0 : 0 ≤ j) (j1 : j < c r_Section_jurorCount s 0 0) : f_Count_firstOn [s, j] c = ((0, [zfo c s j]), c) ∧ f_m_firstOf [s, j] m = ((0, [zfo c s j]), m) ∧ (zfo c s j = -1 ∨ (0 ≤ zfo c s j ∧ zfo c s j < c r_x_filmCount 0 0 0 ∧ zrk c s (zfo c s j) = true)) ∧ (∀ k, 0 ≤ k → k < c r_Juror_ballotSize s j 0 → c r_Count_isOut 0 0 (c r_Juror_ballot s j k) = 0 → zfo c s j ≠ -1) := by
  obtain ⟨⟨⟨s0, s1⟩, -, hB, hJ⟩, -⟩ := id h
  obtain ⟨⟨u0, u1, -⟩, -⟩ := hJ s s0 s1
  obtain ⟨⟨n0, n1, n2⟩, hb, -⟩ := hB s j s0 s1 j0 (by omega)
  have key : ∀ (t : Nat) (k : Int), 0 ≤ k → k + t = c r_Juror_ballotSize s j 0 → ∃ v, g_Count_firstOn ((1002, [s, j, k]), c) = ((0, [v]), c) ∧ g_m_firstOf ((1002, [s, j, k]), m) = ((0, [v]), m) ∧ (v = -1 ∨ (0 ≤ v ∧ v < c r_x_filmCount 0 0 0 ∧ zrk c s v = true)) ∧ (∀ i, k ≤ i → i < c r_Juror_ballotSize s j 0 → c r_Count_isOut 0 0 (c r_Juror_ballot s j i) = 0 → v ≠ -1) := by
    intro t
    induction t with
    | zero =>
      intro k k0 k1
      refine ⟨-1, ?_, ?_, Or.inl rfl, fun i a b => by omega⟩
      · rw [g_Count_firstOn_2, zb_d, if_pos (by omega)]
      · rw [g_m_firstOf_2, zb_d, if_pos (by omega)]
    | succ t ih =>
      intro k k0 k1
      have hk : e_wr (k + 1) = k + 1 := e_wr_id (by omega) (by omega)
      obtain ⟨b1, b2, b3⟩ := hb k k0 (by omega)
      obtain ⟨ho, hl⟩ := h.left j0 j1 k0 (show k < c r_Juror_ballotSize s j 0 by omega)
      rw [g_Count_firstOn_2, zb_d, if_neg (by omega), zb_n, hk]
      have eM := g_m_firstOf_2 (x1 := s) (x2 := j) (x3 := k) (S := m)
      rw [zb_d, if_neg (by omega), zb_d, b1, hk] at eM
      rw [eM]
      by_cases q : c r_Count_isOut 0 0 (c r_Juror_ballot s j k) = 0
      · rw [if_pos q, if_neg (fun z => hl.mp z q)]
        refine ⟨_, rfl, rfl, Or.inr ⟨b2, b3, ?_⟩, fun i _ _ _ => by omega⟩
        unfold zrk
        rw [ho, decide_eq_true q]
        rfl
      · rw [if_neg q, if_pos (hl.mpr q)]
        obtain ⟨v, v1, v2, v3, v4⟩ := ih (k + 1) (by omega) (by omega)
        refine ⟨v, v1, v2, v3, fun i i0 i1 hi => ?_⟩
        by_cases e : i = k
        · rw [e] at hi
          exact absurd hi q
        · exact v4 i (by omega) i1 hi
  obtain ⟨v, v1, v2, v3, v4⟩ := key (c r_Juror_ballotSize s j 0).toNat 0 (Int.le_refl _) (by omega)
  have e1 : f_Count_firstOn [s, j] c = ((0, [v]), c) := by
    show g_Count_firstOn ((1000, [s, j]), c) = _
    rw [g_Count_firstOn_0]
    exact v1
  have e2 : f_m_firstOf [s, j] m = ((0, [v]), m) := by
    show g_m_firstOf ((1000, [s, j]), m) = _
    rw [g_m_firstOf_0]
    exact v2
  have e3 : zfo c s j = v := by
    unfold zfo
    rw [e1]
    rfl
  rw [e3]
  exact ⟨e1, e2, v3, v4⟩
noncomputable def zpo (c : ZS) (s j f : Int) : Int := (f_Count_placeOn [s, j, f] c).1.2.getD 0 0
theorem q_placeOn {s j f : Int} {c m : ZS} (h : zWb s c m) (j0 : 0 ≤ j) (j1 : j < c r_Section_jurorCount s 0 0) : f_Count_placeOn [s, j, f] c = ((0, [zpo c s j f]), c) ∧ f_m_placeOf [s, j, f] m = ((0, [zpo c s j f]), m) ∧ (-1 ≤ zpo c s j f ∧ zpo c s j f < 9) ∧ (zon c s j f = !decide (zpo c s j f = -1)) := by
  obtain ⟨⟨s0, s1⟩, -, hB, hJ⟩ := id h
  obtain ⟨⟨u0, u1, -⟩, -⟩ := hJ s s0 s1
  obtain ⟨⟨n0, n1, n2⟩, hb, inj⟩ := hB s j s0 s1 j0 (by omega)
  have hM : ∀ k x, 0 ≤ k → k < c r_Juror_ballotSize s j 0 → g_m_placeOf ((1006, [s, j, f, x, k]), m) = g_m_placeOf ((1006, [s, j, f, if c r_Juror_ballot s j k = f then k else x, k + 1]), m) := fun k x k0 k1 => by
    have hk : e_wr (k + 1) = k + 1 := e_wr_id (by omega) (by omega)
    rw [g_m_placeOf_6, zb_d, if_neg (by omega), zb_n, (hb k k0 k1).1, hk]
    by_cases q : c r_Juror_ballot s j k = f
    · rw [if_pos q, if_pos q]
    · rw [if_neg q, if_neg q]
  have rest : ∀ (t : Nat) (k x : Int), 0 ≤ k → k + t = c r_Juror_ballotSize s j 0 → (∀ i, k ≤ i → i < c r_Juror_ballotSize s j 0 → ¬ c r_Juror_ballot s j i = f) → g_m_placeOf ((1006, [s, j, f, x, k]), m) = ((0, [x]), m) := by
    intro t
    induction t with
    | zero =>
      intro k x k0 k1 hn
      rw [g_m_placeOf_6, zb_d, if_pos (by omega)]
    | succ t ih =>
      intro k x k0 k1 hn
      rw [hM k x k0 (by omega), if_neg (hn k (Int.le_refl _) (by omega))]
      exact ih (k + 1) x (by omega) (by omega) (fun i a b => hn i (by omega) b)
  have key : ∀ (t : Nat) (k : Int), 0 ≤ k → k + t = c r_Juror_ballotSize s j 0 → ∃ v, g_Count_placeOn ((1002, [s, j, f, k]), c) = ((0, [v]), c) ∧ g_m_placeOf ((1006, [s, j, f, -1, k]), m) = ((0, [v]), m) ∧ (-1 ≤ v ∧ v < 9) ∧ zany (fun k => decide (c r_Juror_ballot s j k = f)) t k = !decide (v = -1) := by
    intro t
    induction t with
    | zero =>
      intro k k0 k1
      refine ⟨-1, ?_, rest 0 k (-1) k0 k1 (fun i a b => by omega), by omega, rfl⟩
      rw [g_Count_placeOn_2, zb_d, if_pos (by omega)]
    | succ t ih =>
      intro k k0 k1
      have hk : e_wr (k + 1) = k + 1 := e_wr_id (by omega) (by omega)
      rw [g_Count_placeOn_2, zb_d, if_neg (by omega), zb_n, hk, hM k (-1) k0 (by omega), zany]
      by_cases q : c r_Juror_ballot s j k = f
      · rw [if_pos q, if_pos q, decide_eq_true q, Bool.true_or, rest t (k + 1) k (by omega) (by omega) (fun i a b z => inj k i k0 (by omega) b (q.trans z.symm))]
        exact ⟨k, rfl, rfl, by omega, by rw [decide_eq_false (by omega)]; rfl⟩
      · rw [if_neg q, if_neg q, decide_eq_false q, Bool.false_or]
        exact ih (k + 1) (by omega) (by omega)
  obtain ⟨v, v1, v2, v3, v4⟩ := key (c r_Juror_ballotSize s j 0).toNat 0 (Int.le_refl _) (by omega)
  have e1 : f_Count_placeOn [s, j, f] c = ((0, [v]), c) := by
    show g_Count_placeOn ((1000, [s, j, f]), c) = _
    rw [g_Count_placeOn_0]
    exact v1
  have e2 : f_m_placeOf [s, j, f] m = ((0, [v]), m) := by
    show g_m_placeOf ((1000, [s, j, f]), m) = _
    rw [g_m_placeOf_0]
    exact v2
  have e3 : zpo c s j f = v := by
    unfold zpo
    rw [e1]
    rfl
  rw [e3]
  exact ⟨e1, e2, v3, v4⟩
noncomputable def zfs (c : ZS) (s f : Int) : Int := zcnt (fun j => decide (zfo c s j = f)) (c r_Section_jurorCount s 0 0).toNat 0
theorem q_firsts {s f : Int} {c m : ZS} (h : zWc s c m) : f_Count_firstsOf [s, f] c = ((0, [zfs c s f]), c) ∧ f_m_firsts [s, f] m = ((0, [zfs c s f]), m) := by
  obtain ⟨⟨⟨s0, s1⟩, -, hB, hJ⟩, -⟩ := id h
  obtain ⟨⟨u0, u1, u2⟩, -⟩ := hJ s s0 s1
  constructor
  · show g_Count_firstsOf ((1000, [s, f]), c) = _
    rw [g_Count_firstsOf_0]
    refine (zl_cnt (n := c r_Section_jurorCount s 0 0) (p := fun j => decide (zfo c s j = f)) (fin := fun x => ((0, [x]), c)) (G := fun x k => g_Count_firstsOf ((1005, [s, f, x, k]), c)) (fun x k e => ?_) (fun x k k0 k1 x0 x1 => ?_) (c r_Section_jurorCount s 0 0).toNat 0 0 (Int.le_refl _) (by omega) (Int.le_refl _) (Int.le_refl _)).trans ?_
    · rw [g_Count_firstsOf_5, zb_d, if_pos (by omega)]
    · have hk : e_wr (k + 1) = k + 1 := e_wr_id (by omega) (by omega)
      have hx : e_wr (x + 1) = x + 1 := e_wr_id (by omega) (by omega)
      rw [g_Count_firstsOf_5, zb_d, if_neg (by omega), (q_first h k0 k1).1, e_bnd, zb_n, hk, hx]
      by_cases q : zfo c s k = f
      · rw [if_pos q, decide_eq_true q, if_pos rfl]
      · rw [if_neg q, decide_eq_false q, if_neg (by decide)]
    · rw [Int.zero_add]
      rfl
  · show g_m_firsts ((1000, [s, f]), m) = _
    rw [g_m_firsts_0]
    refine (zl_cnt (n := c r_Section_jurorCount s 0 0) (p := fun j => decide (zfo c s j = f)) (fin := fun x => ((0, [x]), m)) (G := fun x k => g_m_firsts ((1005, [s, f, x, k]), m)) (fun x k e => ?_) (fun x k k0 k1 x0 x1 => ?_) (c r_Section_jurorCount s 0 0).toNat 0 0 (Int.le_refl _) (by omega) (Int.le_refl _) (Int.le_refl _)).trans ?_
    · rw [g_m_firsts_5, zb_d, if_pos (by omega)]
    · have hk : e_wr (k + 1) = k + 1 := e_wr_id (by omega) (by omega)
      have hx : e_wr (x + 1) = x + 1 := e_wr_id (by omega) (by omega)
      have hx0 : e_wr (x + 0) = x := by rw [Int.add_zero]; exact e_wr_id (by omega) (by omega)
      rw [g_m_firsts_5, zb_d, if_neg (by omega), (q_first h k0 k1).2.1, e_bnd, zb_n, hk, hx, hx0]
      by_cases q : zfo c s k = f
      · rw [if_pos q, decide_eq_true q, if_pos rfl]
      · rw [if_neg q, decide_eq_false q, if_neg (by decide)]
    · rw [Int.zero_add]
      rfl
theorem q_isRanked {s f : Int} {c m : ZS} (h : zWc s c m) : f_Count_isRanked [s, f] c = ((0, [zb (zrk c s f)]), c) := by
  obtain ⟨⟨⟨s0, s1⟩, -, hB, hJ⟩, -⟩ := id h
  obtain ⟨⟨u0, u1, u2⟩, -⟩ := hJ s s0 s1
  show g_Count_isRanked ((1000, [s, f]), c) = _
  rw [g_Count_isRanked_0]
  refine (zl_any (n := c r_Section_jurorCount s 0 0) (p := fun j => decide (c r_Count_isOut 0 0 f = 0) && zon c s j f) (A := ((0, [1]), c)) (B := ((0, [0]), c)) (G := fun k => g_Count_isRanked ((1002, [s, f, k]), c)) (fun k hk => ?_) (fun k k0 k1 => ?_) (c r_Section_jurorCount s 0 0).toNat 0 (Int.le_refl _) (by omega)).trans ?_
  · rw [g_Count_isRanked_2, zb_d, if_pos (by omega)]
  · have hk : e_wr (k + 1) = k + 1 := e_wr_id (by omega) (by omega)
    obtain ⟨p1, -, -, p4⟩ := q_placeOn (f := f) h.1 k0 k1
    rw [g_Count_isRanked_2, zb_d, if_neg (by omega), zb_n, p1, e_bnd, zb_d, hk, p4]
    by_cases q : c r_Count_isOut 0 0 f = 0
    · rw [if_pos q, decide_eq_true q, Bool.true_and]
      by_cases w : zpo c s k f = -1
      · rw [if_pos w, decide_eq_true w, if_neg (by decide)]
      · rw [if_neg w, decide_eq_false w, if_pos (by rfl)]
    · rw [if_neg q, decide_eq_false q, Bool.false_and, if_neg (by decide)]
  · have e : zany (fun j => decide (c r_Count_isOut 0 0 f = 0) && zon c s j f) (c r_Section_jurorCount s 0 0).toNat 0 = zrk c s f := by
      unfold zrk zob
      by_cases q : c r_Count_isOut 0 0 f = 0
      · rw [decide_eq_true q, Bool.true_and]
        exact zany_cg _ 0 (fun i _ _ => Bool.true_and _)
      · rw [decide_eq_false q, Bool.false_and]
        cases e : zany (fun j => false && zon c s j f) (c r_Section_jurorCount s 0 0).toNat 0 with
        | false => rfl
        | true =>
          obtain ⟨i, -, -, hi⟩ := (zany_iff _ _).mp e
          rw [Bool.false_and] at hi
          cases hi
    rw [e]
    unfold zb
    split <;> rfl
noncomputable def zpt (c : ZS) (s f : Int) : Int := (f_Count_pointsOf [s, f] c).1.2.getD 0 0
theorem q_points {s f : Int} {c m : ZS} (h : zWc s c m) : f_Count_pointsOf [s, f] c = ((0, [zpt c s f]), c) ∧ f_m_points [s, f] m = ((0, [zpt c s f]), m) ∧ 0 ≤ zpt c s f := by
  obtain ⟨⟨⟨s0, s1⟩, -, hB, hJ⟩, -⟩ := id h
  obtain ⟨⟨u0, u1, u2⟩, -⟩ := hJ s s0 s1
  have key : ∃ v, f_Count_pointsOf [s, f] c = ((0, [v]), c) ∧ f_m_points [s, f] m = ((0, [v]), m) ∧ 0 ≤ v := by
    show ∃ v, g_Count_pointsOf ((1000, [s, f]), c) = ((0, [v]), c) ∧ g_m_points ((1000, [s, f]), m) = ((0, [v]), m) ∧ 0 ≤ v
    rw [g_Count_pointsOf_0, g_m_points_0]
    have hG : (∃ v, g_Count_pointsOf ((1005, [s, f, 0, 0]), c) = ((0, [v]), c) ∧ g_m_points ((1005, [s, f, 0, 0]), m) = ((0, [v]), m) ∧ 0 ≤ v) = (fun A B : ZR => ∃ v, A = ((0, [v]), c) ∧ B = ((0, [v]), m) ∧ 0 ≤ v) (g_Count_pointsOf ((1005, [s, f, 0, 0]), c)) (g_m_points ((1005, [s, f, 0, 0]), m)) := rfl
    rw [hG]
    refine z_sync (n := c r_Section_jurorCount s 0 0) (A := fun (a : Int) k => g_Count_pointsOf ((1005, [s, f, a, k]), c)) (B := fun (b : Int) k => g_m_points ((1005, [s, f, b, k]), m)) (R := fun k a b => a = b ∧ 0 ≤ b ∧ b ≤ 9 * k) (Goal := fun A B => ∃ v, A = ((0, [v]), c) ∧ B = ((0, [v]), m) ∧ 0 ≤ v) ?_ ?_ (c r_Section_jurorCount s 0 0).toNat 0 0 0 (Int.le_refl _) (by omega) ⟨rfl, Int.le_refl _, by omega⟩
    · rintro a b ⟨e1, e2, -⟩
      subst e1
      refine ⟨a, ?_, ?_, e2⟩
      · show g_Count_pointsOf ((1005, [s, f, a, c r_Section_jurorCount s 0 0]), c) = _
        rw [g_Count_pointsOf_5, zb_d, if_pos (Int.le_refl _)]
      · show g_m_points ((1005, [s, f, a, c r_Section_jurorCount s 0 0]), m) = _
        rw [g_m_points_5, zb_d, if_pos (by omega)]
    · rintro k a b k0 k1 ⟨e1, e2, e3⟩
      subst e1
      have hk : e_wr (k + 1) = k + 1 := e_wr_id (by omega) (by omega)
      obtain ⟨⟨n0, n1, n2⟩, hb, -⟩ := hB s k s0 s1 k0 (by omega)
      obtain ⟨p1, p2, p3, -⟩ := q_placeOn (f := f) h.1 k0 k1
      have hp1 : e_wr (zpo c s k f + 1) = zpo c s k f + 1 := e_wr_id (by omega) (by omega)
      have eC := g_Count_pointsOf_5 (x1 := s) (x2 := f) (x3 := a) (x4 := k) (S := c)
      rw [zb_d, if_neg (by omega), p1, e_bnd, hp1] at eC
      have eM := g_m_points_5 (x1 := s) (x2 := f) (x3 := a) (x4 := k) (S := m)
      rw [zb_d, if_neg (by omega), p2, e_bnd, hp1] at eM
      have inner : ∀ (t : Nat) (y x : Int), 0 ≤ y → y + t = c r_Juror_ballotSize s k 0 → 0 ≤ x → x ≤ a + y → zpo c s k f ≠ -1 → ∃ x', 0 ≤ x' ∧ x' ≤ a + 9 ∧ g_Count_pointsOf ((1038, [s, f, x, k, s, k, zpo c s k f, y]), c) = g_Count_pointsOf ((1005, [s, f, x', k + 1]), c) ∧ g_m_points ((1032, [s, f, x, k, zpo c s k f, y]), m) = g_m_points ((1005, [s, f, x', k + 1]), m) := by
        intro t
        induction t with
        | zero =>
          intro y x y0 y1 x0 x1 hp
          refine ⟨x, x0, by omega, ?_, ?_⟩
          · rw [g_Count_pointsOf_38, zb_d, if_neg hp, zb_d, if_pos (by omega), hk]
          · rw [g_m_points_32, zb_d, if_pos (by omega), hk]
        | succ t ih =>
          intro y x y0 y1 x0 x1 hp
          have hy : e_wr (y + 1) = y + 1 := e_wr_id (by omega) (by omega)
          have hx : e_wr (x + 1) = x + 1 := e_wr_id (by omega) (by omega)
          have hx0 : e_wr (x + 0) = x := by rw [Int.add_zero]; exact e_wr_id (by omega) (by omega)
          obtain ⟨b1, b2, b3⟩ := hb y y0 (by omega)
          obtain ⟨ho, hl⟩ := h.left k0 k1 y0 (show y < c r_Juror_ballotSize s k 0 by omega)
          rw [g_Count_pointsOf_38, zb_d, if_neg hp, zb_d, if_neg (by omega), zb_n, hy, hx]
          have eM := g_m_points_32 (x1 := s) (x2 := f) (x3 := x) (x4 := k) (x5 := zpo c s k f) (x6 := y) (S := m)
          rw [zb_d, if_neg (by omega), zb_d, if_neg (by omega), zb_d, b1, hy, hx, hx0] at eM
          rw [eM]
          by_cases q : c r_Count_isOut 0 0 (c r_Juror_ballot s k y) = 0
          · rw [if_pos q, if_neg (fun z => hl.mp z q)]
            exact ih (y + 1) (x + 1) (by omega) (by omega) (by omega) (by omega) hp
          · rw [if_neg q, if_pos (hl.mpr q)]
            exact ih (y + 1) x (by omega) (by omega) x0 (by omega) hp
      by_cases hp : zpo c s k f = -1
      · refine ⟨a, a, ?_, ?_, rfl, e2, by omega⟩
        · show g_Count_pointsOf ((1005, [s, f, a, k]), c) = _
          rw [eC, g_Count_pointsOf_38, zb_d, if_pos hp, hk]
        · show g_m_points ((1005, [s, f, a, k]), m) = _
          rw [eM, g_m_points_32, zb_d, zb_d, if_pos (show zpo c s k f < 0 by omega), ite_self, hk]
      · by_cases hlt : zpo c s k f + 1 ≤ c r_Juror_ballotSize s k 0
        · obtain ⟨x', x0, x1, i1, i2⟩ := inner (c r_Juror_ballotSize s k 0 - (zpo c s k f + 1)).toNat (zpo c s k f + 1) a (by omega) (by omega) e2 (by omega) hp
          exact ⟨x', x', eC.trans i1, eM.trans i2, rfl, x0, by omega⟩
        · refine ⟨a, a, ?_, ?_, rfl, e2, by omega⟩
          · show g_Count_pointsOf ((1005, [s, f, a, k]), c) = _
            rw [eC, g_Count_pointsOf_38, zb_d, if_neg hp, zb_d, if_pos (by omega), hk]
          · show g_m_points ((1005, [s, f, a, k]), m) = _
            rw [eM, g_m_points_32, zb_d, if_pos (by omega), hk]
  obtain ⟨v, e1, e2, e3⟩ := key
  have e : zpt c s f = v := by
    unfold zpt
    rw [e1]
    rfl
  rw [e]
  exact ⟨e1, e2, e3⟩
noncomputable def zld (c : ZS) (s f g : Int) : Int := (f_Count_leadOf [s, f, g] c).1.2.getD 0 0
theorem q_lead {s f g : Int} {c m : ZS} (h : zWc s c m) : f_Count_leadOf [s, f, g] c = ((0, [zld c s f g]), c) ∧ f_m_isAheadOf [s, f, g] m = ((0, [if zld c s f g ≤ 0 then 0 else 1]), m) := by
  obtain ⟨⟨⟨s0, s1⟩, -, hB, hJ⟩, -⟩ := id h
  obtain ⟨⟨u0, u1, u2⟩, -⟩ := hJ s s0 s1
  have key : ∃ v, f_Count_leadOf [s, f, g] c = ((0, [v]), c) ∧ f_m_isAheadOf [s, f, g] m = ((0, [if v ≤ 0 then 0 else 1]), m) := by
    show ∃ v, g_Count_leadOf ((1000, [s, f, g]), c) = ((0, [v]), c) ∧ g_m_isAheadOf ((1000, [s, f, g]), m) = ((0, [if v ≤ 0 then 0 else 1]), m)
    rw [g_Count_leadOf_0, g_m_isAheadOf_0]
    refine z_sync (n := c r_Section_jurorCount s 0 0) (A := fun (a : Int) k => g_Count_leadOf ((1006, [s, f, g, a, k]), c)) (B := fun (b : Int) k => g_m_isAheadOf ((1006, [s, f, g, b, k]), m)) (R := fun k a b => a = b ∧ - k ≤ b ∧ b ≤ k) (Goal := fun A B => ∃ v, A = ((0, [v]), c) ∧ B = ((0, [if v ≤ 0 then 0 else 1]), m)) ?_ ?_ (c r_Section_jurorCount s 0 0).toNat 0 0 0 (Int.le_refl _) (by omega) ⟨rfl, by omega, by omega⟩
    · rintro a b ⟨e1, e2, -⟩
      subst e1
      refine ⟨a, ?_, ?_⟩
      · show g_Count_leadOf ((1006, [s, f, g, a, c r_Section_jurorCount s 0 0]), c) = _
        rw [g_Count_leadOf_6, zb_d, if_pos (Int.le_refl _)]
      · show g_m_isAheadOf ((1006, [s, f, g, a, c r_Section_jurorCount s 0 0]), m) = _
        rw [g_m_isAheadOf_6, zb_d, if_pos (by omega), zb_d]
        split <;> rfl
    · rintro k a b k0 k1 ⟨e1, e2, e3⟩
      subst e1
      have hk : e_wr (k + 1) = k + 1 := e_wr_id (by omega) (by omega)
      have ha1 : e_wr (a + 1) = a + 1 := e_wr_id (by omega) (by omega)
      have ha2 : e_wr (a + -1) = a + -1 := e_wr_id (by omega) (by omega)
      have ha0 : e_wr (a + 0) = a := by rw [Int.add_zero]; exact e_wr_id (by omega) (by omega)
      obtain ⟨p1, p2, p3, -⟩ := q_placeOn (f := f) h.1 k0 k1
      obtain ⟨r1, r2, r3, -⟩ := q_placeOn (f := g) h.1 k0 k1
      have eC := g_Count_leadOf_6 (x1 := s) (x2 := f) (x3 := g) (x4 := a) (x5 := k) (S := c)
      rw [zb_d, if_neg (by omega), p1, e_bnd, r1, e_bnd, zb_d, zb_d, zb_d, hk, ha1, ha2] at eC
      have eM := g_m_isAheadOf_6 (x1 := s) (x2 := f) (x3 := g) (x4 := a) (x5 := k) (S := m)
      rw [zb_d, if_neg (by omega), p2, e_bnd, r2, e_bnd, zb_d, zb_d, zb_d, hk, ha1, ha2, ha0] at eM
      by_cases q1 : zpo c s k f = -1
      · rw [if_pos q1] at eC
        rw [if_pos (show zpo c s k f < 0 by omega)] at eM
        exact ⟨a, a, eC, eM, rfl, by omega, by omega⟩
      · rw [if_neg q1] at eC
        rw [if_neg (show ¬ zpo c s k f < 0 by omega)] at eM
        by_cases q2 : zpo c s k g = -1
        · rw [if_pos q2] at eC
          rw [if_neg (show ¬ 0 ≤ zpo c s k g by omega)] at eM
          exact ⟨a, a, eC, eM, rfl, by omega, by omega⟩
        · rw [if_neg q2] at eC
          rw [if_pos (show 0 ≤ zpo c s k g by omega)] at eM
          by_cases q3 : zpo c s k g ≤ zpo c s k f
          · rw [if_pos q3] at eC eM
            exact ⟨_, _, eC, eM, rfl, by omega, by omega⟩
          · rw [if_neg q3] at eC eM
            exact ⟨_, _, eC, eM, rfl, by omega, by omega⟩
  obtain ⟨v, e1, e2⟩ := key
  have e : zld c s f g = v := by
    unfold zld
    rw [e1]
    rfl
  rw [e]
  exact ⟨e1, e2⟩
