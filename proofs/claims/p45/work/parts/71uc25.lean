/-! The winner by rounds; winner, award: both sides -/
def zvo (c : ZS) (s : Int) (F : Int → Int) : Int := zcnt (fun j => !decide (F j = -1)) (c r_Section_jurorCount s 0 0).toNat 0
theorem zcnt_two {p q r : Int → Bool} : ∀ (n : Nat) (k : Int), (∀ i, k ≤ i → i < k + n → (p i = true → r i = true) ∧ (q i = true → r i = true) ∧ ¬ (p i = true ∧ q i = true)) → zcnt p n k + zcnt q n k ≤ zcnt r n k
  | 0, _, _ => Int.le_refl _
  | n + 1, k, h => by
    have ih := zcnt_two n (k + 1) (fun i a b => h i (by omega) (by omega))
    obtain ⟨h1, h2, h3⟩ := h k (Int.le_refl _) (by omega)
    rw [zcnt, zcnt, zcnt]
    by_cases a : p k = true
    · have b : ¬ q k = true := fun z => h3 ⟨a, z⟩
      rw [if_pos a, if_neg b, if_pos (h1 a)]
      omega
    · rw [if_neg a]
      by_cases b : q k = true
      · rw [if_pos b, if_pos (h2 b)]
        omega
      · rw [if_neg b]
        split <;> omega
theorem zcnt_mono {p q : Int → Bool} : ∀ (n : Nat) (k : Int), (∀ i, k ≤ i → i < k + n → p i = true → q i = true) → zcnt p n k ≤ zcnt q n k
  | 0, _, _ => Int.le_refl _
  | n + 1, k, h => by
    have ih := zcnt_mono n (k + 1) (fun i a b => h i (by omega) (by omega))
    rw [zcnt, zcnt]
    by_cases a : p k = true
    · rw [if_pos a, if_pos (h k (Int.le_refl _) (by omega) a)]
      omega
    · rw [if_neg a]
      split <;> omega
theorem q_fewest {s : Int} {c m : ZS} (h : zWc s c m) (hne : ∃ f, 0 ≤ f ∧ f < c r_x_filmCount 0 0 0 ∧ zrk c s f = true) (hno : ∀ f, 0 ≤ f → f < c r_x_filmCount 0 0 0 → zrk c s f = true → 2 * zfs c s f ≤ zvo c s (zfo c s)) : ∃ g, 0 ≤ g ∧ g < c r_x_filmCount 0 0 0 ∧ zrk c s g = true ∧ f_Count_withFewestFirsts [s] c = ((0, [g]), c) ∧ g_m_byRounds ((1042, [s, zvo c s (zfo c s), -1, 0]), m) = g_m_byRounds ((1042, [s, zvo c s (zfo c s), g, c r_x_filmCount 0 0 0]), m) := by
  obtain ⟨⟨⟨s0, s1⟩, ⟨a1, a2, a3⟩, -, hJ⟩, hL⟩ := id h
  obtain ⟨⟨u0, u1, -⟩, -⟩ := hJ s s0 s1
  have hv5 : ∀ f, 0 ≤ zfs c s f ∧ zfs c s f ≤ 5 := fun f => by
    have := zcnt_le (fun j => decide (zfo c s j = f)) (c r_Section_jurorCount s 0 0).toNat 0
    unfold zfs
    omega
  have tail : ∀ (t : Nat) (k x y : Int), c r_x_filmCount 0 0 0 ≤ k → k + t = 20 → g_Count_withFewestFirsts ((1008, [s, x, y, k]), c) = ((0, [x]), c) := by
    intro t
    induction t with
    | zero =>
      intro k x y k0 k1
      rw [g_Count_withFewestFirsts_8, zb_d, if_pos (by omega)]
    | succ t ih =>
      intro k x y k0 k1
      have hk : e_wr (k + 1) = k + 1 := e_wr_id (by omega) (by omega)
      have hz : zrk c s k = false := by
        cases e : zrk c s k with
        | false => rfl
        | true =>
          have := zrk_lt h.1 e
          omega
      rw [g_Count_withFewestFirsts_8, zb_d, if_neg (by omega), q_isRanked h, e_bnd, zb_d, hz, if_pos (by rfl), hk]
      exact ih (k + 1) x y (by omega) (by omega)
  have key : ∀ (t : Nat) (k x y z : Int), 0 ≤ k → k + t = c r_x_filmCount 0 0 0 → ((z = -1 ∧ x = 0 ∧ y = 6 ∧ ∃ f, k ≤ f ∧ f < c r_x_filmCount 0 0 0 ∧ zrk c s f = true) ∨ (0 ≤ z ∧ z < c r_x_filmCount 0 0 0 ∧ zrk c s z = true ∧ x = z ∧ y = zfs c s z)) → ∃ g, 0 ≤ g ∧ g < c r_x_filmCount 0 0 0 ∧ zrk c s g = true ∧ g_Count_withFewestFirsts ((1008, [s, x, y, k]), c) = ((0, [g]), c) ∧ g_m_byRounds ((1042, [s, zvo c s (zfo c s), z, k]), m) = g_m_byRounds ((1042, [s, zvo c s (zfo c s), g, c r_x_filmCount 0 0 0]), m) := by
    intro t
    induction t with
    | zero =>
      intro k x y z k0 k1 hi
      have e : k = c r_x_filmCount 0 0 0 := by omega
      rcases hi with ⟨-, -, -, f, f0, f1, -⟩ | ⟨z0, z1, z2, rfl, rfl⟩
      · omega
      · exact ⟨x, z0, z1, z2, tail (20 - k).toNat k x _ (by omega) (by omega), by rw [e]⟩
    | succ t ih =>
      intro k x y z k0 k1 hi
      have hk : e_wr (k + 1) = k + 1 := e_wr_id (by omega) (by omega)
      have hl := hL k k0 (by omega)
      have h5 := hv5 k
      have h2 : e_wr (2 * zfs c s k) = 2 * zfs c s k := e_wr_id (by omega) (by omega)
      have eC := g_Count_withFewestFirsts_8 (x1 := s) (x2 := x) (x3 := y) (x4 := k) (S := c)
      rw [zb_d, if_neg (by omega), q_isRanked h, e_bnd, zb_d, (q_firsts h).1, e_bnd, zb_d, (q_firsts h).1, e_bnd, hk] at eC
      have eM := g_m_byRounds_42 (x1 := s) (x2 := zvo c s (zfo c s)) (x3 := z) (x4 := k) (S := m)
      rw [zb_d, if_neg (by omega), zb_d, (q_firsts h).2, e_bnd, zb_d, zb_d, (q_firsts h).2, e_bnd, (q_firsts h).2, e_bnd, zb_d, hk, h2] at eM
      rw [eC, eM]
      by_cases q : zrk c s k = true
      · have hml : ¬ m r_m_areLeft 0 0 k = 0 := hl.mpr q
        rw [q, if_neg (by decide), if_neg hml, if_pos (hno k k0 (by omega) q)]
        rcases hi with ⟨rfl, rfl, rfl, hf⟩ | ⟨z0, z1, z2, rfl, rfl⟩
        · rw [if_neg (show ¬ 6 < zfs c s k by omega), if_pos (by decide)]
          exact ih (k + 1) k _ k (by omega) (by omega) (Or.inr ⟨k0, by omega, q, rfl, rfl⟩)
        · rw [if_neg (show ¬ x < 0 by omega)]
          by_cases w : zfs c s x < zfs c s k
          · rw [if_pos w, if_pos w]
            exact ih (k + 1) x _ x (by omega) (by omega) (Or.inr ⟨z0, z1, z2, rfl, rfl⟩)
          · rw [if_neg w, if_neg w]
            exact ih (k + 1) k _ k (by omega) (by omega) (Or.inr ⟨k0, by omega, q, rfl, rfl⟩)
      · have q' : zrk c s k = false := by simpa using q
        have hml : m r_m_areLeft 0 0 k = 0 := by
          by_cases v : m r_m_areLeft 0 0 k = 0
          · exact v
          · exact absurd (hl.mp v) q
        rw [q', if_pos (by rfl), if_pos hml]
        refine ih (k + 1) x y z (by omega) (by omega) ?_
        rcases hi with ⟨i1, i2, i3, f, f0, f1, f2⟩ | hi
        · refine Or.inl ⟨i1, i2, i3, f, ?_, f1, f2⟩
          by_cases e : f = k
          · rw [e] at f2
            exact absurd f2 q
          · omega
        · exact Or.inr hi
  obtain ⟨f, f0, f1, f2⟩ := hne
  obtain ⟨g, g0, g1, g2, g3, g4⟩ := key (c r_x_filmCount 0 0 0).toNat 0 0 6 (-1) (Int.le_refl _) (by omega) (Or.inl ⟨rfl, rfl, rfl, f, f0, f1, f2⟩)
  refine ⟨g, g0, g1, g2, ?_, g4⟩
  show g_Count_withFewestFirsts ((1000, [s]), c) = _
  rw [g_Count_withFewestFirsts_0]
  exact g3
/-- where one film has more than half, the model's search ends with it -/
theorem q_major {s w : Int} {c m : ZS} (h : zWc s c m) (w0 : 0 ≤ w) (w1 : w < c r_x_filmCount 0 0 0) (hw : zrk c s w = true) (hm : zvo c s (zfo c s) < 2 * zfs c s w) : g_m_byRounds ((1042, [s, zvo c s (zfo c s), -1, 0]), m) = ((0, [w]), m) := by
  obtain ⟨⟨⟨s0, s1⟩, ⟨a1, a2, a3⟩, -, hJ⟩, hL⟩ := id h
  obtain ⟨⟨u0, u1, -⟩, -⟩ := hJ s s0 s1
  have hv5 : ∀ f, 0 ≤ zfs c s f ∧ zfs c s f ≤ 5 := fun f => by
    have := zcnt_le (fun j => decide (zfo c s j = f)) (c r_Section_jurorCount s 0 0).toNat 0
    unfold zfs
    omega
  have key : ∀ (t : Nat) (k z : Int), 0 ≤ k → k + t = w → g_m_byRounds ((1042, [s, zvo c s (zfo c s), z, k]), m) = ((0, [w]), m) := by
    intro t
    induction t with
    | zero =>
      intro k z k0 k1
      have e : k = w := by omega
      rw [e]
      have h5 := hv5 w
      have h2 : e_wr (2 * zfs c s w) = 2 * zfs c s w := e_wr_id (by omega) (by omega)
      have hml : ¬ m r_m_areLeft 0 0 w = 0 := (hL w w0 w1).mpr hw
      rw [g_m_byRounds_42, zb_d, if_neg (by omega), zb_d, if_neg hml, (q_firsts h).2, e_bnd, zb_d, h2, if_neg (by omega)]
    | succ t ih =>
      intro k z k0 k1
      have hk : e_wr (k + 1) = k + 1 := e_wr_id (by omega) (by omega)
      have hl := hL k k0 (by omega)
      have h5 := hv5 k
      have h2 : e_wr (2 * zfs c s k) = 2 * zfs c s k := e_wr_id (by omega) (by omega)
      have hle : zfs c s k + zfs c s w ≤ zvo c s (zfo c s) := zcnt_two _ 0 (fun i i0 i1 => by
        simp only [decide_eq_true_eq, Bool.not_eq_true', decide_eq_false_iff_not]
        exact ⟨fun y => by omega, fun y => by omega, fun y => by omega⟩)
      have eM := g_m_byRounds_42 (x1 := s) (x2 := zvo c s (zfo c s)) (x3 := z) (x4 := k) (S := m)
      rw [zb_d, if_neg (by omega), zb_d, (q_firsts h).2, e_bnd, zb_d, zb_d, (q_firsts h).2, e_bnd, (q_firsts h).2, e_bnd, zb_d, hk, h2] at eM
      rw [eM]
      by_cases q : zrk c s k = true
      · have hml : ¬ m r_m_areLeft 0 0 k = 0 := hl.mpr q
        rw [if_neg hml, if_pos (by omega)]
        split
        · exact ih (k + 1) k (by omega) (by omega)
        · split
          · exact ih (k + 1) z (by omega) (by omega)
          · exact ih (k + 1) k (by omega) (by omega)
      · have hml : m r_m_areLeft 0 0 k = 0 := by
          by_cases v : m r_m_areLeft 0 0 k = 0
          · exact v
          · exact absurd (hl.mp v) q
        rw [if_pos hml]
        exact ih (k + 1) z (by omega) (by omega)
  exact key w.toNat 0 (-1) (Int.le_refl _) (by omega)
def zouC : List Nat := [r_Count_isOut]
def zouM : List Nat := [r_m_areLeft]
theorem q_rounds {s : Int} {c0 m0 : ZS} : ∀ (n : Nat) (x : Int) (c m : ZS), zWc s c m → zcnt (zrk c s) (c r_x_filmCount 0 0 0).toNat 0 = n → 1 ≤ n → 0 ≤ x → x + n ≤ 20 → (∀ r, zouC.contains r = false → c r = c0 r) → (∀ r, zouM.contains r = false → m r = m0 r) → ∃ w C' M', g_Count_byRounds ((1002, [s, x]), c) = ((0, [w]), C') ∧ g_m_byRounds ((1000, [s]), m) = ((0, [w]), M') ∧ (0 ≤ w ∧ w < c0 r_x_filmCount 0 0 0) ∧ (∀ r, zouC.contains r = false → C' r = c0 r) ∧ (∀ r, zouM.contains r = false → M' r = m0 r)
  | 0, _, _, _, _, _, h1, _, _, _, _ => by omega
  | n + 1, x, c, m, h, hn, h1, x0, x1, fc, fm => by
    obtain ⟨⟨⟨s0, s1⟩, ⟨a1, a2, a3⟩, hB, hJ⟩, hL⟩ := id h
    obtain ⟨⟨u0, u1, u2⟩, -⟩ := hJ s s0 s1
    have eF : c r_x_filmCount 0 0 0 = c0 r_x_filmCount 0 0 0 := by rw [fc _ (by decide)]
    have hv5 : ∀ f, 0 ≤ zfs c s f ∧ zfs c s f ≤ 5 := fun f => by
      have := zcnt_le (fun j => decide (zfo c s j = f)) (c r_Section_jurorCount s 0 0).toNat 0
      unfold zfs
      omega
    have hx : e_wr (x + 1) = x + 1 := e_wr_id (by omega) (by omega)
    -- the voting ones
    have vC : ∀ (t : Nat) (v k : Int), 0 ≤ k → k + t = c r_Section_jurorCount s 0 0 → 0 ≤ v → v ≤ k → g_Count_byRounds ((1013, [s, x, v, k]), c) = g_Count_byRounds ((1013, [s, x, v + zcnt (fun j => !decide (zfo c s j = -1)) t k, c r_Section_jurorCount s 0 0]), c) := by
      intro t
      induction t with
      | zero =>
        intro v k k0 k1 v0 v1
        rw [zcnt, Int.add_zero, show k = c r_Section_jurorCount s 0 0 by omega]
      | succ t ih =>
        intro v k k0 k1 v0 v1
        have hk : e_wr (k + 1) = k + 1 := e_wr_id (by omega) (by omega)
        have hv : e_wr (v + 1) = v + 1 := e_wr_id (by omega) (by omega)
        have eC := g_Count_byRounds_13 (x1 := s) (x2 := x) (x3 := v) (x4 := k) (S := c)
        rw [zb_d, if_neg (by omega), (q_first h k0 (by omega)).1, e_bnd, zb_d, hk, hv] at eC
        rw [eC, zcnt]
        by_cases q : zfo c s k = -1
        · rw [if_pos q, decide_eq_true q, if_neg (by decide), Int.zero_add]
          exact ih v (k + 1) (by omega) (by omega) v0 (by omega)
        · rw [if_neg q, decide_eq_false q, if_pos (by rfl), ← Int.add_assoc]
          exact ih (v + 1) (k + 1) (by omega) (by omega) (by omega) (by omega)
    have vM : ∀ (t : Nat) (v k : Int), 0 ≤ k → k + t = c r_Section_jurorCount s 0 0 → 0 ≤ v → v ≤ k → g_m_byRounds ((1004, [s, v, k]), m) = g_m_byRounds ((1042, [s, v + zcnt (fun j => !decide (zfo c s j = -1)) t k, -1, 0]), m) := by
      intro t
      induction t with
      | zero =>
        intro v k k0 k1 v0 v1
        rw [zcnt, Int.add_zero, g_m_byRounds_4, zb_d, if_pos (by omega)]
      | succ t ih =>
        intro v k k0 k1 v0 v1
        have hk : e_wr (k + 1) = k + 1 := e_wr_id (by omega) (by omega)
        have hv : e_wr (v + 1) = v + 1 := e_wr_id (by omega) (by omega)
        have hv0 : e_wr (v + 0) = v := by rw [Int.add_zero]; exact e_wr_id (by omega) (by omega)
        obtain ⟨-, f2, f3, -⟩ := q_first h k0 (show k < c r_Section_jurorCount s 0 0 by omega)
        have eM := g_m_byRounds_4 (x1 := s) (x2 := v) (x3 := k) (S := m)
        rw [zb_d, if_neg (by omega), f2, e_bnd, zb_d, hk, hv, hv0] at eM
        rw [eM, zcnt]
        by_cases q : zfo c s k = -1
        · rw [if_pos (by omega), decide_eq_true q, if_neg (by decide), Int.zero_add]
          exact ih v (k + 1) (by omega) (by omega) v0 (by omega)
        · rw [if_neg (by omega), decide_eq_false q, if_pos (by rfl), ← Int.add_assoc]
          exact ih (v + 1) (k + 1) (by omega) (by omega) (by omega) (by omega)
    have e1 : g_Count_byRounds ((1002, [s, x]), c) = g_Count_byRounds ((1013, [s, x, zvo c s (zfo c s), c r_Section_jurorCount s 0 0]), c) := by
      rw [g_Count_byRounds_2, zb_d, if_neg (by omega), vC (c r_Section_jurorCount s 0 0).toNat 0 0 (Int.le_refl _) (by omega) (Int.le_refl _) (Int.le_refl _), Int.zero_add]
      rfl
    have e2 : g_m_byRounds ((1000, [s]), m) = g_m_byRounds ((1042, [s, zvo c s (zfo c s), -1, 0]), m) := by
      rw [g_m_byRounds_0, vM (c r_Section_jurorCount s 0 0).toNat 0 0 (Int.le_refl _) (by omega) (Int.le_refl _) (Int.le_refl _), Int.zero_add]
      rfl
    rw [e1, e2]
    obtain ⟨w, w1, w2, w3⟩ := q_most h (Or.inl rfl)
    have hex : ∃ f, 0 ≤ f ∧ f < c r_x_filmCount 0 0 0 ∧ zrk c s f = true := by
      obtain ⟨i, i0, i1, hi⟩ := zcnt_pos (p := zrk c s) (c r_x_filmCount 0 0 0).toNat 0 (by omega)
      exact ⟨i, i0, by omega, hi⟩
    rcases w3 with ⟨-, w4⟩ | ⟨w4, w5, w6, w7⟩
    · obtain ⟨f, f0, f1, f2⟩ := hex
      rw [w4 f f0 f1] at f2
      cases f2
    · have h5 := hv5 w
      have h2 : e_wr (2 * zfs c s w) = 2 * zfs c s w := e_wr_id (by omega) (by omega)
      have w7 : ∀ f, 0 ≤ f → f < c r_x_filmCount 0 0 0 → zrk c s f = true → zfs c s f ≤ zfs c s w := fun f f0 f1 hf => by
        have := w7 f f0 f1 hf
        unfold zvl at this
        rw [if_pos rfl, if_pos rfl] at this
        exact this
      have eC := g_Count_byRounds_13 (x1 := s) (x2 := x) (x3 := zvo c s (zfo c s)) (x4 := c r_Section_jurorCount s 0 0) (S := c)
      rw [zb_d, if_pos (Int.le_refl _), w1, e_bnd, zb_d, if_neg (by omega), (q_firsts h).1, e_bnd, zb_d, h2] at eC
      rw [eC]
      by_cases q : 2 * zfs c s w ≤ zvo c s (zfo c s)
      · obtain ⟨g, g0, g1, g2, g3, g4⟩ := q_fewest h hex (fun f f0 f1 hf => by
          have := w7 f f0 f1 hf
          omega)
        rw [if_pos q, g3, e_bnd, g4, hx, e_nb1]
        have eM := g_m_byRounds_42 (x1 := s) (x2 := zvo c s (zfo c s)) (x3 := g) (x4 := c r_x_filmCount 0 0 0) (S := m)
        rw [zb_d, if_pos (by omega), e_nb0] at eM
        rw [eM]
        have cO : ∀ r, zouC.contains r = false → (e_upd c r_Count_isOut 0 0 g 1) r = c r := fun r hr => by
          funext a b d
          exact e_un (by
            cases e : r == r_Count_isOut with
            | false => rfl
            | true => rw [beq_iff_eq] at e; rw [e] at hr; exact absurd hr (by decide))
        have mO : ∀ r, zouM.contains r = false → (e_upd m r_m_areLeft 0 0 g 0) r = m r := fun r hr => by
          funext a b d
          exact e_un (by
            cases e : r == r_m_areLeft with
            | false => rfl
            | true => rw [beq_iff_eq] at e; rw [e] at hr; exact absurd hr (by decide))
        have rk : ∀ f, zrk (e_upd c r_Count_isOut 0 0 g 1) s f = (zrk c s f && decide (f ≠ g)) := fun f => by
          unfold zrk zob zon
          rw [cO r_Section_jurorCount (by decide), cO r_Juror_ballot (by decide), cO r_Juror_ballotSize (by decide), e_ur]
          by_cases z : f = g
          · rw [if_pos ⟨rfl, rfl, z⟩, decide_eq_false (show ¬ f ≠ g from fun y => y z), decide_eq_false (by decide), Bool.false_and, Bool.and_false]
          · rw [if_neg (fun y => z y.2.2), decide_eq_true (show f ≠ g from z), Bool.and_true]
        have h' : zWc s (e_upd c r_Count_isOut 0 0 g 1) (e_upd m r_m_areLeft 0 0 g 0) := by
          refine ⟨⟨⟨s0, s1⟩, ?_, zBa_rel.uc (zBa_rel.um hB (by decide)) (by decide), zJu_rel.uc (zJu_rel.um hJ (by decide)) (by decide)⟩, fun f f0 f1 => ?_⟩
          · rw [e_un (by decide), e_un (by decide)]
            exact ⟨a1, a2, a3⟩
          · rw [e_un (by decide)] at f1
            rw [rk, e_ur, Bool.and_eq_true, decide_eq_true_eq]
            by_cases z : f = g
            · rw [if_pos ⟨rfl, rfl, z⟩]
              exact ⟨fun y => absurd rfl y, fun y => absurd z y.2⟩
            · rw [if_neg (fun y => z y.2.2), hL f f0 f1]
              exact ⟨fun y => ⟨y, z⟩, fun y => y.1⟩
        have hcnt : zcnt (zrk (e_upd c r_Count_isOut 0 0 g 1) s) ((e_upd c r_Count_isOut 0 0 g 1) r_x_filmCount 0 0 0).toNat 0 = n := by
          rw [e_un (by decide)]
          have := zcnt_one (p := zrk c s) (b := g) g2 (c r_x_filmCount 0 0 0).toNat 0 g0 (by omega)
          rw [zcnt_cg (p := zrk (e_upd c r_Count_isOut 0 0 g 1) s) (q := fun i => zrk c s i && decide (i ≠ g)) _ 0 (fun i _ _ => rk i)]
          omega
        have hn1 : 1 ≤ n := by
          by_cases z : n = 0
          · exfalso
            -- one film alone has all votes
            subst z
            have only : ∀ f, 0 ≤ f → f < c r_x_filmCount 0 0 0 → zrk c s f = true → f = w := fun f f0 f1 hf => by
              by_cases e : f = w
              · exact e
              · have y1 := zcnt_one (p := zrk c s) (b := w) w6 (c r_x_filmCount 0 0 0).toNat 0 w4 (by omega)
                have y2 := zcnt_one (p := fun i => zrk c s i && decide (i ≠ w)) (b := f) (by
                  show (zrk c s f && decide (f ≠ w)) = true
                  rw [hf, decide_eq_true e]
                  rfl) (c r_x_filmCount 0 0 0).toNat 0 f0 (by omega)
                have y3 := zcnt_le (fun i => (fun i => zrk c s i && decide (i ≠ w)) i && decide (i ≠ f)) (c r_x_filmCount 0 0 0).toNat 0
                (try dsimp only at y1 y2 y3)
                omega
            have hall : zvo c s (zfo c s) ≤ zfs c s w := zcnt_mono _ 0 (fun j j0 j1 hj => by
              simp only [Bool.not_eq_true', decide_eq_false_iff_not] at hj
              obtain ⟨-, -, f3, -⟩ := q_first h j0 (show j < c r_Section_jurorCount s 0 0 by omega)
              rcases f3 with f3 | ⟨f3, f4, f5⟩
              · exact absurd f3 hj
              · exact decide_eq_true (only _ f3 f4 f5))
            have hpos : 0 < zvo c s (zfo c s) := by
              have w8 := w6
              unfold zrk zob at w8
              rw [Bool.and_eq_true, decide_eq_true_eq, zany_iff] at w8
              obtain ⟨w9, j, j0, j1, hj⟩ := w8
              unfold zon at hj
              rw [zany_iff] at hj
              obtain ⟨k, k0, k1, hk⟩ := hj
              have hk := of_decide_eq_true hk
              obtain ⟨-, -, -, f4⟩ := q_first h j0 (show j < c r_Section_jurorCount s 0 0 by omega)
              have bs := (hB s j s0 s1 j0 (by omega)).1.1
              have f5 := f4 k k0 (by omega) (by rw [hk]; exact w9)
              have y1 := zcnt_one (p := fun j => !decide (zfo c s j = -1)) (b := j) (by
                show (!decide (zfo c s j = -1)) = true
                rw [decide_eq_false f5]
                rfl) (c r_Section_jurorCount s 0 0).toNat 0 j0 (by omega)
              have y2 := zcnt_le (fun i => (fun j => !decide (zfo c s j = -1)) i && decide (i ≠ j)) (c r_Section_jurorCount s 0 0).toNat 0
              unfold zvo
              (try dsimp only at y1 y2)
              omega
            omega
          · omega
        exact q_rounds n (x + 1) _ _ h' hcnt hn1 (by omega) (by omega) (fun r hr => (cO r hr).trans (fc r hr)) (fun r hr => (mO r hr).trans (fm r hr))
      · rw [if_neg q, q_major h w4 w5 w6 (by omega)]
        exact ⟨w, c, m, rfl, rfl, ⟨w4, by omega⟩, fc, fm⟩
