/-! rank: both sides -/
/-- how often a film is typed -/
def ztm (c : ZS) (f : Int) : Int := zcnt (fun k => decide (c r_x_typed 0 0 k = f)) (c r_x_typedCount 0 0 0).toNat 0
def zdu (c : ZS) (s j f : Int) : Bool := decide (c r_Film_section f 0 0 = s) && !decide (c r_Film_land f 0 0 = c r_Juror_land s j 0)
theorem zcnt_none {p : Int → Bool} : ∀ (n : Nat) (k : Int), zcnt p n k = 0 ↔ zany p n k = false
  | 0, k => by simp [zcnt, zany]
  | n + 1, k => by
    have := zcnt_le p n (k + 1)
    rw [zcnt, zany, Bool.or_eq_false_iff, ← zcnt_none n (k + 1)]
    cases p k
    · rw [if_neg (by decide)]
      simp
    · rw [if_pos rfl]
      simp
      omega
theorem zsum_add {v w : Int → Int} : ∀ (n : Nat) (k : Int), zsum (fun i => v i + w i) n k = zsum v n k + zsum w n k
  | 0, _ => rfl
  | n + 1, k => by
    rw [zsum, zsum, zsum, zsum_add n (k + 1)]
    omega
/-- all numbers that are typed, film by film -/
theorem zsum_tm {t : Int → Int} {N : Int} (N0 : 0 ≤ N) : ∀ (n : Nat), (∀ k : Int, 0 ≤ k → k < n → 0 ≤ t k ∧ t k < N) → zsum (fun f => zcnt (fun k => decide (t k = f)) n 0) N.toNat 0 = n
  | 0, _ => zsum_z (w := fun f => zcnt (fun k => decide (t k = f)) 0 0) N.toNat 0 (fun _ _ _ => rfl)
  | n + 1, h => by
    have ih := zsum_tm N0 n (fun k a b => h k a (by omega))
    obtain ⟨t0, t1⟩ := h n (by omega) (by omega)
    have e0 : (0 : Int) + (n : Int) = n := by omega
    rw [zsum_cg (w := fun f => zcnt (fun k => decide (t k = f)) n 0 + if f = t n then 1 else 0) N.toNat 0 (fun f _ _ => by
      (try dsimp only)
      rw [zcnt_app, e0]
      by_cases q : t n = f
      · rw [decide_eq_true q, if_pos rfl, if_pos q.symm]
      · rw [decide_eq_false q, if_neg (by decide), if_neg (fun z => q z.symm)]), zsum_add, ih]
    have h1 := zsum_upd (w := fun _ => 0) (b := t n) (z := 1) N.toNat 0 t0 (by omega)
    rw [zsum_z (w := fun _ => 0) N.toNat 0 (fun _ _ _ => rfl)] at h1
    rw [h1]
    omega
/-- where each is at least so much and the sums are alike, all are alike -/
theorem zsum_eq {v w : Int → Int} : ∀ (n : Nat) (k : Int), (∀ i, k ≤ i → i < k + n → v i ≤ w i) → zsum v n k ≤ zsum w n k ∧ (zsum v n k = zsum w n k → ∀ i, k ≤ i → i < k + n → v i = w i)
  | 0, k, _ => ⟨Int.le_refl _, fun _ i a b => by omega⟩
  | n + 1, k, h => by
    obtain ⟨h1, h2⟩ := zsum_eq n (k + 1) (fun i a b => h i (by omega) (by omega))
    have h3 := h k (Int.le_refl _) (by omega)
    rw [zsum, zsum]
    refine ⟨by omega, fun e i a b => ?_⟩
    by_cases q : i = k
    · rw [q]
      omega
    · exact h2 (by omega) i (by omega) (by omega)
theorem q_isTyped {c m : ZS} (h : zTy c m) {f : Int} : f_x_isTyped [f] c = ((0, [zb (zany (fun k => decide (c r_x_typed 0 0 k = f)) (c r_x_typedCount 0 0 0).toNat 0)]), c) := by
  obtain ⟨-, ⟨t0, t1, -⟩, -⟩ := h
  show g_x_isTyped ((1000, [f]), c) = _
  rw [g_x_isTyped_0]
  refine (zl_any (n := c r_x_typedCount 0 0 0) (p := fun k => decide (c r_x_typed 0 0 k = f)) (A := ((0, [1]), c)) (B := ((0, [0]), c)) (G := fun k => g_x_isTyped ((1002, [f, k]), c)) (fun k hk => ?_) (fun k h0 h1 => ?_) (c r_x_typedCount 0 0 0).toNat 0 (Int.le_refl _) (by omega)).trans ?_
  · rw [g_x_isTyped_2, zb_d, if_pos (by omega)]
  · have hk : e_wr (k + 1) = k + 1 := e_wr_id (by omega) (by omega)
    rw [g_x_isTyped_2, zb_d, if_neg (by omega), hk, zb_n]
    simp only [decide_eq_true_eq]
  · unfold zb
    split <;> rfl
/-- what the class asks of the typed films -/
def zrkC (c : ZS) (s j : Int) : Bool := !zany (fun f => zdu c s j f && (decide (c r_Juror_hasSeen s j f = 0) || !zany (fun k => decide (c r_x_typed 0 0 k = f)) (c r_x_typedCount 0 0 0).toNat 0)) (c r_x_filmCount 0 0 0).toNat 0 && (decide (0 < zcnt (zdu c s j) (c r_x_filmCount 0 0 0).toNat 0) && decide (zcnt (zdu c s j) (c r_x_filmCount 0 0 0).toNat 0 = c r_x_typedCount 0 0 0))
theorem q_ballotC {c m : ZS} (hR : zR c m) (h : zTy c m) {s j : Int} : f_x_isBallotOf [s, s, j] c = ((0, [zb (zrkC c s j)]), c) := by
  obtain ⟨⟨a1, a2, a3⟩, -⟩ := id hR
  show g_x_isBallotOf ((1000, [s, s, j]), c) = _
  rw [g_x_isBallotOf_0]
  have loop : ∀ (t : Nat) (k d : Int), 0 ≤ k → k + t = c r_x_filmCount 0 0 0 → d = zcnt (zdu c s j) k.toNat 0 → g_x_isBallotOf ((1005, [s, s, j, d, k]), c) = ((0, [zb (!zany (fun f => zdu c s j f && (decide (c r_Juror_hasSeen s j f = 0) || !zany (fun k => decide (c r_x_typed 0 0 k = f)) (c r_x_typedCount 0 0 0).toNat 0)) t k && (decide (0 < zcnt (zdu c s j) (c r_x_filmCount 0 0 0).toNat 0) && decide (zcnt (zdu c s j) (c r_x_filmCount 0 0 0).toNat 0 = c r_x_typedCount 0 0 0)))]), c) := by
    intro t
    induction t with
    | zero =>
      intro k d k0 k1 hd
      have e : k = c r_x_filmCount 0 0 0 := by omega
      rw [g_x_isBallotOf_5, zb_d, if_pos (by omega), zb_d, zb_n, hd, e, zany]
      by_cases q1 : 0 < zcnt (zdu c s j) (c r_x_filmCount 0 0 0).toNat 0
      · rw [if_neg (by omega), decide_eq_true q1]
        by_cases q2 : zcnt (zdu c s j) (c r_x_filmCount 0 0 0).toNat 0 = c r_x_typedCount 0 0 0
        · rw [if_pos q2, decide_eq_true q2]
          rfl
        · rw [if_neg q2, decide_eq_false q2]
          rfl
      · rw [if_pos (by omega), decide_eq_false q1]
        rfl
    | succ t ih =>
      intro k d k0 k1 hd
      have hk : e_wr (k + 1) = k + 1 := e_wr_id (by omega) (by omega)
      have ek : (k + 1).toNat = k.toNat + 1 := by omega
      have e0 : (0 : Int) + (k.toNat : Int) = k := by omega
      have happ := zcnt_app (p := zdu c s j) k.toNat 0
      have hle := zcnt_le (zdu c s j) k.toNat 0
      rw [e0, ← ek] at happ
      have hdw : e_wr (d + 1) = d + 1 := e_wr_id (by omega) (by omega)
      rw [g_x_isBallotOf_5, zb_d, if_neg (by omega), zb_n, zb_d, zb_d, q_isTyped h, e_bnd, zb_n, hk, hdw, zany]
      by_cases q1 : c r_Film_section k 0 0 = s
      · by_cases q2 : c r_Film_land k 0 0 = c r_Juror_land s j 0
        · have hdu : zdu c s j k = false := by
            unfold zdu
            rw [decide_eq_true q2, Bool.not_true, Bool.and_false]
          rw [hdu, if_neg (by decide), Int.add_zero] at happ
          rw [if_pos q1, if_pos q2, hdu, Bool.false_and, Bool.false_or]
          exact ih (k + 1) d (by omega) (by omega) (by omega)
        · have hdu : zdu c s j k = true := by
            unfold zdu
            rw [decide_eq_true q1, decide_eq_false q2]
            rfl
          rw [hdu, if_pos rfl] at happ
          rw [if_pos q1, if_neg q2, hdu, Bool.true_and]
          by_cases q3 : c r_Juror_hasSeen s j k = 0
          · rw [if_pos q3, decide_eq_true q3]
            rfl
          · rw [if_neg q3, decide_eq_false q3, Bool.false_or]
            cases q4 : zany (fun i => decide (c r_x_typed 0 0 i = k)) (c r_x_typedCount 0 0 0).toNat 0
            · rw [if_pos (by decide)]
              rfl
            · rw [if_neg (by decide), Bool.not_true, Bool.false_or]
              exact ih (k + 1) (d + 1) (by omega) (by omega) (by omega)
      · have hdu : zdu c s j k = false := by
          unfold zdu
          rw [decide_eq_false q1, Bool.false_and]
        rw [hdu, if_neg (by decide), Int.add_zero] at happ
        rw [if_neg q1, hdu, Bool.false_and, Bool.false_or]
        exact ih (k + 1) d (by omega) (by omega) (by omega)
  exact loop (c r_x_filmCount 0 0 0).toNat 0 0 (Int.le_refl _) (by omega) rfl
/-- what the model asks of them -/
def zrkM (c : ZS) (s j f : Int) : Bool := !decide (ztm c f = if zdu c s j f = true then 1 else 0) || (zdu c s j f && decide (c r_Juror_hasSeen s j f = 0))
theorem q_ballotM {c m : ZS} (hR : zR c m) (hF : zFs c m) (h : zTy c m) (hJ : zJu c m) (hN : zSn c m) {s j : Int} (s0 : 0 ≤ s) (s1 : s < 5) (j0 : 0 ≤ j) (j1 : j < c r_Section_jurorCount s 0 0) {v : Int} (hv : zbit v) : g_m_rank ((1032, [s, j, v, 0]), m) = g_m_rank ((1032, [s, j, if zany (zrkM c s j) (c r_x_filmCount 0 0 0).toNat 0 = true then 0 else v, c r_x_filmCount 0 0 0]), m) := by
  obtain ⟨⟨a1, a2, a3⟩, -, -, hl, -⟩ := id hR
  obtain ⟨-, ⟨t0, t1, t2⟩, ty⟩ := id h
  obtain ⟨⟨u0, u1, u2⟩, jl⟩ := hJ s s0 s1
  refine zl_set (n := c r_x_filmCount 0 0 0) (z := 0) (p := zrkM c s j) (P := zbit) zbit0 (fin := fun v => g_m_rank ((1032, [s, j, v, c r_x_filmCount 0 0 0]), m)) (G := fun v k => g_m_rank ((1032, [s, j, v, k]), m)) (fun v k e hv => by rw [e]) (fun v k h0 h1 hv => ?_) (c r_x_filmCount 0 0 0).toNat v 0 (Int.le_refl _) (by omega) hv
  have hk : e_wr (k + 1) = k + 1 := e_wr_id (by omega) (by omega)
  have s4 := (hF.1 k h0 h1).2.2.2
  have l4 := hl k h0 h1
  have jl4 := jl j j0 j1
  have n4 := hN s j k s0 s1 j0 (by omega) h0 (by omega)
  rw [g_m_rank_32, zb_d, if_neg (by omega)]
  refine (zl_cnt (n := c r_x_typedCount 0 0 0) (p := fun i => decide (c r_x_typed 0 0 i = k)) (fin := fun x => g_m_rank ((1047, [s, j, v, k, x, c r_x_typedCount 0 0 0]), m)) (G := fun x i => g_m_rank ((1047, [s, j, v, k, x, i]), m)) (fun x i e => by rw [e]) (fun x i i0 i1 x0 x1 => ?_) (c r_x_typedCount 0 0 0).toNat 0 0 (Int.le_refl _) (by omega) (Int.le_refl _) (Int.le_refl _)).trans ?_
  · have hi : e_wr (i + 1) = i + 1 := e_wr_id (by omega) (by omega)
    have hx : e_wr (x + 1) = x + 1 := e_wr_id (by omega) (by omega)
    have hx0 : e_wr (x + 0) = x := by rw [Int.add_zero]; exact e_wr_id (by omega) (by omega)
    rw [g_m_rank_47, zb_d, if_neg (by omega), zb_n, hi, hx, hx0, (ty i i0 i1).1]
    by_cases q : c r_x_typed 0 0 i = k
    · rw [if_pos q, decide_eq_true q, if_pos rfl]
    · rw [if_neg q, decide_eq_false q, if_neg (by decide)]
  · rw [Int.zero_add]
    show g_m_rank ((1047, [s, j, v, k, ztm c k, c r_x_typedCount 0 0 0]), m) = _
    rw [g_m_rank_47, zb_d, if_pos (by omega), hk, s4, l4, jl4, n4, e_and0 hv, e_and1 hv]
    have hff : (if (false = true) then (1 : Int) else 0) = 0 := rfl
    have htt : (if (true = true) then (1 : Int) else 0) = 1 := rfl
    unfold zrkM
    simp only [zb_d, zb_n]
    by_cases q1 : c r_Film_section k 0 0 = s
    · by_cases q2 : c r_Film_land k 0 0 = c r_Juror_land s j 0
      · have hdu : zdu c s j k = false := by
          unfold zdu
          rw [decide_eq_true q2, Bool.not_true, Bool.and_false]
        rw [if_pos q1, if_pos q2, hdu, Bool.false_and, Bool.or_false, hff]
        by_cases q3 : ztm c k = 0
        · rw [if_pos q3, decide_eq_true q3, if_neg (by decide)]
        · rw [if_neg q3, decide_eq_false q3, if_pos (by rfl)]
      · have hdu : zdu c s j k = true := by
          unfold zdu
          rw [decide_eq_true q1, decide_eq_false q2]
          rfl
        rw [if_pos q1, if_neg q2, hdu, Bool.true_and, htt]
        by_cases q3 : ztm c k = 1
        · rw [if_pos q3, decide_eq_true q3, Bool.not_true, Bool.false_or]
          by_cases q4 : c r_Juror_hasSeen s j k = 0
          · rw [if_pos q4, decide_eq_true q4, if_pos rfl]
          · rw [if_neg q4, decide_eq_false q4, if_neg (by decide)]
        · rw [if_neg q3, decide_eq_false q3, Bool.not_false, Bool.true_or, if_pos rfl]
    · have hdu : zdu c s j k = false := by
        unfold zdu
        rw [decide_eq_false q1, Bool.false_and]
      rw [if_neg q1, hdu, Bool.false_and, Bool.or_false, hff]
      by_cases q3 : ztm c k = 0
      · rw [if_pos q3, decide_eq_true q3, if_neg (by decide)]
      · rw [if_neg q3, decide_eq_false q3, if_pos (by rfl)]
/-- both ask for the same -/
theorem q_ballotS {c m : ZS} (hR : zR c m) (h : zTy c m) {s j : Int} : zrkC c s j = (decide (0 < c r_x_typedCount 0 0 0) && !zany (zrkM c s j) (c r_x_filmCount 0 0 0).toNat 0) := by
  obtain ⟨⟨a1, a2, a3⟩, -⟩ := id hR
  obtain ⟨-, ⟨t0, t1, t2⟩, ty⟩ := id h
  have hsum : zsum (ztm c) (c r_x_filmCount 0 0 0).toNat 0 = c r_x_typedCount 0 0 0 := by
    have := zsum_tm (t := fun k => c r_x_typed 0 0 k) a1 (c r_x_typedCount 0 0 0).toNat (fun k a b => (ty k a (by omega)).2)
    have e : ((c r_x_typedCount 0 0 0).toNat : Int) = c r_x_typedCount 0 0 0 := by omega
    rw [e] at this
    exact this
  have hD := zcnt_sum (p := zdu c s j) (c r_x_filmCount 0 0 0).toNat 0
  rw [Bool.eq_iff_iff]
  unfold zrkC
  rw [Bool.and_eq_true, Bool.and_eq_true, Bool.and_eq_true, decide_eq_true_eq, decide_eq_true_eq, decide_eq_true_eq, Bool.not_eq_true', Bool.not_eq_true', ← Bool.not_eq_true, ← Bool.not_eq_true, zany_iff, zany_iff]
  constructor
  · rintro ⟨h1, h2, h3⟩
    refine ⟨by omega, ?_⟩
    have hge : ∀ i, (0 : Int) ≤ i → i < 0 + ((c r_x_filmCount 0 0 0).toNat : Int) → (if zdu c s j i = true then 1 else 0) ≤ ztm c i := fun i i0 i1 => by
      have hle := zcnt_le (fun k => decide (c r_x_typed 0 0 k = i)) (c r_x_typedCount 0 0 0).toNat 0
      by_cases q : zdu c s j i = true
      · rw [if_pos q]
        have hne : zany (fun k => decide (c r_x_typed 0 0 k = i)) (c r_x_typedCount 0 0 0).toNat 0 = true := by
          cases e : zany (fun k => decide (c r_x_typed 0 0 k = i)) (c r_x_typedCount 0 0 0).toNat 0 with
          | true => rfl
          | false => exact absurd ⟨i, i0, i1, by rw [q, e]; simp⟩ h1
        have : ztm c i ≠ 0 := fun z => by
          have := (zcnt_none _ _).mp z
          rw [hne] at this
          cases this
        unfold ztm at this ⊢
        omega
      · rw [if_neg q]
        unfold ztm
        omega
    have heq := (zsum_eq (v := fun i => if zdu c s j i = true then 1 else 0) (w := ztm c) (c r_x_filmCount 0 0 0).toNat 0 hge).2 (by rw [hsum, ← hD]; exact h3)
    rintro ⟨i, i0, i1, hi⟩
    unfold zrkM at hi
    have e1 := heq i i0 i1
    (try dsimp only at e1)
    rw [← e1, decide_eq_true rfl, Bool.not_true, Bool.false_or, Bool.and_eq_true, decide_eq_true_eq] at hi
    exact h1 ⟨i, i0, i1, by rw [hi.1, decide_eq_true hi.2]; rfl⟩
  · rintro ⟨h1, h2⟩
    have heq : ∀ i, (0 : Int) ≤ i → i < 0 + ((c r_x_filmCount 0 0 0).toNat : Int) → ztm c i = (if zdu c s j i = true then 1 else 0) ∧ (zdu c s j i = true → c r_Juror_hasSeen s j i ≠ 0) := fun i i0 i1 => by
      have hn : zrkM c s j i = false := by
        cases e : zrkM c s j i with
        | false => rfl
        | true => exact absurd ⟨i, i0, i1, e⟩ h2
      unfold zrkM at hn
      rw [Bool.or_eq_false_iff, Bool.not_eq_false', decide_eq_true_eq] at hn
      refine ⟨hn.1, fun q z => ?_⟩
      rw [q, decide_eq_true z] at hn
      cases hn.2
    have hs2 : zsum (ztm c) (c r_x_filmCount 0 0 0).toNat 0 = zsum (fun i => if zdu c s j i = true then 1 else 0) (c r_x_filmCount 0 0 0).toNat 0 := zsum_cg _ 0 (fun i i0 i1 => (heq i i0 i1).1)
    refine ⟨?_, by omega, by omega⟩
    rintro ⟨i, i0, i1, hi⟩
    rw [Bool.and_eq_true, Bool.or_eq_true, decide_eq_true_eq, Bool.not_eq_true'] at hi
    obtain ⟨e1, e2⟩ := heq i i0 i1
    rcases hi.2 with z | z
    · exact e2 hi.1 z
    · rw [if_pos hi.1] at e1
      have := (zcnt_none _ _).mpr z
      unfold ztm at e1
      omega
/-- a ballot that is typed so has no film twice -/
theorem zrkM_inj {c m : ZS} (h : zTy c m) {s j : Int} (hz : zany (zrkM c s j) (c r_x_filmCount 0 0 0).toNat 0 = false) : ∀ k l, 0 ≤ k → k < l → l < c r_x_typedCount 0 0 0 → c r_x_typed 0 0 k ≠ c r_x_typed 0 0 l := by
  obtain ⟨-, ⟨t0, t1, t2⟩, ty⟩ := id h
  intro k l k0 kl l1 e
  obtain ⟨-, f0, f1⟩ := ty k k0 (by omega)
  have hn : zrkM c s j (c r_x_typed 0 0 k) = false := by
    cases e : zrkM c s j (c r_x_typed 0 0 k) with
    | false => rfl
    | true =>
      have := (zany_iff (p := zrkM c s j) (c r_x_filmCount 0 0 0).toNat 0).mpr ⟨_, f0, by omega, e⟩
      rw [hz] at this
      cases this
  unfold zrkM at hn
  rw [Bool.or_eq_false_iff, Bool.not_eq_false', decide_eq_true_eq] at hn
  have h1 : ztm c (c r_x_typed 0 0 k) ≤ 1 := by
    rw [hn.1]
    split <;> omega
  have hp : (fun i => decide (c r_x_typed 0 0 i = c r_x_typed 0 0 k)) k = true := decide_eq_true rfl
  have h2 := zcnt_one (p := fun i => decide (c r_x_typed 0 0 i = c r_x_typed 0 0 k)) (b := k) hp (c r_x_typedCount 0 0 0).toNat 0 k0 (by omega)
  have hp2 : (fun i => (fun i => decide (c r_x_typed 0 0 i = c r_x_typed 0 0 k)) i && decide (i ≠ k)) l = true := by
    show (decide (c r_x_typed 0 0 l = c r_x_typed 0 0 k) && decide (l ≠ k)) = true
    rw [decide_eq_true e.symm, decide_eq_true (show l ≠ k by omega)]
    rfl
  have h3 := zcnt_one (p := fun i => (fun i => decide (c r_x_typed 0 0 i = c r_x_typed 0 0 k)) i && decide (i ≠ k)) (b := l) hp2 (c r_x_typedCount 0 0 0).toNat 0 (by omega) (by omega)
  have h4 := zcnt_le (fun i => (fun i => (fun i => decide (c r_x_typed 0 0 i = c r_x_typed 0 0 k)) i && decide (i ≠ k)) i && decide (i ≠ l)) (c r_x_typedCount 0 0 0).toNat 0
  unfold ztm at h1
  (try dsimp only at h1 h2 h3 h4)
  omega
