/-! The juries' relations at the start -/
def z_a0L (r : Nat) (i j : Int) : Int := match z_ad (r / 64) i j with
  | some (a + 1) => e_len c_h0 a
  | _ => 0
theorem z_alL {vs : List Value} {r : Nat} {i j : Int} (h1 : r / 64 < 111) (h2 : r % 64 = 63) (h3 : z_slot (r / 64) 63 0 = none) : z_al ((19, vs) :: c_h0) r i j 0 = z_a0L r i j := by
  unfold z_al z_a0L
  rw [if_neg (by unfold z_rA; omega)]
  split
  · rename_i a ha
    cases a with
    | zero =>
      exfalso
      obtain ⟨-, -, q⟩ := z_ad_lay ha
      rcases q with ⟨q1, q2⟩ | ⟨q1, q2, q3⟩
      · have : z_at 0 = some (111, 0, 0) := rfl
        rw [this] at q2
        have := congrArg Prod.fst (Option.some.inj q2)
        have : 111 = r / 64 := this
        omega
      · omega
    | succ a =>
      rw [ha, h2, h3]
      dsimp only
      rw [if_pos ⟨rfl, rfl, by unfold z_new; omega⟩]
      rfl
  · rename_i ha
    rw [ha]
set_option maxRecDepth 100000 in
theorem z_s8 : (decide (z_a0L r_x_typed_len 0 0 = 9) && (decide (z_a0L r_Grid_films_len 0 0 = 20) && (decide (z_a0 r_x_typedCount 0 0 0 = 0) && decide (z_a0 r_m_typedMany 0 0 0 = 0)))) = true := by decide +kernel
set_option maxRecDepth 100000 in
theorem z_s9 : ((List.range 5).all fun s => decide (z_a0 r_Section_jurorCount (s : Int) 0 0 = 0) && (decide (z_a0 r_m_jurorMany 0 0 (s : Int) = 0) && (decide (z_a0 r_Section_rule (s : Int) 0 0 = 109) && decide (z_a0 r_m_areGiven 0 0 (s : Int) = z_a0 r_Section_isAwarded (s : Int) 0 0)))) = true := by decide +kernel
set_option maxRecDepth 100000 in
theorem z_s10 : ((List.range 5).all fun s => (List.range 5).all fun j => decide (z_a0 r_Juror_lastHour (s : Int) (j : Int) 0 = -1) && (decide (z_a0 r_Juror_ballotSize (s : Int) (j : Int) 0 = 0) && decide (z_a0 r_m_ballotMany_r (s : Int) 0 (j : Int) = 0))) = true := by decide +kernel
set_option maxRecDepth 100000 in
theorem z_s11 : ((List.range 5).all fun s => (List.range 5).all fun j => (List.range 20).all fun f => decide (z_a0 r_m_haveSeen_r_r (s : Int) (j : Int) (f : Int) = z_a0 r_Juror_hasSeen (s : Int) (j : Int) (f : Int))) = true := by decide +kernel
theorem z_t0 : z_a0L r_x_typed_len 0 0 = 9 ∧ z_a0L r_Grid_films_len 0 0 = 20 ∧ z_a0 r_x_typedCount 0 0 0 = 0 ∧ z_a0 r_m_typedMany 0 0 0 = 0 := by
  have := z_s8
  simp only [Bool.and_eq_true, decide_eq_true_eq] at this
  exact this
theorem z_x0 {s : Int} (s0 : 0 ≤ s) (s1 : s < 5) : z_a0 r_Section_jurorCount s 0 0 = 0 ∧ z_a0 r_m_jurorMany 0 0 s = 0 ∧ z_a0 r_Section_rule s 0 0 = 109 ∧ z_a0 r_m_areGiven 0 0 s = z_a0 r_Section_isAwarded s 0 0 := by
  have := z_rng z_s9 s0 s1
  simp only [Bool.and_eq_true, decide_eq_true_eq, Int.toNat_of_nonneg s0] at this
  exact this
theorem z_j0 {s j : Int} (s0 : 0 ≤ s) (s1 : s < 5) (j0 : 0 ≤ j) (j1 : j < 5) : z_a0 r_Juror_lastHour s j 0 = -1 ∧ z_a0 r_Juror_ballotSize s j 0 = 0 ∧ z_a0 r_m_ballotMany_r s 0 j = 0 := by
  have := z_rng (z_rng z_s10 s0 s1) j0 j1
  simp only [Bool.and_eq_true, decide_eq_true_eq, Int.toNat_of_nonneg s0, Int.toNat_of_nonneg j0] at this
  exact this
section
variable {vs : List Value}
theorem zTy0 : zTy (z_al ((19, vs) :: c_h0)) (z_al ((19, vs) :: c_h0)) := by
  obtain ⟨h1, -, h3, h4⟩ := z_t0
  unfold zTy
  rw [z_alL (r := r_x_typed_len) (by decide) (by decide) (by decide +kernel)]
  simp (decide := true) only [z_al0]
  exact ⟨by first | trivial | exact h1, by first | trivial | exact ⟨by omega, by omega, by omega⟩, fun k k0 k1 => by omega⟩
theorem zLn0 : zLn (z_al ((19, vs) :: c_h0)) (z_al ((19, vs) :: c_h0)) := by
  unfold zLn
  rw [z_alL (r := r_Grid_films_len) (by decide) (by decide) (by decide +kernel)]
  exact z_t0.2.1
theorem zJu0 : zJu (z_al ((19, vs) :: c_h0)) (z_al ((19, vs) :: c_h0)) := by
  unfold zJu
  simp (decide := true) only [z_al0]
  intro s s0 s1
  obtain ⟨h1, h2, -⟩ := z_x0 s0 s1
  exact ⟨⟨by omega, by omega, by omega⟩, fun j j0 j1 => by omega⟩
theorem zSn0 : zSn (z_al ((19, vs) :: c_h0)) (z_al ((19, vs) :: c_h0)) := by
  unfold zSn
  simp (decide := true) only [z_al0]
  intro s j f s0 s1 j0 j1 f0 f1
  have := z_rng (z_rng (z_rng z_s11 s0 s1) j0 j1) f0 f1
  simp only [decide_eq_true_eq, Int.toNat_of_nonneg s0, Int.toNat_of_nonneg j0, Int.toNat_of_nonneg f0] at this
  exact this
theorem zSa0 : zSa (z_al ((19, vs) :: c_h0)) (z_al ((19, vs) :: c_h0)) := by
  obtain ⟨-, -, -, -, -, -, h1, -⟩ := z_n0
  unfold zSa
  simp (decide := true) only [z_al0]
  intro s j s0 s1 j0 j1
  obtain ⟨h2, -⟩ := z_j0 s0 s1 j0 j1
  obtain ⟨h3, -⟩ := z_x0 s0 s1
  exact ⟨by omega, fun _ => h2, fun q => by omega⟩
theorem zBa0 : zBa (z_al ((19, vs) :: c_h0)) (z_al ((19, vs) :: c_h0)) := by
  unfold zBa
  simp (decide := true) only [z_al0]
  intro s j s0 s1 j0 j1
  obtain ⟨-, h2, h3⟩ := z_j0 s0 s1 j0 j1
  exact ⟨⟨by omega, by omega, by omega⟩, fun k k0 k1 => by omega, fun k l k0 kl l1 => by omega⟩
theorem zRu0 : zRu (z_al ((19, vs) :: c_h0)) (z_al ((19, vs) :: c_h0)) := by
  obtain ⟨h1, h2, -⟩ := z_n0
  unfold zRu
  simp (decide := true) only [z_al0]
  refine ⟨by first | trivial | exact ⟨by omega, by omega, by omega⟩, fun s s0 s1 => ?_⟩
  obtain ⟨-, -, h3, -⟩ := z_x0 s0 s1
  exact ⟨Or.inl h3, fun q => by omega, fun _ => h3⟩
theorem zAw0 : zAw (z_al ((19, vs) :: c_h0)) (z_al ((19, vs) :: c_h0)) := by
  unfold zAw
  simp (decide := true) only [z_al0]
  exact fun s s0 s1 => (z_x0 s0 s1).2.2.2
end
