/-! The start: the heap behind the constructors as a flat state -/
set_option maxRecDepth 100000 in
theorem z_h0len : c_h0.length = 771 := by decide +kernel
def z_pcO (g : List (Nat × Nat)) (i j : Int) : Nat → List Value → Bool
  | _, [] => true
  | s, v :: vs => (match g[s]? with
    | some (q + 1, _) => (match v with
      | .ref b => z_ad q i j == some b
      | _ => false)
    | _ => true) && z_pcO g i j (s + 1) vs
def z_pcA (q p : Nat) (i j : Int) : Nat → List Value → Bool
  | _, [] => true
  | e, v :: vs => (match v with
    | .ref b => z_ad q (if p = 1 then (e : Int) else i) (if p = 1 then j else (e : Int)) == some b
    | _ => false) && z_pcA q p i j (e + 1) vs
def z_pc1 (row : ZF) (i j : Int) (vs : List Value) : Bool := if row.2.1 = 0 then z_pcO row.2.2 i j 0 vs else (match row.2.2 with
  | [(q + 1, p)] => z_pcA q p i j 0 vs
  | _ => true)
def z_pc (h : AH) : Bool := (List.range 111).all fun f => match z_tab[f]? with
  | some row => (List.range row.1.2.1.2).all fun i => (List.range row.1.2.2.2).all fun j => decide (row.1.1 ≠ 0) && (match h[row.1.1 - 1 + row.1.2.1.1 * i + row.1.2.2.1 * j]? with
    | some c => z_pc1 row (i : Int) (j : Int) c.2
    | none => true)
  | none => true
set_option maxRecDepth 100000 in
theorem z_pc0 : z_pc c_h0 = true := by decide +kernel
theorem z_pcO_ok {g : List (Nat × Nat)} {i j : Int} : ∀ {n : Nat} {vs : List Value}, z_pcO g i j n vs = true → ∀ (s q p : Nat) (v : Value), g[n + s]? = some (q + 1, p) → vs[s]? = some v → ∃ b, v = .ref b ∧ z_ad q i j = some b
  | n, [], _, s, q, p, v, _, hv => by cases hv
  | n, w :: vs, h, s, q, p, v, hg, hv => by
    rw [z_pcO, Bool.and_eq_true] at h
    cases s with
    | zero =>
      cases hv
      have h1 := h.1
      rw [Nat.add_zero] at hg
      rw [hg] at h1
      dsimp only at h1
      cases w <;> first
        | (cases h1; done)
        | exact ⟨_, rfl, by simpa using h1⟩
    | succ s => exact z_pcO_ok h.2 s q p v (by rw [show n + 1 + s = n + (s + 1) by omega]; exact hg) hv
theorem z_pcA_ok {q p : Nat} {i j : Int} : ∀ {n : Nat} {vs : List Value}, z_pcA q p i j n vs = true → ∀ (e : Nat) (v : Value), vs[e]? = some v → ∃ b, v = .ref b ∧ z_ad q (if p = 1 then ((n + e : Nat) : Int) else i) (if p = 1 then j else ((n + e : Nat) : Int)) = some b
  | n, [], _, e, v, hv => by cases hv
  | n, w :: vs, h, e, v, hv => by
    unfold z_pcA at h
    rw [Bool.and_eq_true] at h
    cases e with
    | zero =>
      cases hv
      have h1 := h.1
      rw [Nat.add_zero]
      cases w <;> first
        | (cases h1; done)
        | exact ⟨_, rfl, by simpa using h1⟩
    | succ e =>
      have := z_pcA_ok h.2 e v hv
      rw [show n + 1 + e = n + (e + 1) by omega] at this
      exact this
theorem z_PI0 {vs : List Value} : z_PI ((19, vs) :: c_h0) := by
  refine ⟨by rw [List.length_cons, z_h0len]; exact Nat.le_refl _, fun f i j a t ws hd ha => ?_⟩
  obtain ⟨i0, j0, hl⟩ := z_ad_lay hd
  have key : f < 111 → ∃ row, z_tab[f]? = some row ∧ z_pc1 row i j ws = true := fun hf => by
    unfold z_ad at hd
    split at hd
    · rename_i row hrow
      refine ⟨row, hrow, ?_⟩
      rw [Option.ite_none_right_eq_some] at hd
      obtain ⟨⟨d1, d2, d3, d4⟩, hd⟩ := hd
      have hd := Option.some.inj hd
      have k := List.all_eq_true.mp z_pc0 f (List.mem_range.mpr hf)
      rw [hrow] at k
      dsimp only at k
      have k9 := List.all_eq_true.mp z_layOK f (List.mem_range.mpr (by omega))
      rw [hrow] at k9
      dsimp only at k9
      rw [Bool.and_eq_true] at k9
      have k0 : row.1.2.1.2 ≠ 0 := by simpa using k9.1
      have k1 := List.all_eq_true.mp k i.toNat (List.mem_range.mpr (by omega))
      have k2 := List.all_eq_true.mp k1 j.toNat (List.mem_range.mpr (by omega))
      rw [Bool.and_eq_true, decide_eq_true_eq] at k2
      obtain ⟨k3, k4⟩ := k2
      have ea : a = (row.1.1 - 1 + row.1.2.1.1 * i.toNat + row.1.2.2.1 * j.toNat) + 1 := by omega
      rw [ea, List.getElem?_cons_succ] at ha
      rw [ha] at k4
      dsimp only at k4
      rw [Int.toNat_of_nonneg i0, Int.toNat_of_nonneg j0] at k4
      exact k4
    · cases hd
  refine ⟨fun s g v hg hv => ?_, fun g p e v hg hv => ?_⟩
  · by_cases hf : f < 111
    · obtain ⟨row, hrow, hk⟩ := key hf
      unfold z_po at hg
      rw [hrow] at hg
      dsimp only at hg
      split at hg
      · rename_i e0
        unfold z_pc1 at hk
        rw [if_pos e0] at hk
        split at hg
        · rename_i q p hq
          cases hg
          exact z_pcO_ok hk s _ _ v (by rw [Nat.zero_add]; exact hq) hv
        · cases hg
      · cases hg
    · have : f = 111 ∨ f = 112 := by omega
      rcases this with rfl | rfl <;> cases hg
  · by_cases hf : f < 111
    · obtain ⟨row, hrow, hk⟩ := key hf
      unfold z_pa at hg
      rw [hrow] at hg
      dsimp only at hg
      split at hg
      · cases hg
      · rename_i e0
        unfold z_pc1 at hk
        rw [if_neg e0] at hk
        split at hg
        · rename_i q p' hq
          cases hg
          rw [hq] at hk
          have := z_pcA_ok hk e v hv
          rw [Nat.zero_add] at this
          exact this
        · cases hg
    · have : f = 111 ∨ f = 112 := by omega
      rcases this with rfl | rfl <;> cases hg
/-- the flat state of the start, as one can work it out -/
def z_a0 (r : Nat) (i j k : Int) : Int := match z_ad (r / 64) i j with
  | some (a + 1) => (match z_slot (r / 64) (r % 64) k with
    | some n => e_at c_h0 a n
    | none => 0)
  | _ => 0
theorem z_al0 {vs : List Value} {r : Nat} {i j k : Int} (h1 : r / 64 < 111) (h2 : r % 64 ≠ 63) : z_al ((19, vs) :: c_h0) r i j k = z_a0 r i j k := by
  unfold z_al z_a0
  rw [if_neg (by unfold z_rA; omega)]
  split
  · rename_i a ha
    cases a with
    | zero =>
      exfalso
      obtain ⟨-, -, q⟩ := z_ad_lay ha
      rcases q with ⟨q1, q2⟩ | ⟨q1, q2, q3⟩
      · have : z_at 0 = some (111, 0, 0) := rfl
        rw [this] at q2
        have := congrArg Prod.fst (Option.some.inj q2)
        have : 111 = r / 64 := this
        omega
      · omega
    | succ a =>
      rw [ha]
      dsimp only
      split
      · rename_i n hn
        rw [hn]
        rfl
      · rename_i hn
        rw [hn, if_neg (fun q => h2 q.1)]
  · rename_i ha
    rw [ha]
set_option maxRecDepth 100000 in
theorem z_s0 : (decide (z_a0 r_x_filmCount 0 0 0 = 0) && (decide (z_a0 r_m_films 0 0 0 = 0) && (decide (z_a0 r_Readings_readerCount 0 0 0 = 0) && (decide (z_a0 r_m_readers 0 0 0 = 0) && (((List.range 8).all fun k => decide (z_a0 r_m_readerLands 0 0 (k : Int) = z_a0 r_Readings_lands 0 0 (k : Int)) && (decide (z_a0 r_m_dealtMany 0 0 (k : Int) = z_a0 r_Readings_dealtFilms 0 0 (k : Int)) && (decide (z_a0 r_Readings_toldScores 0 0 (k : Int) = 0) && decide (z_a0 r_Readings_sums 0 0 (k : Int) = 0)))) && ((List.range 20).all fun f => (List.range 8).all fun k => decide (z_a0 r_Readings_marks_r (f : Int) 0 (k : Int) = -2) && decide (z_a0 r_m_areDealt_r (f : Int) 0 (k : Int) = 0))))))) = true := by decide +kernel
theorem zcnt_0 {p : Int → Bool} : ∀ (j : Nat) (k : Int), (∀ i, k ≤ i → i < k + j → p i = false) → zcnt p j k = 0
  | 0, _, _ => rfl
  | j + 1, k, h => by rw [zcnt, h k (Int.le_refl _) (by omega), if_neg (by decide), zcnt_0 j (k + 1) (fun i a b => h i (by omega) (by omega))]; rfl
theorem zsum_0 {w : Int → Int} : ∀ (j : Nat) (k : Int), (∀ i, k ≤ i → i < k + j → w i = 0) → zsum w j k = 0
  | 0, _, _ => rfl
  | j + 1, k, h => by rw [zsum, h k (Int.le_refl _) (by omega), zsum_0 j (k + 1) (fun i a b => h i (by omega) (by omega))]; rfl
theorem zR0 {vs : List Value} : zR (z_al ((19, vs) :: c_h0)) (z_al ((19, vs) :: c_h0)) := by
  have h := z_s0
  simp only [Bool.and_eq_true, decide_eq_true_eq] at h
  obtain ⟨s1, s2, s3, s4, s5, s6⟩ := h
  have s5 : ∀ k : Int, 0 ≤ k → k < 8 → _ := fun k k0 k1 => by
    have := List.all_eq_true.mp s5 k.toNat (List.mem_range.mpr (by omega))
    simp only [Bool.and_eq_true, decide_eq_true_eq, Int.toNat_of_nonneg k0] at this
    exact this
  have s6 : ∀ f k : Int, 0 ≤ f → f < 20 → 0 ≤ k → k < 8 → z_a0 r_Readings_marks_r f 0 k = -2 ∧ z_a0 r_m_areDealt_r f 0 k = 0 := fun f k f0 f1 k0 k1 => by
    have := List.all_eq_true.mp (List.all_eq_true.mp s6 f.toNat (List.mem_range.mpr (by omega))) k.toNat (List.mem_range.mpr (by omega))
    simp only [Bool.and_eq_true, decide_eq_true_eq, Int.toNat_of_nonneg k0, Int.toNat_of_nonneg f0] at this
    exact this
  unfold zR
  simp (decide := true) only [z_al0]
  refine ⟨?_, ?_, ?_, ?_, ?_, ?_, ?_, ?_⟩
  · first | trivial | (rw [s1, s2]; decide)
  · first | trivial | (rw [s3, s4]; decide)
  · exact fun k k0 k1 => (s5 k k0 k1).1
  · intro f f0 f1
    rw [s1] at f1
    omega
  · intro f k f0 f1 k0 k1
    rw [(s6 f k f0 f1 k0 k1).1, (s6 f k f0 f1 k0 k1).2]
    rfl
  · exact fun k k0 k1 => (s5 k k0 k1).2.1
  · intro f k f0 f1 k0 k1
    rw [(s6 f k f0 f1 k0 k1).1, s1]
    exact ⟨by decide, fun _ => rfl, fun q => absurd q (by decide), fun _ q => by omega⟩
  · intro k k0 k1
    rw [(s5 k k0 k1).2.2.1, (s5 k k0 k1).2.2.2]
    refine ⟨(zcnt_0 20 0 fun i i0 i1 => ?_).symm, (zsum_0 20 0 fun i i0 i1 => ?_).symm⟩
    · rw [(s6 i k i0 (by omega) k0 k1).1]
      rfl
    · rw [(s6 i k i0 (by omega) k0 k1).1]
      rfl
theorem z_loc0 : z_loc [0] zsg300 (c_al0 (some (.ref 1)) (some (.ref 365)) (some (.ref 770)) (some (.ref 771)) (some (.int 0))) := by
  refine ⟨rfl, fun i b hb => ?_⟩
  match i, hb with
  | 0, hb => cases hb; exact ⟨_, rfl, ⟨Nat.zero_le _, Nat.zero_le _, 0, rfl, by decide +kernel⟩, fun _ => by decide⟩
  | 1, hb => cases hb; exact ⟨_, rfl, ⟨Nat.zero_le _, Nat.zero_le _, 1, rfl, by decide +kernel⟩, fun _ => by decide⟩
  | 2, hb => cases hb; exact ⟨_, rfl, ⟨Nat.zero_le _, Nat.zero_le _, 365, rfl, by decide +kernel⟩, fun _ => by decide⟩
  | 3, hb => cases hb; exact ⟨_, rfl, ⟨Nat.zero_le _, Nat.zero_le _, 770, rfl, by decide +kernel⟩, fun _ => by decide⟩
  | 4, hb => cases hb; exact ⟨_, rfl, ⟨Nat.zero_le _, Nat.zero_le _, 771, rfl, by decide +kernel⟩, fun _ => by decide⟩
  | 5, hb => cases hb; exact ⟨_, rfl, ⟨Nat.le_refl _, Nat.zero_le _, rfl⟩, fun _ => by decide⟩
  | 6, hb => cases hb
  | 7, hb => cases hb
  | 8, hb => cases hb
  | i + 9, hb => cases hb
