/-! needs: n23. A film that nobody told of -/
theorem n_fit84 {x y z : Int} (h : 0 ≤ x ∧ x ≤ 65535) (h2 : n_r y) (h3 : n_r z) : n_fit c_r84.2.2.1.2.1 [x, y, z] := ⟨⟨rfl, h.1, h.2, ⟨by omega, by omega⟩⟩, ⟨rfl, h2.1, h2.2, h2⟩, ⟨rfl, h3.1, h3.2, h3⟩, trivial⟩
theorem n_fit86 {x y : Int} (h : n_r x) (h2 : n_r y) : n_fit c_r86.2.2.1.2.1 [x, y] := ⟨⟨rfl, h.1, h.2, h⟩, ⟨rfl, h2.1, h2.2, h2⟩, trivial⟩
theorem n_fit89 {x : Int} (h : n_r x) : n_fit c_r89.2.2.1.2.1 [x] := ⟨⟨rfl, h.1, h.2, h⟩, trivial⟩
theorem n_fit61 {x : Int} (h : n_r x) : n_fit c_r61.2.2.1.2.1 [x] := ⟨⟨rfl, h.1, h.2, h⟩, trivial⟩
theorem n_zcnt0 {p : Int → Bool} : ∀ (j : Nat) (k : Int), (∀ i, k ≤ i → i < k + j → p i = false) → zcnt p j k = 0
  | 0, _, _ => rfl
  | j + 1, k, h => by
    rw [zcnt, h k (Int.le_refl _) (by omega), if_neg (by decide), n_zcnt0 j (k + 1) (fun i a b => h i (by omega) (by omega))]
    rfl
theorem k_told {G : Nat → Int → Int} {M : Int → Int → Int} {S : ZS} {f : Int} {R : Nat} (h : n_K G M S) (f0 : 0 ≤ f) (f1 : f < 20) (hR : G 0 1 = R) (hR8 : R ≤ 8) : f_Readings_countTold [f] S = ((0, [zcnt (fun k => decide (0 ≤ M f k)) R 0]), S) := by
  obtain ⟨⟨h1, h2, h3⟩, h4, h5, -⟩ := id h
  rw [q_countTold (by omega) (by omega), h2, hR, Int.toNat_natCast]
  congr 3
  refine zcnt_cg R 0 (fun i i0 i1 => ?_)
  rw [(h5 f f0 f1).2.2.2.2 i i0 (by omega)]
theorem k_noScore {G : Nat → Int → Int} {M : Int → Int → Int} {S : ZS} {f : Int} {R : Nat} (h : n_K G M S) (f0 : 0 ≤ f) (f1 : f < G 0 0) (c20 : G 0 0 ≤ 20) (hR : G 0 1 = R) (hR8 : R ≤ 8) (hM : ∀ i : Int, 0 ≤ i → i < R → M f i < 0) : f_w_score [f] S = ((0, [-900002]), S) := by
  obtain ⟨⟨h1, h2, h3⟩, -⟩ := id h
  unfold f_w_score f_x_score
  dsimp only
  rw [q_film (by omega) (by omega), if_pos ⟨f0, by omega⟩, e_bnd0, k_told h f0 (by omega) hR hR8, n_zcnt0 R 0 (fun i i0 i1 => by
    have := hM i i0 (by omega)
    simp
    omega), e_bnd]
  rfl
theorem k_noSpread {G : Nat → Int → Int} {M : Int → Int → Int} {S : ZS} {f : Int} {R : Nat} (h : n_K G M S) (f0 : 0 ≤ f) (f1 : f < 20) (hR : G 0 1 = R) (hR8 : R ≤ 8) (hM : ∀ i : Int, 0 ≤ i → i < R → M f i < 0) : ∀ (j : Nat) (k : Int), 0 ≤ k → k + j = R → g_Readings_spread ((1010, [f, 0, 0, 0, k]), S) = ((0, [0]), S)
  | 0, k, k0, kj => by
    obtain ⟨⟨h1, h2, h3⟩, -⟩ := id h
    rw [g_Readings_spread_10, zb_d, if_pos (by omega)]
    rfl
  | j + 1, k, k0, kj => by
    obtain ⟨⟨h1, h2, h3⟩, h4, h5, -⟩ := id h
    have hm := hM k k0 (by omega)
    rw [g_Readings_spread_10, zb_d, if_neg (by omega), zb_d, if_pos (by rw [(h5 f f0 f1).2.2.2.2 k k0 (by omega)]; exact hm), e_wr_id (by omega) (by omega)]
    exact k_noSpread h f0 f1 hR hR8 hM j (k + 1) (by omega) (by omega)
theorem k_noQuarrel {G : Nat → Int → Int} {M : Int → Int → Int} {S : ZS} {f : Int} {R : Nat} (h : n_K G M S) (f0 : 0 ≤ f) (f1 : f < G 0 0) (c20 : G 0 0 ≤ 20) (hR : G 0 1 = R) (hR8 : R ≤ 8) (hM : ∀ i : Int, 0 ≤ i → i < R → M f i < 0) : f_x_isInQuarrel [f] S = ((0, [0]), S) := by
  obtain ⟨⟨h1, h2, h3⟩, -⟩ := id h
  unfold f_x_isInQuarrel
  dsimp only
  rw [q_film (by omega) (by omega), if_pos ⟨f0, by omega⟩, e_bnd0]
  unfold f_Readings_spread
  rw [g_Readings_spread_0, k_noSpread h f0 (by omega) hR hR8 hM R 0 (by omega) (by omega)]
  rfl
theorem n_dlt_r {ld : Int → Int} {R : Nat} {l : Int} : ∀ (t : Nat) (s : (Int → Int) × (Int → Int)), (t : Int) ≤ zcnt (n_fr ld s.2 l) R 0 → ∀ i, (n_dlt ld R l t s).2 i = s.2 i ∨ ((n_dlt ld R l t s).2 i = -1 ∧ 0 ≤ i ∧ i < R)
  | 0, s, _, i => Or.inl rfl
  | t + 1, s, h, i => by
    obtain ⟨⟨b0, b1⟩, -, hc⟩ := n_dl1_ct (ld := ld) (R := R) (l := l) (s := s) (by omega)
    have e : (n_dl1 ld R l s).2 i = if i = n_bst ld R l s then -1 else s.2 i := rfl
    rcases n_dlt_r (ld := ld) (R := R) (l := l) t (n_dl1 ld R l s) (by omega) i with q | q
    · rw [e] at q
      split at q
      · rename_i e2
        exact Or.inr ⟨q, by omega, by omega⟩
      · exact Or.inl q
    · exact Or.inr q
/-- behind f films -/
def n_I2 (F R f : Nat) (A G : Nat → Int → Int) (M : Int → Int → Int) : Prop :=
  (G 0 0 = f ∧ G 0 1 = R ∧ G 0 2 = 0) ∧
  (∀ i : Int, 0 ≤ i → i < R → (0 ≤ A 0 i ∧ A 0 i < 3 ∧ G 1 i = A 0 i) ∧ A 1 i = G 2 i) ∧
  (∀ i : Int, 0 ≤ i → i < 8 → 0 ≤ G 2 i ∧ G 2 i ≤ 3 * f ∧ G 3 i = 0 ∧ G 4 i = 0) ∧
  (∀ j : Nat, j < F → A 5 (j : Int) = ((z_N0 + (6 + j) : Nat) : Int) ∧ A (6 + F) (j : Int) = ((z_N0 + (7 + F + j) : Nat) : Int)) ∧
  (∀ g : Nat, g < f → (1 ≤ A 2 (g : Int) ∧ A 2 (g : Int) ≤ 300 ∧ G 5 (g : Int) = A 2 (g : Int)) ∧ ((A 3 (g : Int) = 102 ∨ A 3 (g : Int) = 100) ∧ G 6 (g : Int) = A 3 (g : Int)) ∧ (0 ≤ A 4 (g : Int) ∧ A 4 (g : Int) ≤ 3 ∧ G 8 (g : Int) = A 4 (g : Int)) ∧ ∀ i : Int, 0 ≤ i → i < R → ((A (6 + g) i = 0 ∧ M g i = -2) ∨ (A (6 + g) i = 1 ∧ M g i = -1)) ∧ A (7 + F + g) i = -1) ∧
  (∀ g : Nat, f ≤ g → g < 20 → G 8 (g : Int) = 3 ∧ (∀ i : Int, 0 ≤ i → i < 8 → M g i = -2) ∧ (g < F → ∀ i : Int, 0 ≤ i → i < R → A (6 + g) i = 0)) ∧
  (∀ g : Int, G 9 g = -1) ∧ ∀ (g : Nat) (i : Int), (R : Int) ≤ i → i < 8 → M g i = -2
