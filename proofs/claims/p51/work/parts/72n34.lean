/-! needs: n33. A film's spread of the class -/
theorem n_none {G : Nat → Int → Int} {M : Int → Int → Int} {f : Int} : ∀ k : Nat, zcnt (n_tp M f) k 0 = 0 → n_lo G M f k = 9999 ∧ n_hi G M f k = -9999
  | 0, _ => ⟨rfl, rfl⟩
  | k + 1, h => by
    have hc := zcnt_le (n_tp M f) k 0
    rw [zcnt_app, Int.zero_add] at h
    have hp : ¬ n_tp M f k = true := fun q => by
      rw [if_pos q] at h
      omega
    rw [if_neg hp] at h
    have ih := n_none (G := G) (M := M) (f := f) k (by omega)
    have hm : ¬ 0 ≤ M f k := fun q => hp (decide_eq_true q)
    rw [n_lo, n_hi, if_neg (fun w => hm w.1), if_neg (fun w => hm w.1)]
    exact ih
theorem k_spr {G : Nat → Int → Int} {M : Int → Int → Int} {S : ZS} {f : Int} {R : Nat} (h : n_K G M S) (f0 : 0 ≤ f) (f1 : f < 20) (hR : G 0 1 = R) (hR8 : R ≤ 8) (hE : ∀ i : Int, 0 ≤ i → i < R → 0 ≤ M f i → M f i ≤ 100 ∧ (1 ≤ G 3 i ∧ G 3 i ≤ 1000) ∧ 0 ≤ G 4 i ∧ G 4 i ≤ 100 * G 3 i) : ∀ (j k : Nat), k + j = R → g_Readings_spread ((1010, [f, if zcnt (n_tp M f) k 0 = 0 then 0 else n_lo G M f k, if zcnt (n_tp M f) k 0 = 0 then 0 else n_hi G M f k, if zcnt (n_tp M f) k 0 = 0 then 0 else 1, k]), S) = ((0, [if zcnt (n_tp M f) R 0 = 0 then 0 else n_hi G M f R - n_lo G M f R]), S)
  | 0, k, kj => by
    obtain rfl : k = R := by omega
    obtain ⟨⟨h1, h2, h3⟩, -⟩ := id h
    have hl := n_lohi (G := G) (M := M) (f := f) k (fun i i0 i1 hm => by
      have q := hE i i0 (by omega) hm
      exact (k_evenV h f0 f1 i0 (by omega) hm q.1 q.2.1 q.2.2).2)
    rw [g_Readings_spread_10, zb_d, if_pos (by omega)]
    split
    · rfl
    · rw [e_wr_id (by omega) (by omega)]
  | j + 1, k, kj => by
    obtain ⟨⟨h1, h2, h3⟩, h4, h5, -⟩ := id h
    have hc := zcnt_le (n_tp M f) k 0
    have ih := k_spr h f0 f1 hR hR8 hE j (k + 1) (by omega)
    rw [zcnt_app, n_lo, n_hi, Int.zero_add] at ih
    have hm := (h5 f f0 f1).2.2.2.2 k (by omega) (by omega)
    rw [g_Readings_spread_10, zb_d, if_neg (by omega), zb_d, hm]
    by_cases e : M f k < 0
    · have w2 : ¬ n_tp M f k = true := fun w => absurd (of_decide_eq_true w) (by omega)
      rw [if_neg w2, Int.add_zero, if_neg (show ¬ (0 ≤ M f k ∧ n_ev G M f k < n_lo G M f k) from fun w => absurd w.1 (by omega)), if_neg (show ¬ (0 ≤ M f k ∧ n_hi G M f k < n_ev G M f k) from fun w => absurd w.1 (by omega))] at ih
      rw [if_pos e, e_wr_id (show -2147483648 ≤ (k : Int) + 1 by omega) (by omega)]
      exact ih
    · have q := hE k (by omega) (by omega) (by omega)
      have ev := k_evenV h f0 f1 (k := (k : Int)) (by omega) (by omega) (by omega) q.1 q.2.1 q.2.2
      have w2 : n_tp M f k = true := decide_eq_true (by omega)
      have w3 : 0 ≤ M f k := by omega
      rw [if_pos w2, if_neg (show ¬ zcnt (n_tp M f) k 0 + 1 = 0 by omega), if_neg (show ¬ zcnt (n_tp M f) k 0 + 1 = 0 by omega), if_neg (show ¬ zcnt (n_tp M f) k 0 + 1 = 0 by omega)] at ih
      rw [if_neg e, ev.1, e_wr_id (show -2147483648 ≤ (k : Int) + 1 by omega) (by omega)]
      simp only [zb_d]
      by_cases z : zcnt (n_tp M f) k 0 = 0
      · obtain ⟨n1, n2⟩ := n_none (G := G) k z
        rw [n1, n2, if_pos ⟨w3, by omega⟩, if_pos ⟨w3, by omega⟩] at ih
        simp only [if_pos z, if_true]
        exact ih
      · simp only [if_neg z, show ¬ (1 : Int) = 0 by decide, if_false]
        have c1 : (if n_ev G M f k < n_lo G M f k then n_ev G M f k else n_lo G M f k) = if 0 ≤ M f k ∧ n_ev G M f k < n_lo G M f k then n_ev G M f k else n_lo G M f k := by
          by_cases y : n_ev G M f k < n_lo G M f k
          · rw [if_pos y, if_pos ⟨w3, y⟩]
          · rw [if_neg y, if_neg (fun w => y w.2)]
        have c2 : (if n_hi G M f k < n_ev G M f k then n_ev G M f k else n_hi G M f k) = if 0 ≤ M f k ∧ n_hi G M f k < n_ev G M f k then n_ev G M f k else n_hi G M f k := by
          by_cases y : n_hi G M f k < n_ev G M f k
          · rw [if_pos y, if_pos ⟨w3, y⟩]
          · rw [if_neg y, if_neg (fun w => y w.2)]
        rw [c1, c2]
        exact ih
