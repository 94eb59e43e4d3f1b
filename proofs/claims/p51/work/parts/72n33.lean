/-! needs: n32. A film's score of the class -/
theorem k_mean {G : Nat → Int → Int} {M : Int → Int → Int} {S : ZS} {f : Int} {R : Nat} (h : n_K G M S) (f0 : 0 ≤ f) (f1 : f < 20) (hR : G 0 1 = R) (hR8 : R ≤ 8) (hE : ∀ i : Int, 0 ≤ i → i < R → 0 ≤ M f i → M f i ≤ 100 ∧ (1 ≤ G 3 i ∧ G 3 i ≤ 1000) ∧ 0 ≤ G 4 i ∧ G 4 i ≤ 100 * G 3 i) : ∀ (j k : Nat), k + j = R → g_Readings_meanOfEven ((1007, [f, zsum (n_tw G M f) k 0, zcnt (n_tp M f) k 0, k]), S) = ((0, [if zcnt (n_tp M f) R 0 = 0 then 0 else (zsum (n_tw G M f) R 0).tdiv (zcnt (n_tp M f) R 0)]), S)
  | 0, k, kj => by
    obtain rfl : k = R := by omega
    obtain ⟨⟨h1, h2, h3⟩, -⟩ := id h
    have hz : -50 * (k : Int) ≤ zsum (n_tw G M f) k 0 ∧ zsum (n_tw G M f) k 0 ≤ 150 * k := zsum_le k 0 (fun i i0 i1 => by
      unfold n_tw
      split
      · rename_i hm
        have q := hE i i0 (by omega) hm
        exact (k_evenV h f0 f1 i0 (by omega) hm q.1 q.2.1 q.2.2).2
      · omega)
    have hc := zcnt_le (n_tp M f) k 0
    rw [g_Readings_meanOfEven_7, zb_d, if_pos (by omega), zb_n]
    split
    · rfl
    · rename_i hn
      have ht : -1300 ≤ (zsum (n_tw G M f) k 0).tdiv (zcnt (n_tp M f) k 0) ∧ (zsum (n_tw G M f) k 0).tdiv (zcnt (n_tp M f) k 0) ≤ 1300 := by
        have a := Int.natAbs_tdiv_le_natAbs (zsum (n_tw G M f) k 0) (zcnt (n_tp M f) k 0)
        have a1 := Int.natAbs_eq (zsum (n_tw G M f) k 0)
        have a2 := Int.natAbs_eq ((zsum (n_tw G M f) k 0).tdiv (zcnt (n_tp M f) k 0))
        generalize (zsum (n_tw G M f) k 0).tdiv (zcnt (n_tp M f) k 0) = t at a a2 ⊢
        generalize t.natAbs = u at a a2
        generalize (zsum (n_tw G M f) k 0).natAbs = v at a a1
        omega
      unfold e_div
      rw [e_wr_id (by omega) (by omega)]
  | j + 1, k, kj => by
    obtain ⟨⟨h1, h2, h3⟩, h4, h5, -⟩ := id h
    have hz : -50 * (k : Int) ≤ zsum (n_tw G M f) k 0 ∧ zsum (n_tw G M f) k 0 ≤ 150 * k := zsum_le k 0 (fun i i0 i1 => by
      unfold n_tw
      split
      · rename_i hm
        have q := hE i i0 (by omega) hm
        exact (k_evenV h f0 f1 i0 (by omega) hm q.1 q.2.1 q.2.2).2
      · omega)
    have hc := zcnt_le (n_tp M f) k 0
    have ih := k_mean h f0 f1 hR hR8 hE j (k + 1) (by omega)
    rw [zsum_app, zcnt_app, Int.zero_add] at ih
    have hm := (h5 f f0 f1).2.2.2.2 k (by omega) (by omega)
    rw [g_Readings_meanOfEven_7, zb_d, if_neg (by omega), zb_d, hm]
    by_cases e : M f k < 0
    · have w1 : n_tw G M f k = 0 := if_neg (by omega)
      have w2 : ¬ n_tp M f k = true := fun w => absurd (of_decide_eq_true w) (by omega)
      rw [w1, if_neg w2, Int.add_zero, Int.add_zero] at ih
      rw [if_pos e, e_wr_id (by omega) (by omega)]
      exact ih
    · have q := hE k (by omega) (by omega) (by omega)
      have ev := k_evenV h f0 f1 (k := (k : Int)) (by omega) (by omega) (by omega) q.1 q.2.1 q.2.2
      have w1 : n_tw G M f k = n_ev G M f k := if_pos (by omega)
      have w2 : n_tp M f k = true := decide_eq_true (by omega)
      rw [w1, if_pos w2] at ih
      rw [if_neg e, ev.1, e_wr_id (show -2147483648 ≤ zsum (n_tw G M f) k 0 + n_ev G M f k by omega) (by omega), e_wr_id (show -2147483648 ≤ zcnt (n_tp M f) k 0 + 1 by omega) (by omega), e_wr_id (show -2147483648 ≤ (k : Int) + 1 by omega) (by omega)]
      exact ih
