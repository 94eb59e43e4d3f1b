/-! needs: n34. score, isInQuarrel -/
theorem k_score {G : Nat → Int → Int} {M : Int → Int → Int} {S : ZS} {f : Int} {R : Nat} (h : n_K G M S) (f0 : 0 ≤ f) (f1 : f < G 0 0) (c20 : G 0 0 ≤ 20) (hR : G 0 1 = R) (hR8 : R ≤ 8) (hE : ∀ i : Int, 0 ≤ i → i < R → 0 ≤ M f i → M f i ≤ 100 ∧ (1 ≤ G 3 i ∧ G 3 i ≤ 1000) ∧ 0 ≤ G 4 i ∧ G 4 i ≤ 100 * G 3 i) : f_w_score [f] S = ((0, [if zcnt (n_tp M f) R 0 = 0 then -900002 else (zsum (n_tw G M f) R 0).tdiv (zcnt (n_tp M f) R 0)]), S) := by
  obtain ⟨⟨h1, h2, h3⟩, -⟩ := id h
  have ht : f_Readings_countTold [f] S = ((0, [zcnt (n_tp M f) R 0]), S) := k_told h f0 (by omega) hR hR8
  have hm := k_mean h f0 (by omega) hR hR8 hE R 0 (by omega)
  have hm2 : f_Readings_meanOfEven [f] S = ((0, [if zcnt (n_tp M f) R 0 = 0 then 0 else (zsum (n_tw G M f) R 0).tdiv (zcnt (n_tp M f) R 0)]), S) := by
    unfold f_Readings_meanOfEven
    rw [g_Readings_meanOfEven_0]
    exact hm
  unfold f_w_score f_x_score
  dsimp only
  rw [q_film (by omega) (by omega), if_pos ⟨f0, by omega⟩, e_bnd0, ht, e_bnd, zb_n, hm2, e_bnd]
  by_cases z : zcnt (n_tp M f) R 0 = 0
  · rw [if_pos z, if_pos z]
    rfl
  · rw [if_neg z, if_neg z, if_neg z]
    rfl
theorem k_quarrel {G : Nat → Int → Int} {M : Int → Int → Int} {S : ZS} {f : Int} {R : Nat} (h : n_K G M S) (f0 : 0 ≤ f) (f1 : f < G 0 0) (c20 : G 0 0 ≤ 20) (hR : G 0 1 = R) (hR8 : R ≤ 8) (hE : ∀ i : Int, 0 ≤ i → i < R → 0 ≤ M f i → M f i ≤ 100 ∧ (1 ≤ G 3 i ∧ G 3 i ≤ 1000) ∧ 0 ≤ G 4 i ∧ G 4 i ≤ 100 * G 3 i) : f_Readings_spread [f] S = ((0, [if zcnt (n_tp M f) R 0 = 0 then 0 else n_hi G M f R - n_lo G M f R]), S) ∧ f_x_isInQuarrel [f] S = ((0, [if zcnt (n_tp M f) R 0 = 0 then 0 else if n_hi G M f R - n_lo G M f R ≤ 30 then 0 else 1]), S) := by
  obtain ⟨⟨h1, h2, h3⟩, -⟩ := id h
  have hs : f_Readings_spread [f] S = ((0, [if zcnt (n_tp M f) R 0 = 0 then 0 else n_hi G M f R - n_lo G M f R]), S) := by
    unfold f_Readings_spread
    rw [g_Readings_spread_0]
    exact k_spr h f0 (by omega) hR hR8 hE R 0 (by omega)
  refine ⟨hs, ?_⟩
  unfold f_x_isInQuarrel
  dsimp only
  rw [q_film (by omega) (by omega), if_pos ⟨f0, by omega⟩, e_bnd0, hs, e_bnd, zb_d]
  by_cases z : zcnt (n_tp M f) R 0 = 0
  · rw [if_pos z, if_pos z, if_pos (by decide)]
  · rw [if_neg z, if_neg z]
    split <;> rfl
