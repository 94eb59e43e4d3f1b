/-! needs: n30. Even scores of the class -/
def n_ev (G : Nat → Int → Int) (M : Int → Int → Int) (f k : Int) : Int := M f k - (G 4 k).tdiv (G 3 k) + 50
theorem n_tdivb {x y : Int} (h0 : 0 ≤ x) (h1 : x ≤ 100 * y) (hy : 1 ≤ y) : 0 ≤ x.tdiv y ∧ x.tdiv y ≤ 100 := by
  rw [Int.tdiv_eq_ediv_of_nonneg h0]
  refine ⟨Int.ediv_nonneg h0 (by omega), ?_⟩
  exact Int.ediv_le_of_le_mul (by omega) h1
theorem k_evenV {G : Nat → Int → Int} {M : Int → Int → Int} {S : ZS} {f k : Int} (h : n_K G M S) (f0 : 0 ≤ f) (f1 : f < 20) (k0 : 0 ≤ k) (k1 : k < 8) (m0 : 0 ≤ M f k) (m1 : M f k ≤ 100) (b3 : 1 ≤ G 3 k ∧ G 3 k ≤ 1000) (b4 : 0 ≤ G 4 k ∧ G 4 k ≤ 100 * G 3 k) : v_Readings_evenScore f k S = n_ev G M f k ∧ -50 ≤ n_ev G M f k ∧ n_ev G M f k ≤ 150 := by
  obtain ⟨-, h4, h5, -⟩ := h
  have q := h4 k k0 k1
  have hb := n_tdivb b4.1 b4.2 b3.1
  have hd : e_div (G 4 k) (G 3 k) = (G 4 k).tdiv (G 3 k) := by
    unfold e_div
    exact e_wr_id (by omega) (by omega)
  unfold v_Readings_evenScore n_ev
  rw [(h5 f f0 f1).2.2.2.2 k k0 k1, q.2.2.1, q.2.2.2, zb_n, if_neg (by omega), hd, e_wr_id (show -2147483648 ≤ M f k - (G 4 k).tdiv (G 3 k) by omega) (by omega), e_wr_id (by omega) (by omega)]
  exact ⟨rfl, by omega, by omega⟩
theorem k_even {G : Nat → Int → Int} {M : Int → Int → Int} {S : ZS} {f k : Int} (h : n_K G M S) (f0 : 0 ≤ f) (f1 : f < G 0 0) (c20 : G 0 0 ≤ 20) (k0 : 0 ≤ k) (k1 : k < G 0 1) (r8 : G 0 1 ≤ 8) (m0 : 0 ≤ M f k) (m1 : M f k ≤ 100) (b3 : 1 ≤ G 3 k ∧ G 3 k ≤ 1000) (b4 : 0 ≤ G 4 k ∧ G 4 k ≤ 100 * G 3 k) : f_w_even [f, k] S = ((0, [n_ev G M f k]), S) := by
  obtain ⟨⟨h1, h2, h3⟩, h4, h5, -⟩ := id h
  unfold f_w_even f_x_even
  dsimp only
  rw [q_film (by omega) (by omega), if_pos ⟨f0, by omega⟩, e_bnd0, q_reader (by omega) (by omega), if_pos ⟨k0, by omega⟩, e_bnd0, zb_d, (h5 f f0 (by omega)).2.2.2.2 k k0 (by omega), if_pos m0, (k_evenV h f0 (by omega) k0 (by omega) m0 m1 b3 b4).1]
  rfl
theorem k_sectionOf {G : Nat → Int → Int} {M : Int → Int → Int} {S : ZS} {f : Int} (h : n_K G M S) (f0 : 0 ≤ f) (f1 : f < G 0 0) (c20 : G 0 0 ≤ 20) : f_w_sectionOf [f] S = ((0, [if G 9 f = -1 then -900002 else G 9 f]), S) := by
  obtain ⟨⟨h1, h2, h3⟩, h4, h5, -⟩ := id h
  unfold f_w_sectionOf f_x_sectionOf
  dsimp only
  rw [q_film (by omega) (by omega), if_pos ⟨f0, by omega⟩, e_bnd0, zb_n, (h5 f f0 (by omega)).2.2.1]
  split <;> rfl
