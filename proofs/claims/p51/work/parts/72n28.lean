/-! needs: n27. Telling scores -/
theorem n_fit87 {x y z : Int} (h : n_r x) (h2 : n_r y) (h3 : n_r z) : n_fit c_r87.2.2.1.2.1 [x, y, z] := ⟨⟨rfl, h.1, h.2, h⟩, ⟨rfl, h2.1, h2.2, h2⟩, ⟨rfl, h3.1, h3.2, h3⟩, trivial⟩
theorem n_fit88 {x y : Int} (h : n_r x) (h2 : n_r y) : n_fit c_r88.2.2.1.2.1 [x, y] := ⟨⟨rfl, h.1, h.2, h⟩, ⟨rfl, h2.1, h2.2, h2⟩, trivial⟩
def n_tG (G : Nat → Int → Int) (k its : Int) : Nat → Int → Int := n_up (n_up G 3 k (G 3 k + 1)) 4 k (G 4 k + its)
def n_tM (M : Int → Int → Int) (f k its : Int) : Int → Int → Int := n_sM M f (fun i => if i = k then its else M f i)
theorem n_tM_at {M : Int → Int → Int} {f k its g i : Int} : n_tM M f k its g i = if g = f ∧ i = k then its else M g i := by
  unfold n_tM n_sM
  by_cases e : g = f
  · rw [if_pos e]
    dsimp only
    by_cases e2 : i = k
    · rw [if_pos e2, if_pos ⟨e, e2⟩]
    · rw [if_neg e2, if_neg (fun q => e2 q.2), e]
  · rw [if_neg e, if_neg (fun q => e q.1)]
theorem n_K.tell {G : Nat → Int → Int} {M : Int → Int → Int} {S : ZS} {f k its : Int} (h : n_K G M S) : n_K (n_tG G k its) (n_tM M f k its) (e_upd (e_upd (e_upd S r_Readings_marks_r f 0 k its) r_Readings_toldScores 0 0 k (G 3 k + 1)) r_Readings_sums 0 0 k (G 4 k + its)) := by
  obtain ⟨⟨h1, h2, h3⟩, h4, h5, h6, h7, h8, h9⟩ := h
  refine ⟨⟨?_, ?_, ?_⟩, fun i i0 i1 => ?_, fun g g0 g1 => ?_, fun s s0 s1 => ?_, ?_, ?_, ?_⟩
  · simp (decide := true) only [e_un, n_tG, n_up_na]
    exact h1
  · simp (decide := true) only [e_un, n_tG, n_up_na]
    exact h2
  · simp (decide := true) only [e_un, n_tG, n_up_na]
    exact h3
  · simp (decide := true) only [e_un, e_ur, n_tG, n_up_na, n_up_a, true_and]
    obtain ⟨q1, q2, q3, q4⟩ := h4 i i0 i1
    refine ⟨q1, q2, ?_, ?_⟩
    · by_cases e : i = k
      · simp only [if_pos e]
      · simp only [if_neg e]
        exact q3
    · by_cases e : i = k
      · simp only [if_pos e]
      · simp only [if_neg e]
        exact q4
  · simp (decide := true) only [e_un, e_ur, n_tG, n_up_na, true_and]
    obtain ⟨q1, q2, q3, q4, q5⟩ := h5 g g0 g1
    refine ⟨q1, q2, q3, q4, fun i i0 i1 => ?_⟩
    rw [n_tM_at]
    by_cases e : g = f ∧ i = k
    · rw [if_pos e, if_pos e]
    · rw [if_neg e, if_neg e]
      exact q5 i i0 i1
  · simp (decide := true) only [e_un, n_tG, n_up_na]
    exact h6 s s0 s1
  · simp (decide := true) only [e_un]
    exact h7
  · simp (decide := true) only [e_un]
    exact h8
  · simp (decide := true) only [e_un]
    exact h9
theorem k_read {G : Nat → Int → Int} {M : Int → Int → Int} {S : ZS} {f k its : Int} {R : Nat} (h : n_K G M S) (f0 : 0 ≤ f) (f1 : f < G 0 0) (c20 : G 0 0 ≤ 20) (k0 : 0 ≤ k) (k1 : k < R) (hR : G 0 1 = R) (hR8 : R ≤ 8) (i0 : 0 ≤ its) (i1 : its ≤ 100) (b3 : 0 ≤ G 3 k ∧ G 3 k ≤ 1000) (b4 : 0 ≤ G 4 k ∧ G 4 k ≤ 100000) : (M f k ≠ -1 → f_w_read [f, k, its] S = ((0, [-900003]), S)) ∧ (M f k = -1 → ∃ S', f_w_read [f, k, its] S = ((0, [zcnt (fun i => decide (0 ≤ M f i)) R 0 + 1]), S') ∧ n_K (n_tG G k its) (n_tM M f k its) S') := by
  obtain ⟨⟨h1, h2, h3⟩, h4, h5, -⟩ := id h
  have hm := (h5 f f0 (by omega)).2.2.2.2 k k0 (by omega)
  have hx : f_x_read [f, k, its] S = if M f k = -1 then e_bind (f_Readings_tell [f, k, its] S) (fun _ S3 => e_bind (f_Readings_countTold [f] S3) (fun v4 S4 => ((0, [v4]), S4))) else ((4, []), S) := by
    unfold f_x_read
    dsimp only
    rw [q_film (by omega) (by omega), if_pos ⟨f0, by omega⟩, e_bnd0, q_reader (by omega) (by omega), if_pos ⟨k0, by omega⟩, e_bnd0, zb_n, q_within, if_neg (by rw [if_pos ⟨i0, i1⟩]; decide), zb_d, hm]
  refine ⟨fun hn => ?_, fun hn => ?_⟩
  · unfold f_w_read
    dsimp only
    rw [hx, if_neg hn]
    rfl
  · have hK := h.tell (f := f) (k := k) (its := its)
    have ht := k_told (R := R) hK f0 (by omega) (by show n_tG G k its 0 1 = R; unfold n_tG; rw [n_up_na rfl, n_up_na rfl]; exact hR) hR8
    have hc : zcnt (fun i => decide (0 ≤ n_tM M f k its f i)) R 0 = zcnt (fun i => decide (0 ≤ M f i)) R 0 + 1 := by
      rw [zcnt_one (p := fun i => decide (0 ≤ n_tM M f k its f i)) (b := k) (by rw [n_tM_at, if_pos ⟨rfl, rfl⟩]; simpa using i0) R 0 k0 (by omega)]
      congr 1
      refine zcnt_cg R 0 (fun i _ _ => ?_)
      rw [n_tM_at]
      by_cases e : i = k
      · rw [e, hn]
        simp
      · simp [e]
    refine ⟨_, ?_, hK⟩
    have q := h4 k k0 (by omega)
    unfold f_w_read
    dsimp only
    rw [hx, if_pos hn]
    unfold f_Readings_tell
    dsimp only
    rw [q.2.2.1, q.2.2.2, e_wr_id (show -2147483648 ≤ G 3 k + 1 by omega) (by omega), e_wr_id (show -2147483648 ≤ G 4 k + its by omega) (by omega), e_bnd0, ht, e_bnd, hc]
    rfl
theorem k_evenNone {G : Nat → Int → Int} {M : Int → Int → Int} {S : ZS} {f k : Int} (h : n_K G M S) (f0 : 0 ≤ f) (f1 : f < G 0 0) (c20 : G 0 0 ≤ 20) (k0 : 0 ≤ k) (k1 : k < G 0 1) (r8 : G 0 1 ≤ 8) (hM : M f k < 0) : f_w_even [f, k] S = ((0, [-900002]), S) := by
  obtain ⟨⟨h1, h2, h3⟩, h4, h5, -⟩ := id h
  unfold f_w_even f_x_even
  dsimp only
  rw [q_film (by omega) (by omega), if_pos ⟨f0, by omega⟩, e_bnd0, q_reader (by omega) (by omega), if_pos ⟨k0, by omega⟩, e_bnd0, zb_d, (h5 f f0 (by omega)).2.2.2.2 k k0 (by omega), if_neg (by omega)]
  rfl
