/-! needs: n11. What the law knows of the class's state -/
def n_K (G : Nat → Int → Int) (M : Int → Int → Int) (S : ZS) : Prop :=
  (S r_x_filmCount 0 0 0 = G 0 0 ∧ S r_Readings_readerCount 0 0 0 = G 0 1 ∧ S r_x_sectionCount 0 0 0 = G 0 2) ∧
  (∀ k, 0 ≤ k → k < 8 → (k < G 0 1 → S r_Readings_lands 0 0 k = G 1 k) ∧ S r_Readings_dealtFilms 0 0 k = G 2 k ∧ S r_Readings_toldScores 0 0 k = G 3 k ∧ S r_Readings_sums 0 0 k = G 4 k) ∧
  (∀ f, 0 ≤ f → f < 20 → (f < G 0 0 → S r_Film_minutes f 0 0 = G 5 f ∧ S r_Film_form f 0 0 = G 6 f ∧ S r_Film_land f 0 0 = G 7 f) ∧ S r_Film_stillIs f 0 0 = G 8 f ∧ S r_Film_section f 0 0 = G 9 f ∧ S r_Film_isWithdrawn f 0 0 = 0 ∧ ∀ k, 0 ≤ k → k < 8 → S r_Readings_marks_r f 0 k = M f k) ∧
  (∀ s, 0 ≤ s → s < 5 → (s < G 0 2 → S r_Section_quota s 0 0 = G 10 s ∧ S r_Section_budget s 0 0 = G 11 s ∧ S r_Section_least s 0 0 = G 12 s ∧ S r_Section_form s 0 0 = G 13 s ∧ S r_Section_premiere s 0 0 = G 14 s) ∧ S r_Section_jurorCount s 0 0 = 0 ∧ S r_Section_rule s 0 0 = 109) ∧
  S r_Grid_showCount 0 0 0 = 0 ∧ S r_Rights_dealCount 0 0 0 = 0 ∧ S r_Grid_films_len 0 0 0 = 20
def n_KR : List Nat := [r_x_filmCount, r_Readings_readerCount, r_x_sectionCount, r_Readings_lands, r_Readings_dealtFilms, r_Readings_toldScores, r_Readings_sums, r_Film_minutes, r_Film_form, r_Film_land, r_Film_stillIs, r_Film_section, r_Film_isWithdrawn, r_Readings_marks_r, r_Section_quota, r_Section_budget, r_Section_least, r_Section_form, r_Section_premiere, r_Section_jurorCount, r_Section_rule, r_Grid_showCount, r_Rights_dealCount, r_Grid_films_len]
theorem n_K.cg {G : Nat → Int → Int} {M : Int → Int → Int} {S S' : ZS} (h : n_K G M S) (e : ∀ r ∈ n_KR, S' r = S r) : n_K G M S' := by
  unfold n_K at h ⊢
  simp only [e r_x_filmCount (by decide), e r_Readings_readerCount (by decide), e r_x_sectionCount (by decide), e r_Readings_lands (by decide), e r_Readings_dealtFilms (by decide), e r_Readings_toldScores (by decide), e r_Readings_sums (by decide), e r_Film_minutes (by decide), e r_Film_form (by decide), e r_Film_land (by decide), e r_Film_stillIs (by decide), e r_Film_section (by decide), e r_Film_isWithdrawn (by decide), e r_Readings_marks_r (by decide), e r_Section_quota (by decide), e r_Section_budget (by decide), e r_Section_least (by decide), e r_Section_form (by decide), e r_Section_premiere (by decide), e r_Section_jurorCount (by decide), e r_Section_rule (by decide), e r_Grid_showCount (by decide), e r_Rights_dealCount (by decide), e r_Grid_films_len (by decide)]
  exact h
theorem n_KRlt : ∀ r ∈ n_KR, r / 64 < z_new := by decide
theorem n_K_cl {G : Nat → Int → Int} {M : Int → Int → Int} : n_cl (n_K G M) := fun _ _ e h => h.cg (fun r hr => e r (n_KRlt r hr))
theorem n_up_eq {A : Nat → Int → Int} {a : Nat} {k z : Int} : n_up A a k z a k = z := if_pos ⟨rfl, rfl⟩
theorem n_up_ne {A : Nat → Int → Int} {a a' : Nat} {k k' z : Int} (h : a' ≠ a ∨ k' ≠ k) : n_up A a k z a' k' = A a' k' := if_neg (fun q => by
  rcases h with h | h
  · exact h q.1
  · exact h q.2)
theorem n_up_na {A : Nat → Int → Int} {a a' : Nat} {k k' z : Int} (h : (a' == a) = false) : n_up A a k z a' k' = A a' k' := if_neg (fun q => by
  rw [q.1, beq_self_eq_true] at h
  cases h)
theorem n_up_a {A : Nat → Int → Int} {a : Nat} {k k' z : Int} : n_up A a k z a k' = if k' = k then z else A a k' := by
  unfold n_up
  by_cases q : k' = k
  · rw [if_pos ⟨rfl, q⟩, if_pos q]
  · rw [if_neg (fun w => q w.2), if_neg q]
theorem k_film {G : Nat → Int → Int} {M : Int → Int → Int} {S : ZS} {fm mn ln : Int} (h : n_K G M S) (hf : fm = 102 ∨ fm = 100) (m0 : 1 ≤ mn) (m1 : mn ≤ 300) (l0 : 0 ≤ ln) (l1 : ln ≤ 9) (c0 : 0 ≤ G 0 0) (c1 : G 0 0 < 20) : ∃ S', f_w_film [fm, mn, ln] S = ((0, [G 0 0]), S') ∧ n_K (n_up (n_up (n_up (n_up G 5 (G 0 0) mn) 6 (G 0 0) fm) 7 (G 0 0) ln) 0 0 (G 0 0 + 1)) M S' := by
  obtain ⟨⟨h1, h2, h3⟩, h4, h5, h6, h7, h8, h9⟩ := h
  refine ⟨e_upd (e_upd (e_upd (e_upd S r_Film_form (G 0 0) 0 0 fm) r_Film_minutes (G 0 0) 0 0 mn) r_Film_land (G 0 0) 0 0 ln) r_x_filmCount 0 0 0 (G 0 0 + 1), ?_, ?_⟩
  · have hform : v_x_isForm fm S = 1 := by
      rcases hf with rfl | rfl <;> rfl
    unfold f_w_film f_x_film f_Film_begin
    dsimp only
    simp only [zb_d, zb_n, q_within, hform, h1]
    rw [if_neg (by decide), if_neg (by rw [if_pos ⟨m0, m1⟩]; decide), if_neg (by rw [if_pos ⟨l0, l1⟩]; decide), if_pos c1]
    simp (decide := true) only [e_bnd0, e_us, e_un, h1, e_wr_id (show -2147483648 ≤ G 0 0 + 1 by omega) (by omega)]
    rw [show G 0 0 + 1 - 1 = G 0 0 by omega, e_wr_id (by omega) (by omega)]
    rfl
  · refine ⟨⟨?_, ?_, ?_⟩, fun k k0 k1 => ?_, fun f f0 f1 => ?_, fun s s0 s1 => ?_, ?_, ?_, ?_⟩
    · simp (decide := true) only [e_us, n_up_eq]
    · simp (decide := true) only [e_un, n_up_na, n_up_a, if_false]
      exact h2
    · simp (decide := true) only [e_un, n_up_na, n_up_a, if_false]
      exact h3
    · simp (decide := true) only [e_un, n_up_na, n_up_a, if_false]
      exact h4 k k0 k1
    · simp (decide := true) only [e_un, e_ur, n_up_na, n_up_a, if_false, if_true, and_true]
      obtain ⟨q1, q2⟩ := h5 f f0 f1
      refine ⟨fun hlt => ?_, q2⟩
      by_cases e : f = G 0 0
      · simp only [if_pos e, and_self]
      · simp only [if_neg e]
        exact q1 (by omega)
    · simp (decide := true) only [e_un, n_up_na, n_up_a, if_false]
      exact h6 s s0 s1
    · simp (decide := true) only [e_un]
      exact h7
    · simp (decide := true) only [e_un]
      exact h8
    · simp (decide := true) only [e_un]
      exact h9
theorem k_reader {G : Nat → Int → Int} {M : Int → Int → Int} {S : ZS} {ln : Int} (h : n_K G M S) (l0 : 0 ≤ ln) (l1 : ln ≤ 9) (c0 : 0 ≤ G 0 1) (c1 : G 0 1 < 8) : ∃ S', f_w_reader [ln] S = ((0, [G 0 1]), S') ∧ n_K (n_up (n_up G 1 (G 0 1) ln) 0 1 (G 0 1 + 1)) M S' := by
  obtain ⟨⟨h1, h2, h3⟩, h4, h5, h6, h7, h8, h9⟩ := h
  refine ⟨e_upd (e_upd S r_Readings_lands 0 0 (G 0 1) ln) r_Readings_readerCount 0 0 0 (G 0 1 + 1), ?_, ?_⟩
  · unfold f_w_reader f_x_reader
    dsimp only
    simp only [zb_d, zb_n, q_within]
    rw [if_neg (by rw [if_pos ⟨l0, l1⟩]; decide), h2, if_pos c1, q_addReader (by omega) (by omega), h2, e_bnd]
    rfl
  · refine ⟨⟨?_, ?_, ?_⟩, fun k k0 k1 => ?_, fun f f0 f1 => ?_, fun s s0 s1 => ?_, ?_, ?_, ?_⟩
    · simp (decide := true) only [e_un, n_up_na, n_up_a, if_false]
      exact h1
    · simp (decide := true) only [e_us, n_up_eq]
    · simp (decide := true) only [e_un, n_up_na, n_up_a, if_false]
      exact h3
    · simp (decide := true) only [e_un, e_ur, n_up_na, n_up_a, if_false, if_true, true_and]
      obtain ⟨q1, q2⟩ := h4 k k0 k1
      refine ⟨fun hlt => ?_, q2⟩
      by_cases e : k = G 0 1
      · simp only [if_pos e]
      · simp only [if_neg e]
        exact q1 (by omega)
    · simp (decide := true) only [e_un, n_up_na, n_up_a, if_false]
      exact h5 f f0 f1
    · simp (decide := true) only [e_un, n_up_na, n_up_a, if_false]
      exact h6 s s0 s1
    · simp (decide := true) only [e_un]
      exact h7
    · simp (decide := true) only [e_un]
      exact h8
    · simp (decide := true) only [e_un]
      exact h9
/-! Calls that fail -/
theorem k_film_x {mn ln : Int} {S : ZS} : f_w_film [120, mn, ln] S = ((0, [-900001]), S) := rfl
theorem k_film_m {ln : Int} {S : ZS} : f_w_film [102, 301, ln] S = ((0, [-900001]), S) := rfl
theorem k_reader_x {S : ZS} : f_w_reader [10] S = ((0, [-900001]), S) := rfl
theorem k_noFilm {G : Nat → Int → Int} {M : Int → Int → Int} {S : ZS} (h : n_K G M S) (h0 : G 0 0 = 0) : f_x_checkFilm [0] S = ((1, []), S) := by
  rw [q_film (by rw [h.1.1]; omega) (by rw [h.1.1]; omega), if_neg (by rw [h.1.1]; omega)]
