/-! The films' own columns: what film does, as states -/
theorem q_wfilm {x y z : Int} {c : ZS} (a1 : 0 ≤ c r_x_filmCount 0 0 0) (a2 : c r_x_filmCount 0 0 0 ≤ 20) : f_w_film [x, y, z] c = if (x = 102 ∨ x = 115 ∨ x = 100) ∧ (1 ≤ y ∧ y ≤ 300) ∧ 0 ≤ z ∧ z ≤ 9 then (if c r_x_filmCount 0 0 0 = 20 then ((0, [2]), c) else ((0, [0]), e_upd (e_upd (e_upd (e_upd (e_upd c r_Film_form (c r_x_filmCount 0 0 0) 0 0 x) r_Film_minutes (c r_x_filmCount 0 0 0) 0 0 y) r_Film_land (c r_x_filmCount 0 0 0) 0 0 z) r_x_filmCount 0 0 0 (c r_x_filmCount 0 0 0 + 1)) r_out 0 0 0 (c r_x_filmCount 0 0 0))) else ((0, [1]), c) := by
  show e_try (f_x_film [x, y, z] c) (fun v1 S1 => ((0, [0]), e_upd S1 r_out 0 0 0 v1)) [(1, 1), (2, 2)] = _
  unfold f_x_film f_Film_begin
  simp only [zb_n, zb_d, q_within, q_isForm, e_bnd0]
  by_cases hx : x = 102 ∨ x = 115 ∨ x = 100
  · by_cases hy : 1 ≤ y ∧ y ≤ 300
    · by_cases hz : 0 ≤ z ∧ z ≤ 9
      · by_cases hn : c r_x_filmCount 0 0 0 = 20
        · simp only [if_pos hx, if_pos hy, if_pos hz, if_pos hn, if_pos (And.intro hx (And.intro hy hz)), if_neg (show ¬ c r_x_filmCount 0 0 0 < 20 by omega), Int.reduceEq, ↓reduceIte]
          rfl
        · simp only [if_pos hx, if_pos hy, if_pos hz, if_neg hn, if_pos (And.intro hx (And.intro hy hz)), if_pos (show c r_x_filmCount 0 0 0 < 20 by omega), Int.reduceEq, ↓reduceIte]
          have hw : e_wr (c r_x_filmCount 0 0 0 + 1) = c r_x_filmCount 0 0 0 + 1 := e_wr_id (by omega) (by omega)
          have hw2 : e_wr (c r_x_filmCount 0 0 0 + 1 - 1) = c r_x_filmCount 0 0 0 := by rw [e_wr_id (by omega) (by omega), Int.add_sub_cancel]
          simp (decide := true) only [e_un, e_us, hw, hw2]
          rfl
      · simp only [if_pos hx, if_pos hy, if_neg hz, if_neg (fun q : (x = 102 ∨ x = 115 ∨ x = 100) ∧ (1 ≤ y ∧ y ≤ 300) ∧ 0 ≤ z ∧ z ≤ 9 => hz q.2.2), Int.reduceEq, ↓reduceIte]
        rfl
    · simp only [if_pos hx, if_neg hy, if_neg (fun q : (x = 102 ∨ x = 115 ∨ x = 100) ∧ (1 ≤ y ∧ y ≤ 300) ∧ 0 ≤ z ∧ z ≤ 9 => hy q.2.1), Int.reduceEq, ↓reduceIte]
      rfl
  · simp only [if_neg hx, if_neg (fun q : (x = 102 ∨ x = 115 ∨ x = 100) ∧ (1 ≤ y ∧ y ≤ 300) ∧ 0 ≤ z ∧ z ≤ 9 => hx q.1), Int.reduceEq, ↓reduceIte]
    rfl
theorem q_mfilm {x y z : Int} {m : ZS} (a1 : 0 ≤ m r_m_films 0 0 0) (a2 : m r_m_films 0 0 0 ≤ 20) : f_m_film [x, y, z] m = if (x = 102 ∨ x = 115 ∨ x = 100) ∧ (1 ≤ y ∧ y ≤ 300) ∧ 0 ≤ z ∧ z ≤ 9 then (if m r_m_films 0 0 0 = 20 then ((0, [0]), e_upd (e_upd m r_m_thrown 0 0 0 0) r_m_thrown 0 0 0 2) else ((0, [m r_m_films 0 0 0]), e_upd (zfl (m r_m_films 0 0 0) 8 0 (e_upd (e_upd (e_upd (e_upd (e_upd (e_upd (e_upd m r_m_thrown 0 0 0 0) r_m_thrown 0 0 0 0) r_m_forms 0 0 (m r_m_films 0 0 0) x) r_m_minutes 0 0 (m r_m_films 0 0 0) y) r_m_lands 0 0 (m r_m_films 0 0 0) z) r_m_still 0 0 (m r_m_films 0 0 0) 3) r_m_sections 0 0 (m r_m_films 0 0 0) (-1))) r_m_films 0 0 0 (m r_m_films 0 0 0 + 1))) else ((0, [0]), e_upd m r_m_thrown 0 0 0 1) := by
  show g_m_film ((1000, [x, y, z]), m) = _
  rw [g_m_film_0]
  simp only [zb_n, zb_d, q_isIn, q_misForm]
  by_cases hx : x = 102 ∨ x = 115 ∨ x = 100
  · by_cases hy : 1 ≤ y ∧ y ≤ 300
    · by_cases hz : 0 ≤ z ∧ z ≤ 9
      · by_cases hn : m r_m_films 0 0 0 = 20
        · simp only [if_pos hx, if_pos hy, if_pos hz, if_pos hn, if_pos (And.intro hx (And.intro hy hz)), Int.reduceEq, ↓reduceIte]
        · simp only [if_pos hx, if_pos hy, if_pos hz, if_neg hn, if_pos (And.intro hx (And.intro hy hz)), Int.reduceEq, ↓reduceIte]
          rw [q_mfilmLoop 8 0 _ (by omega) (by omega) (by simp (decide := true) only [e_un]; omega) (by simp (decide := true) only [e_un]; omega), e_nc (by omega) (by omega)]
          simp (decide := true) only [e_un]
      · simp only [if_pos hx, if_pos hy, if_neg hz, if_neg (fun q : (x = 102 ∨ x = 115 ∨ x = 100) ∧ (1 ≤ y ∧ y ≤ 300) ∧ 0 ≤ z ∧ z ≤ 9 => hz q.2.2), Int.reduceEq, ↓reduceIte]
    · simp only [if_pos hx, if_neg hy, if_neg (fun q : (x = 102 ∨ x = 115 ∨ x = 100) ∧ (1 ≤ y ∧ y ≤ 300) ∧ 0 ≤ z ∧ z ≤ 9 => hy q.2.1), Int.reduceEq, ↓reduceIte]
  · simp only [if_neg hx, if_neg (fun q : (x = 102 ∨ x = 115 ∨ x = 100) ∧ (1 ≤ y ∧ y ≤ 300) ∧ 0 ≤ z ∧ z ≤ 9 => hx q.1), Int.reduceEq, ↓reduceIte]
