/-! Shows: state, hours -/
def zln (c : ZS) (f : Int) : Int := if 150 < c r_Film_minutes f 0 0 then 2 else 1
theorem zln_r {c : ZS} {f : Int} : 1 ≤ zln c f ∧ zln c f ≤ 2 := by
  unfold zln
  split <;> omega
theorem q_hoursLong {f : Int} {c : ZS} : v_Film_hoursLong f c = zln c f := by
  unfold v_Film_hoursLong zln
  rw [zb_d]
theorem q_lengthOf {f : Int} {c m : ZS} (h : m r_m_minutes 0 0 f = c r_Film_minutes f 0 0) : v_m_lengthOf f m = zln c f := by
  unfold v_m_lengthOf zln
  rw [zb_d, h]
/-- what stands of a show on both sides -/
theorem zSw.row {c m : ZS} (h : zSw c m) (hf : zFs c m) {i : Int} (i0 : 0 ≤ i) (i1 : i < c r_Grid_showCount 0 0 0) : m r_m_showFilms 0 0 i = c r_Show_film i 0 0 ∧ m r_m_showScreens 0 0 i = c r_Show_screen i 0 0 ∧ m r_m_showHours 0 0 i = c r_Show_first i 0 0 ∧ c r_Show_length i 0 0 = zln c (c r_Show_film i 0 0) ∧ v_m_lengthOf (m r_m_showFilms 0 0 i) m = zln c (c r_Show_film i 0 0) := by
  obtain ⟨-, h2, -⟩ := h
  obtain ⟨⟨a1, a2, a3⟩, ⟨b1, b2, b3⟩, ⟨d1, d2, d3⟩, e⟩ := h2 i i0 i1
  refine ⟨a1, b1, d1, e, ?_⟩
  rw [a1]
  exact q_lengthOf ((hf.1 _ a2 a3).2.1)
theorem q_lastOf {c m : ZS} (h : zSw c m) (hf : zFs c m) {i : Int} (i0 : 0 ≤ i) (i1 : i < c r_Grid_showCount 0 0 0) : v_m_lastOf i m = c r_Show_first i 0 0 + zln c (c r_Show_film i 0 0) - 1 := by
  obtain ⟨a, b, d, e, g⟩ := h.row hf i0 i1
  have hr := zln_r (c := c) (f := c r_Show_film i 0 0)
  obtain ⟨-, -, ⟨-, d2, d3⟩, -⟩ := h.2.1 i i0 i1
  unfold v_m_lastOf
  rw [g, d, e_wr_id (x := c r_Show_first i 0 0 + zln c (c r_Show_film i 0 0)) (by omega) (by omega), e_wr_id (by omega) (by omega)]
theorem q_state {c m : ZS} (h : zSw c m) (hf : zFs c m) (hh : zHr c m) {i : Int} (i0 : 0 ≤ i) (i1 : i < c r_Grid_showCount 0 0 0) : v_m_stateOf i m = v_Grid_stateOf i c ∧ v_Grid_stateOf i c = if c r_Show_cause i 0 0 = 45 then (if c r_Grid_hour 0 0 0 < c r_Show_first i 0 0 then 116 else if c r_Grid_hour 0 0 0 < c r_Show_first i 0 0 + zln c (c r_Show_film i 0 0) then 110 else 111) else c r_Show_cause i 0 0 := by
  obtain ⟨a, b, d, e, g⟩ := h.row hf i0 i1
  have hr := zln_r (c := c) (f := c r_Show_film i 0 0)
  obtain ⟨-, -, ⟨-, d2, d3⟩, -⟩ := h.2.1 i i0 i1
  obtain ⟨x1, x2, x3⟩ := hh
  have hn : c r_Grid_showCount 0 0 0 ≤ 60 := h.1.2.1
  have hc := (h.2.2 i i0 (by omega)).1
  have e2 : v_Grid_stateOf i c = if c r_Show_cause i 0 0 = 45 then (if c r_Grid_hour 0 0 0 < c r_Show_first i 0 0 then 116 else if c r_Grid_hour 0 0 0 < c r_Show_first i 0 0 + zln c (c r_Show_film i 0 0) then 110 else 111) else c r_Show_cause i 0 0 := by
    unfold v_Grid_stateOf
    rw [e, e_wr_id (x := c r_Show_first i 0 0 + zln c (c r_Show_film i 0 0)) (by omega) (by omega)]
    simp only [zb_d]
    repeat' split
    all_goals first | rfl | omega
  refine ⟨?_, e2⟩
  rw [e2]
  unfold v_m_stateOf
  rw [q_lastOf h hf i0 i1, d, x3]
  simp only [zb_d]
  rcases hc with ⟨h1, h2⟩ | ⟨h1, h2⟩
  · rw [h1, h2]
    repeat' split
    all_goals first | rfl | omega
  · rw [if_neg (by omega), if_neg (by omega), h2]
/-- whether a show is one of a time from x on, so long -/
def zin (c : ZS) (i x n : Int) : Bool := decide (c r_Show_cause i 0 0 = 45 ∧ c r_Show_first i 0 0 < x + n ∧ x < c r_Show_first i 0 0 + zln c (c r_Show_film i 0 0))
theorem q_standsIn {c m : ZS} (h : zSw c m) {i x n : Int} (i0 : 0 ≤ i) (i1 : i < c r_Grid_showCount 0 0 0) (x0 : 0 ≤ x) (x1 : x < 100) (n0 : 0 ≤ n) (n1 : n < 100) : v_Show_standsIn i x n c = zb (zin c i x n) := by
  have hr := zln_r (c := c) (f := c r_Show_film i 0 0)
  obtain ⟨-, -, ⟨-, d2, d3⟩, e⟩ := h.2.1 i i0 i1
  have e : c r_Show_length i 0 0 = zln c (c r_Show_film i 0 0) := e
  unfold v_Show_standsIn zb zin
  rw [e, e_wr_id (x := x + n) (by omega) (by omega), e_wr_id (x := c r_Show_first i 0 0 + zln c (c r_Show_film i 0 0)) (by omega) (by omega)]
  simp only [zb_d, zb_n, decide_eq_true_eq]
  repeat' split
  all_goals first | rfl | omega
theorem q_hasHour {c m : ZS} (h : zSw c m) (hf : zFs c m) {i x : Int} (i0 : 0 ≤ i) (i1 : i < c r_Grid_showCount 0 0 0) : v_m_hasHour i x m = zb (zin c i x 1) := by
  obtain ⟨a, b, d, e, g⟩ := h.row hf i0 i1
  have hn : c r_Grid_showCount 0 0 0 ≤ 60 := h.1.2.1
  have hc := (h.2.2 i i0 (by omega)).1
  unfold v_m_hasHour zb zin
  rw [q_lastOf h hf i0 i1, d, q_isIn]
  simp only [zb_d, zb_n, decide_eq_true_eq]
  rcases hc with ⟨h1, h2⟩ | ⟨h1, h2⟩
  · rw [h1, h2]
    repeat' split
    all_goals first | rfl | omega
  · rw [if_neg (by omega), if_neg (by omega)]
theorem q_screen {s : Int} {S : ZS} (h0 : 0 ≤ S r_Venue_screenCount 0 0 0) (h1 : S r_Venue_screenCount 0 0 0 ≤ 1000) : f_x_checkScreen [s] S = if 0 ≤ s ∧ s < S r_Venue_screenCount 0 0 0 then ((0, []), S) else ((1, []), S) := by
  show e_bind (f_x_checkNumber [s, S r_Venue_screenCount 0 0 0] S) (fun _ S1 => ((0, []), S1)) = _
  rw [q_num h0 h1, e_b_if]
  rfl
theorem q_show {s : Int} {S : ZS} (h0 : 0 ≤ S r_Grid_showCount 0 0 0) (h1 : S r_Grid_showCount 0 0 0 ≤ 1000) : f_x_checkShow [s] S = if 0 ≤ s ∧ s < S r_Grid_showCount 0 0 0 then ((0, []), S) else ((1, []), S) := by
  show e_bind (f_x_checkNumber [s, S r_Grid_showCount 0 0 0] S) (fun _ S1 => ((0, []), S1)) = _
  rw [q_num h0 h1, e_b_if]
  rfl
theorem q_pass {s : Int} {S : ZS} (h0 : 0 ≤ S r_Passes_passCount 0 0 0) (h1 : S r_Passes_passCount 0 0 0 ≤ 1000) : f_x_checkPass [s] S = if 0 ≤ s ∧ s < S r_Passes_passCount 0 0 0 then ((0, []), S) else ((1, []), S) := by
  show e_bind (f_x_checkNumber [s, S r_Passes_passCount 0 0 0] S) (fun _ S1 => ((0, []), S1)) = _
  rw [q_num h0 h1, e_b_if]
  rfl
theorem q_section {s : Int} {S : ZS} (h0 : 0 ≤ S r_x_sectionCount 0 0 0) (h1 : S r_x_sectionCount 0 0 0 ≤ 1000) : f_x_checkSection [s] S = if 0 ≤ s ∧ s < S r_x_sectionCount 0 0 0 then ((0, []), S) else ((1, []), S) := by
  show e_bind (f_x_checkNumber [s, S r_x_sectionCount 0 0 0] S) (fun _ S1 => ((0, []), S1)) = _
  rw [q_num h0 h1, e_b_if]
  rfl
theorem q_hour {x : Int} {S : ZS} : f_x_checkHour [x] S = if 0 ≤ x ∧ x ≤ 49 then ((0, []), S) else ((2, []), S) := by
  show (bif !decide (v_x_isWithin x 0 49 S = 0) then _ else _) = _
  rw [zb_n, q_within]
  repeat' split
  all_goals first | rfl | omega
theorem q_noScreen {f : Int} {S : ZS} (h0 : 0 ≤ S r_m_screens 0 0 0) (h1 : S r_m_screens 0 0 0 ≤ 1000) : v_m_isNoScreen f S = if 0 ≤ f ∧ f < S r_m_screens 0 0 0 then 0 else 1 := by
  unfold v_m_isNoScreen
  rw [zb_n, q_isIn, e_wr_id (by omega) (by omega)]
  repeat' split
  all_goals first | rfl | omega
theorem q_noShow {f : Int} {S : ZS} (h0 : 0 ≤ S r_m_shows 0 0 0) (h1 : S r_m_shows 0 0 0 ≤ 1000) : v_m_isNoShow f S = if 0 ≤ f ∧ f < S r_m_shows 0 0 0 then 0 else 1 := by
  unfold v_m_isNoShow
  rw [zb_n, q_isIn, e_wr_id (by omega) (by omega)]
  repeat' split
  all_goals first | rfl | omega
theorem q_noSection {f : Int} {S : ZS} (h0 : 0 ≤ S r_m_sectionMany 0 0 0) (h1 : S r_m_sectionMany 0 0 0 ≤ 1000) : v_m_isNoSection f S = if 0 ≤ f ∧ f < S r_m_sectionMany 0 0 0 then 0 else 1 := by
  unfold v_m_isNoSection
  rw [zb_n, q_isIn, e_wr_id (by omega) (by omega)]
  repeat' split
  all_goals first | rfl | omega
theorem q_isHour {x : Int} {S : ZS} : v_m_isHour x S = if 0 ≤ x ∧ x ≤ 49 then 1 else 0 := by
  unfold v_m_isHour
  exact q_isIn
