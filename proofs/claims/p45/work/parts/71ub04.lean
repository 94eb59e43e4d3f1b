/-! The sections' columns: section -/
def zpl (x : Int) : Int := if x = 119 then 3 else if x = 108 then 2 else if x = 116 then 1 else if x = 45 then 0 else -1
theorem q_level {x : Int} {S : ZS} : v_x_levelOf x S = zpl x := by
  unfold v_x_levelOf zpl
  simp only [zb_n]
theorem q_mlevel {x : Int} {S : ZS} : v_m_premiereOf x S = zpl x := by
  unfold v_m_premiereOf zpl
  simp only [zb_n]
theorem zpl_r {x : Int} : zpl x = -1 ∨ 0 ≤ zpl x := by
  unfold zpl
  repeat' split
  all_goals omega
abbrev zSec (x1 x2 x3 x4 x5 : Int) : Prop := (1 ≤ x1 ∧ x1 ≤ 9) ∧ (1 ≤ x2 ∧ x2 ≤ 2000) ∧ (0 ≤ x3 ∧ x3 ≤ 100) ∧ (x4 = 45 ∨ x4 = 102 ∨ x4 = 115 ∨ x4 = 100) ∧ zpl x5 ≠ -1
theorem q_wsection {x1 x2 x3 x4 x5 : Int} {c : ZS} (a1 : 0 ≤ c r_x_sectionCount 0 0 0) (a2 : c r_x_sectionCount 0 0 0 ≤ 5) : f_w_section [x1, x2, x3, x4, x5] c = if zSec x1 x2 x3 x4 x5 then (if c r_x_sectionCount 0 0 0 = 5 then ((0, [2]), c) else ((0, [0]), e_upd (e_upd (e_upd (e_upd (e_upd (e_upd (e_upd c r_Section_quota (c r_x_sectionCount 0 0 0) 0 0 x1) r_Section_budget (c r_x_sectionCount 0 0 0) 0 0 x2) r_Section_least (c r_x_sectionCount 0 0 0) 0 0 x3) r_Section_form (c r_x_sectionCount 0 0 0) 0 0 x4) r_Section_premiere (c r_x_sectionCount 0 0 0) 0 0 (zpl x5)) r_x_sectionCount 0 0 0 (c r_x_sectionCount 0 0 0 + 1)) r_out 0 0 0 (c r_x_sectionCount 0 0 0))) else ((0, [1]), c) := by
  show e_try (f_x_section [x1, x2, x3, x4, x5] c) (fun v1 S1 => ((0, [0]), e_upd S1 r_out 0 0 0 v1)) [(1, 1), (2, 2)] = _
  unfold f_x_section f_Section_begin
  simp only [zb_n, zb_d, q_within, q_isForm, q_level, e_bnd0]
  have hw : e_wr (c r_x_sectionCount 0 0 0 + 1) = c r_x_sectionCount 0 0 0 + 1 := e_wr_id (by omega) (by omega)
  have hw2 : e_wr (c r_x_sectionCount 0 0 0 + 1 - 1) = c r_x_sectionCount 0 0 0 := by rw [e_wr_id (by omega) (by omega), Int.add_sub_cancel]
  by_cases h1 : 1 ≤ x1 ∧ x1 ≤ 9
  · by_cases h2 : 1 ≤ x2 ∧ x2 ≤ 2000
    · by_cases h3 : 0 ≤ x3 ∧ x3 ≤ 100
      · by_cases h5 : zpl x5 = -1
        · rw [if_neg (fun q : zSec x1 x2 x3 x4 x5 => q.2.2.2.2 h5)]
          simp (decide := true) only [if_pos h1, if_pos h2, if_pos h3, h5, ↓reduceIte, ite_self, Int.reduceEq]
          repeat' split
          all_goals rfl
        · by_cases h4 : x4 = 45 ∨ x4 = 102 ∨ x4 = 115 ∨ x4 = 100
          · rw [if_pos (show zSec x1 x2 x3 x4 x5 from ⟨h1, h2, h3, h4, h5⟩)]
            by_cases hn : c r_x_sectionCount 0 0 0 = 5
            · rw [if_pos hn]
              rcases h4 with h4 | h4
              · simp (decide := true) only [if_pos h1, if_pos h2, if_pos h3, h4, h5, hn, ↓reduceIte, Int.reduceEq]
                rfl
              · simp (decide := true) only [if_pos h1, if_pos h2, if_pos h3, if_pos h4, if_neg (show ¬ x4 = 45 by omega), h5, hn, ↓reduceIte, Int.reduceEq]
                rfl
            · rw [if_neg hn]
              rcases h4 with h4 | h4
              · simp (decide := true) only [if_pos h1, if_pos h2, if_pos h3, h4, h5, if_pos (show c r_x_sectionCount 0 0 0 < 5 by omega), ↓reduceIte, Int.reduceEq, e_un, e_us, hw, hw2]
                rfl
              · simp (decide := true) only [if_pos h1, if_pos h2, if_pos h3, if_pos h4, if_neg (show ¬ x4 = 45 by omega), h5, if_pos (show c r_x_sectionCount 0 0 0 < 5 by omega), ↓reduceIte, Int.reduceEq, e_un, e_us, hw, hw2]
                rfl
          · rw [if_neg (fun q : zSec x1 x2 x3 x4 x5 => h4 q.2.2.2.1)]
            simp (decide := true) only [if_pos h1, if_pos h2, if_pos h3, if_neg (show ¬ (x4 = 102 ∨ x4 = 115 ∨ x4 = 100) by omega), if_neg (show ¬ x4 = 45 by omega), ↓reduceIte, Int.reduceEq]
            rfl
      · rw [if_neg (fun q : zSec x1 x2 x3 x4 x5 => h3 q.2.2.1)]
        simp (decide := true) only [if_pos h1, if_pos h2, if_neg h3, ↓reduceIte, Int.reduceEq]
        rfl
    · rw [if_neg (fun q : zSec x1 x2 x3 x4 x5 => h2 q.2.1)]
      simp (decide := true) only [if_pos h1, if_neg h2, ↓reduceIte, Int.reduceEq]
      rfl
  · rw [if_neg (fun q : zSec x1 x2 x3 x4 x5 => h1 q.1)]
    simp (decide := true) only [if_neg h1, ↓reduceIte, Int.reduceEq]
    rfl
theorem q_msection {x1 x2 x3 x4 x5 : Int} {m : ZS} (a1 : 0 ≤ m r_m_sectionMany 0 0 0) (a2 : m r_m_sectionMany 0 0 0 ≤ 5) : f_m_section [x1, x2, x3, x4, x5] m = if zSec x1 x2 x3 x4 x5 then (if m r_m_sectionMany 0 0 0 = 5 then ((0, [0]), e_upd (e_upd m r_m_thrown 0 0 0 0) r_m_thrown 0 0 0 2) else ((0, [m r_m_sectionMany 0 0 0]), e_upd (e_upd (e_upd (e_upd (e_upd (e_upd (e_upd (e_upd (e_upd m r_m_thrown 0 0 0 0) r_m_thrown 0 0 0 0) r_m_quotas 0 0 (m r_m_sectionMany 0 0 0) x1) r_m_budgets 0 0 (m r_m_sectionMany 0 0 0) x2) r_m_leasts 0 0 (m r_m_sectionMany 0 0 0) x3) r_m_sectionForms 0 0 (m r_m_sectionMany 0 0 0) x4) r_m_premieres 0 0 (m r_m_sectionMany 0 0 0) (zpl x5)) r_m_rules 0 0 (m r_m_sectionMany 0 0 0) 109) r_m_sectionMany 0 0 0 (m r_m_sectionMany 0 0 0 + 1))) else ((0, [0]), e_upd m r_m_thrown 0 0 0 1) := by
  unfold f_m_section
  simp only [zb_n, zb_d, q_isIn, q_misForm, q_mlevel]
  have hw : e_wr (m r_m_sectionMany 0 0 0 + 1) = m r_m_sectionMany 0 0 0 + 1 := e_wr_id (by omega) (by omega)
  have hw2 : e_wr (m r_m_sectionMany 0 0 0 + 1 - 1) = m r_m_sectionMany 0 0 0 := by rw [e_wr_id (by omega) (by omega), Int.add_sub_cancel]
  have hr : e_nar 2 109 = 109 := by decide
  by_cases h1 : 1 ≤ x1 ∧ x1 ≤ 9
  · by_cases h2 : 1 ≤ x2 ∧ x2 ≤ 2000
    · by_cases h3 : 0 ≤ x3 ∧ x3 ≤ 100
      · by_cases h5 : zpl x5 = -1
        · rw [if_neg (fun q : zSec x1 x2 x3 x4 x5 => q.2.2.2.2 h5)]
          simp (decide := true) only [if_pos h1, if_pos h2, if_pos h3, h5, ↓reduceIte, ite_self, Int.reduceEq]
        · have h6 : ¬ zpl x5 < 0 := by have := zpl_r (x := x5); omega
          by_cases h4 : x4 = 45 ∨ x4 = 102 ∨ x4 = 115 ∨ x4 = 100
          · have hc : e_nar 2 x4 = x4 := e_nc (by omega) (by omega)
            rw [if_pos (show zSec x1 x2 x3 x4 x5 from ⟨h1, h2, h3, h4, h5⟩)]
            by_cases hn : m r_m_sectionMany 0 0 0 = 5
            · rw [if_pos hn]
              rcases h4 with h4 | h4
              · simp (decide := true) only [if_pos h1, if_pos h2, if_pos h3, h4, h6, hn, ↓reduceIte, Int.reduceEq]
              · simp (decide := true) only [if_pos h1, if_pos h2, if_pos h3, if_pos h4, h6, hn, ↓reduceIte, Int.reduceEq]
            · rw [if_neg hn]
              by_cases h4' : x4 = 102 ∨ x4 = 115 ∨ x4 = 100
              · simp (decide := true) only [if_pos h1, if_pos h2, if_pos h3, if_pos h4', h6, hn, hc, hr, ↓reduceIte, Int.reduceEq, e_un, e_us, hw, hw2]
              · simp (decide := true) only [if_pos h1, if_pos h2, if_pos h3, if_neg h4', if_pos (show x4 = 45 by omega), h6, hn, hc, hr, ↓reduceIte, Int.reduceEq, e_un, e_us, hw, hw2]
          · rw [if_neg (fun q : zSec x1 x2 x3 x4 x5 => h4 q.2.2.2.1)]
            simp (decide := true) only [if_pos h1, if_pos h2, if_pos h3, if_neg (show ¬ (x4 = 102 ∨ x4 = 115 ∨ x4 = 100) by omega), if_neg (show ¬ x4 = 45 by omega), ↓reduceIte, Int.reduceEq]
      · rw [if_neg (fun q : zSec x1 x2 x3 x4 x5 => h3 q.2.2.1)]
        simp (decide := true) only [if_pos h1, if_pos h2, if_neg h3, ↓reduceIte, Int.reduceEq]
    · rw [if_neg (fun q : zSec x1 x2 x3 x4 x5 => h2 q.2.1)]
      simp (decide := true) only [if_pos h1, if_neg h2, ↓reduceIte, Int.reduceEq]
  · rw [if_neg (fun q : zSec x1 x2 x3 x4 x5 => h1 q.1)]
    simp (decide := true) only [if_neg h1, ↓reduceIte, Int.reduceEq]
