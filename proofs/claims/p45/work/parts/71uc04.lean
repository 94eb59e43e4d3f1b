/-! Whether a film can be shown -/
def zky (c : ZS) (f s x k : Int) : Bool := decide (c r_Venue_keyFilms 0 0 k = f ∧ c r_Venue_keyScreens 0 0 k = s ∧ c r_Venue_keyFrom 0 0 k ≤ x ∧ x ≤ c r_Venue_keyTo 0 0 k)
theorem zif0 {p : Prop} [Decidable p] : ((if p then (1 : Int) else 0) = 0) ↔ ¬ p := by
  by_cases h : p <;> simp [h]
def zcan (c : ZS) (f s x t : Int) : Bool := decide (c r_Film_kind f 0 0 ≠ 45) && (decide (t ≤ x) && (if c r_Film_kind f 0 0 = 114 then decide (c r_Venue_hasGear 0 0 s ≠ 0) else zany (zky c f s x) (c r_Venue_keyCount 0 0 0).toNat 0))
theorem q_byKey {c m : ZS} (hv : zVe c m) {f s x : Int} : f_Venue_isOpenedByKey [f, s, x] c = ((0, [zb (zany (zky c f s x) (c r_Venue_keyCount 0 0 0).toNat 0)]), c) := by
  obtain ⟨-, -, ⟨k0, k1, -⟩, -⟩ := hv
  show g_Venue_isOpenedByKey ((1000, [f, s, x]), c) = _
  rw [g_Venue_isOpenedByKey_0]
  refine (zl_any (n := c r_Venue_keyCount 0 0 0) (p := zky c f s x) (A := ((0, [1]), c)) (B := ((0, [0]), c)) (G := fun k => g_Venue_isOpenedByKey ((1003, [f, s, x, k]), c)) (fun k hk => ?_) (fun k h0 h1 => ?_) (c r_Venue_keyCount 0 0 0).toNat 0 (Int.le_refl _) (by omega)).trans ?_
  · rw [g_Venue_isOpenedByKey_3, zb_d, if_pos (by omega)]
  · have hk : e_wr (k + 1) = k + 1 := e_wr_id (by omega) (by omega)
    rw [g_Venue_isOpenedByKey_3, zb_d, if_neg (by omega), hk]
    unfold zky
    simp only [zb_d, zb_n, decide_eq_true_eq]
    repeat' split
    all_goals first | rfl | (exfalso; omega)
  · unfold zb
    split <;> rfl
theorem q_canRun {c m : ZS} (hv : zVe c m) {f s x t : Int} (s0 : 0 ≤ s) (s1 : s < 4) : f_Grid_canRun [f, s, x, t] c = ((0, [zb (zcan c f s x t)]), c) := by
  obtain ⟨-, g, -⟩ := id hv
  obtain ⟨-, -, gb⟩ := g s s0 s1
  show (bif decide (c r_Film_kind f 0 0 = 45) then _ else (bif decide (t ≤ x) then (bif !decide (c r_Film_kind f 0 0 = 114) then e_bind (f_Venue_isOpenedByKey [f, s, x] c) (fun v1 S1 => ((0, [v1]), S1)) else ((0, [c r_Venue_hasGear 0 0 s]), c)) else _)) = _
  rw [q_byKey hv, e_bnd]
  unfold zcan
  simp only [zb_d, zb_n]
  by_cases q1 : c r_Film_kind f 0 0 = 45
  · simp [q1, zb]
  · by_cases q2 : t ≤ x
    · by_cases q3 : c r_Film_kind f 0 0 = 114
      · rw [if_neg q1, if_pos q2, if_pos q3, if_pos q3]
        rcases gb with e | e <;> simp [q1, q2, e, zb]
      · rw [if_neg q1, if_pos q2, if_neg q3, if_neg q3]
        simp [q1, q2]
    · rw [if_neg q1, if_neg q2]
      simp [q2, zb]
theorem q_canShowNow {c m : ZS} (hv : zVe c m) (hk : zPk c m) {f s x : Int} (f0 : 0 ≤ f) (f1 : f < 20) (s0 : 0 ≤ s) (s1 : s < 4) : f_m_canShowNow [f, s, x] m = ((0, [zb (zcan c f s x (m r_m_printHours 0 0 f))]), m) := by
  obtain ⟨-, g, ⟨k0, k1, k2⟩, ky⟩ := id hv
  obtain ⟨-, ge, gb⟩ := g s s0 s1
  have hkf := hk f f0 f1
  show g_m_canShowNow ((1000, [f, s, x]), m) = _
  have loop : ∀ o, zbit o → m r_m_prints 0 0 f = 100 → g_m_canShowNow ((1051, [f, s, x, o, 0]), m) = ((0, [if zany (zky c f s x) (c r_Venue_keyCount 0 0 0).toNat 0 = true then 1 else o]), m) := fun o ho hp => by
    refine zl_set (n := c r_Venue_keyCount 0 0 0) (z := 1) (p := zky c f s x) (P := zbit) zbit1 (fin := fun o => ((0, [o]), m)) (G := fun o k => g_m_canShowNow ((1051, [f, s, x, o, k]), m)) (fun o k e ho => ?_) (fun o k h0 h1 ho => ?_) (c r_Venue_keyCount 0 0 0).toNat o 0 (Int.le_refl _) (by omega) ho
    · rw [g_m_canShowNow_51, zb_d, if_pos (by omega)]
    · have hk1 : e_wr (k + 1) = k + 1 := e_wr_id (by omega) (by omega)
      obtain ⟨y1, y2, y3, y4⟩ := ky k h0 h1
      rw [g_m_canShowNow_51, zb_d, if_neg (by omega), hk1, y1, y2, y3, y4, hp, q_isIn, e_or0 ho, e_or1 ho]
      unfold zky
      simp only [zb_d, zb_n, decide_eq_true_eq, zif0, ↓reduceIte]
      repeat' split
      all_goals first | rfl | (exfalso; omega)
  rw [g_m_canShowNow_0]
  unfold zcan
  simp only [zb_d, zb_n]
  rcases hkf with ⟨q1, q2⟩ | ⟨q1, q2⟩
  · rw [if_pos q2]
    simp [q1, zb]
  · rw [if_neg (by omega)]
    by_cases q3 : m r_m_printHours 0 0 f ≤ x
    · rw [if_pos q3]
      rcases q1 with q1 | q1
      · have e51 : ∀ o, g_m_canShowNow ((1051, [f, s, x, o, 0]), m) = ((0, [o]), m) := fun o => by
          rw [g_m_canShowNow_51]
          simp only [zb_d, zb_n]
          by_cases w : m r_m_keyMany 0 0 0 ≤ 0
          · rw [if_pos w]
          · rw [if_neg w, if_neg (by omega)]
        rw [if_pos (by omega), e51, e51, ge]
        rcases gb with e | e <;> simp [q1, q3, e, zb]
      · rw [if_neg (by omega), loop 0 zbit0 (by omega)]
        simp only [q1, q3]
        unfold zb
        cases zany (zky c f s x) (c r_Venue_keyCount 0 0 0).toNat 0 <;> simp
    · rw [if_neg q3]
      simp [q3, zb]
/-- in all hours of a film's show -/
def zthr (c : ZS) (f s x t : Int) : Bool := zcan c f s x t && (decide (zln c f = 1) || zcan c f s (x + 1) t)
theorem q_canRunThrough {c m : ZS} (hv : zVe c m) {f s x t : Int} (s0 : 0 ≤ s) (s1 : s < 4) (x0 : 0 ≤ x) (x1 : x < 100) : f_Grid_canRunThrough [f, s, x, t] c = ((0, [zb (zthr c f s x t)]), c) := by
  have hr := zln_r (c := c) (f := f)
  have hx1 : e_wr (x + 1) = x + 1 := e_wr_id (by omega) (by omega)
  have hx2 : e_wr (x + 1 + 1) = x + 1 + 1 := e_wr_id (by omega) (by omega)
  show g_Grid_canRunThrough ((1000, [f, s, x, t]), c) = _
  rw [g_Grid_canRunThrough_0, q_hoursLong, e_wr_id (x := x + zln c f) (by omega) (by omega), g_Grid_canRunThrough_16, zb_d, if_neg (by omega), q_canRun hv s0 s1, e_bnd, zb_n, hx1]
  unfold zthr
  cases h1 : zcan c f s x t
  · rfl
  · rw [if_neg (by decide), g_Grid_canRunThrough_16, zb_d]
    by_cases q : zln c f = 1
    · rw [if_pos (by omega), decide_eq_true q]
      rfl
    · rw [if_neg (by omega), q_canRun hv s0 s1, e_bnd, zb_n, hx2, decide_eq_false q]
      cases h2 : zcan c f s (x + 1) t
      · rfl
      · rw [if_neg (by decide), g_Grid_canRunThrough_16, zb_d, if_pos (by omega)]
        rfl
