/-! A show is set: both sides -/
/-- the states behind a show that is set -/
def zsC (f s x : Int) (c : ZS) : ZS := zcA 115 f (e_upd (e_upd (e_upd (e_upd (e_upd c r_Show_film (c r_Grid_showCount 0 0 0) 0 0 f) r_Show_screen (c r_Grid_showCount 0 0 0) 0 0 s) r_Show_first (c r_Grid_showCount 0 0 0) 0 0 x) r_Show_length (c r_Grid_showCount 0 0 0) 0 0 (zln c f)) r_Grid_showCount 0 0 0 (c r_Grid_showCount 0 0 0 + 1))
def zsM (f s x : Int) (m : ZS) : ZS := e_upd (zmA 115 f (e_upd (e_upd (e_upd m r_m_showFilms 0 0 (m r_m_shows 0 0 0) f) r_m_showScreens 0 0 (m r_m_shows 0 0 0) s) r_m_showHours 0 0 (m r_m_shows 0 0 0) x)) r_m_shows 0 0 0 (m r_m_shows 0 0 0 + 1)
theorem q_setShow {c : ZS} {f s x : Int} (n0 : 0 ≤ c r_Grid_showCount 0 0 0) (n1 : c r_Grid_showCount 0 0 0 < 60) : f_Grid_setShow [f, s, x] c = ((0, [c r_Grid_showCount 0 0 0]), zsC f s x c) := by
  have hw : e_wr (c r_Grid_showCount 0 0 0 + 1) = c r_Grid_showCount 0 0 0 + 1 := e_wr_id (by omega) (by omega)
  have hw2 : e_wr (c r_Grid_showCount 0 0 0 + 1 - 1) = c r_Grid_showCount 0 0 0 := by rw [e_wr_id (by omega) (by omega), Int.add_sub_cancel]
  have hz : zArC.contains r_Grid_showCount = false := by decide
  unfold f_Grid_setShow f_Show_begin
  dsimp only
  rw [zb_d, if_pos n1, e_bnd0, q_zcA, e_bnd0, q_hoursLong]
  simp (decide := true) only [e_un, hw]
  show ((0, [e_wr ((zcA 115 f _) r_Grid_showCount 0 0 0 - 1)]), _) = _
  rw [zcA_o hz, e_us, hw2]
  rfl
theorem q_mset {m : ZS} {f s x : Int} (n0 : 0 ≤ m r_m_shows 0 0 0) (n1 : m r_m_shows 0 0 0 < 60) : f_m_set [f, s, x] m = ((0, [m r_m_shows 0 0 0]), zsM f s x m) := by
  have hw : e_wr (m r_m_shows 0 0 0 + 1) = m r_m_shows 0 0 0 + 1 := e_wr_id (by omega) (by omega)
  have hw2 : e_wr (m r_m_shows 0 0 0 + 1 - 1) = m r_m_shows 0 0 0 := by rw [e_wr_id (by omega) (by omega), Int.add_sub_cancel]
  have hz : zArM.contains r_m_shows = false := by decide
  unfold f_m_set
  dsimp only
  rw [q_zmA, e_bnd0, e_us, zmA_o hz]
  simp (decide := true) only [e_un, hw, hw2]
  rfl
theorem zsC_o {f s x : Int} {c : ZS} {r : Nat} (h : ([r_Show_film, r_Show_screen, r_Show_first, r_Show_length, r_Grid_showCount] ++ zArC).contains r = false) : (zsC f s x c) r = c r := by
  have hn : ∀ q, q ∈ [r_Show_film, r_Show_screen, r_Show_first, r_Show_length, r_Grid_showCount] ++ zArC → (r == q) = false := fun q hq => by
    cases e : r == q with
    | false => rfl
    | true =>
      rw [beq_iff_eq] at e
      rw [e, ← Bool.not_eq_true] at h
      exact absurd (List.contains_iff_mem.mpr hq) h
  unfold zsC
  rw [zcA_o (by
    cases e : zArC.contains r with
    | false => rfl
    | true =>
      exfalso
      rw [List.contains_iff_mem] at e
      have := hn r (List.mem_append_right _ e)
      rw [beq_self_eq_true] at this
      cases this)]
  funext i j k
  rw [e_un (hn _ (by decide)), e_un (hn _ (by decide)), e_un (hn _ (by decide)), e_un (hn _ (by decide)), e_un (hn _ (by decide))]
theorem zsM_o {f s x : Int} {m : ZS} {r : Nat} (h : ([r_m_showFilms, r_m_showScreens, r_m_showHours, r_m_shows] ++ zArM).contains r = false) : (zsM f s x m) r = m r := by
  have hn : ∀ q, q ∈ [r_m_showFilms, r_m_showScreens, r_m_showHours, r_m_shows] ++ zArM → (r == q) = false := fun q hq => by
    cases e : r == q with
    | false => rfl
    | true =>
      rw [beq_iff_eq] at e
      rw [e, ← Bool.not_eq_true] at h
      exact absurd (List.contains_iff_mem.mpr hq) h
  have hz : zArM.contains r = false := by
    cases e : zArM.contains r with
    | false => rfl
    | true =>
      exfalso
      rw [List.contains_iff_mem] at e
      have := hn r (List.mem_append_right _ e)
      rw [beq_self_eq_true] at this
      cases this
  funext i j k
  unfold zsM
  rw [e_un (hn _ (by decide)), zmA_o hz, e_un (hn _ (by decide)), e_un (hn _ (by decide)), e_un (hn _ (by decide))]
/-- what a call that sets shows leaves as it is -/
def zsW : List Nat := [r_Show_film, r_Show_screen, r_Show_first, r_Show_length, r_Grid_showCount] ++ zArC
def zsX : List Nat := [r_m_showFilms, r_m_showScreens, r_m_showHours, r_m_shows] ++ zArM
theorem zRel.zs {R : ZS → ZS → Prop} {KC KM : List Nat} (hr : zRel R KC KM) (hC : z_nin KC zsW = true) (hM : z_nin KM zsX = true) {f s x : Int} {c m : ZS} (h : R c m) : R (zsC f s x c) (zsM f s x m) := hr h (fun r hq => zsC_o (z_nin_ok hC hq)) (fun r hq => zsM_o (z_nin_ok hM hq))
theorem zAr.add {c m : ZS} (h : zAr c m) {l f : Int} : zAr (zcA l f c) (zmA l f m) := s_add h
/-- the grid's relations together -/
def zGr (c m : ZS) : Prop := zFs c m ∧ zVe c m ∧ zPk c m ∧ zPh c m ∧ zHr c m ∧ zSt c m ∧ zSw c m ∧ zTo c m ∧ zQu c m ∧ zAr c m
theorem s_set {c m : ZS} (h : zGr c m) {f s x : Int} (n1 : c r_Grid_showCount 0 0 0 < 60) (f0 : 0 ≤ f) (f1 : f < c r_x_filmCount 0 0 0) (hs : 0 ≤ c r_Film_section f 0 0) (s0 : 0 ≤ s) (s1 : s < 4) (x0 : 0 ≤ x) (x1 : x < 50) (hz : zfre c f s x (zln c f) = true) : zGr (zsC f s x c) (zsM f s x m) := by
  obtain ⟨g1, g2, g3, g4, g5, g6, g7, g8, g9, g10⟩ := h
  obtain ⟨⟨n0, -, n2⟩, sw, sc⟩ := id g7
  have eC : (zsC f s x c) r_Grid_showCount 0 0 0 = c r_Grid_showCount 0 0 0 + 1 := by
    unfold zsC
    rw [zcA_o (by decide), e_us]
  have eM : (zsM f s x m) r_m_shows 0 0 0 = m r_m_shows 0 0 0 + 1 := by
    unfold zsM
    rw [e_us]
  have c1 : ∀ i, (zsC f s x c) r_Show_film i 0 0 = if i = c r_Grid_showCount 0 0 0 then f else c r_Show_film i 0 0 := fun i => by
    unfold zsC
    rw [zcA_o (by decide)]
    simp (decide := true) only [e_un, e_ur, and_true]
  have c2 : ∀ i, (zsC f s x c) r_Show_screen i 0 0 = if i = c r_Grid_showCount 0 0 0 then s else c r_Show_screen i 0 0 := fun i => by
    unfold zsC
    rw [zcA_o (by decide)]
    simp (decide := true) only [e_un, e_ur, and_true]
  have c3 : ∀ i, (zsC f s x c) r_Show_first i 0 0 = if i = c r_Grid_showCount 0 0 0 then x else c r_Show_first i 0 0 := fun i => by
    unfold zsC
    rw [zcA_o (by decide)]
    simp (decide := true) only [e_un, e_ur, and_true]
  have c4 : ∀ i, (zsC f s x c) r_Show_length i 0 0 = if i = c r_Grid_showCount 0 0 0 then zln c f else c r_Show_length i 0 0 := fun i => by
    unfold zsC
    rw [zcA_o (by decide)]
    simp (decide := true) only [e_un, e_ur, and_true]
  have m1 : ∀ i, (zsM f s x m) r_m_showFilms 0 0 i = if i = c r_Grid_showCount 0 0 0 then f else m r_m_showFilms 0 0 i := fun i => by
    unfold zsM
    rw [e_un (by decide), zmA_o (by decide), n2]
    simp (decide := true) only [e_un, e_ur, true_and]
  have m2 : ∀ i, (zsM f s x m) r_m_showScreens 0 0 i = if i = c r_Grid_showCount 0 0 0 then s else m r_m_showScreens 0 0 i := fun i => by
    unfold zsM
    rw [e_un (by decide), zmA_o (by decide), n2]
    simp (decide := true) only [e_un, e_ur, true_and]
  have m3 : ∀ i, (zsM f s x m) r_m_showHours 0 0 i = if i = c r_Grid_showCount 0 0 0 then x else m r_m_showHours 0 0 i := fun i => by
    unfold zsM
    rw [e_un (by decide), zmA_o (by decide), n2]
    simp (decide := true) only [e_un, e_ur, true_and]
  have k1 : (zsC f s x c) r_Show_cause = c r_Show_cause := zsC_o (by decide)
  have k2 : (zsM f s x m) r_m_gone = m r_m_gone := zsM_o (by decide)
  have k3 : (zsC f s x c) r_Film_minutes = c r_Film_minutes := zsC_o (by decide)
  have k4 : (zsC f s x c) r_x_filmCount = c r_x_filmCount := zsC_o (by decide)
  have k5 : (zsC f s x c) r_Film_section = c r_Film_section := zsC_o (by decide)
  have k6 : (zsC f s x c) r_Grid_hour = c r_Grid_hour := zsC_o (by decide)
  refine ⟨zFs_rel.zs (by decide) (by decide) g1, zVe_rel.zs (by decide) (by decide) g2, zPk_rel.zs (by decide) (by decide) g3, zPh_rel.zs (by decide) (by decide) g4, zHr_rel.zs (by decide) (by decide) g5, zSt_rel.zs (by decide) (by decide) g6, ?_, ?_, ?_, ?_⟩
  · refine ⟨?_, fun i i0 i1 => ?_, fun i i0 i1 => ?_⟩
    · rw [eC, eM, n2]
      omega
    · rw [eC] at i1
      rw [c1, c2, c3, c4, m1, m2, m3, k3, k4]
      by_cases q : i = c r_Grid_showCount 0 0 0
      · simp only [if_pos q]
        exact ⟨⟨trivial, f0, f1⟩, ⟨trivial, s0, s1⟩, ⟨trivial, x0, x1⟩, rfl⟩
      · simp only [if_neg q]
        exact sw i i0 (by omega)
    · rw [eC, k1, k2]
      obtain ⟨a, b⟩ := sc i i0 i1
      exact ⟨a, fun w => b (by omega)⟩
  · obtain ⟨tA, tB, tC⟩ := g8
    have k7 : (zsC f s x c) r_Film_isWithdrawn = c r_Film_isWithdrawn := zsC_o (by decide)
    refine ⟨fun i i0 i1 => ?_, fun i i0 i1 => ?_, fun i j i0 ij j1 => ?_⟩
    · rw [eC] at i1
      rw [c1, c3, k1, k5, k6]
      by_cases q : i = c r_Grid_showCount 0 0 0
      · simp only [if_pos q]
        exact fun _ _ => hs
      · simp only [if_neg q]
        exact tA i i0 (by omega)
    · rw [eC] at i1
      rw [c1, k5, k7]
      by_cases q : i = c r_Grid_showCount 0 0 0
      · simp only [if_pos q]
        exact Or.inl hs
      · simp only [if_neg q]
        exact tB i i0 (by omega)
    · rw [eC] at j1
      rw [c1, c1, c2, c2, c3, c3, c4, c4, k1, k5, if_neg (show ¬ i = c r_Grid_showCount 0 0 0 by omega), if_neg (show ¬ i = c r_Grid_showCount 0 0 0 by omega), if_neg (show ¬ i = c r_Grid_showCount 0 0 0 by omega), if_neg (show ¬ i = c r_Grid_showCount 0 0 0 by omega)]
      by_cases q : j = c r_Grid_showCount 0 0 0
      · simp only [if_pos q]
        intro z1 z2 z3 z4
        have hl : c r_Show_length i 0 0 = zln c (c r_Show_film i 0 0) := (sw i i0 (by omega)).2.2.2
        have hn : zhin c f s x (zln c f) i = false := by
          cases e : zhin c f s x (zln c f) i with
          | false => rfl
          | true =>
            exfalso
            have : zany (zhin c f s x (zln c f)) (c r_Grid_showCount 0 0 0).toNat 0 = true := (zany_iff _ 0).mpr ⟨i, i0, by omega, e⟩
            unfold zfre at hz
            rw [this] at hz
            cases hz
        unfold zhin zhd zin at hn
        rw [decide_eq_true (show c r_Show_cause i 0 0 = 45 ∧ c r_Show_first i 0 0 < x + zln c f ∧ x < c r_Show_first i 0 0 + zln c (c r_Show_film i 0 0) from ⟨z1, z3, by rw [← hl]; exact z4⟩), Bool.true_and, decide_eq_false_iff_not] at hn
        exact ⟨fun y => hn (Or.inl y), Or.inr (fun y => hn (Or.inr (Or.inr y)))⟩
      · simp only [if_neg q]
        exact tC i j i0 ij (by omega)
  · intro i i0 i1
    obtain ⟨a, b, d, e, w⟩ := g9 i i0 i1
    rw [eC, show (zsC f s x c) r_Show_isOpened = c r_Show_isOpened from zsC_o (by decide), show (zsC f s x c) r_Show_waiting = c r_Show_waiting from zsC_o (by decide), show (zsC f s x c) r_Show_queue = c r_Show_queue from zsC_o (by decide), show (zsM f s x m) r_m_areOpened = m r_m_areOpened from zsM_o (by decide), show (zsM f s x m) r_m_waitMany = m r_m_waitMany from zsM_o (by decide), show (zsM f s x m) r_m_waits_r = m r_m_waits_r from zsM_o (by decide)]
    exact ⟨a, b, d, e, fun z => w (by omega)⟩
  · unfold zsC zsM
    exact zAr_rel.um (zAr.add (zAr_rel.uc (zAr_rel.uc (zAr_rel.uc (zAr_rel.uc (zAr_rel.uc (zAr_rel.um (zAr_rel.um (zAr_rel.um g10 (by decide)) (by decide)) (by decide)) (by decide)) (by decide)) (by decide)) (by decide)) (by decide))) (by decide)
