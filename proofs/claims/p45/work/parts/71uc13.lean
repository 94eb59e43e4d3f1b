/-! storm, late, withdraw: both sides -/
theorem zst_cg {c S : ZS} (fr : ∀ r, zfdW.contains r = false → S r = c r) {k : Int} : v_Grid_stateOf k S = v_Grid_stateOf k c := by
  unfold v_Grid_stateOf
  rw [fr r_Show_cause (by decide), fr r_Show_first (by decide), fr r_Show_length (by decide), fr r_Grid_hour (by decide)]
def zgS (c : ZS) (d k : Int) : Bool := decide (v_Grid_stateOf k c = 116 ∧ e_div (c r_Show_first k 0 0) 5 = d)
theorem q_findOnDay {c m : ZS} (h : zSw c m) {d : Int} : ∃ S, f_Grid_findOnDay [d] c = ((0, [zcnt (zgS c d) (c r_Grid_showCount 0 0 0).toNat 0]), S) ∧ (∀ r, zfdW.contains r = false → S r = c r) ∧ S r_Grid_foundCount 0 0 0 = zcnt (zgS c d) (c r_Grid_showCount 0 0 0).toNat 0 ∧ zFd S (zgS c d) (c r_Grid_showCount 0 0 0) := by
  obtain ⟨n0, n1, -⟩ := id h.1
  show ∃ S, g_Grid_findOnDay ((1000, [d]), c) = _ ∧ _
  rw [g_Grid_findOnDay_0]
  refine q_find (c := c) n1 (G := fun k S => g_Grid_findOnDay ((1007, [d, k]), S)) (fun k S e fr => ?_) (fun k S k0 k1 fr => ?_) (c r_Grid_showCount 0 0 0).toNat 0 _ (Int.le_refl _) (by omega) (fun r hr => ?_) e_us (fun k k0 k1 => by omega)
  · have e1 : S r_Grid_showCount = c r_Grid_showCount := fr _ (by decide)
    rw [g_Grid_findOnDay_7, zb_d, e1, if_pos (by omega)]
  · have e1 : S r_Grid_showCount = c r_Grid_showCount := fr _ (by decide)
    have e2 : S r_Show_first = c r_Show_first := fr _ (by decide)
    have hk : e_wr (k + 1) = k + 1 := e_wr_id (by omega) (by omega)
    rw [g_Grid_findOnDay_7, zb_d, e1, if_neg (by omega), zst_cg fr, e2, hk]
    unfold zgS
    simp only [zb_n, decide_eq_true_eq]
    by_cases q1 : v_Grid_stateOf k c = 116
    · by_cases q2 : e_div (c r_Show_first k 0 0) 5 = d
      · rw [if_pos q1, if_pos q2, if_pos ⟨q1, q2⟩]
      · rw [if_pos q1, if_neg q2, if_neg (fun z => q2 z.2)]
    · rw [if_neg q1, if_neg (fun z => q1 z.1)]
  · funext a b e
    exact e_un (by
      cases z : r == r_Grid_foundCount with
      | false => rfl
      | true => rw [beq_iff_eq] at z; rw [z] at hr; exact absurd hr (by decide))
theorem q_goesS {c m : ZS} (h : zSw c m) (hf : zFs c m) (hh : zHr c m) {k d : Int} (k0 : 0 ≤ k) (k1 : k < c r_Grid_showCount 0 0 0) : f_m_goesBy [k, d, -1] m = ((0, [zb (zgS c d k)]), m) := by
  show g_m_goesBy ((1000, [k, d, -1]), m) = _
  rw [g_m_goesBy_0, (q_state h hf hh k0 k1).1, (h.row hf k0 k1).2.2.1, zb_d, zb_d, if_neg (show ¬ (0 : Int) ≤ -1 by decide), zb_n]
  unfold zgS zb
  simp only [decide_eq_true_eq]
  by_cases q1 : v_Grid_stateOf k c = 116
  · by_cases q2 : e_div (c r_Show_first k 0 0) 5 = d
    · rw [if_pos q1, if_pos q2, if_pos ⟨q1, q2⟩]
    · rw [if_pos q1, if_neg q2, if_neg (fun z => q2 z.2)]
  · rw [if_neg q1, if_neg (fun z => q1 z.1)]
def zgL (c : ZS) (f x k : Int) : Bool := decide (c r_Show_film k 0 0 = f ∧ v_Grid_stateOf k c = 116) && !zthr c f (c r_Show_screen k 0 0) (c r_Show_first k 0 0) x
theorem zthr_cg {c S : ZS} (fr : ∀ r, zfdW.contains r = false → S r = c r) {f s x t : Int} : zthr S f s x t = zthr c f s x t := by
  unfold zthr zcan zln
  have e : ∀ y, zky S f s y = zky c f s y := fun y => by
    funext k
    unfold zky
    rw [fr r_Venue_keyFilms (by decide), fr r_Venue_keyScreens (by decide), fr r_Venue_keyFrom (by decide), fr r_Venue_keyTo (by decide)]
  rw [e, e, fr r_Film_kind (by decide), fr r_Venue_hasGear (by decide), fr r_Venue_keyCount (by decide), fr r_Film_minutes (by decide)]
theorem q_findLate {c m : ZS} (h : zSw c m) (hv : zVe c m) {f x : Int} : ∃ S, f_Grid_findWithoutPrint [f, x] c = ((0, [zcnt (zgL c f x) (c r_Grid_showCount 0 0 0).toNat 0]), S) ∧ (∀ r, zfdW.contains r = false → S r = c r) ∧ S r_Grid_foundCount 0 0 0 = zcnt (zgL c f x) (c r_Grid_showCount 0 0 0).toNat 0 ∧ zFd S (zgL c f x) (c r_Grid_showCount 0 0 0) := by
  obtain ⟨n0, n1, -⟩ := id h.1
  show ∃ S, g_Grid_findWithoutPrint ((1000, [f, x]), c) = _ ∧ _
  rw [g_Grid_findWithoutPrint_0]
  refine q_find (c := c) n1 (G := fun k S => g_Grid_findWithoutPrint ((1007, [f, x, k]), S)) (fun k S e fr => ?_) (fun k S k0 k1 fr => ?_) (c r_Grid_showCount 0 0 0).toNat 0 _ (Int.le_refl _) (by omega) (fun r hr => ?_) e_us (fun k k0 k1 => by omega)
  · have e1 : S r_Grid_showCount = c r_Grid_showCount := fr _ (by decide)
    rw [g_Grid_findWithoutPrint_7, zb_d, e1, if_pos (by omega)]
  · have e1 : S r_Grid_showCount = c r_Grid_showCount := fr _ (by decide)
    have e2 : S r_Show_first = c r_Show_first := fr _ (by decide)
    have e3 : S r_Show_film = c r_Show_film := fr _ (by decide)
    have e4 : S r_Show_screen = c r_Show_screen := fr _ (by decide)
    have hk : e_wr (k + 1) = k + 1 := e_wr_id (by omega) (by omega)
    have hvS : zVe S m := zVe_rel hv (fun r hr => fr r (z_nin_ok (by decide : z_nin zVeC zfdW = true) hr)) (fun _ _ => rfl)
    obtain ⟨-, ⟨-, s0, s1⟩, ⟨-, x0, x1⟩, -⟩ := h.2.1 k k0 k1
    have ht : ∀ t, zthr S f (c r_Show_screen k 0 0) (c r_Show_first k 0 0) t = zthr c f (c r_Show_screen k 0 0) (c r_Show_first k 0 0) t := fun t => zthr_cg fr
    rw [g_Grid_findWithoutPrint_7, zb_d, e1, if_neg (by omega), zst_cg fr, e2, e3, e4, hk, q_canRunThrough hvS s0 s1 x0 (by omega), e_bnd, ht]
    unfold zgL
    simp only [zb_n, zb0]
    by_cases q1 : c r_Show_film k 0 0 = f
    · by_cases q2 : v_Grid_stateOf k c = 116
      · rw [if_pos q1, if_pos q2, decide_eq_true (And.intro q1 q2), Bool.true_and]
        cases zthr c f (c r_Show_screen k 0 0) (c r_Show_first k 0 0) x <;> rfl
      · rw [if_pos q1, if_neg q2, decide_eq_false (fun z => q2 z.2), Bool.false_and, if_neg (by decide)]
    · rw [if_neg q1, decide_eq_false (fun z => q1 z.1), Bool.false_and, if_neg (by decide)]
  · funext a b e
    exact e_un (by
      cases z : r == r_Grid_foundCount with
      | false => rfl
      | true => rw [beq_iff_eq] at z; rw [z] at hr; exact absurd hr (by decide))
theorem q_goesL {c m : ZS} (h : zSw c m) (hf : zFs c m) (hh : zHr c m) (hv : zVe c m) (hk : zPk c m) {k d f : Int} (f0 : 0 ≤ f) (f1 : f < 20) (k0 : 0 ≤ k) (k1 : k < c r_Grid_showCount 0 0 0) : f_m_goesBy [k, d, f] m = ((0, [zb (zgL c f (m r_m_printHours 0 0 f) k)]), m) := by
  obtain ⟨⟨a1, a2, a3⟩, ⟨-, s0, s1⟩, ⟨-, x0, x1⟩, -⟩ := h.2.1 k k0 k1
  obtain ⟨e1, e2, e3, -, -⟩ := h.row hf k0 k1
  have hl := q_lastOf h hf k0 k1
  have hr := zln_r (c := c) (f := c r_Show_film k 0 0)
  have hx1 : e_wr (c r_Show_first k 0 0 + 1) = c r_Show_first k 0 0 + 1 := e_wr_id (by omega) (by omega)
  have hx2 : e_wr (c r_Show_first k 0 0 + 1 + 1) = c r_Show_first k 0 0 + 1 + 1 := e_wr_id (by omega) (by omega)
  have hb : ∀ b : Bool, e_and 1 (zb b) = zb b := fun b => by cases b <;> decide +kernel
  have hb2 : ∀ a b : Bool, e_and (zb a) (zb b) = zb (a && b) := fun a b => by cases a <;> cases b <;> decide +kernel
  have fin : ∀ (b : Bool) (y : Int), v_m_lastOf k m < y → g_m_goesBy ((1045, [k, f, zb b, y]), m) = ((0, [if c r_Show_film k 0 0 = f ∧ b = false then 1 else 0]), m) := fun b y hy => by
    rw [g_m_goesBy_45, zb_d, if_pos hy, zb_n, zb_n, e1]
    cases b
    · by_cases q : c r_Show_film k 0 0 = f
      · rw [if_pos q, if_pos (by decide), if_pos ⟨q, rfl⟩]
      · rw [if_neg q, if_neg (fun z => q z.1)]
    · by_cases q : c r_Show_film k 0 0 = f
      · rw [if_pos q, if_neg (by decide), if_neg (fun z => by cases z.2)]
      · rw [if_neg q, if_neg (fun z => q z.1)]
  have two : g_m_goesBy ((1045, [k, f, 1, c r_Show_first k 0 0]), m) = ((0, [if c r_Show_film k 0 0 = f ∧ (zcan c f (c r_Show_screen k 0 0) (c r_Show_first k 0 0) (m r_m_printHours 0 0 f) && (decide (zln c (c r_Show_film k 0 0) = 1) || zcan c f (c r_Show_screen k 0 0) (c r_Show_first k 0 0 + 1) (m r_m_printHours 0 0 f))) = false then 1 else 0]), m) := by
    rw [g_m_goesBy_45, zb_d, if_neg (by omega), e2, q_canShowNow hv hk f0 f1 s0 s1, e_bnd, hb, hx1]
    by_cases q : zln c (c r_Show_film k 0 0) = 1
    · rw [fin _ _ (by omega), decide_eq_true q, Bool.true_or, Bool.and_true]
    · rw [g_m_goesBy_45, zb_d, if_neg (by omega), e2, q_canShowNow hv hk f0 f1 s0 s1, e_bnd, hb2, hx2, fin _ _ (by omega), decide_eq_false q, Bool.false_or]
  show g_m_goesBy ((1000, [k, d, f]), m) = _
  rw [g_m_goesBy_0, (q_state h hf hh k0 k1).1, e3, zb_d, zb_d, if_pos f0, two]
  unfold zgL
  by_cases q1 : v_Grid_stateOf k c = 116
  · rw [if_pos q1]
    by_cases q2 : c r_Show_film k 0 0 = f
    · rw [decide_eq_true (And.intro q2 q1), Bool.true_and]
      unfold zthr
      rw [q2]
      cases zcan c f (c r_Show_screen k 0 0) (c r_Show_first k 0 0) (m r_m_printHours 0 0 f) && (decide (zln c f = 1) || zcan c f (c r_Show_screen k 0 0) (c r_Show_first k 0 0 + 1) (m r_m_printHours 0 0 f))
      · rw [if_pos ⟨rfl, rfl⟩]
        rfl
      · rw [if_neg (fun z => by cases z.2)]
        rfl
    · rw [if_neg (fun z => q2 z.1), decide_eq_false (fun z => q2 z.1), Bool.false_and]
      rfl
  · rw [if_neg q1, decide_eq_false (fun z => q1 z.2), Bool.false_and]
    rfl
/-- scratch of the class's search -/
theorem zGr.fd {c m S : ZS} (h : zGr c m) (fr : ∀ r, zfdW.contains r = false → S r = c r) : zGr S m := h.fr (fun r hr => fr r (by
  cases e : zfdW.contains r with
  | false => rfl
  | true =>
    rw [List.contains_iff_mem] at e
    have := List.contains_iff_mem.mpr (show r ∈ zscC by
      unfold zfdW at e
      simp only [List.mem_cons, List.not_mem_nil, or_false] at e
      rcases e with rfl | rfl <;> decide)
    rw [hr] at this
    cases this)) (fun _ _ => rfl)
theorem zgM_fr {m M : ZS} (fm : ∀ r, zgoM.contains r = false → M r = m r) {r : Nat} (hr : zscM.contains r = false) : M r = m r := fm r (by
  cases e : zgoM.contains r with
  | false => rfl
  | true =>
    rw [List.contains_iff_mem] at e
    have := List.contains_iff_mem.mpr (show r ∈ zscM by
      unfold zgoM at e
      simp only [List.mem_cons, List.not_mem_nil, or_false] at e
      rcases e with rfl | rfl <;> decide)
    rw [hr] at this
    cases this)
theorem o_storm {d : Int} {c m : ZS} (hR : zR c m) (h : zGr c m) : zBo zGr (f_w_storm [d] c) (f_m_storm [d] m) := by
  obtain ⟨⟨a1, a2, a3⟩, -⟩ := id hR
  obtain ⟨g1, g2, g3, g4, g5, g6, g7, g8, g9, g10⟩ := id h
  obtain ⟨⟨n0, n1, n2⟩, -⟩ := id g7
  show zBo zGr (e_try (f_x_storm [d] c) (fun v1 S1 => ((0, [0]), e_upd S1 r_out 0 0 0 v1)) [(1, 1), (3, 2), (2, 3)]) (f_m_storm [d] m)
  unfold f_x_storm f_m_storm
  dsimp only
  simp only [zb_n, zb_d, q_within, q_isIn]
  by_cases hd : 0 ≤ d ∧ d ≤ 9
  · have hs := g6 d hd.1 (by omega)
    simp (decide := true) only [if_pos hd, hs, ↓reduceIte, Int.reduceEq]
    by_cases q : c r_Grid_isStormy 0 0 d = 0
    · simp (decide := true) only [q, ↓reduceIte]
      obtain ⟨S, f1, f2, f3, f4⟩ := q_findOnDay g7 (d := d)
      have hm2 : zGr c (e_upd (e_upd m r_m_thrown 0 0 0 0) r_m_thrown 0 0 0 0) := h.thr.thr
      have hgo2 : ∀ k M, 0 ≤ k → k < c r_Grid_showCount 0 0 0 → (∀ r, zscM.contains r = false → (r == r_m_storms) = false → M r = (e_upd (e_upd m r_m_thrown 0 0 0 0) r_m_thrown 0 0 0 0) r) → f_m_goesBy [k, d, -1] M = ((0, [zb (zgS c d k)]), M) := fun k M k0 k1 fm => by
        have kk : ∀ {R : ZS → ZS → Prop} {KC KM : List Nat}, zRel R KC KM → z_nin KM (zscM ++ [r_m_storms]) = true → R c (e_upd (e_upd m r_m_thrown 0 0 0 0) r_m_thrown 0 0 0 0) → R c M := fun hr hq h => hr h (fun _ _ => rfl) (fun r hr' => by
          have hz := z_nin_ok hq hr'
          refine fm r ?_ ?_
          · cases e : zscM.contains r with
            | false => rfl
            | true =>
              rw [List.contains_iff_mem] at e
              have := List.contains_iff_mem.mpr (List.mem_append_left [r_m_storms] e)
              rw [hz] at this
              cases this
          · cases e : r == r_m_storms with
            | false => rfl
            | true => rw [beq_iff_eq] at e; rw [e] at hz; exact absurd hz (by decide))
        exact q_goesS (kk zSw_rel (by decide) hm2.2.2.2.2.2.2.1) (kk zFs_rel (by decide) hm2.1) (kk zHr_rel (by decide) hm2.2.2.2.2.1) k0 k1
      rw [f1, e_bnd, q_going (g := zgS c d) (N := c r_Grid_showCount 0 0 0) n0 n1 (by rw [e_un (by decide), e_un (by decide)]; exact n2) (fun k M k0 k1 fm => hgo2 k M k0 k1 (fun r hr _ => zgM_fr fm hr)), e_bnd, f2 r_Grid_showCount (by decide), n2]
      have hle := zcnt_le (zgS c d) (c r_Grid_showCount 0 0 0).toNat 0
      have hw : e_wr (c r_Grid_showCount 0 0 0 + zcnt (zgS c d) (c r_Grid_showCount 0 0 0).toNat 0) = c r_Grid_showCount 0 0 0 + zcnt (zgS c d) (c r_Grid_showCount 0 0 0).toNat 0 := e_wr_id (by omega) (by omega)
      rw [hw]
      by_cases q2 : c r_Grid_showCount 0 0 0 + zcnt (zgS c d) (c r_Grid_showCount 0 0 0).toNat 0 ≤ 60
      · simp only [if_pos q2]
        rw [e_nb1]
        have hgS : zGr (e_upd S r_Grid_isStormy 0 0 d 1) (e_upd (e_upd (e_upd (e_upd m r_m_thrown 0 0 0 0) r_m_thrown 0 0 0 0) r_m_thrown 0 0 0 0) r_m_storms 0 0 d 1) := by
          obtain ⟨k1, k2, k3, k4, k5, k6, k7, k8, k9, k10⟩ := (h.fd f2).thr.thr.thr (z := 0)
          refine ⟨zFs_rel.uc (zFs_rel.um k1 (by decide)) (by decide), zVe_rel.uc (zVe_rel.um k2 (by decide)) (by decide), zPk_rel.uc (zPk_rel.um k3 (by decide)) (by decide), zPh_rel.uc (zPh_rel.um k4 (by decide)) (by decide), zHr_rel.uc (zHr_rel.um k5 (by decide)) (by decide), fun e e0 e1 => ?_, zSw_rel.uc (zSw_rel.um k7 (by decide)) (by decide), zTo_rel.uc (zTo_rel.um k8 (by decide)) (by decide), zQu_rel.uc (zQu_rel.um k9 (by decide)) (by decide), zAr_rel.uc (zAr_rel.um k10 (by decide)) (by decide)⟩
          rw [e_ur, e_ur]
          by_cases z : e = d
          · rw [if_pos ⟨rfl, rfl, z⟩, if_pos ⟨rfl, rfl, z⟩]
          · rw [if_neg (fun y => z y.2.2), if_neg (fun y => z y.2.2)]
            exact k6 e e0 e1
        have eN : (e_upd S r_Grid_isStormy 0 0 d 1) r_Grid_showCount 0 0 0 = c r_Grid_showCount 0 0 0 := by rw [e_un (by decide), f2 _ (by decide)]
        obtain ⟨C', M', x1, x2, x3, x4⟩ := q_gone (c := e_upd S r_Grid_isStormy 0 0 d 1) (m := e_upd (e_upd (e_upd (e_upd m r_m_thrown 0 0 0 0) r_m_thrown 0 0 0 0) r_m_thrown 0 0 0 0) r_m_storms 0 0 d 1) (g := zgS c d) (cz := 115) (d := d) (f := -1) (Or.inl rfl) (by rw [e_un (by decide), f2 r_x_filmCount (by decide)]; exact a2) hgS (by
          rw [eN]
          intro k k0 k1 hk
          rw [e_un (by decide)]
          exact f4 k k0 k1 hk) (by rw [eN, e_un (by decide)]; exact f3) (by rw [eN]; exact q2) (fun k k0 k1 hk => by
          rw [eN] at k1
          rw [e_un (by decide), e_un (by decide), f2 r_Film_section (by decide), f2 r_Show_film (by decide)]
          unfold zgS at hk
          rw [decide_eq_true_eq, (q_state g7 g1 g5 k0 k1).2] at hk
          have hcs := (g7.2.2 k k0 (by omega)).1
          refine g8.1 k k0 k1 ?_ ?_
          · by_cases w : c r_Show_cause k 0 0 = 45
            · exact w
            · rw [if_neg w] at hk
              omega
          · by_cases w : c r_Show_cause k 0 0 = 45
            · rw [if_pos w] at hk
              by_cases w2 : c r_Grid_hour 0 0 0 < c r_Show_first k 0 0
              · exact w2
              · rw [if_neg w2] at hk
                exfalso
                by_cases w3 : c r_Grid_hour 0 0 0 < c r_Show_first k 0 0 + zln c (c r_Show_film k 0 0)
                · rw [if_pos w3] at hk
                  omega
                · rw [if_neg w3] at hk
                  omega
            · rw [if_neg w] at hk
              omega) (fun k M k0 k1 fm => hgo2 k M k0 (by rw [eN] at k1; exact k1) (fun r hr hs => by
          rw [zgM_fr fm hr]
          funext a b e
          rw [e_un hs]
          by_cases w : r = r_m_thrown
          · subst w
            rw [e_ur, e_ur]
            split
            · rfl
            · rfl
          · exact e_un (by simpa using w)))
        rw [x1, x2, e_bnd, eN]
        refine ⟨0, _, _, _, rfl, rfl, x3.out, ?_, fun _ => e_us⟩
        rw [x4, e_un (by decide), e_us]
      · simp only [if_neg q2]
        exact ⟨3, 0, _, _, rfl, rfl, (h.fd f2).thr.thr.thr, e_us, fun q => absurd q (by decide)⟩
    · simp (decide := true) only [q, ↓reduceIte]
      exact ⟨2, 0, _, _, rfl, rfl, h.thr.thr, e_us, fun q => absurd q (by decide)⟩
  · simp (decide := true) only [if_neg hd, ↓reduceIte]
    exact ⟨1, 0, _, _, rfl, rfl, h.thr, e_us, fun q => absurd q (by decide)⟩
