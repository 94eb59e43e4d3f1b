/-! late, withdraw: both sides -/
theorem zt_sec {c m : ZS} (g7 : zSw c m) (g1 : zFs c m) (g5 : zHr c m) (g8 : zTo c m) {k : Int} (k0 : 0 ≤ k) (k1 : k < c r_Grid_showCount 0 0 0) (hk : v_Grid_stateOf k c = 116) : c r_Show_cause k 0 0 = 45 ∧ c r_Grid_hour 0 0 0 < c r_Show_first k 0 0 ∧ 0 ≤ c r_Film_section (c r_Show_film k 0 0) 0 0 := by
  have hn : c r_Grid_showCount 0 0 0 ≤ 60 := g7.1.2.1
  rw [(q_state g7 g1 g5 k0 k1).2] at hk
  have hcs := (g7.2.2 k k0 (by omega)).1
  have w : c r_Show_cause k 0 0 = 45 := by
    by_cases w : c r_Show_cause k 0 0 = 45
    · exact w
    · rw [if_neg w] at hk
      omega
  have w2 : c r_Grid_hour 0 0 0 < c r_Show_first k 0 0 := by
    rw [if_pos w] at hk
    by_cases w2 : c r_Grid_hour 0 0 0 < c r_Show_first k 0 0
    · exact w2
    · rw [if_neg w2] at hk
      exfalso
      by_cases w3 : c r_Grid_hour 0 0 0 < c r_Show_first k 0 0 + zln c (c r_Show_film k 0 0)
      · rw [if_pos w3] at hk
        omega
      · rw [if_neg w3] at hk
        omega
  exact ⟨w, w2, g8.1 k k0 k1 w w2⟩
theorem zSw.uf {c m : ZS} (h : zSw c m) {S M : ZS} (hc : ∀ r ∈ zSwC, S r = c r) (hm : ∀ r ∈ zSwM, M r = m r) : zSw S M := zSw_rel h hc hm
theorem o_late {f x : Int} {c m : ZS} (hR : zR c m) (h : zGr c m) : zBo zGr (f_w_late [f, x] c) (f_m_late [f, x] m) := by
  obtain ⟨⟨a1, a2, a3⟩, -⟩ := id hR
  obtain ⟨g1, g2, g3, g4, g5, g6, g7, g8, g9, g10⟩ := id h
  obtain ⟨⟨n0, n1, n2⟩, -⟩ := id g7
  show zBo zGr (e_try (f_x_late [f, x] c) (fun v1 S1 => ((0, [0]), e_upd S1 r_out 0 0 0 v1)) [(0, 1), (1, 2), (3, 3), (2, 4)]) (f_m_late [f, x] m)
  unfold f_x_late f_m_late
  dsimp only
  rw [q_film a1 (by omega), q_noFilm (by omega) (by omega), a3]
  by_cases hf : 0 ≤ f ∧ f < c r_x_filmCount 0 0 0
  · rw [if_pos hf, if_pos hf, e_b_ok]
    have hk := g3 f hf.1 (by omega)
    have hp := g4 f hf.1 (by omega)
    simp (decide := true) only [zb_n, zb_d, ↓reduceIte, Int.reduceEq]
    by_cases hx : 50 ≤ x
    · simp only [if_pos hx, ite_self]
      exact ⟨2, 0, _, _, rfl, rfl, h.thr.thr, e_us, fun q => absurd q (by decide)⟩
    · simp only [if_neg hx]
      by_cases hq : c r_Film_kind f 0 0 = 45
      · have hq2 : m r_m_prints 0 0 f = 0 := by omega
        simp (decide := true) only [if_pos hq, hq2, ↓reduceIte]
        exact ⟨3, 0, _, _, rfl, rfl, h.thr.thr.thr, e_us, fun q => absurd q (by decide)⟩
      · have hq2 : ¬ m r_m_prints 0 0 f = 0 := by omega
        simp (decide := true) only [if_neg hq, if_neg hq2, hp]
        by_cases hy : c r_Film_comes f 0 0 < x
        · simp (decide := true) only [if_pos hy]
          obtain ⟨S, f1, f2, f3, f4⟩ := q_findLate g7 g2 (f := f) (x := x)
          have hm2 : zGr c (e_upd (e_upd (e_upd m r_m_thrown 0 0 0 0) r_m_thrown 0 0 0 0) r_m_thrown 0 0 0 0) := h.thr.thr.thr
          generalize hm' : e_upd (e_upd (e_upd m r_m_thrown 0 0 0 0) r_m_thrown 0 0 0 0) r_m_thrown 0 0 0 0 = m1 at hm2
          have eN1 : m1 r_m_shows 0 0 0 = c r_Grid_showCount 0 0 0 := hm2.2.2.2.2.2.2.1.1.2.2
          have hgo2 : ∀ k M, 0 ≤ k → k < c r_Grid_showCount 0 0 0 → (∀ r, zscM.contains r = false → (r == r_m_thrown) = false → M r = (e_upd m1 r_m_printHours 0 0 f x) r) → f_m_goesBy [k, -1, f] M = ((0, [zb (zgL c f x k)]), M) := fun k M k0 k1 fm => by
            have kk : ∀ {R : ZS → ZS → Prop} {KC KM : List Nat}, zRel R KC KM → z_nin KM (zscM ++ [r_m_thrown, r_m_printHours]) = true → R c m1 → R c M := fun hr hq h => hr h (fun _ _ => rfl) (fun r hr' => by
              have hz := z_nin_ok hq hr'
              have w1 : (r == r_m_thrown) = false := by
                cases e : r == r_m_thrown with
                | false => rfl
                | true => rw [beq_iff_eq] at e; rw [e] at hz; exact absurd hz (by decide)
              have w2 : (r == r_m_printHours) = false := by
                cases e : r == r_m_printHours with
                | false => rfl
                | true => rw [beq_iff_eq] at e; rw [e] at hz; exact absurd hz (by decide)
              have w3 : zscM.contains r = false := by
                cases e : zscM.contains r with
                | false => rfl
                | true =>
                  rw [List.contains_iff_mem] at e
                  have := List.contains_iff_mem.mpr (List.mem_append_left [r_m_thrown, r_m_printHours] e)
                  rw [hz] at this
                  cases this
              rw [fm r w3 w1]
              funext a b e
              exact e_un w2)
            have := q_goesL (kk zSw_rel (by decide) hm2.2.2.2.2.2.2.1) (kk zFs_rel (by decide) hm2.1) (kk zHr_rel (by decide) hm2.2.2.2.2.1) (kk zVe_rel (by decide) hm2.2.1) (kk zPk_rel (by decide) hm2.2.2.1) (d := -1) hf.1 (show f < 20 by omega) k0 k1
            rw [fm r_m_printHours (by decide) (by decide), e_us] at this
            exact this
          rw [f1, e_bnd, q_going (g := zgL c f x) (N := c r_Grid_showCount 0 0 0) n0 n1 (by rw [e_un (by decide)]; exact eN1) (fun k M k0 k1 fm => hgo2 k M k0 k1 (fun r hr _ => zgM_fr fm hr)), e_bnd, f2 r_Grid_showCount (by decide), n2]
          have hle := zcnt_le (zgL c f x) (c r_Grid_showCount 0 0 0).toNat 0
          have hw : e_wr (c r_Grid_showCount 0 0 0 + zcnt (zgL c f x) (c r_Grid_showCount 0 0 0).toNat 0) = c r_Grid_showCount 0 0 0 + zcnt (zgL c f x) (c r_Grid_showCount 0 0 0).toNat 0 := e_wr_id (by omega) (by omega)
          rw [hw]
          by_cases q2 : c r_Grid_showCount 0 0 0 + zcnt (zgL c f x) (c r_Grid_showCount 0 0 0).toNat 0 ≤ 60
          · simp only [if_pos q2]
            have hgS : zGr (e_upd S r_Film_comes f 0 0 x) (e_upd (e_upd m1 r_m_printHours 0 0 f x) r_m_thrown 0 0 0 0) := by
              obtain ⟨k1, k2, k3, k4, k5, k6, k7, k8, k9, k10⟩ := hm2.fd f2
              have hPh : zPh (e_upd S r_Film_comes f 0 0 x) (e_upd m1 r_m_printHours 0 0 f x) := fun e e0 e1 => by
                rw [e_ur, e_ur]
                by_cases z : e = f
                · rw [if_pos ⟨rfl, rfl, z⟩, if_pos ⟨z, rfl, rfl⟩]
                · rw [if_neg (fun y => z y.2.2), if_neg (fun y => z y.1)]
                  exact k4 e e0 e1
              exact zGr.thr ⟨zFs_rel.uc (zFs_rel.um k1 (by decide)) (by decide), zVe_rel.uc (zVe_rel.um k2 (by decide)) (by decide), zPk_rel.uc (zPk_rel.um k3 (by decide)) (by decide), hPh, zHr_rel.uc (zHr_rel.um k5 (by decide)) (by decide), zSt_rel.uc (zSt_rel.um k6 (by decide)) (by decide), zSw_rel.uc (zSw_rel.um k7 (by decide)) (by decide), zTo_rel.uc (zTo_rel.um k8 (by decide)) (by decide), zQu_rel.uc (zQu_rel.um k9 (by decide)) (by decide), zAr_rel.uc (zAr_rel.um k10 (by decide)) (by decide)⟩
            have eN : (e_upd S r_Film_comes f 0 0 x) r_Grid_showCount 0 0 0 = c r_Grid_showCount 0 0 0 := by rw [e_un (by decide), f2 _ (by decide)]
            obtain ⟨C', M', x1, x2, x3, x4⟩ := q_gone (c := e_upd S r_Film_comes f 0 0 x) (m := e_upd (e_upd m1 r_m_printHours 0 0 f x) r_m_thrown 0 0 0 0) (g := zgL c f x) (cz := 108) (d := -1) (f := f) (Or.inr (Or.inl rfl)) (by rw [e_un (by decide), f2 r_x_filmCount (by decide)]; exact a2) hgS (by
              rw [eN]
              intro k k0 k1 hk
              rw [e_un (by decide)]
              exact f4 k k0 k1 hk) (by rw [eN, e_un (by decide)]; exact f3) (by rw [eN]; exact q2) (fun k k0 k1 hk => by
              rw [eN] at k1
              rw [e_un (by decide), e_un (by decide), f2 r_Film_section (by decide), f2 r_Show_film (by decide)]
              unfold zgL at hk
              rw [Bool.and_eq_true, decide_eq_true_eq] at hk
              exact (zt_sec g7 g1 g5 g8 k0 k1 hk.1.2).2.2) (fun k M k0 k1 fm => hgo2 k M k0 (by rw [eN] at k1; exact k1) (fun r hr hs => by
              rw [zgM_fr fm hr]
              funext a b e
              exact e_un hs))
            rw [x1, x2, e_bnd, eN]
            refine ⟨0, _, _, _, rfl, rfl, x3.out, ?_, fun _ => e_us⟩
            rw [x4, e_us]
          · simp only [if_neg q2]
            refine ⟨4, 0, _, _, rfl, rfl, ?_, ?_, fun q => absurd q (by decide)⟩
            · obtain ⟨k1, k2, k3, k4, k5, k6, k7, k8, k9, k10⟩ := hm2.fd f2
              refine ⟨zFs_rel.um (zFs_rel.um (zFs_rel.um k1 (by decide)) (by decide)) (by decide), zVe_rel.um (zVe_rel.um (zVe_rel.um k2 (by decide)) (by decide)) (by decide), zPk_rel.um (zPk_rel.um (zPk_rel.um k3 (by decide)) (by decide)) (by decide), fun e e0 e1 => ?_, zHr_rel.um (zHr_rel.um (zHr_rel.um k5 (by decide)) (by decide)) (by decide), zSt_rel.um (zSt_rel.um (zSt_rel.um k6 (by decide)) (by decide)) (by decide), zSw_rel.um (zSw_rel.um (zSw_rel.um k7 (by decide)) (by decide)) (by decide), zTo_rel.um (zTo_rel.um (zTo_rel.um k8 (by decide)) (by decide)) (by decide), zQu_rel.um (zQu_rel.um (zQu_rel.um k9 (by decide)) (by decide)) (by decide), zAr_rel.um (zAr_rel.um (zAr_rel.um k10 (by decide)) (by decide)) (by decide)⟩
              rw [e_ur, e_un (by decide), e_ur]
              by_cases z : e = f
              · rw [if_pos ⟨rfl, rfl, z⟩, z]
                show c r_Film_comes f 0 0 = S r_Film_comes f 0 0
                rw [f2 r_Film_comes (by decide)]
              · rw [if_neg (fun y => z y.2.2), if_neg (fun y => z y.2.2)]
                exact k4 e e0 e1
            · rw [e_un (by decide), e_us]
        · simp (decide := true) only [if_neg hy]
          exact ⟨2, 0, _, _, rfl, rfl, h.thr.thr, e_us, fun q => absurd q (by decide)⟩
  · rw [if_neg hf, if_neg hf, e_b_x (by decide) (by decide)]
    simp (decide := true) only [zb_n, zb_d, ↓reduceIte]
    exact ⟨1, 0, _, _, rfl, rfl, h.thr, e_us, fun q => absurd q (by decide)⟩
theorem q_findOfFilm {c m : ZS} (h : zSw c m) {f : Int} : ∃ S, f_Grid_findOfFilm [f] c = ((0, [zcnt (ztc c f) (c r_Grid_showCount 0 0 0).toNat 0]), S) ∧ (∀ r, zfdW.contains r = false → S r = c r) ∧ S r_Grid_foundCount 0 0 0 = zcnt (ztc c f) (c r_Grid_showCount 0 0 0).toNat 0 ∧ zFd S (ztc c f) (c r_Grid_showCount 0 0 0) := by
  obtain ⟨n0, n1, -⟩ := id h.1
  show ∃ S, g_Grid_findOfFilm ((1000, [f]), c) = _ ∧ _
  rw [g_Grid_findOfFilm_0]
  refine q_find (c := c) n1 (G := fun k S => g_Grid_findOfFilm ((1007, [f, k]), S)) (fun k S e fr => ?_) (fun k S k0 k1 fr => ?_) (c r_Grid_showCount 0 0 0).toNat 0 _ (Int.le_refl _) (by omega) (fun r hr => ?_) e_us (fun k k0 k1 => by omega)
  · have e1 : S r_Grid_showCount = c r_Grid_showCount := fr _ (by decide)
    rw [g_Grid_findOfFilm_7, zb_d, e1, if_pos (by omega)]
  · have e1 : S r_Grid_showCount = c r_Grid_showCount := fr _ (by decide)
    have e2 : S r_Show_film = c r_Show_film := fr _ (by decide)
    have hk : e_wr (k + 1) = k + 1 := e_wr_id (by omega) (by omega)
    rw [g_Grid_findOfFilm_7, zb_d, e1, if_neg (by omega), zst_cg fr, e2, hk]
    unfold ztc
    simp only [zb_n, decide_eq_true_eq]
    by_cases q1 : c r_Show_film k 0 0 = f
    · by_cases q2 : v_Grid_stateOf k c = 116
      · rw [if_pos q1, if_pos q2, if_pos ⟨q1, q2⟩]
      · rw [if_pos q1, if_neg q2, if_neg (fun z => q2 z.2)]
    · rw [if_neg q1, if_neg (fun z => q1 z.1)]
  · funext a b e
    exact e_un (by
      cases z : r == r_Grid_foundCount with
      | false => rfl
      | true => rw [beq_iff_eq] at z; rw [z] at hr; exact absurd hr (by decide))
theorem q_wtake {c m : ZS} {f N : Int} {g : Int → Bool} (N60 : N ≤ 60) (hN : m r_m_shows 0 0 0 = N) (hg : ∀ k, 0 ≤ k → k < N → (g k = true ↔ m r_m_showFilms 0 0 k = f ∧ v_m_stateOf k m = 116)) (hfd : zFd c g N) (hcnt : c r_Grid_foundCount 0 0 0 = zcnt g N.toNat 0) (hfl : ∀ k, 0 ≤ k → k < N → m r_m_showFilms 0 0 k = c r_Show_film k 0 0) : ∀ (t : Nat) (k : Int) (C M : ZS), 0 ≤ k → k + t = N → zTk 119 g k c m C M → ∃ C' M', g_Grid_takeFound ((1002, [119, zcnt g k.toNat 0]), C) = ((0, []), C') ∧ g_m_withdraw ((1033, [f, zcnt g k.toNat 0, k]), M) = ((0, [zcnt g N.toNat 0]), e_upd (e_upd (e_upd M' r_m_areWithdrawn 0 0 f 1) r_m_sections 0 0 f (-1)) r_m_promises 0 0 f 0) ∧ zTk 119 g N c m C' M' := by
  intro t
  induction t with
  | zero =>
    intro k C M k0 k1 h
    have e : k = N := by omega
    subst e
    have e1 : C r_Grid_foundCount = c r_Grid_foundCount := h.1 _ (by decide)
    have e2 : M r_m_shows = m r_m_shows := h.2.1 _ (by decide)
    refine ⟨C, M, ?_, ?_, h⟩
    · rw [g_Grid_takeFound_2, zb_d, e1, hcnt, if_pos (Int.le_refl _)]
    · rw [g_m_withdraw_33, zb_d, e2, if_pos (by omega), e_nb1]
  | succ t ih =>
    intro k C M k0 k1 h
    have e1 : C r_Grid_foundCount = c r_Grid_foundCount := h.1 _ (by decide)
    have e2 : C r_Grid_found = c r_Grid_found := h.1 _ (by decide)
    have e4 : M r_m_shows = m r_m_shows := h.2.1 _ (by decide)
    have e5 : M r_m_showFilms = m r_m_showFilms := h.2.1 _ (by decide)
    have e6 : v_m_stateOf k M = v_m_stateOf k m := by
      unfold v_m_stateOf v_m_lastOf v_m_lengthOf
      rw [h.2.2.2.1 k, if_neg (fun z => by omega), e5, h.2.1 r_m_hour (by decide), h.2.1 r_m_showHours (by decide), h.2.1 r_m_minutes (by decide)]
    have ek : (k + 1).toNat = k.toNat + 1 := by omega
    have e0 : (0 : Int) + (k.toNat : Int) = k := by omega
    have hk : e_wr (k + 1) = k + 1 := e_wr_id (by omega) (by omega)
    have hle := zcnt_le g k.toNat 0
    have happ := zcnt_app (p := g) k.toNat 0
    rw [e0, ← ek] at happ
    have hgk := hg k k0 (by omega)
    have eM := g_m_withdraw_33 (x1 := f) (x2 := zcnt g k.toNat 0) (x3 := k) (S := M)
    rw [zb_d, e4, if_neg (by omega), zb_n, zb_n, e5, e6, hk] at eM
    by_cases w : g k = true
    · rw [w, if_pos rfl] at happ
      have hlt := zcnt_lt k0 (show k < N by omega) w
      have hw : e_wr (zcnt g k.toNat 0 + 1) = zcnt g k.toNat 0 + 1 := e_wr_id (by omega) (by omega)
      obtain ⟨w1, w2⟩ := hgk.mp w
      rw [if_pos w1, if_pos w2, q_zmA, e_bnd0, hw, e_nc (by decide) (by decide), ← happ] at eM
      have eC := g_Grid_takeFound_2 (x1 := 119) (x2 := zcnt g k.toNat 0) (S := C)
      rw [zb_d, e1, hcnt, if_neg (by omega), e2, hfd k k0 (by omega) w, h.1 r_Show_film (by decide), ← hfl k k0 (by omega), w1, q_zcA, e_bnd0, hw, ← happ] at eC
      rw [eC, eM]
      exact ih (k + 1) _ _ (by omega) (by omega) (h.take k0 w)
    · have w' : g k = false := by simpa using w
      rw [w', if_neg (by decide), Int.add_zero] at happ
      have eM2 : g_m_withdraw ((1033, [f, zcnt g k.toNat 0, k]), M) = g_m_withdraw ((1033, [f, zcnt g k.toNat 0, k + 1]), M) := by
        rw [eM]
        by_cases w1 : m r_m_showFilms 0 0 k = f
        · rw [if_pos w1, if_neg (fun z => w (hgk.mpr ⟨w1, z⟩))]
        · rw [if_neg w1]
      rw [eM2, ← happ]
      exact ih (k + 1) C M (by omega) (by omega) (h.skip w')
theorem o_withdraw {f : Int} {c m : ZS} (hR : zR c m) (h : zGr c m) (hW : zWd c m) : zBo (zAnd zGr zWd) (f_w_withdraw [f] c) (f_m_withdraw [f] m) := by
  obtain ⟨⟨a1, a2, a3⟩, -⟩ := id hR
  obtain ⟨g1, g2, g3, g4, g5, g6, g7, g8, g9, g10⟩ := id h
  obtain ⟨⟨n0, n1, n2⟩, -⟩ := id g7
  show zBo (zAnd zGr zWd) (e_try (f_x_withdraw [f] c) (fun v1 S1 => ((0, [0]), e_upd S1 r_out 0 0 0 v1)) [(0, 1), (3, 2)]) (g_m_withdraw ((1000, [f]), m))
  rw [g_m_withdraw_0]
  unfold f_x_withdraw f_Film_leave
  dsimp only
  rw [q_film a1 (by omega), q_noFilm (by omega) (by omega), a3]
  by_cases hf : 0 ≤ f ∧ f < c r_x_filmCount 0 0 0
  · rw [if_pos hf, if_pos hf, e_b_ok]
    have hw := (hW f hf.1 (by omega)).1
    simp (decide := true) only [zb_n, zb_d, ↓reduceIte, Int.reduceEq, hw]
    by_cases q : c r_Film_isWithdrawn f 0 0 = 0
    · simp (decide := true) only [q, ↓reduceIte]
      obtain ⟨S, f1, f2, f3, f4⟩ := q_findOfFilm g7 (f := f)
      have hm2 : zGr S (e_upd (e_upd m r_m_thrown 0 0 0 0) r_m_thrown 0 0 0 0) := (h.fd f2).thr.thr
      have hmW : zWd S (e_upd (e_upd m r_m_thrown 0 0 0 0) r_m_thrown 0 0 0 0) := zWd_rel hW.thr.thr (fun r hr => f2 r (z_nin_ok (by decide : z_nin zWdC zfdW = true) hr)) (fun _ _ => rfl)
      generalize hmm : e_upd (e_upd m r_m_thrown 0 0 0 0) r_m_thrown 0 0 0 0 = m1 at hm2 hmW ⊢
      have eth : m1 r_m_thrown 0 0 0 = 0 := by rw [← hmm, e_us]
      have eN : S r_Grid_showCount 0 0 0 = c r_Grid_showCount 0 0 0 := by rw [f2 _ (by decide)]
      obtain ⟨y1, y2, y3, y4, y5, y6, y7, y8, y9, y10⟩ := id hm2
      obtain ⟨C, M, p1, p2, p3⟩ := q_wtake (c := S) (m := m1) (f := f) (N := c r_Grid_showCount 0 0 0) (g := ztc c f) n1 (y7.1.2.2.trans eN) (fun k k0 k1 => by
        have s1 := (y7.row y1 k0 (by rw [eN]; exact k1)).1
        have s2 := (q_state y7 y1 y5 k0 (by rw [eN]; exact k1)).1
        rw [s1, s2, zst_cg f2, f2 r_Show_film (by decide)]
        unfold ztc
        rw [decide_eq_true_eq]) f4 f3 (fun k k0 k1 => (y7.row y1 k0 (by rw [eN]; exact k1)).1) (c r_Grid_showCount 0 0 0).toNat 0 S m1 (Int.le_refl _) (by omega) ⟨fun _ _ => rfl, fun _ _ => rfl, fun i => by rw [if_neg (fun z => by omega)], fun i => by rw [if_neg (fun z => by omega)], y10⟩
      have e1 : f_Grid_takeFound [119] S = ((0, []), C) := by
        show g_Grid_takeFound ((1000, [119]), S) = _
        rw [g_Grid_takeFound_0]
        exact p1
      have p2 : g_m_withdraw ((1033, [f, 0, 0]), m1) = _ := p2
      rw [f1, e_bnd, e1, e_bnd0, e_bnd0, p2]
      have hG : zGr C M := zTk.gr (cz := 119) (g := ztc c f) (Or.inr (Or.inr rfl)) (by rw [eN]; exact p3) hm2
      have hWd : zWd C M := zWd_rel hmW (fun r hr => p3.1 r (z_nin_ok (by decide : z_nin zWdC ([r_Show_cause] ++ zArC) = true) hr)) (fun r hr => p3.2.1 r (z_nin_ok (by decide : z_nin zWdM ([r_m_gone] ++ zArM) = true) hr))
      obtain ⟨k1, k2, k3, k4, k5, k6, k7, k8, k9, k10⟩ := hG
      have hT : zTo (e_upd (e_upd (e_upd C r_Film_isWithdrawn f 0 0 1) r_Film_section f 0 0 (-1)) r_Film_promise f 0 0 0) (e_upd (e_upd (e_upd M r_m_areWithdrawn 0 0 f 1) r_m_sections 0 0 f (-1)) r_m_promises 0 0 f 0) := by
        obtain ⟨tA, tB, tC⟩ := k8
        refine ⟨fun i i0 i1 z1 z2 => ?_, fun i i0 i1 => ?_, fun i j i0 ij j1 => ?_⟩
        · simp (decide := true) only [e_un] at i1 z1 z2 ⊢
          have i2 : i < c r_Grid_showCount 0 0 0 := by
            rw [← eN, ← p3.1 r_Grid_showCount (by decide)]
            exact i1
          have v1 : C r_Show_film = c r_Show_film := (p3.1 _ (by decide)).trans (f2 _ (by decide))
          have v2 : C r_Show_first = c r_Show_first := (p3.1 _ (by decide)).trans (f2 _ (by decide))
          have v3 : C r_Grid_hour = c r_Grid_hour := (p3.1 _ (by decide)).trans (f2 _ (by decide))
          have z3 := z1
          rw [p3.2.2.1 i] at z3
          by_cases w : 0 ≤ i ∧ i < c r_Grid_showCount 0 0 0 ∧ ztc c f i = true
          · rw [if_pos w] at z3
            omega
          · rw [if_neg w, f2 r_Show_cause (by decide)] at z3
            have hne : ¬ C r_Show_film i 0 0 = f := fun y => w ⟨i0, i2, by
              unfold ztc
              rw [decide_eq_true_eq, ← v1]
              refine ⟨y, ?_⟩
              rw [(q_state g7 g1 g5 i0 i2).2, if_pos z3, if_pos (by rw [← v2, ← v3]; exact z2)]⟩
            rw [e_ur, if_neg (fun y => hne y.1), e_un (by decide)]
            exact tA i i0 i1 z1 z2
        · simp (decide := true) only [e_un] at i1 ⊢
          simp (decide := true) only [e_ur, e_un]
          by_cases w : C r_Show_film i 0 0 = f
          · right
            rw [if_pos ⟨w, trivial⟩]
            decide
          · simp only [w, false_and, ↓reduceIte]
            exact tB i i0 i1
        · simp (decide := true) only [e_un] at j1 ⊢
          simp (decide := true) only [e_ur, e_un]
          intro z1 z2 z3 z4
          obtain ⟨u1, u2⟩ := tC i j i0 ij j1 z1 z2 z3 z4
          refine ⟨u1, ?_⟩
          by_cases w : C r_Show_film i 0 0 = f
          · left
            rw [if_pos ⟨w, trivial⟩]
          · simp only [w, false_and, ↓reduceIte]
            by_cases w2 : C r_Show_film j 0 0 = f
            · simp only [w2, and_self, true_and, ↓reduceIte]
              by_cases w3 : C r_Film_section (C r_Show_film i 0 0) 0 0 = -1
              · exact Or.inl w3
              · exact Or.inr w3
            · simp only [w2, false_and, ↓reduceIte]
              exact u2
      refine ⟨0, _, _, _, rfl, rfl, ⟨zGr.out ⟨?_, ?_, ?_, ?_, ?_, ?_, ?_, hT, ?_, zAr_rel.uc (zAr_rel.uc (zAr_rel.uc (zAr_rel.um (zAr_rel.um (zAr_rel.um k10 (by decide)) (by decide)) (by decide)) (by decide)) (by decide)) (by decide)⟩, zWd.out ?_⟩, ?_, fun _ => e_us⟩
      · obtain ⟨s1, s2, s3⟩ := k1
        refine ⟨fun g g0 g1 => ?_, fun g g0 g1 => ?_, fun g g0 g1 => ?_⟩
        · simp (decide := true) only [e_un] at g1
          simp (decide := true) only [e_un, e_ur]
          obtain ⟨t1, t2, t3, t4⟩ := s1 g g0 g1
          refine ⟨t1, t2, t3, ?_⟩
          by_cases w : g = f
          · simp (decide := true) only [w, and_self, ↓reduceIte]
          · simp only [w, and_false, false_and, ↓reduceIte]
            exact t4
        · simp (decide := true) only [e_un] at g0
          simp (decide := true) only [e_un, e_ur]
          obtain ⟨t1, t2⟩ := s2 g g0 g1
          refine ⟨t1, ?_⟩
          split
          · rfl
          · exact t2
        · simp (decide := true) only [e_un, e_ur]
          obtain ⟨t1, t2⟩ := s3 g g0 g1
          by_cases w : g = f
          · simp (decide := true) only [w, and_self, ↓reduceIte]
          · simp only [w, and_false, false_and, ↓reduceIte]
            exact ⟨t1, t2⟩
      · exact zVe_rel k2 (fun r hr => by simp only [zVeC, List.mem_cons, List.not_mem_nil, or_false] at hr; funext a b d; rcases hr with rfl | rfl | rfl | rfl | rfl | rfl | rfl | rfl <;> simp (decide := true) only [e_un]) (fun r hr => by simp only [zVeM, List.mem_cons, List.not_mem_nil, or_false] at hr; funext a b d; rcases hr with rfl | rfl | rfl | rfl | rfl <;> simp (decide := true) only [e_un])
      · exact zPk_rel.uc (zPk_rel.uc (zPk_rel.uc (zPk_rel.um (zPk_rel.um (zPk_rel.um k3 (by decide)) (by decide)) (by decide)) (by decide)) (by decide)) (by decide)
      · exact zPh_rel.uc (zPh_rel.uc (zPh_rel.uc (zPh_rel.um (zPh_rel.um (zPh_rel.um k4 (by decide)) (by decide)) (by decide)) (by decide)) (by decide)) (by decide)
      · exact zHr_rel.uc (zHr_rel.uc (zHr_rel.uc (zHr_rel.um (zHr_rel.um (zHr_rel.um k5 (by decide)) (by decide)) (by decide)) (by decide)) (by decide)) (by decide)
      · exact zSt_rel.uc (zSt_rel.uc (zSt_rel.uc (zSt_rel.um (zSt_rel.um (zSt_rel.um k6 (by decide)) (by decide)) (by decide)) (by decide)) (by decide)) (by decide)
      · exact zSw_rel.uc (zSw_rel.uc (zSw_rel.uc (zSw_rel.um (zSw_rel.um (zSw_rel.um k7 (by decide)) (by decide)) (by decide)) (by decide)) (by decide)) (by decide)
      · exact zQu_rel.uc (zQu_rel.uc (zQu_rel.uc (zQu_rel.um (zQu_rel.um (zQu_rel.um k9 (by decide)) (by decide)) (by decide)) (by decide)) (by decide)) (by decide)
      · intro g g0 g1
        simp (decide := true) only [e_un, e_ur]
        by_cases w : g = f
        · simp (decide := true) only [w, and_self, ↓reduceIte, true_and]
          exact zbit1
        · simp only [w, and_false, false_and, ↓reduceIte]
          exact hWd g g0 g1
      · simp (decide := true) only [e_un]
        rw [p3.2.1 r_m_thrown (by decide), eth]
    · simp (decide := true) only [q, ↓reduceIte]
      exact ⟨2, 0, _, _, rfl, rfl, ⟨h.thr.thr, hW.thr.thr⟩, e_us, fun q => absurd q (by decide)⟩
  · rw [if_neg hf, if_neg hf, e_b_x (by decide) (by decide)]
    simp (decide := true) only [zb_n, zb_d, ↓reduceIte]
    exact ⟨1, 0, _, _, rfl, rfl, ⟨h.thr, hW.thr⟩, e_us, fun q => absurd q (by decide)⟩
