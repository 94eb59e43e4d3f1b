/-! Shows that go: taken and set anew, both sides -/
theorem q_take {c m : ZS} {g : Int → Bool} {N cz q : Int} (z0 : 0 ≤ cz) (z1 : cz ≤ 65535) (N60 : N ≤ 60) (hfd : zFd c g N) (hcnt : c r_Grid_foundCount 0 0 0 = zcnt g N.toNat 0) (hnew : ∀ k, 0 ≤ k → k < N → m r_new q 0 k = zb (g k)) (hfl : ∀ k, 0 ≤ k → k < N → m r_m_showFilms 0 0 k = c r_Show_film k 0 0) : ∀ (t : Nat) (k : Int) (C M : ZS), 0 ≤ k → k + t = N → zTk cz g k c m C M → ∃ C' M', g_Grid_takeFound ((1002, [cz, zcnt g k.toNat 0]), C) = ((0, []), C') ∧ g_m_takes ((1047, [cz, N, zcnt g k.toNat 0, q, k]), M) = g_m_takes ((1095, [N, zcnt g N.toNat 0, q, 0]), M') ∧ zTk cz g N c m C' M' := by
  intro t
  induction t with
  | zero =>
    intro k C M k0 k1 h
    have e : k = N := by omega
    subst e
    have e1 : C r_Grid_foundCount = c r_Grid_foundCount := h.1 _ (by decide)
    refine ⟨C, M, ?_, ?_, h⟩
    · rw [g_Grid_takeFound_2, zb_d, e1, hcnt, if_pos (Int.le_refl _)]
    · rw [g_m_takes_47, zb_d, if_pos (Int.le_refl _)]
  | succ t ih =>
    intro k C M k0 k1 h
    have e1 : C r_Grid_foundCount = c r_Grid_foundCount := h.1 _ (by decide)
    have e2 : C r_Grid_found = c r_Grid_found := h.1 _ (by decide)
    have e3 : M r_new = m r_new := h.2.1 _ (by decide)
    have ek : (k + 1).toNat = k.toNat + 1 := by omega
    have e0 : (0 : Int) + (k.toNat : Int) = k := by omega
    have hk : e_wr (k + 1) = k + 1 := e_wr_id (by omega) (by omega)
    have hle := zcnt_le g k.toNat 0
    have happ := zcnt_app (p := g) k.toNat 0
    rw [e0, ← ek] at happ
    have eM := g_m_takes_47 (x1 := cz) (x2 := N) (x3 := zcnt g k.toNat 0) (x4 := q) (x5 := k) (S := M)
    rw [zb_d, if_neg (by omega), zb_d, e3, hnew k k0 (by omega), hk] at eM
    by_cases w : g k = true
    · rw [w, if_pos rfl] at happ
      have hlt := zcnt_lt k0 (show k < N by omega) w
      have hw : e_wr (zcnt g k.toNat 0 + 1) = zcnt g k.toNat 0 + 1 := e_wr_id (by omega) (by omega)
      rw [w, if_neg (by decide), h.2.1 r_m_showFilms (by decide), hfl k k0 (by omega), q_zmA, e_bnd0, hw, e_nc z0 z1, ← happ] at eM
      have eC := g_Grid_takeFound_2 (x1 := cz) (x2 := zcnt g k.toNat 0) (S := C)
      rw [zb_d, e1, hcnt, if_neg (by omega), e2, hfd k k0 (by omega) w, h.1 r_Show_film (by decide), q_zcA, e_bnd0, hw, ← happ] at eC
      rw [eC, eM]
      exact ih (k + 1) _ _ (by omega) (by omega) (h.take k0 w)
    · have w' : g k = false := by simpa using w
      rw [w', if_neg (by decide), Int.add_zero] at happ
      rw [w', if_pos (by decide)] at eM
      rw [eM, ← happ]
      exact ih (k + 1) C M (by omega) (by omega) (h.skip w')
/-- the passes that waited are put before the new show -/
def zCo (k v x : Int) (c S : ZS) : Prop := (∀ r, [r_Show_waiting, r_Show_queue].contains r = false → S r = c r) ∧ (∀ i, S r_Show_waiting i 0 0 = if i = v then x else c r_Show_waiting i 0 0) ∧ ∀ i y, S r_Show_queue i 0 y = if i = v ∧ 0 ≤ y ∧ y < x then c r_Show_queue k 0 y else c r_Show_queue i 0 y
theorem q_copy {c : ZS} {k v j W : Int} (kv : k ≠ v) (W16 : W ≤ 16) (hW : c r_Show_waiting k 0 0 = W) (j0 : 0 ≤ j) (j1 : j < 1000) : ∀ (t : Nat) (x : Int) (S : ZS), 0 ≤ x → x + t = W → zCo k v x c S → ∃ S', g_Grid_setFoundAnew ((1039, [j, k, v, x]), S) = g_Grid_setFoundAnew ((1002, [j + 1]), S') ∧ zCo k v W c S' := by
  intro t
  induction t with
  | zero =>
    intro x S x0 x1 h
    have e : x = W := by omega
    subst e
    have hj : e_wr (j + 1) = j + 1 := e_wr_id (by omega) (by omega)
    exact ⟨S, by rw [g_Grid_setFoundAnew_39, zb_d, h.2.1, if_neg kv, hW, if_pos (Int.le_refl _), hj], h⟩
  | succ t ih =>
    intro x S x0 x1 h
    have hx : e_wr (x + 1) = x + 1 := e_wr_id (by omega) (by omega)
    have ea : f_Show_addWaiting [v, c r_Show_queue k 0 x] S = ((0, []), e_upd (e_upd S r_Show_queue v 0 x (c r_Show_queue k 0 x)) r_Show_waiting v 0 0 (x + 1)) := by
      unfold f_Show_addWaiting
      dsimp only
      rw [h.2.1 v, if_pos rfl, zb_d, if_neg (by omega), hx]
    have eC := g_Grid_setFoundAnew_39 (x1 := j) (x2 := k) (x3 := v) (x4 := x) (S := S)
    rw [zb_d, h.2.1 k, if_neg kv, hW, if_neg (by omega), h.2.2 k x, if_neg (fun z => kv z.1), ea, e_bnd0, hx] at eC
    rw [eC]
    refine ih (x + 1) _ (by omega) (by omega) ⟨fun r hr => ?_, fun i => ?_, fun i y => ?_⟩
    · rw [← h.1 r hr]
      funext a b d
      have h1 : (r == r_Show_waiting) = false := by
        cases e : r == r_Show_waiting with
        | false => rfl
        | true => rw [beq_iff_eq] at e; rw [e] at hr; exact absurd hr (by decide)
      have h2 : (r == r_Show_queue) = false := by
        cases e : r == r_Show_queue with
        | false => rfl
        | true => rw [beq_iff_eq] at e; rw [e] at hr; exact absurd hr (by decide)
      rw [e_un h1, e_un h2]
    · rw [e_ur]
      by_cases e : i = v
      · rw [if_pos ⟨e, rfl, rfl⟩, if_pos e]
      · rw [if_neg (fun z => e z.1), if_neg e, e_un (by decide), h.2.1, if_neg e]
    · rw [e_un (by decide), e_ur, h.2.2]
      by_cases e : i = v ∧ 0 ≤ y ∧ y < x + 1
      · rw [if_pos e]
        by_cases e2 : y = x
        · rw [if_pos ⟨e.1, rfl, e2⟩, e2]
        · rw [if_neg (fun z => e2 z.2.2), if_pos ⟨e.1, e.2.1, by omega⟩]
      · rw [if_neg e, if_neg (fun z => e ⟨z.1, by omega, by omega⟩), if_neg (fun z => e ⟨z.1, z.2.1, by omega⟩)]
/-- the grid's relations behind the copy of a queue -/
theorem zCo.gr {k v W : Int} {c m S : ZS} (h : zCo k v W c S) (hg : zGr c m) (k0 : 0 ≤ k) (k1 : k < 60) (v0 : 0 ≤ v) (vn : v < c r_Grid_showCount 0 0 0) (kv : k ≠ v) (hW : c r_Show_waiting k 0 0 = W) : zGr S (e_upd (e_acp m r_m_waits_r k 0 0 r_m_waits_r v 0 0 16) r_m_waitMany 0 0 v (m r_m_waitMany 0 0 k)) := by
  obtain ⟨h1, h2, h3⟩ := h
  have kR : ∀ {R : ZS → ZS → Prop} {KC KM : List Nat}, zRel R KC KM → z_nin KC [r_Show_waiting, r_Show_queue] = true → z_nin KM [r_m_waits_r, r_m_waitMany] = true → R c m → R S (e_upd (e_acp m r_m_waits_r k 0 0 r_m_waits_r v 0 0 16) r_m_waitMany 0 0 v (m r_m_waitMany 0 0 k)) := fun hr hq hq' h => hr h (fun r hr' => h1 r (z_nin_ok hq hr')) (fun r hr' => by
    have hz := z_nin_ok hq' hr'
    funext a b d
    have x1 : (r == r_m_waits_r) = false := by
      cases e : r == r_m_waits_r with
      | false => rfl
      | true => rw [beq_iff_eq] at e; rw [e] at hz; exact absurd hz (by decide)
    have x2 : (r == r_m_waitMany) = false := by
      cases e : r == r_m_waitMany with
      | false => rfl
      | true => rw [beq_iff_eq] at e; rw [e] at hz; exact absurd hz (by decide)
    rw [e_un x2, e_an x1])
  obtain ⟨g1, g2, g3, g4, g5, g6, g7, g8, g9, g10⟩ := hg
  refine ⟨kR zFs_rel (by decide) (by decide) g1, kR zVe_rel (by decide) (by decide) g2, kR zPk_rel (by decide) (by decide) g3, kR zPh_rel (by decide) (by decide) g4, kR zHr_rel (by decide) (by decide) g5, kR zSt_rel (by decide) (by decide) g6, kR zSw_rel (by decide) (by decide) g7, kR zTo_rel (by decide) (by decide) g8, ?_, kR zAr_rel (by decide) (by decide) g10⟩
  intro i i0 i1
  obtain ⟨a, ⟨b1, b2, b3⟩, d, e, w⟩ := g9 i i0 i1
  obtain ⟨-, ⟨kb1, kb2, kb3⟩, kd, ke, -⟩ := g9 k k0 k1
  have q1 : S r_Show_isOpened = c r_Show_isOpened := h1 _ (by decide)
  have q2 : S r_Grid_showCount = c r_Grid_showCount := h1 _ (by decide)
  rw [q1, q2, h2, e_un (by decide), e_an (by decide), e_ur]
  by_cases q : i = v
  · rw [if_pos q, if_pos ⟨rfl, rfl, q⟩]
    refine ⟨a, ⟨by omega, by omega, by omega⟩, fun y y0 y1 => ?_, fun y z y0 yz z1 => ?_, fun z => by omega⟩
    · rw [e_un (by decide), q, e_as, if_pos (by omega), h3, if_pos ⟨rfl, y0, y1⟩, show y - 0 + 0 = y by omega]
      exact kd y y0 (by omega)
    · rw [q, h3, h3, if_pos ⟨rfl, y0, by omega⟩, if_pos ⟨rfl, by omega, z1⟩]
      exact ke y z y0 yz (by omega)
  · rw [if_neg q, if_neg (fun z => q z.2.2)]
    refine ⟨a, ⟨b1, b2, b3⟩, fun y y0 y1 => ?_, fun y z y0 yz z1 => ?_, w⟩
    · rw [e_un (by decide), h3, if_neg (fun z => q z.1)]
      have : e_acp m r_m_waits_r k 0 0 r_m_waits_r v 0 0 16 r_m_waits_r i 0 y = m r_m_waits_r i 0 y := if_neg (fun z => q z.2.1)
      rw [this]
      exact d y y0 y1
    · rw [h3, h3, if_neg (fun z => q z.1), if_neg (fun z => q z.1)]
      exact e y z y0 yz z1
theorem q_anew {c m : ZS} {g : Int → Bool} {N q w : Int} (N0 : 0 ≤ N) (N60 : N ≤ 60) (F20 : c r_x_filmCount 0 0 0 ≤ 20) (hfd : zFd c g N) (hcnt : c r_Grid_foundCount 0 0 0 = zcnt g N.toNat 0) (hnew : ∀ k, 0 ≤ k → k < N → m r_new q 0 k = zb (g k)) (hsec : ∀ k, 0 ≤ k → k < N → g k = true → 0 ≤ c r_Film_section (c r_Show_film k 0 0) 0 0 ∧ 0 ≤ c r_Show_film k 0 0 ∧ c r_Show_film k 0 0 < c r_x_filmCount 0 0 0) : ∀ (t : Nat) (k : Int) (C M : ZS), 0 ≤ k → k + t = N → zGr C M → (∀ r, [r_Grid_found, r_Grid_foundCount, r_Film_section, r_x_filmCount].contains r = true → C r = c r) → (∀ i, 0 ≤ i → i < N → C r_Show_film i 0 0 = c r_Show_film i 0 0) → N ≤ C r_Grid_showCount 0 0 0 → C r_Grid_showCount 0 0 0 + (zcnt g N.toNat 0 - zcnt g k.toNat 0) ≤ 60 → (∀ r, [r_new, r_m_thrown].contains r = true → M r = m r) → ∃ C' M', g_Grid_setFoundAnew ((1002, [zcnt g k.toNat 0]), C) = ((0, []), C') ∧ g_m_takes ((1095, [N, w, q, k]), M) = ((0, [w]), M') ∧ zGr C' M' ∧ M' r_m_thrown = m r_m_thrown := by
  intro t
  induction t with
  | zero =>
    intro k C M k0 k1 hg fr ff hN hS fm
    have e : k = N := by omega
    subst e
    refine ⟨C, M, ?_, ?_, hg, fm _ (by decide)⟩
    · rw [g_Grid_setFoundAnew_2, zb_d, fr r_Grid_foundCount (by decide), hcnt, if_pos (Int.le_refl _)]
    · rw [g_m_takes_95, zb_d, if_pos (Int.le_refl _)]
  | succ t ih =>
    intro k C M k0 k1 hg fr ff hN hS fm
    have e1 : C r_Grid_foundCount = c r_Grid_foundCount := fr _ (by decide)
    have e2 : C r_Grid_found = c r_Grid_found := fr _ (by decide)
    have e3 : M r_new = m r_new := fm _ (by decide)
    have e4 : C r_Film_section = c r_Film_section := fr _ (by decide)
    have e5 : C r_x_filmCount = c r_x_filmCount := fr _ (by decide)
    have ek : (k + 1).toNat = k.toNat + 1 := by omega
    have e0 : (0 : Int) + (k.toNat : Int) = k := by omega
    have hk : e_wr (k + 1) = k + 1 := e_wr_id (by omega) (by omega)
    have hle := zcnt_le g k.toNat 0
    have happ := zcnt_app (p := g) k.toNat 0
    rw [e0, ← ek] at happ
    have eM := g_m_takes_95 (x1 := N) (x2 := w) (x3 := q) (x4 := k) (S := M)
    rw [zb_d, if_neg (by omega), zb_d, e3, hnew k k0 (by omega), hk] at eM
    by_cases z : g k = true
    · rw [z, if_pos rfl] at happ
      have hlt := zcnt_lt k0 (show k < N by omega) z
      have hw : e_wr (zcnt g k.toNat 0 + 1) = zcnt g k.toNat 0 + 1 := e_wr_id (by omega) (by omega)
      obtain ⟨s1, s2, s3⟩ := hsec k k0 (by omega) z
      have m1 := (hg.2.2.2.2.2.2.1.row hg.1 k0 (show k < C r_Grid_showCount 0 0 0 by omega)).1
      have fk := ff k k0 (by omega)
      rw [z, if_neg (by decide), m1, fk] at eM
      have eC := g_Grid_setFoundAnew_2 (x1 := zcnt g k.toNat 0) (S := C)
      rw [zb_d, e1, hcnt, if_neg (by omega), e2, hfd k k0 (by omega) z, fk, hw] at eC
      have hlt60 : C r_Grid_showCount 0 0 0 < 60 := by omega
      obtain ⟨v, C1, M1, p1, p2, g1, f1, f2, f3, p3⟩ := (q_place hg hlt60 s2 (by rw [e5]; exact s3) (by omega) (by rw [e4]; exact s1)).ok hg hlt60 s2 (by rw [e5]; exact s3) (by rw [e4]; exact s1)
      rw [p1, e_bnd, zb_d] at eC
      rw [p2, e_bnd, zb_d] at eM
      rw [eC, eM]
      rcases p3 with ⟨rfl, rfl, rfl⟩ | ⟨p4, p5⟩
      · rw [if_pos rfl, if_pos (by decide), ← happ]
        exact ih (k + 1) C1 M1 (by omega) (by omega) g1 fr ff hN (by omega) fm
      · rw [if_neg (by omega), if_neg (by omega), p4]
        have kv : k ≠ C r_Grid_showCount 0 0 0 := by omega
        have q9 := (g1.2.2.2.2.2.2.2.2.1) k k0 (by omega)
        have q10 := hg.2.2.2.2.2.2.2.2.1 (C r_Grid_showCount 0 0 0) (by omega) hlt60
        have w0 : C1 r_Show_waiting = C r_Show_waiting := f1 _ (by decide)
        obtain ⟨S2, c1, c2⟩ := q_copy (c := C1) (k := k) (v := C r_Grid_showCount 0 0 0) (j := zcnt g k.toNat 0) (W := C1 r_Show_waiting k 0 0) kv q9.2.1.2.1 rfl (by omega) (by omega) (C1 r_Show_waiting k 0 0).toNat 0 C1 (Int.le_refl _) (by have := q9.2.1.1; omega) ⟨fun _ _ => rfl, fun i => by
          by_cases e : i = C r_Grid_showCount 0 0 0
          · rw [if_pos e, e, w0]
            exact (q10.2.2.2.2 (Int.le_refl _)).1
          · rw [if_neg e], fun i y => by rw [if_neg (fun z => by omega)]⟩
        rw [c1, ← happ]
        have g2 := c2.gr g1 k0 (by omega) (by omega) (by rw [p5]; omega) kv rfl
        have hwm : (e_acp M1 r_m_waits_r k 0 0 r_m_waits_r (C r_Grid_showCount 0 0 0) 0 0 16) r_m_waitMany 0 0 k = M1 r_m_waitMany 0 0 k := e_an (by decide)
        rw [hwm]
        refine ih (k + 1) S2 _ (by omega) (by omega) g2 (fun r hr => ?_) (fun i i0 i1 => ?_) ?_ ?_ (fun r hr => ?_)
        · have hr1 : [r_Show_waiting, r_Show_queue].contains r = false := by
            rw [List.contains_iff_mem] at hr
            simp only [List.mem_cons, List.not_mem_nil, or_false] at hr
            rcases hr with rfl | rfl | rfl | rfl <;> decide
          have hr2 : zsW.contains r = false := by
            rw [List.contains_iff_mem] at hr
            simp only [List.mem_cons, List.not_mem_nil, or_false] at hr
            rcases hr with rfl | rfl | rfl | rfl <;> decide
          rw [c2.1 r hr1, f1 r hr2]
          exact fr r hr
        · rw [c2.1 r_Show_film (by decide), f3 i (by omega)]
          exact ff i i0 i1
        · rw [c2.1 r_Grid_showCount (by decide), p5]
          omega
        · rw [c2.1 r_Grid_showCount (by decide), p5]
          omega
        · have hr1 : (r == r_m_waitMany) = false := by
            rw [List.contains_iff_mem] at hr
            simp only [List.mem_cons, List.not_mem_nil, or_false] at hr
            rcases hr with rfl | rfl <;> decide
          have hr2 : (r == r_m_waits_r) = false := by
            rw [List.contains_iff_mem] at hr
            simp only [List.mem_cons, List.not_mem_nil, or_false] at hr
            rcases hr with rfl | rfl <;> decide
          have hr3 : zsX.contains r = false := by
            rw [List.contains_iff_mem] at hr
            simp only [List.mem_cons, List.not_mem_nil, or_false] at hr
            rcases hr with rfl | rfl <;> decide
          rw [← fm r hr, ← f2 r hr3]
          funext a b d
          rw [e_un hr1, e_an hr2]
    · have z' : g k = false := by simpa using z
      rw [z', if_neg (by decide), Int.add_zero] at happ
      rw [z', if_pos (by decide)] at eM
      rw [eM, ← happ]
      exact ih (k + 1) C M (by omega) (by omega) hg fr ff hN (by omega) fm
def zgoM : List Nat := [r_new, z_rA]
/-- the model's array of what goes -/
theorem q_goes {m : ZS} {g : Int → Bool} {N cz d f q : Int} (N60 : N ≤ 60) (hgo : ∀ k M, 0 ≤ k → k < N → (∀ r, zgoM.contains r = false → M r = m r) → f_m_goesBy [k, d, f] M = ((0, [zb (g k)]), M)) : ∀ (t : Nat) (k : Int) (M : ZS), 0 ≤ k → k + t = N → (∀ r, zgoM.contains r = false → M r = m r) → (∀ i, 0 ≤ i → i < k → M r_new q 0 i = zb (g i)) → ∃ M', g_m_takes ((1018, [cz, d, f, N, 0, q, k]), M) = g_m_takes ((1047, [cz, N, 0, q, 0]), M') ∧ (∀ r, zgoM.contains r = false → M' r = m r) ∧ ∀ i, 0 ≤ i → i < N → M' r_new q 0 i = zb (g i) := by
  intro t
  induction t with
  | zero =>
    intro k M k0 k1 fm h
    have e : k = N := by omega
    subst e
    exact ⟨M, by rw [g_m_takes_18, zb_d, if_pos (Int.le_refl _)], fm, h⟩
  | succ t ih =>
    intro k M k0 k1 fm h
    have hk : e_wr (k + 1) = k + 1 := e_wr_id (by omega) (by omega)
    have hn : ∀ b, e_nar 1 (zb b) = zb b := fun b => by cases b <;> decide
    rw [g_m_takes_18, zb_d, if_neg (by omega), hgo k M k0 (by omega) fm, e_bnd, hk, hn]
    refine ih (k + 1) _ (by omega) (by omega) (fun r hr => ?_) (fun i i0 i1 => ?_)
    · rw [← fm r hr]
      funext a b d
      exact e_un (by
        cases e : r == r_new with
        | false => rfl
        | true => rw [beq_iff_eq] at e; rw [e] at hr; exact absurd hr (by decide))
    · rw [e_ur]
      by_cases e : i = k
      · rw [if_pos ⟨rfl, rfl, e⟩, e]
      · rw [if_neg (fun z => e z.2.2)]
        exact h i i0 (by omega)
theorem q_going {m : ZS} {g : Int → Bool} {N d f : Int} (N0 : 0 ≤ N) (N60 : N ≤ 60) (hN : m r_m_shows 0 0 0 = N) (hgo : ∀ k M, 0 ≤ k → k < N → (∀ r, zgoM.contains r = false → M r = m r) → f_m_goesBy [k, d, f] M = ((0, [zb (g k)]), M)) : f_m_going [d, f] m = ((0, [zcnt g N.toNat 0]), m) := by
  show g_m_going ((1000, [d, f]), m) = _
  rw [g_m_going_0]
  refine (zl_cnt (n := N) (p := g) (fin := fun x => ((0, [x]), m)) (G := fun x k => g_m_going ((1005, [d, f, x, k]), m)) (fun x k e => ?_) (fun x k k0 k1 x0 x1 => ?_) N.toNat 0 0 (Int.le_refl _) (by omega) (Int.le_refl _) (Int.le_refl _)).trans ?_
  · rw [g_m_going_5, zb_d, if_pos (by omega)]
  · have hk : e_wr (k + 1) = k + 1 := e_wr_id (by omega) (by omega)
    have hx : e_wr (x + 1) = x + 1 := e_wr_id (by omega) (by omega)
    have hx0 : e_wr (x + 0) = x := by rw [Int.add_zero]; exact e_wr_id (by omega) (by omega)
    rw [g_m_going_5, zb_d, if_neg (by omega), hgo k m k0 k1 (fun _ _ => rfl), e_bnd, zb_d, hk, hx, hx0]
    cases g k <;> rfl
  · rw [Int.zero_add]
/-- all of it: the class's and the model's shows that go -/
theorem q_gone {c m : ZS} {g : Int → Bool} {cz d f : Int} (hc : cz = 115 ∨ cz = 108 ∨ cz = 119) (hF : c r_x_filmCount 0 0 0 ≤ 20) (hg : zGr c m) (hfd : zFd c g (c r_Grid_showCount 0 0 0)) (hcnt : c r_Grid_foundCount 0 0 0 = zcnt g (c r_Grid_showCount 0 0 0).toNat 0) (hsum : c r_Grid_showCount 0 0 0 + zcnt g (c r_Grid_showCount 0 0 0).toNat 0 ≤ 60) (hsec : ∀ k, 0 ≤ k → k < c r_Grid_showCount 0 0 0 → g k = true → 0 ≤ c r_Film_section (c r_Show_film k 0 0) 0 0) (hgo : ∀ k M, 0 ≤ k → k < c r_Grid_showCount 0 0 0 → (∀ r, zgoM.contains r = false → M r = m r) → f_m_goesBy [k, d, f] M = ((0, [zb (g k)]), M)) : ∃ C' M', (∀ v, e_bind (f_Grid_takeFound [cz] c) (fun _ S2 => e_bind (f_Grid_setFoundAnew [] S2) (fun _ S3 => ((0, [v]), S3))) = (((0, [v]) : Nat × List Int), C')) ∧ f_m_takes [cz, d, f] m = ((0, [zcnt g (c r_Grid_showCount 0 0 0).toNat 0]), M') ∧ zGr C' M' ∧ M' r_m_thrown = m r_m_thrown := by
  obtain ⟨⟨n0, n1, n2⟩, sw, -⟩ := id hg.2.2.2.2.2.2.1
  have hm0 : ∀ r, zgoM.contains r = false → (e_upd m z_rA 0 0 0 (m z_rA 0 0 0 + 1)) r = m r := fun r hr => by
    funext a b d
    exact e_un (by
      cases e : r == z_rA with
      | false => rfl
      | true => rw [beq_iff_eq] at e; rw [e] at hr; exact absurd hr (by decide))
  obtain ⟨M1, p1, p2, p3⟩ := q_goes (q := m z_rA 0 0 0) (cz := cz) n1 hgo (c r_Grid_showCount 0 0 0).toNat 0 _ (Int.le_refl _) (by omega) hm0 (fun i a b => by omega)
  have hg1 : zGr c M1 := hg.fr (fun _ _ => rfl) (fun r hr => p2 r (by
    cases e : zgoM.contains r with
    | false => rfl
    | true =>
      rw [List.contains_iff_mem] at e
      have := List.contains_iff_mem.mpr (show r ∈ zscM by
        unfold zgoM at e
        simp only [List.mem_cons, List.not_mem_nil, or_false] at e
        rcases e with rfl | rfl <;> decide)
      rw [hr] at this
      cases this))
  obtain ⟨C2, M2, q1, q2, q3⟩ := q_take (c := c) (m := M1) (g := g) (q := m z_rA 0 0 0) (cz := cz) (by omega) (by omega) n1 hfd hcnt p3 (fun k k0 k1 => by rw [p2 r_m_showFilms (by decide)]; exact (sw k k0 k1).1.1) (c r_Grid_showCount 0 0 0).toNat 0 c M1 (Int.le_refl _) (by omega) ⟨fun _ _ => rfl, fun _ _ => rfl, fun i => by rw [if_neg (fun z => by omega)], fun i => by rw [if_neg (fun z => by omega)], hg1.2.2.2.2.2.2.2.2.2⟩
  have hg2 : zGr C2 M2 := q3.gr hc hg1
  obtain ⟨C3, M3, r1, r2, r3, r4⟩ := q_anew (c := c) (m := M1) (g := g) (q := m z_rA 0 0 0) (w := zcnt g (c r_Grid_showCount 0 0 0).toNat 0) n0 n1 hF hfd hcnt p3 (fun k k0 k1 hk => ⟨hsec k k0 k1 hk, (sw k k0 k1).1.2.1, (sw k k0 k1).1.2.2⟩) (c r_Grid_showCount 0 0 0).toNat 0 C2 M2 (Int.le_refl _) (by omega) hg2 (fun r hr => q3.1 r (by
    rw [List.contains_iff_mem] at hr
    simp only [List.mem_cons, List.not_mem_nil, or_false] at hr
    rcases hr with rfl | rfl | rfl | rfl <;> decide)) (fun i _ _ => by rw [q3.1 r_Show_film (by decide)]) (by rw [q3.1 r_Grid_showCount (by decide)]; omega) (by
    rw [q3.1 r_Grid_showCount (by decide)]
    show _ + (_ - 0) ≤ 60
    omega) (fun r hr => q3.2.1 r (by
    rw [List.contains_iff_mem] at hr
    simp only [List.mem_cons, List.not_mem_nil, or_false] at hr
    rcases hr with rfl | rfl <;> decide))
  refine ⟨C3, M3, fun v => ?_, ?_, r3, r4.trans (p2 _ (by decide))⟩
  · have e1 : f_Grid_takeFound [cz] c = ((0, []), C2) := by
      show g_Grid_takeFound ((1000, [cz]), c) = _
      rw [g_Grid_takeFound_0]
      exact q1
    have e2 : f_Grid_setFoundAnew [] C2 = ((0, []), C3) := by
      show g_Grid_setFoundAnew ((1000, []), C2) = _
      rw [g_Grid_setFoundAnew_0]
      exact r1
    rw [e1, e_bnd0, e2, e_bnd0]
  · show g_m_takes ((1000, [cz, d, f]), m) = _
    rw [g_m_takes_0, n2, p1]
    exact q2.trans r2
