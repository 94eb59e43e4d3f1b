/-! juror, rule, see, type: both sides -/
theorem q_juror {s j : Int} {S : ZS} (h0 : 0 ≤ S r_Section_jurorCount s 0 0) (h1 : S r_Section_jurorCount s 0 0 ≤ 1000) : f_x_checkJuror [s, j] S = if 0 ≤ j ∧ j < S r_Section_jurorCount s 0 0 then ((0, []), S) else ((1, []), S) := by
  show e_bind (f_x_checkNumber [j, S r_Section_jurorCount s 0 0] S) (fun _ S1 => ((0, []), S1)) = _
  rw [q_num h0 h1, e_b_if]
  rfl
theorem q_noJuror {s j : Int} {S : ZS} (h0 : 0 ≤ S r_m_sectionMany 0 0 0) (h1 : S r_m_sectionMany 0 0 0 ≤ 1000) (h2 : 0 ≤ s → s < S r_m_sectionMany 0 0 0 → 0 ≤ S r_m_jurorMany 0 0 s ∧ S r_m_jurorMany 0 0 s ≤ 1000) : v_m_isNoJuror s j S = if (0 ≤ s ∧ s < S r_m_sectionMany 0 0 0) ∧ 0 ≤ j ∧ j < S r_m_jurorMany 0 0 s then 0 else 1 := by
  unfold v_m_isNoJuror
  rw [zb_n, zb_n, q_noSection h0 h1]
  by_cases hs : 0 ≤ s ∧ s < S r_m_sectionMany 0 0 0
  · obtain ⟨h3, h4⟩ := h2 hs.1 hs.2
    rw [if_pos hs, if_pos rfl, q_isIn, e_wr_id (by omega) (by omega)]
    by_cases hj : 0 ≤ j ∧ j < S r_m_jurorMany 0 0 s
    · rw [if_pos (show 0 ≤ j ∧ j ≤ S r_m_jurorMany 0 0 s - 1 by omega), if_neg (by decide), if_pos ⟨hs, hj⟩]
    · rw [if_neg (show ¬ (0 ≤ j ∧ j ≤ S r_m_jurorMany 0 0 s - 1) by omega), if_pos rfl, if_neg (fun z => hj z.2)]
  · rw [if_neg hs, if_neg (by decide), if_neg (fun z => hs z.1)]
theorem o_rule {s x : Int} {c m : ZS} (h : zRu c m) : zBo zRu (f_w_rule [s, x] c) (f_m_rule [s, x] m) := by
  obtain ⟨⟨d1, d2, d3⟩, hr⟩ := id h
  show zBo zRu (e_try (f_x_rule [s, x] c) (fun v1 S1 => ((0, [0]), e_upd S1 r_out 0 0 0 v1)) [(0, 1), (1, 2)]) (f_m_rule [s, x] m)
  unfold f_x_rule f_m_rule
  dsimp only
  rw [q_section d1 (by omega), q_noSection (by omega) (by omega), d3]
  by_cases hs : 0 ≤ s ∧ s < c r_x_sectionCount 0 0 0
  · obtain ⟨r1, r2, r3⟩ := hr s hs.1 (by omega)
    rw [if_pos hs, if_pos hs, e_b_ok]
    simp (decide := true) only [zb_n, zb_d, ↓reduceIte, Int.reduceEq, r2 hs.2]
    have main : (x = 109 ∨ x = 98 ∨ x = 99 ∨ x = 114) → zBo zRu (e_try ((0, [c r_Section_rule s 0 0]), e_upd c r_Section_rule s 0 0 x) (fun v1 S1 => ((0, [0]), e_upd S1 r_out 0 0 0 v1)) [(0, 1), (1, 2)]) ((0, [c r_Section_rule s 0 0]), e_upd (e_upd (e_upd m r_m_thrown 0 0 0 0) r_m_thrown 0 0 0 0) r_m_rules 0 0 s (e_nar 2 x)) := fun hx => by
      have hn : e_nar 2 x = x := e_nc (by omega) (by omega)
      rw [hn]
      refine ⟨0, _, _, _, rfl, rfl, zRu.out ⟨?_, fun t t0 t1 => ?_⟩, by simp (decide := true) only [e_un, e_us], fun _ => e_us⟩
      · simp (decide := true) only [e_un]
        exact ⟨d1, d2, d3⟩
      · obtain ⟨q1, q2, q3⟩ := hr t t0 t1
        simp (decide := true) only [e_un, e_ur]
        by_cases w : t = s
        · simp (decide := true) only [w, and_self, ↓reduceIte]
          exact ⟨by omega, fun _ => trivial, fun z => by omega⟩
        · simp only [w, and_false, false_and, ↓reduceIte]
          exact ⟨q1, q2, q3⟩
    by_cases x1 : x = 109
    · have := main (Or.inl x1)
      simp only [if_pos x1]
      exact this
    · by_cases x2 : x = 98
      · have := main (Or.inr (Or.inl x2))
        simp only [if_neg x1, if_pos x2]
        exact this
      · by_cases x3 : x = 99
        · have := main (Or.inr (Or.inr (Or.inl x3)))
          simp only [if_neg x1, if_neg x2, if_pos x3]
          exact this
        · by_cases x4 : x = 114
          · have := main (Or.inr (Or.inr (Or.inr x4)))
            simp only [if_neg x1, if_neg x2, if_neg x3, if_pos x4]
            exact this
          · simp only [if_neg x1, if_neg x2, if_neg x3, if_neg x4]
            exact ⟨2, 32, _, _, rfl, rfl, h.thr.thr, e_us, fun q => absurd q (by decide)⟩
  · rw [if_neg hs, if_neg hs, e_b_x (by decide) (by decide)]
    simp (decide := true) only [zb_n, zb_d, ↓reduceIte]
    exact ⟨1, 32, _, _, rfl, rfl, h.thr, e_us, fun q => absurd q (by decide)⟩
theorem o_sectionJ {x1 x2 x3 x4 x5 : Int} {c m : ZS} (h : zSe c m) (hr : zRu c m) : zBo (zAnd zSe zRu) (f_w_section [x1, x2, x3, x4, x5] c) (f_m_section [x1, x2, x3, x4, x5] m) := by
  refine (oS_section h).and ?_
  obtain ⟨⟨d1, d2, d3⟩, ru⟩ := id hr
  rw [q_wsection d1 d2, q_msection (by omega) (by omega), d3]
  split
  · split
    · exact hr.thr.thr
    · refine zRu.out ⟨?_, fun t t0 t1 => ?_⟩
      · simp (decide := true) only [e_us]
        exact ⟨by omega, by omega, trivial⟩
      · obtain ⟨q1, q2, q3⟩ := ru t t0 t1
        simp (decide := true) only [e_un, e_us, e_ur]
        refine ⟨q1, fun z => ?_, fun z => q3 (by omega)⟩
        by_cases w : t = c r_x_sectionCount 0 0 0
        · simp (decide := true) only [w, and_self, ↓reduceIte]
          rw [← w]
          exact (q3 (by omega)).symm
        · simp only [w, and_false, false_and, ↓reduceIte]
          exact q2 (by omega)
  · exact hr.thr
theorem o_type {f : Int} {c m : ZS} (hR : zR c m) (h : zTy c m) : zBo zTy (f_w_type [f] c) (f_m_type [f] m) := by
  obtain ⟨⟨a1, a2, a3⟩, -⟩ := id hR
  obtain ⟨l, ⟨t0, t1, t2⟩, ty⟩ := id h
  show zBo zTy (e_try (f_x_type [f] c) (fun v1 S1 => ((0, [0]), e_upd S1 r_out 0 0 0 v1)) [(0, 1), (2, 2)]) (f_m_type [f] m)
  have hw : e_wr (c r_x_typedCount 0 0 0 + 1) = c r_x_typedCount 0 0 0 + 1 := e_wr_id (by omega) (by omega)
  unfold f_x_type f_m_type
  dsimp only
  rw [q_film a1 (by omega), q_noFilm (by omega) (by omega), a3]
  by_cases hf : 0 ≤ f ∧ f < c r_x_filmCount 0 0 0
  · rw [if_pos hf, if_pos hf, e_b_ok]
    simp (decide := true) only [zb_n, zb_d, ↓reduceIte, Int.reduceEq, t2, e_us, hw]
    by_cases q : c r_x_typedCount 0 0 0 = 9
    · simp (decide := true) only [if_pos q, if_neg (show ¬ c r_x_typedCount 0 0 0 < 9 by omega)]
      exact ⟨2, 0, _, _, rfl, rfl, h.thr.thr, e_us, fun q => absurd q (by decide)⟩
    · simp (decide := true) only [if_neg q, if_pos (show c r_x_typedCount 0 0 0 < 9 by omega)]
      refine ⟨0, _, _, _, rfl, rfl, zTy.out ⟨?_, ?_, fun k k0 k1 => ?_⟩, by simp (decide := true) only [e_un, e_us], fun _ => e_us⟩
      · simp (decide := true) only [e_un]
        exact l
      · simp (decide := true) only [e_us]
        exact ⟨by omega, by omega, trivial⟩
      · simp (decide := true) only [e_us] at k1
        simp (decide := true) only [e_un, e_ur]
        by_cases w : k = c r_x_typedCount 0 0 0
        · simp (decide := true) only [w, and_self, ↓reduceIte, true_and]
          exact hf
        · simp only [w, and_false, false_and, ↓reduceIte]
          exact ty k k0 (by omega)
  · rw [if_neg hf, if_neg hf, e_b_x (by decide) (by decide)]
    simp (decide := true) only [zb_n, zb_d, ↓reduceIte]
    exact ⟨1, 0, _, _, rfl, rfl, h.thr, e_us, fun q => absurd q (by decide)⟩
/-- a row of hours is filled from k on -/
theorem q_jfill {s n : Int} : ∀ (t : Nat) (k : Int) (S : ZS), 0 ≤ k → k + t = 51 → ∃ S', g_m_juror ((1080, [s, n, k]), S) = ((0, [n]), e_upd S' r_m_jurorMany 0 0 s (e_wr (S r_m_jurorMany 0 0 s + 1))) ∧ (∀ r, (r == r_m_sawAt_r_r) = false → S' r = S r) ∧ ∀ a b x, S' r_m_sawAt_r_r a b x = if a = s ∧ b = n ∧ k ≤ x ∧ x ≤ 50 then -1 else S r_m_sawAt_r_r a b x := by
  intro t
  induction t with
  | zero =>
    intro k S k0 k1
    refine ⟨S, ?_, fun _ _ => rfl, fun a b x => by rw [if_neg (fun z => by omega)]⟩
    rw [g_m_juror_80, zb_d, if_pos (by omega)]
  | succ t ih =>
    intro k S k0 k1
    have hk : e_wr (k + 1) = k + 1 := e_wr_id (by omega) (by omega)
    obtain ⟨S', h1, h2, h3⟩ := ih (k + 1) (e_upd S r_m_sawAt_r_r s n k (-1)) (by omega) (by omega)
    refine ⟨S', ?_, fun r hr => ?_, fun a b x => ?_⟩
    · rw [g_m_juror_80, zb_d, if_neg (by omega), hk, h1, e_un (by decide)]
    · rw [h2 r hr]
      funext a b d
      exact e_un hr
    · rw [h3, e_ur]
      by_cases w : a = s ∧ b = n ∧ k ≤ x ∧ x ≤ 50
      · rw [if_pos w]
        by_cases v : x = k
        · rw [if_neg (fun z => by omega), if_pos ⟨w.1, w.2.1, v⟩]
        · rw [if_pos ⟨w.1, w.2.1, by omega, by omega⟩]
      · rw [if_neg w, if_neg (fun z => w ⟨z.1, z.2.1, by omega, by omega⟩), if_neg (fun z => w ⟨z.1, z.2.1, by omega, by omega⟩)]
theorem o_juror {s x : Int} {c m : ZS} (hS : zRu c m) (h : zJu c m) (hA : zSa c m) : zBo (zAnd zJu zSa) (f_w_juror [s, x] c) (f_m_juror [s, x] m) := by
  obtain ⟨⟨d1, d2, d3⟩, -⟩ := id hS
  show zBo (zAnd zJu zSa) (e_try (f_x_juror [s, x] c) (fun v1 S1 => ((0, [0]), e_upd S1 r_out 0 0 0 v1)) [(0, 1), (1, 2), (2, 3)]) (g_m_juror ((1000, [s, x]), m))
  rw [g_m_juror_0]
  unfold f_x_juror f_Section_addJuror
  dsimp only
  rw [q_section d1 (by omega), q_noSection (by omega) (by omega), d3]
  by_cases hs : 0 ≤ s ∧ s < c r_x_sectionCount 0 0 0
  · obtain ⟨⟨j0, j1, j2⟩, jl⟩ := h s hs.1 (by omega)
    have hw : e_wr (c r_Section_jurorCount s 0 0 + 1) = c r_Section_jurorCount s 0 0 + 1 := e_wr_id (by omega) (by omega)
    have hw2 : e_wr (c r_Section_jurorCount s 0 0 + 1 - 1) = c r_Section_jurorCount s 0 0 := by rw [e_wr_id (by omega) (by omega), Int.add_sub_cancel]
    rw [if_pos hs, if_pos hs, e_b_ok]
    simp (decide := true) only [zb_n, zb_d, ↓reduceIte, Int.reduceEq, q_within, q_isIn, j2, e_us, hw, hw2, e_bnd]
    by_cases hx : 0 ≤ x ∧ x ≤ 9
    · by_cases q : c r_Section_jurorCount s 0 0 = 5
      · simp (decide := true) only [if_pos hx, if_pos q, if_neg (show ¬ c r_Section_jurorCount s 0 0 < 5 by omega), ↓reduceIte, Int.reduceEq]
        exact ⟨3, 0, _, _, rfl, rfl, ⟨h.thr.thr.thr, hA.thr.thr.thr⟩, e_us, fun q => absurd q (by decide)⟩
      · simp (decide := true) only [if_pos hx, if_neg q, if_pos (show c r_Section_jurorCount s 0 0 < 5 by omega), ↓reduceIte, Int.reduceEq]
        obtain ⟨M, p1, p2, p3⟩ := q_jfill (s := s) (n := c r_Section_jurorCount s 0 0) 51 0 (e_upd (e_upd (e_upd (e_upd m r_m_thrown 0 0 0 0) r_m_thrown 0 0 0 0) r_m_thrown 0 0 0 0) r_m_jurorLands_r s 0 (c r_Section_jurorCount s 0 0) x) (Int.le_refl _) (by decide)
        rw [p1]
        simp (decide := true) only [e_un, j2, hw]
        have q1 : M r_m_jurorMany = m r_m_jurorMany := by
          rw [p2 _ (by decide)]
          funext a b d
          simp (decide := true) only [e_un]
        have q2 : ∀ a b d, M r_m_jurorLands_r a b d = if a = s ∧ b = 0 ∧ d = c r_Section_jurorCount s 0 0 then x else m r_m_jurorLands_r a b d := fun a b d => by
          rw [p2 _ (by decide), e_ur]
          simp (decide := true) only [e_un]
        have q3 : ∀ a b d, M r_m_sawAt_r_r a b d = if a = s ∧ b = c r_Section_jurorCount s 0 0 ∧ 0 ≤ d ∧ d ≤ 50 then -1 else m r_m_sawAt_r_r a b d := fun a b d => by
          rw [p3]
          simp (decide := true) only [e_un]
        have q4 : M r_m_thrown 0 0 0 = 0 := by
          rw [p2 _ (by decide), e_un (by decide), e_us]
        refine ⟨0, _, _, _, rfl, rfl, ⟨zJu.out fun t t0 t1 => ?_, zSa.out fun t j t0 t1 i0 i1 => ?_⟩, by rw [e_un (by decide), q4], fun _ => e_us⟩
        · obtain ⟨⟨y0, y1, y2⟩, yl⟩ := h t t0 t1
          simp (decide := true) only [e_un, e_ur, q1, q2]
          by_cases w : t = s
          · subst w
            simp (decide := true) only [and_self, ↓reduceIte, true_and]
            refine ⟨⟨by omega, by first | omega | exact ⟨by omega, trivial⟩ | exact ⟨by omega, rfl⟩⟩, fun j z0 z1 => ?_⟩
            by_cases v : j = c r_Section_jurorCount t 0 0
            · rw [if_pos v, if_pos ⟨v, trivial⟩]
            · rw [if_neg v, if_neg (fun z => v z.1)]
              exact yl j z0 (by omega)
          · simp only [w, and_false, false_and, ↓reduceIte]
            exact ⟨⟨y0, y1, y2⟩, yl⟩
        · obtain ⟨y1, y2, y3⟩ := hA t j t0 t1 i0 i1
          simp (decide := true) only [e_un, e_ur, q3]
          by_cases w : t = s
          · subst w
            simp (decide := true) only [and_self, ↓reduceIte, true_and]
            refine ⟨y1, fun z => y2 (by omega), fun z => ?_⟩
            by_cases v : j = c r_Section_jurorCount t 0 0
            · have v2 := y2 (by omega)
              rw [v2]
              refine ⟨fun u u1 u2 u3 => ?_, fun u => absurd u (by decide)⟩
              rw [if_pos ⟨v, u2, u3⟩]
            · obtain ⟨y4, y5⟩ := y3 (by omega)
              refine ⟨fun u u1 u2 u3 => ?_, fun u => ?_⟩
              · rw [if_neg (fun z => v z.1)]
                exact y4 u u1 u2 u3
              · rw [if_neg (fun z => v z.1)]
                exact y5 u
          · simp only [w, and_false, false_and, ↓reduceIte]
            exact ⟨y1, y2, y3⟩
    · simp (decide := true) only [if_neg hx, ↓reduceIte, Int.reduceEq]
      exact ⟨2, 0, _, _, rfl, rfl, ⟨h.thr.thr, hA.thr.thr⟩, e_us, fun q => absurd q (by decide)⟩
  · rw [if_neg hs, if_neg hs, e_b_x (by decide) (by decide)]
    simp (decide := true) only [zb_n, zb_d, ↓reduceIte]
    exact ⟨1, 0, _, _, rfl, rfl, ⟨h.thr, hA.thr⟩, e_us, fun q => absurd q (by decide)⟩
theorem q_countSeen {c m : ZS} (hR : zR c m) (hF : zFs c m) (hN : zSn c m) {s j : Int} (s0 : 0 ≤ s) (s1 : s < 5) (j0 : 0 ≤ j) (j1 : j < 5) : ∃ v, f_x_countSeen [s, s, j] c = ((0, [v]), c) ∧ g_m_see ((1145, [s, j, 0, 0]), m) = ((0, [v]), m) := by
  obtain ⟨⟨a1, a2, a3⟩, -⟩ := id hR
  show ∃ v, g_x_countSeen ((1000, [s, s, j]), c) = ((0, [v]), c) ∧ _
  rw [g_x_countSeen_0]
  refine z_sync (n := c r_x_filmCount 0 0 0) (A := fun (a : Int) k => g_x_countSeen ((1005, [s, s, j, a, k]), c)) (B := fun (b : Int) k => g_m_see ((1145, [s, j, b, k]), m)) (R := fun k a b => a = b ∧ e_wr b = b) (Goal := fun A B => ∃ v, A = ((0, [v]), c) ∧ B = ((0, [v]), m)) ?_ ?_ (c r_x_filmCount 0 0 0).toNat 0 0 0 (Int.le_refl _) (by omega) ⟨rfl, e_wr_id (by omega) (by omega)⟩
  · rintro a b ⟨e1, e2⟩
    subst e1
    refine ⟨a, ?_, ?_⟩
    · show g_x_countSeen ((1005, [s, s, j, a, c r_x_filmCount 0 0 0]), c) = _
      rw [g_x_countSeen_5, zb_d, if_pos (Int.le_refl _)]
    · show g_m_see ((1145, [s, j, a, c r_x_filmCount 0 0 0]), m) = _
      rw [g_m_see_145, zb_d, if_pos (by omega)]
  · rintro k a b k0 k1 ⟨e1, e2⟩
    subst e1
    have hk : e_wr (k + 1) = k + 1 := e_wr_id (by omega) (by omega)
    have e4 := (hF.1 k k0 k1).2.2.2
    have e5 := hN s j k s0 s1 j0 j1 k0 (by omega)
    have eC := g_x_countSeen_5 (x1 := s) (x2 := s) (x3 := j) (x4 := a) (x5 := k) (S := c)
    rw [zb_d, if_neg (by omega), zb_n, zb_d, hk] at eC
    have eM := g_m_see_145 (x1 := s) (x2 := j) (x3 := a) (x4 := k) (S := m)
    rw [zb_d, if_neg (by omega), zb_n, zb_d, hk, e4, e5, Int.add_zero, e2] at eM
    by_cases q : c r_Film_section k 0 0 = s
    · rw [if_pos q] at eC eM
      by_cases q2 : c r_Juror_hasSeen s j k = 0
      · rw [if_pos q2] at eC eM
        exact ⟨a, a, eC, eM, rfl, e2⟩
      · rw [if_neg q2] at eC eM
        exact ⟨_, _, eC, eM, rfl, e_wr_wr⟩
    · rw [if_neg q] at eC eM
      exact ⟨a, a, eC, eM, rfl, e2⟩
theorem o_see {s j i : Int} {c m : ZS} (hR : zR c m) (hF : zFs c m) (hh : zHr c m) (hw : zSw c m) (hU : zRu c m) (hJ : zJu c m) (hN : zSn c m) (hA : zSa c m) : zBo (zAnd zSn zSa) (f_w_see [s, j, i] c) (f_m_see [s, j, i] m) := by
  obtain ⟨⟨d1, d2, d3⟩, -⟩ := id hU
  obtain ⟨⟨n0, n1, n2⟩, sw, -⟩ := id hw
  obtain ⟨x1, x2, x3⟩ := id hh
  show zBo (zAnd zSn zSa) (e_try (f_x_see [s, j, i] c) (fun v1 S1 => ((0, [0]), e_upd S1 r_out 0 0 0 v1)) [(0, 1), (3, 2)]) (g_m_see ((1000, [s, j, i]), m))
  rw [g_m_see_0, q_noJuror (by omega) (by omega) (fun a b => by have := (hJ s a (by omega)).1; omega), q_noShow (by omega) (by omega), d3, n2]
  unfold f_x_see
  dsimp only
  rw [q_section d1 (by omega)]
  by_cases hs : 0 ≤ s ∧ s < c r_x_sectionCount 0 0 0
  · obtain ⟨⟨j0, j1, j2⟩, jl⟩ := hJ s hs.1 (by omega)
    rw [if_pos hs, e_b_ok, q_juror j0 (by omega), j2]
    by_cases hj : 0 ≤ j ∧ j < c r_Section_jurorCount s 0 0
    · rw [if_pos hj, if_pos ⟨hs, hj⟩, e_b_ok, q_show n0 (by omega)]
      by_cases hi : 0 ≤ i ∧ i < c r_Grid_showCount 0 0 0
      · rw [if_pos hi, if_pos hi, e_b_ok]
        have hst := (q_state hw.thr hF.thr hh.thr hi.1 hi.2 (m := e_upd m r_m_thrown 0 0 0 0)).1
        obtain ⟨⟨f1, f2, f3⟩, -⟩ := sw i hi.1 hi.2
        have f4 := (hF.1 _ f2 f3).2.2.2
        have a1 := hR.1
        simp (decide := true) only [zb_n, zb_d, ↓reduceIte, Int.reduceEq, hst, f1, f4, x3]
        have hbad : zBo (zAnd zSn zSa) (e_try ((4, []), c) (fun v1 S1 => ((0, [0]), e_upd S1 r_out 0 0 0 v1)) [(0, 1), (3, 2)]) ((0, [0]), e_upd (e_upd m r_m_thrown 0 0 0 0) r_m_thrown 0 0 0 2) := ⟨2, 0, _, _, rfl, rfl, ⟨hN.thr.thr, hA.thr.thr⟩, e_us, fun q => absurd q (by decide)⟩
        by_cases q1 : v_Grid_stateOf i c = 110
        · by_cases q2 : c r_Film_section (c r_Show_film i 0 0) 0 0 = s
          · simp only [if_pos q1, if_pos q2]
            obtain ⟨y1, y2, y3⟩ := hA s j hs.1 (by omega) hj.1 (by omega)
            obtain ⟨y4, y5⟩ := y3 hj.2
            unfold v_Juror_sawAnother
            simp only [zb_n, zb_d]
            have main : zBo (zAnd zSn zSa) (e_try (e_bind (f_Juror_look [s, j, i, c r_Show_film i 0 0, c r_Grid_hour 0 0 0] c) (fun v4 S4 => (e_bind (f_x_countSeen [s, s, j] S4) (fun v5 S5 => ((0, [v5]), S5))))) (fun v1 S1 => ((0, [0]), e_upd S1 r_out 0 0 0 v1)) [(0, 1), (3, 2)]) (g_m_see ((1145, [s, j, 0, 0]), (e_upd (e_upd (e_upd (e_upd m r_m_thrown 0 0 0 0) r_m_thrown 0 0 0 0) r_m_sawAt_r_r s j (c r_Grid_hour 0 0 0) i) r_m_haveSeen_r_r s j (c r_Show_film i 0 0) (e_nar 1 1)))) := by
              unfold f_Juror_look
              dsimp only
              rw [e_bnd0, e_nb1]
              have hN2 : zSn (e_upd (e_upd (e_upd c r_Juror_lastHour s j 0 (c r_Grid_hour 0 0 0)) r_Juror_lastShow s j 0 i) r_Juror_hasSeen s j (c r_Show_film i 0 0) 1) (e_upd (e_upd (e_upd (e_upd m r_m_thrown 0 0 0 0) r_m_thrown 0 0 0 0) r_m_sawAt_r_r s j (c r_Grid_hour 0 0 0) i) r_m_haveSeen_r_r s j (c r_Show_film i 0 0) 1) := fun t u g t0 t1 u0 u1 g0 g1 => by
                simp (decide := true) only [e_un, e_ur]
                rw [hN t u g t0 t1 u0 u1 g0 g1]
              have hA2 : zSa (e_upd (e_upd (e_upd c r_Juror_lastHour s j 0 (c r_Grid_hour 0 0 0)) r_Juror_lastShow s j 0 i) r_Juror_hasSeen s j (c r_Show_film i 0 0) 1) (e_upd (e_upd (e_upd (e_upd m r_m_thrown 0 0 0 0) r_m_thrown 0 0 0 0) r_m_sawAt_r_r s j (c r_Grid_hour 0 0 0) i) r_m_haveSeen_r_r s j (c r_Show_film i 0 0) 1) := fun t u t0 t1 u0 u1 => by
                obtain ⟨z1, z2, z3⟩ := hA t u t0 t1 u0 u1
                simp (decide := true) only [e_un, e_ur]
                by_cases w : t = s ∧ u = j
                · obtain ⟨w1, w2⟩ := w
                  subst w1
                  subst w2
                  simp (decide := true) only [and_self, ↓reduceIte, true_and]
                  refine ⟨⟨by omega, Int.le_refl _⟩, fun z => by omega, fun _ => ⟨fun y p1 p2 p3 => ?_, fun _ => hi.1⟩⟩
                  rw [if_neg (by omega)]
                  exact y4 y (by omega) p2 p3
                · have w' : ∀ {z : Prop}, ¬ (t = s ∧ u = j ∧ z) := fun {z} y => w ⟨y.1, y.2.1⟩
                  simp only [w', ↓reduceIte]
                  exact ⟨z1, z2, z3⟩
              have hR2 := zR_rel.uc (zR_rel.uc (zR_rel.uc (zR_rel.um (zR_rel.um hR.thr.thr (by decide) : zR c (e_upd (e_upd (e_upd m r_m_thrown 0 0 0 0) r_m_thrown 0 0 0 0) r_m_sawAt_r_r s j (c r_Grid_hour 0 0 0) i)) (by decide) : zR c (e_upd (e_upd (e_upd (e_upd m r_m_thrown 0 0 0 0) r_m_thrown 0 0 0 0) r_m_sawAt_r_r s j (c r_Grid_hour 0 0 0) i) r_m_haveSeen_r_r s j (c r_Show_film i 0 0) 1)) (by decide) : zR (e_upd c r_Juror_lastHour s j 0 (c r_Grid_hour 0 0 0)) _) (by decide) : zR (e_upd (e_upd c r_Juror_lastHour s j 0 (c r_Grid_hour 0 0 0)) r_Juror_lastShow s j 0 i) _) (by decide : zRC.contains r_Juror_hasSeen = false) (i := s) (j := j) (k := c r_Show_film i 0 0) (z := 1)
              have hF2 := zFs_rel.uc (zFs_rel.uc (zFs_rel.uc (zFs_rel.um (zFs_rel.um hF.thr.thr (by decide) : zFs c (e_upd (e_upd (e_upd m r_m_thrown 0 0 0 0) r_m_thrown 0 0 0 0) r_m_sawAt_r_r s j (c r_Grid_hour 0 0 0) i)) (by decide) : zFs c (e_upd (e_upd (e_upd (e_upd m r_m_thrown 0 0 0 0) r_m_thrown 0 0 0 0) r_m_sawAt_r_r s j (c r_Grid_hour 0 0 0) i) r_m_haveSeen_r_r s j (c r_Show_film i 0 0) 1)) (by decide) : zFs (e_upd c r_Juror_lastHour s j 0 (c r_Grid_hour 0 0 0)) _) (by decide) : zFs (e_upd (e_upd c r_Juror_lastHour s j 0 (c r_Grid_hour 0 0 0)) r_Juror_lastShow s j 0 i) _) (by decide : zFsC.contains r_Juror_hasSeen = false) (i := s) (j := j) (k := c r_Show_film i 0 0) (z := 1)
              obtain ⟨v, p1, p2⟩ := q_countSeen hR2 hF2 hN2 hs.1 (show s < 5 by omega) hj.1 (show j < 5 by omega)
              rw [p1, e_bnd, p2]
              exact ⟨0, _, _, _, rfl, rfl, ⟨hN2.out, hA2.out⟩, by simp (decide := true) only [e_un, e_us], fun _ => e_us⟩
            by_cases q3 : c r_Juror_lastHour s j 0 = c r_Grid_hour 0 0 0
            · have q4 := y5 (by omega)
              rw [q3] at q4
              rw [q4.1, if_pos q3, if_neg (show ¬ c r_Juror_lastShow s j 0 < 0 by omega)]
              by_cases q5 : c r_Juror_lastShow s j 0 = i
              · rw [if_pos q5, if_pos q5, if_pos rfl]
                exact main
              · rw [if_neg q5, if_neg q5, if_neg (by decide)]
                exact hbad
            · rw [y4 _ (by omega) x1 x2, if_neg q3, if_pos rfl, if_pos (by decide)]
              exact main
          · simp only [if_pos q1, if_neg q2]
            exact hbad
        · simp only [if_neg q1]
          exact hbad
      · rw [if_neg hi, if_neg hi, e_b_x (by decide) (by decide)]
        simp (decide := true) only [zb_n, zb_d, ↓reduceIte]
        exact ⟨1, 0, _, _, rfl, rfl, ⟨hN.thr, hA.thr⟩, e_us, fun q => absurd q (by decide)⟩
    · rw [if_neg hj, if_neg (fun z => hj z.2), e_b_x (by decide) (by decide)]
      simp (decide := true) only [zb_n, zb_d, ↓reduceIte]
      exact ⟨1, 0, _, _, rfl, rfl, ⟨hN.thr, hA.thr⟩, e_us, fun q => absurd q (by decide)⟩
  · rw [if_neg hs, if_neg (fun z => hs z.1), e_b_x (by decide) (by decide)]
    simp (decide := true) only [zb_n, zb_d, ↓reduceIte]
    exact ⟨1, 0, _, _, rfl, rfl, ⟨hN.thr, hA.thr⟩, e_us, fun q => absurd q (by decide)⟩
