/-! rank, wipe: both sides, the whole call -/
theorem q_vote {s j n : Int} {c : ZS} : ∀ (t : Nat) (k : Int) (S : ZS), 0 ≤ k → k + t = n → n ≤ 100 → S r_Juror_ballotSize s j 0 = n → (∀ r, (r == r_Juror_ballot) = false → S r = c r) → (∀ a b y, S r_Juror_ballot a b y = if a = s ∧ b = j ∧ 0 ≤ y ∧ y < k then c r_x_typed 0 0 y else c r_Juror_ballot a b y) → ∃ S', g_Juror_vote ((1017, [s, j, k]), S) = ((0, []), S') ∧ (∀ r, (r == r_Juror_ballot) = false → S' r = c r) ∧ ∀ a b y, S' r_Juror_ballot a b y = if a = s ∧ b = j ∧ 0 ≤ y ∧ y < n then c r_x_typed 0 0 y else c r_Juror_ballot a b y := by
  intro t
  induction t with
  | zero =>
    intro k S k0 k1 n100 hS fr h
    have e : k = n := by omega
    rw [e] at h
    exact ⟨S, by rw [g_Juror_vote_17, zb_d, hS, if_pos (by omega)], fr, h⟩
  | succ t ih =>
    intro k S k0 k1 n100 hS fr h
    have hk : e_wr (k + 1) = k + 1 := e_wr_id (by omega) (by omega)
    rw [g_Juror_vote_17, zb_d, hS, if_neg (by omega), hk, fr r_x_typed (by decide)]
    refine ih (k + 1) _ (by omega) (by omega) n100 (by rw [e_un (by decide)]; exact hS) (fun r hr => ?_) (fun a b y => ?_)
    · rw [← fr r hr]
      funext x y z
      exact e_un hr
    · rw [e_ur, h]
      by_cases q : a = s ∧ b = j ∧ y = k
      · rw [if_pos q, if_pos ⟨q.1, q.2.1, by omega, by omega⟩, q.2.2]
      · rw [if_neg q]
        by_cases w : a = s ∧ b = j ∧ 0 ≤ y ∧ y < k
        · rw [if_pos w, if_pos ⟨w.1, w.2.1, w.2.2.1, by omega⟩]
        · rw [if_neg w, if_neg (fun z => w ⟨z.1, z.2.1, z.2.2.1, by
            have : y ≠ k := fun v => q ⟨z.1, z.2.1, v⟩
            omega⟩)]
theorem q_ballots {c m : ZS} (hJ : zJu c m) (hB : zBa c m) {s : Int} (s0 : 0 ≤ s) (s1 : s < 5) : ∃ v, f_Section_countBallots [s] c = ((0, [v]), c) ∧ f_m_ballotsOf [s] m = ((0, [v]), m) := by
  obtain ⟨⟨u0, u1, u2⟩, -⟩ := hJ s s0 s1
  show ∃ v, g_Section_countBallots ((1000, [s]), c) = ((0, [v]), c) ∧ g_m_ballotsOf ((1000, [s]), m) = ((0, [v]), m)
  rw [g_Section_countBallots_0, g_m_ballotsOf_0]
  refine z_sync (n := c r_Section_jurorCount s 0 0) (A := fun (a : Int) k => g_Section_countBallots ((1004, [s, a, k]), c)) (B := fun (b : Int) k => g_m_ballotsOf ((1004, [s, b, k]), m)) (R := fun k a b => a = b ∧ e_wr b = b) (Goal := fun A B => ∃ v, A = ((0, [v]), c) ∧ B = ((0, [v]), m)) ?_ ?_ (c r_Section_jurorCount s 0 0).toNat 0 0 0 (Int.le_refl _) (by omega) ⟨rfl, e_wr_id (by omega) (by omega)⟩
  · rintro a b ⟨e1, e2⟩
    subst e1
    refine ⟨a, ?_, ?_⟩
    · show g_Section_countBallots ((1004, [s, a, c r_Section_jurorCount s 0 0]), c) = _
      rw [g_Section_countBallots_4, zb_d, if_pos (Int.le_refl _)]
    · show g_m_ballotsOf ((1004, [s, a, c r_Section_jurorCount s 0 0]), m) = _
      rw [g_m_ballotsOf_4, zb_d, if_pos (by omega)]
  · rintro k a b k0 k1 ⟨e1, e2⟩
    subst e1
    have hk : e_wr (k + 1) = k + 1 := e_wr_id (by omega) (by omega)
    have e4 := (hB s k s0 s1 k0 (by omega)).1.2.2
    have eC := g_Section_countBallots_4 (x1 := s) (x2 := a) (x3 := k) (S := c)
    rw [zb_d, if_neg (by omega), zb_d, hk] at eC
    have eM := g_m_ballotsOf_4 (x1 := s) (x2 := a) (x3 := k) (S := m)
    rw [zb_d, if_neg (by omega), zb_d, hk, e4, Int.add_zero, e2] at eM
    by_cases q : c r_Juror_ballotSize s k 0 ≤ 0
    · rw [if_pos q] at eC eM
      exact ⟨a, a, eC, eM, rfl, e2⟩
    · rw [if_neg q] at eC eM
      exact ⟨_, _, eC, eM, rfl, e_wr_wr⟩
theorem o_rank {s j : Int} {c m : ZS} (hR : zR c m) (hF : zFs c m) (hU : zRu c m) (hT : zTy c m) (hJ : zJu c m) (hN : zSn c m) (hB : zBa c m) : zBo (zAnd zTy zBa) (f_w_rank [s, j] c) (f_m_rank [s, j] m) := by
  obtain ⟨⟨d1, d2, d3⟩, -⟩ := id hU
  obtain ⟨tl, ⟨t0, t1, t2⟩, ty⟩ := id hT
  have a1 := hR.1
  show zBo (zAnd zTy zBa) (e_try (f_x_rank [s, j] c) (fun v1 S1 => ((0, [0]), e_upd S1 r_out 0 0 0 v1)) [(0, 1), (3, 2)]) (g_m_rank ((1000, [s, j]), m))
  rw [g_m_rank_0, q_noJuror (by omega) (by omega) (fun a b => by have := (hJ s a (by omega)).1; omega), d3]
  unfold f_x_rank
  dsimp only
  rw [q_section d1 (by omega)]
  by_cases hs : 0 ≤ s ∧ s < c r_x_sectionCount 0 0 0
  · obtain ⟨⟨j0, j1, j2⟩, jl⟩ := hJ s hs.1 (by omega)
    rw [if_pos hs, e_b_ok, q_juror j0 (by omega), j2]
    by_cases hj : 0 ≤ j ∧ j < c r_Section_jurorCount s 0 0
    · rw [if_pos hj, if_pos ⟨hs, hj⟩, e_b_ok, q_ballotC hR hT, e_bnd]
      simp (decide := true) only [zb_n, zb_d, ↓reduceIte, Int.reduceEq, t2]
      have hm1 : zR c (e_upd m r_m_thrown 0 0 0 0) := hR.thr
      have b0 := q_ballotM hm1 hF.thr hT.thr hJ.thr hN.thr hs.1 (show s < 5 by omega) hj.1 hj.2 zbit0
      have b1 := q_ballotM hm1 hF.thr hT.thr hJ.thr hN.thr hs.1 (show s < 5 by omega) hj.1 hj.2 zbit1
      have eM : (if c r_x_typedCount 0 0 0 ≤ 0 then g_m_rank ((1032, [s, j, 0, 0]), e_upd m r_m_thrown 0 0 0 0) else g_m_rank ((1032, [s, j, 1, 0]), e_upd m r_m_thrown 0 0 0 0)) = g_m_rank ((1032, [s, j, zb (zrkC c s j), c r_x_filmCount 0 0 0]), e_upd m r_m_thrown 0 0 0 0) := by
        rw [q_ballotS hR hT, b0, b1]
        by_cases q : c r_x_typedCount 0 0 0 ≤ 0
        · rw [if_pos q, decide_eq_false (by omega), ite_self]
          rfl
        · rw [if_neg q, decide_eq_true (by omega)]
          cases zany (zrkM c s j) (c r_x_filmCount 0 0 0).toNat 0 <;> rfl
      rw [eM]
      have eE := g_m_rank_32 (x1 := s) (x2 := j) (x3 := zb (zrkC c s j)) (x4 := c r_x_filmCount 0 0 0) (S := e_upd m r_m_thrown 0 0 0 0)
      rw [zb_d, if_pos (by rw [e_un (by decide)]; omega), zb_n] at eE
      rw [eE]
      cases hz : zrkC c s j
      · rw [if_pos (by decide), if_pos (by decide)]
        exact ⟨2, 0, _, _, rfl, rfl, ⟨hT.thr.thr, hB.thr.thr⟩, e_us, fun q => absurd q (by decide)⟩
      · rw [if_neg (by decide), if_neg (by decide)]
        rw [q_ballotS hR hT, Bool.and_eq_true, decide_eq_true_eq, Bool.not_eq_true'] at hz
        have inj := zrkM_inj hT hz.2
        have hsz : (if (if 9 < c r_x_typed_len 0 0 0 then (9 : Int) else c r_x_typed_len 0 0 0) < c r_x_typedCount 0 0 0 then (if 9 < c r_x_typed_len 0 0 0 then (9 : Int) else c r_x_typed_len 0 0 0) else c r_x_typedCount 0 0 0) = c r_x_typedCount 0 0 0 := by
          rw [tl, if_neg (show ¬ (9 : Int) < 9 by decide), if_neg (by omega)]
        obtain ⟨V, p1, p2, p3⟩ := q_vote (s := s) (j := j) (n := c r_x_typedCount 0 0 0) (c := e_upd c r_Juror_ballotSize s j 0 (c r_x_typedCount 0 0 0)) (c r_x_typedCount 0 0 0).toNat 0 _ (Int.le_refl _) (by omega) (by omega) e_us (fun _ _ => rfl) (fun a b y => by rw [if_neg (fun z => by omega)])
        have e1 : f_Juror_vote [s, j, c r_x_typedCount 0 0 0] c = ((0, []), V) := by
          show g_Juror_vote ((1000, [s, j, c r_x_typedCount 0 0 0]), c) = _
          rw [g_Juror_vote_0, hsz]
          exact p1
        rw [e1, e_bnd0]
        have v1 : ∀ r, (r == r_Juror_ballot) = false → (r == r_Juror_ballotSize) = false → V r = c r := fun r h1 h2 => by
          rw [p2 r h1]
          funext a b d
          exact e_un h2
        have v2 : ∀ a b, V r_Juror_ballotSize a b 0 = if a = s ∧ b = j then c r_x_typedCount 0 0 0 else c r_Juror_ballotSize a b 0 := fun a b => by
          rw [p2 _ (by decide), e_ur]
          by_cases w : a = s ∧ b = j
          · rw [if_pos w, if_pos ⟨w.1, w.2, rfl⟩]
          · rw [if_neg w, if_neg (fun z => w ⟨z.1, z.2.1⟩)]
        have v3 : ∀ a b y, V r_Juror_ballot a b y = if a = s ∧ b = j ∧ 0 ≤ y ∧ y < c r_x_typedCount 0 0 0 then c r_x_typed 0 0 y else c r_Juror_ballot a b y := fun a b y => by
          rw [p3, e_un (by decide), e_un (by decide)]
        have hty : (e_acp (e_upd (e_upd m r_m_thrown 0 0 0 0) r_m_thrown 0 0 0 0) r_m_typed 0 0 0 r_m_ballots_r_r s j 0 9) r_m_typedMany 0 0 0 = c r_x_typedCount 0 0 0 := by
          rw [e_an (by decide), e_un (by decide), e_un (by decide), t2]
        rw [hty]
        have hBa : zBa (e_upd V r_x_typedCount 0 0 0 0) (e_upd (e_upd (e_acp (e_upd (e_upd m r_m_thrown 0 0 0 0) r_m_thrown 0 0 0 0) r_m_typed 0 0 0 r_m_ballots_r_r s j 0 9) r_m_ballotMany_r s 0 j (c r_x_typedCount 0 0 0)) r_m_typedMany 0 0 0 0) := fun t u a0 a1 b0 b1 => by
          obtain ⟨⟨y0, y1, y2⟩, yb, yi⟩ := hB t u a0 a1 b0 b1
          simp (decide := true) only [e_un, e_ur, e_an, v2, v3]
          rw [v1 r_x_filmCount (by decide) (by decide)]
          by_cases w : t = s ∧ u = j
          · obtain ⟨w1, w2⟩ := w
            subst w1
            subst w2
            simp (decide := true) only [and_self, ↓reduceIte, true_and]
            refine ⟨⟨t0, t1, trivial⟩, fun k k0 k1 => ?_, fun k l k0 kl l1 => ?_⟩
            · rw [e_as, if_pos (by omega), if_pos ⟨k0, k1⟩]
              simp (decide := true) only [e_un, Int.sub_zero, Int.add_zero]
              exact ty k k0 k1
            · rw [if_pos ⟨k0, by omega⟩, if_pos ⟨by omega, l1⟩]
              exact inj k l k0 kl l1
          · have w2 : ∀ {z : Prop}, ¬ (t = s ∧ u = j ∧ z) := fun {z} y => w ⟨y.1, y.2.1⟩
            have w3 : ¬ (t = s ∧ True ∧ u = j) := fun y => w ⟨y.1, y.2.2⟩
            have w4 : ∀ y, e_acp (e_upd (e_upd m r_m_thrown 0 0 0 0) r_m_thrown 0 0 0 0) r_m_typed 0 0 0 r_m_ballots_r_r s j 0 9 r_m_ballots_r_r t u y = (e_upd (e_upd m r_m_thrown 0 0 0 0) r_m_thrown 0 0 0 0) r_m_ballots_r_r t u y := fun y => if_neg (fun z => w ⟨z.2.1, z.2.2.1⟩)
            rw [if_neg w, if_neg w3]
            refine ⟨⟨y0, y1, y2⟩, fun k k0 k1 => ?_, fun k l k0 kl l1 => ?_⟩
            · rw [w4, if_neg w2, e_un (by decide), e_un (by decide)]
              exact yb k k0 k1
            · rw [if_neg w2, if_neg w2]
              exact yi k l k0 kl l1
        have hTy : zTy (e_upd V r_x_typedCount 0 0 0 0) (e_upd (e_upd (e_acp (e_upd (e_upd m r_m_thrown 0 0 0 0) r_m_thrown 0 0 0 0) r_m_typed 0 0 0 r_m_ballots_r_r s j 0 9) r_m_ballotMany_r s 0 j (c r_x_typedCount 0 0 0)) r_m_typedMany 0 0 0 0) := by
          refine ⟨?_, ?_, fun k k0 k1 => ?_⟩
          · rw [e_un (by decide), v1 _ (by decide) (by decide)]
            exact tl
          · simp (decide := true) only [e_us]
          · rw [e_us] at k1
            omega
        have hJu : zJu (e_upd V r_x_typedCount 0 0 0 0) (e_upd (e_upd (e_acp (e_upd (e_upd m r_m_thrown 0 0 0 0) r_m_thrown 0 0 0 0) r_m_typed 0 0 0 r_m_ballots_r_r s j 0 9) r_m_ballotMany_r s 0 j (c r_x_typedCount 0 0 0)) r_m_typedMany 0 0 0 0) := by
          unfold zJu
          simp (decide := true) only [e_un, e_an]
          rw [v1 r_Section_jurorCount (by decide) (by decide), v1 r_Juror_land (by decide) (by decide)]
          exact hJ
        obtain ⟨v, c1, c2⟩ := q_ballots hJu hBa hs.1 (show s < 5 by omega)
        rw [c1, e_bnd, c2, e_bnd]
        refine ⟨0, _, _, _, rfl, rfl, ⟨hTy.out, hBa.out⟩, ?_, fun _ => e_us⟩
        simp (decide := true) only [e_un, e_an, e_us]
    · rw [if_neg hj, if_neg (fun z => hj z.2), e_b_x (by decide) (by decide)]
      simp (decide := true) only [zb_n, zb_d, ↓reduceIte]
      exact ⟨1, 0, _, _, rfl, rfl, ⟨hT.thr, hB.thr⟩, e_us, fun q => absurd q (by decide)⟩
  · rw [if_neg hs, if_neg (fun z => hs z.1), e_b_x (by decide) (by decide)]
    simp (decide := true) only [zb_n, zb_d, ↓reduceIte]
    exact ⟨1, 0, _, _, rfl, rfl, ⟨hT.thr, hB.thr⟩, e_us, fun q => absurd q (by decide)⟩
theorem o_wipe {c m : ZS} (hT : zTy c m) : zDi zTy (f_x_wipe [] c) (f_m_wipe [] m) := by
  obtain ⟨tl, ⟨t0, t1, t2⟩, ty⟩ := id hT
  refine ⟨c r_x_typedCount 0 0 0, _, e_upd (e_upd m r_m_thrown 0 0 0 0) r_m_typedMany 0 0 0 0, rfl, ?_, ?_⟩
  · unfold f_m_wipe
    dsimp only
    rw [t2]
  · refine ⟨?_, ?_, fun k k0 k1 => ?_⟩
    · rw [e_un (by decide)]
      exact tl
    · simp (decide := true) only [e_us]
    · rw [e_us] at k1
      omega
