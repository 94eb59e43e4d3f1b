/-! Even scores, scores of films, quarrels: what both sides work out -/
theorem z_sync {α β : Type} {n : Int} {A : α → Int → ZR} {B : β → Int → ZR} {R : Int → α → β → Prop} {Goal : ZR → ZR → Prop} (he : ∀ a b, R n a b → Goal (A a n) (B b n)) (hs : ∀ k a b, 0 ≤ k → k < n → R k a b → ∃ a' b', A a k = A a' (k + 1) ∧ B b k = B b' (k + 1) ∧ R (k + 1) a' b') : ∀ (j : Nat) (k : Int) (a : α) (b : β), 0 ≤ k → k + j = n → R k a b → Goal (A a k) (B b k)
  | 0, k, a, b, h0, h1, h => by
    have e : k = n := by omega
    subst e
    exact he a b h
  | j + 1, k, a, b, h0, h1, h => by
    obtain ⟨a', b', e1, e2, h'⟩ := hs k a b h0 (by omega) h
    rw [e1, e2]
    exact z_sync he hs j (k + 1) a' b' (by omega) (by omega) h'
theorem e_wr_wr {x : Int} : e_wr (e_wr x) = e_wr x := Int.bmod_bmod
theorem zsum_cut {w : Int → Int} : ∀ (a b : Nat) (k : Int), zsum w (a + b) k = zsum w a k + zsum w b (k + a)
  | 0, b, k => by simp [zsum]
  | a + 1, b, k => by
    rw [Nat.add_right_comm, zsum, zsum, zsum_cut a b (k + 1)]
    have e : k + 1 + (a : Int) = k + ((a + 1 : Nat) : Int) := by omega
    rw [e]
    omega
theorem zsum_z {w : Int → Int} : ∀ (j : Nat) (k : Int), (∀ i, k ≤ i → i < k + j → w i = 0) → zsum w j k = 0
  | 0, _, _ => rfl
  | j + 1, k, h => by rw [zsum, h k (Int.le_refl _) (by omega), zsum_z j (k + 1) (fun i a b => h i (by omega) (by omega))]; rfl
def zw (c : ZS) (r g : Int) : Int := if 0 ≤ c r_Readings_marks_r g 0 r then c r_Readings_marks_r g 0 r else 0
def zp (c : ZS) (r g : Int) : Bool := decide (0 ≤ c r_Readings_marks_r g 0 r)
theorem q_evenOf {c m : ZS} (h : zR c m) {f r : Int} (f0 : 0 ≤ f) (f1 : f < c r_x_filmCount 0 0 0) (r0 : 0 ≤ r) (r1 : r < 8) (hs : 0 ≤ c r_Readings_marks_r f 0 r) : f_m_evenOf [f, r] m = ((0, [v_Readings_evenScore f r c]), m) ∧ -3000 ≤ v_Readings_evenScore f r c ∧ v_Readings_evenScore f r c ≤ 3000 := by
  obtain ⟨⟨a1, a2, a3⟩, b, ll, fl, ad, dm, mk, ts⟩ := id h
  have t1 : c r_Readings_toldScores 0 0 r = zcnt (zp c r) 20 0 := (ts r r0 r1).1
  have t2 : c r_Readings_sums 0 0 r = zsum (zw c r) 20 0 := (ts r r0 r1).2
  have hN : (c r_x_filmCount 0 0 0).toNat + (20 - (c r_x_filmCount 0 0 0).toNat) = 20 := by omega
  have hz : ∀ i, c r_x_filmCount 0 0 0 ≤ i → i < 20 → c r_Readings_marks_r i 0 r = -2 := fun i i0 i1 => (mk i r (by omega) i1 r0 r1).2.1 i0
  have z1 : zcnt (zp c r) (c r_x_filmCount 0 0 0).toNat 0 = zcnt (zp c r) 20 0 := by
    have e := zsum_cut (w := fun i => if zp c r i = true then 1 else 0) (c r_x_filmCount 0 0 0).toNat (20 - (c r_x_filmCount 0 0 0).toNat) 0
    rw [hN] at e
    have e0 := zsum_z (w := fun i => if zp c r i = true then 1 else 0) (20 - (c r_x_filmCount 0 0 0).toNat) (0 + ((c r_x_filmCount 0 0 0).toNat : Int)) (fun i i0 i1 => by
      have := hz i (by omega) (by omega)
      simp [zp, this])
    rw [zcnt_sum, zcnt_sum, e, e0, Int.add_zero]
  have z2 : zsum (zw c r) (c r_x_filmCount 0 0 0).toNat 0 = zsum (zw c r) 20 0 := by
    have e := zsum_cut (w := zw c r) (c r_x_filmCount 0 0 0).toNat (20 - (c r_x_filmCount 0 0 0).toNat) 0
    rw [hN] at e
    have e0 := zsum_z (w := zw c r) (20 - (c r_x_filmCount 0 0 0).toNat) (0 + ((c r_x_filmCount 0 0 0).toNat : Int)) (fun i i0 i1 => by
      have := hz i (by omega) (by omega)
      simp [zw, this])
    rw [e, e0, Int.add_zero]
  have key : ∀ (j : Nat) (k s n : Int), 0 ≤ k → k + j = c r_x_filmCount 0 0 0 → s = zsum (zw c r) k.toNat 0 → n = zcnt (zp c r) k.toNat 0 → g_m_evenOf ((1008, [f, r, s, n, k]), m) = ((0, [e_wr (e_wr (m r_m_scores_r f 0 r - e_div (zsum (zw c r) 20 0) (zcnt (zp c r) 20 0)) + 50)]), m) := by
    intro j
    induction j with
    | zero =>
      intro k s n k0 k1 hs hn
      have hk : k = c r_x_filmCount 0 0 0 := by omega
      rw [g_m_evenOf_8, zb_d, if_pos (by omega), hs, hn, hk, z1, z2]
    | succ j ih =>
      intro k s n k0 k1 hs hn
      have e : (k + 1).toNat = k.toNat + 1 := by omega
      have ek : (0 : Int) + (k.toNat : Int) = k := by omega
      have b1 := zsum_le (w := zw c r) (lo := 0) (hi := 100) k.toNat 0 (fun i i0 i1 => by
        have := (mk i r (by omega) (by omega) r0 r1).1
        unfold zw
        split <;> omega)
      have b2 := zcnt_le (zp c r) k.toNat 0
      have b3 : 0 ≤ s ∧ s ≤ 2000 := by omega
      have b4 : 0 ≤ n ∧ n ≤ 20 := by omega
      obtain ⟨m1, m2, m3, m4⟩ := mk k r k0 (by omega) r0 r1
      have hk1 : e_wr (k + 1) = k + 1 := e_wr_id (by omega) (by omega)
      rw [g_m_evenOf_8, zb_d, if_neg (by omega), zb_d, hk1]
      by_cases q : 0 ≤ c r_Readings_marks_r k 0 r
      · have w1 : (if 0 < c r_Readings_marks_r k 0 r then c r_Readings_marks_r k 0 r else 0) = c r_Readings_marks_r k 0 r := by split <;> omega
        have w2 : e_wr (s + c r_Readings_marks_r k 0 r) = s + c r_Readings_marks_r k 0 r := e_wr_id (by omega) (by omega)
        have w3 : e_wr (n + 1) = n + 1 := e_wr_id (by omega) (by omega)
        rw [m3 q, if_neg (by omega), w1, w2, w3]
        refine ih (k + 1) _ _ (by omega) (by omega) ?_ ?_
        · rw [e, zsum_app, ek, hs]
          unfold zw
          rw [if_pos q]
        · rw [e, zcnt_app, ek, hn]
          simp [zp, q]
      · have w1 : (if (0 : Int) < -1 then (-1 : Int) else 0) = 0 := by decide
        have w2 : e_wr (s + 0) = s := by rw [Int.add_zero]; exact e_wr_id (by omega) (by omega)
        have w3 : e_wr (n + 0) = n := by rw [Int.add_zero]; exact e_wr_id (by omega) (by omega)
        rw [m4 (by omega) (by omega), if_pos (by decide), w1, w2, w3]
        refine ih (k + 1) _ _ (by omega) (by omega) ?_ ?_
        · rw [e, zsum_app, ek, hs]
          unfold zw
          rw [if_neg q, Int.add_zero]
        · rw [e, zcnt_app, ek, hn]
          simp [zp, q]
  have n1 : 1 ≤ zcnt (zp c r) 20 0 := by
    have hp : zp c r f = true := by simp [zp, hs]
    have := zcnt_one hp 20 0 f0 (by omega)
    have := zcnt_le (fun i => zp c r i && decide (i ≠ f)) 20 0
    omega
  have s1 := zsum_le (w := zw c r) (lo := 0) (hi := 100) 20 0 (fun i i0 i1 => by
    have := (mk i r (by omega) (by omega) r0 r1).1
    unfold zw
    split <;> omega)
  have hv : v_Readings_evenScore f r c = e_wr (e_wr (c r_Readings_marks_r f 0 r - e_div (zsum (zw c r) 20 0) (zcnt (zp c r) 20 0)) + 50) := by
    unfold v_Readings_evenScore
    rw [zb_n, t1, t2, if_neg (by omega)]
  have hq : 0 ≤ e_div (zsum (zw c r) 20 0) (zcnt (zp c r) 20 0) ∧ e_div (zsum (zw c r) 20 0) (zcnt (zp c r) 20 0) ≤ 2000 := by
    unfold e_div
    rw [Int.tdiv_eq_ediv_of_nonneg (by omega)]
    have d0 : 0 ≤ zsum (zw c r) 20 0 / zcnt (zp c r) 20 0 := Int.ediv_nonneg (by omega) (by omega)
    have d1 : zsum (zw c r) 20 0 / zcnt (zp c r) 20 0 ≤ zsum (zw c r) 20 0 := Int.ediv_le_self _ (by omega)
    rw [e_wr_id (by omega) (by omega)]
    omega
  have mb := (mk f r f0 (by omega) r0 r1).1
  refine ⟨?_, ?_⟩
  · show g_m_evenOf ((1000, [f, r]), m) = _
    rw [g_m_evenOf_0, key (c r_x_filmCount 0 0 0).toNat 0 0 0 (Int.le_refl _) (by omega) rfl rfl, hv, (mk f r f0 (by omega) r0 r1).2.2.1 hs]
  · rw [hv, e_wr_id (x := c r_Readings_marks_r f 0 r - e_div (zsum (zw c r) 20 0) (zcnt (zp c r) 20 0)) (by omega) (by omega), e_wr_id (by omega) (by omega)]
    omega
/-- the score of a film, on both sides -/
theorem q_scoreOf {c m : ZS} (h : zR c m) {f : Int} (f0 : 0 ≤ f) (f1 : f < c r_x_filmCount 0 0 0) : ∃ v, f_Readings_meanOfEven [f] c = ((0, [v]), c) ∧ f_m_scoreOf [f] m = ((0, [v]), m) := by
  obtain ⟨⟨a1, a2, a3⟩, ⟨b1, b2, b3⟩, ll, fl, ad, dm, mk, ts⟩ := id h
  have ht := h.told f0 f1
  show ∃ v, g_Readings_meanOfEven ((1000, [f]), c) = ((0, [v]), c) ∧ g_m_scoreOf ((1000, [f]), m) = ((0, [v]), m)
  rw [g_Readings_meanOfEven_0, g_m_scoreOf_0]
  refine z_sync (n := c r_Readings_readerCount 0 0 0) (A := fun (a : Int × Int) k => g_Readings_meanOfEven ((1007, [f, a.1, a.2, k]), c)) (B := fun (s : Int) k => g_m_scoreOf ((1004, [f, s, k]), m)) (R := fun k a s => a.1 = s ∧ e_wr s = s ∧ a.2 = zcnt (fun k => decide (0 ≤ c r_Readings_marks_r f 0 k)) k.toNat 0) (Goal := fun A B => ∃ v, A = ((0, [v]), c) ∧ B = ((0, [v]), m)) ?_ ?_ (c r_Readings_readerCount 0 0 0).toNat 0 (0, 0) 0 (Int.le_refl _) (by omega) ⟨rfl, e_wr_id (by omega) (by omega), rfl⟩
  · rintro ⟨s, n⟩ s' ⟨e1, e2, e3⟩
    have e1 : s = s' := e1
    have e3 : n = _ := e3
    subst e1
    show ∃ v, g_Readings_meanOfEven ((1007, [f, s, n, c r_Readings_readerCount 0 0 0]), c) = ((0, [v]), c) ∧ g_m_scoreOf ((1004, [f, s, c r_Readings_readerCount 0 0 0]), m) = ((0, [v]), m)
    rw [g_Readings_meanOfEven_7, g_m_scoreOf_4, zb_d, if_pos (Int.le_refl _), zb_d, if_pos (by omega), zb_n, q_scoreMany (by omega) (by omega), ht, e_b_ok]
    by_cases q : n = 0
    · rw [if_pos q, ← e3]
      refine ⟨0, rfl, ?_⟩
      show ((0, [e_div s n]), m) = (((0, [0]) : Nat × List Int), m)
      rw [q]
      have : e_div s 0 = 0 := by
        unfold e_div
        rw [Int.tdiv_zero]
        decide
      rw [this]
    · rw [if_neg q, ← e3]
      exact ⟨_, rfl, rfl⟩
  · rintro k ⟨s, n⟩ s' k0 k1 ⟨e1, e2, e3⟩
    have e1 : s = s' := e1
    have e3 : n = _ := e3
    subst e1
    have ek : (k + 1).toNat = k.toNat + 1 := by omega
    have e0 : (0 : Int) + (k.toNat : Int) = k := by omega
    have b := zcnt_le (fun k => decide (0 ≤ c r_Readings_marks_r f 0 k)) k.toNat 0
    have hk1 : e_wr (k + 1) = k + 1 := e_wr_id (by omega) (by omega)
    obtain ⟨m1, m2, m3, m4⟩ := mk f k f0 (by omega) k0 (by omega)
    by_cases q : 0 ≤ c r_Readings_marks_r f 0 k
    · obtain ⟨v1, -, -⟩ := q_evenOf h f0 f1 k0 (by omega) q
      have hn : e_wr (n + 1) = n + 1 := e_wr_id (by omega) (by omega)
      refine ⟨(e_wr (s + v_Readings_evenScore f k c), n + 1), e_wr (s + v_Readings_evenScore f k c), ?_, ?_, rfl, e_wr_wr, ?_⟩
      · show g_Readings_meanOfEven ((1007, [f, s, n, k]), c) = g_Readings_meanOfEven ((1007, [f, e_wr (s + v_Readings_evenScore f k c), n + 1, k + 1]), c)
        rw [g_Readings_meanOfEven_7, zb_d, if_neg (by omega), zb_d, if_neg (by omega), hk1, hn]
      · show g_m_scoreOf ((1004, [f, s, k]), m) = g_m_scoreOf ((1004, [f, e_wr (s + v_Readings_evenScore f k c), k + 1]), m)
        rw [g_m_scoreOf_4, zb_d, if_neg (by omega), zb_d, m3 q, if_neg (by omega), v1, e_b_ok, hk1]
        rfl
      · show n + 1 = _
        rw [ek, zcnt_app, e0, e3]
        simp [q]
    · refine ⟨(s, n), s, ?_, ?_, rfl, e2, ?_⟩
      · show g_Readings_meanOfEven ((1007, [f, s, n, k]), c) = g_Readings_meanOfEven ((1007, [f, s, n, k + 1]), c)
        rw [g_Readings_meanOfEven_7, zb_d, if_neg (by omega), zb_d, if_pos (by omega), hk1]
      · show g_m_scoreOf ((1004, [f, s, k]), m) = g_m_scoreOf ((1004, [f, s, k + 1]), m)
        rw [g_m_scoreOf_4, zb_d, if_neg (by omega), zb_d, m4 (by omega) f1, if_pos (by decide), Int.add_zero, e2, hk1]
      · show n = _
        rw [ek, zcnt_app, e0, e3]
        simp [q]
/-- whether a film is in quarrel, on both sides -/
theorem q_quarrel {c m : ZS} (h : zR c m) {f : Int} (f0 : 0 ≤ f) (f1 : f < c r_x_filmCount 0 0 0) : ∃ v, f_Readings_spread [f] c = ((0, [v]), c) ∧ f_m_isQuarrel [f] m = ((0, [if v ≤ 30 then 0 else 1]), m) := by
  obtain ⟨⟨a1, a2, a3⟩, ⟨b1, b2, b3⟩, ll, fl, ad, dm, mk, ts⟩ := id h
  have ht := h.told f0 f1
  show ∃ v, g_Readings_spread ((1000, [f]), c) = ((0, [v]), c) ∧ g_m_isQuarrel ((1000, [f]), m) = ((0, [if v ≤ 30 then 0 else 1]), m)
  rw [g_Readings_spread_0, g_m_isQuarrel_0]
  refine z_sync (n := c r_Readings_readerCount 0 0 0) (A := fun (a : Int × Int × Int) k => g_Readings_spread ((1010, [f, a.1, a.2.1, a.2.2, k]), c)) (B := fun (s : Int × Int) k => g_m_isQuarrel ((1009, [f, s.1, s.2, k]), m)) (R := fun k a s => (zcnt (fun k => decide (0 ≤ c r_Readings_marks_r f 0 k)) k.toNat 0 = 0 ∧ a = (0, 0, 0) ∧ s = (2147483647, -2147483648)) ∨ (0 < zcnt (fun k => decide (0 ≤ c r_Readings_marks_r f 0 k)) k.toNat 0 ∧ a.2.2 = 1 ∧ s = (a.1, a.2.1))) (Goal := fun A B => ∃ v, A = ((0, [v]), c) ∧ B = ((0, [if v ≤ 30 then 0 else 1]), m)) ?_ ?_ (c r_Readings_readerCount 0 0 0).toNat 0 (0, 0, 0) (2147483647, -2147483648) (Int.le_refl _) (by omega) (Or.inl ⟨rfl, rfl, rfl⟩)
  · rintro ⟨x, y, z⟩ ⟨x', y'⟩ hh
    show ∃ v, g_Readings_spread ((1010, [f, x, y, z, c r_Readings_readerCount 0 0 0]), c) = ((0, [v]), c) ∧ g_m_isQuarrel ((1009, [f, x', y', c r_Readings_readerCount 0 0 0]), m) = ((0, [if v ≤ 30 then 0 else 1]), m)
    rw [g_Readings_spread_10, g_m_isQuarrel_9, zb_d, if_pos (Int.le_refl _), zb_d, if_pos (by omega), q_scoreMany (by omega) (by omega), ht, e_b_ok]
    show ∃ v, _ ∧ (bif decide (zcnt (fun k => decide (0 ≤ c r_Readings_marks_r f 0 k)) (c r_Readings_readerCount 0 0 0).toNat 0 ≤ 0) then _ else _) = _
    rw [zb_d, zb_d]
    rcases hh with ⟨e1, e2, e3⟩ | ⟨e1, e2, e3⟩
    · cases e2
      cases e3
      refine ⟨_, rfl, ?_⟩
      rw [if_pos (by omega)]
      rfl
    · cases e3
      refine ⟨_, rfl, ?_⟩
      rw [if_neg (by omega)]
      split <;> rfl
  · rintro k ⟨x, y, z⟩ ⟨x', y'⟩ k0 k1 hh
    have ek : (k + 1).toNat = k.toNat + 1 := by omega
    have e0 : (0 : Int) + (k.toNat : Int) = k := by omega
    have b := zcnt_le (fun k => decide (0 ≤ c r_Readings_marks_r f 0 k)) k.toNat 0
    have hk1 : e_wr (k + 1) = k + 1 := e_wr_id (by omega) (by omega)
    obtain ⟨m1, m2, m3, m4⟩ := mk f k f0 (by omega) k0 (by omega)
    by_cases q : 0 ≤ c r_Readings_marks_r f 0 k
    · obtain ⟨v1, v2, v3⟩ := q_evenOf h f0 f1 k0 (by omega) q
      have hc : zcnt (fun k => decide (0 ≤ c r_Readings_marks_r f 0 k)) (k + 1).toNat 0 = zcnt (fun k => decide (0 ≤ c r_Readings_marks_r f 0 k)) k.toNat 0 + 1 := by
        rw [ek, zcnt_app, e0]
        simp [q]
      generalize hv : v_Readings_evenScore f k c = v at v1 v2 v3
      have hB : g_m_isQuarrel ((1009, [f, x', y', k]), m) = g_m_isQuarrel ((1009, [f, (if v < x' then v else x'), (if y' < v then v else y'), k + 1]), m) := by
        rw [g_m_isQuarrel_9, zb_d, if_neg (by omega), zb_d, m3 q, if_neg (by omega), v1, e_b_ok]
        show e_bind (f_m_evenOf [f, k] m) _ = _
        rw [v1, e_b_ok, hk1]
        rfl
      rcases hh with ⟨e1, e2, e3⟩ | ⟨e1, e2, e3⟩
      · cases e2
        cases e3
        refine ⟨(v, v, 1), (v, v), ?_, ?_, Or.inr ⟨by omega, rfl, rfl⟩⟩
        · show g_Readings_spread ((1010, [f, 0, 0, 0, k]), c) = g_Readings_spread ((1010, [f, v, v, 1, k + 1]), c)
          rw [g_Readings_spread_10, zb_d, if_neg (by omega), zb_d, if_neg (by omega), hk1, hv]
          rfl
        · show g_m_isQuarrel ((1009, [f, 2147483647, -2147483648, k]), m) = g_m_isQuarrel ((1009, [f, v, v, k + 1]), m)
          rw [hB, if_pos (by omega), if_pos (by omega)]
      · cases e3
        have e2 : z = 1 := e2
        subst e2
        refine ⟨((if v < x then v else x), (if y < v then v else y), 1), ((if v < x then v else x), (if y < v then v else y)), ?_, hB, Or.inr ⟨by omega, rfl, rfl⟩⟩
        show g_Readings_spread ((1010, [f, x, y, 1, k]), c) = g_Readings_spread ((1010, [f, (if v < x then v else x), (if y < v then v else y), 1, k + 1]), c)
        rw [g_Readings_spread_10, zb_d, if_neg (by omega), zb_d, if_neg (by omega), hk1, hv]
        rfl
    · have hc : zcnt (fun k => decide (0 ≤ c r_Readings_marks_r f 0 k)) (k + 1).toNat 0 = zcnt (fun k => decide (0 ≤ c r_Readings_marks_r f 0 k)) k.toNat 0 := by
        rw [ek, zcnt_app, e0]
        simp [q]
      refine ⟨(x, y, z), (x', y'), ?_, ?_, ?_⟩
      · show g_Readings_spread ((1010, [f, x, y, z, k]), c) = g_Readings_spread ((1010, [f, x, y, z, k + 1]), c)
        rw [g_Readings_spread_10, zb_d, if_neg (by omega), zb_d, if_pos (by omega), hk1]
      · show g_m_isQuarrel ((1009, [f, x', y', k]), m) = g_m_isQuarrel ((1009, [f, x', y', k + 1]), m)
        rw [g_m_isQuarrel_9, zb_d, if_neg (by omega), zb_d, m4 (by omega) f1, if_pos (by decide), hk1]
      · rw [hc]
        exact hh
theorem o_even {f k : Int} {c m : ZS} (h : zR c m) : zBoth (f_w_even [f, k] c) (f_m_even [f, k] m) := by
  obtain ⟨⟨a1, a2, a3⟩, ⟨b1, b2, b3⟩, ll, fl, ad, dm, mk, ts⟩ := id h
  show zBoth (e_try (f_x_even [f, k] c) (fun v1 S1 => ((0, [0]), e_upd S1 r_out 0 0 0 v1)) [(0, 1), (4, 2)]) (f_m_even [f, k] m)
  unfold f_x_even f_m_even
  dsimp only
  rw [q_film a1 (by omega), q_noReader (by omega) (by omega) (by omega) (by omega), a3, b3]
  by_cases hf : 0 ≤ f ∧ f < c r_x_filmCount 0 0 0
  · rw [if_pos hf, e_b_ok, q_reader b1 (by omega)]
    by_cases hk : 0 ≤ k ∧ k < c r_Readings_readerCount 0 0 0
    · rw [if_pos hk, if_pos ⟨hf, hk⟩, e_b_ok, e_bnd]
      obtain ⟨m1, m2, m3, m4⟩ := mk f k hf.1 (by omega) hk.1 (by omega)
      simp (decide := true) only [zb_n, zb_d, e_un, Int.reduceEq, ↓reduceIte]
      by_cases q : 0 ≤ c r_Readings_marks_r f 0 k
      · rw [m3 q, if_pos q, if_pos q, (q_evenOf (h.thr.thr : zR c (e_upd (e_upd m r_m_thrown 0 0 0 0) r_m_thrown 0 0 0 0)) hf.1 hf.2 hk.1 (by omega) q).1, e_bnd]
        exact ⟨0, _, _, _, rfl, rfl, h.thr.thr.out, e_us, fun _ => e_us⟩
      · rw [m4 (by omega) hf.2, if_neg q, if_neg (by decide)]
        exact ⟨2, 0, _, _, rfl, rfl, h.thr.thr, e_us, fun q => absurd q (by decide)⟩
    · rw [if_neg hk, if_neg (fun q => hk q.2), e_b_x (by decide) (by decide), e_bnd]
      exact ⟨1, 0, _, _, rfl, rfl, h.thr, e_us, fun q => absurd q (by decide)⟩
  · rw [if_neg hf, if_neg (fun q => hf q.1), e_b_x (by decide) (by decide), e_bnd]
    exact ⟨1, 0, _, _, rfl, rfl, h.thr, e_us, fun q => absurd q (by decide)⟩
theorem o_score {f : Int} {c m : ZS} (h : zR c m) : zBoth (f_w_score [f] c) (f_m_score [f] m) := by
  obtain ⟨⟨a1, a2, a3⟩, ⟨b1, b2, b3⟩, ll, fl, ad, dm, mk, ts⟩ := id h
  show zBoth (e_try (f_x_score [f] c) (fun v1 S1 => ((0, [0]), e_upd S1 r_out 0 0 0 v1)) [(0, 1), (4, 2)]) (f_m_score [f] m)
  unfold f_x_score f_m_score
  dsimp only
  rw [q_film a1 (by omega), q_noFilm (by omega) (by omega), a3]
  by_cases hf : 0 ≤ f ∧ f < c r_x_filmCount 0 0 0
  · obtain ⟨v, v1, v2⟩ := q_scoreOf (h.thr.thr : zR c (e_upd (e_upd m r_m_thrown 0 0 0 0) r_m_thrown 0 0 0 0)) hf.1 hf.2
    have ht := h.told hf.1 hf.2
    rw [if_pos hf, if_pos hf, e_b_ok, q_countTold b1 b2, e_b_ok]
    simp (decide := true) only [zb_n, zb_d, Int.reduceEq, ↓reduceIte]
    rw [q_scoreMany (by rw [e_un (by decide)]; omega) (by rw [e_un (by decide)]; omega), e_bnd]
    have hm : zcnt (fun k => decide (0 ≤ (e_upd m r_m_thrown 0 0 0 0) r_m_scores_r f 0 k)) ((e_upd m r_m_thrown 0 0 0 0) r_m_readers 0 0 0).toNat 0 = zcnt (fun k => decide (0 ≤ c r_Readings_marks_r f 0 k)) (c r_Readings_readerCount 0 0 0).toNat 0 := (h.thr : zR c (e_upd m r_m_thrown 0 0 0 0)).told hf.1 hf.2
    rw [hm]
    show zBoth (e_try (if zcnt (fun k => decide (0 ≤ c r_Readings_marks_r f 0 k)) (c r_Readings_readerCount 0 0 0).toNat 0 = 0 then _ else _) _ _) _
    by_cases q : zcnt (fun k => decide (0 ≤ c r_Readings_marks_r f 0 k)) (c r_Readings_readerCount 0 0 0).toNat 0 = 0
    · simp only [if_pos q]
      exact ⟨2, 0, _, _, rfl, rfl, h.thr.thr, e_us, fun q => absurd q (by decide)⟩
    · simp only [if_neg q]
      rw [v1, v2, e_bnd, e_bnd]
      exact ⟨0, _, _, _, rfl, rfl, h.thr.thr.out, e_us, fun _ => e_us⟩
  · rw [if_neg hf, if_neg hf, e_b_x (by decide) (by decide)]
    simp (decide := true) only [zb_n, zb_d, ↓reduceIte]
    exact ⟨1, 0, _, _, rfl, rfl, h.thr, e_us, fun q => absurd q (by decide)⟩
theorem o_isInQuarrel {f : Int} {c m : ZS} (h : zR c m) : zBoth (f_w_isInQuarrel [f] c) (f_m_isInQuarrel [f] m) := by
  obtain ⟨⟨a1, a2, a3⟩, -⟩ := id h
  show zBoth (e_try (f_x_isInQuarrel [f] c) (fun v1 S1 => (bif decide (v1 = 0) then ((0, [0]), (e_upd S1 r_out 0 0 0 0)) else ((0, [0]), (e_upd S1 r_out 0 0 0 1)))) [(0, 1)]) (f_m_isInQuarrel [f] m)
  unfold f_x_isInQuarrel f_m_isInQuarrel
  dsimp only
  rw [q_film a1 (by omega), q_noFilm (by omega) (by omega), a3]
  by_cases hf : 0 ≤ f ∧ f < c r_x_filmCount 0 0 0
  · obtain ⟨v, v1, v2⟩ := q_quarrel (h.thr : zR c (e_upd m r_m_thrown 0 0 0 0)) hf.1 hf.2
    rw [if_pos hf, if_pos hf, e_b_ok, v1, e_bnd]
    simp (decide := true) only [zb_n, zb_d, Int.reduceEq, ↓reduceIte]
    rw [v2, e_bnd]
    by_cases q : v ≤ 30
    · simp (decide := true) only [if_pos q, Int.reduceEq, ↓reduceIte]
      exact ⟨0, _, _, _, rfl, rfl, h.thr.out, e_us, fun _ => e_us⟩
    · simp (decide := true) only [if_neg q, Int.reduceEq, ↓reduceIte]
      exact ⟨0, _, _, _, rfl, rfl, h.thr.out, e_us, fun _ => e_us⟩
  · rw [if_neg hf, if_neg hf, e_b_x (by decide) (by decide)]
    simp (decide := true) only [zb_n, zb_d, ↓reduceIte]
    exact ⟨1, 0, _, _, rfl, rfl, h.thr, e_us, fun q => absurd q (by decide)⟩
theorem b_isInQuarrel {a v : Int} {S S2 : ZS} (h : f_m_isInQuarrel [a] S = ((0, [v]), S2)) : v = 0 ∨ v = 1 := by
  unfold f_m_isInQuarrel at h
  dsimp only at h
  exact e_bool h e_bool0 (fun h => e_bool (e_bind_ok h).2 e_bool0 e_bool1)
