/-! Films, scores told -/
theorem q_isForm {x : Int} {S : ZS} : v_x_isForm x S = if x = 102 ∨ x = 115 ∨ x = 100 then 1 else 0 := by
  unfold v_x_isForm
  simp only [zb_d, zb_n]
  repeat' split
  all_goals first | rfl | omega
theorem q_misForm {x : Int} {S : ZS} : v_m_isForm x S = if x = 102 ∨ x = 115 ∨ x = 100 then 1 else 0 := by
  unfold v_m_isForm
  simp only [zb_d, zb_n]
  repeat' split
  all_goals first | rfl | omega
/-- a row is filled from k on -/
def zfl (f : Int) : Nat → Int → ZS → ZS
  | 0, _, S => S
  | j + 1, k, S => zfl f j (k + 1) (e_upd S r_m_scores_r f 0 k (-1))
theorem zfl_o {f : Int} {r : Nat} (h : (r == r_m_scores_r) = false) : ∀ (j : Nat) (k : Int) (S : ZS), (zfl f j k S) r = S r
  | 0, _, _ => rfl
  | j + 1, k, S => by
    rw [zfl, zfl_o h j]
    funext x y z
    exact e_un h
theorem zfl_s {f g k' : Int} : ∀ (j : Nat) (k : Int) (S : ZS), (zfl f j k S) r_m_scores_r g 0 k' = if g = f ∧ k ≤ k' ∧ k' < k + j then -1 else S r_m_scores_r g 0 k'
  | 0, k, S => by
    rw [if_neg (by omega)]
    rfl
  | j + 1, k, S => by
    rw [zfl, zfl_s j, e_ur]
    by_cases c : g = f ∧ k + 1 ≤ k' ∧ k' < k + 1 + j
    · rw [if_pos c, if_pos (by omega)]
    · rw [if_neg c]
      by_cases d : g = f ∧ k' = k
      · rw [if_pos ⟨d.1, rfl, d.2⟩, if_pos (by omega)]
      · rw [if_neg (fun q => d ⟨q.1, q.2.2⟩), if_neg (by omega)]
theorem q_mfilmLoop : ∀ (j : Nat) (k : Int) (S : ZS), 0 ≤ k → k + j = 8 → 0 ≤ S r_m_films 0 0 0 → S r_m_films 0 0 0 < 20 → g_m_film ((1118, [k]), S) = ((0, [S r_m_films 0 0 0]), e_upd (zfl (S r_m_films 0 0 0) j k S) r_m_films 0 0 0 (S r_m_films 0 0 0 + 1))
  | 0, k, S, h1, h2, h3, h4 => by
    rw [g_m_film_118, zb_d, if_pos (by omega), e_us, e_wr_id (x := S r_m_films 0 0 0 + 1) (by omega) (by omega), e_wr_id (by omega) (by omega), Int.add_sub_cancel]
    rfl
  | j + 1, k, S, h1, h2, h3, h4 => by
    have e : (e_upd S r_m_scores_r (S r_m_films 0 0 0) 0 k (-1)) r_m_films 0 0 0 = S r_m_films 0 0 0 := e_un (by decide)
    rw [g_m_film_118, zb_d, if_neg (by omega), e_wr_id (by omega) (by omega), q_mfilmLoop j (k + 1) _ (by omega) (by omega) (by rw [e]; exact h3) (by rw [e]; exact h4), e]
    rfl
theorem o_film {x y z : Int} {c m : ZS} (h : zR c m) : zBoth (f_w_film [x, y, z] c) (f_m_film [x, y, z] m) := by
  obtain ⟨⟨a1, a2, a3⟩, b, ll, fl, ad, dm, mk, ts⟩ := id h
  show zBoth (e_try (f_x_film [x, y, z] c) (fun v1 S1 => ((0, [0]), e_upd S1 r_out 0 0 0 v1)) [(1, 1), (2, 2)]) (g_m_film ((1000, [x, y, z]), m))
  rw [g_m_film_0]
  unfold f_x_film f_Film_begin
  simp only [zb_n, zb_d, q_within, q_isIn, q_isForm, q_misForm, a3, e_bnd0]
  by_cases hx : x = 102 ∨ x = 115 ∨ x = 100
  · by_cases hy : 1 ≤ y ∧ y ≤ 300
    · by_cases hz : 0 ≤ z ∧ z ≤ 9
      · by_cases hn : c r_x_filmCount 0 0 0 = 20
        · simp only [if_pos hx, if_pos hy, if_pos hz, if_pos hn, if_neg (show ¬ c r_x_filmCount 0 0 0 < 20 by omega), Int.reduceEq, ↓reduceIte]
          exact ⟨2, 0, _, _, rfl, rfl, h.thr.thr, e_us, fun q => absurd q (by decide)⟩
        · simp only [if_pos hx, if_pos hy, if_pos hz, if_neg hn, if_pos (show c r_x_filmCount 0 0 0 < 20 by omega), Int.reduceEq, ↓reduceIte]
          rw [q_mfilmLoop 8 0 _ (by omega) (by omega) (by simp (decide := true) only [e_un]; omega) (by simp (decide := true) only [e_un]; omega)]
          have hw : e_wr (c r_x_filmCount 0 0 0 + 1) = c r_x_filmCount 0 0 0 + 1 := e_wr_id (by omega) (by omega)
          have hw2 : e_wr (c r_x_filmCount 0 0 0 + 1 - 1) = c r_x_filmCount 0 0 0 := by rw [e_wr_id (by omega) (by omega), Int.add_sub_cancel]
          simp (decide := true) only [e_un, e_us, hw, hw2, a3]
          refine ⟨0, c r_x_filmCount 0 0 0, _, _, rfl, rfl, zR.out ?_, ?_, fun _ => ?_⟩
          · refine ⟨?_, ?_, ?_, ?_, ?_, ?_, ?_, ?_⟩
            · simp (decide := true) only [e_us]
              exact ⟨by omega, by omega, trivial⟩
            · simpa (decide := true) only [e_un, zfl_o] using b
            · simpa (decide := true) only [e_un, zfl_o] using ll
            · intro g g0 g1
              simp (decide := true) only [e_un, e_us, e_ur, zfl_o] at g1 ⊢
              by_cases q : g = c r_x_filmCount 0 0 0
              · simp [q]
              · simp only [q, false_and, and_false, ↓reduceIte]
                exact fl g g0 (by omega)
            · simpa (decide := true) only [e_un, zfl_o] using ad
            · simpa (decide := true) only [e_un, zfl_o] using dm
            · intro g k g0 g1 k0 k1
              obtain ⟨m1, m2, m3, m4⟩ := mk g k g0 g1 k0 k1
              simp (decide := true) only [e_un, e_us, zfl_s]
              refine ⟨m1, fun q => m2 (by omega), fun q => ?_, fun q w => ?_⟩
              · rw [if_neg (fun z => by have := m2 (by omega); omega)]
                exact m3 q
              · by_cases e : g = c r_x_filmCount 0 0 0
                · rw [if_pos ⟨e, by omega, by omega⟩]
                · rw [if_neg (fun z => e z.1)]
                  exact m4 q (by omega)
            · simpa (decide := true) only [e_un, zfl_o] using ts
          · simp (decide := true) only [e_un, e_us, zfl_o]
          · simp (decide := true) only [e_us]
            rfl
      · simp only [if_pos hx, if_pos hy, if_neg hz, Int.reduceEq, ↓reduceIte]
        exact ⟨1, 0, _, _, rfl, rfl, h.thr, e_us, fun q => absurd q (by decide)⟩
    · simp only [if_pos hx, if_neg hy, Int.reduceEq, ↓reduceIte]
      exact ⟨1, 0, _, _, rfl, rfl, h.thr, e_us, fun q => absurd q (by decide)⟩
  · simp only [if_neg hx, Int.reduceEq, ↓reduceIte]
    exact ⟨1, 0, _, _, rfl, rfl, h.thr, e_us, fun q => absurd q (by decide)⟩
theorem zcnt_sum {p : Int → Bool} : ∀ (j : Nat) (k : Int), zcnt p j k = zsum (fun i => if p i = true then 1 else 0) j k
  | 0, _ => rfl
  | j + 1, k => by rw [zcnt, zsum, zcnt_sum j]
theorem zR.told {c m : ZS} (h : zR c m) {f : Int} (f0 : 0 ≤ f) (f1 : f < c r_x_filmCount 0 0 0) : zcnt (fun k => decide (0 ≤ m r_m_scores_r f 0 k)) (m r_m_readers 0 0 0).toNat 0 = zcnt (fun k => decide (0 ≤ c r_Readings_marks_r f 0 k)) (c r_Readings_readerCount 0 0 0).toNat 0 := by
  obtain ⟨⟨a1, a2, a3⟩, ⟨b1, b2, b3⟩, ll, fl, ad, dm, mk, ts⟩ := h
  rw [b3]
  refine zcnt_cg _ 0 (fun k k0 k1 => ?_)
  obtain ⟨m1, m2, m3, m4⟩ := mk f k f0 (by omega) k0 (by omega)
  by_cases q : 0 ≤ c r_Readings_marks_r f 0 k
  · rw [m3 q]
  · rw [m4 (by omega) f1]
    simp [q]
theorem o_read {f k s : Int} {c m : ZS} (h : zR c m) : zBoth (f_w_read [f, k, s] c) (f_m_read [f, k, s] m) := by
  obtain ⟨⟨a1, a2, a3⟩, ⟨b1, b2, b3⟩, ll, fl, ad, dm, mk, ts⟩ := id h
  show zBoth (e_try (f_x_read [f, k, s] c) (fun v1 S1 => ((0, [0]), e_upd S1 r_out 0 0 0 v1)) [(0, 1), (1, 2), (3, 3)]) (f_m_read [f, k, s] m)
  unfold f_x_read f_m_read
  dsimp only
  rw [q_film a1 (by omega), q_noReader (by omega) (by omega) (by omega) (by omega), a3, b3]
  by_cases hf : 0 ≤ f ∧ f < c r_x_filmCount 0 0 0
  · rw [if_pos hf, e_b_ok, q_reader b1 (by omega)]
    by_cases hk : 0 ≤ k ∧ k < c r_Readings_readerCount 0 0 0
    · rw [if_pos hk, if_pos ⟨hf, hk⟩, e_b_ok, e_bnd]
      simp only [zb_n, zb_d, q_within, q_isIn]
      obtain ⟨m1, m2, m3, m4⟩ := mk f k hf.1 (by omega) hk.1 (by omega)
      have had := ad f k hf.1 (by omega) hk.1 (by omega)
      by_cases hs : 0 ≤ s ∧ s ≤ 100
      · by_cases h1 : c r_Readings_marks_r f 0 k = -1
        · have h2 : m r_m_areDealt_r f 0 k = 1 := by rw [had, if_neg (by omega)]
          have h3 : m r_m_scores_r f 0 k = -1 := m4 (by omega) hf.2
          simp (decide := true) only [if_pos hs, if_pos h1, Int.reduceEq, ↓reduceIte, e_un, h2, h3]
          unfold f_Readings_tell
          dsimp only
          rw [e_bnd0]
          obtain ⟨t1, t2⟩ := ts k hk.1 (by omega)
          have u1 := zcnt_le (fun f => decide (0 ≤ c r_Readings_marks_r f 0 k)) 20 0
          have u2 := zsum_le (w := fun f => if 0 ≤ c r_Readings_marks_r f 0 k then c r_Readings_marks_r f 0 k else 0) (lo := 0) (hi := 100) 20 0 (fun i i0 i1 => by
            have := (mk i k i0 (by omega) hk.1 (by omega)).1
            (try dsimp only)
            split <;> omega)
          have w1 : e_wr (c r_Readings_toldScores 0 0 k + 1) = c r_Readings_toldScores 0 0 k + 1 := e_wr_id (by omega) (by omega)
          have w2 : e_wr (c r_Readings_sums 0 0 k + s) = c r_Readings_sums 0 0 k + s := e_wr_id (by omega) (by omega)
          simp (decide := true) only [e_un, w1, w2]
          have hR : zR (e_upd (e_upd (e_upd c r_Readings_marks_r f 0 k s) r_Readings_toldScores 0 0 k (c r_Readings_toldScores 0 0 k + 1)) r_Readings_sums 0 0 k (c r_Readings_sums 0 0 k + s)) (e_upd (e_upd (e_upd (e_upd m r_m_thrown 0 0 0 0) r_m_thrown 0 0 0 0) r_m_thrown 0 0 0 0) r_m_scores_r f 0 k s) := by
            refine ⟨?_, ?_, ?_, ?_, ?_, ?_, ?_, ?_⟩
            · simpa (decide := true) only [e_un] using ⟨a1, a2, a3⟩
            · simpa (decide := true) only [e_un] using ⟨b1, b2, b3⟩
            · simpa (decide := true) only [e_un] using ll
            · simpa (decide := true) only [e_un] using fl
            · intro g i g0 g1 i0 i1
              simp (decide := true) only [e_un, e_ur]
              by_cases q : g = f ∧ True ∧ i = k
              · rw [if_pos q, q.1, q.2.2, h2, if_neg (by omega)]
              · rw [if_neg q]
                exact ad g i g0 g1 i0 i1
            · simpa (decide := true) only [e_un] using dm
            · intro g i g0 g1 i0 i1
              simp (decide := true) only [e_un, e_ur]
              by_cases q : g = f ∧ True ∧ i = k
              · rw [if_pos q, if_pos q]
                exact ⟨by omega, fun z => by omega, fun _ => rfl, fun z => by omega⟩
              · rw [if_neg q, if_neg q]
                exact mk g i g0 g1 i0 i1
            · intro i i0 i1
              simp (decide := true) only [e_un, e_ur]
              obtain ⟨v1, v2⟩ := ts i i0 i1
              by_cases q : i = k
              · subst q
                simp only [true_and, and_true, ↓reduceIte]
                have x1 := zsum_upd (w := fun g => if decide (0 ≤ c r_Readings_marks_r g 0 i) = true then 1 else 0) (b := f) (z := 1) 20 0 hf.1 (by omega)
                have x2 := zsum_upd (w := fun g => if 0 ≤ c r_Readings_marks_r g 0 i then c r_Readings_marks_r g 0 i else 0) (b := f) (z := s) 20 0 hf.1 (by omega)
                rw [zcnt_sum] at v1
                rw [zcnt_sum]
                constructor
                · rw [v1]
                  rw [zsum_cg (v := fun g => if decide (0 ≤ if g = f then s else c r_Readings_marks_r g 0 i) = true then 1 else 0) (w := fun g => if g = f then 1 else if decide (0 ≤ c r_Readings_marks_r g 0 i) = true then 1 else 0) 20 0 (fun g _ _ => by
                    (try dsimp only)
                    by_cases e : g = f
                    · simp [e, hs.1]
                    · simp [e]), x1]
                  simp [h1]
                · rw [v2]
                  rw [zsum_cg (v := fun g => if 0 ≤ (if g = f then s else c r_Readings_marks_r g 0 i) then (if g = f then s else c r_Readings_marks_r g 0 i) else 0) (w := fun g => if g = f then s else if 0 ≤ c r_Readings_marks_r g 0 i then c r_Readings_marks_r g 0 i else 0) 20 0 (fun g _ _ => by
                    (try dsimp only)
                    by_cases e : g = f
                    · simp [e, hs.1]
                    · simp [e]), x2]
                  simp [h1]
              · simp only [q, and_false, ↓reduceIte]
                exact ⟨v1, v2⟩
          have e1 : (e_upd (e_upd (e_upd c r_Readings_marks_r f 0 k s) r_Readings_toldScores 0 0 k (c r_Readings_toldScores 0 0 k + 1)) r_Readings_sums 0 0 k (c r_Readings_sums 0 0 k + s)) r_Readings_readerCount 0 0 0 = c r_Readings_readerCount 0 0 0 := by simp (decide := true) only [e_un]
          have e2 : (e_upd (e_upd (e_upd (e_upd m r_m_thrown 0 0 0 0) r_m_thrown 0 0 0 0) r_m_thrown 0 0 0 0) r_m_scores_r f 0 k s) r_m_readers 0 0 0 = c r_Readings_readerCount 0 0 0 := by simp (decide := true) only [e_un, b3]
          rw [q_countTold (by rw [e1]; exact b1) (by rw [e1]; exact b2), q_scoreMany (by rw [e2]; exact b1) (by rw [e2]; exact b2), e_bnd, e_bnd, hR.told hf.1 (by simp (decide := true) only [e_un]; exact hf.2)]
          exact ⟨0, _, _, _, rfl, rfl, hR.out, by simp (decide := true) only [e_un, e_us], fun _ => e_us⟩
        · by_cases h5 : c r_Readings_marks_r f 0 k = -2
          · have h2 : m r_m_areDealt_r f 0 k = 0 := by rw [had, if_pos h5]
            simp (decide := true) only [if_pos hs, if_neg h1, Int.reduceEq, ↓reduceIte, e_un, h2]
            exact ⟨3, 0, _, _, rfl, rfl, h.thr.thr.thr, e_us, fun q => absurd q (by decide)⟩
          · have h2 : m r_m_areDealt_r f 0 k = 1 := by rw [had, if_neg h5]
            have h3 : ¬ m r_m_scores_r f 0 k < 0 := by rw [m3 (by omega)]; omega
            simp (decide := true) only [if_pos hs, if_neg h1, Int.reduceEq, ↓reduceIte, e_un, h2, if_neg h3]
            exact ⟨3, 0, _, _, rfl, rfl, h.thr.thr.thr, e_us, fun q => absurd q (by decide)⟩
      · simp (decide := true) only [if_neg hs, Int.reduceEq, ↓reduceIte]
        exact ⟨2, 0, _, _, rfl, rfl, h.thr.thr, e_us, fun q => absurd q (by decide)⟩
    · rw [if_neg hk, if_neg (fun q => hk q.2), e_b_x (by decide) (by decide), e_bnd]
      exact ⟨1, 0, _, _, rfl, rfl, h.thr, e_us, fun q => absurd q (by decide)⟩
  · rw [if_neg hf, if_neg (fun q => hf q.1), e_b_x (by decide) (by decide), e_bnd]
    exact ⟨1, 0, _, _, rfl, rfl, h.thr, e_us, fun q => absurd q (by decide)⟩
