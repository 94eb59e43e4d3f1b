/-! winner, award: both sides -/
def zLn (c _m : ZS) : Prop := c r_Grid_films_len 0 0 0 = 20
def zLnC : List Nat := [r_Grid_films_len]
def zLnM : List Nat := []
theorem zLn_rel : zRel zLn zLnC zLnM := fun {c m c' m'} h hc hm => by
  unfold zLn
  rw [hc r_Grid_films_len (by decide)]
  exact h
theorem q_drop {c : ZS} (hl : c r_Grid_films_len 0 0 0 = 20) (hb : ∀ f, 0 ≤ f → f < 20 → zbit (c r_Film_isWithdrawn f 0 0)) : ∃ C, f_Count_dropWithdrawn [] c = ((0, []), C) ∧ (∀ r, zouC.contains r = false → C r = c r) ∧ ∀ f, 0 ≤ f → f < 20 → C r_Count_isOut 0 0 f = c r_Film_isWithdrawn f 0 0 := by
  have key : ∀ (t : Nat) (k : Int) (S : ZS), 0 ≤ k → k + t = 20 → (∀ r, zouC.contains r = false → S r = c r) → (∀ f, 0 ≤ f → f < k → S r_Count_isOut 0 0 f = c r_Film_isWithdrawn f 0 0) → ∃ C, g_Count_dropWithdrawn ((1002, [k]), S) = ((0, []), C) ∧ (∀ r, zouC.contains r = false → C r = c r) ∧ ∀ f, 0 ≤ f → f < 20 → C r_Count_isOut 0 0 f = c r_Film_isWithdrawn f 0 0 := by
    intro t
    induction t with
    | zero =>
      intro k S k0 k1 fr h
      exact ⟨S, by rw [g_Count_dropWithdrawn_2, zb_d, if_pos (by omega)], fr, fun f f0 f1 => h f f0 (by omega)⟩
    | succ t ih =>
      intro k S k0 k1 fr h
      have hk : e_wr (k + 1) = k + 1 := e_wr_id (by omega) (by omega)
      have hn : e_nar 1 (c r_Film_isWithdrawn k 0 0) = c r_Film_isWithdrawn k 0 0 := by
        rcases hb k k0 (by omega) with e | e
        · rw [e]
          exact e_nb0
        · rw [e]
          exact e_nb1
      rw [g_Count_dropWithdrawn_2, zb_d, if_neg (by omega), zb_d, fr r_Grid_films_len (by decide), hl, if_neg (by omega), hk, fr r_Film_isWithdrawn (by decide), hn]
      refine ih (k + 1) _ (by omega) (by omega) (fun r hr => ?_) (fun f f0 f1 => ?_)
      · rw [← fr r hr]
        funext a b d
        exact e_un (by
          cases e : r == r_Count_isOut with
          | false => rfl
          | true => rw [beq_iff_eq] at e; rw [e] at hr; exact absurd hr (by decide))
      · rw [e_ur]
        by_cases e : f = k
        · rw [if_pos ⟨rfl, rfl, e⟩, e]
        · rw [if_neg (fun z => e z.2.2)]
          exact h f f0 (by omega)
  obtain ⟨C, h1, h2, h3⟩ := key 20 0 c (Int.le_refl _) (by decide) (fun _ _ => rfl) (fun f a b => by omega)
  refine ⟨C, ?_, h2, h3⟩
  show g_Count_dropWithdrawn ((1000, []), c) = _
  rw [g_Count_dropWithdrawn_0]
  exact h1
/-- the model's films that are left at first -/
theorem q_left {s : Int} {c m : ZS} (hW : zWb s c m) (hD : ∀ f, 0 ≤ f → f < c r_x_filmCount 0 0 0 → (m r_m_areWithdrawn 0 0 f = 0 ↔ c r_Count_isOut 0 0 f = 0)) : ∀ (t : Nat) (k v : Int) (M : ZS), 0 ≤ k → k + t = c r_x_filmCount 0 0 0 → zbit v → (v = 0 ↔ zcnt (zrk c s) k.toNat 0 = 0) → (∀ r, zouM.contains r = false → M r = m r) → (∀ f, 0 ≤ f → f < k → (M r_m_areLeft 0 0 f ≠ 0 ↔ zrk c s f = true)) → ∃ v' M', g_m_winnerOf ((1004, [s, v, k]), M) = g_m_winnerOf ((1004, [s, v', c r_x_filmCount 0 0 0]), M') ∧ zbit v' ∧ (v' = 0 ↔ zcnt (zrk c s) (c r_x_filmCount 0 0 0).toNat 0 = 0) ∧ (∀ r, zouM.contains r = false → M' r = m r) ∧ ∀ f, 0 ≤ f → f < c r_x_filmCount 0 0 0 → (M' r_m_areLeft 0 0 f ≠ 0 ↔ zrk c s f = true) := by
  obtain ⟨⟨s0, s1⟩, ⟨a1, a2, a3⟩, hB, hJ⟩ := id hW
  obtain ⟨⟨u0, u1, u2⟩, -⟩ := hJ s s0 s1
  intro t
  induction t with
  | zero =>
    intro k v M k0 k1 hv hz fm h
    have e : k = c r_x_filmCount 0 0 0 := by omega
    rw [e] at hz h ⊢
    exact ⟨v, M, rfl, hv, hz, fm, h⟩
  | succ t ih =>
    intro k v M k0 k1 hv hz fm h
    have hk : e_wr (k + 1) = k + 1 := e_wr_id (by omega) (by omega)
    have ek : (k + 1).toNat = k.toNat + 1 := by omega
    have e0 : (0 : Int) + (k.toNat : Int) = k := by omega
    have happ := zcnt_app (p := zrk c s) k.toNat 0
    have hle := zcnt_le (zrk c s) k.toNat 0
    rw [e0, ← ek] at happ
    rw [g_m_winnerOf_4, zb_d, fm r_m_films (by decide), if_neg (by omega), e_nb0]
    have hd := hD k k0 (by omega)
    have inner : ∀ (t : Nat) (j : Int) (P : ZS) (u : Bool), 0 ≤ j → j + t = c r_Section_jurorCount s 0 0 → (∀ r, zouM.contains r = false → P r = m r) → (∀ f, f ≠ k → P r_m_areLeft 0 0 f = M r_m_areLeft 0 0 f) → P r_m_areLeft 0 0 k = zb u → ∃ P', g_m_winnerOf ((1022, [s, v, k, j]), P) = g_m_winnerOf ((1022, [s, v, k, c r_Section_jurorCount s 0 0]), P') ∧ (∀ r, zouM.contains r = false → P' r = m r) ∧ (∀ f, f ≠ k → P' r_m_areLeft 0 0 f = M r_m_areLeft 0 0 f) ∧ P' r_m_areLeft 0 0 k = zb (u || (decide (c r_Count_isOut 0 0 k = 0) && zany (fun j => zon c s j k) t j)) := by
      intro t
      induction t with
      | zero =>
        intro j P u j0 j1 fp hp hu
        refine ⟨P, by rw [show j = c r_Section_jurorCount s 0 0 by omega], fp, hp, ?_⟩
        rw [hu, zany, Bool.and_false, Bool.or_false]
      | succ t iht =>
        intro j P u j0 j1 fp hp hu
        have hj : e_wr (j + 1) = j + 1 := e_wr_id (by omega) (by omega)
        have hWP : zWb s c P := by
          refine ⟨⟨s0, s1⟩, by rw [fp r_m_films (by decide)]; exact ⟨a1, a2, a3⟩, zBa_rel hB (fun _ _ => rfl) (fun r hr => fp r (z_nin_ok (by decide : z_nin zBaM zouM = true) hr)), zJu_rel hJ (fun _ _ => rfl) (fun r hr => fp r (z_nin_ok (by decide : z_nin zJuM zouM = true) hr))⟩
        obtain ⟨-, p2, p3, p4⟩ := q_placeOn (f := k) hWP j0 (show j < c r_Section_jurorCount s 0 0 by omega)
        have step : ∀ b, e_nar 1 (e_or (zb u) (zb b)) = zb (u || b) := fun b => by cases u <;> cases b <;> decide +kernel
        have s0' : e_nar 1 (e_or (zb u) 0) = zb (u || false) := step false
        have s1' : e_nar 1 (e_or (zb u) 1) = zb (u || true) := step true
        have next : ∀ b, ∃ P', g_m_winnerOf ((1022, [s, v, k, j + 1]), e_upd P r_m_areLeft 0 0 k (zb (u || b))) = g_m_winnerOf ((1022, [s, v, k, c r_Section_jurorCount s 0 0]), P') ∧ (∀ r, zouM.contains r = false → P' r = m r) ∧ (∀ f, f ≠ k → P' r_m_areLeft 0 0 f = M r_m_areLeft 0 0 f) ∧ P' r_m_areLeft 0 0 k = zb ((u || b) || (decide (c r_Count_isOut 0 0 k = 0) && zany (fun j => zon c s j k) t (j + 1))) := fun b => iht (j + 1) _ (u || b) (by omega) (by omega) (fun r hr => by
          rw [← fp r hr]
          funext x y z
          exact e_un (by
            cases e : r == r_m_areLeft with
            | false => rfl
            | true => rw [beq_iff_eq] at e; rw [e] at hr; exact absurd hr (by decide))) (fun f hf => by
          rw [e_ur, if_neg (fun z => hf z.2.2)]
          exact hp f hf) (by rw [e_us])
        have eM := g_m_winnerOf_22 (x1 := s) (x2 := v) (x3 := k) (x4 := j) (S := P)
        rw [zb_d, fp r_m_jurorMany (by decide), if_neg (by omega), p2, e_bnd, zb_d, zb_n, fp r_m_areWithdrawn (by decide), hu, s0', s1', hj] at eM
        rw [eM, zany, p4]
        by_cases q1 : zpo c s j k = -1
        · rw [if_pos (by omega), decide_eq_true q1, Bool.not_true, Bool.false_or]
          have := next false
          rw [Bool.or_false] at this ⊢
          exact this
        · rw [if_neg (by omega), decide_eq_false q1, Bool.not_false, Bool.true_or, Bool.and_true]
          by_cases q2 : m r_m_areWithdrawn 0 0 k = 0
          · rw [if_pos q2, decide_eq_true (hd.mp q2)]
            obtain ⟨P', x1, x2, x3, x4⟩ := next true
            exact ⟨P', x1, x2, x3, by rw [x4, Bool.or_true, Bool.true_or]⟩
          · rw [if_neg q2, decide_eq_false (fun z => q2 (hd.mpr z)), Bool.or_false]
            obtain ⟨P', x1, x2, x3, x4⟩ := next false
            refine ⟨P', ?_, x2, x3, ?_⟩
            · rw [← x1, Bool.or_false]
            · rw [x4, decide_eq_false (fun z => q2 (hd.mpr z)), Bool.false_and, Bool.or_false, Bool.or_false]
    obtain ⟨P, p1, p2, p3, p4⟩ := inner (c r_Section_jurorCount s 0 0).toNat 0 (e_upd M r_m_areLeft 0 0 k 0) false (Int.le_refl _) (by omega) (fun r hr => by
      rw [← fm r hr]
      funext x y z
      exact e_un (by
        cases e : r == r_m_areLeft with
        | false => rfl
        | true => rw [beq_iff_eq] at e; rw [e] at hr; exact absurd hr (by decide))) (fun f hf => by rw [e_ur, if_neg (fun z => hf z.2.2)]) (by rw [e_us]; rfl)
    have p5 : P r_m_areLeft 0 0 k = zb (zrk c s k) := by
      rw [p4, Bool.false_or]
      rfl
    have eM := g_m_winnerOf_22 (x1 := s) (x2 := v) (x3 := k) (x4 := c r_Section_jurorCount s 0 0) (S := P)
    rw [zb_d, p2 r_m_jurorMany (by decide), if_pos (by omega), p5, hk] at eM
    rw [p1, eM]
    have hor : e_or v (zb (zrk c s k)) = if zrk c s k = true then 1 else v := by
      cases zrk c s k
      · exact e_or0 hv
      · exact e_or1 hv
    rw [hor]
    refine ih (k + 1) _ P (by omega) (by omega) ?_ ?_ p2 (fun f f0 f1 => ?_)
    · split
      · exact zbit1
      · exact hv
    · by_cases w : zrk c s k = true
      · rw [if_pos w] at happ ⊢
        constructor
        · intro z
          cases z
        · intro z
          omega
      · rw [if_neg w] at happ ⊢
        rw [happ, Int.add_zero]
        exact hz
    · by_cases e : f = k
      · rw [e, p5]
        cases zrk c s k <;> simp [zb]
      · rw [p3 f e]
        exact h f f0 (by omega)
theorem q_winner {s : Int} {c m : ZS} (hR : zR c m) (hU : zRu c m) (hJ : zJu c m) (hB : zBa c m) (hW : zWd c m) (hL : zLn c m) (s0 : 0 ≤ s) (s1 : s < c r_x_sectionCount 0 0 0) : ∃ w C' M', f_Count_findWinner [s] c = ((0, [w]), C') ∧ f_m_winnerOf [s] m = ((0, [w]), M') ∧ (-1 ≤ w ∧ w < c r_x_filmCount 0 0 0) ∧ (∀ r, zouC.contains r = false → C' r = c r) ∧ (∀ r, zouM.contains r = false → M' r = m r) := by
  obtain ⟨a1, a2, a3⟩ := hR.1
  obtain ⟨⟨d1, d2, d3⟩, ru⟩ := id hU
  obtain ⟨r1, r2, -⟩ := ru s s0 (by omega)
  obtain ⟨C, e1, e2, e3⟩ := q_drop (c := c) hL (fun f f0 f1 => (hW f f0 f1).2)
  have hBC : zBa C m := zBa_rel hB (fun r hr => e2 r (z_nin_ok (by decide : z_nin zBaC zouC = true) hr)) (fun _ _ => rfl)
  have hJC : zJu C m := zJu_rel hJ (fun r hr => e2 r (z_nin_ok (by decide : z_nin zJuC zouC = true) hr)) (fun _ _ => rfl)
  have eN : C r_x_filmCount 0 0 0 = c r_x_filmCount 0 0 0 := by rw [e2 _ (by decide)]
  have hWC : zWb s C m := ⟨⟨s0, by omega⟩, by rw [eN]; exact ⟨a1, a2, a3⟩, hBC, hJC⟩
  obtain ⟨v, M, m1, m2, m3, m4, m5⟩ := q_left hWC (fun f f0 f1 => by
    rw [eN] at f1
    rw [e3 f f0 (by omega), (hW f f0 (by omega)).1]) (C r_x_filmCount 0 0 0).toNat 0 0 m (Int.le_refl _) (by omega) zbit0 ⟨fun _ => rfl, fun _ => rfl⟩ (fun _ _ => rfl) (fun f a b => by omega)
  have hWM : zWc s C M := ⟨⟨⟨s0, by omega⟩, by rw [eN, m4 r_m_films (by decide)]; exact ⟨a1, a2, a3⟩, zBa_rel hBC (fun _ _ => rfl) (fun r hr => m4 r (z_nin_ok (by decide : z_nin zBaM zouM = true) hr)), zJu_rel hJC (fun _ _ => rfl) (fun r hr => m4 r (z_nin_ok (by decide : z_nin zJuM zouM = true) hr))⟩, m5⟩
  have eM0 : f_m_winnerOf [s] m = g_m_winnerOf ((1004, [s, v, C r_x_filmCount 0 0 0]), M) := by
    show g_m_winnerOf ((1000, [s]), m) = _
    rw [g_m_winnerOf_0]
    exact m1
  have eM := g_m_winnerOf_4 (x1 := s) (x2 := v) (x3 := C r_x_filmCount 0 0 0) (S := M)
  rw [zb_d, m4 r_m_films (by decide), if_pos (by omega), zb_n, zb_n, zb_n, zb_n, m4 r_m_rules (by decide), r2 s1] at eM
  have eC : f_Count_findWinner [s] c = (bif !decide (c r_Section_rule s 0 0 = 98) then (bif !decide (c r_Section_rule s 0 0 = 99) then (bif !decide (c r_Section_rule s 0 0 = 114) then (e_bind (f_Count_withMost [s, 0] C) (fun v2 S2 => ((0, [v2]), S2))) else (e_bind (f_Count_byRounds [s] C) (fun v3 S3 => ((0, [v3]), S3)))) else (e_bind (f_Count_byDuels [s] C) (fun v4 S4 => ((0, [v4]), S4)))) else (e_bind (f_Count_withMost [s, 1] C) (fun v5 S5 => ((0, [v5]), S5)))) := by
    unfold f_Count_findWinner
    dsimp only
    rw [e1, e_bnd0, e2 r_Section_rule (by decide)]
  rw [zb_n, zb_n, zb_n] at eC
  have cnt0 := zcnt_le (zrk C s) (C r_x_filmCount 0 0 0).toNat 0
  by_cases hv : v = 0
  · -- nobody is left
    have hz := m3.mp hv
    have hnone : ∀ f, 0 ≤ f → f < C r_x_filmCount 0 0 0 → zrk C s f = false := fun f f0 f1 => by
      cases e : zrk C s f with
      | false => rfl
      | true =>
        have := zcnt_one (p := zrk C s) (b := f) e (C r_x_filmCount 0 0 0).toNat 0 f0 (by omega)
        have := zcnt_le (fun i => zrk C s i && decide (i ≠ f)) (C r_x_filmCount 0 0 0).toNat 0
        omega
    have most : ∀ b, (b = 0 ∨ b = 1) → f_Count_withMost [s, b] C = ((0, [-1]), C) := fun b hb => by
      obtain ⟨w, w1, -, w3⟩ := q_most hWM hb
      rcases w3 with ⟨w3, -⟩ | ⟨w3, w4, w5, -⟩
      · rw [w3] at w1
        exact w1
      · rw [hnone w w3 w4] at w5
        cases w5
    have hrk : ∀ f, zrk C s f = false := fun f => by
      cases e : zrk C s f with
      | false => rfl
      | true =>
        have := zrk_lt hWC e
        rw [hnone f this.1 this.2] at e
        cases e
    have duels : f_Count_byDuels [s] C = ((0, [-1]), C) := by
      show g_Count_byDuels ((1000, [s]), C) = _
      rw [g_Count_byDuels_0]
      have key : ∀ (t : Nat) (k : Int), 0 ≤ k → k + t = 20 → g_Count_byDuels ((1002, [s, k]), C) = ((0, [-1]), C) := by
        intro t
        induction t with
        | zero =>
          intro k k0 k1
          rw [g_Count_byDuels_2, zb_d, if_pos (by omega), most 1 (Or.inr rfl), e_bnd]
        | succ t ih =>
          intro k k0 k1
          have hk : e_wr (k + 1) = k + 1 := e_wr_id (by omega) (by omega)
          rw [g_Count_byDuels_2, zb_d, if_neg (by omega), q_isRanked hWM, e_bnd, zb_d, hrk k, if_pos (by rfl), hk]
          exact ih (k + 1) (by omega) (by omega)
      exact key 20 0 (Int.le_refl _) (by decide)
    have rounds : f_Count_byRounds [s] C = ((0, [-1]), C) := by
      show g_Count_byRounds ((1000, [s]), C) = _
      rw [g_Count_byRounds_0, g_Count_byRounds_2, zb_d, if_neg (by decide)]
      obtain ⟨⟨u0, u1, -⟩, -⟩ := hJC s s0 (by omega)
      have key : ∀ (t : Nat) (k x : Int), 0 ≤ k → k + t = C r_Section_jurorCount s 0 0 → g_Count_byRounds ((1013, [s, 0, x, k]), C) = ((0, [-1]), C) := by
        intro t
        induction t with
        | zero =>
          intro k x k0 k1
          rw [g_Count_byRounds_13, zb_d, if_pos (by omega), most 0 (Or.inl rfl), e_bnd, zb_d, if_pos rfl]
        | succ t ih =>
          intro k x k0 k1
          have hk : e_wr (k + 1) = k + 1 := e_wr_id (by omega) (by omega)
          rw [g_Count_byRounds_13, zb_d, if_neg (by omega), (q_first hWM k0 (by omega)).1, e_bnd, zb_d, hk]
          split
          · exact ih (k + 1) x (by omega) (by omega)
          · exact ih (k + 1) _ (by omega) (by omega)
      exact key (C r_Section_jurorCount s 0 0).toNat 0 0 (Int.le_refl _) (by omega)
    rw [if_pos hv] at eM
    refine ⟨-1, C, M, ?_, eM0.trans eM, ⟨by omega, by omega⟩, e2, m4⟩
    rw [eC, most 0 (Or.inl rfl), most 1 (Or.inr rfl), duels, rounds]
    simp only [e_bnd, ite_self]
  · rw [if_neg hv] at eM
    have hpos : 1 ≤ zcnt (zrk C s) (C r_x_filmCount 0 0 0).toNat 0 := by
      by_cases z : zcnt (zrk C s) (C r_x_filmCount 0 0 0).toNat 0 = 0
      · exact absurd (m3.mpr z) hv
      · omega
    by_cases q1 : c r_Section_rule s 0 0 = 98
    · obtain ⟨w, w1, w2, w3⟩ := q_most hWM (Or.inr rfl)
      rw [if_pos q1, w1, e_bnd] at eC
      rw [if_neg (show ¬ c r_Section_rule s 0 0 = 99 by omega), if_neg (show ¬ c r_Section_rule s 0 0 = 114 by omega), if_pos q1, w2, e_bnd] at eM
      refine ⟨w, C, M, eC, eM0.trans eM, ?_, e2, m4⟩
      rcases w3 with w3 | w3 <;> omega
    · rw [if_neg q1] at eC
      by_cases q2 : c r_Section_rule s 0 0 = 99
      · obtain ⟨w, w1, w2, w3, w4⟩ := q_duels hWM
        rw [if_pos q2, w1, e_bnd] at eC
        rw [if_pos q2, w2, e_bnd] at eM
        exact ⟨w, C, M, eC, eM0.trans eM, ⟨w3, by omega⟩, e2, m4⟩
      · rw [if_neg q2] at eC eM
        by_cases q3 : c r_Section_rule s 0 0 = 114
        · obtain ⟨w, C', M', w1, w2, w3, w4, w5⟩ := q_rounds (c0 := C) (m0 := M) (zcnt (zrk C s) (C r_x_filmCount 0 0 0).toNat 0).toNat 0 C M hWM (by omega) (by omega) (Int.le_refl _) (by omega) (fun _ _ => rfl) (fun _ _ => rfl)
          have w1' : f_Count_byRounds [s] C = ((0, [w]), C') := by
            show g_Count_byRounds ((1000, [s]), C) = _
            rw [g_Count_byRounds_0]
            exact w1
          have w2' : f_m_byRounds [s] M = ((0, [w]), M') := w2
          rw [if_pos q3, w1', e_bnd] at eC
          rw [if_pos q3, w2', e_bnd] at eM
          exact ⟨w, C', M', eC, eM0.trans eM, ⟨by omega, by omega⟩, fun r hr => (w4 r hr).trans (e2 r hr), fun r hr => (w5 r hr).trans (m4 r hr)⟩
        · obtain ⟨w, w1, w2, w3⟩ := q_most hWM (Or.inl rfl)
          rw [if_neg q3, w1, e_bnd] at eC
          rw [if_neg q3, if_neg q1, w2, e_bnd] at eM
          refine ⟨w, C, M, eC, eM0.trans eM, ?_, e2, m4⟩
          rcases w3 with w3 | w3 <;> omega
theorem o_winner {s : Int} {c m : ZS} (hR : zR c m) (hU : zRu c m) (hJ : zJu c m) (hB : zBa c m) (hW : zWd c m) (hL : zLn c m) : zBo zRu (f_w_winner [s] c) (f_m_winner [s] m) := by
  obtain ⟨⟨d1, d2, d3⟩, -⟩ := id hU
  show zBo zRu (e_try (f_x_winner [s] c) (fun v1 S1 => ((0, [0]), e_upd S1 r_out 0 0 0 v1)) [(0, 1), (4, 2)]) (f_m_winner [s] m)
  unfold f_x_winner f_m_winner
  dsimp only
  rw [q_section d1 (by omega), q_noSection (by omega) (by omega), d3]
  by_cases hs : 0 ≤ s ∧ s < c r_x_sectionCount 0 0 0
  · rw [if_pos hs, if_pos hs, e_b_ok]
    simp (decide := true) only [zb_n, zb_d, ↓reduceIte, Int.reduceEq]
    obtain ⟨w, C, M, e1, e2, e3, e4, e5⟩ := q_winner (zR_rel.um hR (by decide) : zR c (e_upd m r_m_thrown 0 0 0 0)) hU.thr hJ.thr hB.thr hW.thr (zLn_rel.um hL (by decide)) hs.1 hs.2
    have hU2 : zRu C M := zRu_rel hU.thr (fun r hr => e4 r (z_nin_ok (by decide : z_nin zRuC zouC = true) hr)) (fun r hr => e5 r (z_nin_ok (by decide : z_nin zRuM zouM = true) hr))
    rw [e1, e2, e_bnd, e_bnd]
    by_cases q : w = -1
    · simp only [q, ↓reduceIte, Int.reduceLE, Int.reduceNeg]
      exact ⟨2, 0, _, _, rfl, rfl, hU2.thr, e_us, fun q => absurd q (by decide)⟩
    · simp only [if_neg q, if_pos (show 0 ≤ w by omega)]
      exact ⟨0, _, _, _, rfl, rfl, hU2.thr.out, e_us, fun _ => e_us⟩
  · rw [if_neg hs, if_neg hs, e_b_x (by decide) (by decide)]
    simp (decide := true) only [zb_n, zb_d, ↓reduceIte]
    exact ⟨1, 0, _, _, rfl, rfl, hU.thr, e_us, fun q => absurd q (by decide)⟩
theorem o_award {s : Int} {c m : ZS} (hR : zR c m) (hF : zFs c m) (hU : zRu c m) (hJ : zJu c m) (hB : zBa c m) (hW : zWd c m) (hL : zLn c m) (hA : zAw c m) (hG : zAr c m) : zBo (zAnd zAw zAr) (f_w_award [s] c) (f_m_award [s] m) := by
  obtain ⟨⟨d1, d2, d3⟩, -⟩ := id hU
  show zBo (zAnd zAw zAr) (e_try (f_x_award [s] c) (fun v1 S1 => ((0, [0]), e_upd S1 r_out 0 0 0 v1)) [(0, 1), (3, 2), (4, 3)]) (f_m_award [s] m)
  unfold f_x_award f_m_award
  dsimp only
  rw [q_section d1 (by omega), q_noSection (by omega) (by omega), d3]
  by_cases hs : 0 ≤ s ∧ s < c r_x_sectionCount 0 0 0
  · rw [if_pos hs, if_pos hs, e_b_ok]
    simp (decide := true) only [zb_n, zb_d, ↓reduceIte, Int.reduceEq]
    obtain ⟨w, C, M, e1, e2, e3, e4, e5⟩ := q_winner (zR_rel.um hR (by decide) : zR c (e_upd m r_m_thrown 0 0 0 0)) hU.thr hJ.thr hB.thr hW.thr (zLn_rel.um hL (by decide)) hs.1 hs.2
    have hA0 : zAw c M := zAw_rel hA.thr (fun _ _ => rfl) (fun r hr => e5 r (z_nin_ok (by decide : z_nin zAwM zouM = true) hr))
    have hA2 : zAw C M := zAw_rel hA.thr (fun r hr => e4 r (z_nin_ok (by decide : z_nin zAwC zouC = true) hr)) (fun r hr => e5 r (z_nin_ok (by decide : z_nin zAwM zouM = true) hr))
    have hG0 : zAr c M := zAr_rel hG.thr (fun _ _ => rfl) (fun r hr => e5 r (z_nin_ok (by decide : z_nin zArM zouM = true) hr))
    have hG2 : zAr C M := zAr_rel hG.thr (fun r hr => e4 r (z_nin_ok (by decide : z_nin zArC zouC = true) hr)) (fun r hr => e5 r (z_nin_ok (by decide : z_nin zArM zouM = true) hr))
    have ga := hA0 s hs.1 (by omega)
    rw [e2, e_bnd, ga]
    by_cases q0 : c r_Section_isAwarded s 0 0 = 0
    · simp only [if_pos q0]
      rw [e1, e_bnd]
      by_cases q : w = -1
      · subst q
        simp (decide := true) only [↓reduceIte, Int.reduceLE, Int.reduceLT, Int.reduceNeg]
        exact ⟨3, 0, _, _, rfl, rfl, ⟨hA2.thr.thr, hG2.thr.thr⟩, e_us, fun q => absurd q (by decide)⟩
      · obtain ⟨s1, s2, s3⟩ := hF
        have st := (s1 w (by omega) e3.2).2.2.1
        have pr := (s3 w (by omega) (by have := hR.1; omega)).1
        simp only [if_neg q, if_neg (show ¬ w < 0 by omega), if_pos (show 0 ≤ w by omega)]
        rw [e5 r_m_promises (by decide), e5 r_m_still (by decide)]
        simp (decide := true) only [e_un, st, pr]
        unfold v_Film_breaksPromise
        rw [e4 r_Film_promise (by decide), e4 r_Film_stillIs (by decide), zb_d]
        by_cases q1 : c r_Film_promise w 0 0 ≤ c r_Film_stillIs w 0 0
        · simp (decide := true) only [if_pos q1, ↓reduceIte]
          rw [q_zcA, q_zmA, e_bnd0, e_bnd0, e_nb1]
          refine ⟨0, _, _, _, rfl, rfl, ⟨zAw.out (zAw_rel.zcA (by decide) (zAw_rel.zmA (by decide) (fun t t0 t1 => ?_))), zAr.out (zAr.add (zAr_rel.uc (zAr_rel.um hG2.thr.thr (by decide)) (by decide)))⟩, ?_, fun _ => e_us⟩
          · simp (decide := true) only [e_un, e_ur]
            by_cases z : t = s
            · simp (decide := true) only [z, and_self, ↓reduceIte]
            · simp only [z, and_false, false_and, ↓reduceIte]
              exact hA2 t t0 t1
          · rw [zmA_o (by decide)]
            simp (decide := true) only [e_un, e_us]
        · simp (decide := true) only [if_neg q1, ↓reduceIte]
          exact ⟨2, 0, _, _, rfl, rfl, ⟨hA2.thr, hG2.thr⟩, e_us, fun q => absurd q (by decide)⟩
    · simp only [if_neg q0]
      exact ⟨2, 0, _, _, rfl, rfl, ⟨hA0.thr, hG0.thr⟩, e_us, fun q => absurd q (by decide)⟩
  · rw [if_neg hs, if_neg hs, e_b_x (by decide) (by decide)]
    simp (decide := true) only [zb_n, zb_d, ↓reduceIte]
    exact ⟨1, 0, _, _, rfl, rfl, ⟨hA.thr, hG.thr⟩, e_us, fun q => absurd q (by decide)⟩
