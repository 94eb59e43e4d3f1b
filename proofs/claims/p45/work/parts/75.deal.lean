/-! deal: there are as many who may still read as are wanted -/
theorem dO : b_cal c_K (b_lim 2) (b_orc c_K [] 3000 2) := b_orc_ok c_hJ (fun _ h => absurd h List.not_mem_nil) 3000 2
def dA : BSg := ((171, 0), ([some (2, 365, 0), some (1, 0, 0), some (1, 1, 0), none, none, none, none], [], ([(0, (-2147483648), 2147483647), (0, (-2147483648), 2147483647)], [], [])), [(50, 55)], [
  (.inl (.inl (some (0, 0, 0))), ([], [], []), (0, 0)),
  (.inr (43, [some (2, 365, 0), some (1, 2, 0), some (1, 3, 0), some (0, 0, 0), some (0, 0, 0), none, none], []), ([(0, 0, 19), (0, 1, 8)], [], []), (0, 0))])
theorem dAC : b_sgc c_K (b_orc c_K [] 3000 2) dA [43] 3000 = true := by decide +kernel
def dB : BSg := ((171, 43), ([some (2, 365, 0), some (1, 2, 0), some (1, 3, 0), some (1, 4, 0), some (1, 5, 0), none, none], [], ([(0, (-2147483648), 2147483647), (0, (-2147483648), 2147483647), (0, 0, 19), (0, 1, 8), (0, 0, 8), (0, 0, 8)], [], [(0, 0, 0), (4, 5, 0)])), [], [
  (.inr (76, [some (2, 365, 0), some (1, 2, 0), some (1, 3, 0), some (1, 4, 0), none, none, none], []), ([], [], []), (0, 0)),
  (.inr (43, [some (2, 365, 0), some (1, 2, 0), some (1, 3, 0), some (1, 6, 0), some (1, 7, 0), none, none], []), ([(0, 0, 8), (0, 0, 8), (0, 1, 8), (0, 0, 9), (0, 0, 9), (64, 0, 0), (0, 0, 0)], [((2, 365, 0), (0, 0, 45), (1, 8, 0)), ((2, 375, 0), (1, 5, 0), (1, 9, 0)), ((2, 368, 0), (1, 2, 0), (1, 10, 0)), ((2, 377, 0), (1, 2, 0), (3, 11, 0)), ((3, 11, 0), (1, 5, 0), (1, 12, 0))], [(6, 4, 1), (4, 6, (-1)), (7, 5, 1), (5, 7, (-1)), (5, 8, (-1)), (9, 10, (-1))]), (0, 0)),
  (.inr (43, [some (2, 365, 0), some (1, 2, 0), some (1, 3, 0), some (1, 6, 0), some (1, 7, 0), none, none], []), ([(0, 0, 8), (0, 0, 8), (0, 1, 8), (0, 0, 9), (0, 0, 9), (64, 0, 0), (0, 0, 0)], [((2, 365, 0), (0, 0, 45), (1, 8, 0)), ((2, 375, 0), (1, 5, 0), (1, 9, 0)), ((2, 368, 0), (1, 2, 0), (1, 10, 0)), ((2, 377, 0), (1, 2, 0), (3, 11, 0)), ((3, 11, 0), (1, 5, 0), (1, 12, 0))], [(6, 4, 1), (4, 6, (-1)), (7, 5, 1), (5, 7, (-1)), (5, 8, (-1)), (10, 9, (-1))]), (0, 0)),
  (.inr (43, [some (2, 365, 0), some (1, 2, 0), some (1, 3, 0), some (1, 4, 0), some (1, 6, 0), none, none], []), ([(0, 0, 8)], [], [(6, 5, 1), (5, 6, (-1))]), (0, 0))])
theorem dBC : b_sgc c_K (b_orc c_K [] 3000 2) dB [43, 76] 3000 = true := by decide +kernel
def dC : BSg := ((171, 76), ([some (2, 365, 0), some (1, 2, 0), some (1, 3, 0), some (1, 4, 0), none, none, none], [], ([(0, (-2147483648), 2147483647), (0, (-2147483648), 2147483647), (0, 0, 19), (0, 1, 8), (0, 0, 8)], [], [])), [(50, 55)], [
  (.inl (.inl (some (0, 0, 0))), ([], [], []), (0, 0)),
  (.inr (99, [some (2, 365, 0), some (1, 2, 0), some (1, 3, 0), none, some (0, 0, 0), none, none], []), ([], [], [(3, 4, 0)]), (0, 0))])
theorem dCC : b_sgc c_K (b_orc c_K [] 3000 2) dC [99] 3000 = true := by decide +kernel
def dD : BSg := ((171, 99), ([some (2, 365, 0), some (1, 2, 0), some (1, 3, 0), none, some (1, 4, 0), none, none], [], ([(0, (-2147483648), 2147483647), (0, (-2147483648), 2147483647), (0, 0, 19), (0, 1, 8), (0, 0, 8)], [], [])), [], [
  (.inr (105, [some (2, 365, 0), some (1, 2, 0), some (1, 3, 0), none, some (1, 5, 0), none, none], []), ([(0, 0, 7)], [], [(4, 5, 0), (5, 4, 0), (5, 3, (-1))]), (0, 0)),
  (.inr (194, [some (2, 365, 0), some (1, 2, 0), some (1, 3, 0), none, none, none, none], []), ([], [], []), (0, 0))])
theorem dDC : b_sgc c_K (b_orc c_K [] 3000 2) dD [105, 194] 3000 = true := by decide +kernel
def dR1 : BSg := ((171, 105), ([some (2, 365, 0), some (1, 2, 0), some (1, 3, 0), none, some (1, 5, 0), none, none], [], ([(0, (-2147483648), 2147483647), (0, (-2147483648), 2147483647), (0, 0, 19), (0, 1, 8), (0, 0, 8), (0, 0, 7), (0, 0, 7), (0, 1, 8), (0, 0, 9), (0, 0, 9), (64, 0, 0), (0, 0, 0)], [((2, 365, 0), (0, 0, 45), (1, 7, 0)), ((2, 375, 0), (1, 6, 0), (1, 8, 0)), ((2, 368, 0), (1, 2, 0), (1, 9, 0)), ((2, 377, 0), (1, 2, 0), (3, 10, 0)), ((3, 10, 0), (1, 6, 0), (1, 11, 0))], [(6, 7, (-1)), (8, 9, (-1))])), [], [
  (.inr (176, [some (2, 365, 0), some (1, 2, 0), some (1, 3, 0), none, some (1, 5, 0), some (1, 12, 0), none], [(0, 0, 1), (1, 12, 0), (3, 10, 0)]), ([(0, 0, 7)], [], []), (0, 0))])
def dR1T : List BCu := [(111, [some (2, 365, 0), some (1, 2, 0), some (1, 3, 0), none, some (1, 5, 0), some (1, 12, 0), some (1, 13, 0)], ([(0, (-2147483648), 2147483647), (0, (-2147483648), 2147483647), (0, 0, 19), (0, 1, 8), (0, 0, 8), (0, 0, 7), (0, 0, 7), (0, 1, 8), (0, 0, 9), (0, 0, 9), (64, 0, 0), (0, 0, 0), (0, (-1), 7), (0, 0, 7)], [((2, 365, 0), (0, 0, 45), (1, 7, 0)), ((2, 375, 0), (1, 6, 0), (1, 8, 0)), ((2, 368, 0), (1, 2, 0), (1, 9, 0)), ((2, 377, 0), (1, 2, 0), (3, 10, 0)), ((3, 10, 0), (1, 6, 0), (1, 11, 0))], [(6, 7, (-1)), (8, 9, (-1)), (13, 6, 0), (13, 7, (-1))]), ([(13, (-1))], 20), some (13, 6)),
  (111, [some (2, 365, 0), some (1, 2, 0), some (1, 3, 0), none, some (1, 5, 0), some (1, 12, 0), some (1, 13, 0)], ([(0, (-2147483648), 2147483647), (0, (-2147483648), 2147483647), (0, 0, 19), (0, 1, 8), (0, 0, 8), (0, 0, 7), (0, 0, 7), (0, 1, 8), (0, 0, 9), (0, 0, 9), (64, 0, 0), (0, 0, 0), (0, 0, 7), (0, 0, 8)], [((2, 365, 0), (0, 0, 45), (1, 7, 0)), ((2, 375, 0), (1, 6, 0), (1, 8, 0)), ((2, 368, 0), (1, 2, 0), (1, 9, 0)), ((2, 377, 0), (1, 2, 0), (3, 10, 0)), ((3, 10, 0), (1, 6, 0), (1, 11, 0))], [(6, 7, (-1)), (8, 9, (-1))]), ([(13, (-1))], 20), none)]
theorem dR1C : b_rgc c_K (b_orc c_K [] 3000 2) dR1 dR1T [176] 3000 = true := by decide +kernel
def dR2 : BSg := ((171, 105), ([some (2, 365, 0), some (1, 2, 0), some (1, 3, 0), none, some (1, 5, 0), none, none], [], ([(0, (-2147483648), 2147483647), (0, (-2147483648), 2147483647), (0, 0, 19), (0, 1, 8), (0, 0, 8), (0, 0, 7), (0, 0, 7), (0, 1, 8), (0, 0, 9), (0, 0, 9), (64, 0, 0), (0, 0, 0)], [((2, 365, 0), (0, 0, 45), (1, 7, 0)), ((2, 375, 0), (1, 6, 0), (1, 8, 0)), ((2, 368, 0), (1, 2, 0), (1, 9, 0)), ((2, 377, 0), (1, 2, 0), (3, 10, 0)), ((3, 10, 0), (1, 6, 0), (1, 11, 0))], [(6, 7, (-1)), (9, 8, (-1))])), [], [
  (.inr (176, [some (2, 365, 0), some (1, 2, 0), some (1, 3, 0), none, some (1, 5, 0), some (1, 12, 0), none], [(0, 0, 1), (1, 12, 0), (3, 10, 0)]), ([(0, 0, 7)], [], []), (0, 0))])
def dR2T : List BCu := [(111, [some (2, 365, 0), some (1, 2, 0), some (1, 3, 0), none, some (1, 5, 0), some (1, 12, 0), some (1, 13, 0)], ([(0, (-2147483648), 2147483647), (0, (-2147483648), 2147483647), (0, 0, 19), (0, 1, 8), (0, 0, 8), (0, 0, 7), (0, 0, 7), (0, 1, 8), (0, 0, 9), (0, 0, 9), (64, 0, 0), (0, 0, 0), (0, (-1), 7), (0, 0, 7)], [((2, 365, 0), (0, 0, 45), (1, 7, 0)), ((2, 375, 0), (1, 6, 0), (1, 8, 0)), ((2, 368, 0), (1, 2, 0), (1, 9, 0)), ((2, 377, 0), (1, 2, 0), (3, 10, 0)), ((3, 10, 0), (1, 6, 0), (1, 11, 0))], [(6, 7, (-1)), (9, 8, (-1)), (13, 6, 0), (13, 7, (-1))]), ([(13, (-1))], 20), some (13, 6)),
  (111, [some (2, 365, 0), some (1, 2, 0), some (1, 3, 0), none, some (1, 5, 0), some (1, 12, 0), some (1, 13, 0)], ([(0, (-2147483648), 2147483647), (0, (-2147483648), 2147483647), (0, 0, 19), (0, 1, 8), (0, 0, 8), (0, 0, 7), (0, 0, 7), (0, 1, 8), (0, 0, 9), (0, 0, 9), (64, 0, 0), (0, 0, 0), (0, 0, 7), (0, 0, 8)], [((2, 365, 0), (0, 0, 45), (1, 7, 0)), ((2, 375, 0), (1, 6, 0), (1, 8, 0)), ((2, 368, 0), (1, 2, 0), (1, 9, 0)), ((2, 377, 0), (1, 2, 0), (3, 10, 0)), ((3, 10, 0), (1, 6, 0), (1, 11, 0))], [(6, 7, (-1)), (9, 8, (-1))]), ([(13, (-1))], 20), none)]
theorem dR2C : b_rgc c_K (b_orc c_K [] 3000 2) dR2 dR2T [176] 3000 = true := by decide +kernel
def dG : BSg := ((171, 177), ([some (2, 365, 0), some (1, 2, 0), some (1, 3, 0), none, some (1, 4, 0), some (1, 5, 0), none], [], ([(0, (-2147483648), 2147483647), (0, (-2147483648), 2147483647), (0, 0, 19), (0, 1, 8), (0, 0, 7), (0, 0, 7)], [], [])), [(61, 0)], [
  (.inr (99, [some (2, 365, 0), some (1, 2, 0), some (1, 3, 0), none, some (1, 4, 1), none, none], []), ([], [], []), (0, 0))])
theorem dGC : b_sgc c_K (b_orc c_K [] 3000 2) dG [99] 3000 = true := by decide +kernel
def dH : BSg := ((171, 194), ([some (2, 365, 0), some (1, 2, 0), some (1, 3, 0), none, none, none, none], [], ([(0, (-2147483648), 2147483647), (0, (-2147483648), 2147483647), (0, 0, 19), (0, 1, 8)], [], [])), [], [
  (.inl (.inl (some (1, 4, 0))), ([(0, 0, 8)], [], []), (0, 0))])
def dHT : List BCu := [(200, [some (2, 365, 0), some (1, 2, 0), some (1, 3, 0), none, some (1, 4, 0), some (1, 5, 0), none], ([(0, (-2147483648), 2147483647), (0, (-2147483648), 2147483647), (0, 0, 19), (0, 1, 8), (0, 0, 8), (0, 0, 8)], [], [(4, 5, 0)]), ([(5, (-1))], 20), none)]
theorem dHC : b_rgc c_K (b_orc c_K [] 3000 2) dH dHT [] 3000 = true := by decide +kernel
/-- a reader who may read a film -/
def dP (h : AH) (film k : Nat) : Prop := ∃ (r x y : Int32) (row : Nat), c_at h 365 45 = some (.int r) ∧ (k : Int) < r.toInt ∧ c_at h 375 k = some (.int x) ∧ c_at h 368 film = some (.int y) ∧ x ≠ y ∧ c_at h 377 film = some (.ref row) ∧ c_K.1 row = some 63 ∧ c_at h row k = some (.int 0)
theorem dP_frm {W : BW} {h h' : AH} (H : b_H c_K h) (f : b_frm c_K W h h') (w1 : W.contains (50, 45) = false) (w2 : W.contains (60, 0) = false) (w3 : W.contains (53, 0) = false) (w4 : W.contains (62, 0) = false) (w5 : W.contains (63, 0) = false) {film k : Nat} (p : dP h film k) : dP h' film k := by
  obtain ⟨r, x, y, row, p1, p2, p3, p4, p5, p6, p7, p8⟩ := p
  refine ⟨r, x, y, row, ?_, p2, ?_, ?_, p5, ?_, p7, ?_⟩
  · rw [f.kF H c_a365 c_q50 rfl w1]; exact p1
  · rw [f.k H c_a375 c_q60 (by decide) w2]; exact p3
  · rw [f.k H c_a368 c_q53 (by decide) w3]; exact p4
  · rw [f.k H c_a377 c_q62 (by decide) w4]; exact p6
  · rw [f.k H p7 c_q63 (by decide) w5]; exact p8
theorem c_ne {a b g g' : Nat} (h1 : c_K.1 a = some g) (h2 : c_K.1 b = some g') (h : g ≠ g') : a ≠ b := fun e => by
  subst e
  rw [h1] at h2
  cases h2
  exact h rfl
theorem dP_set {h : AH} {a n t : Nat} {vs : List Value} {w : Value} (ha : c_K.1 a = some 63) (h1 : h[a]? = some (t, vs)) (hn : n < vs.length) {film k : Nat} (hk : k ≠ n) (p : dP h film k) : dP (h.set a (t, vs.set n w)) film k := by
  obtain ⟨r, x, y, row, p1, p2, p3, p4, p5, p6, p7, p8⟩ := p
  have ne : ∀ {b g : Nat}, c_K.1 b = some g → g ≠ 63 → ∀ j, c_at (h.set a (t, vs.set n w)) b j = c_at h b j := fun hb hg j => by
    rw [c_at_set h1 hn, if_neg (fun q => c_ne hb ha hg q.1)]
  refine ⟨r, x, y, row, ?_, p2, ?_, ?_, p5, ?_, p7, ?_⟩
  · rw [ne c_a365 (by decide)]; exact p1
  · rw [ne c_a375 (by decide)]; exact p3
  · rw [ne c_a368 (by decide)]; exact p4
  · rw [ne c_a377 (by decide)]; exact p6
  · rw [c_at_set h1 hn, if_neg (fun q => hk q.2)]; exact p8
theorem c_ins171 : a_ins 171 176 = some (.bastore, 1) := by decide +kernel
def dE176 : BQ := dR1.2.1.2.2.1 ++ [(0, 0, 7)]
def dbl176 : BL := [some (2, 365, 0), some (1, 2, 0), some (1, 3, 0), none, some (1, 5, 0), some (1, 12, 0), none]
/-- the store, and on to the loop's head -/
theorem d176 {ν : BN} {h : AH} (g : b_G c_K ν h h (dE176, [], [], [], [])) (hc : ν 3 - ν 5 ≤ (c_cnt (dP h (ν 2).toNat) 8 : Int)) (ih : ∀ (ν' : BN) (h' : AH), b_G c_K ν' h' h' (dD.2.1.2.2.1, [], [], [], []) → ν' 2 = ν 2 → ν' 3 = ν 3 → ν' 4 = ν 5 + 1 → ν' 3 - ν' 4 ≤ (c_cnt (dP h' (ν' 2).toNat) 8 : Int) → b_gd c_K c_r171 2 99 dD.2.1.1 [] dD.2.1.2.2.1.length ν' h' 0 0) : b_gd c_K c_r171 2 176 dbl176 [(0, 0, 1), (1, 12, 0), (3, 10, 0)] dE176.length ν h 0 0 := by
  refine b_gd.put c_hJ (gg := 63) (row := (21, 8, 1, [(0, 0, 1)])) (ty := (0, 0, 1)) c_ins171 (by rfl) (by decide +kernel) rfl (by decide +kernel) (by decide) (by decide) g (fun a n t vs w ha hn hw h1 hl g1 => ?_)
  refine b_gd.cv (T := (dG.2.1.2.2.1, [], [])) (bl := dG.2.1.1) (bs := []) (σ := [(1, 0, 0), (1, 1, 0), (1, 2, 0), (1, 3, 0), (1, 5, 0), (1, 12, 0)]) (by decide +kernel) g1.bare (fun g2 => ?_)
  refine b_gd.sg c_hJ dO dGC rfl (by decide) (by decide) g2 (b_al.c ?_ b_al.n)
  intro ν3 h3 x3 g3
  refine b_pq.to rfl ?_
  refine b_gd.cv (T := (dD.2.1.2.2.1, [], [])) (bl := dD.2.1.1) (bs := []) (σ := [(1, 0, 0), (1, 1, 0), (1, 2, 0), (1, 3, 0), (1, 4, 1)]) (by decide +kernel) g3 (fun g4 => ?_)
  have e2 : ν3 2 = ν 2 := (x3.2 2 (by decide)).trans (by show ν 2 + 0 = ν 2; omega)
  have e3 : ν3 3 = ν 3 := (x3.2 3 (by decide)).trans (by show ν 3 + 0 = ν 3; omega)
  have e4 : ν3 4 = ν 5 := (x3.2 4 (by decide)).trans (by show ν 5 + 0 = ν 5; omega)
  have k2 : b_vT [(1, 0, 0), (1, 1, 0), (1, 2, 0), (1, 3, 0), (1, 4, 1)] ν3 2 = ν 2 := by show ν3 2 + 0 = ν 2; omega
  have k3 : b_vT [(1, 0, 0), (1, 1, 0), (1, 2, 0), (1, 3, 0), (1, 4, 1)] ν3 3 = ν 3 := by show ν3 3 + 0 = ν 3; omega
  have k4 : b_vT [(1, 0, 0), (1, 1, 0), (1, 2, 0), (1, 3, 0), (1, 4, 1)] ν3 4 = ν 5 + 1 := by show ν3 4 + 1 = ν 5 + 1; omega
  refine ih _ _ g4 k2 k3 k4 ?_
  rw [k2, k3, k4]
  have hrow : c_K.1 a = some 63 := b_gr_ok g.1 ha (by decide +kernel)
  have H1 := g1.2.2.2.2.1
  have F3 := g3.2.2.2.2.2
  have c1 : c_cnt (dP h (ν 2).toNat) 8 ≤ c_cnt (dP h3 (ν 2).toNat) 8 + 1 := c_cnt_one (m := n) fun k _ hk p => dP_frm H1 F3 (by decide) (by decide) (by decide) (by decide) (by decide) (dP_set hrow h1 hl hk p)
  omega
theorem d99 : ∀ (m : Nat) (ν : BN) (h : AH), b_G c_K ν h h (dD.2.1.2.2.1, [], [], [], []) → (ν 3 - ν 4).toNat < m → ν 3 - ν 4 ≤ (c_cnt (dP h (ν 2).toNat) 8 : Int) → b_gd c_K c_r171 2 99 dD.2.1.1 [] dD.2.1.2.2.1.length ν h 0 0
  | 0, ν, h, g, hm, hc => absurd hm (Nat.not_lt_zero _)
  | m + 1, ν, h, g, hm, hc => by
    refine b_gd.sg c_hJ dO dDC rfl (by decide) (by decide) g (b_al.c ?_ (b_al.c ?_ b_al.n))
    · intro ν1 h1 x1 g1
      refine b_pq.to rfl ?_
      have k1 : ν1 4 ≤ ν1 5 + 0 := g1.co (by decide)
      have k2 : ν1 5 ≤ ν1 4 + 0 := g1.co (by decide)
      have k3 : ν1 5 ≤ ν1 3 + (-1) := g1.co (by decide)
      have n2 : ν1 2 = ν 2 := x1.2 2 (by decide)
      have n3 : ν1 3 = ν 3 := x1.2 3 (by decide)
      have n4 : ν1 4 = ν 4 := x1.2 4 (by decide)
      have iv2 := g1.iv 2 (lo := 0) (hi := 19) rfl
      have iv3 := g1.iv 3 (lo := 1) (hi := 8) rfl
      have iv5 := g1.iv 5 (lo := 0) (hi := 7) rfl
      have H1 := g1.2.2.2.2.1
      have cc : c_cnt (dP h (ν 2).toNat) 8 ≤ c_cnt (dP h1 (ν 2).toNat) 8 := c_cnt_le fun k _ p => dP_frm g.2.2.2.2.1 g1.2.2.2.2.2 (by decide) (by decide) (by decide) (by decide) (by decide) p
      have cp : 0 < c_cnt (dP h1 (ν 2).toNat) 8 := by omega
      obtain ⟨w, w1, r, x, y, row, p1, p2, p3, p4, p5, p6, p7, p8⟩ := c_cnt_pos cp
      have tr : r.toInt ≤ 8 := by
        obtain ⟨z, z1, z2, z3⟩ := H1.rdI (j := 45) (lo := 0) (hi := 8) c_a365 c_q50 (by decide) (by decide) rfl
        rw [p1] at z1
        cases z1
        exact z3
      have tx : 0 ≤ x.toInt ∧ x.toInt ≤ 9 := by
        obtain ⟨z, z1, z2⟩ := H1.rdI (j := w) (lo := 0) (hi := 9) c_a375 c_q60 (by decide) w1 rfl
        rw [p3] at z1
        cases z1
        exact z2
      have ty : 0 ≤ y.toInt ∧ y.toInt ≤ 9 := by
        obtain ⟨z, z1, z2⟩ := H1.rdI (j := (ν 2).toNat) (lo := 0) (hi := 9) c_a368 c_q53 (by decide) (show (ν 2).toNat < 20 by omega) rfl
        rw [p4] at z1
        cases z1
        exact z2
      have hxy : x.toInt ≠ y.toInt := fun e => p5 (Int32.toInt_inj.mp e)
      generalize hν : (fun n => match n with
        | 6 => (w : Int)
        | 7 => r.toInt
        | 8 => x.toInt
        | 9 => y.toInt
        | 10 => (row : Int)
        | 11 => 0
        | n => ν1 n : BN) = ν2
      have hx : ∀ n, n < 6 → ν2 n = ν1 n := fun n hn => by
        rw [← hν]
        rcases n with _ | _ | _ | _ | _ | _ | n <;> first | rfl | (exfalso; omega)
      have v6 : ν2 6 = w := by subst hν; rfl
      have v7 : ν2 7 = r.toInt := by subst hν; rfl
      have v8 : ν2 8 = x.toInt := by subst hν; rfl
      have v9 : ν2 9 = y.toInt := by subst hν; rfl
      have v10 : ν2 10 = row := by subst hν; rfl
      have v11 : ν2 11 = 0 := by subst hν; rfl
      have v2 := hx 2 (by decide)
      have cond : ∀ (c : Nat × Nat × Int), c.1 < 12 → c.2.1 < 12 → ν2 c.1 ≤ ν2 c.2.1 + c.2.2 → b_G c_K ν2 h1 h1 (dR1.2.1.2.2.1, [((2, 365, 0), (0, 0, 45), (1, 7, 0)), ((2, 375, 0), (1, 6, 0), (1, 8, 0)), ((2, 368, 0), (1, 2, 0), (1, 9, 0)), ((2, 377, 0), (1, 2, 0), (3, 10, 0)), ((3, 10, 0), (1, 6, 0), (1, 11, 0))], [(6, 7, (-1)), c], [], []) := fun c c1 c2 c3 => by
        have g2 := g1.ad (ν' := ν2) (E' := [(0, 0, 7), (0, 1, 8), (0, 0, 9), (0, 0, 9), (64, 0, 0), (0, 0, 0)]) (F' := [((2, 365, 0), (0, 0, 45), (1, 7, 0)), ((2, 375, 0), (1, 6, 0), (1, 8, 0)), ((2, 368, 0), (1, 2, 0), (1, 9, 0)), ((2, 377, 0), (1, 2, 0), (3, 10, 0)), ((3, 10, 0), (1, 6, 0), (1, 11, 0))]) (C' := [(6, 7, (-1)), c]) hx
          ⟨by show b_q _ _ (ν2 6); rw [v6]; exact b_q.i (by omega) (by omega), by show b_q _ _ (ν2 7); rw [v7]; exact b_q.i (by omega) (by omega), by show b_q _ _ (ν2 8); rw [v8]; exact b_q.i (by omega) (by omega), by show b_q _ _ (ν2 9); rw [v9]; exact b_q.i (by omega) (by omega), by show b_q _ _ (ν2 10); rw [v10]; exact b_q.r p7, by show b_q _ _ (ν2 11); rw [v11]; exact b_q.i (by omega) (by omega), trivial⟩
          ⟨b_fa.mk p1 (Or.inl ⟨rfl, rfl⟩) (Or.inl ⟨rfl, rfl⟩) (Or.inr ⟨rfl, by decide, by show _ = ν2 7 + 0; omega⟩),
           b_fa.mk p3 (Or.inl ⟨rfl, rfl⟩) (Or.inr ⟨rfl, by decide, by show _ = ν2 6 + 0; omega⟩) (Or.inr ⟨rfl, by decide, by show _ = ν2 8 + 0; omega⟩),
           b_fa.mk p4 (Or.inl ⟨rfl, rfl⟩) (Or.inr ⟨rfl, by decide, by show _ = ν2 2 + 0; omega⟩) (Or.inr ⟨rfl, by decide, by show _ = ν2 9 + 0; omega⟩),
           b_fa.mk p6 (Or.inl ⟨rfl, rfl⟩) (Or.inr ⟨rfl, by decide, by show _ = ν2 2 + 0; omega⟩) (Or.inr ⟨rfl, by decide, by show _ = ν2 10; omega⟩),
           b_fa.mk p8 (Or.inr ⟨rfl, by decide, by show _ = ν2 10; omega⟩) (Or.inr ⟨rfl, by decide, by show _ = ν2 6 + 0; omega⟩) (Or.inr ⟨rfl, by decide, by show (0 : Int) = ν2 11 + 0; omega⟩), trivial⟩
          ⟨⟨by decide, by decide, by show ν2 6 ≤ ν2 7 + (-1); omega⟩, ⟨c1, c2, c3⟩, trivial⟩
        exact ⟨g2.1, g2.2.1, (fun c' hc' => g2.2.2.1 c' (by
          rcases List.mem_cons.mp hc' with e | e
          · rw [e]; exact List.mem_cons_self
          · rw [List.mem_singleton.mp e]; exact List.mem_cons_of_mem _ List.mem_cons_self)), (fun o ho => by cases ho), g2.2.2.2.2.1, b_frm.rf⟩
      have go : ∀ (ν3 : BN) (h3 : AH), b_ext 12 13 ν2 ν3 → b_G c_K ν3 h1 h3 (dE176, [], [], [], []) → b_gd c_K c_r171 2 176 dbl176 [(0, 0, 1), (1, 12, 0), (3, 10, 0)] dE176.length ν3 h3 0 0 := fun ν3 h3 x3 g3 => by
        have m2 : ν3 2 = ν 2 := (x3.2 2 (by decide)).trans (v2.trans n2)
        have m3 : ν3 3 = ν 3 := (x3.2 3 (by decide)).trans ((hx 3 (by decide)).trans n3)
        have m5 : ν3 5 = ν1 5 := (x3.2 5 (by decide)).trans (hx 5 (by decide))
        refine d176 g3.here ?_ (fun ν' h' g' e2 e3 e4 hc' => d99 m ν' h' g' (by omega) hc')
        have c2 : c_cnt (dP h1 (ν 2).toNat) 8 ≤ c_cnt (dP h3 (ν 2).toNat) 8 := c_cnt_le fun k _ p => dP_frm H1 g3.2.2.2.2.2 (by decide) (by decide) (by decide) (by decide) (by decide) p
        rw [m2]
        omega
      refine b_gd.more (N' := 12) (ν' := ν2) ⟨by decide, hx⟩ (by decide) ?_
      rcases Int.lt_or_gt_of_ne hxy with hlt | hgt
      · refine b_gd.rg c_hJ dO dR1C rfl (by decide) (by decide) (cond (8, 9, -1) (by decide) (by decide) (by show ν2 8 ≤ ν2 9 + (-1); omega)) (b_al.c ?_ b_al.n)
        intro ν3 h3 x3 g3
        exact b_pq.to rfl (go ν3 h3 x3 g3)
      · refine b_gd.rg c_hJ dO dR2C rfl (by decide) (by decide) (cond (9, 8, -1) (by decide) (by decide) (by show ν2 9 ≤ ν2 8 + (-1); omega)) (b_al.c ?_ b_al.n)
        intro ν3 h3 x3 g3
        exact b_pq.to rfl (go ν3 h3 x3 g3)
    · intro ν1 h1 x1 g1
      refine b_pq.to rfl ?_
      refine b_gd.cv (T := (dH.2.1.2.2.1, [], [])) (bl := dH.2.1.1) (bs := []) (σ := [(1, 0, 0), (1, 1, 0), (1, 2, 0), (1, 3, 0)]) (by decide +kernel) g1 (fun g2 => ?_)
      refine b_gd.rg c_hJ dO dHC rfl (by decide) (by decide) g2 (b_al.c ?_ b_al.n)
      intro ν3 h3 x3 g3
      exact b_pq.int (lo := 0) (hi := 8) (by decide) g3
theorem d43 : ∀ (m : Nat) (ν : BN) (h : AH), b_G c_K ν h h (dB.2.1.2.2.1, [], [], [], []) → ν 4 ≤ ν 5 → (8 - ν 5).toNat < m → ν 4 ≤ (c_cnt (dP h (ν 2).toNat) (ν 5).toNat : Int) → b_gd c_K c_r171 2 43 dB.2.1.1 [] dB.2.1.2.2.1.length ν h 0 0
  | 0, ν, h, g, _, hm, hc => absurd hm (Nat.not_lt_zero _)
  | m + 1, ν, h, g, h45, hm, hc => by
    have g0 := g.ad (ν' := ν) (E' := []) (F' := []) (C' := [(0, 0, 0), (4, 5, 0)]) (fun _ _ => rfl) trivial trivial ⟨⟨by decide, by decide, by show ν 0 ≤ ν 0 + 0; omega⟩, ⟨by decide, by decide, by show ν 4 ≤ ν 5 + 0; omega⟩, trivial⟩
    have iv5 := g.iv 5 (lo := 0) (hi := 8) rfl
    have dp : ∀ (h1 : AH), b_frm c_K [] h h1 → ∀ n, c_cnt (dP h (ν 2).toNat) n ≤ c_cnt (dP h1 (ν 2).toNat) n := fun h1 f n => c_cnt_le fun k _ p => dP_frm g.2.2.2.2.1 f (by decide) (by decide) (by decide) (by decide) (by decide) p
    have up : ∀ (ν1 : BN) (h1 : AH) (E : BQ) (F : BF) (C : BC), b_ext 6 13 ν ν1 → b_G c_K ν1 h h1 (dB.2.1.2.2.1 ++ [(0, 0, 8), (0, 0, 8), (0, 1, 8), (0, 0, 9), (0, 0, 9), (64, 0, 0), (0, 0, 0)], F, C, [], []) → ν1 6 = ν 4 + 1 → ν1 7 = ν 5 + 1 → dP h1 (ν 2).toNat (ν 5).toNat → b_gd c_K c_r171 2 43 [some (2, 365, 0), some (1, 2, 0), some (1, 3, 0), some (1, 6, 0), some (1, 7, 0), none, none] [] 13 ν1 h1 0 0 := fun ν1 h1 E F C x1 g1 a1 a2 a3 => by
      have g1' : b_G c_K ν1 h1 h1 (dB.2.1.2.2.1 ++ [(0, 0, 8), (0, 0, 8), (0, 1, 8), (0, 0, 9), (0, 0, 9), (64, 0, 0), (0, 0, 0)], [], [], [], []) := ⟨g1.1, (fun f hf => by cases hf), (fun f hf => by cases hf), (fun f hf => by cases hf), g1.2.2.2.2.1, b_frm.rf⟩
      refine b_gd.cv (T := (dB.2.1.2.2.1, [], [])) (bl := dB.2.1.1) (bs := []) (σ := [(1, 0, 0), (1, 1, 0), (1, 2, 0), (1, 3, 0), (1, 6, 0), (1, 7, 0)]) (by decide +kernel) g1' (fun g2 => ?_)
      have k2 : b_vT [(1, 0, 0), (1, 1, 0), (1, 2, 0), (1, 3, 0), (1, 6, 0), (1, 7, 0)] ν1 2 = ν 2 := by show ν1 2 + 0 = ν 2; have := x1.2 2 (by decide); omega
      have k4 : b_vT [(1, 0, 0), (1, 1, 0), (1, 2, 0), (1, 3, 0), (1, 6, 0), (1, 7, 0)] ν1 4 = ν 4 + 1 := by show ν1 6 + 0 = _; omega
      have k5 : b_vT [(1, 0, 0), (1, 1, 0), (1, 2, 0), (1, 3, 0), (1, 6, 0), (1, 7, 0)] ν1 5 = ν 5 + 1 := by show ν1 7 + 0 = _; omega
      have iv7 := g1'.iv 7 (lo := 0) (hi := 8) rfl
      refine d43 m _ _ g2 (by rw [k4, k5]; omega) (by rw [k5]; omega) ?_
      rw [k2, k4, k5, show (ν 5 + 1).toNat = (ν 5).toNat + 1 by omega, c_cnt_s.1 a3]
      have := dp h1 g1.2.2.2.2.2 (ν 5).toNat
      omega
    have wit : ∀ (ν1 : BN) (h1 : AH) (F : BF) (C : BC), b_ext 6 13 ν ν1 → b_G c_K ν1 h h1 (dB.2.1.2.2.1 ++ [(0, 0, 8), (0, 0, 8), (0, 1, 8), (0, 0, 9), (0, 0, 9), (64, 0, 0), (0, 0, 0)], [((2, 365, 0), (0, 0, 45), (1, 8, 0)), ((2, 375, 0), (1, 5, 0), (1, 9, 0)), ((2, 368, 0), (1, 2, 0), (1, 10, 0)), ((2, 377, 0), (1, 2, 0), (3, 11, 0)), ((3, 11, 0), (1, 5, 0), (1, 12, 0))], C, [], []) → ν1 5 ≤ ν1 8 + (-1) → ν1 9 ≠ ν1 10 → dP h1 (ν 2).toNat (ν 5).toNat := fun ν1 h1 F C x1 g1 c1 c2 => by
      have m2 := x1.2 2 (by decide)
      have m5 := x1.2 5 (by decide)
      have iv2 := g1.iv 2 (lo := 0) (hi := 19) rfl
      have iv12 := g1.iv 12 (lo := 0) (hi := 0) rfl
      obtain ⟨a, a1, a2⟩ := g1.1.rf (n := 11) (g := 63) rfl
      obtain ⟨r, r1, r2⟩ := g1.rdF (a := 365) (j := 45) (m := 8) (k' := 0) (by rfl)
      obtain ⟨x, y1, y2⟩ := g1.rd (a := 375) (n := 5) (m := 9) (k := 0) (k' := 0) (by rfl) (j := (ν 5).toNat) (by omega)
      obtain ⟨y, z1, z2⟩ := g1.rd (a := 368) (n := 2) (m := 10) (k := 0) (k' := 0) (by rfl) (j := (ν 2).toNat) (by omega)
      obtain ⟨b, b1, b2⟩ := g1.rdA (a := 377) (n := 2) (m := 11) (k := 0) (by rfl) (j := (ν 2).toNat) (by omega)
      obtain ⟨c, v, v1, v2, v3⟩ := g1.rd2 (p := 11) (n := 5) (m := 12) (k := 0) (k' := 0) (by rfl) (j := (ν 5).toNat) (by omega)
      have e1 : b = a := by omega
      have e2 : c = a := by omega
      rw [e1] at b1
      rw [e2] at v2
      refine ⟨r, x, y, a, r1, by omega, y1, z1, fun e => c2 (by rw [e] at y2; omega), b1, a2, ?_⟩
      have e3 : v.toInt = 0 := by omega
      have z0 : (0 : Int32).toInt = 0 := by decide
      rw [v2, show v = 0 from Int32.toInt_inj.mp (by omega)]
    refine b_gd.sg c_hJ dO dBC rfl (by decide) (by decide) (g0.wk (by decide)) (b_al.c ?_ (b_al.c ?_ (b_al.c ?_ (b_al.c ?_ b_al.n))))
    · intro ν1 h1 x1 g1
      refine b_pq.to rfl ?_
      refine b_gd.cv (T := (dC.2.1.2.2.1, [], [])) (bl := dC.2.1.1) (bs := []) (σ := [(1, 0, 0), (1, 1, 0), (1, 2, 0), (1, 3, 0), (1, 4, 0)]) (by decide +kernel) g1 (fun g2 => ?_)
      refine b_gd.sg c_hJ dO dCC rfl (by decide) (by decide) g2 (b_al.c ?_ (b_al.c ?_ b_al.n))
      · intro ν3 h3 x3 g3
        exact b_pq.int (lo := 0) (hi := 8) (by decide) g3
      · intro ν3 h3 x3 g3
        refine b_pq.to rfl ?_
        have c34 : ν3 3 ≤ ν3 4 + 0 := g3.co (by decide)
        have e2 : ν3 2 = ν 2 := (x3.2 2 (by decide)).trans (by show ν1 2 + 0 = ν 2; have := x1.2 2 (by decide); omega)
        have e4 : ν3 4 = ν 4 := (x3.2 4 (by decide)).trans (by show ν1 4 + 0 = ν 4; have := x1.2 4 (by decide); omega)
        refine b_gd.cv (T := (dD.2.1.2.2.1, [], [])) (bl := dD.2.1.1) (bs := []) (σ := [(1, 0, 0), (1, 1, 0), (1, 2, 0), (1, 3, 0), (0, 0, 0)]) (by decide +kernel) g3 (fun g4 => ?_)
        have k2 : b_vT [(1, 0, 0), (1, 1, 0), (1, 2, 0), (1, 3, 0), (0, 0, 0)] ν3 2 = ν 2 := by show ν3 2 + 0 = ν 2; omega
        have k3 : b_vT [(1, 0, 0), (1, 1, 0), (1, 2, 0), (1, 3, 0), (0, 0, 0)] ν3 3 = ν3 3 := by show ν3 3 + 0 = ν3 3; omega
        have k4 : b_vT [(1, 0, 0), (1, 1, 0), (1, 2, 0), (1, 3, 0), (0, 0, 0)] ν3 4 = 0 := rfl
        refine d99 _ _ _ g4 (Nat.lt_succ_self _) ?_
        rw [k2, k3, k4]
        have c1 := dp h1 g1.2.2.2.2.2 8
        have c2 : c_cnt (dP h1 (ν 2).toNat) 8 ≤ c_cnt (dP h3 (ν 2).toNat) 8 := c_cnt_le fun k _ p => dP_frm g1.2.2.2.2.1 g3.2.2.2.2.2 (by decide) (by decide) (by decide) (by decide) (by decide) p
        have c3 : c_cnt (dP h (ν 2).toNat) (ν 5).toNat ≤ c_cnt (dP h (ν 2).toNat) 8 := c_cnt_mono (by omega)
        omega
    · intro ν1 h1 x1 g1
      have k1 : ν1 6 ≤ ν1 4 + 1 := g1.co (by decide)
      have k2 : ν1 4 ≤ ν1 6 + (-1) := g1.co (by decide)
      have k3 : ν1 7 ≤ ν1 5 + 1 := g1.co (by decide)
      have k4 : ν1 5 ≤ ν1 7 + (-1) := g1.co (by decide)
      have k5 : ν1 5 ≤ ν1 8 + (-1) := g1.co (by decide)
      have k6 : ν1 9 ≤ ν1 10 + (-1) := g1.co (by decide)
      have m4 := x1.2 4 (by decide)
      have m5 := x1.2 5 (by decide)
      exact b_pq.to rfl (up ν1 h1 [] _ _ x1 g1 (by omega) (by omega) (wit ν1 h1 [] _ x1 g1 k5 (by omega)))
    · intro ν1 h1 x1 g1
      have k1 : ν1 6 ≤ ν1 4 + 1 := g1.co (by decide)
      have k2 : ν1 4 ≤ ν1 6 + (-1) := g1.co (by decide)
      have k3 : ν1 7 ≤ ν1 5 + 1 := g1.co (by decide)
      have k4 : ν1 5 ≤ ν1 7 + (-1) := g1.co (by decide)
      have k5 : ν1 5 ≤ ν1 8 + (-1) := g1.co (by decide)
      have k6 : ν1 10 ≤ ν1 9 + (-1) := g1.co (by decide)
      have m4 := x1.2 4 (by decide)
      have m5 := x1.2 5 (by decide)
      exact b_pq.to rfl (up ν1 h1 [] _ _ x1 g1 (by omega) (by omega) (wit ν1 h1 [] _ x1 g1 k5 (by omega)))
    · intro ν1 h1 x1 g1
      refine b_pq.to rfl ?_
      have k3 : ν1 6 ≤ ν1 5 + 1 := g1.co (by decide)
      have k4 : ν1 5 ≤ ν1 6 + (-1) := g1.co (by decide)
      have m2 := x1.2 2 (by decide)
      have m4 := x1.2 4 (by decide)
      have m5 := x1.2 5 (by decide)
      refine b_gd.cv (T := (dB.2.1.2.2.1, [], [])) (bl := dB.2.1.1) (bs := []) (σ := [(1, 0, 0), (1, 1, 0), (1, 2, 0), (1, 3, 0), (1, 4, 0), (1, 6, 0)]) (by decide +kernel) g1 (fun g2 => ?_)
      have e2 : b_vT [(1, 0, 0), (1, 1, 0), (1, 2, 0), (1, 3, 0), (1, 4, 0), (1, 6, 0)] ν1 2 = ν 2 := by show ν1 2 + 0 = ν 2; omega
      have e4 : b_vT [(1, 0, 0), (1, 1, 0), (1, 2, 0), (1, 3, 0), (1, 4, 0), (1, 6, 0)] ν1 4 = ν 4 := by show ν1 4 + 0 = _; omega
      have e5 : b_vT [(1, 0, 0), (1, 1, 0), (1, 2, 0), (1, 3, 0), (1, 4, 0), (1, 6, 0)] ν1 5 = ν 5 + 1 := by show ν1 6 + 0 = _; omega
      have iv6 := g1.iv 6 (lo := 0) (hi := 8) rfl
      refine d43 m _ _ g2 (by rw [e4, e5]; omega) (by rw [e5]; omega) ?_
      rw [e2, e4, e5, show (ν 5 + 1).toNat = (ν 5).toNat + 1 by omega]
      have := dp h1 g1.2.2.2.2.2 (ν 5).toNat
      have := c_cnt_up (p := dP h1 (ν 2).toNat) (n := (ν 5).toNat)
      omega
/-- JuryreelModel.deal(II)I -/
theorem c_v171 : b_valid c_K c_r171 := b_gd.valid (d := 2) rfl (by decide +kernel) fun ν h g => by
  refine b_gd.sg (S := dA) c_hJ dO dAC rfl (by decide) (by decide) g (b_al.c ?_ (b_al.c ?_ b_al.n))
  · intro ν3 h3 x3 g3
    exact b_pq.int (lo := 0) (hi := 8) (by decide) g3
  · intro ν1 h1 x1 g1
    refine b_pq.to rfl ?_
    refine b_gd.cv (T := (dB.2.1.2.2.1, [], [])) (bl := dB.2.1.1) (bs := []) (σ := [(1, 0, 0), (1, 1, 0), (1, 2, 0), (1, 3, 0), (0, 0, 0), (0, 0, 0)]) (by decide +kernel) g1 (fun g2 => ?_)
    have e4 : b_vT [(1, 0, 0), (1, 1, 0), (1, 2, 0), (1, 3, 0), (0, 0, 0), (0, 0, 0)] ν1 4 = 0 := rfl
    have e5 : b_vT [(1, 0, 0), (1, 1, 0), (1, 2, 0), (1, 3, 0), (0, 0, 0), (0, 0, 0)] ν1 5 = 0 := rfl
    exact d43 _ _ _ g2 (by rw [e4, e5]; exact Int.le_refl _) (Nat.lt_succ_self _) (by rw [e4]; omega)
