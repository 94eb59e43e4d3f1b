/-! plan: as many are left as are still to set, and there is room for them -/
def c_r210 : BRw := (210, 4, ([(2, 365, 0), (1, 0, 0)], ([(0, 0, 19)], [], [])), [], [(.inl (some (1, 1, 0)), ([(0, 0, 1)], [], []), (0, 0))])
def c_c210 : List BCu := [(4, [some (2, 365, 0), some (1, 0, 0), some (1, 1, 0), some (1, 2, 0)], ([(0, 0, 19), (0, 0, 1), (0, 0, 60)], [], []), ([(2, (-2))], 120), none)]
/-- JuryreelModel.hasToCome(I)Z -/
theorem c_v210 : b_valid c_K c_r210 := b_chk_ok c_hJ (d := 3) (F := 3000) (R := c_r210) (cuts := c_c210) (b_orc_ok c_hJ (tab := []) (fun _ h => absurd h List.not_mem_nil) 3000 3) rfl (by decide +kernel)
theorem pO : b_cal c_K (b_lim 5) (b_orc c_K [c_r210, c_r208] 3000 5) := b_orc_ok c_hJ (List.forall_mem_cons.mpr ⟨c_v210, List.forall_mem_cons.mpr ⟨c_v208, fun _ h => absurd h List.not_mem_nil⟩⟩) 3000 5
def pA : BSg := ((211, 0), ([some (2, 365, 0), some (1, 0, 0), none, none, none, none, none], [], ([(0, (-2147483648), 2147483647)], [], [])), [(50, 55)], [
  (.inl (.inl (some (0, 0, 0))), ([], [], []), (0, 0)),
  (.inr (19, [some (2, 365, 0), some (1, 1, 0), some (0, 0, 0), some (0, 0, 0), none, none, none], []), ([(0, 0, 4)], [], []), (0, 0))])
theorem pAC : b_sgc c_K (b_orc c_K [c_r210, c_r208] 3000 5) pA [19] 3000 = true := by decide +kernel
def pB : BSg := ((211, 19), ([some (2, 365, 0), some (1, 1, 0), some (1, 2, 0), some (1, 3, 0), none, none, none], [], ([(0, (-2147483648), 2147483647), (0, 0, 4), (0, 0, 20), (0, 0, 20)], [], [(2, 3, 0)])), [], [
  (.inr (79, [some (2, 365, 0), some (1, 1, 0), some (1, 2, 0), none, none, none, none], []), ([], [], []), (0, 0)),
  (.inr (55, [some (2, 365, 0), some (1, 1, 0), some (1, 4, 0), some (1, 5, 0), none, none, none], [(0, 0, 1), (1, 5, 0), (2, 769, 0)]), ([(0, 0, 19), (0, 0, 19), (0, 1, 20)], [((2, 365, 0), (0, 0, 44), (1, 6, 0))], [(4, 2, 0), (2, 4, 0), (5, 3, 0), (3, 5, 0), (5, 6, (-1))]), (0, 0)),
  (.inr (55, [some (2, 365, 0), some (1, 1, 0), some (1, 4, 0), some (1, 5, 0), none, none, none], [(0, 0, 0), (1, 5, 0), (2, 769, 0)]), ([(0, 0, 19), (0, 0, 19), (0, 1, 20)], [((2, 365, 0), (0, 0, 44), (1, 6, 0))], [(4, 2, 0), (2, 4, 0), (5, 3, 0), (3, 5, 0), (5, 6, (-1))]), (0, 0))])
theorem pBC : b_sgc c_K (b_orc c_K [c_r210, c_r208] 3000 5) pB [79, 55] 3000 = true := by decide +kernel
def pC1 : BSg := ((211, 56), ([some (2, 365, 0), some (1, 1, 0), some (1, 2, 0), some (1, 3, 0), none, none, none], [], ([(0, (-2147483648), 2147483647), (0, 0, 4), (0, 0, 19), (0, 0, 19)], [((2, 769, 0), (1, 3, 0), (0, 0, 1))], [])), [], [
  (.inr (19, [some (2, 365, 0), some (1, 1, 0), some (1, 2, 1), some (1, 3, 1), none, none, none], []), ([], [], []), (0, 0))])
theorem pC1C : b_sgc c_K (b_orc c_K [c_r210, c_r208] 3000 5) pC1 [19] 3000 = true := by decide +kernel
def pC0 : BSg := ((211, 56), ([some (2, 365, 0), some (1, 1, 0), some (1, 2, 0), some (1, 3, 0), none, none, none], [], ([(0, (-2147483648), 2147483647), (0, 0, 4), (0, 0, 19), (0, 0, 19)], [((2, 769, 0), (1, 3, 0), (0, 0, 0))], [])), [], [
  (.inr (19, [some (2, 365, 0), some (1, 1, 0), some (1, 2, 0), some (1, 3, 1), none, none, none], []), ([], [], []), (0, 0))])
theorem pC0C : b_sgc c_K (b_orc c_K [c_r210, c_r208] 3000 5) pC0 [19] 3000 = true := by decide +kernel
def pD : BSg := ((211, 79), ([some (2, 365, 0), some (1, 1, 0), some (1, 2, 0), none, none, none, none], [], ([(0, (-2147483648), 2147483647), (0, 0, 4), (0, 0, 20)], [], [])), [], [
  (.inr (85, [some (2, 365, 0), some (1, 1, 0), some (1, 2, 0), none, none, none, none], [(1, 2, 0), (1, 3, 0), (2, 365, 0)]), ([(0, 0, 60)], [((2, 365, 0), (0, 0, 49), (1, 3, 0))], []), (0, 0))])
theorem pDC : b_sgc c_K (b_orc c_K [c_r210, c_r208] 3000 5) pD [85] 3000 = true := by decide +kernel
def pE : BSg := ((211, 86), ([some (2, 365, 0), some (1, 1, 0), some (1, 2, 0), none, none, none, none], [(1, 4, 0), (2, 365, 0)], ([(0, (-2147483648), 2147483647), (0, 0, 4), (0, 0, 20), (0, 0, 60), (0, 61, 80)], [((2, 365, 0), (0, 0, 49), (1, 3, 0))], [])), [(50, 55)], [
  (.inl (.inl (some (0, 0, 0))), ([], [], []), (0, 0))])
theorem pEC : b_sgc c_K (b_orc c_K [c_r210, c_r208] 3000 5) pE [110] 3000 = true := by decide +kernel
def pF : BSg := ((211, 86), ([some (2, 365, 0), some (1, 1, 0), some (1, 2, 0), none, none, none, none], [(1, 4, 0), (2, 365, 0)], ([(0, (-2147483648), 2147483647), (0, 0, 4), (0, 0, 20), (0, 0, 60), (0, 0, 60)], [((2, 365, 0), (0, 0, 49), (1, 3, 0))], [])), [(50, 55)], [
  (.inr (110, [some (2, 365, 0), some (1, 1, 0), some (1, 2, 0), some (0, 0, 0), some (0, 0, 0), none, none], []), ([], [((2, 365, 0), (0, 0, 49), (1, 3, 0))], []), (0, 0))])
theorem pFC : b_sgc c_K (b_orc c_K [c_r210, c_r208] 3000 5) pF [110] 3000 = true := by decide +kernel
def pG : BSg := ((211, 110), ([some (2, 365, 0), some (1, 1, 0), some (1, 2, 0), some (1, 3, 0), some (1, 4, 0), none, none], [], ([(0, (-2147483648), 2147483647), (0, 0, 4), (0, 0, 20), (0, 0, 20), (0, 0, 20)], [], [(3, 4, 0)])), [], [
  (.inl (.inl (some (1, 3, 0))), ([], [], []), (0, 0)),
  (.inr (116, [some (2, 365, 0), some (1, 1, 0), some (1, 2, 0), some (1, 5, 0), some (1, 6, 0), none, none], []), ([(0, 0, 19), (0, 0, 19)], [], [(5, 3, 0), (3, 5, 0), (6, 4, 0), (4, 6, 0), (6, 2, (-1))]), (0, 0))])
theorem pGC : b_sgc c_K (b_orc c_K [c_r210, c_r208] 3000 5) pG [116] 3000 = true := by decide +kernel
def pH : BSg := ((211, 116), ([some (2, 365, 0), some (1, 1, 0), some (1, 2, 0), some (1, 3, 0), some (1, 4, 0), none, none], [], ([(0, (-2147483648), 2147483647), (0, 0, 4), (0, 0, 20), (0, 0, 19), (0, 0, 19), (0, 0, 19), (0, 1, 20)], [((2, 365, 0), (0, 0, 44), (1, 6, 0)), ((2, 769, 0), (1, 5, 0), (0, 0, 1))], [(5, 6, (-1))])), [], [
  (.inr (185, [some (2, 365, 0), some (1, 1, 0), some (1, 2, 0), some (1, 3, 0), some (1, 4, 0), some (1, 7, 0), none], [(0, 0, 0), (1, 7, 0), (2, 769, 0)]), ([(0, 0, 19)], [], []), (0, 0))])
def pHT : List BCu := [(122, [some (2, 365, 0), some (1, 1, 0), some (1, 2, 0), some (1, 3, 0), some (1, 4, 0), some (1, 7, 0), some (1, 8, 0)], ([(0, (-2147483648), 2147483647), (0, 0, 4), (0, 0, 20), (0, 0, 19), (0, 0, 19), (0, 0, 19), (0, 1, 20), (0, (-1), 19), (0, 0, 19)], [((2, 365, 0), (0, 0, 44), (1, 6, 0)), ((2, 769, 0), (1, 5, 0), (0, 0, 1))], [(5, 6, (-1)), (8, 5, 0), (8, 6, (-1))]), ([(8, (-1))], 20), some (8, 5)),
  (122, [some (2, 365, 0), some (1, 1, 0), some (1, 2, 0), some (1, 3, 0), some (1, 4, 0), some (1, 7, 0), some (1, 8, 0)], ([(0, (-2147483648), 2147483647), (0, 0, 4), (0, 0, 20), (0, 0, 19), (0, 0, 19), (0, 0, 19), (0, 1, 20), (0, 0, 19), (0, 0, 20)], [((2, 365, 0), (0, 0, 44), (1, 6, 0)), ((2, 769, 0), (1, 5, 0), (0, 0, 1))], [(5, 6, (-1))]), ([(8, (-1))], 20), none)]
theorem pHC : b_rgc c_K (b_orc c_K [c_r210, c_r208] 3000 5) pH pHT [185] 3000 = true := by decide +kernel
def pI : BSg := ((211, 186), ([some (2, 365, 0), some (1, 1, 0), some (1, 2, 0), some (1, 3, 0), some (1, 4, 0), some (1, 5, 0), none], [], ([(0, (-2147483648), 2147483647), (0, 0, 4), (0, 0, 20), (0, 0, 19), (0, 0, 19), (0, 0, 19), (0, 0, 59)], [((2, 365, 0), (0, 0, 49), (1, 6, 0))], [])), [(50, 49), (50, 53), (77, 0), (78, 0), (79, 0), (106, 0), (107, 0)], [
  (.inr (110, [some (2, 365, 0), some (1, 1, 0), some (1, 2, 0), some (1, 3, 0), some (1, 4, 1), none, none], []), ([], [((2, 365, 0), (0, 0, 49), (1, 6, 0))], []), (0, 0)),
  (.inr (110, [some (2, 365, 0), some (1, 1, 0), some (1, 2, 0), some (1, 3, 1), some (1, 4, 1), none, none], []), ([], [((2, 365, 0), (0, 0, 49), (1, 6, 1))], []), (0, 0))])
theorem pIC : b_sgc c_K (b_orc c_K [c_r210, c_r208] 3000 5) pI [110] 3000 = true := by decide +kernel
theorem b_rowX {K : BH} {E : BQ} {a g : Nat} {z : Int} {row : BR} (h1 : K.1 a = some g) (h2 : K.2.1 g = some row) : b_row K E (2, a, z) = some (g, row) := by
  unfold b_row b_gr
  rw [if_pos rfl]
  show (K.1 a).bind _ = _
  rw [h1]
  show (K.2.1 g).map _ = _
  rw [h2]
  rfl
/-- a film that is left -/
def lP (h : AH) (k : Nat) : Prop := ∃ f : Int32, c_at h 365 44 = some (.int f) ∧ (k : Int) < f.toInt ∧ c_at h 769 k = some (.int 1)
theorem lP_frm {W : BW} {h h' : AH} (H : b_H c_K h) (f : b_frm c_K W h h') (w1 : W.contains (50, 44) = false) (w2 : W.contains (108, 0) = false) {k : Nat} (p : lP h k) : lP h' k := by
  obtain ⟨r, p1, p2, p3⟩ := p
  refine ⟨r, ?_, p2, ?_⟩
  · rw [f.kF H c_a365 c_q50 rfl w1]; exact p1
  · rw [f.k H c_a769 c_q108 (by decide) w2]; exact p3
theorem lP_set {h : AH} {n t : Nat} {vs : List Value} {w : Value} (h1 : h[769]? = some (t, vs)) (hn : n < vs.length) {k : Nat} (hk : k ≠ n) (p : lP h k) : lP (h.set 769 (t, vs.set n w)) k := by
  obtain ⟨r, p1, p2, p3⟩ := p
  refine ⟨r, ?_, p2, ?_⟩
  · rw [c_at_set h1 hn, if_neg (fun q => by omega)]; exact p1
  · rw [c_at_set h1 hn, if_neg (fun q => hk q.2)]; exact p3
theorem c_one {N : Nat} {ν : BN} {k n : Int} {m : Nat} {w : Value} (h : b_v N ν (0, m, k) w) (e : k = n) : ∃ x : Int32, w = .int x ∧ x.toInt = n := by
  obtain ⟨x, rfl, hx⟩ := h.int (by show 0 < 2; decide)
  exact ⟨x, rfl, hx.k.trans e⟩
theorem c_is1 {x : Int32} (h : x.toInt = 1) : x = 1 := Int32.toInt_inj.mp (by have z : (1 : Int32).toInt = 1 := by decide
                                                                              omega)
theorem c_is0 {x : Int32} (h : x.toInt = 0) : x = 0 := Int32.toInt_inj.mp (by have z : (0 : Int32).toInt = 0 := by decide
                                                                              omega)
theorem pI55 : a_ins 211 55 = some (.bastore, 1) := by decide +kernel
theorem pI85 : a_ins 211 85 = some (.iadd, 1) := by decide +kernel
theorem pI185 : a_ins 211 185 = some (.bastore, 1) := by decide +kernel
def pE185 : BQ := pH.2.1.2.2.1 ++ [(0, 0, 19)]
theorem p185 {ν : BN} {h : AH} {x : Int32} (g : b_G c_K ν h h (pE185, [], [], [], [])) (hx : c_at h 365 49 = some (.int x)) (hs : x.toInt + (ν 2 - ν 4) ≤ 60) (h24 : ν 4 < ν 2) (h34 : ν 3 ≤ ν 4) (hc : ν 2 - ν 4 ≤ (c_cnt (lP h) 20 : Int))
    (ih : ∀ (ν' : BN) (h' : AH) (x' : Int32), b_G c_K ν' h' h' (pG.2.1.2.2.1, [], [], [], []) → ν' 2 = ν 2 → ν' 4 = ν 4 + 1 → ν' 3 ≤ ν' 4 → c_at h' 365 49 = some (.int x') → x'.toInt + (ν' 2 - ν' 4) ≤ 60 → ν' 2 - ν' 4 ≤ (c_cnt (lP h') 20 : Int) → b_gd c_K c_r211 5 110 pG.2.1.1 [] pG.2.1.2.2.1.length ν' h' 0 0) : b_gd c_K c_r211 5 185 [some (2, 365, 0), some (1, 1, 0), some (1, 2, 0), some (1, 3, 0), some (1, 4, 0), some (1, 7, 0), none] [(0, 0, 0), (1, 7, 0), (2, 769, 0)] pE185.length ν h 0 0 := by
  refine b_gd.putP (gg := 108) (row := (21, 20, 1, [(0, 0, 1)])) (ty := (0, 0, 1)) pI185 (b_rowX c_a769 c_q108) (by decide +kernel) rfl (by decide +kernel) (by decide) (by decide) g (fun a n t vs w ha hn hw h1 hl => by
    obtain rfl := ha.k
    obtain ⟨x, rfl, hx⟩ := c_one hw rfl
    exact c_J_left0 g.2.2.2.2.1.2 h1 (by rw [c_is0 hx]; decide)) (fun a n t vs w ha hn hw h1 hl g1 => ?_)
  have ea := ha.k
  subst ea
  have H1 := g1.2.2.2.2.1
  have x1 : c_at (h.set 769 (t, vs.set n w)) 365 49 = some (.int x) := by rw [c_at_set h1 hl, if_neg (fun q => by omega)]; exact hx
  have tx : 0 ≤ x.toInt := by
    obtain ⟨z, z1, z2, z3⟩ := H1.rdI (j := 49) (lo := 0) (hi := 60) c_a365 c_q50 (by decide) (by decide) rfl
    rw [x1] at z1
    cases z1
    exact z2
  have g2 := g1.bare.ad (ν' := b_nu ν 8 x.toInt) (E' := [(0, 0, 59)]) (F' := [((2, 365, 0), (0, 0, 49), (1, 8, 0))]) (C' := []) (fun n hn => if_neg (Nat.ne_of_lt hn)) ⟨by show b_q _ _ (b_nu ν 8 x.toInt 8); rw [b_nu_n]; exact b_q.i (by omega) (by omega), trivial⟩ ⟨b_fa.mk x1 (Or.inl ⟨rfl, rfl⟩) (Or.inl ⟨rfl, rfl⟩) (Or.inr ⟨rfl, by decide, by show _ = b_nu ν 8 x.toInt 8 + 0; rw [b_nu_n]; omega⟩), trivial⟩ trivial
  refine b_gd.more (N' := 9) (ν' := b_nu ν 8 x.toInt) ⟨by decide, fun n hn => if_neg (Nat.ne_of_lt hn)⟩ (by decide) ?_
  refine b_gd.cv (G := (pE185 ++ [(0, 0, 59)], [((2, 365, 0), (0, 0, 49), (1, 8, 0))], [], [], [])) (T := (pI.2.1.2.2.1, pI.2.1.2.2.2.1, [])) (bl := pI.2.1.1) (bs := []) (σ := [(1, 0, 0), (1, 1, 0), (1, 2, 0), (1, 3, 0), (1, 4, 0), (1, 7, 0), (1, 8, 0)]) (by decide +kernel) g2 (fun g3 => ?_)
  have ev : ∀ k, k < 8 → b_nu ν 8 x.toInt k = ν k := fun k hk => if_neg (Nat.ne_of_lt hk)
  have v2 : b_vT [(1, 0, 0), (1, 1, 0), (1, 2, 0), (1, 3, 0), (1, 4, 0), (1, 7, 0), (1, 8, 0)] (b_nu ν 8 x.toInt) 2 = ν 2 := by show b_nu ν 8 x.toInt 2 + 0 = _; rw [ev 2 (by decide)]; omega
  have v3 : b_vT [(1, 0, 0), (1, 1, 0), (1, 2, 0), (1, 3, 0), (1, 4, 0), (1, 7, 0), (1, 8, 0)] (b_nu ν 8 x.toInt) 3 = ν 3 := by show b_nu ν 8 x.toInt 3 + 0 = _; rw [ev 3 (by decide)]; omega
  have v4 : b_vT [(1, 0, 0), (1, 1, 0), (1, 2, 0), (1, 3, 0), (1, 4, 0), (1, 7, 0), (1, 8, 0)] (b_nu ν 8 x.toInt) 4 = ν 4 := by show b_nu ν 8 x.toInt 4 + 0 = _; rw [ev 4 (by decide)]; omega
  have v6 : b_vT [(1, 0, 0), (1, 1, 0), (1, 2, 0), (1, 3, 0), (1, 4, 0), (1, 7, 0), (1, 8, 0)] (b_nu ν 8 x.toInt) 6 = x.toInt := by show b_nu ν 8 x.toInt 8 + 0 = _; rw [b_nu_n]; omega
  have cnt : ∀ h3, b_frm c_K pI.2.2.1 (h.set 769 (t, vs.set n w)) h3 → c_cnt (lP h) 20 ≤ c_cnt (lP h3) 20 + 1 := fun h3 f => c_cnt_one (m := n) fun k _ hk p => lP_frm H1 f (by decide) (by decide) (lP_set h1 hl hk p)
  refine b_gd.sg c_hJ pO pIC rfl (by decide) (by decide) g3 (b_al.c ?_ (b_al.c ?_ b_al.n))
  · intro ν3 h3 x3 g4
    refine b_pq.to rfl ?_
    obtain ⟨y, y1, y2⟩ := g4.rdF (a := 365) (j := 49) (m := 6) (k' := 0) (by rfl)
    have m2 := x3.2 2 (by decide)
    have m3 := x3.2 3 (by decide)
    have m4 := x3.2 4 (by decide)
    have m6 := x3.2 6 (by decide)
    have cc := cnt h3 g4.2.2.2.2.2
    refine b_gd.cv (T := (pG.2.1.2.2.1, [], [])) (bl := pG.2.1.1) (bs := []) (σ := [(1, 0, 0), (1, 1, 0), (1, 2, 0), (1, 3, 0), (1, 4, 1)]) (by decide +kernel) g4 (fun g5 => ?_)
    have e2 : b_vT [(1, 0, 0), (1, 1, 0), (1, 2, 0), (1, 3, 0), (1, 4, 1)] ν3 2 = ν 2 := by show ν3 2 + 0 = _; omega
    have e3 : b_vT [(1, 0, 0), (1, 1, 0), (1, 2, 0), (1, 3, 0), (1, 4, 1)] ν3 3 = ν 3 := by show ν3 3 + 0 = _; omega
    have e4 : b_vT [(1, 0, 0), (1, 1, 0), (1, 2, 0), (1, 3, 0), (1, 4, 1)] ν3 4 = ν 4 + 1 := by show ν3 4 + 1 = _; omega
    exact ih _ _ y g5 e2 e4 (by rw [e3, e4]; omega) y1 (by rw [e2, e4]; omega) (by rw [e2, e4]; omega)
  · intro ν3 h3 x3 g4
    refine b_pq.to rfl ?_
    obtain ⟨y, y1, y2⟩ := g4.rdF (a := 365) (j := 49) (m := 6) (k' := 1) (by rfl)
    have m2 := x3.2 2 (by decide)
    have m3 := x3.2 3 (by decide)
    have m4 := x3.2 4 (by decide)
    have m6 := x3.2 6 (by decide)
    have cc := cnt h3 g4.2.2.2.2.2
    refine b_gd.cv (T := (pG.2.1.2.2.1, [], [])) (bl := pG.2.1.1) (bs := []) (σ := [(1, 0, 0), (1, 1, 0), (1, 2, 0), (1, 3, 1), (1, 4, 1)]) (by decide +kernel) g4 (fun g5 => ?_)
    have e2 : b_vT [(1, 0, 0), (1, 1, 0), (1, 2, 0), (1, 3, 1), (1, 4, 1)] ν3 2 = ν 2 := by show ν3 2 + 0 = _; omega
    have e3 : b_vT [(1, 0, 0), (1, 1, 0), (1, 2, 0), (1, 3, 1), (1, 4, 1)] ν3 3 = ν 3 + 1 := by show ν3 3 + 1 = _; omega
    have e4 : b_vT [(1, 0, 0), (1, 1, 0), (1, 2, 0), (1, 3, 1), (1, 4, 1)] ν3 4 = ν 4 + 1 := by show ν3 4 + 1 = _; omega
    exact ih _ _ y g5 e2 e4 (by rw [e3, e4]; omega) y1 (by rw [e2, e4]; omega) (by rw [e2, e4]; omega)
theorem p110 : ∀ (m : Nat) (ν : BN) (h : AH) (x : Int32), b_G c_K ν h h (pG.2.1.2.2.1, [], [], [], []) → ν 3 ≤ ν 4 → (ν 2 - ν 4).toNat < m → c_at h 365 49 = some (.int x) → x.toInt + (ν 2 - ν 4) ≤ 60 → ν 2 - ν 4 ≤ (c_cnt (lP h) 20 : Int) → b_gd c_K c_r211 5 110 pG.2.1.1 [] pG.2.1.2.2.1.length ν h 0 0
  | 0, ν, h, x, g, _, hm, _, _, _ => absurd hm (Nat.not_lt_zero _)
  | m + 1, ν, h, x, g, h34, hm, hx, hs, hc => by
    have g0 := g.ad (ν' := ν) (E' := []) (F' := []) (C' := [(3, 4, 0)]) (fun _ _ => rfl) trivial trivial ⟨⟨by decide, by decide, by show ν 3 ≤ ν 4 + 0; omega⟩, trivial⟩
    refine b_gd.sg c_hJ pO pGC rfl (by decide) (by decide) (g0.wk (by decide)) (b_al.c ?_ (b_al.c ?_ b_al.n))
    · intro ν3 h3 x3 g3
      exact b_pq.int (lo := 0) (hi := 60) (by decide) g3
    · intro ν1 h1 x1 g1
      refine b_pq.to rfl ?_
      have k1 : ν1 5 ≤ ν1 3 + 0 := g1.co (by decide)
      have k2 : ν1 3 ≤ ν1 5 + 0 := g1.co (by decide)
      have k3 : ν1 6 ≤ ν1 4 + 0 := g1.co (by decide)
      have k4 : ν1 4 ≤ ν1 6 + 0 := g1.co (by decide)
      have k5 : ν1 6 ≤ ν1 2 + (-1) := g1.co (by decide)
      have m2 := x1.2 2 (by decide)
      have m3 := x1.2 3 (by decide)
      have m4 := x1.2 4 (by decide)
      have H := g.2.2.2.2.1
      have H1 := g1.2.2.2.2.1
      have f1 := g1.2.2.2.2.2
      have cc : c_cnt (lP h) 20 ≤ c_cnt (lP h1) 20 := c_cnt_le fun k _ p => lP_frm H f1 (by decide) (by decide) p
      have hx1 : c_at h1 365 49 = some (.int x) := by rw [f1.kF H c_a365 c_q50 rfl rfl]; exact hx
      obtain ⟨w, w1, f, p1, p2, p3⟩ := c_cnt_pos (p := lP h1) (n := 20) (by omega)
      have tf : f.toInt ≤ 20 := by
        obtain ⟨z, z1, z2, z3⟩ := H1.rdI (j := 44) (lo := 0) (hi := 20) c_a365 c_q50 (by decide) (by decide) rfl
        rw [p1] at z1
        cases z1
        exact z3
      refine b_gd.cv (T := ([(0, -2147483648, 2147483647), (0, 0, 4), (0, 0, 20), (0, 0, 19), (0, 0, 19)], [], [])) (bl := pH.2.1.1) (bs := []) (σ := [(1, 0, 0), (1, 1, 0), (1, 2, 0), (1, 5, 0), (1, 6, 0)]) (by decide +kernel) g1 (fun g2 => ?_)
      generalize hν : b_vT [(1, 0, 0), (1, 1, 0), (1, 2, 0), (1, 5, 0), (1, 6, 0)] ν1 = ν2 at g2 ⊢
      have v2 : ν2 2 = ν 2 := by rw [← hν]; show ν1 2 + 0 = _; omega
      have v3 : ν2 3 = ν 3 := by rw [← hν]; show ν1 5 + 0 = _; omega
      have v4 : ν2 4 = ν 4 := by rw [← hν]; show ν1 6 + 0 = _; omega
      generalize hν3 : (fun n => match n with
        | 5 => (w : Int)
        | 6 => f.toInt
        | n => ν2 n : BN) = ν3
      have hx3 : ∀ n, n < 5 → ν3 n = ν2 n := fun n hn => by
        rw [← hν3]
        rcases n with _ | _ | _ | _ | _ | n <;> first | rfl | (exfalso; omega)
      have v5 : ν3 5 = w := by subst hν3; rfl
      have v6 : ν3 6 = f.toInt := by subst hν3; rfl
      have g3 := g2.ad (ν' := ν3) (E' := [(0, 0, 19), (0, 1, 20)]) (F' := [((2, 365, 0), (0, 0, 44), (1, 6, 0)), ((2, 769, 0), (1, 5, 0), (0, 0, 1))]) (C' := [(5, 6, (-1))]) hx3
        ⟨by show b_q _ _ (ν3 5); rw [v5]; exact b_q.i (by omega) (by omega), by show b_q _ _ (ν3 6); rw [v6]; exact b_q.i (by omega) (by omega), trivial⟩
        ⟨b_fa.mk p1 (Or.inl ⟨rfl, rfl⟩) (Or.inl ⟨rfl, rfl⟩) (Or.inr ⟨rfl, by decide, by show _ = ν3 6 + 0; omega⟩), b_fa.mk p3 (Or.inl ⟨rfl, rfl⟩) (Or.inr ⟨rfl, by decide, by show _ = ν3 5 + 0; omega⟩) (Or.inl ⟨rfl, by decide⟩), trivial⟩
        ⟨⟨by decide, by decide, by show ν3 5 ≤ ν3 6 + (-1); omega⟩, trivial⟩
      refine b_gd.more (N' := 7) (ν' := ν3) ⟨by decide, hx3⟩ (by decide) ?_
      refine b_gd.rg c_hJ pO pHC rfl (by decide) (by decide) g3 (b_al.c ?_ b_al.n)
      intro ν4 h4 x4 g4
      refine b_pq.to rfl ?_
      have n2 : ν4 2 = ν 2 := (x4.2 2 (by decide)).trans ((hx3 2 (by decide)).trans v2)
      have n3 : ν4 3 = ν 3 := (x4.2 3 (by decide)).trans ((hx3 3 (by decide)).trans v3)
      have n4 : ν4 4 = ν 4 := (x4.2 4 (by decide)).trans ((hx3 4 (by decide)).trans v4)
      have f4 := g4.2.2.2.2.2
      have c4 : c_cnt (lP h1) 20 ≤ c_cnt (lP h4) 20 := c_cnt_le fun k _ p => lP_frm H1 f4 (by decide) (by decide) p
      refine p185 (x := x) g4.bare (by rw [f4.kF H1 c_a365 c_q50 rfl rfl]; exact hx1) (by rw [n2, n4]; omega) (by omega) (by omega) (by omega) (fun ν' h' x' g' e2 e4 e34 hx' hs' hc' => p110 m ν' h' x' g' e34 (by omega) hx' hs' hc')
theorem p79 {ν : BN} {h : AH} (g : b_G c_K ν h h (pD.2.1.2.2.1, [], [], [], [])) (hc : ν 2 ≤ (c_cnt (lP h) 20 : Int)) : b_gd c_K c_r211 5 79 pD.2.1.1 [] pD.2.1.2.2.1.length ν h 0 0 := by
  refine b_gd.sg c_hJ pO pDC rfl (by decide) (by decide) g (b_al.c ?_ b_al.n)
  intro ν1 h1 x1 g1
  refine b_pq.to rfl ?_
  intro al st hl hs
  obtain ⟨v1, t1, rfl, a1, b1⟩ := hs.inv
  obtain ⟨v2, t2, rfl, a2, b2⟩ := b1.inv
  obtain ⟨y, rfl, y1⟩ := a1.int (by show 1 < 2; decide)
  obtain ⟨x, rfl, z1⟩ := a2.int (by show 1 < 2; decide)
  have y1 := y1.v
  have z1 := z1.v
  have iv2 := g1.iv 2 (lo := 0) (hi := 20) rfl
  have iv3 := g1.iv 3 (lo := 0) (hi := 60) rfl
  have e : (x + y).toInt = x.toInt + y.toInt := by rw [Int32.toInt_add, b_bm (by omega) (by omega)]
  have m2 := x1.2 2 (by decide)
  have cont : ∃ r, b_R 5 211 86 al (.int (x + y) :: t2) h1 0 0 r ∧ b_post c_K c_r211 ν1 h1 r := by
    have hx2 : ∀ n, n < 4 → b_nu ν1 4 (x + y).toInt n = ν1 n := fun n hn => if_neg (Nat.ne_of_lt hn)
    have hs2 : b_S 5 (b_nu ν1 4 (x + y).toInt) [(1, 4, 0), (2, 365, 0)] (.int (x + y) :: t2) := b_S.cons (Or.inr ⟨rfl, by decide, by show _ = b_nu ν1 4 (x + y).toInt 4 + 0; rw [b_nu_n]; omega⟩) (b2.ext b_nu_ext)
    by_cases hle : (x + y).toInt ≤ 60
    · have g2 := g1.ad (ν' := b_nu ν1 4 (x + y).toInt) (E' := [(0, 0, 60)]) (F' := []) (C' := []) hx2 ⟨by show b_q _ _ (b_nu ν1 4 (x + y).toInt 4); rw [b_nu_n]; exact b_q.i (by omega) hle, trivial⟩ trivial trivial
      have k : b_gd c_K c_r211 5 86 [some (2, 365, 0), some (1, 1, 0), some (1, 2, 0), none, none, none, none] [(1, 4, 0), (2, 365, 0)] 5 (b_nu ν1 4 (x + y).toInt) h1 0 0 := by
        refine b_gd.sg (S := pF) c_hJ pO pFC rfl (by decide) (by decide) (g2.wk (by decide)) (b_al.c ?_ b_al.n)
        intro ν3 h3 x3 g3
        refine b_pq.to rfl ?_
        obtain ⟨z, q1, q2⟩ := g3.rdF (a := 365) (j := 49) (m := 3) (k' := 0) (by rfl)
        have n2 : ν3 2 = ν1 2 := (x3.2 2 (by decide)).trans (hx2 2 (by decide))
        have n3 : ν3 3 = ν1 3 := (x3.2 3 (by decide)).trans (hx2 3 (by decide))
        refine b_gd.cv (T := (pG.2.1.2.2.1, [], [])) (bl := pG.2.1.1) (bs := []) (σ := [(1, 0, 0), (1, 1, 0), (1, 2, 0), (0, 0, 0), (0, 0, 0)]) (by decide +kernel) g3 (fun g4 => ?_)
        have w2 : b_vT [(1, 0, 0), (1, 1, 0), (1, 2, 0), (0, 0, 0), (0, 0, 0)] ν3 2 = ν 2 := by show ν3 2 + 0 = _; omega
        have w3 : b_vT [(1, 0, 0), (1, 1, 0), (1, 2, 0), (0, 0, 0), (0, 0, 0)] ν3 3 = 0 := rfl
        have w4 : b_vT [(1, 0, 0), (1, 1, 0), (1, 2, 0), (0, 0, 0), (0, 0, 0)] ν3 4 = 0 := rfl
        have c1 : c_cnt (lP h) 20 ≤ c_cnt (lP h1) 20 := c_cnt_le fun k _ p => lP_frm g.2.2.2.2.1 g1.2.2.2.2.2 (by decide) (by decide) p
        have c3 : c_cnt (lP h1) 20 ≤ c_cnt (lP h3) 20 := c_cnt_le fun k _ p => lP_frm g1.2.2.2.2.1 g3.2.2.2.2.2 (by decide) (by decide) p
        exact p110 _ _ _ z g4 (by rw [w3, w4]; omega) (Nat.lt_succ_self _) q1 (by rw [w2, w4]; omega) (by rw [w2, w4]; omega)
      obtain ⟨r, r1, r2⟩ := k al _ (hl.ext b_nu_ext) hs2
      exact ⟨r, r1, r2.ext (N := 5) ⟨by decide, fun n hn => hx2 n (by have hn : n < 1 := hn; omega)⟩⟩
    · have g2 := g1.ad (ν' := b_nu ν1 4 (x + y).toInt) (E' := [(0, 61, 80)]) (F' := []) (C' := []) hx2 ⟨by show b_q _ _ (b_nu ν1 4 (x + y).toInt 4); rw [b_nu_n]; exact b_q.i (by omega) (by omega), trivial⟩ trivial trivial
      have k : b_gd c_K c_r211 5 86 [some (2, 365, 0), some (1, 1, 0), some (1, 2, 0), none, none, none, none] [(1, 4, 0), (2, 365, 0)] 5 (b_nu ν1 4 (x + y).toInt) h1 0 0 := by
        refine b_gd.sg (S := pE) c_hJ pO pEC rfl (by decide) (by decide) (g2.wk (by decide)) (b_al.c ?_ b_al.n)
        intro ν3 h3 x3 g3
        exact b_pq.int (lo := 0) (hi := 60) (by decide) g3
      obtain ⟨r, r1, r2⟩ := k al _ (hl.ext b_nu_ext) hs2
      exact ⟨r, r1, r2.ext (N := 5) ⟨by decide, fun n hn => hx2 n (by have hn : n < 1 := hn; omega)⟩⟩
  obtain ⟨r, r1, r2⟩ := cont
  exact ⟨r, b_R.stp pI85 rfl rfl rfl (a_by2 rfl rfl) r1, r2⟩
theorem p19 : ∀ (m : Nat) (ν : BN) (h : AH), b_G c_K ν h h (pB.2.1.2.2.1, [], [], [], []) → ν 2 ≤ ν 3 → (20 - ν 3).toNat < m → ν 2 ≤ (c_cnt (lP h) (ν 3).toNat : Int) → b_gd c_K c_r211 5 19 pB.2.1.1 [] pB.2.1.2.2.1.length ν h 0 0
  | 0, ν, h, g, _, hm, _ => absurd hm (Nat.not_lt_zero _)
  | m + 1, ν, h, g, h23, hm, hc => by
    have g0 := g.ad (ν' := ν) (E' := []) (F' := []) (C' := [(2, 3, 0)]) (fun _ _ => rfl) trivial trivial ⟨⟨by decide, by decide, by show ν 2 ≤ ν 3 + 0; omega⟩, trivial⟩
    have iv3 := g.iv 3 (lo := 0) (hi := 20) rfl
    have H := g.2.2.2.2.1
    refine b_gd.sg c_hJ pO pBC rfl (by decide) (by decide) (g0.wk (by decide)) (b_al.c ?_ (b_al.c ?_ (b_al.c ?_ b_al.n)))
    · intro ν1 h1 x1 g1
      refine b_pq.to rfl ?_
      refine b_gd.cv (T := (pD.2.1.2.2.1, [], [])) (bl := pD.2.1.1) (bs := []) (σ := [(1, 0, 0), (1, 1, 0), (1, 2, 0)]) (by decide +kernel) g1 (fun g2 => ?_)
      refine p79 g2 ?_
      have e2 : b_vT [(1, 0, 0), (1, 1, 0), (1, 2, 0)] ν1 2 = ν 2 := by show ν1 2 + 0 = _; have := x1.2 2 (by decide); omega
      rw [e2]
      have c1 : c_cnt (lP h) 20 ≤ c_cnt (lP h1) 20 := c_cnt_le fun k _ p => lP_frm H g1.2.2.2.2.2 (by decide) (by decide) p
      have c3 : c_cnt (lP h) (ν 3).toNat ≤ c_cnt (lP h) 20 := c_cnt_mono (by omega)
      omega
    · intro ν1 h1 x1 g1
      refine b_pq.to rfl ?_
      have k1 : ν1 4 ≤ ν1 2 + 0 := g1.co (by decide)
      have k2 : ν1 2 ≤ ν1 4 + 0 := g1.co (by decide)
      have k3 : ν1 5 ≤ ν1 3 + 0 := g1.co (by decide)
      have k4 : ν1 3 ≤ ν1 5 + 0 := g1.co (by decide)
      have k5 : ν1 5 ≤ ν1 6 + (-1) := g1.co (by decide)
      have m2 := x1.2 2 (by decide)
      have m3 := x1.2 3 (by decide)
      have iv5 := g1.iv 5 (lo := 0) (hi := 19) rfl
      obtain ⟨f, f1, f2⟩ := g1.rdF (a := 365) (j := 44) (m := 6) (k' := 0) (by rfl)
      have fr1 := g1.2.2.2.2.2
      refine b_gd.putP (G := (pB.2.1.2.2.1 ++ [(0, 0, 19), (0, 0, 19), (0, 1, 20)], [], [], [], [])) (gg := 108) (row := (21, 20, 1, [(0, 0, 1)])) (ty := (0, 0, 1)) pI55 (b_rowX c_a769 c_q108) (by decide +kernel) rfl (by decide +kernel) (by decide) (by decide) g1.bare (fun a n t vs w ha hn hw e1 hl => by
        obtain rfl := ha.k
        have en := hn.v
        obtain ⟨x, rfl, hx⟩ := c_one hw rfl
        exact c_J_left g1.2.2.2.2.1.2 e1 (fun _ f' hf' => by rw [f1] at hf'; cases hf'; omega)) (fun a n t vs w ha hn hw e1 hl g2 => ?_)
      have ea := ha.k
      subst ea
      have en := hn.v
      obtain ⟨x, rfl, hx⟩ := c_one hw rfl
      have hx := c_is1 hx
      subst hx
      have H2 := g2.2.2.2.2.1
      have g3 := g2.wk (E := pB.2.1.2.2.1 ++ [(0, 0, 19), (0, 0, 19), (0, 1, 20)]) (F := [((2, 769, 0), (1, 5, 0), (0, 0, 1))]) (C := []) (by decide +kernel)
      refine b_gd.cv (G := (pB.2.1.2.2.1 ++ [(0, 0, 19), (0, 0, 19), (0, 1, 20)], [((2, 769, 0), (1, 5, 0), (0, 0, 1))], [], [], [])) (T := (pC1.2.1.2.2.1, pC1.2.1.2.2.2.1, [])) (bl := pC1.2.1.1) (bs := []) (σ := [(1, 0, 0), (1, 1, 0), (1, 4, 0), (1, 5, 0)]) (by decide +kernel) g3 (fun g4 => ?_)
      refine b_gd.sg (S := pC1) c_hJ pO pC1C rfl (by decide) (by decide) g4 (b_al.c ?_ b_al.n)
      intro ν3 h3 x3 g5
      refine b_pq.to rfl ?_
      have n2 : ν3 2 = ν1 4 := (x3.2 2 (by decide)).trans (by show ν1 4 + 0 = _; omega)
      have n3 : ν3 3 = ν1 5 := (x3.2 3 (by decide)).trans (by show ν1 5 + 0 = _; omega)
      refine b_gd.cv (T := (pB.2.1.2.2.1, [], [])) (bl := pB.2.1.1) (bs := []) (σ := [(1, 0, 0), (1, 1, 0), (1, 2, 1), (1, 3, 1)]) (by decide +kernel) g5 (fun g6 => ?_)
      have u2 : b_vT [(1, 0, 0), (1, 1, 0), (1, 2, 1), (1, 3, 1)] ν3 2 = ν 2 + 1 := by show ν3 2 + 1 = _; omega
      have u3 : b_vT [(1, 0, 0), (1, 1, 0), (1, 2, 1), (1, 3, 1)] ν3 3 = ν 3 + 1 := by show ν3 3 + 1 = _; omega
      have nn : n = (ν 3).toNat := by omega
      have cc : c_cnt (lP h) (ν 3).toNat ≤ c_cnt (lP h3) (ν 3).toNat := c_cnt_le fun k hk p => lP_frm H2 g5.2.2.2.2.2 (by decide) (by decide) (lP_set e1 hl (by omega) (lP_frm H fr1 (by decide) (by decide) p))
      refine p19 m _ _ g6 (by rw [u2, u3]; omega) (by rw [u3]; omega) ?_
      rw [u2, u3, show (ν 3 + 1).toNat = (ν 3).toNat + 1 by omega]
      have l1 : lP (h1.set 769 (t, vs.set n (.int 1))) (ν 3).toNat := ⟨f, by rw [c_at_set e1 hl, if_neg (fun q => by omega)]; exact f1, by omega, by rw [c_at_set e1 hl, if_pos ⟨rfl, nn.symm⟩]⟩
      have l3 := lP_frm H2 g5.2.2.2.2.2 (by decide) (by decide) l1
      rw [c_cnt_s.1 l3]
      omega
    · intro ν1 h1 x1 g1
      refine b_pq.to rfl ?_
      have k1 : ν1 4 ≤ ν1 2 + 0 := g1.co (by decide)
      have k2 : ν1 2 ≤ ν1 4 + 0 := g1.co (by decide)
      have k3 : ν1 5 ≤ ν1 3 + 0 := g1.co (by decide)
      have k4 : ν1 3 ≤ ν1 5 + 0 := g1.co (by decide)
      have k5 : ν1 5 ≤ ν1 6 + (-1) := g1.co (by decide)
      have m2 := x1.2 2 (by decide)
      have m3 := x1.2 3 (by decide)
      have iv5 := g1.iv 5 (lo := 0) (hi := 19) rfl
      obtain ⟨f, f1, f2⟩ := g1.rdF (a := 365) (j := 44) (m := 6) (k' := 0) (by rfl)
      have fr1 := g1.2.2.2.2.2
      refine b_gd.putP (G := (pB.2.1.2.2.1 ++ [(0, 0, 19), (0, 0, 19), (0, 1, 20)], [], [], [], [])) (gg := 108) (row := (21, 20, 1, [(0, 0, 1)])) (ty := (0, 0, 1)) pI55 (b_rowX c_a769 c_q108) (by decide +kernel) rfl (by decide +kernel) (by decide) (by decide) g1.bare (fun a n t vs w ha hn hw e1 hl => by
        obtain rfl := ha.k
        have en := hn.v
        obtain ⟨x, rfl, hx⟩ := c_one hw rfl
        exact c_J_left0 g1.2.2.2.2.1.2 e1 (by rw [c_is0 hx]; decide)) (fun a n t vs w ha hn hw e1 hl g2 => ?_)
      have ea := ha.k
      subst ea
      have en := hn.v
      obtain ⟨x, rfl, hx⟩ := c_one hw rfl
      have hx := c_is0 hx
      subst hx
      have H2 := g2.2.2.2.2.1
      have g3 := g2.wk (E := pB.2.1.2.2.1 ++ [(0, 0, 19), (0, 0, 19), (0, 1, 20)]) (F := [((2, 769, 0), (1, 5, 0), (0, 0, 0))]) (C := []) (by decide +kernel)
      refine b_gd.cv (G := (pB.2.1.2.2.1 ++ [(0, 0, 19), (0, 0, 19), (0, 1, 20)], [((2, 769, 0), (1, 5, 0), (0, 0, 0))], [], [], [])) (T := (pC0.2.1.2.2.1, pC0.2.1.2.2.2.1, [])) (bl := pC0.2.1.1) (bs := []) (σ := [(1, 0, 0), (1, 1, 0), (1, 4, 0), (1, 5, 0)]) (by decide +kernel) g3 (fun g4 => ?_)
      refine b_gd.sg (S := pC0) c_hJ pO pC0C rfl (by decide) (by decide) g4 (b_al.c ?_ b_al.n)
      intro ν3 h3 x3 g5
      refine b_pq.to rfl ?_
      have n2 : ν3 2 = ν1 4 := (x3.2 2 (by decide)).trans (by show ν1 4 + 0 = _; omega)
      have n3 : ν3 3 = ν1 5 := (x3.2 3 (by decide)).trans (by show ν1 5 + 0 = _; omega)
      refine b_gd.cv (T := (pB.2.1.2.2.1, [], [])) (bl := pB.2.1.1) (bs := []) (σ := [(1, 0, 0), (1, 1, 0), (1, 2, 0), (1, 3, 1)]) (by decide +kernel) g5 (fun g6 => ?_)
      have u2 : b_vT [(1, 0, 0), (1, 1, 0), (1, 2, 0), (1, 3, 1)] ν3 2 = ν 2 + 0 := by show ν3 2 + 0 = _; omega
      have u3 : b_vT [(1, 0, 0), (1, 1, 0), (1, 2, 0), (1, 3, 1)] ν3 3 = ν 3 + 1 := by show ν3 3 + 1 = _; omega
      have nn : n = (ν 3).toNat := by omega
      have cc : c_cnt (lP h) (ν 3).toNat ≤ c_cnt (lP h3) (ν 3).toNat := c_cnt_le fun k hk p => lP_frm H2 g5.2.2.2.2.2 (by decide) (by decide) (lP_set e1 hl (by omega) (lP_frm H fr1 (by decide) (by decide) p))
      refine p19 m _ _ g6 (by rw [u2, u3]; omega) (by rw [u3]; omega) ?_
      rw [u2, u3, show (ν 3 + 1).toNat = (ν 3).toNat + 1 by omega]
      have := c_cnt_up (p := lP h3) (n := (ν 3).toNat)
      omega
/-- JuryreelModel.plan(I)I -/
theorem c_v211 : b_valid c_K c_r211 := b_gd.valid (d := 5) rfl (by decide +kernel) fun ν h g => by
  refine b_gd.sg (S := pA) c_hJ pO pAC rfl (by decide) (by decide) g (b_al.c ?_ (b_al.c ?_ b_al.n))
  · intro ν3 h3 x3 g3
    exact b_pq.int (lo := 0) (hi := 60) (by decide) g3
  · intro ν1 h1 x1 g1
    refine b_pq.to rfl ?_
    refine b_gd.cv (T := (pB.2.1.2.2.1, [], [])) (bl := pB.2.1.1) (bs := []) (σ := [(1, 0, 0), (1, 1, 0), (0, 0, 0), (0, 0, 0)]) (by decide +kernel) g1 (fun g2 => ?_)
    have e2 : b_vT [(1, 0, 0), (1, 1, 0), (0, 0, 0), (0, 0, 0)] ν1 2 = 0 := rfl
    have e3 : b_vT [(1, 0, 0), (1, 1, 0), (0, 0, 0), (0, 0, 0)] ν1 3 = 0 := rfl
    exact p19 _ _ _ g2 (by rw [e2, e3]; exact Int.le_refl _) (Nat.lt_succ_self _) (by rw [e2]; omega)
