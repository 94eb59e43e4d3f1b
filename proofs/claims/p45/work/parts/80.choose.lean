/-! choose: a film that is left has a score; every turn takes one away -/
def c_r188 : BRw := (188, 1, ([(2, 365, 0), (1, 0, 0)], ([(0, 0, 4)], [], [])), [], [(.inl (some (1, 1, 0)), ([(0, (-2147483648), 2147483647)], [], []), (0, 0))])
def c_c188 : List BCu := [(4, [some (2, 365, 0), some (1, 0, 0), some (1, 1, 0), some (1, 2, 0)], ([(0, 0, 4), (0, (-2147483648), 2147483647), (0, 0, 20)], [], []), ([(2, (-2))], 40), none)]
/-- JuryreelModel.filmsOf(I)I -/
theorem c_v188 : b_valid c_K c_r188 := b_chk_ok c_hJ (d := 0) (F := 3000) (R := c_r188) (cuts := c_c188) (b_orc_ok c_hJ (tab := []) (fun _ h => absurd h List.not_mem_nil) 3000 0) rfl (by decide +kernel)
theorem cO : b_cal c_K (b_lim 3) (b_orc c_K [c_r174a, c_r174, c_r178, c_r180, c_r188, c_r187] 3000 3) := b_orc_ok c_hJ (List.forall_mem_cons.mpr ⟨c_v174a, List.forall_mem_cons.mpr ⟨c_v174, List.forall_mem_cons.mpr ⟨c_v178, List.forall_mem_cons.mpr ⟨c_v180, List.forall_mem_cons.mpr ⟨c_v188, List.forall_mem_cons.mpr ⟨c_v187, fun _ h => absurd h List.not_mem_nil⟩⟩⟩⟩⟩⟩) 3000 3
def cA : BSg := ((190, 0), ([some (2, 365, 0), some (1, 0, 0), none, none, none], [], ([(0, (-2147483648), 2147483647)], [], [])), [(50, 55)], [
  (.inl (.inl (some (0, 0, 0))), ([], [], []), (0, 0)),
  (.inr (17, [some (2, 365, 0), some (1, 1, 0), some (0, 0, 0), none, none], []), ([(0, 0, 4)], [], []), (0, 0))])
theorem cAC : b_sgc c_K (b_orc c_K [c_r174a, c_r174, c_r178, c_r180, c_r188, c_r187] 3000 3) cA [17] 3000 = true := by decide +kernel
def cB : BSg := ((190, 17), ([some (2, 365, 0), some (1, 1, 0), some (1, 2, 0), none, none], [], ([(0, (-2147483648), 2147483647), (0, 0, 4), (0, 0, 20)], [], [])), [], [
  (.inr (50, [some (2, 365, 0), some (1, 1, 0), none, none, none], []), ([(0, 0, 20)], [((2, 365, 0), (0, 0, 44), (1, 3, 0))], [(3, 2, 0)]), (0, 0)),
  (.inr (43, [some (2, 365, 0), some (1, 1, 0), some (1, 3, 0), none, none], [(0, 0, 0), (1, 3, 0), (2, 769, 0)]), ([(0, 0, 19)], [], [(3, 2, 0), (2, 3, 0)]), (0, 0)),
  (.inr (43, [some (2, 365, 0), some (1, 1, 0), some (1, 3, 0), none, none], [(0, 0, 1), (1, 3, 0), (2, 769, 0)]), ([(0, 0, 19), (0, 1, 8), (0, 0, 7), (66, 0, 0), (0, 0, 100), (0, 1, 20)], [((2, 365, 0), (0, 0, 45), (1, 4, 0)), ((2, 398, 0), (1, 2, 0), (3, 6, 0)), ((3, 6, 0), (1, 5, 0), (1, 7, 0)), ((2, 365, 0), (0, 0, 44), (1, 8, 0))], [(3, 2, 0), (2, 3, 0), (5, 4, (-1)), (2, 8, (-1))]), (0, 0))])
theorem cBC : b_sgc c_K (b_orc c_K [c_r174a, c_r174, c_r178, c_r180, c_r188, c_r187] 3000 3) cB [50, 43] 3000 = true := by decide +kernel
def cC : BSg := ((190, 44), ([some (2, 365, 0), some (1, 1, 0), some (1, 2, 0), none, none], [], ([(0, (-2147483648), 2147483647), (0, 0, 4), (0, 0, 19)], [], [])), [], [
  (.inr (17, [some (2, 365, 0), some (1, 1, 0), some (1, 2, 1), none, none], []), ([], [], []), (0, 0))])
theorem cCC : b_sgc c_K (b_orc c_K [c_r174a, c_r174, c_r178, c_r180, c_r188, c_r187] 3000 3) cC [17] 3000 = true := by decide +kernel
def cD : BSg := ((190, 50), ([some (2, 365, 0), some (1, 1, 0), none, none, none], [], ([(0, (-2147483648), 2147483647), (0, 0, 4)], [], [])), [], [
  (.inr (54, [some (2, 365, 0), some (1, 1, 0), some (0, 0, 0), some (0, 0, 0), none], []), ([], [], []), (0, 0))])
theorem cDC : b_sgc c_K (b_orc c_K [c_r174a, c_r174, c_r178, c_r180, c_r188, c_r187] 3000 3) cD [54] 3000 = true := by decide +kernel
def cE : BSg := ((190, 54), ([some (2, 365, 0), some (1, 1, 0), some (1, 2, 0), some (1, 3, 0), none], [], ([(0, (-2147483648), 2147483647), (0, 0, 4), (0, 0, 20), (0, 0, 19)], [], [])), [], [
  (.inr (63, [some (2, 365, 0), some (1, 1, 0), some (1, 2, 0), some (0, 0, (-1)), some (0, 0, 0)], []), ([], [], []), (0, 0))])
theorem cEC : b_sgc c_K (b_orc c_K [c_r174a, c_r174, c_r178, c_r180, c_r188, c_r187] 3000 3) cE [63] 3000 = true := by decide +kernel
def cF : BSg := ((190, 63), ([some (2, 365, 0), some (1, 1, 0), some (1, 2, 0), some (1, 3, 0), some (1, 4, 0)], [], ([(0, (-2147483648), 2147483647), (0, 0, 4), (0, 0, 20), (0, (-1), 19), (0, 0, 20), (0, 0, 20)], [((2, 365, 0), (0, 0, 44), (1, 5, 0))], [(5, 4, 0)])), [], [
  (.inr (113, [some (2, 365, 0), some (1, 1, 0), some (1, 2, 0), some (1, 3, 0), none], []), ([], [], []), (0, 0))])
theorem cFC : b_sgc c_K (b_orc c_K [c_r174a, c_r174, c_r178, c_r180, c_r188, c_r187] 3000 3) cF [113] 3000 = true := by decide +kernel
def cG : BSg := ((190, 63), ([some (2, 365, 0), some (1, 1, 0), some (1, 2, 0), some (1, 3, 0), some (1, 4, 0)], [], ([(0, (-2147483648), 2147483647), (0, 0, 4), (0, 0, 20), (0, (-1), 19), (0, 0, 19), (0, 1, 20)], [((2, 365, 0), (0, 0, 44), (1, 5, 0)), ((2, 769, 0), (1, 4, 0), (0, 0, 0))], [(4, 5, (-1))])), [], [
  (.inr (63, [some (2, 365, 0), some (1, 1, 0), some (1, 2, 0), some (1, 3, 0), some (1, 4, 1)], []), ([], [], []), (0, 0))])
theorem cGC : b_sgc c_K (b_orc c_K [c_r174a, c_r174, c_r178, c_r180, c_r188, c_r187] 3000 3) cG [63] 3000 = true := by decide +kernel
def cH : BSg := ((190, 63), ([some (2, 365, 0), some (1, 1, 0), some (1, 2, 0), some (1, 3, 0), some (1, 4, 0)], [], ([(0, (-2147483648), 2147483647), (0, 0, 4), (0, 0, 20), (0, (-1), (-1)), (0, 0, 19), (0, 1, 20)], [((2, 365, 0), (0, 0, 44), (1, 5, 0)), ((2, 769, 0), (1, 4, 0), (0, 0, 1))], [(4, 5, (-1))])), [], [
  (.inr (63, [some (2, 365, 0), some (1, 1, 0), some (1, 2, 0), some (1, 4, 0), some (1, 4, 1)], []), ([], [], []), (0, 0))])
theorem cHC : b_sgc c_K (b_orc c_K [c_r174a, c_r174, c_r178, c_r180, c_r188, c_r187] 3000 3) cH [63] 3000 = true := by decide +kernel
def cI : BSg := ((190, 63), ([some (2, 365, 0), some (1, 1, 0), some (1, 2, 0), some (1, 3, 0), some (1, 4, 0)], [], ([(0, (-2147483648), 2147483647), (0, 0, 4), (0, 0, 20), (0, 0, 19), (0, 0, 19), (0, 1, 20), (0, 1, 8), (0, 0, 7), (66, 0, 0), (0, 0, 100), (0, 0, 7), (66, 0, 0), (0, 0, 100)], [((2, 365, 0), (0, 0, 44), (1, 5, 0)), ((2, 365, 0), (0, 0, 45), (1, 6, 0)), ((2, 769, 0), (1, 4, 0), (0, 0, 1)), ((2, 398, 0), (1, 3, 0), (3, 8, 0)), ((3, 8, 0), (1, 7, 0), (1, 9, 0)), ((2, 398, 0), (1, 4, 0), (3, 11, 0)), ((3, 11, 0), (1, 10, 0), (1, 12, 0))], [(4, 5, (-1)), (3, 5, (-1)), (7, 6, (-1)), (10, 6, (-1))])), [], [
  (.inr (63, [some (2, 365, 0), some (1, 1, 0), some (1, 2, 0), some (1, 4, 0), some (1, 4, 1)], []), ([], [], []), (0, 0)),
  (.inr (63, [some (2, 365, 0), some (1, 1, 0), some (1, 2, 0), some (1, 3, 0), some (1, 4, 1)], []), ([], [], []), (0, 0))])
theorem cIC : b_sgc c_K (b_orc c_K [c_r174a, c_r174, c_r178, c_r180, c_r188, c_r187] 3000 3) cI [63] 3000 = true := by decide +kernel
def cJ : BSg := ((190, 113), ([some (2, 365, 0), some (1, 1, 0), some (1, 2, 0), some (1, 3, 0), none], [], ([(0, (-2147483648), 2147483647), (0, 0, 4), (0, 0, 20), (0, (-1), (-1))], [], [])), [], [
  (.inl (.inl (some (1, 2, 0))), ([], [], []), (0, 0))])
theorem cJC : b_sgc c_K (b_orc c_K [c_r174a, c_r174, c_r178, c_r180, c_r188, c_r187] 3000 3) cJ [] 3000 = true := by decide +kernel
def cK : BSg := ((190, 113), ([some (2, 365, 0), some (1, 1, 0), some (1, 2, 0), some (1, 3, 0), none], [], ([(0, (-2147483648), 2147483647), (0, 0, 4), (0, 0, 20), (0, 0, 19)], [], [])), [], [
  (.inr (123, [some (2, 365, 0), some (1, 1, 0), some (1, 2, 0), some (1, 3, 0), none], [(0, 0, 0), (1, 3, 0), (2, 769, 0)]), ([], [], []), (0, 0))])
theorem cKC : b_sgc c_K (b_orc c_K [c_r174a, c_r174, c_r178, c_r180, c_r188, c_r187] 3000 3) cK [123] 3000 = true := by decide +kernel
def cL : BSg := ((190, 124), ([some (2, 365, 0), some (1, 1, 0), some (1, 2, 0), some (1, 3, 0), none], [], ([(0, (-2147483648), 2147483647), (0, 0, 4), (0, 0, 19), (0, 0, 19), (0, 1, 20), (0, 1, 8), (0, 0, 7), (66, 0, 0), (0, 0, 100)], [((2, 365, 0), (0, 0, 44), (1, 4, 0)), ((2, 365, 0), (0, 0, 45), (1, 5, 0)), ((2, 398, 0), (1, 3, 0), (3, 7, 0)), ((3, 7, 0), (1, 6, 0), (1, 8, 0))], [(3, 4, (-1)), (6, 5, (-1))])), [(50, 53), (55, 0), (56, 0), (106, 0), (107, 0)], [
  (.inr (54, [some (2, 365, 0), some (1, 1, 0), some (1, 2, 0), some (1, 3, 0), none], []), ([], [], []), (0, 0)),
  (.inr (54, [some (2, 365, 0), some (1, 1, 0), some (1, 2, 1), some (1, 3, 0), none], []), ([], [], []), (0, 0))])
theorem cLC : b_sgc c_K (b_orc c_K [c_r174a, c_r174, c_r178, c_r180, c_r188, c_r187] 3000 3) cL [54] 3000 = true := by decide +kernel
/-- a film that has a score -/
def sP (h : AH) (k : Nat) : Prop := ∃ (r v : Int32) (row j : Nat), c_at h 365 45 = some (.int r) ∧ (j : Int) < r.toInt ∧ c_at h 398 k = some (.ref row) ∧ c_K.1 row = some 65 ∧ c_at h row j = some (.int v) ∧ 0 ≤ v.toInt
theorem sP_frm {W : BW} {h h' : AH} (H : b_H c_K h) (f : b_frm c_K W h h') (w1 : W.contains (50, 45) = false) (w2 : W.contains (64, 0) = false) (w3 : W.contains (65, 0) = false) {k : Nat} (p : sP h k) : sP h' k := by
  obtain ⟨r, v, row, j, p1, p2, p3, p4, p5, p6⟩ := p
  refine ⟨r, v, row, j, ?_, p2, ?_, p4, ?_, p6⟩
  · rw [f.kF H c_a365 c_q50 rfl w1]; exact p1
  · rw [f.k H c_a398 c_q64 (by decide) w2]; exact p3
  · rw [f.k H p4 c_q65 (by decide) w3]; exact p5
theorem sP_set {h : AH} {n t : Nat} {vs : List Value} {w : Value} (h1 : h[769]? = some (t, vs)) (hn : n < vs.length) {k : Nat} (p : sP h k) : sP (h.set 769 (t, vs.set n w)) k := by
  obtain ⟨r, v, row, j, p1, p2, p3, p4, p5, p6⟩ := p
  refine ⟨r, v, row, j, ?_, p2, ?_, p4, ?_, p6⟩
  · rw [c_at_set h1 hn, if_neg (fun q => by omega)]; exact p1
  · rw [c_at_set h1 hn, if_neg (fun q => by omega)]; exact p3
  · rw [c_at_set h1 hn, if_neg (fun q => c_ne p4 c_a769 (by decide) q.1)]; exact p5
/-- a film's score as more symbols -/
theorem sP_ad {ν : BN} {h : AH} {E : BQ} {F : BF} {C : BC} (g : b_G c_K ν h h (E, F, C, [], [])) {q p k : Nat} (hq : q < E.length) (hp : p < E.length) (hk : (k : Int) = ν q) (hr : ∀ r : Int32, c_at h 365 45 = some (.int r) → r.toInt = ν p) (w : sP h k) : ∃ ν' : BN, (∀ n, n < E.length → ν' n = ν n) ∧ b_G c_K ν' h h (E ++ [(0, 0, 7), (66, 0, 0), (0, 0, 100)], [((2, 398, 0), (1, q, 0), (3, E.length + 1, 0)), ((3, E.length + 1, 0), (1, E.length, 0), (1, E.length + 2, 0))] ++ F, [(E.length, p, -1)] ++ C, [], []) := by
  obtain ⟨r, v, row, j, p1, p2, p3, p4, p5, p6⟩ := w
  have H := g.2.2.2.2.1
  have r8 : r.toInt ≤ 8 := by
    obtain ⟨z, z1, z2, z3⟩ := H.rdI (j := 45) (lo := 0) (hi := 8) c_a365 c_q50 (by decide) (by decide) rfl
    rw [p1] at z1
    cases z1
    exact z3
  have v100 : v.toInt ≤ 100 := by
    obtain ⟨z, z1, z2, z3⟩ := H.rdI (j := j) (lo := -1) (hi := 100) p4 c_q65 (by decide) (by show j < 8; omega) rfl
    rw [p5] at z1
    cases z1
    exact z3
  have hrp := hr r p1
  have L3 : (E ++ [(0, 0, 7), (66, 0, 0), (0, 0, 100)]).length = E.length + 3 := List.length_append
  refine ⟨fun n => if n < E.length then ν n else if n = E.length then (j : Int) else if n = E.length + 1 then (row : Int) else v.toInt, fun n hn => if_pos hn, ?_⟩
  generalize hν : (fun n => if n < E.length then ν n else if n = E.length then (j : Int) else if n = E.length + 1 then (row : Int) else v.toInt : BN) = ν'
  have e0 : ν' E.length = j := by rw [← hν]; show (if _ then _ else _) = _; rw [if_neg (Nat.lt_irrefl _), if_pos rfl]
  have e1 : ν' (E.length + 1) = row := by rw [← hν]; show (if _ then _ else _) = _; rw [if_neg (by omega), if_neg (by omega), if_pos rfl]
  have e2 : ν' (E.length + 2) = v.toInt := by rw [← hν]; show (if _ then _ else _) = _; rw [if_neg (by omega), if_neg (by omega), if_neg (by omega)]
  have hx : ∀ n, n < E.length → ν' n = ν n := fun n hn => by rw [← hν]; exact if_pos hn
  have eq := hx q hq
  have ep := hx p hp
  exact g.ad (ν' := ν') hx
    ⟨by show b_q _ _ (ν' E.length); rw [e0]; exact b_q.i (by omega) (by omega), by show b_q _ _ (ν' (E.length + 1)); rw [e1]; exact b_q.r p4, by show b_q _ _ (ν' (E.length + 2)); rw [e2]; exact b_q.i p6 v100, trivial⟩
    ⟨b_fa.mk p3 (Or.inl ⟨rfl, rfl⟩) (Or.inr ⟨rfl, by rw [L3]; show q < _; omega, by show _ = ν' q + 0; omega⟩) (Or.inr ⟨rfl, by rw [L3]; show E.length + 1 < _; omega, by show _ = ν' (E.length + 1); omega⟩),
     b_fa.mk p5 (Or.inr ⟨rfl, by rw [L3]; show E.length + 1 < _; omega, by show _ = ν' (E.length + 1); omega⟩) (Or.inr ⟨rfl, by rw [L3]; show E.length < _; omega, by show _ = ν' E.length + 0; omega⟩) (Or.inr ⟨rfl, by rw [L3]; show E.length + 2 < _; omega, by show _ = ν' (E.length + 2) + 0; omega⟩), trivial⟩
    ⟨⟨by rw [L3]; show E.length < _; omega, by rw [L3]; show p < _; omega, by show ν' E.length ≤ ν' p + (-1); omega⟩, trivial⟩
def WQ (h : AH) : Prop := ∀ k, lP h k → sP h k
theorem cI43 : a_ins 190 43 = some (.bastore, 1) := by decide +kernel
theorem cI123 : a_ins 190 123 = some (.bastore, 1) := by decide +kernel
def cE63 : BQ := [(0, -2147483648, 2147483647), (0, 0, 4), (0, 0, 20), (0, -1, 19), (0, 0, 20)]
/-- from behind the inner loop to the outer one's head, or the end -/
theorem c113 {ν : BN} {h : AH} (g : b_G c_K ν h h (cE63, [], [], [], [])) (hb : ν 3 = -1 ∨ 0 ≤ ν 3 ∧ lP h (ν 3).toNat) (hm : ν 2 + (c_cnt (lP h) 20 : Int) ≤ 20) (hQ : WQ h)
    (ih : ∀ (ν' : BN) (h' : AH), b_G c_K ν' h' h' (cE.2.1.2.2.1, [], [], [], []) → c_cnt (lP h') 20 < c_cnt (lP h) 20 → ν' 2 + (c_cnt (lP h') 20 : Int) ≤ 20 → WQ h' → b_gd c_K c_r190 3 54 cE.2.1.1 [] cE.2.1.2.2.1.length ν' h' 0 0) : b_gd c_K c_r190 3 113 [some (2, 365, 0), some (1, 1, 0), some (1, 2, 0), some (1, 3, 0), none] [] 5 ν h 0 0 := by
  have iv3 := g.iv 3 (lo := -1) (hi := 19) rfl
  rcases hb with hb | ⟨hb, hl⟩
  · have g1 := (b_setQ g (n := 3) (lo := -1) (hi := -1) (by omega) (by omega)).1
    refine b_gd.cv (G := ([(0, -2147483648, 2147483647), (0, 0, 4), (0, 0, 20), (0, -1, -1), (0, 0, 20)], [], [], [], [])) (T := (cJ.2.1.2.2.1, [], [])) (bl := cJ.2.1.1) (bs := []) (σ := [(1, 0, 0), (1, 1, 0), (1, 2, 0), (1, 3, 0)]) (by decide +kernel) g1 (fun g2 => ?_)
    refine b_gd.sg c_hJ cO cJC rfl (by decide) (by decide) g2 (b_al.c ?_ b_al.n)
    intro ν3 h3 x3 g3
    exact b_pq.int (lo := 0) (hi := 20) (by decide) g3
  · have c1 : 0 < c_cnt (lP h) 20 := Nat.lt_of_lt_of_le (by rw [c_cnt_s.1 hl]; exact Nat.succ_pos _ : 0 < c_cnt (lP h) ((ν 3).toNat + 1)) (c_cnt_mono (by omega))
    have g1 := (b_setQ g (n := 3) (lo := 0) (hi := 19) (by omega) (by omega)).1
    refine b_gd.cv (G := ([(0, -2147483648, 2147483647), (0, 0, 4), (0, 0, 20), (0, 0, 19), (0, 0, 20)], [], [], [], [])) (T := (cK.2.1.2.2.1, [], [])) (bl := cK.2.1.1) (bs := []) (σ := [(1, 0, 0), (1, 1, 0), (1, 2, 0), (1, 3, 0)]) (by decide +kernel) g1 (fun g2 => ?_)
    have s2 : b_vT [(1, 0, 0), (1, 1, 0), (1, 2, 0), (1, 3, 0)] ν 2 = ν 2 := by show ν 2 + 0 = _; omega
    have s3 : b_vT [(1, 0, 0), (1, 1, 0), (1, 2, 0), (1, 3, 0)] ν 3 = ν 3 := by show ν 3 + 0 = _; omega
    refine b_gd.sg c_hJ cO cKC rfl (by decide) (by decide) g2 (b_al.c ?_ b_al.n)
    intro ν1 h1 x1 g3
    refine b_pq.to rfl ?_
    have m2 : ν1 2 = ν 2 := (x1.2 2 (by decide)).trans s2
    have m3 : ν1 3 = ν 3 := (x1.2 3 (by decide)).trans s3
    have H := g.2.2.2.2.1
    have f1 := g3.2.2.2.2.2
    have H1 := g3.2.2.2.2.1
    have l1 := lP_frm H f1 (by decide) (by decide) hl
    have cc1 : c_cnt (lP h) 20 ≤ c_cnt (lP h1) 20 := c_cnt_le fun k _ p => lP_frm H f1 (by decide) (by decide) p
    refine b_gd.putP (G := (cK.2.1.2.2.1, [], [], [], [])) (gg := 108) (row := (21, 20, 1, [(0, 0, 1)])) (ty := (0, 0, 1)) cI123 (b_rowX c_a769 c_q108) (by decide +kernel) rfl (by decide +kernel) (by decide) (by decide) g3.bare (fun a n t vs w ha hn hw h1 hl => by
      obtain rfl := ha.k
      obtain ⟨x, rfl, hx⟩ := c_one hw rfl
      exact c_J_left0 g3.2.2.2.2.1.2 h1 (by rw [c_is0 hx]; decide)) (fun a n t vs w ha hn hw e1 hln g4 => ?_)
    have ea := ha.k
    subst ea
    have en := hn.v
    obtain ⟨x, rfl, hx⟩ := c_one hw rfl
    have hx := c_is0 hx
    subst hx
    have H4 := g4.2.2.2.2.1
    have nn : n = (ν 3).toNat := by omega
    -- back from h4's facts to those of h
    have back : ∀ k, lP (h1.set 769 (t, vs.set n (.int 0))) k → k ≠ n ∧ lP h k := fun k p => by
      obtain ⟨r, p1, p2, p3⟩ := p
      rw [c_at_set e1 hln, if_neg (fun q => by omega)] at p1
      rw [c_at_set e1 hln] at p3
      have hk : k ≠ n := fun q => by
        rw [if_pos ⟨rfl, q⟩] at p3
        cases p3
      rw [if_neg (fun q => hk q.2)] at p3
      refine ⟨hk, r, ?_, p2, ?_⟩
      · rw [f1.kF H c_a365 c_q50 rfl (by decide)] at p1; exact p1
      · rw [f1.k H c_a769 c_q108 (by decide) (by decide)] at p3; exact p3
    obtain ⟨fr, q1, q2⟩ : ∃ f : Int32, c_at (h1.set 769 (t, vs.set n (.int 0))) 365 44 = some (.int f) ∧ (n : Int) < f.toInt := by
      obtain ⟨f, p1, p2, -⟩ := l1
      exact ⟨f, by rw [c_at_set e1 hln, if_neg (fun q => by omega)]; exact p1, by omega⟩
    have tf : fr.toInt ≤ 20 := by
      obtain ⟨z, z1, z2, z3⟩ := H4.rdI (j := 44) (lo := 0) (hi := 20) c_a365 c_q50 (by decide) (by decide) rfl
      rw [q1] at z1
      cases z1
      exact z3
    have s4 : sP (h1.set 769 (t, vs.set n (.int 0))) n := sP_set e1 hln (by rw [nn]; exact sP_frm H f1 (by decide) (by decide) (by decide) (hQ _ hl))
    obtain ⟨rr, u1, u2⟩ : ∃ r : Int32, c_at (h1.set 769 (t, vs.set n (.int 0))) 365 45 = some (.int r) ∧ 1 ≤ r.toInt := by
      obtain ⟨r, v, row, j, p1, p2, -⟩ := s4
      exact ⟨r, p1, by omega⟩
    have tr : rr.toInt ≤ 8 := by
      obtain ⟨z, z1, z2, z3⟩ := H4.rdI (j := 45) (lo := 0) (hi := 8) c_a365 c_q50 (by decide) (by decide) rfl
      rw [u1] at z1
      cases z1
      exact z3
    have iv1 := g4.iv 2 (lo := 0) (hi := 20) rfl
    have g5 := (b_setQ g4.bare (n := 2) (lo := 0) (hi := 19) (by omega) (by omega)).1
    obtain ⟨g6, x6⟩ := g5.rdI (base := (2, 365, 0)) (slot := (0, 0, 44)) (lo := 1) (hi := 20) q1 (Or.inl ⟨rfl, rfl⟩) (Or.inl ⟨rfl, rfl⟩) (by omega) tf
    obtain ⟨g7, x7⟩ := g6.rdI (base := (2, 365, 0)) (slot := (0, 0, 45)) (lo := 1) (hi := 8) u1 (Or.inl ⟨rfl, rfl⟩) (Or.inl ⟨rfl, rfl⟩) u2 tr
    have y4 : b_nu (b_nu ν1 4 fr.toInt) 5 rr.toInt 4 = fr.toInt := by show (if _ then _ else b_nu ν1 4 fr.toInt 4) = _; rw [if_neg (by decide)]; exact b_nu_n
    have y5 : b_nu (b_nu ν1 4 fr.toInt) 5 rr.toInt 5 = rr.toInt := b_nu_n
    have yk : ∀ k, k < 4 → b_nu (b_nu ν1 4 fr.toInt) 5 rr.toInt k = ν1 k := fun k hk => by
      show (if k = 5 then _ else if k = 4 then _ else ν1 k) = _
      rw [if_neg (by omega), if_neg (by omega)]
    have g8 : b_G c_K (b_nu (b_nu ν1 4 fr.toInt) 5 rr.toInt) (h1.set 769 (t, vs.set n (.int 0))) (h1.set 769 (t, vs.set n (.int 0))) ([(0, -2147483648, 2147483647), (0, 0, 4), (0, 0, 19), (0, 0, 19), (0, 1, 20), (0, 1, 8)], [((2, 365, 0), (0, 0, 45), (1, 5, 0)), ((2, 365, 0), (0, 0, 44), (1, 4, 0))], [(3, 4, -1)], [], []) := by
      have g8 := g7.ad (ν' := b_nu (b_nu ν1 4 fr.toInt) 5 rr.toInt) (E' := []) (F' := []) (C' := [(3, 4, -1)]) (fun _ _ => rfl) trivial trivial ⟨⟨by decide, by decide, by show b_nu (b_nu ν1 4 fr.toInt) 5 rr.toInt 3 ≤ b_nu (b_nu ν1 4 fr.toInt) 5 rr.toInt 4 + (-1); rw [yk 3 (by decide), y4]; omega⟩, trivial⟩
      exact g8
    obtain ⟨ν9, x9, g9⟩ := sP_ad g8 (q := 3) (p := 5) (k := n) (by decide) (by decide) (by rw [yk 3 (by decide)]; omega) (fun r hr => by rw [u1] at hr; cases hr; exact y5.symm) s4
    have z2 : ν9 2 = ν 2 := (x9 2 (by decide)).trans ((yk 2 (by decide)).trans m2)
    refine b_gd.more (N' := 9) (ν' := ν9) ⟨by decide, fun k hk => (x9 k (by have hk : k < 4 := hk; show k < 6; omega)).trans (yk k hk)⟩ (by decide) ?_
    refine b_gd.sg (S := cL) c_hJ cO cLC rfl (by decide) (by decide) (g9.wk (by decide)) (b_al.c ?_ (b_al.c ?_ b_al.n))
    · intro ν3 h3 x3 g10
      refine b_pq.to rfl ?_
      have f3 := g10.2.2.2.2.2
      have back3 : ∀ k, lP h3 k → k ≠ n ∧ lP h k := fun k p => by
        obtain ⟨r, p1, p2, p3⟩ := p
        rw [f3.kF H4 c_a365 c_q50 rfl (by decide)] at p1
        rw [f3.k H4 c_a769 c_q108 (by decide) (by decide)] at p3
        exact back k ⟨r, p1, p2, p3⟩
      have lt : c_cnt (lP h3) 20 < c_cnt (lP h) 20 := c_cnt_lt (m := (ν 3).toNat) (by omega) hl (fun p => (back3 _ p).1 nn.symm) (fun k _ p => (back3 k p).2)
      have w2 := x3.2 2 (by decide)
      refine b_gd.cv (T := (cE.2.1.2.2.1, [], [])) (bl := cE.2.1.1) (bs := []) (σ := [(1, 0, 0), (1, 1, 0), (1, 2, 0), (1, 3, 0)]) (by decide +kernel) g10 (fun g11 => ?_)
      have e2 : b_vT [(1, 0, 0), (1, 1, 0), (1, 2, 0), (1, 3, 0)] ν3 2 = ν 2 := by show ν3 2 + 0 = _; omega
      exact ih _ _ g11 lt (by rw [e2]; omega) (fun k p => sP_frm H4 f3 (by decide) (by decide) (by decide) (sP_set e1 hln (sP_frm H f1 (by decide) (by decide) (by decide) (hQ k (back3 k p).2))))
    · intro ν3 h3 x3 g10
      refine b_pq.to rfl ?_
      have f3 := g10.2.2.2.2.2
      have back3 : ∀ k, lP h3 k → k ≠ n ∧ lP h k := fun k p => by
        obtain ⟨r, p1, p2, p3⟩ := p
        rw [f3.kF H4 c_a365 c_q50 rfl (by decide)] at p1
        rw [f3.k H4 c_a769 c_q108 (by decide) (by decide)] at p3
        exact back k ⟨r, p1, p2, p3⟩
      have lt : c_cnt (lP h3) 20 < c_cnt (lP h) 20 := c_cnt_lt (m := (ν 3).toNat) (by omega) hl (fun p => (back3 _ p).1 nn.symm) (fun k _ p => (back3 k p).2)
      have w2 := x3.2 2 (by decide)
      refine b_gd.cv (T := (cE.2.1.2.2.1, [], [])) (bl := cE.2.1.1) (bs := []) (σ := [(1, 0, 0), (1, 1, 0), (1, 2, 1), (1, 3, 0)]) (by decide +kernel) g10 (fun g11 => ?_)
      have e2 : b_vT [(1, 0, 0), (1, 1, 0), (1, 2, 1), (1, 3, 0)] ν3 2 = ν 2 + 1 := by show ν3 2 + 1 = _; omega
      exact ih _ _ g11 lt (by rw [e2]; omega) (fun k p => sP_frm H4 f3 (by decide) (by decide) (by decide) (sP_set e1 hln (sP_frm H f1 (by decide) (by decide) (by decide) (hQ k (back3 k p).2))))
theorem lP_rev {W : BW} {h h' : AH} (H : b_H c_K h) (f : b_frm c_K W h h') (w1 : W.contains (50, 44) = false) (w2 : W.contains (108, 0) = false) {k : Nat} (p : lP h' k) : lP h k := by
  obtain ⟨r, p1, p2, p3⟩ := p
  rw [f.kF H c_a365 c_q50 rfl w1] at p1
  rw [f.k H c_a769 c_q108 (by decide) w2] at p3
  exact ⟨r, p1, p2, p3⟩
theorem c63 : ∀ (m M : Nat) (ν : BN) (h : AH), b_G c_K ν h h (cE63, [], [], [], []) → (20 - ν 4).toNat < m → (ν 3 = -1 ∨ 0 ≤ ν 3 ∧ lP h (ν 3).toNat) → ν 2 + (c_cnt (lP h) 20 : Int) ≤ 20 → WQ h → c_cnt (lP h) 20 ≤ M → (∀ (ν' : BN) (h' : AH), b_G c_K ν' h' h' (cE.2.1.2.2.1, [], [], [], []) → c_cnt (lP h') 20 < M → ν' 2 + (c_cnt (lP h') 20 : Int) ≤ 20 → WQ h' → b_gd c_K c_r190 3 54 cE.2.1.1 [] cE.2.1.2.2.1.length ν' h' 0 0) → b_gd c_K c_r190 3 63 [some (2, 365, 0), some (1, 1, 0), some (1, 2, 0), some (1, 3, 0), some (1, 4, 0)] [] 5 ν h 0 0
  | 0, M, ν, h, g, hm, _, _, _, _, _ => absurd hm (Nat.not_lt_zero _)
  | m + 1, M, ν, h, g, hm, hb, hc, hQ, hM, ih => by
    have H := g.2.2.2.2.1
    have iv3 := g.iv 3 (lo := -1) (hi := 19) rfl
    have iv4 := g.iv 4 (lo := 0) (hi := 20) rfl
    obtain ⟨f, f1, f2, f3⟩ := H.rdI (j := 44) (lo := 0) (hi := 20) c_a365 c_q50 (by decide) (by decide) rfl
    have sameC : ∀ h3, b_frm c_K [] h h3 → c_cnt (lP h3) 20 ≤ c_cnt (lP h) 20 := fun h3 fr => c_cnt_le fun k _ p => lP_rev H fr rfl rfl p
    have sameQ : ∀ h3, b_frm c_K [] h h3 → WQ h3 := fun h3 fr k p => sP_frm H fr rfl rfl rfl (hQ k (lP_rev H fr rfl rfl p))
    have yk : ∀ z k, k < 5 → b_nu ν 5 z k = ν k := fun z k hk => if_neg (Nat.ne_of_lt hk)
    by_cases hk : ν 4 < f.toInt
    · have again : ∀ (ν' : BN) (h3 : AH), b_frm c_K [] h h3 → b_G c_K ν' h3 h3 (cE63, [], [], [], []) → ν' 4 = ν 4 + 1 → ν' 2 = ν 2 → (ν' 3 = -1 ∨ 0 ≤ ν' 3 ∧ lP h (ν' 3).toNat) → b_gd c_K c_r190 3 63 [some (2, 365, 0), some (1, 1, 0), some (1, 2, 0), some (1, 3, 0), some (1, 4, 0)] [] 5 ν' h3 0 0 := fun ν' h3 fr g' e4 e2 hb' => by
        have c3 := sameC h3 fr
        exact c63 m M ν' h3 g' (by omega) (hb'.imp_right fun q => ⟨q.1, lP_frm H fr rfl rfl q.2⟩) (by omega) (sameQ h3 fr) (by omega) ih
      obtain ⟨a, a1, a2, a3⟩ := H.rdI (j := (ν 4).toNat) (lo := 0) (hi := 1) c_a769 c_q108 (by decide) (by show (ν 4).toNat < 20; omega) rfl
      have g1 := (b_setQ g (n := 4) (lo := 0) (hi := 19) (by omega) (by omega)).1
      by_cases ha : a.toInt = 1
      · have ha := c_is1 ha
        subst ha
        have l4 : lP h (ν 4).toNat := ⟨f, f1, by omega, a1⟩
        by_cases hb1 : ν 3 = -1
        · have g2 := (b_setQ g1 (n := 3) (lo := -1) (hi := -1) (by omega) (by omega)).1
          obtain ⟨g3, x3⟩ := g2.rdI (base := (2, 365, 0)) (slot := (0, 0, 44)) (lo := 1) (hi := 20) f1 (Or.inl ⟨rfl, rfl⟩) (Or.inl ⟨rfl, rfl⟩) (by omega) f3
          have g4 := g3.ad (ν' := b_nu ν 5 f.toInt) (E' := []) (F' := [((2, 769, 0), (1, 4, 0), (0, 0, 1))]) (C' := [(4, 5, -1)]) (fun _ _ => rfl) trivial ⟨b_fa.mk a1 (Or.inl ⟨rfl, rfl⟩) (Or.inr ⟨rfl, by decide, by show _ = b_nu ν 5 f.toInt 4 + 0; rw [yk _ 4 (by decide)]; omega⟩) (Or.inl ⟨rfl, by decide⟩), trivial⟩ ⟨⟨by decide, by decide, by show b_nu ν 5 f.toInt 4 ≤ b_nu ν 5 f.toInt 5 + (-1); rw [yk _ 4 (by decide), b_nu_n]; omega⟩, trivial⟩
          refine b_gd.more (N' := 6) (ν' := b_nu ν 5 f.toInt) ⟨by decide, fun k hk => yk _ k hk⟩ (by decide) ?_
          refine b_gd.sg (S := cH) c_hJ cO cHC rfl (by decide) (by decide) (g4.wk (by decide)) (b_al.c ?_ b_al.n)
          intro ν3 h3 x3 g5
          refine b_pq.to rfl ?_
          refine b_gd.cv (T := (cE63, [], [])) (bl := [some (2, 365, 0), some (1, 1, 0), some (1, 2, 0), some (1, 3, 0), some (1, 4, 0)]) (bs := []) (σ := [(1, 0, 0), (1, 1, 0), (1, 2, 0), (1, 4, 0), (1, 4, 1)]) (by decide +kernel) g5 (fun g6 => ?_)
          have w2 : ν3 2 = ν 2 := (x3.2 2 (by decide)).trans (yk _ 2 (by decide))
          have w4 : ν3 4 = ν 4 := (x3.2 4 (by decide)).trans (yk _ 4 (by decide))
          refine again _ h3 g5.2.2.2.2.2 g6 (by show ν3 4 + 1 = _; omega) (by show ν3 2 + 0 = _; omega) (Or.inr ?_)
          have e3 : b_vT [(1, 0, 0), (1, 1, 0), (1, 2, 0), (1, 4, 0), (1, 4, 1)] ν3 3 = ν 4 := by show ν3 4 + 0 = _; omega
          rw [e3]
          exact ⟨iv4.1, l4⟩
        · have hb2 := hb.resolve_left hb1
          have g2 := (b_setQ g1 (n := 3) (lo := 0) (hi := 19) (by omega) (by omega)).1
          obtain ⟨g3, x3⟩ := g2.rdI (base := (2, 365, 0)) (slot := (0, 0, 44)) (lo := 1) (hi := 20) f1 (Or.inl ⟨rfl, rfl⟩) (Or.inl ⟨rfl, rfl⟩) (by omega) f3
          obtain ⟨fb, fb1, fb2, -⟩ := hb2.2
          rw [f1] at fb1
          cases fb1
          have sb := hQ _ hb2.2
          have sk := hQ _ l4
          obtain ⟨rr, u1, u2⟩ : ∃ r : Int32, c_at h 365 45 = some (.int r) ∧ 1 ≤ r.toInt := by
            obtain ⟨r, v, row, j, p1, p2, -⟩ := sb
            exact ⟨r, p1, by omega⟩
          have tr : rr.toInt ≤ 8 := by
            obtain ⟨z, z1, z2, z3⟩ := H.rdI (j := 45) (lo := 0) (hi := 8) c_a365 c_q50 (by decide) (by decide) rfl
            rw [u1] at z1
            cases z1
            exact z3
          obtain ⟨g4, x4⟩ := g3.rdI (base := (2, 365, 0)) (slot := (0, 0, 45)) (lo := 1) (hi := 8) u1 (Or.inl ⟨rfl, rfl⟩) (Or.inl ⟨rfl, rfl⟩) u2 tr
          have y6 : b_nu (b_nu ν 5 f.toInt) 6 rr.toInt 6 = rr.toInt := b_nu_n
          have y5 : b_nu (b_nu ν 5 f.toInt) 6 rr.toInt 5 = f.toInt := by show (if _ then _ else b_nu ν 5 f.toInt 5) = _; rw [if_neg (by decide)]; exact b_nu_n
          have yy : ∀ k, k < 5 → b_nu (b_nu ν 5 f.toInt) 6 rr.toInt k = ν k := fun k hk => by
            show (if k = 6 then _ else if k = 5 then _ else ν k) = _
            rw [if_neg (by omega), if_neg (by omega)]
          have g5 : b_G c_K (b_nu (b_nu ν 5 f.toInt) 6 rr.toInt) h h ([(0, -2147483648, 2147483647), (0, 0, 4), (0, 0, 20), (0, 0, 19), (0, 0, 19), (0, 1, 20), (0, 1, 8)], [((2, 769, 0), (1, 4, 0), (0, 0, 1)), ((2, 365, 0), (0, 0, 45), (1, 6, 0)), ((2, 365, 0), (0, 0, 44), (1, 5, 0))], [(4, 5, -1), (3, 5, -1)], [], []) := by
            have g5 := g4.ad (ν' := b_nu (b_nu ν 5 f.toInt) 6 rr.toInt) (E' := []) (F' := [((2, 769, 0), (1, 4, 0), (0, 0, 1))]) (C' := [(4, 5, -1), (3, 5, -1)]) (fun _ _ => rfl) trivial ⟨b_fa.mk a1 (Or.inl ⟨rfl, rfl⟩) (Or.inr ⟨rfl, by decide, by show _ = b_nu (b_nu ν 5 f.toInt) 6 rr.toInt 4 + 0; rw [yy 4 (by decide)]; omega⟩) (Or.inl ⟨rfl, by decide⟩), trivial⟩ ⟨⟨by decide, by decide, by show b_nu (b_nu ν 5 f.toInt) 6 rr.toInt 4 ≤ b_nu (b_nu ν 5 f.toInt) 6 rr.toInt 5 + (-1); rw [yy 4 (by decide), y5]; omega⟩, ⟨by decide, by decide, by show b_nu (b_nu ν 5 f.toInt) 6 rr.toInt 3 ≤ b_nu (b_nu ν 5 f.toInt) 6 rr.toInt 5 + (-1); rw [yy 3 (by decide), y5]; omega⟩, trivial⟩
            exact g5
          obtain ⟨ν7, x7, g7⟩ := sP_ad g5 (q := 3) (p := 6) (by decide) (by decide) (by rw [yy 3 (by decide)]; omega) (fun r hr => by rw [u1] at hr; cases hr; exact y6.symm) sb
          obtain ⟨ν8, x8, g8⟩ := sP_ad g7 (q := 4) (p := 6) (by decide) (by decide) (by rw [x7 4 (by decide), yy 4 (by decide)]; omega) (fun r hr => by rw [u1] at hr; cases hr; exact ((x7 6 (by decide)).trans y6).symm) sk
          have xx : ∀ k, k < 5 → ν8 k = ν k := fun k hk => (x8 k (by show k < 10; omega)).trans ((x7 k (by show k < 7; omega)).trans (yy k hk))
          refine b_gd.more (N' := 13) (ν' := ν8) ⟨by decide, fun k hk => xx k hk⟩ (by decide) ?_
          refine b_gd.sg (S := cI) c_hJ cO cIC rfl (by decide) (by decide) (g8.wk (by decide)) (b_al.c ?_ (b_al.c ?_ b_al.n))
          · intro ν3 h3 x3 g9
            refine b_pq.to rfl ?_
            refine b_gd.cv (T := (cE63, [], [])) (bl := [some (2, 365, 0), some (1, 1, 0), some (1, 2, 0), some (1, 3, 0), some (1, 4, 0)]) (bs := []) (σ := [(1, 0, 0), (1, 1, 0), (1, 2, 0), (1, 4, 0), (1, 4, 1)]) (by decide +kernel) g9 (fun g10 => ?_)
            have w2 : ν3 2 = ν 2 := (x3.2 2 (by decide)).trans (xx 2 (by decide))
            have w4 : ν3 4 = ν 4 := (x3.2 4 (by decide)).trans (xx 4 (by decide))
            refine again _ h3 g9.2.2.2.2.2 g10 (by show ν3 4 + 1 = _; omega) (by show ν3 2 + 0 = _; omega) (Or.inr ?_)
            have e3 : b_vT [(1, 0, 0), (1, 1, 0), (1, 2, 0), (1, 4, 0), (1, 4, 1)] ν3 3 = ν 4 := by show ν3 4 + 0 = _; omega
            rw [e3]
            exact ⟨iv4.1, l4⟩
          · intro ν3 h3 x3 g9
            refine b_pq.to rfl ?_
            refine b_gd.cv (T := (cE63, [], [])) (bl := [some (2, 365, 0), some (1, 1, 0), some (1, 2, 0), some (1, 3, 0), some (1, 4, 0)]) (bs := []) (σ := [(1, 0, 0), (1, 1, 0), (1, 2, 0), (1, 3, 0), (1, 4, 1)]) (by decide +kernel) g9 (fun g10 => ?_)
            have w2 : ν3 2 = ν 2 := (x3.2 2 (by decide)).trans (xx 2 (by decide))
            have w3 : ν3 3 = ν 3 := (x3.2 3 (by decide)).trans (xx 3 (by decide))
            have w4 : ν3 4 = ν 4 := (x3.2 4 (by decide)).trans (xx 4 (by decide))
            refine again _ h3 g9.2.2.2.2.2 g10 (by show ν3 4 + 1 = _; omega) (by show ν3 2 + 0 = _; omega) (Or.inr ?_)
            have e3 : b_vT [(1, 0, 0), (1, 1, 0), (1, 2, 0), (1, 3, 0), (1, 4, 1)] ν3 3 = ν 3 := by show ν3 3 + 0 = _; omega
            rw [e3]
            exact hb2
      · have ha0 := c_is0 (show a.toInt = 0 by omega)
        subst ha0
        obtain ⟨g3, x3⟩ := g1.rdI (base := (2, 365, 0)) (slot := (0, 0, 44)) (lo := 1) (hi := 20) f1 (Or.inl ⟨rfl, rfl⟩) (Or.inl ⟨rfl, rfl⟩) (by omega) f3
        have g4 := g3.ad (ν' := b_nu ν 5 f.toInt) (E' := []) (F' := [((2, 769, 0), (1, 4, 0), (0, 0, 0))]) (C' := [(4, 5, -1)]) (fun _ _ => rfl) trivial ⟨b_fa.mk a1 (Or.inl ⟨rfl, rfl⟩) (Or.inr ⟨rfl, by decide, by show _ = b_nu ν 5 f.toInt 4 + 0; rw [yk _ 4 (by decide)]; omega⟩) (Or.inl ⟨rfl, by decide⟩), trivial⟩ ⟨⟨by decide, by decide, by show b_nu ν 5 f.toInt 4 ≤ b_nu ν 5 f.toInt 5 + (-1); rw [yk _ 4 (by decide), b_nu_n]; omega⟩, trivial⟩
        refine b_gd.more (N' := 6) (ν' := b_nu ν 5 f.toInt) ⟨by decide, fun k hk => yk _ k hk⟩ (by decide) ?_
        refine b_gd.sg (S := cG) c_hJ cO cGC rfl (by decide) (by decide) (g4.wk (by decide)) (b_al.c ?_ b_al.n)
        intro ν3 h3 x3 g5
        refine b_pq.to rfl ?_
        refine b_gd.cv (T := (cE63, [], [])) (bl := [some (2, 365, 0), some (1, 1, 0), some (1, 2, 0), some (1, 3, 0), some (1, 4, 0)]) (bs := []) (σ := [(1, 0, 0), (1, 1, 0), (1, 2, 0), (1, 3, 0), (1, 4, 1)]) (by decide +kernel) g5 (fun g6 => ?_)
        have w2 : ν3 2 = ν 2 := (x3.2 2 (by decide)).trans (yk _ 2 (by decide))
        have w3 : ν3 3 = ν 3 := (x3.2 3 (by decide)).trans (yk _ 3 (by decide))
        have w4 : ν3 4 = ν 4 := (x3.2 4 (by decide)).trans (yk _ 4 (by decide))
        have e3 : b_vT [(1, 0, 0), (1, 1, 0), (1, 2, 0), (1, 3, 0), (1, 4, 1)] ν3 3 = ν 3 := by show ν3 3 + 0 = _; omega
        exact again _ h3 g5.2.2.2.2.2 g6 (by show ν3 4 + 1 = _; omega) (by show ν3 2 + 0 = _; omega) (by rw [e3]; exact hb)
    · obtain ⟨g3, x3⟩ := g.rdI (base := (2, 365, 0)) (slot := (0, 0, 44)) (lo := 0) (hi := 20) f1 (Or.inl ⟨rfl, rfl⟩) (Or.inl ⟨rfl, rfl⟩) f2 f3
      have g4 := g3.ad (ν' := b_nu ν 5 f.toInt) (E' := []) (F' := []) (C' := [(5, 4, 0)]) (fun _ _ => rfl) trivial trivial ⟨⟨by decide, by decide, by show b_nu ν 5 f.toInt 5 ≤ b_nu ν 5 f.toInt 4 + 0; rw [yk _ 4 (by decide), b_nu_n]; omega⟩, trivial⟩
      refine b_gd.more (N' := 6) (ν' := b_nu ν 5 f.toInt) ⟨by decide, fun k hk => yk _ k hk⟩ (by decide) ?_
      refine b_gd.sg (S := cF) c_hJ cO cFC rfl (by decide) (by decide) (g4.wk (by decide)) (b_al.c ?_ b_al.n)
      intro ν3 h3 x3 g5
      refine b_pq.to rfl ?_
      refine b_gd.cv (T := (cE63, [], [])) (bl := [some (2, 365, 0), some (1, 1, 0), some (1, 2, 0), some (1, 3, 0), none]) (bs := []) (σ := [(1, 0, 0), (1, 1, 0), (1, 2, 0), (1, 3, 0), (1, 4, 0)]) (by decide +kernel) g5 (fun g6 => ?_)
      have w2 : ν3 2 = ν 2 := (x3.2 2 (by decide)).trans (yk _ 2 (by decide))
      have w3 : ν3 3 = ν 3 := (x3.2 3 (by decide)).trans (yk _ 3 (by decide))
      have e2 : b_vT [(1, 0, 0), (1, 1, 0), (1, 2, 0), (1, 3, 0), (1, 4, 0)] ν3 2 = ν 2 := by show ν3 2 + 0 = _; omega
      have e3 : b_vT [(1, 0, 0), (1, 1, 0), (1, 2, 0), (1, 3, 0), (1, 4, 0)] ν3 3 = ν 3 := by show ν3 3 + 0 = _; omega
      have fr := g5.2.2.2.2.2
      have c3 := sameC h3 fr
      exact c113 g6 (by rw [e3]; exact hb.imp_right fun q => ⟨q.1, lP_frm H fr rfl rfl q.2⟩) (by rw [e2]; omega) (sameQ h3 fr) (fun ν' h' g' hlt he hq => ih ν' h' g' (by omega) he hq)
theorem c54 : ∀ (M : Nat) (ν : BN) (h : AH), b_G c_K ν h h (cE.2.1.2.2.1, [], [], [], []) → c_cnt (lP h) 20 < M → ν 2 + (c_cnt (lP h) 20 : Int) ≤ 20 → WQ h → b_gd c_K c_r190 3 54 cE.2.1.1 [] cE.2.1.2.2.1.length ν h 0 0
  | 0, ν, h, g, hm, _, _ => absurd hm (Nat.not_lt_zero _)
  | M + 1, ν, h, g, hm, hc, hQ => by
    have H := g.2.2.2.2.1
    refine b_gd.sg c_hJ cO cEC rfl (by decide) (by decide) g (b_al.c ?_ b_al.n)
    intro ν1 h1 x1 g1
    refine b_pq.to rfl ?_
    have fr := g1.2.2.2.2.2
    have m2 := x1.2 2 (by decide)
    refine b_gd.cv (T := (cE63, [], [])) (bl := [some (2, 365, 0), some (1, 1, 0), some (1, 2, 0), some (1, 3, 0), some (1, 4, 0)]) (bs := []) (σ := [(1, 0, 0), (1, 1, 0), (1, 2, 0), (0, 0, -1), (0, 0, 0)]) (by decide +kernel) g1 (fun g2 => ?_)
    have e2 : b_vT [(1, 0, 0), (1, 1, 0), (1, 2, 0), (0, 0, -1), (0, 0, 0)] ν1 2 = ν 2 := by show ν1 2 + 0 = _; omega
    have c1 : c_cnt (lP h1) 20 ≤ c_cnt (lP h) 20 := c_cnt_le fun k _ p => lP_rev H fr rfl rfl p
    exact c63 _ M _ h1 g2 (Nat.lt_succ_self _) (Or.inl rfl) (by rw [e2]; omega) (fun k p => sP_frm H fr rfl rfl rfl (hQ k (lP_rev H fr rfl rfl p))) (by omega) (fun ν' h' g' hlt he hq => c54 M ν' h' g' hlt he hq)
theorem c17 : ∀ (m : Nat) (ν : BN) (h : AH), b_G c_K ν h h (cB.2.1.2.2.1, [], [], [], []) → (20 - ν 2).toNat < m → (∀ j, j < (ν 2).toNat → c_at h 769 j = some (.int 1) → sP h j) → b_gd c_K c_r190 3 17 cB.2.1.1 [] cB.2.1.2.2.1.length ν h 0 0
  | 0, ν, h, g, hm, _ => absurd hm (Nat.not_lt_zero _)
  | m + 1, ν, h, g, hm, hQ => by
    have H := g.2.2.2.2.1
    have iv2 := g.iv 2 (lo := 0) (hi := 20) rfl
    refine b_gd.sg c_hJ cO cBC rfl (by decide) (by decide) g (b_al.c ?_ (b_al.c ?_ (b_al.c ?_ b_al.n)))
    · intro ν1 h1 x1 g1
      refine b_pq.to rfl ?_
      have fr := g1.2.2.2.2.2
      have m2 := x1.2 2 (by decide)
      have k1 : ν1 3 ≤ ν1 2 + 0 := g1.co (by decide)
      obtain ⟨f, f1, f2⟩ := g1.rdF (a := 365) (j := 44) (m := 3) (k' := 0) (by rfl)
      refine b_gd.cv (T := (cD.2.1.2.2.1, [], [])) (bl := cD.2.1.1) (bs := []) (σ := [(1, 0, 0), (1, 1, 0)]) (by decide +kernel) g1 (fun g2 => ?_)
      refine b_gd.sg c_hJ cO cDC rfl (by decide) (by decide) g2 (b_al.c ?_ b_al.n)
      intro ν3 h3 x3 g3
      refine b_pq.to rfl ?_
      have fr3 := g3.2.2.2.2.2
      have H1 := g1.2.2.2.2.1
      refine b_gd.cv (T := (cE.2.1.2.2.1, [], [])) (bl := cE.2.1.1) (bs := []) (σ := [(1, 0, 0), (1, 1, 0), (0, 0, 0), (0, 0, 0)]) (by decide +kernel) g3 (fun g4 => ?_)
      have e2 : b_vT [(1, 0, 0), (1, 1, 0), (0, 0, 0), (0, 0, 0)] ν3 2 = 0 := rfl
      have cb := c_cnt_bd (p := lP h3) (n := 20)
      refine c54 _ _ _ g4 (Nat.lt_succ_self _) (by rw [e2]; omega) (fun k p => ?_)
      have p1 := lP_rev H1 fr3 rfl rfl p
      obtain ⟨f', q1, q2, q3⟩ := p1
      rw [f1] at q1
      cases q1
      rw [fr.k H c_a769 c_q108 (by decide) rfl] at q3
      exact sP_frm H1 fr3 rfl rfl rfl (sP_frm H fr rfl rfl rfl (hQ k (by omega) q3))
    · intro ν1 h1 x1 g1
      refine b_pq.to rfl ?_
      have k1 : ν1 3 ≤ ν1 2 + 0 := g1.co (by decide)
      have k2 : ν1 2 ≤ ν1 3 + 0 := g1.co (by decide)
      have m2 := x1.2 2 (by decide)
      have iv3 := g1.iv 3 (lo := 0) (hi := 19) rfl
      have fr1 := g1.2.2.2.2.2
      have H1 := g1.2.2.2.2.1
      refine b_gd.putP (G := (cB.2.1.2.2.1 ++ [(0, 0, 19)], [], [], [], [])) (gg := 108) (row := (21, 20, 1, [(0, 0, 1)])) (ty := (0, 0, 1)) cI43 (b_rowX c_a769 c_q108) (by decide +kernel) rfl (by decide +kernel) (by decide) (by decide) g1.bare (fun a n t vs w ha hn hw e1 hl => by
        obtain rfl := ha.k
        have en := hn.v
        obtain ⟨x, rfl, hx⟩ := c_one hw rfl
        exact c_J_left0 g1.2.2.2.2.1.2 e1 (by rw [c_is0 hx]; decide)) (fun a n t vs w ha hn hw e1 hl g2 => ?_)
      have ea := ha.k
      subst ea
      have en := hn.v
      obtain ⟨x, rfl, hx⟩ := c_one hw rfl
      have hx := c_is0 hx
      subst hx
      have H2 := g2.2.2.2.2.1
      refine b_gd.cv (G := (cB.2.1.2.2.1 ++ [(0, 0, 19)], [], [], [], [])) (T := (cC.2.1.2.2.1, [], [])) (bl := cC.2.1.1) (bs := []) (σ := [(1, 0, 0), (1, 1, 0), (1, 3, 0)]) (by decide +kernel) g2.bare (fun g4 => ?_)
      refine b_gd.sg (S := cC) c_hJ cO cCC rfl (by decide) (by decide) g4 (b_al.c ?_ b_al.n)
      intro ν3 h3 x3 g5
      refine b_pq.to rfl ?_
      have n2 : ν3 2 = ν1 3 := (x3.2 2 (by decide)).trans (by show ν1 3 + 0 = _; omega)
      have fr5 := g5.2.2.2.2.2
      refine b_gd.cv (T := (cB.2.1.2.2.1, [], [])) (bl := cB.2.1.1) (bs := []) (σ := [(1, 0, 0), (1, 1, 0), (1, 2, 1)]) (by decide +kernel) g5 (fun g6 => ?_)
      have u2 : b_vT [(1, 0, 0), (1, 1, 0), (1, 2, 1)] ν3 2 = ν 2 + 1 := by show ν3 2 + 1 = _; omega
      refine c17 m _ _ g6 (by rw [u2]; omega) (fun j hj hj1 => ?_)
      rw [u2] at hj
      rw [fr5.k H2 c_a769 c_q108 (by decide) rfl, c_at_set e1 hl] at hj1
      refine sP_frm H2 fr5 rfl rfl rfl (sP_set e1 hl ?_)
      by_cases e : j = n
      · rw [if_pos ⟨rfl, e⟩] at hj1
        cases hj1
      · rw [if_neg (fun q => e q.2), fr1.k H c_a769 c_q108 (by decide) rfl] at hj1
        exact sP_frm H fr1 rfl rfl rfl (hQ j (by omega) hj1)
    · intro ν1 h1 x1 g1
      refine b_pq.to rfl ?_
      have k1 : ν1 3 ≤ ν1 2 + 0 := g1.co (by decide)
      have k2 : ν1 2 ≤ ν1 3 + 0 := g1.co (by decide)
      have m2 := x1.2 2 (by decide)
      have iv3 := g1.iv 3 (lo := 0) (hi := 19) rfl
      have fr1 := g1.2.2.2.2.2
      have H1 := g1.2.2.2.2.1
      have kf : ν1 2 ≤ ν1 8 + (-1) := g1.co (by decide)
      obtain ⟨f, f0, f00⟩ := g1.rdF (a := 365) (j := 44) (m := 8) (k' := 0) (by rfl)
      have hs : sP h1 (ν 2).toNat := by
        have k3 : ν1 5 ≤ ν1 4 + (-1) := g1.co (by decide)
        have iv5 := g1.iv 5 (lo := 0) (hi := 7) rfl
        have iv7 := g1.iv 7 (lo := 0) (hi := 100) rfl
        obtain ⟨r, r1, r2⟩ := g1.rdF (a := 365) (j := 45) (m := 4) (k' := 0) (by rfl)
        obtain ⟨b, b1, b2⟩ := g1.rdA (a := 398) (n := 2) (m := 6) (k := 0) (by rfl) (j := (ν 2).toNat) (by omega)
        obtain ⟨a, a1, a2⟩ := g1.1.rf (n := 6) (g := 65) rfl
        obtain ⟨c, v, v1, v2, v3⟩ := g1.rd2 (p := 6) (n := 5) (m := 7) (k := 0) (k' := 0) (by rfl) (j := (ν1 5).toNat) (by omega)
        rw [show b = a by omega] at b1
        rw [show c = a by omega] at v2
        exact ⟨r, v, a, (ν1 5).toNat, r1, by omega, b1, a2, v2, by omega⟩
      refine b_gd.putP (G := (cB.2.1.2.2.1 ++ [(0, 0, 19), (0, 1, 8), (0, 0, 7), (66, 0, 0), (0, 0, 100), (0, 1, 20)], [], [], [], [])) (gg := 108) (row := (21, 20, 1, [(0, 0, 1)])) (ty := (0, 0, 1)) cI43 (b_rowX c_a769 c_q108) (by decide +kernel) rfl (by decide +kernel) (by decide) (by decide) g1.bare (fun a n t vs w ha hn hw e1 hl => by
        obtain rfl := ha.k
        have en := hn.v
        obtain ⟨x, rfl, hx⟩ := c_one hw rfl
        exact c_J_left g1.2.2.2.2.1.2 e1 (fun _ f' hf' => by rw [f0] at hf'; cases hf'; omega)) (fun a n t vs w ha hn hw e1 hl g2 => ?_)
      have ea := ha.k
      subst ea
      have en := hn.v
      obtain ⟨x, rfl, hx⟩ := c_one hw rfl
      have hx := c_is1 hx
      subst hx
      have H2 := g2.2.2.2.2.1
      refine b_gd.cv (G := (cB.2.1.2.2.1 ++ [(0, 0, 19), (0, 1, 8), (0, 0, 7), (66, 0, 0), (0, 0, 100), (0, 1, 20)], [], [], [], [])) (T := (cC.2.1.2.2.1, [], [])) (bl := cC.2.1.1) (bs := []) (σ := [(1, 0, 0), (1, 1, 0), (1, 3, 0)]) (by decide +kernel) g2.bare (fun g4 => ?_)
      refine b_gd.sg (S := cC) c_hJ cO cCC rfl (by decide) (by decide) g4 (b_al.c ?_ b_al.n)
      intro ν3 h3 x3 g5
      refine b_pq.to rfl ?_
      have n2 : ν3 2 = ν1 3 := (x3.2 2 (by decide)).trans (by show ν1 3 + 0 = _; omega)
      have fr5 := g5.2.2.2.2.2
      refine b_gd.cv (T := (cB.2.1.2.2.1, [], [])) (bl := cB.2.1.1) (bs := []) (σ := [(1, 0, 0), (1, 1, 0), (1, 2, 1)]) (by decide +kernel) g5 (fun g6 => ?_)
      have u2 : b_vT [(1, 0, 0), (1, 1, 0), (1, 2, 1)] ν3 2 = ν 2 + 1 := by show ν3 2 + 1 = _; omega
      refine c17 m _ _ g6 (by rw [u2]; omega) (fun j hj hj1 => ?_)
      rw [u2] at hj
      rw [fr5.k H2 c_a769 c_q108 (by decide) rfl, c_at_set e1 hl] at hj1
      refine sP_frm H2 fr5 rfl rfl rfl (sP_set e1 hl ?_)
      by_cases e : j = n
      · rw [if_pos ⟨rfl, e⟩] at hj1
        rw [show j = (ν 2).toNat by omega]
        exact hs
      · rw [if_neg (fun q => e q.2), fr1.k H c_a769 c_q108 (by decide) rfl] at hj1
        exact sP_frm H fr1 rfl rfl rfl (hQ j (by omega) hj1)
/-- JuryreelModel.choose(I)I -/
theorem c_v190 : b_valid c_K c_r190 := b_gd.valid (d := 3) rfl (by decide +kernel) fun ν h g => by
  refine b_gd.sg (S := cA) c_hJ cO cAC rfl (by decide) (by decide) g (b_al.c ?_ (b_al.c ?_ b_al.n))
  · intro ν3 h3 x3 g3
    exact b_pq.int (lo := 0) (hi := 20) (by decide) g3
  · intro ν1 h1 x1 g1
    refine b_pq.to rfl ?_
    refine b_gd.cv (T := (cB.2.1.2.2.1, [], [])) (bl := cB.2.1.1) (bs := []) (σ := [(1, 0, 0), (1, 1, 0), (0, 0, 0)]) (by decide +kernel) g1 (fun g2 => ?_)
    have e2 : b_vT [(1, 0, 0), (1, 1, 0), (0, 0, 0)] ν1 2 = 0 := rfl
    exact c17 _ _ _ g2 (Nat.lt_succ_self _) (fun j hj => by rw [e2] at hj; exact absurd hj (Nat.not_lt_zero _))
