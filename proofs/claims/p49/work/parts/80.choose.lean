/-! part 80.choose -/
section
/-! choose: a film that is left has a score; every turn takes one away -/
def c_r188 : BRw := (188, 1, ([(2, 365, 0), (1, 0, 0)], ([(0, 0, 4)], [], [])), [], [(.inl (some (1, 1, 0)), ([(0, (-2147483648), 2147483647)], [], []), (0, 0))])
def c_c188 : List BCu := [(4, [some (2, 365, 0), some (1, 0, 0), some (1, 1, 0), some (1, 2, 0)], ([(0, 0, 4), (0, (-2147483648), 2147483647), (0, 0, 20)], [], []), ([(2, (-2))], 40), none)]
/-- JuryreelModel.filmsOf(I)I -/
theorem c_v188 : b_valid c_K c_r188 := b_chk_ok c_hJ (d := 0) (F := 3000) (R := c_r188) (cuts := c_c188) (b_orc_ok c_hJ (tab := []) (fun _ h => absurd h List.not_mem_nil) 3000 0) rfl (by decide +kernel)
theorem cO : b_cal c_K (b_lim 3) (b_orc c_K [c_r174a, c_r174, c_r178, c_r180, c_r188, c_r187] 3000 3) := b_orc_ok c_hJ (List.forall_mem_cons.mpr ⟨c_v174a, List.forall_mem_cons.mpr ⟨c_v174, List.forall_mem_cons.mpr ⟨c_v178, List.forall_mem_cons.mpr ⟨c_v180, List.forall_mem_cons.mpr ⟨c_v188, List.forall_mem_cons.mpr ⟨c_v187, fun _ h => absurd h List.not_mem_nil⟩⟩⟩⟩⟩⟩) 3000 3
def cA : BSg := ((190, 0), ([some (2, 365, 0), some (1, 0, 0), none, none, none], [], ([(0, (-2147483648), 2147483647)], [], [])), [(50, 55)], [
  (.inl (.inl (some (0, 0, 0))), ([], [], []), (0, 0)),
  (.inr (17, [some (2, 365, 0), some (1, 1, 0), some (0, 0, 0), none, none], []), ([(0, 0, 4)], [], []), (0, 0))])
theorem cAC : b_sgc c_K (b_orc c_K [c_r174a, c_r174, c_r178, c_r180, c_r188, c_r187] 3000 3) cA [17] 3000 = true := by decide +kernel
def cB : BSg := ((190, 17), ([some (2, 365, 0), some (1, 1, 0), some (1, 2, 0), none, none], [], ([(0, (-2147483648), 2147483647), (0, 0, 4), (0, 0, 20)], [], [])), [], [
  (.inr (50, [some (2, 365, 0), some (1, 1, 0), none, none, none], []), ([(0, 0, 20)], [((2, 365, 0), (0, 0, 44), (1, 3, 0))], [(3, 2, 0)]), (0, 0)),
  (.inr (43, [some (2, 365, 0), some (1, 1, 0), some (1, 3, 0), none, none], [(0, 0, 0), (1, 3, 0), (2, 769, 0)]), ([(0, 0, 19)], [], [(3, 2, 0), (2, 3, 0)]), (0, 0)),
  (.inr (43, [some (2, 365, 0), some (1, 1, 0), some (1, 3, 0), none, none], [(0, 0, 1), (1, 3, 0), (2, 769, 0)]), ([(0, 0, 19), (0, 1, 8), (0, 0, 7), (66, 0, 0), (0, 0, 100), (0, 1, 20)], [((2, 365, 0), (0, 0, 45), (1, 4, 0)), ((2, 398, 0), (1, 2, 0), (3, 6, 0)), ((3, 6, 0), (1, 5, 0), (1, 7, 0)), ((2, 365, 0), (0, 0, 44), (1, 8, 0))], [(3, 2, 0), (2, 3, 0), (5, 4, (-1)), (2, 8, (-1))]), (0, 0))])
theorem cBC : b_sgc c_K (b_orc c_K [c_r174a, c_r174, c_r178, c_r180, c_r188, c_r187] 3000 3) cB [50, 43] 3000 = true := by decide +kernel
def cC : BSg := ((190, 44), ([some (2, 365, 0), some (1, 1, 0), some (1, 2, 0), none, none], [], ([(0, (-2147483648), 2147483647), (0, 0, 4), (0, 0, 19)], [], [])), [], [
  (.inr (17, [some (2, 365, 0), some (1, 1, 0), some (1, 2, 1), none, none], []), ([], [], []), (0, 0))])
theorem cCC : b_sgc c_K (b_orc c_K [c_r174a, c_r174, c_r178, c_r180, c_r188, c_r187] 3000 3) cC [17] 3000 = true := by decide +kernel
def cD : BSg := ((190, 50), ([some (2, 365, 0), some (1, 1, 0), none, none, none], [], ([(0, (-2147483648), 2147483647), (0, 0, 4)], [], [])), [], [
  (.inr (54, [some (2, 365, 0), some (1, 1, 0), some (0, 0, 0), some (0, 0, 0), none], []), ([], [], []), (0, 0))])
theorem cDC : b_sgc c_K (b_orc c_K [c_r174a, c_r174, c_r178, c_r180, c_r188, c_r187] 3000 3) cD [54] 3000 = true := by decide +kernel
def cE : BSg := ((190, 54), ([some (2, 365, 0), some (1, 1, 0), some (1, 2, 0), some (1, 3, 0), none], [], ([(0, (-2147483648), 2147483647), (0, 0, 4), (0, 0, 20), (0, 0, 19)], [], [])), [], [
  (.inr (63, [some (2, 365, 0), some (1, 1, 0), some (1, 2, 0), some (0, 0, (-1)), some (0, 0, 0)], []), ([], [], []), (0, 0))])
theorem cEC : b_sgc c_K (b_orc c_K [c_r174a, c_r174, c_r178, c_r180, c_r188, c_r187] 3000 3) cE [63] 3000 = true := by decide +kernel
def cF : BSg := ((190, 63), ([some (2, 365, 0), some (1, 1, 0), some (1, 2, 0), some (1, 3, 0), some (1, 4, 0)], [], ([(0, (-2147483648), 2147483647), (0, 0, 4), (0, 0, 20), (0, (-1), 19), (0, 0, 20), (0, 0, 20)], [((2, 365, 0), (0, 0, 44), (1, 5, 0))], [(5, 4, 0)])), [], [
  (.inr (113, [some (2, 365, 0), some (1, 1, 0), some (1, 2, 0), some (1, 3, 0), none], []), ([], [], []), (0, 0))])
theorem cFC : b_sgc c_K (b_orc c_K [c_r174a, c_r174, c_r178, c_r180, c_r188, c_r187] 3000 3) cF [113] 3000 = true := by decide +kernel
def cG : BSg := ((190, 63), ([some (2, 365, 0), some (1, 1, 0), some (1, 2, 0), some (1, 3, 0), some (1, 4, 0)], [], ([(0, (-2147483648), 2147483647), (0, 0, 4), (0, 0, 20), (0, (-1), 19), (0, 0, 19), (0, 1, 20)], [((2, 365, 0), (0, 0, 44), (1, 5, 0)), ((2, 769, 0), (1, 4, 0), (0, 0, 0))], [(4, 5, (-1))])), [], [
  (.inr (63, [some (2, 365, 0), some (1, 1, 0), some (1, 2, 0), some (1, 3, 0), some (1, 4, 1)], []), ([], [], []), (0, 0))])
theorem cGC : b_sgc c_K (b_orc c_K [c_r174a, c_r174, c_r178, c_r180, c_r188, c_r187] 3000 3) cG [63] 3000 = true := by decide +kernel
def cH : BSg := ((190, 63), ([some (2, 365, 0), some (1, 1, 0), some (1, 2, 0), some (1, 3, 0), some (1, 4, 0)], [], ([(0, (-2147483648), 2147483647), (0, 0, 4), (0, 0, 20), (0, (-1), (-1)), (0, 0, 19), (0, 1, 20)], [((2, 365, 0), (0, 0, 44), (1, 5, 0)), ((2, 769, 0), (1, 4, 0), (0, 0, 1))], [(4, 5, (-1))])), [], [
  (.inr (63, [some (2, 365, 0), some (1, 1, 0), some (1, 2, 0), some (1, 4, 0), some (1, 4, 1)], []), ([], [], []), (0, 0))])
theorem cHC : b_sgc c_K (b_orc c_K [c_r174a, c_r174, c_r178, c_r180, c_r188, c_r187] 3000 3) cH [63] 3000 = true := by decide +kernel
def cI : BSg := ((190, 63), ([some (2, 365, 0), some (1, 1, 0), some (1, 2, 0), some (1, 3, 0), some (1, 4, 0)], [], ([(0, (-2147483648), 2147483647), (0, 0, 4), (0, 0, 20), (0, 0, 19), (0, 0, 19), (0, 1, 20), (0, 1, 8), (0, 0, 7), (66, 0, 0), (0, 0, 100), (0, 0, 7), (66, 0, 0), (0, 0, 100)], [((2, 365, 0), (0, 0, 44), (1, 5, 0)), ((2, 365, 0), (0, 0, 45), (1, 6, 0)), ((2, 769, 0), (1, 4, 0), (0, 0, 1)), ((2, 398, 0), (1, 3, 0), (3, 8, 0)), ((3, 8, 0), (1, 7, 0), (1, 9, 0)), ((2, 398, 0), (1, 4, 0), (3, 11, 0)), ((3, 11, 0), (1, 10, 0), (1, 12, 0))], [(4, 5, (-1)), (3, 5, (-1)), (7, 6, (-1)), (10, 6, (-1))])), [], [
  (.inr (63, [some (2, 365, 0), some (1, 1, 0), some (1, 2, 0), some (1, 4, 0), some (1, 4, 1)], []), ([], [], []), (0, 0)),
  (.inr (63, [some (2, 365, 0), some (1, 1, 0), some (1, 2, 0), some (1, 3, 0), some (1, 4, 1)], []), ([], [], []), (0, 0))])
theorem cIC : b_sgc c_K (b_orc c_K [c_r174a, c_r174, c_r178, c_r180, c_r188, c_r187] 3000 3) cI [63] 3000 = true := by decide +kernel
def cJ : BSg := ((190, 113), ([some (2, 365, 0), some (1, 1, 0), some (1, 2, 0), some (1, 3, 0), none], [], ([(0, (-2147483648), 2147483647), (0, 0, 4), (0, 0, 20), (0, (-1), (-1))], [], [])), [], [
  (.inl (.inl (some (1, 2, 0))), ([], [], []), (0, 0))])
theorem cJC : b_sgc c_K (b_orc c_K [c_r174a, c_r174, c_r178, c_r180, c_r188, c_r187] 3000 3) cJ [] 3000 = true := by decide +kernel
def cK : BSg := ((190, 113), ([some (2, 365, 0), some (1, 1, 0), some (1, 2, 0), some (1, 3, 0), none], [], ([(0, (-2147483648), 2147483647), (0, 0, 4), (0, 0, 20), (0, 0, 19)], [], [])), [], [
  (.inr (123, [some (2, 365, 0), some (1, 1, 0), some (1, 2, 0), some (1, 3, 0), none], [(0, 0, 0), (1, 3, 0), (2, 769, 0)]), ([], [], []), (0, 0))])
theorem cKC : b_sgc c_K (b_orc c_K [c_r174a, c_r174, c_r178, c_r180, c_r188, c_r187] 3000 3) cK [123] 3000 = true := by decide +kernel
def cL : BSg := ((190, 124), ([some (2, 365, 0), some (1, 1, 0), some (1, 2, 0), some (1, 3, 0), none], [], ([(0, (-2147483648), 2147483647), (0, 0, 4), (0, 0, 19), (0, 0, 19), (0, 1, 20), (0, 1, 8), (0, 0, 7), (66, 0, 0), (0, 0, 100)], [((2, 365, 0), (0, 0, 44), (1, 4, 0)), ((2, 365, 0), (0, 0, 45), (1, 5, 0)), ((2, 398, 0), (1, 3, 0), (3, 7, 0)), ((3, 7, 0), (1, 6, 0), (1, 8, 0))], [(3, 4, (-1)), (6, 5, (-1))])), [(50, 53), (55, 0), (56, 0), (106, 0), (107, 0)], [
  (.inr (54, [some (2, 365, 0), some (1, 1, 0), some (1, 2, 0), some (1, 3, 0), none], []), ([], [], []), (0, 0)),
  (.inr (54, [some (2, 365, 0), some (1, 1, 0), some (1, 2, 1), some (1, 3, 0), none], []), ([], [], []), (0, 0))])
theorem cLC : b_sgc c_K (b_orc c_K [c_r174a, c_r174, c_r178, c_r180, c_r188, c_r187] 3000 3) cL [54] 3000 = true := by decide +kernel
/-- a film that has a score -/
def sP (h : AH) (k : Nat) : Prop := ∃ (r v : Int32) (row j : Nat), c_at h 365 45 = some (.int r) ∧ (j : Int) < r.toInt ∧ c_at h 398 k = some (.ref row) ∧ c_K.1 row = some 65 ∧ c_at h row j = some (.int v) ∧ 0 ≤ v.toInt
theorem sP_frm {W : BW} {h h' : AH} (H : b_H c_K h) (f : b_frm c_K W h h') (w1 : W.contains (50, 45) = false) (w2 : W.contains (64, 0) = false) (w3 : W.contains (65, 0) = false) {k : Nat} (p : sP h k) : sP h' k := by
  obtain ⟨r, v, row, j, p1, p2, p3, p4, p5, p6⟩ := p
  refine ⟨r, v, row, j, ?_, p2, ?_, p4, ?_, p6⟩
  · rw [f.kF H c_a365 c_q50 rfl w1]; exact p1
  · rw [f.k H c_a398 c_q64 (by decide) w2]; exact p3
  · rw [f.k H p4 c_q65 (by decide) w3]; exact p5
theorem sP_set {h : AH} {n t : Nat} {vs : List Value} {w : Value} (h1 : h[769]? = some (t, vs)) (hn : n < vs.length) {k : Nat} (p : sP h k) : sP (h.set 769 (t, vs.set n w)) k := by
  obtain ⟨r, v, row, j, p1, p2, p3, p4, p5, p6⟩ := p
  refine ⟨r, v, row, j, ?_, p2, ?_, p4, ?_, p6⟩
  · rw [c_at_set h1 hn, if_neg (fun q => by omega)]; exact p1
  · rw [c_at_set h1 hn, if_neg (fun q => by omega)]; exact p3
  · rw [c_at_set h1 hn, if_neg (fun q => c_ne p4 c_a769 (by decide) q.1)]; exact p5
/-- a film's score as more symbols -/
theorem sP_ad {ν : BN} {h : AH} {E : BQ} {F : BF} {C : BC} (g : b_G c_K ν h h (E, F, C, [], [])) {q p k : Nat} (hq : q < E.length) (hp : p < E.length) (hk : (k : Int) = ν q) (hr : ∀ r : Int32, c_at h 365 45 = some (.int r) → r.toInt = ν p) (w : sP h k) : ∃ ν' : BN, (∀ n, n < E.length → ν' n = ν n) ∧ b_G c_K ν' h h (E ++ [(0, 0, 7), (66, 0, 0), (0, 0, 100)], [((2, 398, 0), (1, q, 0), (3, E.length + 1, 0)), ((3, E.length + 1, 0), (1, E.length, 0), (1, E.length + 2, 0))] ++ F, [(E.length, p, -1)] ++ C, [], []) := by
  obtain ⟨r, v, row, j, p1, p2, p3, p4, p5, p6⟩ := w
  have H := g.2.2.2.2.1
  have r8 : r.toInt ≤ 8 := by
    obtain ⟨z, z1, z2, z3⟩ := H.rdI (j := 45) (lo := 0) (hi := 8) c_a365 c_q50 (by decide) (by decide) rfl
    rw [p1] at z1
    cases z1
    exact z3
  have v100 : v.toInt ≤ 100 := by
    obtain ⟨z, z1, z2, z3⟩ := H.rdI (j := j) (lo := -1) (hi := 100) p4 c_q65 (by decide) (by show j < 8; omega) rfl
    rw [p5] at z1
    cases z1
    exact z3
  have hrp := hr r p1
  have L3 : (E ++ [(0, 0, 7), (66, 0, 0), (0, 0, 100)]).length = E.length + 3 := List.length_append
  refine ⟨fun n => if n < E.length then ν n else if n = E.length then (j : Int) else if n = E.length + 1 then (row : Int) else v.toInt, fun n hn => if_pos hn, ?_⟩
  generalize hν : (fun n => if n < E.length then ν n else if n = E.length then (j : Int) else if n = E.length + 1 then (row : Int) else v.toInt : BN) = ν'
  have e0 : ν' E.length = j := by rw [← hν]; show (if _ then _ else _) = _; rw [if_neg (Nat.lt_irrefl _), if_pos rfl]
  have e1 : ν' (E.length + 1) = row := by rw [← hν]; show (if _ then _ else _) = _; rw [if_neg (by omega), if_neg (by omega), if_pos rfl]
  have e2 : ν' (E.length + 2) = v.toInt := by rw [← hν]; show (if _ then _ else _) = _; rw [if_neg (by omega), if_neg (by omega), if_neg (by omega)]
  have hx : ∀ n, n < E.length → ν' n = ν n := fun n hn => by rw [← hν]; exact if_pos hn
  have eq := hx q hq
  have ep := hx p hp
  exact g.ad (ν' := ν') hx
    ⟨by show b_q _ _ (ν' E.length); rw [e0]; exact b_q.i (by omega) (by omega), by show b_q _ _ (ν' (E.length + 1)); rw [e1]; exact b_q.r p4, by show b_q _ _ (ν' (E.length + 2)); rw [e2]; exact b_q.i p6 v100, trivial⟩
    ⟨b_fa.mk p3 (Or.inl ⟨rfl, rfl⟩) (Or.inr ⟨rfl, by rw [L3]; show q < _; omega, by show _ = ν' q + 0; omega⟩) (Or.inr ⟨rfl, by rw [L3]; show E.length + 1 < _; omega, by show _ = ν' (E.length + 1); omega⟩),
     b_fa.mk p5 (Or.inr ⟨rfl, by rw [L3]; show E.length + 1 < _; omega, by show _ = ν' (E.length + 1); omega⟩) (Or.inr ⟨rfl, by rw [L3]; show E.length < _; omega, by show _ = ν' E.length + 0; omega⟩) (Or.inr ⟨rfl, by rw [L3]; show E.length + 2 < _; omega, by show _ = ν' (E.length + 2) + 0; omega⟩), trivial⟩
    ⟨⟨by rw [L3]; show E.length < _; omega, by rw [L3]; show p < _; omega, by show ν' E.length ≤ ν' p + (-1); omega⟩, trivial⟩
def WQ (h : AH) : Prop := ∀ k, lP h k → sP h k
theorem cI43 : a_ins 190 43 = some (.bastore, 1) := by decide +kernel
theorem cI123 : a_ins 190 123 = some (.bastore, 1) := by decide +kernel
def cE63 : BQ := [(0, -2147483648, 2147483647), (0, 0, 4), (0, 0, 20), (0, -1, 19), (0, 0, 20)]
/-- from behind the inner loop to the outer one's head, or the end -/
theorem c113 {ν : BN} {h : AH} (g : b_G c_K ν h h (cE63, [], [], [], [])) (hb : ν 3 = -1 ∨ 0 ≤ ν 3 ∧ lP h (ν 3).toNat) (hm : ν 2 + (c_cnt (lP h) 20 : Int) ≤ 20) (hQ : WQ h)
    (ih : ∀ (ν' : BN) (h' : AH), b_G c_K ν' h' h' (cE.2.1.2.2.1, [], [], [], []) → c_cnt (lP h') 20 < c_cnt (lP h) 20 → ν' 2 + (c_cnt (lP h') 20 : Int) ≤ 20 → WQ h' → b_gd c_K c_r190 3 54 cE.2.1.1 [] cE.2.1.2.2.1.length ν' h' 0 0) : b_gd c_K c_r190 3 113 [some (2, 365, 0), some (1, 1, 0), some (1, 2, 0), some (1, 3, 0), none] [] 5 ν h 0 0 := by
  have iv3 := g.iv 3 (lo := -1) (hi := 19) rfl
  rcases hb with hb | ⟨hb, hl⟩
  · have g1 := (b_setQ g (n := 3) (lo := -1) (hi := -1) (by omega) (by omega)).1
    refine b_gd.cv (G := ([(0, -2147483648, 2147483647), (0, 0, 4), (0, 0, 20), (0, -1, -1), (0, 0, 20)], [], [], [], [])) (T := (cJ.2.1.2.2.1, [], [])) (bl := cJ.2.1.1) (bs := []) (σ := [(1, 0, 0), (1, 1, 0), (1, 2, 0), (1, 3, 0)]) (by decide +kernel) g1 (fun g2 => ?_)
    refine b_gd.sg c_hJ cO cJC rfl (by decide) (by decide) g2 (b_al.c ?_ b_al.n)
    intro ν3 h3 x3 g3
    exact b_pq.int (lo := 0) (hi := 20) (by decide) g3
  · have c1 : 0 < c_cnt (lP h) 20 := Nat.lt_of_lt_of_le (by rw [c_cnt_s.1 hl]; exact Nat.succ_pos _ : 0 < c_cnt (lP h) ((ν 3).toNat + 1)) (c_cnt_mono (by omega))
    have g1 := (b_setQ g (n := 3) (lo := 0) (hi := 19) (by omega) (by omega)).1
    refine b_gd.cv (G := ([(0, -2147483648, 2147483647), (0, 0, 4), (0, 0, 20), (0, 0, 19), (0, 0, 20)], [], [], [], [])) (T := (cK.2.1.2.2.1, [], [])) (bl := cK.2.1.1) (bs := []) (σ := [(1, 0, 0), (1, 1, 0), (1, 2, 0), (1, 3, 0)]) (by decide +kernel) g1 (fun g2 => ?_)
    have s2 : b_vT [(1, 0, 0), (1, 1, 0), (1, 2, 0), (1, 3, 0)] ν 2 = ν 2 := by show ν 2 + 0 = _; omega
    have s3 : b_vT [(1, 0, 0), (1, 1, 0), (1, 2, 0), (1, 3, 0)] ν 3 = ν 3 := by show ν 3 + 0 = _; omega
    refine b_gd.sg c_hJ cO cKC rfl (by decide) (by decide) g2 (b_al.c ?_ b_al.n)
    intro ν1 h1 x1 g3
    refine b_pq.to rfl ?_
    have m2 : ν1 2 = ν 2 := (x1.2 2 (by decide)).trans s2
    have m3 : ν1 3 = ν 3 := (x1.2 3 (by decide)).trans s3
    have H := g.2.2.2.2.1
    have f1 := g3.2.2.2.2.2
    have H1 := g3.2.2.2.2.1
    have l1 := lP_frm H f1 (by decide) (by decide) hl
    have cc1 : c_cnt (lP h) 20 ≤ c_cnt (lP h1) 20 := c_cnt_le fun k _ p => lP_frm H f1 (by decide) (by decide) p
    refine b_gd.putP (G := (cK.2.1.2.2.1, [], [], [], [])) (gg := 108) (row := (21, 20, 1, [(0, 0, 1)])) (ty := (0, 0, 1)) cI123 (b_rowX c_a769 c_q108) (by decide +kernel) rfl (by decide +kernel) (by decide) (by decide) g3.bare (fun a n t vs w ha hn hw h1 hl => by
      obtain rfl := ha.k
      obtain ⟨x, rfl, hx⟩ := c_one hw rfl
      exact c_J_left0 g3.2.2.2.2.1.2 h1 (by rw [c_is0 hx]; decide)) (fun a n t vs w ha hn hw e1 hln g4 => ?_)
    have ea := ha.k
    subst ea
    have en := hn.v
    obtain ⟨x, rfl, hx⟩ := c_one hw rfl
    have hx := c_is0 hx
    subst hx
    have H4 := g4.2.2.2.2.1
    have nn : n = (ν 3).toNat := by omega
    -- back from h4's facts to those of h
    have back : ∀ k, lP (h1.set 769 (t, vs.set n (.int 0))) k → k ≠ n ∧ lP h k := fun k p => by
      obtain ⟨r, p1, p2, p3⟩ := p
      rw [c_at_set e1 hln, if_neg (fun q => by omega)] at p1
      rw [c_at_set e1 hln] at p3
      have hk : k ≠ n := fun q => by
        rw [if_pos ⟨rfl, q⟩] at p3
        cases p3
      rw [if_neg (fun q => hk q.2)] at p3
      refine ⟨hk, r, ?_, p2, ?_⟩
      · rw [f1.kF H c_a365 c_q50 rfl (by decide)] at p1; exact p1
      · rw [f1.k H c_a769 c_q108 (by decide) (by decide)] at p3; exact p3
    obtain ⟨fr, q1, q2⟩ : ∃ f : Int32, c_at (h1.set 769 (t, vs.set n (.int 0))) 365 44 = some (.int f) ∧ (n : Int) < f.toInt := by
      obtain ⟨f, p1, p2, -⟩ := l1
      exact ⟨f, by rw [c_at_set e1 hln, if_neg (fun q => by omega)]; exact p1, by omega⟩
    have tf : fr.toInt ≤ 20 := by
      obtain ⟨z, z1, z2, z3⟩ := H4.rdI (j := 44) (lo := 0) (hi := 20) c_a365 c_q50 (by decide) (by decide) rfl
      rw [q1] at z1
      cases z1
      exact z3
    have s4 : sP (h1.set 769 (t, vs.set n (.int 0))) n := sP_set e1 hln (by rw [nn]; exact sP_frm H f1 (by decide) (by decide) (by decide) (hQ _ hl))
    obtain ⟨rr, u1, u2⟩ : ∃ r : Int32, c_at (h1.set 769 (t, vs.set n (.int 0))) 365 45 = some (.int r) ∧ 1 ≤ r.toInt := by
      obtain ⟨r, v, row, j, p1, p2, -⟩ := s4
      exact ⟨r, p1, by omega⟩
    have tr : rr.toInt ≤ 8 := by
      obtain ⟨z, z1, z2, z3⟩ := H4.rdI (j := 45) (lo := 0) (hi := 8) c_a365 c_q50 (by decide) (by decide) rfl
      rw [u1] at z1
      cases z1
      exact z3
    have iv1 := g4.iv 2 (lo := 0) (hi := 20) rfl
    have g5 := (b_setQ g4.bare (n := 2) (lo := 0) (hi := 19) (by omega) (by omega)).1
    obtain ⟨g6, x6⟩ := g5.rdI (base := (2, 365, 0)) (slot := (0, 0, 44)) (lo := 1) (hi := 20) q1 (Or.inl ⟨rfl, rfl⟩) (Or.inl ⟨rfl, rfl⟩) (by omega) tf
    obtain ⟨g7, x7⟩ := g6.rdI (base := (2, 365, 0)) (slot := (0, 0, 45)) (lo := 1) (hi := 8) u1 (Or.inl ⟨rfl, rfl⟩) (Or.inl ⟨rfl, rfl⟩) u2 tr
    have y4 : b_nu (b_nu ν1 4 fr.toInt) 5 rr.toInt 4 = fr.toInt := by show (if _ then _ else b_nu ν1 4 fr.toInt 4) = _; rw [if_neg (by decide)]; exact b_nu_n
    have y5 : b_nu (b_nu ν1 4 fr.toInt) 5 rr.toInt 5 = rr.toInt := b_nu_n
    have yk : ∀ k, k < 4 → b_nu (b_nu ν1 4 fr.toInt) 5 rr.toInt k = ν1 k := fun k hk => by
      show (if k = 5 then _ else if k = 4 then _ else ν1 k) = _
      rw [if_neg (by omega), if_neg (by omega)]
    have g8 : b_G c_K (b_nu (b_nu ν1 4 fr.toInt) 5 rr.toInt) (h1.set 769 (t, vs.set n (.int 0))) (h1.set 769 (t, vs.set n (.int 0))) ([(0, -2147483648, 2147483647), (0, 0, 4), (0, 0, 19), (0, 0, 19), (0, 1, 20), (0, 1, 8)], [((2, 365, 0), (0, 0, 45), (1, 5, 0)), ((2, 365, 0), (0, 0, 44), (1, 4, 0))], [(3, 4, -1)], [], []) := by
      have g8 := g7.ad (ν' := b_nu (b_nu ν1 4 fr.toInt) 5 rr.toInt) (E' := []) (F' := []) (C' := [(3, 4, -1)]) (fun _ _ => rfl) trivial trivial ⟨⟨by decide, by decide, by show b_nu (b_nu ν1 4 fr.toInt) 5 rr.toInt 3 ≤ b_nu (b_nu ν1 4 fr.toInt) 5 rr.toInt 4 + (-1); rw [yk 3 (by decide), y4]; omega⟩, trivial⟩
      exact g8
    obtain ⟨ν9, x9, g9⟩ := sP_ad g8 (q := 3) (p := 5) (k := n) (by decide) (by decide) (by rw [yk 3 (by decide)]; omega) (fun r hr => by rw [u1] at hr; cases hr; exact y5.symm) s4
    have z2 : ν9 2 = ν 2 := (x9 2 (by decide)).trans ((yk 2 (by decide)).trans m2)
    refine b_gd.more (N' := 9) (ν' := ν9) ⟨by decide, fun k hk => (x9 k (by have hk : k < 4 := hk; show k < 6; omega)).trans (yk k hk)⟩ (by decide) ?_
    refine b_gd.sg (S := cL) c_hJ cO cLC rfl (by decide) (by decide) (g9.wk (by decide)) (b_al.c ?_ (b_al.c ?_ b_al.n))
    · intro ν3 h3 x3 g10
      refine b_pq.to rfl ?_
      have f3 := g10.2.2.2.2.2
      have back3 : ∀ k, lP h3 k → k ≠ n ∧ lP h k := fun k p => by
        obtain ⟨r, p1, p2, p3⟩ := p
        rw [f3.kF H4 c_a365 c_q50 rfl (by decide)] at p1
        rw [f3.k H4 c_a769 c_q108 (by decide) (by decide)] at p3
        exact back k ⟨r, p1, p2, p3⟩
      have lt : c_cnt (lP h3) 20 < c_cnt (lP h) 20 := c_cnt_lt (m := (ν 3).toNat) (by omega) hl (fun p => (back3 _ p).1 nn.symm) (fun k _ p => (back3 k p).2)
      have w2 := x3.2 2 (by decide)
      refine b_gd.cv (T := (cE.2.1.2.2.1, [], [])) (bl := cE.2.1.1) (bs := []) (σ := [(1, 0, 0), (1, 1, 0), (1, 2, 0), (1, 3, 0)]) (by decide +kernel) g10 (fun g11 => ?_)
      have e2 : b_vT [(1, 0, 0), (1, 1, 0), (1, 2, 0), (1, 3, 0)] ν3 2 = ν 2 := by show ν3 2 + 0 = _; omega
      exact ih _ _ g11 lt (by rw [e2]; omega) (fun k p => sP_frm H4 f3 (by decide) (by decide) (by decide) (sP_set e1 hln (sP_frm H f1 (by decide) (by decide) (by decide) (hQ k (back3 k p).2))))
    · intro ν3 h3 x3 g10
      refine b_pq.to rfl ?_
      have f3 := g10.2.2.2.2.2
      have back3 : ∀ k, lP h3 k → k ≠ n ∧ lP h k := fun k p => by
        obtain ⟨r, p1, p2, p3⟩ := p
        rw [f3.kF H4 c_a365 c_q50 rfl (by decide)] at p1
        rw [f3.k H4 c_a769 c_q108 (by decide) (by decide)] at p3
        exact back k ⟨r, p1, p2, p3⟩
      have lt : c_cnt (lP h3) 20 < c_cnt (lP h) 20 := c_cnt_lt (m := (ν 3).toNat) (by omega) hl (fun p => (back3 _ p).1 nn.symm) (fun k _ p => (back3 k p).2)
      have w2 := x3.2 2 (by decide)
      refine b_gd.cv (T := (cE.2.1.2.2.1, [], [])) (bl := cE.2.1.1) (bs := []) (σ := [(1, 0, 0), (1, 1, 0), (1, 2, 1), (1, 3, 0)]) (by decide +kernel) g10 (fun g11 => ?_)
      have e2 : b_vT [(1, 0, 0), (1, 1, 0), (1, 2, 1), (1, 3, 0)] ν3 2 = ν 2 + 1 := by show ν3 2 + 1 = _; omega
      exact ih _ _ g11 lt (by rw [e2]; omega) (fun k p => sP_frm H4 f3 (by decide) (by decide) (by decide) (sP_set e1 hln (sP_frm H f1 (by decide) (by decide) (by decide) (hQ k (back3 k p).2))))
theorem lP_rev {W : BW} {h h' : AH} (H : b_H c_K h) (f : b_frm c_K W h h') (w1 : W.contains (50, 44) = false) (w2 : W.contains (108, 0) = false) {k : Nat} (p : lP h' k) : lP h k := by
  obtain ⟨r, p1, p2, p3⟩ := p
  rw [f.kF H c_a365 c_q50 rfl w1] at p1
  rw [f.k H c_a769 c_q108 (by decide) w2] at p3
  exact ⟨r, p1, p2, p3⟩
theorem c63 : ∀ (m M : Nat) (ν : BN) (h : AH), b_G c_K ν h h (cE63, [], [], [], []) → (20 - ν 4).toNat < m → (ν 3 = -1 ∨ 0 ≤ ν 3 ∧ lP h (ν 3).toNat) → ν 2 + (c_cnt (lP h) 20 : Int) ≤ 20 → WQ h → c_cnt (lP h) 20 ≤ M → (∀ (ν' : BN) (h' : AH), b_G c_K ν' h' h' (cE.2.1.2.2.1, [], [], [], []) → c_cnt (lP h') 20 < M → ν' 2 + (c_cnt (lP h') 20 : Int) ≤ 20 → WQ h' → b_gd c_K c_r190 3 54 cE.2.1.1 [] cE.2.1.2.2.1.length ν' h' 0 0) → b_gd c_K c_r190 3 63 [some (2, 365, 0), some (1, 1, 0), some (1, 2, 0), some (1, 3, 0), some (1, 4, 0)] [] 5 ν h 0 0
  | 0, M, ν, h, g, hm, _, _, _, _, _ => absurd hm (Nat.not_lt_zero _)
  | m + 1, M, ν, h, g, hm, hb, hc, hQ, hM, ih => by
    have H := g.2.2.2.2.1
    have iv3 := g.iv 3 (lo := -1) (hi := 19) rfl
    have iv4 := g.iv 4 (lo := 0) (hi := 20) rfl
    obtain ⟨f, f1, f2, f3⟩ := H.rdI (j := 44) (lo := 0) (hi := 20) c_a365 c_q50 (by decide) (by decide) rfl
    have sameC : ∀ h3, b_frm c_K [] h h3 → c_cnt (lP h3) 20 ≤ c_cnt (lP h) 20 := fun h3 fr => c_cnt_le fun k _ p => lP_rev H fr rfl rfl p
    have sameQ : ∀ h3, b_frm c_K [] h h3 → WQ h3 := fun h3 fr k p => sP_frm H fr rfl rfl rfl (hQ k (lP_rev H fr rfl rfl p))
    have yk : ∀ z k, k < 5 → b_nu ν 5 z k = ν k := fun z k hk => if_neg (Nat.ne_of_lt hk)
    by_cases hk : ν 4 < f.toInt
    · have again : ∀ (ν' : BN) (h3 : AH), b_frm c_K [] h h3 → b_G c_K ν' h3 h3 (cE63, [], [], [], []) → ν' 4 = ν 4 + 1 → ν' 2 = ν 2 → (ν' 3 = -1 ∨ 0 ≤ ν' 3 ∧ lP h (ν' 3).toNat) → b_gd c_K c_r190 3 63 [some (2, 365, 0), some (1, 1, 0), some (1, 2, 0), some (1, 3, 0), some (1, 4, 0)] [] 5 ν' h3 0 0 := fun ν' h3 fr g' e4 e2 hb' => by
        have c3 := sameC h3 fr
        exact c63 m M ν' h3 g' (by omega) (hb'.imp_right fun q => ⟨q.1, lP_frm H fr rfl rfl q.2⟩) (by omega) (sameQ h3 fr) (by omega) ih
      obtain ⟨a, a1, a2, a3⟩ := H.rdI (j := (ν 4).toNat) (lo := 0) (hi := 1) c_a769 c_q108 (by decide) (by show (ν 4).toNat < 20; omega) rfl
      have g1 := (b_setQ g (n := 4) (lo := 0) (hi := 19) (by omega) (by omega)).1
      by_cases ha : a.toInt = 1
      · have ha := c_is1 ha
        subst ha
        have l4 : lP h (ν 4).toNat := ⟨f, f1, by omega, a1⟩
        by_cases hb1 : ν 3 = -1
        · have g2 := (b_setQ g1 (n := 3) (lo := -1) (hi := -1) (by omega) (by omega)).1
          obtain ⟨g3, x3⟩ := g2.rdI (base := (2, 365, 0)) (slot := (0, 0, 44)) (lo := 1) (hi := 20) f1 (Or.inl ⟨rfl, rfl⟩) (Or.inl ⟨rfl, rfl⟩) (by omega) f3
          have g4 := g3.ad (ν' := b_nu ν 5 f.toInt) (E' := []) (F' := [((2, 769, 0), (1, 4, 0), (0, 0, 1))]) (C' := [(4, 5, -1)]) (fun _ _ => rfl) trivial ⟨b_fa.mk a1 (Or.inl ⟨rfl, rfl⟩) (Or.inr ⟨rfl, by decide, by show _ = b_nu ν 5 f.toInt 4 + 0; rw [yk _ 4 (by decide)]; omega⟩) (Or.inl ⟨rfl, by decide⟩), trivial⟩ ⟨⟨by decide, by decide, by show b_nu ν 5 f.toInt 4 ≤ b_nu ν 5 f.toInt 5 + (-1); rw [yk _ 4 (by decide), b_nu_n]; omega⟩, trivial⟩
          refine b_gd.more (N' := 6) (ν' := b_nu ν 5 f.toInt) ⟨by decide, fun k hk => yk _ k hk⟩ (by decide) ?_
          refine b_gd.sg (S := cH) c_hJ cO cHC rfl (by decide) (by decide) (g4.wk (by decide)) (b_al.c ?_ b_al.n)
          intro ν3 h3 x3 g5
          refine b_pq.to rfl ?_
          refine b_gd.cv (T := (cE63, [], [])) (bl := [some (2, 365, 0), some (1, 1, 0), some (1, 2, 0), some (1, 3, 0), some (1, 4, 0)]) (bs := []) (σ := [(1, 0, 0), (1, 1, 0), (1, 2, 0), (1, 4, 0), (1, 4, 1)]) (by decide +kernel) g5 (fun g6 => ?_)
          have w2 : ν3 2 = ν 2 := (x3.2 2 (by decide)).trans (yk _ 2 (by decide))
          have w4 : ν3 4 = ν 4 := (x3.2 4 (by decide)).trans (yk _ 4 (by decide))
          refine again _ h3 g5.2.2.2.2.2 g6 (by show ν3 4 + 1 = _; omega) (by show ν3 2 + 0 = _; omega) (Or.inr ?_)
          have e3 : b_vT [(1, 0, 0), (1, 1, 0), (1, 2, 0), (1, 4, 0), (1, 4, 1)] ν3 3 = ν 4 := by show ν3 4 + 0 = _; omega
          rw [e3]
          exact ⟨iv4.1, l4⟩
        · have hb2 := hb.resolve_left hb1
          have g2 := (b_setQ g1 (n := 3) (lo := 0) (hi := 19) (by omega) (by omega)).1
          obtain ⟨g3, x3⟩ := g2.rdI (base := (2, 365, 0)) (slot := (0, 0, 44)) (lo := 1) (hi := 20) f1 (Or.inl ⟨rfl, rfl⟩) (Or.inl ⟨rfl, rfl⟩) (by omega) f3
          obtain ⟨fb, fb1, fb2, -⟩ := hb2.2
          rw [f1] at fb1
          cases fb1
          have sb := hQ _ hb2.2
          have sk := hQ _ l4
          obtain ⟨rr, u1, u2⟩ : ∃ r : Int32, c_at h 365 45 = some (.int r) ∧ 1 ≤ r.toInt := by
            obtain ⟨r, v, row, j, p1, p2, -⟩ := sb
            exact ⟨r, p1, by omega⟩
          have tr : rr.toInt ≤ 8 := by
            obtain ⟨z, z1, z2, z3⟩ := H.rdI (j := 45) (lo := 0) (hi := 8) c_a365 c_q50 (by decide) (by decide) rfl
            rw [u1] at z1
            cases z1
            exact z3
          obtain ⟨g4, x4⟩ := g3.rdI (base := (2, 365, 0)) (slot := (0, 0, 45)) (lo := 1) (hi := 8) u1 (Or.inl ⟨rfl, rfl⟩) (Or.inl ⟨rfl, rfl⟩) u2 tr
          have y6 : b_nu (b_nu ν 5 f.toInt) 6 rr.toInt 6 = rr.toInt := b_nu_n
          have y5 : b_nu (b_nu ν 5 f.toInt) 6 rr.toInt 5 = f.toInt := by show (if _ then _ else b_nu ν 5 f.toInt 5) = _; rw [if_neg (by decide)]; exact b_nu_n
          have yy : ∀ k, k < 5 → b_nu (b_nu ν 5 f.toInt) 6 rr.toInt k = ν k := fun k hk => by
            show (if k = 6 then _ else if k = 5 then _ else ν k) = _
            rw [if_neg (by omega), if_neg (by omega)]
          have g5 : b_G c_K (b_nu (b_nu ν 5 f.toInt) 6 rr.toInt) h h ([(0, -2147483648, 2147483647), (0, 0, 4), (0, 0, 20), (0, 0, 19), (0, 0, 19), (0, 1, 20), (0, 1, 8)], [((2, 769, 0), (1, 4, 0), (0, 0, 1)), ((2, 365, 0), (0, 0, 45), (1, 6, 0)), ((2, 365, 0), (0, 0, 44), (1, 5, 0))], [(4, 5, -1), (3, 5, -1)], [], []) := by
            have g5 := g4.ad (ν' := b_nu (b_nu ν 5 f.toInt) 6 rr.toInt) (E' := []) (F' := [((2, 769, 0), (1, 4, 0), (0, 0, 1))]) (C' := [(4, 5, -1), (3, 5, -1)]) (fun _ _ => rfl) trivial ⟨b_fa.mk a1 (Or.inl ⟨rfl, rfl⟩) (Or.inr ⟨rfl, by decide, by show _ = b_nu (b_nu ν 5 f.toInt) 6 rr.toInt 4 + 0; rw [yy 4 (by decide)]; omega⟩) (Or.inl ⟨rfl, by decide⟩), trivial⟩ ⟨⟨by decide, by decide, by show b_nu (b_nu ν 5 f.toInt) 6 rr.toInt 4 ≤ b_nu (b_nu ν 5 f.toInt) 6 rr.toInt 5 + (-1); rw [yy 4 (by decide), y5]; omega⟩, ⟨by decide, by decide, by show b_nu (b_nu ν 5 f.toInt) 6 rr.toInt 3 ≤ b_nu (b_nu ν 5 f.toInt) 6 rr.toInt 5 + (-1); rw [yy 3 (by decide), y5]; omega⟩, trivial⟩
            exact g5
          obtain ⟨ν7, x7, g7⟩ := sP_ad g5 (q := 3) (p := 6) (by decide) (by decide) (by rw [yy 3 (by decide)]; omega) (fun r hr => by rw [u1] at hr; cases hr; exact y6.symm) sb
          obtain ⟨ν8, x8, g8⟩ := sP_ad g7 (q := 4) (p := 6) (by decide) (by decide) (by rw [x7 4 (by decide), yy 4 (by decide)]; omega) (fun r hr => by rw [u1] at hr; cases hr; exact ((x7 6 (by decide)).trans y6).symm) sk
          have xx : ∀ k, k < 5 → ν8 k = ν k := fun k hk => (x8 k (by show k < 10; omega)).trans ((x7 k (by show k < 7; omega)).trans (yy k hk))
          refine b_gd.more (N' := 13) (ν' := ν8) ⟨by decide, fun k hk => xx k hk⟩ (by decide) ?_
          refine b_gd.sg (S := cI) c_hJ cO cIC rfl (by decide) (by decide) (g8.wk (by decide)) (b_al.c ?_ (b_al.c ?_ b_al.n))
          · intro ν3 h3 x3 g9
            refine b_pq.to rfl ?_
            refine b_gd.cv (T := (cE63, [], [])) (bl := [some (2, 365, 0), some (1, 1, 0), some (1, 2, 0), some (1, 3, 0), some (1, 4, 0)]) (bs := []) (σ := [(1, 0, 0), (1, 1, 0), (1, 2, 0), (1, 4, 0), (1, 4, 1)]) (by decide +kernel) g9 (fun g10 => ?_)
            have w2 : ν3 2 = ν 2 := (x3.2 2 (by decide)).trans (xx 2 (by decide))
            have w4 : ν3 4 = ν 4 := (x3.2 4 (by decide)).trans (xx 4 (by decide))
            refine again _ h3 g9.2.2.2.2.2 g10 (by show ν3 4 + 1 = _; omega) (by show ν3 2 + 0 = _; omega) (Or.inr ?_)
            have e3 : b_vT [(1, 0, 0), (1, 1, 0), (1, 2, 0), (1, 4, 0), (1, 4, 1)] ν3 3 = ν 4 := by show ν3 4 + 0 = _; omega
            rw [e3]
            exact ⟨iv4.1, l4⟩
          · intro ν3 h3 x3 g9
            refine b_pq.to rfl ?_
            refine b_gd.cv (T := (cE63, [], [])) (bl := [some (2, 365, 0), some (1, 1, 0), some (1, 2, 0), some (1, 3, 0), some (1, 4, 0)]) (bs := []) (σ := [(1, 0, 0), (1, 1, 0), (1, 2, 0), (1, 3, 0), (1, 4, 1)]) (by decide +kernel) g9 (fun g10 => ?_)
            have w2 : ν3 2 = ν 2 := (x3.2 2 (by decide)).trans (xx 2 (by decide))
            have w3 : ν3 3 = ν 3 := (x3.2 3 (by decide)).trans (xx 3 (by decide))
            have w4 : ν3 4 = ν 4 := (x3.2 4 (by decide)).trans (xx 4 (by decide))
            refine again _ h3 g9.2.2.2.2.2 g10 (by show ν3 4 + 1 = _; omega) (by show ν3 2 + 0 = _; omega) (Or.inr ?_)
            have e3 : b_vT [(1, 0, 0), (1, 1, 0), (1, 2, 0), (1, 3, 0), (1, 4, 1)] ν3 3 = ν 3 := by show ν3 3 + 0 = _; omega
            rw [e3]
            exact hb2
      · have ha0 := c_is0 (show a.toInt = 0 by omega)
        subst ha0
        obtain ⟨g3, x3⟩ := g1.rdI (base := (2, 365, 0)) (slot := (0, 0, 44)) (lo := 1) (hi := 20) f1 (Or.inl ⟨rfl, rfl⟩) (Or.inl ⟨rfl, rfl⟩) (by omega) f3
        have g4 := g3.ad (ν' := b_nu ν 5 f.toInt) (E' := []) (F' := [((2, 769, 0), (1, 4, 0), (0, 0, 0))]) (C' := [(4, 5, -1)]) (fun _ _ => rfl) trivial ⟨b_fa.mk a1 (Or.inl ⟨rfl, rfl⟩) (Or.inr ⟨rfl, by decide, by show _ = b_nu ν 5 f.toInt 4 + 0; rw [yk _ 4 (by decide)]; omega⟩) (Or.inl ⟨rfl, by decide⟩), trivial⟩ ⟨⟨by decide, by decide, by show b_nu ν 5 f.toInt 4 ≤ b_nu ν 5 f.toInt 5 + (-1); rw [yk _ 4 (by decide), b_nu_n]; omega⟩, trivial⟩
        refine b_gd.more (N' := 6) (ν' := b_nu ν 5 f.toInt) ⟨by decide, fun k hk => yk _ k hk⟩ (by decide) ?_
        refine b_gd.sg (S := cG) c_hJ cO cGC rfl (by decide) (by decide) (g4.wk (by decide)) (b_al.c ?_ b_al.n)
        intro ν3 h3 x3 g5
        refine b_pq.to rfl ?_
        refine b_gd.cv (T := (cE63, [], [])) (bl := [some (2, 365, 0), some (1, 1, 0), some (1, 2, 0), some (1, 3, 0), some (1, 4, 0)]) (bs := []) (σ := [(1, 0, 0), (1, 1, 0), (1, 2, 0), (1, 3, 0), (1, 4, 1)]) (by decide +kernel) g5 (fun g6 => ?_)
        have w2 : ν3 2 = ν 2 := (x3.2 2 (by decide)).trans (yk _ 2 (by decide))
        have w3 : ν3 3 = ν 3 := (x3.2 3 (by decide)).trans (yk _ 3 (by decide))
        have w4 : ν3 4 = ν 4 := (x3.2 4 (by decide)).trans (yk _ 4 (by decide))
        have e3 : b_vT [(1, 0, 0), (1, 1, 0), (1, 2, 0), (1, 3, 0), (1, 4, 1)] ν3 3 = ν 3 := by show ν3 3 + 0 = _; omega
        exact again _ h3 g5.2.2.2.2.2 g6 (by show ν3 4 + 1 = _; omega) (by show ν3 2 + 0 = _; omega) (by rw [e3]; exact hb)
    · obtain ⟨g3, x3⟩ := g.rdI (base := (2, 365, 0)) (slot := (0, 0, 44)) (lo := 0) (hi := 20) f1 (Or.inl ⟨rfl, rfl⟩) (Or.inl ⟨rfl, rfl⟩) f2 f3
      have g4 := g3.ad (ν' := b_nu ν 5 f.toInt) (E' := []) (F' := []) (C' := [(5, 4, 0)]) (fun _ _ => rfl) trivial trivial ⟨⟨by decide, by decide, by show b_nu ν 5 f.toInt 5 ≤ b_nu ν 5 f.toInt 4 + 0; rw [yk _ 4 (by decide), b_nu_n]; omega⟩, trivial⟩
      refine b_gd.more (N' := 6) (ν' := b_nu ν 5 f.toInt) ⟨by decide, fun k hk => yk _ k hk⟩ (by decide) ?_
      refine b_gd.sg (S := cF) c_hJ cO cFC rfl (by decide) (by decide) (g4.wk (by decide)) (b_al.c ?_ b_al.n)
      intro ν3 h3 x3 g5
      refine b_pq.to rfl ?_
      refine b_gd.cv (T := (cE63, [], [])) (bl := [some (2, 365, 0), some (1, 1, 0), some (1, 2, 0), some (1, 3, 0), none]) (bs := []) (σ := [(1, 0, 0), (1, 1, 0), (1, 2, 0), (1, 3, 0), (1, 4, 0)]) (by decide +kernel) g5 (fun g6 => ?_)
      have w2 : ν3 2 = ν 2 := (x3.2 2 (by decide)).trans (yk _ 2 (by decide))
      have w3 : ν3 3 = ν 3 := (x3.2 3 (by decide)).trans (yk _ 3 (by decide))
      have e2 : b_vT [(1, 0, 0), (1, 1, 0), (1, 2, 0), (1, 3, 0), (1, 4, 0)] ν3 2 = ν 2 := by show ν3 2 + 0 = _; omega
      have e3 : b_vT [(1, 0, 0), (1, 1, 0), (1, 2, 0), (1, 3, 0), (1, 4, 0)] ν3 3 = ν 3 := by show ν3 3 + 0 = _; omega
      have fr := g5.2.2.2.2.2
      have c3 := sameC h3 fr
      exact c113 g6 (by rw [e3]; exact hb.imp_right fun q => ⟨q.1, lP_frm H fr rfl rfl q.2⟩) (by rw [e2]; omega) (sameQ h3 fr) (fun ν' h' g' hlt he hq => ih ν' h' g' (by omega) he hq)
theorem c54 : ∀ (M : Nat) (ν : BN) (h : AH), b_G c_K ν h h (cE.2.1.2.2.1, [], [], [], []) → c_cnt (lP h) 20 < M → ν 2 + (c_cnt (lP h) 20 : Int) ≤ 20 → WQ h → b_gd c_K c_r190 3 54 cE.2.1.1 [] cE.2.1.2.2.1.length ν h 0 0
  | 0, ν, h, g, hm, _, _ => absurd hm (Nat.not_lt_zero _)
  | M + 1, ν, h, g, hm, hc, hQ => by
    have H := g.2.2.2.2.1
    refine b_gd.sg c_hJ cO cEC rfl (by decide) (by decide) g (b_al.c ?_ b_al.n)
    intro ν1 h1 x1 g1
    refine b_pq.to rfl ?_
    have fr := g1.2.2.2.2.2
    have m2 := x1.2 2 (by decide)
    refine b_gd.cv (T := (cE63, [], [])) (bl := [some (2, 365, 0), some (1, 1, 0), some (1, 2, 0), some (1, 3, 0), some (1, 4, 0)]) (bs := []) (σ := [(1, 0, 0), (1, 1, 0), (1, 2, 0), (0, 0, -1), (0, 0, 0)]) (by decide +kernel) g1 (fun g2 => ?_)
    have e2 : b_vT [(1, 0, 0), (1, 1, 0), (1, 2, 0), (0, 0, -1), (0, 0, 0)] ν1 2 = ν 2 := by show ν1 2 + 0 = _; omega
    have c1 : c_cnt (lP h1) 20 ≤ c_cnt (lP h) 20 := c_cnt_le fun k _ p => lP_rev H fr rfl rfl p
    exact c63 _ M _ h1 g2 (Nat.lt_succ_self _) (Or.inl rfl) (by rw [e2]; omega) (fun k p => sP_frm H fr rfl rfl rfl (hQ k (lP_rev H fr rfl rfl p))) (by omega) (fun ν' h' g' hlt he hq => c54 M ν' h' g' hlt he hq)
theorem c17 : ∀ (m : Nat) (ν : BN) (h : AH), b_G c_K ν h h (cB.2.1.2.2.1, [], [], [], []) → (20 - ν 2).toNat < m → (∀ j, j < (ν 2).toNat → c_at h 769 j = some (.int 1) → sP h j) → b_gd c_K c_r190 3 17 cB.2.1.1 [] cB.2.1.2.2.1.length ν h 0 0
  | 0, ν, h, g, hm, _ => absurd hm (Nat.not_lt_zero _)
  | m + 1, ν, h, g, hm, hQ => by
    have H := g.2.2.2.2.1
    have iv2 := g.iv 2 (lo := 0) (hi := 20) rfl
    refine b_gd.sg c_hJ cO cBC rfl (by decide) (by decide) g (b_al.c ?_ (b_al.c ?_ (b_al.c ?_ b_al.n)))
    · intro ν1 h1 x1 g1
      refine b_pq.to rfl ?_
      have fr := g1.2.2.2.2.2
      have m2 := x1.2 2 (by decide)
      have k1 : ν1 3 ≤ ν1 2 + 0 := g1.co (by decide)
      obtain ⟨f, f1, f2⟩ := g1.rdF (a := 365) (j := 44) (m := 3) (k' := 0) (by rfl)
      refine b_gd.cv (T := (cD.2.1.2.2.1, [], [])) (bl := cD.2.1.1) (bs := []) (σ := [(1, 0, 0), (1, 1, 0)]) (by decide +kernel) g1 (fun g2 => ?_)
      refine b_gd.sg c_hJ cO cDC rfl (by decide) (by decide) g2 (b_al.c ?_ b_al.n)
      intro ν3 h3 x3 g3
      refine b_pq.to rfl ?_
      have fr3 := g3.2.2.2.2.2
      have H1 := g1.2.2.2.2.1
      refine b_gd.cv (T := (cE.2.1.2.2.1, [], [])) (bl := cE.2.1.1) (bs := []) (σ := [(1, 0, 0), (1, 1, 0), (0, 0, 0), (0, 0, 0)]) (by decide +kernel) g3 (fun g4 => ?_)
      have e2 : b_vT [(1, 0, 0), (1, 1, 0), (0, 0, 0), (0, 0, 0)] ν3 2 = 0 := rfl
      have cb := c_cnt_bd (p := lP h3) (n := 20)
      refine c54 _ _ _ g4 (Nat.lt_succ_self _) (by rw [e2]; omega) (fun k p => ?_)
      have p1 := lP_rev H1 fr3 rfl rfl p
      obtain ⟨f', q1, q2, q3⟩ := p1
      rw [f1] at q1
      cases q1
      rw [fr.k H c_a769 c_q108 (by decide) rfl] at q3
      exact sP_frm H1 fr3 rfl rfl rfl (sP_frm H fr rfl rfl rfl (hQ k (by omega) q3))
    · intro ν1 h1 x1 g1
      refine b_pq.to rfl ?_
      have k1 : ν1 3 ≤ ν1 2 + 0 := g1.co (by decide)
      have k2 : ν1 2 ≤ ν1 3 + 0 := g1.co (by decide)
      have m2 := x1.2 2 (by decide)
      have iv3 := g1.iv 3 (lo := 0) (hi := 19) rfl
      have fr1 := g1.2.2.2.2.2
      have H1 := g1.2.2.2.2.1
      refine b_gd.putP (G := (cB.2.1.2.2.1 ++ [(0, 0, 19)], [], [], [], [])) (gg := 108) (row := (21, 20, 1, [(0, 0, 1)])) (ty := (0, 0, 1)) cI43 (b_rowX c_a769 c_q108) (by decide +kernel) rfl (by decide +kernel) (by decide) (by decide) g1.bare (fun a n t vs w ha hn hw e1 hl => by
        obtain rfl := ha.k
        have en := hn.v
        obtain ⟨x, rfl, hx⟩ := c_one hw rfl
        exact c_J_left0 g1.2.2.2.2.1.2 e1 (by rw [c_is0 hx]; decide)) (fun a n t vs w ha hn hw e1 hl g2 => ?_)
      have ea := ha.k
      subst ea
      have en := hn.v
      obtain ⟨x, rfl, hx⟩ := c_one hw rfl
      have hx := c_is0 hx
      subst hx
      have H2 := g2.2.2.2.2.1
      refine b_gd.cv (G := (cB.2.1.2.2.1 ++ [(0, 0, 19)], [], [], [], [])) (T := (cC.2.1.2.2.1, [], [])) (bl := cC.2.1.1) (bs := []) (σ := [(1, 0, 0), (1, 1, 0), (1, 3, 0)]) (by decide +kernel) g2.bare (fun g4 => ?_)
      refine b_gd.sg (S := cC) c_hJ cO cCC rfl (by decide) (by decide) g4 (b_al.c ?_ b_al.n)
      intro ν3 h3 x3 g5
      refine b_pq.to rfl ?_
      have n2 : ν3 2 = ν1 3 := (x3.2 2 (by decide)).trans (by show ν1 3 + 0 = _; omega)
      have fr5 := g5.2.2.2.2.2
      refine b_gd.cv (T := (cB.2.1.2.2.1, [], [])) (bl := cB.2.1.1) (bs := []) (σ := [(1, 0, 0), (1, 1, 0), (1, 2, 1)]) (by decide +kernel) g5 (fun g6 => ?_)
      have u2 : b_vT [(1, 0, 0), (1, 1, 0), (1, 2, 1)] ν3 2 = ν 2 + 1 := by show ν3 2 + 1 = _; omega
      refine c17 m _ _ g6 (by rw [u2]; omega) (fun j hj hj1 => ?_)
      rw [u2] at hj
      rw [fr5.k H2 c_a769 c_q108 (by decide) rfl, c_at_set e1 hl] at hj1
      refine sP_frm H2 fr5 rfl rfl rfl (sP_set e1 hl ?_)
      by_cases e : j = n
      · rw [if_pos ⟨rfl, e⟩] at hj1
        cases hj1
      · rw [if_neg (fun q => e q.2), fr1.k H c_a769 c_q108 (by decide) rfl] at hj1
        exact sP_frm H fr1 rfl rfl rfl (hQ j (by omega) hj1)
    · intro ν1 h1 x1 g1
      refine b_pq.to rfl ?_
      have k1 : ν1 3 ≤ ν1 2 + 0 := g1.co (by decide)
      have k2 : ν1 2 ≤ ν1 3 + 0 := g1.co (by decide)
      have m2 := x1.2 2 (by decide)
      have iv3 := g1.iv 3 (lo := 0) (hi := 19) rfl
      have fr1 := g1.2.2.2.2.2
      have H1 := g1.2.2.2.2.1
      have kf : ν1 2 ≤ ν1 8 + (-1) := g1.co (by decide)
      obtain ⟨f, f0, f00⟩ := g1.rdF (a := 365) (j := 44) (m := 8) (k' := 0) (by rfl)
      have hs : sP h1 (ν 2).toNat := by
        have k3 : ν1 5 ≤ ν1 4 + (-1) := g1.co (by decide)
        have iv5 := g1.iv 5 (lo := 0) (hi := 7) rfl
        have iv7 := g1.iv 7 (lo := 0) (hi := 100) rfl
        obtain ⟨r, r1, r2⟩ := g1.rdF (a := 365) (j := 45) (m := 4) (k' := 0) (by rfl)
        obtain ⟨b, b1, b2⟩ := g1.rdA (a := 398) (n := 2) (m := 6) (k := 0) (by rfl) (j := (ν 2).toNat) (by omega)
        obtain ⟨a, a1, a2⟩ := g1.1.rf (n := 6) (g := 65) rfl
        obtain ⟨c, v, v1, v2, v3⟩ := g1.rd2 (p := 6) (n := 5) (m := 7) (k := 0) (k' := 0) (by rfl) (j := (ν1 5).toNat) (by omega)
        rw [show b = a by omega] at b1
        rw [show c = a by omega] at v2
        exact ⟨r, v, a, (ν1 5).toNat, r1, by omega, b1, a2, v2, by omega⟩
      refine b_gd.putP (G := (cB.2.1.2.2.1 ++ [(0, 0, 19), (0, 1, 8), (0, 0, 7), (66, 0, 0), (0, 0, 100), (0, 1, 20)], [], [], [], [])) (gg := 108) (row := (21, 20, 1, [(0, 0, 1)])) (ty := (0, 0, 1)) cI43 (b_rowX c_a769 c_q108) (by decide +kernel) rfl (by decide +kernel) (by decide) (by decide) g1.bare (fun a n t vs w ha hn hw e1 hl => by
        obtain rfl := ha.k
        have en := hn.v
        obtain ⟨x, rfl, hx⟩ := c_one hw rfl
        exact c_J_left g1.2.2.2.2.1.2 e1 (fun _ f' hf' => by rw [f0] at hf'; cases hf'; omega)) (fun a n t vs w ha hn hw e1 hl g2 => ?_)
      have ea := ha.k
      subst ea
      have en := hn.v
      obtain ⟨x, rfl, hx⟩ := c_one hw rfl
      have hx := c_is1 hx
      subst hx
      have H2 := g2.2.2.2.2.1
      refine b_gd.cv (G := (cB.2.1.2.2.1 ++ [(0, 0, 19), (0, 1, 8), (0, 0, 7), (66, 0, 0), (0, 0, 100), (0, 1, 20)], [], [], [], [])) (T := (cC.2.1.2.2.1, [], [])) (bl := cC.2.1.1) (bs := []) (σ := [(1, 0, 0), (1, 1, 0), (1, 3, 0)]) (by decide +kernel) g2.bare (fun g4 => ?_)
      refine b_gd.sg (S := cC) c_hJ cO cCC rfl (by decide) (by decide) g4 (b_al.c ?_ b_al.n)
      intro ν3 h3 x3 g5
      refine b_pq.to rfl ?_
      have n2 : ν3 2 = ν1 3 := (x3.2 2 (by decide)).trans (by show ν1 3 + 0 = _; omega)
      have fr5 := g5.2.2.2.2.2
      refine b_gd.cv (T := (cB.2.1.2.2.1, [], [])) (bl := cB.2.1.1) (bs := []) (σ := [(1, 0, 0), (1, 1, 0), (1, 2, 1)]) (by decide +kernel) g5 (fun g6 => ?_)
      have u2 : b_vT [(1, 0, 0), (1, 1, 0), (1, 2, 1)] ν3 2 = ν 2 + 1 := by show ν3 2 + 1 = _; omega
      refine c17 m _ _ g6 (by rw [u2]; omega) (fun j hj hj1 => ?_)
      rw [u2] at hj
      rw [fr5.k H2 c_a769 c_q108 (by decide) rfl, c_at_set e1 hl] at hj1
      refine sP_frm H2 fr5 rfl rfl rfl (sP_set e1 hl ?_)
      by_cases e : j = n
      · rw [if_pos ⟨rfl, e⟩] at hj1
        rw [show j = (ν 2).toNat by omega]
        exact hs
      · rw [if_neg (fun q => e q.2), fr1.k H c_a769 c_q108 (by decide) rfl] at hj1
        exact sP_frm H fr1 rfl rfl rfl (hQ j (by omega) hj1)
/-- JuryreelModel.choose(I)I -/
theorem c_v190 : b_valid c_K c_r190 := b_gd.valid (d := 3) rfl (by decide +kernel) fun ν h g => by
  refine b_gd.sg (S := cA) c_hJ cO cAC rfl (by decide) (by decide) g (b_al.c ?_ (b_al.c ?_ b_al.n))
  · intro ν3 h3 x3 g3
    exact b_pq.int (lo := 0) (hi := 20) (by decide) g3
  · intro ν1 h1 x1 g1
    refine b_pq.to rfl ?_
    refine b_gd.cv (T := (cB.2.1.2.2.1, [], [])) (bl := cB.2.1.1) (bs := []) (σ := [(1, 0, 0), (1, 1, 0), (0, 0, 0)]) (by decide +kernel) g1 (fun g2 => ?_)
    have e2 : b_vT [(1, 0, 0), (1, 1, 0), (0, 0, 0)] ν1 2 = 0 := rfl
    exact c17 _ _ _ g2 (Nat.lt_succ_self _) (fun j hj => by rw [e2] at hj; exact absurd hj (Nat.not_lt_zero _))
end
/-! part 81.ballot -/
section
/-! Ballots: what placeOf and firstOf answer -/
def c_r240p : BRw := (240, 1, ([(2, 365, 0), (1, 0, 0), (1, 1, 0), (1, 2, 0)], ([(0, 0, 4), (0, 0, 4), (0, 0, 19)], [], [])), [], [(.inl (some (0, 0, (-1))), ([], [], []), (0, 0)), (.inl (some (1, 3, 0)), ([(0, 0, 8), (100, 0, 0), (0, 0, 9), (102, 0, 0), (103, 0, 0), (0, 0, 19)], [((2, 688, 0), (1, 0, 0), (3, 4, 0)), ((3, 4, 0), (1, 1, 0), (1, 5, 0)), ((2, 694, 0), (1, 0, 0), (3, 6, 0)), ((3, 6, 0), (1, 1, 0), (3, 7, 0)), ((3, 7, 0), (1, 3, 0), (1, 8, 0))], [(3, 5, (-1)), (8, 2, 0), (2, 8, 0)]), (0, 0))])
def c_c240p : List BCu := [(6, [some (2, 365, 0), some (1, 0, 0), some (1, 1, 0), some (1, 2, 0), some (0, 0, (-1)), some (1, 3, 0)], ([(0, 0, 4), (0, 0, 4), (0, 0, 19), (0, 0, 9)], [], []), ([(3, (-1))], 20), none),
  (6, [some (2, 365, 0), some (1, 0, 0), some (1, 1, 0), some (1, 2, 0), some (1, 3, 0), some (1, 9, 0)], ([(0, 0, 4), (0, 0, 4), (0, 0, 19), (0, 0, 8), (100, 0, 0), (0, 0, 9), (102, 0, 0), (103, 0, 0), (0, 0, 19), (0, 0, 9)], [((2, 688, 0), (1, 0, 0), (3, 4, 0)), ((3, 4, 0), (1, 1, 0), (1, 5, 0)), ((2, 694, 0), (1, 0, 0), (3, 6, 0)), ((3, 6, 0), (1, 1, 0), (3, 7, 0)), ((3, 7, 0), (1, 3, 0), (1, 8, 0))], [(3, 5, (-1)), (8, 2, 0), (2, 8, 0)]), ([(9, (-1))], 20), none)]
theorem c_v240p : b_valid c_K c_r240p := b_chk_ok c_hJ (d := 0) (F := 3000) (R := c_r240p) (cuts := c_c240p) (b_orc_ok c_hJ (tab := []) (fun _ h => absurd h List.not_mem_nil) 3000 0) rfl (by decide +kernel)
def c_r238a : BRw := (238, 1, ([(2, 365, 0), (1, 0, 0), (1, 1, 0)], ([(0, 0, 4), (0, 0, 4)], [], [])), [], [(.inl (some (0, 0, (-1))), ([], [], []), (0, 0)), (.inl (some (1, 2, 0)), ([(0, 0, 19), (100, 0, 0), (0, 0, 9), (102, 0, 0), (103, 0, 0), (0, 0, 8), (0, 1, 1)], [((2, 688, 0), (1, 0, 0), (3, 3, 0)), ((3, 3, 0), (1, 1, 0), (1, 4, 0)), ((2, 694, 0), (1, 0, 0), (3, 5, 0)), ((3, 5, 0), (1, 1, 0), (3, 6, 0)), ((3, 6, 0), (1, 7, 0), (1, 2, 0)), ((2, 769, 0), (1, 2, 0), (1, 8, 0))], [(7, 4, (-1))]), (0, 0))])
def c_c238a : List BCu := [(2, [some (2, 365, 0), some (1, 0, 0), some (1, 1, 0), some (1, 2, 0)], ([(0, 0, 4), (0, 0, 4), (0, 0, 9)], [], []), ([(2, (-1))], 20), none)]
theorem c_v238a : b_valid c_K c_r238a := b_chk_ok c_hJ (d := 0) (F := 3000) (R := c_r238a) (cuts := c_c238a) (b_orc_ok c_hJ (tab := []) (fun _ h => absurd h List.not_mem_nil) 3000 0) rfl (by decide +kernel)
def c_r238w : BRw := (238, 1, ([(2, 365, 0), (1, 0, 0), (1, 1, 0)], ([(0, 0, 4), (0, 0, 4), (100, 0, 0), (0, 1, 9), (102, 0, 0), (103, 0, 0), (0, 0, 8), (0, 0, 19)], [((2, 688, 0), (1, 0, 0), (3, 2, 0)), ((3, 2, 0), (1, 1, 0), (1, 3, 0)), ((2, 694, 0), (1, 0, 0), (3, 4, 0)), ((3, 4, 0), (1, 1, 0), (3, 5, 0)), ((3, 5, 0), (1, 6, 0), (1, 7, 0)), ((2, 769, 0), (1, 7, 0), (0, 0, 1))], [(6, 3, (-1))])), [], [(.inl (some (1, 8, 0)), ([(0, 0, 19)], [], []), (0, 0))])
def c_c238w : List BCu := [(2, [some (2, 365, 0), some (1, 0, 0), some (1, 1, 0), some (1, 8, 0)], ([(0, 0, 4), (0, 0, 4), (100, 0, 0), (0, 1, 9), (102, 0, 0), (103, 0, 0), (0, 0, 8), (0, 0, 19), (0, 0, 8)], [((2, 688, 0), (1, 0, 0), (3, 2, 0)), ((3, 2, 0), (1, 1, 0), (1, 3, 0)), ((2, 694, 0), (1, 0, 0), (3, 4, 0)), ((3, 4, 0), (1, 1, 0), (3, 5, 0)), ((3, 5, 0), (1, 6, 0), (1, 7, 0)), ((2, 769, 0), (1, 7, 0), (0, 0, 1))], [(6, 3, (-1)), (8, 6, 0), (8, 3, (-1))]), ([(8, (-1))], 20), some (8, 6))]
theorem c_v238w : b_valid c_K c_r238w := b_chk_ok c_hJ (d := 0) (F := 3000) (R := c_r238w) (cuts := c_c238w) (b_orc_ok c_hJ (tab := []) (fun _ h => absurd h List.not_mem_nil) 3000 0) rfl (by decide +kernel)
theorem qO : b_cal c_K (b_lim 1) (b_orc c_K [] 3000 1) := b_orc_ok c_hJ (fun _ h => absurd h List.not_mem_nil) 3000 1
def qA : BSg := ((239, 0), ([some (2, 365, 0), some (1, 0, 0), some (1, 1, 0), none, none], [], ([(0, 0, 4), (0, 0, 19)], [], [])), [], [
  (.inr (5, [some (2, 365, 0), some (1, 0, 0), some (1, 1, 0), some (0, 0, 0), some (0, 0, 0)], []), ([], [], []), (0, 0))])
theorem qAC : b_sgc c_K (b_orc c_K [] 3000 1) qA [5] 3000 = true := by decide +kernel
def qB : BSg := ((239, 5), ([some (2, 365, 0), some (1, 0, 0), some (1, 1, 0), some (1, 2, 0), some (1, 3, 0)], [], ([(0, 0, 4), (0, 0, 19), (0, 0, 5), (0, 0, 5)], [], [(2, 3, 0)])), [], [
  (.inl (.inl (some (1, 2, 0))), ([(0, 0, 5)], [((2, 619, 0), (1, 0, 0), (1, 4, 0))], [(4, 3, 0)]), (0, 0)),
  (.inr (21, [some (2, 365, 0), some (1, 0, 0), some (1, 1, 0), some (1, 4, 0), some (1, 5, 0)], [(1, 5, 0), (1, 0, 0), (2, 365, 0), (1, 4, 0)]), ([(0, 0, 4), (0, 0, 4), (0, 1, 5)], [((2, 619, 0), (1, 0, 0), (1, 6, 0))], [(4, 2, 0), (2, 4, 0), (5, 3, 0), (3, 5, 0), (5, 6, (-1))]), (0, 0))])
theorem qBC : b_sgc c_K (b_orc c_K [] 3000 1) qB [21] 3000 = true := by decide +kernel
def qD : BSg := ((239, 24), ([some (2, 365, 0), some (1, 0, 0), some (1, 1, 0), some (1, 2, 0), some (1, 3, 0)], [(1, 4, 0), (1, 2, 0)], ([(0, 0, 4), (0, 0, 19), (0, 0, 4), (0, 0, 4), (0, (-1), 19)], [], [(0, 0, 0)])), [], [
  (.inr (5, [some (2, 365, 0), some (1, 0, 0), some (1, 1, 0), some (1, 2, 1), some (1, 3, 1)], []), ([], [], []), (0, 0)),
  (.inr (5, [some (2, 365, 0), some (1, 0, 0), some (1, 1, 0), some (1, 2, 0), some (1, 3, 1)], []), ([], [], [(4, 1, (-1))]), (0, 0)),
  (.inr (5, [some (2, 365, 0), some (1, 0, 0), some (1, 1, 0), some (1, 2, 0), some (1, 3, 1)], []), ([], [], [(1, 4, (-1))]), (0, 0))])
theorem qDC : b_sgc c_K (b_orc c_K [] 3000 1) qD [5] 3000 = true := by decide +kernel
theorem rO : b_cal c_K (b_lim 2) (b_orc c_K [c_r239] 3000 2) := b_orc_ok c_hJ (List.forall_mem_cons.mpr ⟨c_v239, fun _ h => absurd h List.not_mem_nil⟩) 3000 2
def rA : BSg := ((245, 0), ([some (2, 365, 0), some (1, 0, 0), none, none, none], [], ([(0, 0, 4)], [], [])), [], [
  (.inr (4, [some (2, 365, 0), some (1, 0, 0), some (0, 0, 0), some (0, 0, 0), none], []), ([], [], []), (0, 0))])
theorem rAC : b_sgc c_K (b_orc c_K [c_r239] 3000 2) rA [4] 3000 = true := by decide +kernel
def rB : BSg := ((245, 4), ([some (2, 365, 0), some (1, 0, 0), some (1, 1, 0), some (1, 2, 0), none], [], ([(0, 0, 4), (0, 0, 5), (0, 0, 5)], [], [(1, 2, 0)])), [], [
  (.inr (37, [some (2, 365, 0), some (1, 0, 0), some (1, 1, 0), none, none], []), ([(0, 0, 5)], [((2, 619, 0), (1, 0, 0), (1, 3, 0))], [(3, 2, 0)]), (0, 0)),
  (.inr (18, [some (2, 365, 0), some (1, 0, 0), some (1, 3, 0), some (1, 4, 0), none], [(1, 4, 0), (1, 0, 0), (2, 365, 0), (1, 3, 0)]), ([(0, 0, 4), (0, 0, 4), (0, 1, 5)], [((2, 619, 0), (1, 0, 0), (1, 5, 0))], [(3, 1, 0), (1, 3, 0), (4, 2, 0), (2, 4, 0), (4, 5, (-1))]), (0, 0))])
theorem rBC : b_sgc c_K (b_orc c_K [c_r239] 3000 2) rB [37, 18] 3000 = true := by decide +kernel
def rC0 : BSg := ((245, 21), ([some (2, 365, 0), some (1, 0, 0), some (1, 1, 0), some (1, 2, 0), none], [(1, 3, 0), (1, 1, 0)], ([(0, 0, 4), (0, 0, 4), (0, 0, 4), (0, (-1), (-1))], [], [])), [], [
  (.inr (4, [some (2, 365, 0), some (1, 0, 0), some (1, 1, 0), some (1, 2, 1), none], []), ([], [], []), (0, 0))])
theorem rC0C : b_sgc c_K (b_orc c_K [c_r239] 3000 2) rC0 [4] 3000 = true := by decide +kernel
def rC1 : BSg := ((245, 21), ([some (2, 365, 0), some (1, 0, 0), some (1, 1, 0), some (1, 2, 0), none], [(1, 3, 0), (1, 1, 0)], ([(0, 0, 4), (0, 0, 4), (0, 0, 4), (0, 0, 19)], [], [])), [], [
  (.inr (4, [some (2, 365, 0), some (1, 0, 0), some (1, 1, 1), some (1, 2, 1), none], []), ([], [], []), (0, 0))])
theorem rC1C : b_sgc c_K (b_orc c_K [c_r239] 3000 2) rC1 [4] 3000 = true := by decide +kernel
def rD : BSg := ((245, 37), ([some (2, 365, 0), some (1, 0, 0), some (1, 1, 0), none, none], [], ([(0, 0, 4), (0, 0, 5)], [], [])), [], [
  (.inr (42, [some (2, 365, 0), some (1, 0, 0), some (1, 1, 0), some (0, 0, (-1)), some (0, 0, 0)], []), ([], [], []), (0, 0))])
theorem rDC : b_sgc c_K (b_orc c_K [c_r239] 3000 2) rD [42] 3000 = true := by decide +kernel
def rE : BSg := ((245, 42), ([some (2, 365, 0), some (1, 0, 0), some (1, 1, 0), some (1, 2, 0), some (1, 3, 0)], [], ([(0, 0, 4), (0, 0, 5), (0, 0, 19), (0, 0, 20), (0, 0, 20)], [((2, 365, 0), (0, 0, 44), (1, 4, 0))], [(4, 3, 0)])), [], [
  (.inr (116, [some (2, 365, 0), some (1, 0, 0), none, none, none], [(0, 0, 0), (1, 2, 0), (2, 769, 0)]), ([], [], []), (0, 0))])
theorem rEC : b_sgc c_K (b_orc c_K [c_r239] 3000 2) rE [116] 3000 = true := by decide +kernel
def rF : BSg := ((245, 42), ([some (2, 365, 0), some (1, 0, 0), some (1, 1, 0), some (1, 2, 0), some (1, 3, 0)], [], ([(0, 0, 4), (0, 0, 5), (0, (-1), 19), (0, 0, 19), (0, 1, 20)], [((2, 365, 0), (0, 0, 44), (1, 4, 0)), ((2, 769, 0), (1, 3, 0), (0, 0, 0))], [(3, 4, (-1))])), [], [
  (.inr (42, [some (2, 365, 0), some (1, 0, 0), some (1, 1, 0), some (1, 2, 0), some (1, 3, 1)], []), ([], [], []), (0, 0))])
theorem rFC : b_sgc c_K (b_orc c_K [c_r239] 3000 2) rF [42] 3000 = true := by decide +kernel
def rG : BSg := ((245, 42), ([some (2, 365, 0), some (1, 0, 0), some (1, 1, 0), some (1, 2, 0), some (1, 3, 0)], [], ([(0, 0, 4), (0, 0, 5), (0, (-1), 19), (0, 0, 19), (0, 1, 20)], [((2, 365, 0), (0, 0, 44), (1, 4, 0)), ((2, 769, 0), (1, 3, 0), (0, 0, 1))], [(3, 4, (-1))])), [], [
  (.inr (66, [some (2, 365, 0), some (1, 0, 0), some (1, 1, 0), some (1, 2, 0), some (1, 3, 0)], [(1, 3, 0), (1, 0, 0), (2, 365, 0), (0, 0, 2)]), ([], [], []), (0, 0))])
theorem rGC : b_sgc c_K (b_orc c_K [c_r239] 3000 2) rG [66] 3000 = true := by decide +kernel
def rH : BSg := ((245, 70), ([some (2, 365, 0), some (1, 0, 0), some (1, 1, 0), some (1, 2, 0), some (1, 3, 0)], [(1, 4, 0)], ([(0, 0, 4), (0, 0, 5), (0, (-1), 19), (0, 0, 19), (0, 0, 10)], [], [(1, 4, (-1))])), [], [
  (.inl (.inl (some (1, 3, 0))), ([], [], []), (0, 0))])
theorem rHC : b_sgc c_K (b_orc c_K [c_r239] 3000 2) rH [42] 3000 = true := by decide +kernel
def rI : BSg := ((245, 70), ([some (2, 365, 0), some (1, 0, 0), some (1, 1, 0), some (1, 2, 0), some (1, 3, 0)], [(1, 4, 0)], ([(0, 0, 4), (0, 0, 5), (0, (-1), (-1)), (0, 0, 19), (0, 0, 10)], [], [(4, 1, 0)])), [], [
  (.inr (42, [some (2, 365, 0), some (1, 0, 0), some (1, 1, 0), some (1, 3, 0), some (1, 3, 1)], []), ([], [], []), (0, 0))])
theorem rIC : b_sgc c_K (b_orc c_K [c_r239] 3000 2) rI [42] 3000 = true := by decide +kernel
def rJ : BSg := ((245, 70), ([some (2, 365, 0), some (1, 0, 0), some (1, 1, 0), some (1, 2, 0), some (1, 3, 0)], [(1, 4, 0)], ([(0, 0, 4), (0, 0, 5), (0, 0, 19), (0, 0, 19), (0, 0, 10)], [], [(4, 1, 0)])), [], [
  (.inr (42, [some (2, 365, 0), some (1, 0, 0), some (1, 1, 0), some (1, 3, 0), some (1, 3, 1)], []), ([], [], []), (0, 0)),
  (.inr (42, [some (2, 365, 0), some (1, 0, 0), some (1, 1, 0), some (1, 2, 0), some (1, 3, 1)], []), ([], [], []), (0, 0))])
theorem rJC : b_sgc c_K (b_orc c_K [c_r239] 3000 2) rJ [42] 3000 = true := by decide +kernel
def rK : BSg := ((245, 117), ([some (2, 365, 0), some (1, 0, 0), none, none, none], [], ([(0, 0, 4)], [], [])), [], [
  (.inr (0, [some (2, 365, 0), some (1, 0, 0), none, none, none], []), ([], [], []), (0, 0))])
theorem rKC : b_sgc c_K (b_orc c_K [c_r239] 3000 2) rK [0] 3000 = true := by decide +kernel
theorem wO : b_cal c_K (b_lim 4) (b_orc c_K [c_r240p, c_r244, c_r243] 3000 4) := b_orc_ok c_hJ (List.forall_mem_cons.mpr ⟨c_v240p, List.forall_mem_cons.mpr ⟨c_v244, List.forall_mem_cons.mpr ⟨c_v243, fun _ h => absurd h List.not_mem_nil⟩⟩⟩) 3000 4
def wA : BSg := ((246, 0), ([some (2, 365, 0), some (1, 0, 0), none, none, none], [], ([(0, 0, 4)], [], [])), [], [
  (.inr (4, [some (2, 365, 0), some (1, 0, 0), some (0, 0, 0), some (0, 0, 0), none], []), ([], [], []), (0, 0))])
theorem wAC : b_sgc c_K (b_orc c_K [c_r240p, c_r244, c_r243] 3000 4) wA [4] 3000 = true := by decide +kernel
def wB : BSg := ((246, 4), ([some (2, 365, 0), some (1, 0, 0), some (1, 1, 0), some (1, 2, 0), none], [], ([(0, 0, 4), (0, 0, 1), (0, 0, 20)], [], [])), [], [
  (.inr (88, [some (2, 365, 0), some (1, 0, 0), some (1, 1, 0), none, none], []), ([(0, 0, 20)], [((2, 365, 0), (0, 0, 44), (1, 3, 0))], [(3, 2, 0)]), (0, 0)),
  (.inr (18, [some (2, 365, 0), some (1, 0, 0), some (1, 1, 0), some (1, 3, 0), none], [(0, 0, 0), (1, 3, 0), (2, 769, 0)]), ([(0, 0, 19), (0, 1, 20)], [((2, 365, 0), (0, 0, 44), (1, 4, 0))], [(3, 2, 0), (2, 3, 0), (3, 4, (-1))]), (0, 0))])
theorem wBC : b_sgc c_K (b_orc c_K [c_r240p, c_r244, c_r243] 3000 4) wB [88, 18] 3000 = true := by decide +kernel
def wC : BSg := ((246, 19), ([some (2, 365, 0), some (1, 0, 0), some (1, 1, 0), some (1, 2, 0), none], [], ([(0, 0, 4), (0, 0, 1), (0, 0, 19)], [], [])), [], [
  (.inr (22, [some (2, 365, 0), some (1, 0, 0), some (1, 1, 0), some (1, 2, 0), some (0, 0, 0)], []), ([], [], []), (0, 0))])
theorem wCC : b_sgc c_K (b_orc c_K [c_r240p, c_r244, c_r243] 3000 4) wC [22] 3000 = true := by decide +kernel
def wD0 : BSg := ((246, 22), ([some (2, 365, 0), some (1, 0, 0), some (1, 1, 0), some (1, 2, 0), some (1, 3, 0)], [], ([(0, 0, 4), (0, 0, 1), (0, 0, 19), (0, 0, 5)], [((2, 769, 0), (1, 2, 0), (0, 0, 0))], [])), [], [
  (.inr (73, [some (2, 365, 0), some (1, 0, 0), some (1, 1, 0), some (1, 2, 0), none], []), ([], [((2, 769, 0), (1, 2, 0), (0, 0, 0))], []), (0, 0)),
  (.inr (66, [some (2, 365, 0), some (1, 0, 0), some (1, 1, 0), some (1, 2, 0), some (1, 4, 0)], [(0, 0, 0), (1, 2, 0), (2, 769, 0)]), ([(0, 0, 4)], [], [(4, 3, 0), (3, 4, 0)]), (0, 0)),
  (.inr (66, [some (2, 365, 0), some (1, 0, 0), some (1, 1, 0), some (1, 2, 0), some (1, 4, 0)], [(0, 0, 1), (1, 2, 0), (2, 769, 0)]), ([(0, 0, 4), (0, 1, 5), (0, 0, 8), (100, 0, 0), (0, 0, 9), (102, 0, 0), (103, 0, 0), (0, 0, 19)], [((2, 619, 0), (1, 0, 0), (1, 5, 0)), ((2, 688, 0), (1, 0, 0), (3, 7, 0)), ((3, 7, 0), (1, 3, 0), (1, 8, 0)), ((2, 694, 0), (1, 0, 0), (3, 9, 0)), ((3, 9, 0), (1, 3, 0), (3, 10, 0)), ((3, 10, 0), (1, 6, 0), (1, 11, 0))], [(4, 3, 0), (3, 4, 0), (3, 5, (-1)), (6, 8, (-1)), (11, 2, 0), (2, 11, 0)]), (0, 0))])
theorem wD0C : b_sgc c_K (b_orc c_K [c_r240p, c_r244, c_r243] 3000 4) wD0 [73, 66] 3000 = true := by decide +kernel
def wD1 : BSg := ((246, 22), ([some (2, 365, 0), some (1, 0, 0), some (1, 1, 0), some (1, 2, 0), some (1, 3, 0)], [], ([(0, 0, 4), (0, 0, 1), (0, 0, 19), (0, 0, 5)], [((2, 769, 0), (1, 2, 0), (0, 0, 1))], [])), [], [
  (.inr (73, [some (2, 365, 0), some (1, 0, 0), some (1, 1, 0), some (1, 2, 0), none], []), ([], [((2, 769, 0), (1, 2, 0), (0, 0, 1))], []), (0, 0)),
  (.inr (66, [some (2, 365, 0), some (1, 0, 0), some (1, 1, 0), some (1, 2, 0), some (1, 4, 0)], [(0, 0, 1), (1, 2, 0), (2, 769, 0)]), ([(0, 0, 4)], [], [(4, 3, 0), (3, 4, 0)]), (0, 0))])
theorem wD1C : b_sgc c_K (b_orc c_K [c_r240p, c_r244, c_r243] 3000 4) wD1 [73, 66] 3000 = true := by decide +kernel
def wE : BSg := ((246, 67), ([some (2, 365, 0), some (1, 0, 0), some (1, 1, 0), some (1, 2, 0), some (1, 3, 0)], [], ([(0, 0, 4), (0, 0, 1), (0, 0, 19), (0, 0, 4)], [], [])), [], [
  (.inr (22, [some (2, 365, 0), some (1, 0, 0), some (1, 1, 0), some (1, 2, 0), some (1, 3, 1)], []), ([], [], []), (0, 0))])
theorem wEC : b_sgc c_K (b_orc c_K [c_r240p, c_r244, c_r243] 3000 4) wE [22] 3000 = true := by decide +kernel
def wF0 : BSg := ((246, 73), ([some (2, 365, 0), some (1, 0, 0), some (1, 1, 0), some (1, 2, 0), none], [], ([(0, 0, 4), (0, 0, 1), (0, 0, 19)], [((2, 769, 0), (1, 2, 0), (0, 0, 0))], [])), [], [
  (.inr (4, [some (2, 365, 0), some (1, 0, 0), some (1, 1, 0), some (1, 2, 1), none], []), ([], [], []), (0, 0))])
theorem wF0C : b_sgc c_K (b_orc c_K [c_r240p, c_r244, c_r243] 3000 4) wF0 [4] 3000 = true := by decide +kernel
def wF1 : BSg := ((246, 73), ([some (2, 365, 0), some (1, 0, 0), some (1, 1, 0), some (1, 2, 0), none], [], ([(0, 0, 4), (0, 0, 1), (0, 0, 19)], [((2, 769, 0), (1, 2, 0), (0, 0, 1))], [])), [], [
  (.inr (4, [some (2, 365, 0), some (1, 0, 0), some (0, 0, 1), some (1, 2, 1), none], []), ([], [], []), (0, 0))])
theorem wF1C : b_sgc c_K (b_orc c_K [c_r240p, c_r244, c_r243] 3000 4) wF1 [4] 3000 = true := by decide +kernel
def wG : BSg := ((246, 88), ([some (2, 365, 0), some (1, 0, 0), some (1, 1, 0), none, none], [], ([(0, 0, 4), (0, 0, 0)], [], [])), [], [
  (.inl (.inl (some (0, 0, (-1)))), ([], [], []), (0, 0))])
theorem wGC : b_sgc c_K (b_orc c_K [c_r240p, c_r244, c_r243] 3000 4) wG [] 3000 = true := by decide +kernel
def wH : BSg := ((246, 88), ([some (2, 365, 0), some (1, 0, 0), some (1, 1, 0), none, none], [], ([(0, 0, 4), (0, 1, 1)], [], [])), [], [
  (.inl (.inl (some (1, 2, 0))), ([(0, (-1), 19)], [], []), (0, 0)),
  (.inr (123, [some (2, 365, 0), some (1, 0, 0), none, none, none], [(1, 0, 0), (2, 365, 0)]), ([], [], []), (0, 0))])
theorem wHC : b_sgc c_K (b_orc c_K [c_r240p, c_r244, c_r243] 3000 4) wH [123] 3000 = true := by decide +kernel
def wI : BSg := ((246, 126), ([some (2, 365, 0), some (1, 0, 0), none, none, none], [(1, 1, 0)], ([(0, 0, 4), (0, 0, 19)], [], [])), [], [
  (.inl (.inl (some (1, 1, 0))), ([], [], []), (0, 0))])
theorem wIC : b_sgc c_K (b_orc c_K [c_r240p, c_r244, c_r243] 3000 4) wI [] 3000 = true := by decide +kernel
/-! Calls by hand -/
theorem c_calV {mi idx mt k a t : Nat} {w1 w2 w3 w4 : Nat × Nat} {st as : List Value} {h : AH} {vs : List Value} (e : (a_of a_inv (a_own mi)).find? (fun e => e.1 == idx && e.2.1 == 0) = some (idx, 0, mt, w1, w2, w3, w4)) (hk : a_nrg mt = k) (ht : a_own mt = t) (h1 : k ≤ st.length) (h2 : a_cat (st.drop k) ≤ 8) (h3 : (st.take k).reverse = .ref a :: as) (hh : h[a]? = some (t, vs)) : a_call (a_own mi) (.invokevirtual idx) st h = some (mt, .ref a :: as, st.drop k) := by
  unfold a_call
  dsimp only
  rw [e]
  dsimp only
  rw [hk, if_pos ⟨h1, h2⟩, h3]
  dsimp only
  rw [hh]
  dsimp only
  rw [if_pos ht.symm]
theorem c_o365 {h : AH} (H : b_H c_K h) : ∃ vs, h[365]? = some (12, vs) := by
  obtain ⟨vs, hh, -⟩ := H.1 365 50 _ c_a365 c_q50
  exact ⟨vs, hh⟩
/-- a run to an end with a property of its own -/
def b_ge (d mi pc : Nat) (bl : BL) (bs : List BV) (N : Nat) (ν : BN) (h : AH) (mc ms : Nat) (P : AR → Prop) : Prop := ∀ (al : AL) (st : List Value), b_L N ν bl al → b_S N ν bs st → ∃ r, b_R d mi pc al st h mc ms r ∧ P r
def b_pe (d mi : Nat) (p : BSo) (N : Nat) (ν : BN) (h : AH) (mc ms : Nat) (P : AR → Prop) : Prop := match p.1 with
  | .inl k => ∀ r : AR, b_fin N ν k r.1 → r.2.1 = h → r.2.2 = (mc + p.2.2.1, ms + p.2.2.2) → P r
  | .inr (pc, bl, bs) => b_ge d mi pc bl bs N ν h (mc + p.2.2.1) (ms + p.2.2.2) P
theorem b_pe.to {d mi : Nat} {p : BSo} {N mc ms pc : Nat} {ν : BN} {h : AH} {bl : BL} {bs : List BV} {P : AR → Prop} (hp : p.1 = .inr (pc, bl, bs)) (k : b_ge d mi pc bl bs N ν h (mc + p.2.2.1) (ms + p.2.2.2) P) : b_pe d mi p N ν h mc ms P := by
  unfold b_pe
  rw [hp]
  exact k
theorem b_pe.int {d mi : Nat} {p : BSo} {N mc ms : Nat} {ν : BN} {h : AH} {b : BV} {P : AR → Prop} (hp : p.1 = .inl (.inl (some b))) (hb : b.1 < 2) (k : ∀ x : Int32, b_i N ν b x.toInt → P (.inl (some (.int x)), h, mc + p.2.2.1, ms + p.2.2.2)) : b_pe d mi p N ν h mc ms P := by
  unfold b_pe
  rw [hp]
  intro r r1 r2 r3
  obtain ⟨q1, q2, q3⟩ := r
  have r2 : q2 = h := r2
  have r3 : q3 = _ := r3
  subst r2
  subst r3
  cases q1 with
  | inr k' => exact r1.elim
  | inl v =>
    cases v with
    | none => exact r1.elim
    | some v =>
      obtain ⟨x, rfl, hx⟩ := b_v.int (b := b) r1 hb
      exact k x hx
def b_hye (K : BH) (d : Nat) (S : BSg) (ν : BN) (h : AH) (mc ms : Nat) (P : AR → Prop) (p : BSo) : Prop := ∀ (ν' : BN) (h' : AH), b_ext S.2.1.2.2.1.length (S.2.1.2.2.1 ++ p.2.1.1).length ν ν' → b_G K ν' h h' (S.2.1.2.2.1 ++ p.2.1.1, p.2.1.2.1, p.2.1.2.2, [], S.2.2.1) → b_pe d S.1.1 p (S.2.1.2.2.1 ++ p.2.1.1).length ν' h' mc ms P
theorem b_ge.of {K : BH} {S : BSg} {d mc ms : Nat} {ν : BN} {h : AH} {P : AR → Prop} (hx : ∀ al st, b_L S.2.1.2.2.1.length ν S.2.1.1 al → b_S S.2.1.2.2.1.length ν S.2.1.2.1 st → b_rgq K S d S.1.2 ν h al st h mc ms) (ha : b_al (b_hye K d S ν h mc ms P) S.2.2.2) : b_ge d S.1.1 S.1.2 S.2.1.1 S.2.1.2.1 S.2.1.2.2.1.length ν h mc ms P := by
  intro al st hl hs
  obtain ⟨p, p1, ν', h', x, g, q⟩ := hx al st hl hs
  have k := b_al_at ha p p1 ν' h' x g
  unfold b_sgq at q
  unfold b_pe at k
  cases hp : p.1 with
  | inl z =>
    rw [hp] at q k
    dsimp only at q k
    obtain ⟨r, q1, q2, q3, q4⟩ := q
    exact ⟨r, q1, k r q2 q3 q4⟩
  | inr z =>
    obtain ⟨pc', bl', bs'⟩ := z
    rw [hp] at q k
    dsimp only at q k
    obtain ⟨al', st', q1, q2, q3⟩ := q
    obtain ⟨r, r1, r2⟩ := k al' st' q1 q2
    exact ⟨r, q3 r r1, r2⟩
theorem b_ge.sg {K : BH} (hJ : b_JF K) {S : BSg} {d F mc ms : Nat} {ν : BN} {h : AH} {P : AR → Prop} {cB : BK} {cuts : List Nat} (hc : b_cal K (b_lim d) cB) (hk : b_sgc K cB S cuts F = true) (g : b_G K ν h h (S.2.1.2.2.1, S.2.1.2.2.2.1, S.2.1.2.2.2.2, [], [])) (ha : b_al (b_hye K d S ν h mc ms P) S.2.2.2) : b_ge d S.1.1 S.1.2 S.2.1.1 S.2.1.2.1 S.2.1.2.2.1.length ν h mc ms P := b_ge.of (fun _ _ hl hs => b_sgc_ok hJ hc hk hl hs g) ha
theorem b_ge.cv {K : BH} {G : BG} {ν : BN} {h0 h : AH} {d mi pc : Nat} {T : BP} {bl bl' : BL} {bs bs' : List BV} {σ : List BV} {mc ms : Nat} {P : AR → Prop} (hi : (b_locs σ bl bl' && (b_locs σ (bs.map some) (bs'.map some) && b_inst K σ T G)) = true) (g : b_G K ν h0 h G) (k : b_G K (b_vT σ ν) h h (T.1, T.2.1, T.2.2, [], []) → b_ge d mi pc bl bs T.1.length (b_vT σ ν) h mc ms P) : b_ge d mi pc bl' bs' G.1.length ν h mc ms P := by
  simp only [Bool.and_eq_true] at hi
  obtain ⟨s2, s3, s4⟩ := hi
  intro al st hl hs
  obtain ⟨i1, i2, i3, i4, i5⟩ := b_inst_ok g s4
  have l1 := b_locs_ok (ν := ν) s2 hl
  have l2 := b_locsA (ν := ν) s3 hs
  rw [i1] at l1 l2
  exact k ⟨i3, i4, i5, (fun o ho => by cases ho), g.2.2.2.2.1, b_frm.rf⟩ al st l1 l2
theorem b_ge.more {ν ν' : BN} {h : AH} {d mi pc : Nat} {bl : BL} {bs : List BV} {N N' : Nat} {mc ms : Nat} {P : AR → Prop} (x : b_ext N N' ν ν') (k : b_ge d mi pc bl bs N' ν' h mc ms P) : b_ge d mi pc bl bs N ν h mc ms P := fun al st hl hs => k al st (hl.ext x) (hs.ext x)
/-- from a method's start -/
theorem b_ge.lim {mi d N : Nat} {ν : BN} {h : AH} {bas : List BV} {as : List Value} {P : AR → Prop} (ha : b_argOK mi bas = true) (hs : b_S N ν bas as) (k : b_ge d mi 0 (b_args mi bas) [] N ν h 0 0 P) : ∃ r, b_lim (d + 1) mi as h = some r ∧ P r := by
  obtain ⟨r, r1, r2⟩ := k (a_args mi as) [] (b_args_ok hs) b_S.nil
  exact ⟨r, b_lim_run (b_argOK_ok hs ha) r1, r2⟩
theorem b_gd.lim {K : BH} {R : BRw} {d N : Nat} {ν : BN} {h : AH} {as : List Value} (ha : b_argOK R.1 R.2.2.1.1 = true) (hs : b_S N ν R.2.2.1.1 as) (k : b_gd K R d 0 (b_args R.1 R.2.2.1.1) [] N ν h 0 0) : ∃ r, b_lim (d + 1) R.1 as h = some r ∧ b_post K R ν h r := by
  obtain ⟨r, r1, r2⟩ := k (a_args R.1 as) [] (b_args_ok hs) b_S.nil
  exact ⟨r, b_lim_run (b_argOK_ok hs ha) r1, r2⟩
theorem b_post.int2 {K : BH} {R : BRw} {ν : BN} {h : AH} {r : AR} {b1 b2 : BV} {E1 E2 : BQ} {F1 F2 : BF} {C1 C2 : BC} {c1 c2 : Nat × Nat} (hp : R.2.2.2.2 = [(.inl (some b1), (E1, F1, C1), c1), (.inl (some b2), (E2, F2, C2), c2)]) (hb1 : b1.1 < 2) (hb2 : b2.1 < 2) (k : b_post K R ν h r) : ∃ (x : Int32) (h' : AH) (ν' : BN), (r = (.inl (some (.int x)), h', c1.1, c1.2) ∧ b_ext R.2.2.1.2.1.length (R.2.2.1.2.1 ++ E1).length ν ν' ∧ b_i (R.2.2.1.2.1 ++ E1).length ν' b1 x.toInt ∧ b_G K ν' h h' (R.2.2.1.2.1 ++ E1, F1, C1, [], R.2.2.2.1)) ∨ (r = (.inl (some (.int x)), h', c2.1, c2.2) ∧ b_ext R.2.2.1.2.1.length (R.2.2.1.2.1 ++ E2).length ν ν' ∧ b_i (R.2.2.1.2.1 ++ E2).length ν' b2 x.toInt ∧ b_G K ν' h h' (R.2.2.1.2.1 ++ E2, F2, C2, [], R.2.2.2.1)) := by
  obtain ⟨p, p1, ν', x, q1, q2, q3⟩ := k
  rw [hp] at p1
  obtain ⟨r1, r2, r3⟩ := r
  rcases List.mem_cons.mp p1 with e | p1
  · subst e
    have q3 : r3 = c1 := q3
    cases r1 with
    | inr k' => exact q1.elim
    | inl v =>
      cases v with
      | none => exact q1.elim
      | some v =>
        obtain ⟨x', rfl, hx⟩ := b_v.int (b := b1) q1 hb1
        exact ⟨x', r2, ν', Or.inl ⟨by rw [show r3 = c1 from q3], x, hx, q2⟩⟩
  · obtain rfl := List.mem_singleton.mp p1
    have q3 : r3 = c2 := q3
    cases r1 with
    | inr k' => exact q1.elim
    | inl v =>
      cases v with
      | none => exact q1.elim
      | some v =>
        obtain ⟨x', rfl, hx⟩ := b_v.int (b := b2) q1 hb2
        exact ⟨x', r2, ν', Or.inr ⟨by rw [show r3 = c2 from q3], x, hx, q2⟩⟩
/-- a reference at a row -/
theorem b_G.rdR2 {K : BH} {ν : BN} {h0 h : AH} {G : BG} (g : b_G K ν h0 h G) {p n m : Nat} {k : Int} (hm : G.2.1.contains ((3, p, 0), (1, n, k), (3, m, 0)) = true) {j : Nat} (hj : (j : Int) = ν n + k) : ∃ a b : Nat, (a : Int) = ν p ∧ c_at h a j = some (.ref b) ∧ (b : Int) = ν m := by
  have f := g.fa _ hm
  obtain ⟨b, i, q0, q⟩ := f.ne9 (by show 1 < 2; decide)
  obtain ⟨x, x1, x2⟩ := f.atR (a := b) (j := j) q0 (by rw [hj, ← q.v]; exact q) (Or.inr rfl)
  exact ⟨b, x, q0.v, x1, x2.v⟩
theorem c_cnt_hi {p : Nat → Prop} {n : Nat} : ∀ {m : Nat}, (∀ j, n ≤ j → j < m → ¬ p j) → c_cnt p m ≤ c_cnt p n
  | 0, _ => Nat.zero_le _
  | m + 1, h => by
    rcases Nat.lt_or_ge m n with a | a
    · exact c_cnt_mono (by omega)
    · rw [c_cnt_s.2 (h m a (Nat.lt_succ_self _))]
      exact c_cnt_hi fun j h1 h2 => h j h1 (Nat.lt_succ_of_lt h2)
theorem c_cnt_eq {p q : Nat → Prop} {n : Nat} (h : ∀ k, k < n → (p k ↔ q k)) : c_cnt p n = c_cnt q n := Nat.le_antisymm (c_cnt_le fun k hk => (h k hk).1) (c_cnt_le fun k hk => (h k hk).2)
/-- none of these is written -/
def c_nin (l W : BW) : Bool := l.all fun g => !W.contains g
theorem c_nin_at {l W : BW} (h : c_nin l W = true) (g : Nat × Nat) (hg : l.contains g = true) : W.contains g = false := by
  have := List.all_eq_true.mp h g (by simpa using hg)
  simpa using this
/-- a film stands on a juror's ballot -/
def oB (h : AH) (s j f : Nat) : Prop := ∃ (B1 R1 R2 p : Nat) (n x : Int32), c_at h 688 s = some (.ref B1) ∧ c_K.1 B1 = some 99 ∧ c_at h B1 j = some (.int n) ∧ (p : Int) < n.toInt ∧ c_at h 694 s = some (.ref R1) ∧ c_K.1 R1 = some 101 ∧ c_at h R1 j = some (.ref R2) ∧ c_K.1 R2 = some 102 ∧ c_at h R2 p = some (.int x) ∧ x.toInt = f
def oW : BW := [(98, 0), (99, 0), (100, 0), (101, 0), (102, 0)]
theorem oB_frm {W : BW} {h h' : AH} (H : b_H c_K h) (f : b_frm c_K W h h') (w : c_nin oW W = true) {s j k : Nat} (p : oB h s j k) : oB h' s j k := by
  obtain ⟨B1, R1, R2, i, n, x, p1, p2, p3, p4, p5, p6, p7, p8, p9, p10⟩ := p
  refine ⟨B1, R1, R2, i, n, x, ?_, p2, ?_, p4, ?_, p6, ?_, p8, ?_, p10⟩
  · rw [f.k H c_a688 c_q98 (by decide) (c_nin_at w _ rfl)]; exact p1
  · rw [f.k H p2 c_q99 (by decide) (c_nin_at w _ rfl)]; exact p3
  · rw [f.k H c_a694 c_q100 (by decide) (c_nin_at w _ rfl)]; exact p5
  · rw [f.k H p6 c_q101 (by decide) (c_nin_at w _ rfl)]; exact p7
  · rw [f.k H p8 c_q102 (by decide) (c_nin_at w _ rfl)]; exact p9
theorem oB_rev {W : BW} {h h' : AH} (H : b_H c_K h) (f : b_frm c_K W h h') (w : c_nin oW W = true) {s j k : Nat} (p : oB h' s j k) : oB h s j k := by
  obtain ⟨B1, R1, R2, i, n, x, p1, p2, p3, p4, p5, p6, p7, p8, p9, p10⟩ := p
  rw [f.k H c_a688 c_q98 (by decide) (c_nin_at w _ rfl)] at p1
  rw [f.k H p2 c_q99 (by decide) (c_nin_at w _ rfl)] at p3
  rw [f.k H c_a694 c_q100 (by decide) (c_nin_at w _ rfl)] at p5
  rw [f.k H p6 c_q101 (by decide) (c_nin_at w _ rfl)] at p7
  rw [f.k H p8 c_q102 (by decide) (c_nin_at w _ rfl)] at p9
  exact ⟨B1, R1, R2, i, n, x, p1, p2, p3, p4, p5, p6, p7, p8, p9, p10⟩
/-- and is left -/
def oL (h : AH) (s j f : Nat) : Prop := oB h s j f ∧ c_at h 769 f = some (.int 1)
def oLW : BW := (108, 0) :: oW
theorem c_nin_t {g : Nat × Nat} {l W : BW} (h : c_nin (g :: l) W = true) : c_nin l W = true := by
  unfold c_nin at h ⊢
  rw [List.all_cons, Bool.and_eq_true] at h
  exact h.2
theorem oL_iff {W : BW} {h h' : AH} (H : b_H c_K h) (f : b_frm c_K W h h') (w : c_nin oLW W = true) {s j k : Nat} : oL h' s j k ↔ oL h s j k := by
  have e : c_at h' 769 k = c_at h 769 k := f.k H c_a769 c_q108 (by decide) (c_nin_at w _ rfl) k
  unfold oL
  rw [e]
  exact ⟨fun p => ⟨oB_rev H f (c_nin_t w) p.1, p.2⟩, fun p => ⟨oB_frm H f (c_nin_t w) p.1, p.2⟩⟩
def jn (h : AH) (s j : Nat) : Prop := ∃ n : Int32, c_at h 619 s = some (.int n) ∧ (j : Int) < n.toInt
theorem jn_iff {W : BW} {h h' : AH} (H : b_H c_K h) (f : b_frm c_K W h h') (w : W.contains (89, 0) = false) {s j : Nat} : jn h' s j ↔ jn h s j := by
  unfold jn
  rw [f.k H c_a619 c_q89 (by decide) w]
/-- a ballot's film out of what is known -/
theorem oB_of {ν : BN} {h0 h : AH} {G : BG} (g : b_G c_K ν h0 h G) {s j B n R1 R2 p x : Nat} (hm : ([((2, 688, 0), (1, s, 0), (3, B, 0)), ((3, B, 0), (1, j, 0), (1, n, 0)), ((2, 694, 0), (1, s, 0), (3, R1, 0)), ((3, R1, 0), (1, j, 0), (3, R2, 0)), ((3, R2, 0), (1, p, 0), (1, x, 0))] : BF).all (fun f => G.2.1.contains f) = true) (e1 : G.1[B]? = some (99 + 1, 0, 0)) (e2 : G.1[R1]? = some (101 + 1, 0, 0)) (e3 : G.1[R2]? = some (102 + 1, 0, 0)) (hs : 0 ≤ ν s) (hj : 0 ≤ ν j) (hp : 0 ≤ ν p) (hx : 0 ≤ ν x) (hpn : ν p < ν n) : oB h (ν s).toNat (ν j).toNat (ν x).toNat := by
  have hm := List.all_eq_true.mp hm
  obtain ⟨b, b1, b2⟩ := g.rdA (a := 688) (n := s) (m := B) (k := 0) (hm _ (by simp)) (j := (ν s).toNat) (by omega)
  obtain ⟨b', y, c1, c2, c3⟩ := g.rd2 (p := B) (n := j) (m := n) (k := 0) (k' := 0) (hm _ (by simp)) (j := (ν j).toNat) (by omega)
  obtain ⟨r, d1, d2⟩ := g.rdA (a := 694) (n := s) (m := R1) (k := 0) (hm _ (by simp)) (j := (ν s).toNat) (by omega)
  obtain ⟨r', q, f1, f2, f3⟩ := g.rdR2 (p := R1) (n := j) (m := R2) (k := 0) (hm _ (by simp)) (j := (ν j).toNat) (by omega)
  obtain ⟨q', z, k1, k2, k3⟩ := g.rd2 (p := R2) (n := p) (m := x) (k := 0) (k' := 0) (hm _ (by simp)) (j := (ν p).toNat) (by omega)
  obtain ⟨a1, a2, a3⟩ := g.1.rf e1
  obtain ⟨a4, a5, a6⟩ := g.1.rf e2
  obtain ⟨a7, a8, a9⟩ := g.1.rf e3
  rw [show b' = b by omega] at c2
  rw [show r' = r by omega] at f2
  rw [show q' = q by omega] at k2
  rw [show a1 = b by omega] at a3
  rw [show a4 = r by omega] at a6
  rw [show a7 = q by omega] at a9
  exact ⟨b, r, q, (ν p).toNat, y, z, b1, a3, c2, by omega, d1, a6, f2, a9, k2, by omega⟩
/-- what firstOf answers -/
theorem fo {h : AH} (H : b_H c_K h) {s j : Int32} (hs : 0 ≤ s.toInt ∧ s.toInt ≤ 4) (hj : 0 ≤ j.toInt ∧ j.toInt ≤ 4) : ∃ (x : Int32) (h' : AH), b_lim 1 238 [.ref 365, .int s, .int j] h = some (.inl (some (.int x)), h', 0, 0) ∧ -1 ≤ x.toInt ∧ x.toInt ≤ 19 ∧ b_H c_K h' ∧ b_frm c_K [] h h' ∧ (0 ≤ x.toInt → oL h s.toInt.toNat j.toInt.toNat x.toInt.toNat) ∧ (∀ f, oL h s.toInt.toNat j.toInt.toNat f → 0 ≤ x.toInt) := by
  have hA : ∀ (N : Nat) (ν : BN), 2 ≤ N → ν 0 = s.toInt → ν 1 = j.toInt → b_S N ν [(2, 365, 0), (1, 0, 0), (1, 1, 0)] [.ref 365, .int s, .int j] := fun N ν hN e0 e1 => b_S.cons (Or.inl ⟨rfl, rfl⟩) (b_S.cons (Or.inr ⟨rfl, by show 0 < N; omega, by show s.toInt = ν 0 + 0; omega⟩) (b_S.cons (Or.inr ⟨rfl, by show 1 < N; omega, by show j.toInt = ν 1 + 0; omega⟩) b_S.nil))
  obtain ⟨r, r1, r2⟩ := c_v238a.use (h := h) (as := [.ref 365, .int s, .int j]) (fun n => match n with | 0 => s.toInt | _ => j.toInt) H ⟨b_q.i hs.1 hs.2, b_q.i hj.1 hj.2, trivial⟩ trivial trivial (hA _ _ (by decide) rfl rfl)
  have wit : ∀ (x : Int32) (h' : AH), r = (.inl (some (.int x)), h', 0, 0) → ∀ f, oL h s.toInt.toNat j.toInt.toNat f → 0 ≤ x.toInt := by
    intro x h' e f p
    obtain ⟨⟨B1, R1, R2, i, n, y, p1, p2, p3, p4, p5, p6, p7, p8, p9, p10⟩, p11⟩ := p
    have tn : n.toInt ≤ 9 := by
      obtain ⟨z, z1, z2, z3⟩ := H.rdI (j := j.toInt.toNat) (lo := 0) (hi := 9) p2 c_q99 (by decide) (by show j.toInt.toNat < 5; omega) rfl
      rw [p3] at z1
      cases z1
      exact z3
    have ty : 0 ≤ y.toInt ∧ y.toInt ≤ 19 := by
      obtain ⟨z, z1, z2⟩ := H.rdI (j := i) (lo := 0) (hi := 19) p8 c_q102 (by decide) (by show i < 9; omega) rfl
      rw [p9] at z1
      cases z1
      exact z2
    obtain ⟨r', s1, s2⟩ := c_v238w.use (h := h) (as := [.ref 365, .int s, .int j]) (fun m => match m with | 0 => s.toInt | 1 => j.toInt | 2 => (B1 : Int) | 3 => n.toInt | 4 => (R1 : Int) | 5 => (R2 : Int) | 6 => (i : Int) | _ => y.toInt) H
      ⟨b_q.i hs.1 hs.2, b_q.i hj.1 hj.2, b_q.r p2, b_q.i (by show (1 : Int) ≤ n.toInt; omega) tn, b_q.r p6, b_q.r p8, b_q.i (by show (0 : Int) ≤ (i : Int); omega) (by show (i : Int) ≤ 8; omega), b_q.i ty.1 ty.2, trivial⟩
      ⟨b_fa.mk p1 (Or.inl ⟨rfl, rfl⟩) (Or.inr ⟨rfl, by decide, by show (s.toInt.toNat : Int) = s.toInt + 0; omega⟩) (Or.inr ⟨rfl, by decide, rfl⟩),
       b_fa.mk p3 (Or.inr ⟨rfl, by decide, rfl⟩) (Or.inr ⟨rfl, by decide, by show (j.toInt.toNat : Int) = j.toInt + 0; omega⟩) (Or.inr ⟨rfl, by decide, by show n.toInt = n.toInt + 0; omega⟩),
       b_fa.mk p5 (Or.inl ⟨rfl, rfl⟩) (Or.inr ⟨rfl, by decide, by show (s.toInt.toNat : Int) = s.toInt + 0; omega⟩) (Or.inr ⟨rfl, by decide, rfl⟩),
       b_fa.mk p7 (Or.inr ⟨rfl, by decide, rfl⟩) (Or.inr ⟨rfl, by decide, by show (j.toInt.toNat : Int) = j.toInt + 0; omega⟩) (Or.inr ⟨rfl, by decide, rfl⟩),
       b_fa.mk p9 (Or.inr ⟨rfl, by decide, rfl⟩) (Or.inr ⟨rfl, by decide, by show (i : Int) = (i : Int) + 0; omega⟩) (Or.inr ⟨rfl, by decide, by show y.toInt = y.toInt + 0; omega⟩),
       b_fa.mk p11 (Or.inl ⟨rfl, rfl⟩) (Or.inr ⟨rfl, by decide, by show (f : Int) = y.toInt + 0; omega⟩) (Or.inl ⟨rfl, by decide⟩), trivial⟩
      ⟨⟨by decide, by decide, by show (i : Int) ≤ n.toInt + (-1); omega⟩, trivial⟩ (hA _ _ (by decide) rfl rfl)
    obtain ⟨x', h2, ν2, e', -, y2, g2⟩ := s2.intS rfl (by show 1 < 2; decide)
    subst e'
    rw [show c_r238w.2.1 = c_r238a.2.1 from rfl, show c_r238w.1 = c_r238a.1 from rfl, r1, e] at s1
    cases s1
    have := y2.v
    have iv := g2.iv 8 (lo := 0) (hi := 19) rfl
    omega
  obtain ⟨x, h', ν', c | c⟩ := r2.int2 rfl (by show 0 < 2; decide) (by show 1 < 2; decide)
  · obtain ⟨e, x1, x2, g⟩ := c
    have x2 := x2.k
    have e0 : r = (.inl (some (.int x)), h', 0, 0) := e
    exact ⟨x, h', by rw [← e0]; exact r1, by omega, by omega, g.2.2.2.2.1, g.2.2.2.2.2, fun q => by omega, wit x h' e0⟩
  · obtain ⟨e, x1, x2, g⟩ := c
    have x2 := x2.v
    have e0 : r = (.inl (some (.int x)), h', 0, 0) := e
    have ix := g.iv 2 (lo := 0) (hi := 19) rfl
    have ik := g.iv 7 (lo := 0) (hi := 8) rfl
    have ia := g.iv 8 (lo := 1) (hi := 1) rfl
    have v0 : ν' 0 = s.toInt := x1.2 0 (by decide)
    have v1 : ν' 1 = j.toInt := x1.2 1 (by decide)
    have kn : ν' 7 ≤ ν' 4 + (-1) := g.co (by decide)
    refine ⟨x, h', by rw [← e0]; exact r1, by omega, by omega, g.2.2.2.2.1, g.2.2.2.2.2, fun _ => (oL_iff H g.2.2.2.2.2 (by decide)).mp ?_, wit x h' e0⟩
    have ob := oB_of g (s := 0) (j := 1) (B := 3) (n := 4) (R1 := 5) (R2 := 6) (p := 7) (x := 2) (by rfl) rfl rfl rfl (by omega) (by omega) (by omega) (by omega) (by omega)
    obtain ⟨a, a1, a2⟩ := g.rd (a := 769) (n := 2) (m := 8) (k := 0) (k' := 0) (by rfl) (j := x.toInt.toNat) (by omega)
    rw [v0, v1, show (ν' 2).toNat = x.toInt.toNat by omega] at ob
    have ea : a = 1 := c_is1 (by omega)
    exact ⟨ob, by rw [a1, ea]⟩
/-- nothing but one film is left on a ballot -/
def only (h : AH) (s j g : Nat) : Prop := (∃ f, oL h s j f) ∧ ∀ f, oL h s j f → f = g
theorem qI21 : a_ins 239 21 = some (.invokevirtual 324, 3) := by decide +kernel
theorem qI21c : (a_of a_inv (a_own 239)).find? (fun e => e.1 == 324 && e.2.1 == 0) = some (324, 0, 238, (9, 25), (9, 27), (0, 58), (1, 13)) := by rfl
theorem c_n238 : a_nrg 238 = 3 ∧ a_own 238 = 12 := by decide +kernel
def fsP (h : AH) (s g : Nat) (r : AR) : Prop := ∃ (x : Int32) (h' : AH), r = (.inl (some (.int x)), h', 0, 0) ∧ 0 ≤ x.toInt ∧ x.toInt ≤ 5 ∧ b_H c_K h' ∧ b_frm c_K [] h h' ∧ (c_cnt (fun j => jn h s j ∧ only h s j g) 5 : Int) ≤ x.toInt
theorem fs5 {h : AH} (H : b_H c_K h) {s g : Int32} (hs : 0 ≤ s.toInt ∧ s.toInt ≤ 4) : ∀ (m : Nat) (ν : BN) (h1 : AH), b_frm c_K [] h h1 → b_G c_K ν h1 h1 (qB.2.1.2.2.1, [], [], [], []) → ν 0 = s.toInt → ν 1 = g.toInt → ν 2 ≤ ν 3 → (5 - ν 3).toNat < m → (c_cnt (fun j => jn h s.toInt.toNat j ∧ only h s.toInt.toNat j g.toInt.toNat) (ν 3).toNat : Int) ≤ ν 2 → b_ge 1 239 5 qB.2.1.1 [] qB.2.1.2.2.1.length ν h1 0 0 (fsP h s.toInt.toNat g.toInt.toNat)
  | 0, ν, h1, _, _, _, _, _, hm, _ => absurd hm (Nat.not_lt_zero _)
  | m + 1, ν, h1, fr, gg, e0, e1, h23, hm, hc => by
    have g0 := gg.ad (ν' := ν) (E' := []) (F' := []) (C' := [(2, 3, 0)]) (fun _ _ => rfl) trivial trivial ⟨⟨by decide, by decide, by show ν 2 ≤ ν 3 + 0; omega⟩, trivial⟩
    have iv2 := gg.iv 2 (lo := 0) (hi := 5) rfl
    have iv3 := gg.iv 3 (lo := 0) (hi := 5) rfl
    refine b_ge.sg c_hJ qO qBC (g0.wk (by decide)) (b_al.c ?_ (b_al.c ?_ b_al.n))
    · intro ν1 h2 x1 g1
      refine b_pe.int rfl (by show 1 < 2; decide) (fun x hx => ?_)
      have hx := hx.v
      have m0 := x1.2 0 (by decide)
      have m2 := x1.2 2 (by decide)
      have m3 := x1.2 3 (by decide)
      have k4 : ν1 4 ≤ ν1 3 + 0 := g1.co (by decide)
      obtain ⟨z, z1, z2⟩ := g1.rd (a := 619) (n := 0) (m := 4) (k := 0) (k' := 0) (by rfl) (j := s.toInt.toNat) (by omega)
      have fr2 := b_frm.tr fr g1.2.2.2.2.2 (W'' := []) (fun w hw => hw) (fun w hw => hw)
      rw [fr2.k H c_a619 c_q89 (by decide) rfl] at z1
      refine ⟨x, h2, rfl, by omega, by omega, g1.2.2.2.2.1, fr2, ?_⟩
      have c1 := c_cnt_hi (p := fun j => jn h s.toInt.toNat j ∧ only h s.toInt.toNat j g.toInt.toNat) (n := (ν 3).toNat) (m := 5) (fun j h1 h2 q => by
        obtain ⟨⟨z', q1, q2⟩, -⟩ := q
        rw [z1] at q1
        cases q1
        omega)
      omega
    · intro ν1 h2 x1 g1
      refine b_pe.to rfl ?_
      intro al st hl hst
      obtain ⟨v1, t1, rfl, a1, b1⟩ := hst.inv
      obtain ⟨v2, t2, rfl, a2, b2⟩ := b1.inv
      obtain ⟨v3, t3, rfl, a3, b3⟩ := b2.inv
      obtain ⟨v4, t4, rfl, a4, b4⟩ := b3.inv
      obtain rfl := b4.inv0
      obtain ⟨j, rfl, j1⟩ := a1.int (by show 1 < 2; decide)
      obtain ⟨s', rfl, s1⟩ := a2.int (by show 1 < 2; decide)
      obtain ⟨r3, rfl, r4⟩ := a3.ref (Or.inl rfl)
      obtain ⟨w, rfl, w1⟩ := a4.int (by show 1 < 2; decide)
      have j1 := j1.v
      have s1 := s1.v
      have w1 := w1.v
      have r4 := r4.k
      subst r4
      have m0 := x1.2 0 (by decide)
      have m1 := x1.2 1 (by decide)
      have m2 := x1.2 2 (by decide)
      have m3 := x1.2 3 (by decide)
      have k1 : ν1 4 ≤ ν1 2 + 0 := g1.co (by decide)
      have k2 : ν1 2 ≤ ν1 4 + 0 := g1.co (by decide)
      have k3 : ν1 5 ≤ ν1 3 + 0 := g1.co (by decide)
      have k4 : ν1 3 ≤ ν1 5 + 0 := g1.co (by decide)
      have iv4 := g1.iv 4 (lo := 0) (hi := 4) rfl
      have iv5 := g1.iv 5 (lo := 0) (hi := 4) rfl
      have es : s' = s := Int32.toInt_inj.mp (by omega)
      subst es
      have fr2 := b_frm.tr fr g1.2.2.2.2.2 (W'' := []) (fun w hw => hw) (fun w hw => hw)
      have H2 := g1.2.2.2.2.1
      obtain ⟨x, h3, y1, y2, y3, y4, y5, y6, y7⟩ := fo H2 hs (j := j) (by omega)
      obtain ⟨vs, hh⟩ := c_o365 H2
      have fr3 := b_frm.tr fr2 y5 (W'' := []) (fun w hw => hw) (fun w hw => hw)
      have hx : ∀ n, n < 7 → b_nu ν1 7 x.toInt n = ν1 n := fun n hn => if_neg (Nat.ne_of_lt hn)
      have g2 : b_G c_K (b_nu ν1 7 x.toInt) h3 h3 ([(0, 0, 4), (0, 0, 19), (0, 0, 5), (0, 0, 5), (0, 0, 4), (0, 0, 4), (0, 1, 5), (0, -1, 19)], [], [(0, 0, 0)], [], []) := by
        have g2 : b_G c_K ν1 h3 h3 (qB.2.1.2.2.1 ++ [(0, 0, 4), (0, 0, 4), (0, 1, 5)], [], [], [], []) := ⟨g1.1, (fun f hf => by cases hf), (fun f hf => by cases hf), (fun f hf => by cases hf), y4, b_frm.rf⟩
        exact g2.ad (ν' := b_nu ν1 7 x.toInt) (E' := [(0, -1, 19)]) (F' := []) (C' := [(0, 0, 0)]) hx ⟨by show b_q _ _ (b_nu ν1 7 x.toInt 7); rw [b_nu_n]; exact b_q.i y2 y3, trivial⟩ trivial ⟨⟨by decide, by decide, by show b_nu ν1 7 x.toInt 0 ≤ b_nu ν1 7 x.toInt 0 + 0; omega⟩, trivial⟩
      -- what the count does
      have key : jn h s'.toInt.toNat (ν 3).toNat ∧ only h s'.toInt.toNat (ν 3).toNat g.toInt.toNat → x.toInt = g.toInt := by
        intro q
        obtain ⟨-, ⟨f, q1⟩, q2⟩ := q
        have ej : j.toInt.toNat = (ν 3).toNat := by omega
        rw [ej] at y6 y7
        have p := y7 f ((oL_iff H fr2 (by decide)).mpr q1)
        have q3 := q2 _ ((oL_iff H fr2 (by decide)).mp (y6 p))
        have ig := g1.iv 1 (lo := 0) (hi := 19) rfl
        omega
      have again : ∀ (b : Nat) (ν3 : BN) (h4 : AH), b_frm c_K [] h3 h4 → b_G c_K ν3 h4 h4 (qD.2.1.2.2.1, [], [], [], []) → ν3 0 = s'.toInt → ν3 1 = g.toInt → ν3 2 = ν 2 → ν3 3 = ν 3 → b ≤ 1 → (b = 0 → x.toInt ≠ g.toInt) → b_ge 1 239 5 [some (2, 365, 0), some (1, 0, 0), some (1, 1, 0), some (1, 2, (b : Int)), some (1, 3, 1)] [] qD.2.1.2.2.1.length ν3 h4 0 0 (fsP h s'.toInt.toNat g.toInt.toNat) := by
        intro b ν3 h4 fr4 g4 z0 z1 z2 z3 hb hb0
        have fr5 := b_frm.tr fr3 fr4 (W'' := []) (fun w hw => hw) (fun w hw => hw)
        have cc : (c_cnt (fun j => jn h s'.toInt.toNat j ∧ only h s'.toInt.toNat j g.toInt.toNat) ((ν 3).toNat + 1) : Int) ≤ ν 2 + b := by
          by_cases q : jn h s'.toInt.toNat (ν 3).toNat ∧ only h s'.toInt.toNat (ν 3).toNat g.toInt.toNat
          · rw [c_cnt_s.1 q]
            have : b ≠ 0 := fun e => hb0 e (key q)
            omega
          · rw [c_cnt_s.2 q]
            omega
        have b01 : b = 0 ∨ b = 1 := by omega
        rcases b01 with rfl | rfl
        · refine b_ge.cv (G := (qD.2.1.2.2.1, [], [], [], [])) (T := (qB.2.1.2.2.1, [], [])) (bl := qB.2.1.1) (bs := []) (σ := [(1, 0, 0), (1, 1, 0), (1, 2, 0), (1, 3, 1)]) (by decide +kernel) g4 (fun g5 => ?_)
          exact fs5 H hs m _ h4 fr5 g5 (by show ν3 0 + 0 = _; omega) (by show ν3 1 + 0 = _; omega) (by show ν3 2 + 0 ≤ ν3 3 + 1; omega) (by show (5 - (ν3 3 + 1)).toNat < m; omega) (by show (c_cnt _ (ν3 3 + 1).toNat : Int) ≤ ν3 2 + 0; rw [show (ν3 3 + 1).toNat = (ν 3).toNat + 1 by omega]; omega)
        · refine b_ge.cv (G := (qD.2.1.2.2.1, [], [], [], [])) (T := (qB.2.1.2.2.1, [], [])) (bl := qB.2.1.1) (bs := []) (σ := [(1, 0, 0), (1, 1, 0), (1, 2, 1), (1, 3, 1)]) (by decide +kernel) g4 (fun g5 => ?_)
          exact fs5 H hs m _ h4 fr5 g5 (by show ν3 0 + 0 = _; omega) (by show ν3 1 + 0 = _; omega) (by show ν3 2 + 1 ≤ ν3 3 + 1; omega) (by show (5 - (ν3 3 + 1)).toNat < m; omega) (by show (c_cnt _ (ν3 3 + 1).toNat : Int) ≤ ν3 2 + 1; rw [show (ν3 3 + 1).toNat = (ν 3).toNat + 1 by omega]; omega)
      have cont : b_ge 1 239 24 [some (2, 365, 0), some (1, 0, 0), some (1, 1, 0), some (1, 4, 0), some (1, 5, 0)] [(1, 7, 0), (1, 4, 0)] 8 (b_nu ν1 7 x.toInt) h3 0 0 (fsP h s'.toInt.toNat g.toInt.toNat) := by
        refine b_ge.cv (G := ([(0, 0, 4), (0, 0, 19), (0, 0, 5), (0, 0, 5), (0, 0, 4), (0, 0, 4), (0, 1, 5), (0, -1, 19)], [], [(0, 0, 0)], [], [])) (T := (qD.2.1.2.2.1, [], [(0, 0, 0)])) (bl := qD.2.1.1) (bs := qD.2.1.2.1) (σ := [(1, 0, 0), (1, 1, 0), (1, 4, 0), (1, 5, 0), (1, 7, 0)]) (by decide +kernel) g2 (fun g3 => ?_)
        have u0 : b_vT [(1, 0, 0), (1, 1, 0), (1, 4, 0), (1, 5, 0), (1, 7, 0)] (b_nu ν1 7 x.toInt) 0 = s'.toInt := by show b_nu ν1 7 x.toInt 0 + 0 = _; rw [hx 0 (by decide)]; omega
        have u1 : b_vT [(1, 0, 0), (1, 1, 0), (1, 4, 0), (1, 5, 0), (1, 7, 0)] (b_nu ν1 7 x.toInt) 1 = g.toInt := by show b_nu ν1 7 x.toInt 1 + 0 = _; rw [hx 1 (by decide)]; omega
        have u2 : b_vT [(1, 0, 0), (1, 1, 0), (1, 4, 0), (1, 5, 0), (1, 7, 0)] (b_nu ν1 7 x.toInt) 2 = ν 2 := by show b_nu ν1 7 x.toInt 4 + 0 = _; rw [hx 4 (by decide)]; omega
        have u3 : b_vT [(1, 0, 0), (1, 1, 0), (1, 4, 0), (1, 5, 0), (1, 7, 0)] (b_nu ν1 7 x.toInt) 3 = ν 3 := by show b_nu ν1 7 x.toInt 5 + 0 = _; rw [hx 5 (by decide)]; omega
        have u4 : b_vT [(1, 0, 0), (1, 1, 0), (1, 4, 0), (1, 5, 0), (1, 7, 0)] (b_nu ν1 7 x.toInt) 4 = x.toInt := by show b_nu ν1 7 x.toInt 7 + 0 = _; rw [b_nu_n]; omega
        refine b_ge.sg (S := qD) c_hJ qO qDC g3 (b_al.c ?_ (b_al.c ?_ (b_al.c ?_ b_al.n)))
        · intro ν3 h4 x3 g4
          exact b_pe.to rfl (again 1 ν3 h4 g4.2.2.2.2.2 g4.bare ((x3.2 0 (by decide)).trans u0) ((x3.2 1 (by decide)).trans u1) ((x3.2 2 (by decide)).trans u2) ((x3.2 3 (by decide)).trans u3) (by decide) (fun e => by cases e))
        · intro ν3 h4 x3 g4
          have c1 : ν3 4 ≤ ν3 1 + (-1) := g4.co (by decide)
          have y4 := (x3.2 4 (by decide)).trans u4
          have y1 := (x3.2 1 (by decide)).trans u1
          exact b_pe.to rfl (again 0 ν3 h4 g4.2.2.2.2.2 g4.bare ((x3.2 0 (by decide)).trans u0) y1 ((x3.2 2 (by decide)).trans u2) ((x3.2 3 (by decide)).trans u3) (by decide) (fun _ => by omega))
        · intro ν3 h4 x3 g4
          have c1 : ν3 1 ≤ ν3 4 + (-1) := g4.co (by decide)
          have y4 := (x3.2 4 (by decide)).trans u4
          have y1 := (x3.2 1 (by decide)).trans u1
          exact b_pe.to rfl (again 0 ν3 h4 g4.2.2.2.2.2 g4.bare ((x3.2 0 (by decide)).trans u0) y1 ((x3.2 2 (by decide)).trans u2) ((x3.2 3 (by decide)).trans u3) (by decide) (fun _ => by omega))
      obtain ⟨r, r1, r2⟩ := cont al [.int x, .int w] (hl.ext b_nu_ext) (b_S.cons (v := .int x) (Or.inr ⟨rfl, by decide, by show _ = b_nu ν1 7 x.toInt 7 + 0; rw [b_nu_n]; omega⟩) (b_S.cons (v := .int w) (Or.inr ⟨rfl, by decide, by show _ = b_nu ν1 7 x.toInt 4 + 0; rw [hx 4 (by decide)]; omega⟩) b_S.nil))
      exact ⟨r, b_R.cal qI21 rfl rfl (c_calV (k := 3) qI21c c_n238.1 c_n238.2 (by show 3 ≤ 4; decide) (Nat.le_of_ble_eq_true rfl) rfl hh) y1 r1, r2⟩
/-- what firsts answers -/
theorem fs {h : AH} (H : b_H c_K h) {s g : Int32} (hs : 0 ≤ s.toInt ∧ s.toInt ≤ 4) (hg : 0 ≤ g.toInt ∧ g.toInt ≤ 19) : ∃ r, b_lim 2 239 [.ref 365, .int s, .int g] h = some r ∧ fsP h s.toInt.toNat g.toInt.toNat r := by
  have g0 : b_G c_K (fun n => match n with | 0 => s.toInt | _ => g.toInt) h h (qA.2.1.2.2.1, [], [], [], []) := ⟨(fun n q hq => by
    rcases n with _ | _ | n
    · cases hq; exact b_q.i hs.1 hs.2
    · cases hq; exact b_q.i hg.1 hg.2
    · cases hq), (fun f hf => by cases hf), (fun f hf => by cases hf), (fun f hf => by cases hf), H, b_frm.rf⟩
  refine b_ge.lim (N := 2) (ν := fun n => match n with | 0 => s.toInt | _ => g.toInt) (bas := [(2, 365, 0), (1, 0, 0), (1, 1, 0)]) (by decide +kernel) (b_S.cons (Or.inl ⟨rfl, rfl⟩) (b_S.cons (Or.inr ⟨rfl, by decide, by show s.toInt = s.toInt + 0; omega⟩) (b_S.cons (Or.inr ⟨rfl, by decide, by show g.toInt = g.toInt + 0; omega⟩) b_S.nil))) ?_
  refine b_ge.sg (S := qA) c_hJ qO qAC g0 (b_al.c ?_ b_al.n)
  intro ν1 h1 x1 g1
  refine b_pe.to rfl ?_
  refine b_ge.cv (T := (qB.2.1.2.2.1, [], [])) (bl := qB.2.1.1) (bs := []) (σ := [(1, 0, 0), (1, 1, 0), (0, 0, 0), (0, 0, 0)]) (by decide +kernel) g1 (fun g2 => ?_)
  have m0 : ν1 0 = s.toInt := x1.2 0 (by decide)
  have m1 : ν1 1 = g.toInt := x1.2 1 (by decide)
  exact fs5 H hs _ _ h1 g1.2.2.2.2.2 g2 (by show ν1 0 + 0 = _; omega) (by show ν1 1 + 0 = _; omega) (Int.le_refl _) (Nat.lt_succ_self _) (Int.le_refl _)
/-! byRounds: while a film is left on a ballot, there is one to take away, and another stays -/
def hasL (h : AH) (s j : Nat) : Prop := jn h s j ∧ ∃ f, oL h s j f
def VQ (h : AH) (s : Nat) (v : Int) (M : Nat) : Prop := v = (c_cnt (hasL h s) 5 : Int) ∧ (∃ j, hasL h s j) ∧ c_cnt (lP h) 20 ≤ M
def GQ (h : AH) (s : Nat) (v g k : Int) : Prop := (g = -1 ∧ ∀ f : Nat, (f : Int) < k → ¬ lP h f) ∨ (0 ≤ g ∧ lP h g.toNat ∧ 2 * (c_cnt (fun j => jn h s j ∧ only h s j g.toNat) 5 : Int) ≤ v)
theorem hasL_iff {h h' : AH} (H : b_H c_K h) (f : b_frm c_K [] h h') {s j : Nat} : hasL h' s j ↔ hasL h s j := by
  unfold hasL
  rw [jn_iff H f rfl]
  exact ⟨fun p => ⟨p.1, p.2.imp fun k => (oL_iff H f (by decide)).mp⟩, fun p => ⟨p.1, p.2.imp fun k => (oL_iff H f (by decide)).mpr⟩⟩
theorem only_iff {h h' : AH} (H : b_H c_K h) (f : b_frm c_K [] h h') {s j g : Nat} : only h' s j g ↔ only h s j g := by
  unfold only
  exact ⟨fun p => ⟨p.1.imp fun k => (oL_iff H f (by decide)).mp, fun k q => p.2 k ((oL_iff H f (by decide)).mpr q)⟩, fun p => ⟨p.1.imp fun k => (oL_iff H f (by decide)).mpr, fun k q => p.2 k ((oL_iff H f (by decide)).mp q)⟩⟩
theorem lP_iff {h h' : AH} (H : b_H c_K h) (f : b_frm c_K [] h h') {k : Nat} : lP h' k ↔ lP h k := ⟨lP_rev H f rfl rfl, lP_frm H f rfl rfl⟩
theorem VQ_frm {h h' : AH} (H : b_H c_K h) (f : b_frm c_K [] h h') {s M : Nat} {v : Int} (q : VQ h s v M) : VQ h' s v M := by
  obtain ⟨q1, q2, q3⟩ := q
  refine ⟨?_, q2.imp fun j => (hasL_iff H f).mpr, ?_⟩
  · rw [q1, c_cnt_eq (p := hasL h s) (q := hasL h' s) fun k _ => (hasL_iff H f).symm]
  · rw [c_cnt_eq (p := lP h') (q := lP h) fun k _ => lP_iff H f]; exact q3
theorem GQ_frm {h h' : AH} (H : b_H c_K h) (f : b_frm c_K [] h h') {s : Nat} {v g k : Int} (q : GQ h s v g k) : GQ h' s v g k := by
  rcases q with ⟨q1, q2⟩ | ⟨q1, q2, q3⟩
  · exact Or.inl ⟨q1, fun i hi p => q2 i hi ((lP_iff H f).mp p)⟩
  · refine Or.inr ⟨q1, (lP_iff H f).mpr q2, ?_⟩
    rw [c_cnt_eq (p := fun j => jn h' s j ∧ only h' s j g.toNat) (q := fun j => jn h s j ∧ only h s j g.toNat) fun j _ => and_congr (jn_iff H f rfl) (only_iff H f)]
    exact q3
theorem jn5 {h : AH} (H : b_H c_K h) {s j : Nat} (hs : s < 5) (p : jn h s j) : j < 5 := by
  obtain ⟨n, p1, p2⟩ := p
  obtain ⟨z, z1, z2, z3⟩ := H.rdI (j := s) (lo := 0) (hi := 5) c_a619 c_q89 (by decide) hs rfl
  rw [p1] at z1
  cases z1
  omega
theorem oL_lP {h : AH} (H : b_H c_K h) {s j f : Nat} (p : oL h s j f) : lP h f := by
  obtain ⟨z, z1, z2, z3⟩ := H.rdI (j := 44) (lo := 0) (hi := 20) c_a365 c_q50 (by decide) (by decide) rfl
  exact ⟨z, z1, c_J_lt H.2 z1 p.2, p.2⟩
theorem rI116 : a_ins 245 116 = some (.bastore, 1) := by decide +kernel
theorem rI66 : a_ins 245 66 = some (.invokevirtual 333, 3) := by decide +kernel
theorem rI69 : a_ins 245 69 = some (.imul, 1) := by decide +kernel
theorem rI18 : a_ins 245 18 = some (.invokevirtual 324, 3) := by decide +kernel
theorem rI66c : (a_of a_inv (a_own 245)).find? (fun e => e.1 == 333 && e.2.1 == 0) = some (333, 0, 239, (9, 21), (9, 23), (0, 57), (1, 13)) := by rfl
theorem rI18c : (a_of a_inv (a_own 245)).find? (fun e => e.1 == 324 && e.2.1 == 0) = some (324, 0, 238, (9, 25), (9, 27), (0, 58), (1, 13)) := by rfl
theorem c_n239 : a_nrg 239 = 3 ∧ a_own 239 = 12 := by decide +kernel
def rE116 : BQ := rE.2.1.2.2.1
theorem r116 {ν : BN} {h : AH} {M : Nat} (g : b_G c_K ν h h (rE116, [], [], [], [])) (hV : VQ h (ν 0).toNat (ν 1) M) (hl : lP h (ν 2).toNat) (h2 : 2 * (c_cnt (fun j => jn h (ν 0).toNat j ∧ only h (ν 0).toNat j (ν 2).toNat) 5 : Int) ≤ ν 1)
    (ih : ∀ (ν' : BN) (h' : AH), b_G c_K ν' h' h' (rA.2.1.2.2.1, [], [], [], []) → c_cnt (lP h') 20 < M → (∃ j, hasL h' (ν' 0).toNat j) → b_gd c_K c_r245 2 0 rA.2.1.1 [] rA.2.1.2.2.1.length ν' h' 0 0) : b_gd c_K c_r245 2 116 [some (2, 365, 0), some (1, 0, 0), none, none, none] [(0, 0, 0), (1, 2, 0), (2, 769, 0)] rE116.length ν h 0 0 := by
  obtain ⟨q1, ⟨j0, q2⟩, q3⟩ := hV
  have H := g.2.2.2.2.1
  have iv0 := g.iv 0 (lo := 0) (hi := 4) rfl
  have iv2 := g.iv 2 (lo := 0) (hi := 19) rfl
  have other : ∃ j f, jn h (ν 0).toNat j ∧ oL h (ν 0).toNat j f ∧ f ≠ (ν 2).toNat := by
    refine Classical.byContradiction fun no => ?_
    have all : ∀ j f, jn h (ν 0).toNat j → oL h (ν 0).toNat j f → f = (ν 2).toNat := fun j f a b => Classical.byContradiction fun c => no ⟨j, f, a, b, c⟩
    have e : c_cnt (hasL h (ν 0).toNat) 5 = c_cnt (fun j => jn h (ν 0).toNat j ∧ only h (ν 0).toNat j (ν 2).toNat) 5 := c_cnt_eq fun j _ => ⟨fun p => ⟨p.1, p.2, fun f q => all j f p.1 q⟩, fun p => ⟨p.1, p.2.1⟩⟩
    have pos : 0 < c_cnt (hasL h (ν 0).toNat) 5 := Nat.lt_of_lt_of_le (by rw [c_cnt_s.1 q2]; exact Nat.succ_pos _ : 0 < c_cnt (hasL h (ν 0).toNat) (j0 + 1)) (c_cnt_mono (jn5 H (by omega) q2.1))
    omega
  obtain ⟨j1, f1, o1, o2, o3⟩ := other
  refine b_gd.putP (gg := 108) (row := (21, 20, 1, [(0, 0, 1)])) (ty := (0, 0, 1)) rI116 (b_rowX c_a769 c_q108) (by decide +kernel) rfl (by decide +kernel) (by decide) (by decide) g (fun a n t vs w ha hn hw h1 hln => by
    obtain rfl := ha.k
    obtain ⟨x, rfl, hx⟩ := c_one hw rfl
    exact c_J_left0 g.2.2.2.2.1.2 h1 (by rw [c_is0 hx]; decide)) (fun a n t vs w ha hn hw e1 hln g1 => ?_)
  have ea := ha.k
  subst ea
  have en := hn.v
  obtain ⟨x, rfl, hx⟩ := c_one hw rfl
  have hx := c_is0 hx
  subst hx
  have H1 := g1.2.2.2.2.1
  have nn : n = (ν 2).toNat := by omega
  have fr := b_frm.set (K := c_K) (v := .int 0) e1 (b_keyA (k := n) c_a769 c_q108 (by decide))
  refine b_gd.cv (G := (rE116, [], [], [], [])) (T := (rK.2.1.2.2.1, [], [])) (bl := rK.2.1.1) (bs := []) (σ := [(1, 0, 0)]) (by decide +kernel) g1.bare (fun g2 => ?_)
  refine b_gd.sg (S := rK) c_hJ rO rKC rfl (by decide) (by decide) g2 (b_al.c ?_ b_al.n)
  intro ν3 h3 x3 g3
  refine b_pq.to rfl ?_
  have m0 : ν3 0 = ν 0 := (x3.2 0 (by decide)).trans (by show ν 0 + 0 = _; omega)
  have fr3 := g3.2.2.2.2.2
  refine ih ν3 h3 g3.bare ?_ ⟨j1, ?_⟩
  · have lt : c_cnt (lP h3) 20 < c_cnt (lP h) 20 := c_cnt_lt (m := (ν 2).toNat) (by omega) hl (fun p => by
      obtain ⟨r, p1, p2, p3⟩ := (lP_iff H1 fr3).mp p
      rw [c_at_set e1 hln, if_pos ⟨rfl, nn.symm⟩] at p3
      cases p3) (fun k _ p => by
      obtain ⟨r, p1, p2, p3⟩ := (lP_iff H1 fr3).mp p
      rw [c_at_set e1 hln, if_neg (fun q => by omega)] at p1
      rw [c_at_set e1 hln] at p3
      split at p3
      · cases p3
      · exact ⟨r, p1, p2, p3⟩)
    omega
  · rw [m0]
    refine (hasL_iff H1 fr3).mpr ⟨(jn_iff H fr (by decide)).mpr o1, f1, oB_frm H fr (by decide) o2.1, ?_⟩
    rw [c_at_set e1 hln, if_neg (fun q => o3 (q.2.trans nn))]
    exact o2.2
def rE42 : BQ := [(0, 0, 4), (0, 0, 5), (0, -1, 19), (0, 0, 20)]
def rbl42 : BL := [some (2, 365, 0), some (1, 0, 0), some (1, 1, 0), some (1, 2, 0), some (1, 3, 0)]
theorem r42 : ∀ (m M : Nat) (ν : BN) (h : AH), b_G c_K ν h h (rE42, [], [], [], []) → (20 - ν 3).toNat < m → VQ h (ν 0).toNat (ν 1) M → GQ h (ν 0).toNat (ν 1) (ν 2) (ν 3) → (∀ (ν' : BN) (h' : AH), b_G c_K ν' h' h' (rA.2.1.2.2.1, [], [], [], []) → c_cnt (lP h') 20 < M → (∃ j, hasL h' (ν' 0).toNat j) → b_gd c_K c_r245 2 0 rA.2.1.1 [] rA.2.1.2.2.1.length ν' h' 0 0) → b_gd c_K c_r245 2 42 rbl42 [] 4 ν h 0 0
  | 0, M, ν, h, g, hm, _, _, _ => absurd hm (Nat.not_lt_zero _)
  | m + 1, M, ν, h, g, hm, hV, hG, ih => by
    have H := g.2.2.2.2.1
    have iv0 := g.iv 0 (lo := 0) (hi := 4) rfl
    have iv1 := g.iv 1 (lo := 0) (hi := 5) rfl
    have iv2 := g.iv 2 (lo := -1) (hi := 19) rfl
    have iv3 := g.iv 3 (lo := 0) (hi := 20) rfl
    obtain ⟨f, f1, f2, f3⟩ := H.rdI (j := 44) (lo := 0) (hi := 20) c_a365 c_q50 (by decide) (by decide) rfl
    have yk : ∀ z k, k < 4 → b_nu ν 4 z k = ν k := fun z k hk => if_neg (Nat.ne_of_lt hk)
    have again : ∀ (ν' : BN) (h3 : AH), b_H c_K h3 → b_frm c_K [] h h3 → b_G c_K ν' h3 h3 (rE42, [], [], [], []) → ν' 3 = ν 3 + 1 → ν' 0 = ν 0 → ν' 1 = ν 1 → ν 3 < 20 → GQ h (ν 0).toNat (ν 1) (ν' 2) (ν 3 + 1) → b_gd c_K c_r245 2 42 rbl42 [] 4 ν' h3 0 0 := fun ν' h3 H3 fr g' e3 e0 e1 h20 hG' =>
      r42 m M ν' h3 g' (by omega) (by rw [e0, e1]; exact VQ_frm H fr hV) (by rw [e0, e1, e3]; exact GQ_frm H fr hG') ih
    by_cases hk : ν 3 < f.toInt
    · obtain ⟨a, a1, a2, a3⟩ := H.rdI (j := (ν 3).toNat) (lo := 0) (hi := 1) c_a769 c_q108 (by decide) (by show (ν 3).toNat < 20; omega) rfl
      have g1 := (b_setQ g (n := 3) (lo := 0) (hi := 19) (by omega) (by omega)).1
      obtain ⟨g3, x3⟩ := g1.rdI (base := (2, 365, 0)) (slot := (0, 0, 44)) (lo := 1) (hi := 20) f1 (Or.inl ⟨rfl, rfl⟩) (Or.inl ⟨rfl, rfl⟩) (by omega) f3
      by_cases ha : a.toInt = 1
      · have ha := c_is1 ha
        subst ha
        have l3 : lP h (ν 3).toNat := ⟨f, f1, by omega, a1⟩
        have g4 := g3.ad (ν' := b_nu ν 4 f.toInt) (E' := []) (F' := [((2, 769, 0), (1, 3, 0), (0, 0, 1))]) (C' := [(3, 4, -1)]) (fun _ _ => rfl) trivial ⟨b_fa.mk a1 (Or.inl ⟨rfl, rfl⟩) (Or.inr ⟨rfl, by decide, by show _ = b_nu ν 4 f.toInt 3 + 0; rw [yk _ 3 (by decide)]; omega⟩) (Or.inl ⟨rfl, by decide⟩), trivial⟩ ⟨⟨by decide, by decide, by show b_nu ν 4 f.toInt 3 ≤ b_nu ν 4 f.toInt 4 + (-1); rw [yk _ 3 (by decide), b_nu_n]; omega⟩, trivial⟩
        refine b_gd.more (N' := 5) (ν' := b_nu ν 4 f.toInt) ⟨by decide, fun k hk => yk _ k hk⟩ (by decide) ?_
        refine b_gd.sg (S := rG) c_hJ rO rGC rfl (by decide) (by decide) (g4.wk (by decide)) (b_al.c ?_ b_al.n)
        intro ν5 h5 x5 g5
        refine b_pq.to rfl ?_
        have w : ∀ k, k < 4 → ν5 k = ν k := fun k hk => (x5.2 k (by show k < 5; omega)).trans (yk _ k hk)
        have fr5 := g5.2.2.2.2.2
        have H5 := g5.2.2.2.2.1
        intro al st hl hst
        obtain ⟨v1, t1, rfl, b1, c1⟩ := hst.inv
        obtain ⟨v2, t2, rfl, b2, c2⟩ := c1.inv
        obtain ⟨v3, t3, rfl, b3, c3⟩ := c2.inv
        obtain ⟨v4, t4, rfl, b4, c4⟩ := c3.inv
        obtain rfl := c4.inv0
        obtain ⟨k, rfl, k1⟩ := b1.int (by show 1 < 2; decide)
        obtain ⟨s, rfl, s1⟩ := b2.int (by show 1 < 2; decide)
        obtain ⟨r3, rfl, r4⟩ := b3.ref (Or.inl rfl)
        obtain ⟨two, rfl, d1⟩ := b4.int (by show 0 < 2; decide)
        have k1 := k1.v
        have s1 := s1.v
        have r4 := r4.k
        have d1 := d1.k
        subst r4
        have w0 := w 0 (by decide)
        have w1 := w 1 (by decide)
        have w2 := w 2 (by decide)
        have w3 := w 3 (by decide)
        obtain ⟨r, y1, x, h6, y2, y3, y4, y5, y6, y7⟩ := fs H5 (s := s) (g := k) (by omega) (by omega)
        subst y2
        have fr6 := b_frm.tr fr5 y6 (W'' := []) (fun w hw => hw) (fun w hw => hw)
        obtain ⟨vs, hh⟩ := c_o365 H5
        have ez : (two * x).toInt = 2 * x.toInt := by rw [Int32.toInt_mul, d1, b_bm (by omega) (by omega)]
        have es : s.toInt.toNat = (ν 0).toNat := by omega
        have ek : k.toInt.toNat = (ν 3).toNat := by omega
        -- firsts' count, at h
        have cnt : (c_cnt (fun j => jn h (ν 0).toNat j ∧ only h (ν 0).toNat j (ν 3).toNat) 5 : Int) ≤ x.toInt := by
          rw [es, ek] at y7
          rw [← c_cnt_eq (p := fun j => jn h5 (ν 0).toNat j ∧ only h5 (ν 0).toNat j (ν 3).toNat) (q := fun j => jn h (ν 0).toNat j ∧ only h (ν 0).toNat j (ν 3).toNat) fun j _ => and_congr (jn_iff H fr5 rfl) (only_iff H fr5)]
          exact y7
        have hz : ∀ n, n < 5 → b_nu ν5 5 (two * x).toInt n = ν5 n := fun n hn => if_neg (Nat.ne_of_lt hn)
        have g6 : b_G c_K (b_nu ν5 5 (two * x).toInt) h6 h6 ([(0, 0, 4), (0, 0, 5), (0, -1, 19), (0, 0, 19), (0, 1, 20), (0, 0, 10)], [], [], [], []) := by
          have g6 : b_G c_K ν5 h6 h6 (rG.2.1.2.2.1, [], [], [], []) := ⟨g5.1, (fun f hf => by cases hf), (fun f hf => by cases hf), (fun f hf => by cases hf), y5, b_frm.rf⟩
          exact g6.ad (ν' := b_nu ν5 5 (two * x).toInt) (E' := [(0, 0, 10)]) (F' := []) (C' := []) hz ⟨by show b_q _ _ (b_nu ν5 5 (two * x).toInt 5); rw [b_nu_n]; exact b_q.i (by omega) (by omega), trivial⟩ trivial trivial
        have cont : b_gd c_K c_r245 2 70 rbl42 [(1, 5, 0)] 6 (b_nu ν5 5 (two * x).toInt) h6 0 0 := by
          by_cases hle : (two * x).toInt ≤ ν 1
          · by_cases hg : ν 2 = -1
            · have g7 := (b_setQ g6 (n := 2) (lo := -1) (hi := -1) (by rw [hz 2 (by decide)]; omega) (by rw [hz 2 (by decide)]; omega)).1.ad (ν' := b_nu ν5 5 (two * x).toInt) (E' := []) (F' := []) (C' := [(5, 1, 0)]) (fun _ _ => rfl) trivial trivial ⟨⟨by decide, by decide, by show b_nu ν5 5 (two * x).toInt 5 ≤ b_nu ν5 5 (two * x).toInt 1 + 0; rw [hz 1 (by decide), b_nu_n]; omega⟩, trivial⟩
              refine b_gd.cv (G := ([(0, 0, 4), (0, 0, 5), (0, -1, -1), (0, 0, 19), (0, 1, 20), (0, 0, 10)], [], [(5, 1, 0)], [], [])) (T := (rI.2.1.2.2.1, [], [(4, 1, 0)])) (bl := rI.2.1.1) (bs := rI.2.1.2.1) (σ := [(1, 0, 0), (1, 1, 0), (1, 2, 0), (1, 3, 0), (1, 5, 0)]) (by decide +kernel) g7 (fun g8 => ?_)
              refine b_gd.sg (S := rI) c_hJ rO rIC rfl (by decide) (by decide) g8 (b_al.c ?_ b_al.n)
              intro ν9 h9 x9 g9
              refine b_pq.to rfl ?_
              have u0 : ν9 0 = ν 0 := (x9.2 0 (by decide)).trans (by show b_nu ν5 5 (two * x).toInt 0 + 0 = _; rw [hz 0 (by decide)]; omega)
              have u1 : ν9 1 = ν 1 := (x9.2 1 (by decide)).trans (by show b_nu ν5 5 (two * x).toInt 1 + 0 = _; rw [hz 1 (by decide)]; omega)
              have u3 : ν9 3 = ν 3 := (x9.2 3 (by decide)).trans (by show b_nu ν5 5 (two * x).toInt 3 + 0 = _; rw [hz 3 (by decide)]; omega)
              have fr9 := b_frm.tr fr6 g9.2.2.2.2.2 (W'' := []) (fun w hw => hw) (fun w hw => hw)
              refine b_gd.cv (G := (rI.2.1.2.2.1, [], [], [], [])) (T := (rE42, [], [])) (bl := rbl42) (bs := []) (σ := [(1, 0, 0), (1, 1, 0), (1, 3, 0), (1, 3, 1)]) (by decide +kernel) g9.bare (fun g10 => ?_)
              refine again _ h9 g9.2.2.2.2.1 fr9 g10 (by show ν9 3 + 1 = _; omega) (by show ν9 0 + 0 = _; omega) (by show ν9 1 + 0 = _; omega) (by omega) ?_
              rw [show b_vT [(1, 0, 0), (1, 1, 0), (1, 3, 0), (1, 3, 1)] ν9 2 = ν 3 by show ν9 3 + 0 = _; omega]
              exact Or.inr ⟨iv3.1, l3, by omega⟩
            · have hG2 := hG.resolve_left fun q => hg q.1
              have g7 := (b_setQ g6 (n := 2) (lo := 0) (hi := 19) (by rw [hz 2 (by decide)]; omega) (by rw [hz 2 (by decide)]; omega)).1.ad (ν' := b_nu ν5 5 (two * x).toInt) (E' := []) (F' := []) (C' := [(5, 1, 0)]) (fun _ _ => rfl) trivial trivial ⟨⟨by decide, by decide, by show b_nu ν5 5 (two * x).toInt 5 ≤ b_nu ν5 5 (two * x).toInt 1 + 0; rw [hz 1 (by decide), b_nu_n]; omega⟩, trivial⟩
              refine b_gd.cv (G := ([(0, 0, 4), (0, 0, 5), (0, 0, 19), (0, 0, 19), (0, 1, 20), (0, 0, 10)], [], [(5, 1, 0)], [], [])) (T := (rJ.2.1.2.2.1, [], [(4, 1, 0)])) (bl := rJ.2.1.1) (bs := rJ.2.1.2.1) (σ := [(1, 0, 0), (1, 1, 0), (1, 2, 0), (1, 3, 0), (1, 5, 0)]) (by decide +kernel) g7 (fun g8 => ?_)
              refine b_gd.sg (S := rJ) c_hJ rO rJC rfl (by decide) (by decide) g8 (b_al.c ?_ (b_al.c ?_ b_al.n))
              · intro ν9 h9 x9 g9
                refine b_pq.to rfl ?_
                have u0 : ν9 0 = ν 0 := (x9.2 0 (by decide)).trans (by show b_nu ν5 5 (two * x).toInt 0 + 0 = _; rw [hz 0 (by decide)]; omega)
                have u1 : ν9 1 = ν 1 := (x9.2 1 (by decide)).trans (by show b_nu ν5 5 (two * x).toInt 1 + 0 = _; rw [hz 1 (by decide)]; omega)
                have u3 : ν9 3 = ν 3 := (x9.2 3 (by decide)).trans (by show b_nu ν5 5 (two * x).toInt 3 + 0 = _; rw [hz 3 (by decide)]; omega)
                have fr9 := b_frm.tr fr6 g9.2.2.2.2.2 (W'' := []) (fun w hw => hw) (fun w hw => hw)
                refine b_gd.cv (G := (rJ.2.1.2.2.1, [], [], [], [])) (T := (rE42, [], [])) (bl := rbl42) (bs := []) (σ := [(1, 0, 0), (1, 1, 0), (1, 3, 0), (1, 3, 1)]) (by decide +kernel) g9.bare (fun g10 => ?_)
                refine again _ h9 g9.2.2.2.2.1 fr9 g10 (by show ν9 3 + 1 = _; omega) (by show ν9 0 + 0 = _; omega) (by show ν9 1 + 0 = _; omega) (by omega) ?_
                rw [show b_vT [(1, 0, 0), (1, 1, 0), (1, 3, 0), (1, 3, 1)] ν9 2 = ν 3 by show ν9 3 + 0 = _; omega]
                exact Or.inr ⟨iv3.1, l3, by omega⟩
              · intro ν9 h9 x9 g9
                refine b_pq.to rfl ?_
                have u0 : ν9 0 = ν 0 := (x9.2 0 (by decide)).trans (by show b_nu ν5 5 (two * x).toInt 0 + 0 = _; rw [hz 0 (by decide)]; omega)
                have u1 : ν9 1 = ν 1 := (x9.2 1 (by decide)).trans (by show b_nu ν5 5 (two * x).toInt 1 + 0 = _; rw [hz 1 (by decide)]; omega)
                have u2 : ν9 2 = ν 2 := (x9.2 2 (by decide)).trans (by show b_nu ν5 5 (two * x).toInt 2 + 0 = _; rw [hz 2 (by decide)]; omega)
                have u3 : ν9 3 = ν 3 := (x9.2 3 (by decide)).trans (by show b_nu ν5 5 (two * x).toInt 3 + 0 = _; rw [hz 3 (by decide)]; omega)
                have fr9 := b_frm.tr fr6 g9.2.2.2.2.2 (W'' := []) (fun w hw => hw) (fun w hw => hw)
                refine b_gd.cv (G := (rJ.2.1.2.2.1, [], [], [], [])) (T := (rE42, [], [])) (bl := rbl42) (bs := []) (σ := [(1, 0, 0), (1, 1, 0), (1, 2, 0), (1, 3, 1)]) (by decide +kernel) g9.bare (fun g10 => ?_)
                refine again _ h9 g9.2.2.2.2.1 fr9 g10 (by show ν9 3 + 1 = _; omega) (by show ν9 0 + 0 = _; omega) (by show ν9 1 + 0 = _; omega) (by omega) ?_
                rw [show b_vT [(1, 0, 0), (1, 1, 0), (1, 2, 0), (1, 3, 1)] ν9 2 = ν 2 by show ν9 2 + 0 = _; omega]
                exact Or.inr hG2
          · have g7 := g6.ad (ν' := b_nu ν5 5 (two * x).toInt) (E' := []) (F' := []) (C' := [(1, 5, -1)]) (fun _ _ => rfl) trivial trivial ⟨⟨by decide, by decide, by show b_nu ν5 5 (two * x).toInt 1 ≤ b_nu ν5 5 (two * x).toInt 5 + (-1); rw [hz 1 (by decide), b_nu_n]; omega⟩, trivial⟩
            refine b_gd.cv (G := ([(0, 0, 4), (0, 0, 5), (0, -1, 19), (0, 0, 19), (0, 1, 20), (0, 0, 10)], [], [(1, 5, -1)], [], [])) (T := (rH.2.1.2.2.1, [], [(1, 4, -1)])) (bl := rH.2.1.1) (bs := rH.2.1.2.1) (σ := [(1, 0, 0), (1, 1, 0), (1, 2, 0), (1, 3, 0), (1, 5, 0)]) (by decide +kernel) g7 (fun g8 => ?_)
            refine b_gd.sg (S := rH) c_hJ rO rHC rfl (by decide) (by decide) g8 (b_al.c ?_ b_al.n)
            intro ν9 h9 x9 g9
            exact b_pq.int (lo := 0) (hi := 19) (by decide) g9
        obtain ⟨r, r1, r2⟩ := cont al [.int (two * x)] (hl.ext b_nu_ext) (b_S.cons (v := .int (two * x)) (Or.inr ⟨rfl, by decide, by show _ = b_nu ν5 5 (two * x).toInt 5 + 0; rw [b_nu_n]; omega⟩) b_S.nil)
        refine ⟨r, b_R.cal rI66 rfl rfl (c_calV (k := 3) rI66c c_n239.1 c_n239.2 (by show 3 ≤ 4; decide) (Nat.le_of_ble_eq_true rfl) rfl hh) y1 (b_R.stp rI69 rfl rfl rfl (a_by2 rfl rfl) r1), (r2.cut (W := []) y6 (fun w hw => by cases hw)).ext (N := 6) ⟨by decide, fun n hn => hz n (by have hn : n < 1 := hn; omega)⟩⟩
      · have ha0 := c_is0 (show a.toInt = 0 by omega)
        subst ha0
        have g4 := g3.ad (ν' := b_nu ν 4 f.toInt) (E' := []) (F' := [((2, 769, 0), (1, 3, 0), (0, 0, 0))]) (C' := [(3, 4, -1)]) (fun _ _ => rfl) trivial ⟨b_fa.mk a1 (Or.inl ⟨rfl, rfl⟩) (Or.inr ⟨rfl, by decide, by show _ = b_nu ν 4 f.toInt 3 + 0; rw [yk _ 3 (by decide)]; omega⟩) (Or.inl ⟨rfl, by decide⟩), trivial⟩ ⟨⟨by decide, by decide, by show b_nu ν 4 f.toInt 3 ≤ b_nu ν 4 f.toInt 4 + (-1); rw [yk _ 3 (by decide), b_nu_n]; omega⟩, trivial⟩
        refine b_gd.more (N' := 5) (ν' := b_nu ν 4 f.toInt) ⟨by decide, fun k hk => yk _ k hk⟩ (by decide) ?_
        refine b_gd.sg (S := rF) c_hJ rO rFC rfl (by decide) (by decide) (g4.wk (by decide)) (b_al.c ?_ b_al.n)
        intro ν5 h5 x5 g5
        refine b_pq.to rfl ?_
        have w : ∀ k, k < 4 → ν5 k = ν k := fun k hk => (x5.2 k (by show k < 5; omega)).trans (yk _ k hk)
        have w0 := w 0 (by decide)
        have w1 := w 1 (by decide)
        have w2 := w 2 (by decide)
        have w3 := w 3 (by decide)
        refine b_gd.cv (T := (rE42, [], [])) (bl := rbl42) (bs := []) (σ := [(1, 0, 0), (1, 1, 0), (1, 2, 0), (1, 3, 1)]) (by decide +kernel) g5 (fun g6 => ?_)
        refine again _ h5 g5.2.2.2.2.1 g5.2.2.2.2.2 g6 (by show ν5 3 + 1 = _; omega) (by show ν5 0 + 0 = _; omega) (by show ν5 1 + 0 = _; omega) (by omega) ?_
        rw [show b_vT [(1, 0, 0), (1, 1, 0), (1, 2, 0), (1, 3, 1)] ν5 2 = ν 2 by show ν5 2 + 0 = _; omega]
        rcases hG with ⟨q1, q2⟩ | q
        · refine Or.inl ⟨q1, fun i hi p => ?_⟩
          by_cases e : (i : Int) < ν 3
          · exact q2 i e p
          · obtain ⟨r, p1, p2, p3⟩ := p
            rw [show i = (ν 3).toNat by omega, a1] at p3
            cases p3
        · exact Or.inr q
    · have hG2 : 0 ≤ ν 2 ∧ lP h (ν 2).toNat ∧ 2 * (c_cnt (fun j => jn h (ν 0).toNat j ∧ only h (ν 0).toNat j (ν 2).toNat) 5 : Int) ≤ ν 1 := by
        rcases hG with ⟨q1, q2⟩ | q
        · obtain ⟨-, ⟨j, -, k, p⟩, -⟩ := hV
          have l := oL_lP H p
          obtain ⟨r, p1, p2, p3⟩ := l
          rw [f1] at p1
          cases p1
          exact absurd ⟨f, f1, p2, p3⟩ (q2 k (by omega))
        · exact q
      have g1 := (b_setQ g (n := 2) (lo := 0) (hi := 19) hG2.1 (by omega)).1
      obtain ⟨g3, x3⟩ := g1.rdI (base := (2, 365, 0)) (slot := (0, 0, 44)) (lo := 0) (hi := 20) f1 (Or.inl ⟨rfl, rfl⟩) (Or.inl ⟨rfl, rfl⟩) f2 f3
      have g4 := g3.ad (ν' := b_nu ν 4 f.toInt) (E' := []) (F' := []) (C' := [(4, 3, 0)]) (fun _ _ => rfl) trivial trivial ⟨⟨by decide, by decide, by show b_nu ν 4 f.toInt 4 ≤ b_nu ν 4 f.toInt 3 + 0; rw [yk _ 3 (by decide), b_nu_n]; omega⟩, trivial⟩
      refine b_gd.more (N' := 5) (ν' := b_nu ν 4 f.toInt) ⟨by decide, fun k hk => yk _ k hk⟩ (by decide) ?_
      refine b_gd.sg (S := rE) c_hJ rO rEC rfl (by decide) (by decide) (g4.wk (by decide)) (b_al.c ?_ b_al.n)
      intro ν5 h5 x5 g5
      refine b_pq.to rfl ?_
      have w : ∀ k, k < 4 → ν5 k = ν k := fun k hk => (x5.2 k (by show k < 5; omega)).trans (yk _ k hk)
      have fr5 := g5.2.2.2.2.2
      have gq := GQ_frm H fr5 (k := 0) (Or.inr hG2)
      refine r116 g5.bare (by rw [w 0 (by decide), w 1 (by decide)]; exact VQ_frm H fr5 hV) (by rw [w 2 (by decide)]; exact (lP_iff H fr5).mpr hG2.2.1) ?_ ih
      rw [w 0 (by decide), w 1 (by decide), w 2 (by decide)]
      rcases gq with q | q
      · omega
      · exact q.2.2
theorem r4 : ∀ (m M : Nat) (ν : BN) (h : AH), b_G c_K ν h h (rB.2.1.2.2.1, [], [], [], []) → ν 1 ≤ ν 2 → (5 - ν 2).toNat < m → ν 1 = (c_cnt (hasL h (ν 0).toNat) (ν 2).toNat : Int) → (∃ j, hasL h (ν 0).toNat j) → c_cnt (lP h) 20 ≤ M → (∀ (ν' : BN) (h' : AH), b_G c_K ν' h' h' (rA.2.1.2.2.1, [], [], [], []) → c_cnt (lP h') 20 < M → (∃ j, hasL h' (ν' 0).toNat j) → b_gd c_K c_r245 2 0 rA.2.1.1 [] rA.2.1.2.2.1.length ν' h' 0 0) → b_gd c_K c_r245 2 4 rB.2.1.1 [] rB.2.1.2.2.1.length ν h 0 0
  | 0, M, ν, h, g, _, hm, _, _, _, _ => absurd hm (Nat.not_lt_zero _)
  | m + 1, M, ν, h, g, h12, hm, hc, hj, hM, ih => by
    have H := g.2.2.2.2.1
    have iv0 := g.iv 0 (lo := 0) (hi := 4) rfl
    have iv2 := g.iv 2 (lo := 0) (hi := 5) rfl
    have g0 := g.ad (ν' := ν) (E' := []) (F' := []) (C' := [(1, 2, 0)]) (fun _ _ => rfl) trivial trivial ⟨⟨by decide, by decide, by show ν 1 ≤ ν 2 + 0; omega⟩, trivial⟩
    refine b_gd.sg c_hJ rO rBC rfl (by decide) (by decide) (g0.wk (by decide)) (b_al.c ?_ (b_al.c ?_ b_al.n))
    · intro ν1 h1 x1 g1
      refine b_pq.to rfl ?_
      have m0 := x1.2 0 (by decide)
      have m1 := x1.2 1 (by decide)
      have m2 := x1.2 2 (by decide)
      have k3 : ν1 3 ≤ ν1 2 + 0 := g1.co (by decide)
      have fr1 := g1.2.2.2.2.2
      have H1 := g1.2.2.2.2.1
      obtain ⟨z, z1, z2⟩ := g1.rd (a := 619) (n := 0) (m := 3) (k := 0) (k' := 0) (by rfl) (j := (ν 0).toNat) (by omega)
      rw [fr1.k H c_a619 c_q89 (by decide) rfl] at z1
      have c1 := c_cnt_hi (p := hasL h (ν 0).toNat) (n := (ν 2).toNat) (m := 5) (fun j h1 h2 q => by
        obtain ⟨⟨z', q1, q2⟩, -⟩ := q
        rw [z1] at q1
        cases q1
        omega)
      have c2 : c_cnt (hasL h (ν 0).toNat) (ν 2).toNat ≤ c_cnt (hasL h (ν 0).toNat) 5 := c_cnt_mono (by omega)
      refine b_gd.cv (T := (rD.2.1.2.2.1, [], [])) (bl := rD.2.1.1) (bs := []) (σ := [(1, 0, 0), (1, 1, 0)]) (by decide +kernel) g1 (fun g2 => ?_)
      refine b_gd.sg (S := rD) c_hJ rO rDC rfl (by decide) (by decide) g2 (b_al.c ?_ b_al.n)
      intro ν3 h3 x3 g3
      refine b_pq.to rfl ?_
      have fr3 := b_frm.tr fr1 g3.2.2.2.2.2 (W'' := []) (fun w hw => hw) (fun w hw => hw)
      have n0 : ν3 0 = ν 0 := (x3.2 0 (by decide)).trans (by show ν1 0 + 0 = _; omega)
      have n1 : ν3 1 = ν 1 := (x3.2 1 (by decide)).trans (by show ν1 1 + 0 = _; omega)
      refine b_gd.cv (T := (rE42, [], [])) (bl := rbl42) (bs := []) (σ := [(1, 0, 0), (1, 1, 0), (0, 0, -1), (0, 0, 0)]) (by decide +kernel) g3 (fun g4 => ?_)
      have u0 : b_vT [(1, 0, 0), (1, 1, 0), (0, 0, -1), (0, 0, 0)] ν3 0 = ν 0 := by show ν3 0 + 0 = _; omega
      have u1 : b_vT [(1, 0, 0), (1, 1, 0), (0, 0, -1), (0, 0, 0)] ν3 1 = ν 1 := by show ν3 1 + 0 = _; omega
      refine r42 _ M _ h3 g4 (Nat.lt_succ_self _) ?_ (Or.inl ⟨rfl, fun f hf => ?_⟩) ih
      · rw [u0, u1]
        exact VQ_frm H fr3 ⟨by omega, hj, hM⟩
      · have hf : (f : Int) < 0 := hf
        omega
    · intro ν1 h1 x1 g1
      refine b_pq.to rfl ?_
      have m0 := x1.2 0 (by decide)
      have m1 := x1.2 1 (by decide)
      have m2 := x1.2 2 (by decide)
      have k1 : ν1 3 ≤ ν1 1 + 0 := g1.co (by decide)
      have k2 : ν1 1 ≤ ν1 3 + 0 := g1.co (by decide)
      have k3 : ν1 4 ≤ ν1 2 + 0 := g1.co (by decide)
      have k4 : ν1 2 ≤ ν1 4 + 0 := g1.co (by decide)
      have k5 : ν1 4 ≤ ν1 5 + (-1) := g1.co (by decide)
      have iv3 := g1.iv 3 (lo := 0) (hi := 4) rfl
      have iv4 := g1.iv 4 (lo := 0) (hi := 4) rfl
      have fr1 := g1.2.2.2.2.2
      have H1 := g1.2.2.2.2.1
      obtain ⟨z, z1, z2⟩ := g1.rd (a := 619) (n := 0) (m := 5) (k := 0) (k' := 0) (by rfl) (j := (ν 0).toNat) (by omega)
      intro al st hl hst
      obtain ⟨v1, t1, rfl, b1, c1⟩ := hst.inv
      obtain ⟨v2, t2, rfl, b2, c2⟩ := c1.inv
      obtain ⟨v3, t3, rfl, b3, c3⟩ := c2.inv
      obtain ⟨v4, t4, rfl, b4, c4⟩ := c3.inv
      obtain rfl := c4.inv0
      obtain ⟨j, rfl, j1⟩ := b1.int (by show 1 < 2; decide)
      obtain ⟨s, rfl, s1⟩ := b2.int (by show 1 < 2; decide)
      obtain ⟨r3, rfl, r4'⟩ := b3.ref (Or.inl rfl)
      obtain ⟨w, rfl, w1⟩ := b4.int (by show 1 < 2; decide)
      have j1 := j1.v
      have s1 := s1.v
      have w1 := w1.v
      have r4' := r4'.k
      subst r4'
      obtain ⟨x, h3, y1, y2, y3, y4, y5, y6, y7⟩ := fo H1 (s := s) (j := j) (by omega) (by omega)
      obtain ⟨vs, hh⟩ := c_o365 H1
      have fr3 := b_frm.tr fr1 y5 (W'' := []) (fun w hw => hw) (fun w hw => hw)
      have es : s.toInt.toNat = (ν 0).toNat := by omega
      have ej : j.toInt.toNat = (ν 2).toNat := by omega
      rw [es, ej] at y6 y7
      have hx : ∀ n, n < 6 → b_nu ν1 6 x.toInt n = ν1 n := fun n hn => if_neg (Nat.ne_of_lt hn)
      have iff : 0 ≤ x.toInt ↔ hasL h (ν 0).toNat (ν 2).toNat := by
        refine ⟨fun p => (hasL_iff H fr1).mp ⟨⟨z, z1, by omega⟩, _, y6 p⟩, fun p => ?_⟩
        obtain ⟨-, f, q⟩ := (hasL_iff H fr1).mpr p
        exact y7 f q
      have again : ∀ (b : Nat) (ν3 : BN) (h4 : AH), b_frm c_K [] h3 h4 → b_G c_K ν3 h4 h4 (rB.2.1.2.2.1, [], [], [], []) → ν3 0 = ν 0 → ν3 1 = ν 1 + b → ν3 2 = ν 2 + 1 → b ≤ 1 → (b = 1 ↔ hasL h (ν 0).toNat (ν 2).toNat) → b_gd c_K c_r245 2 4 rB.2.1.1 [] rB.2.1.2.2.1.length ν3 h4 0 0 := by
        intro b ν3 h4 fr4 g4 z0 z1 z2 hb hb1
        have fr5 := b_frm.tr fr3 fr4 (W'' := []) (fun w hw => hw) (fun w hw => hw)
        refine r4 m M ν3 h4 g4 (by omega) (by omega) ?_ (by rw [z0]; exact hj.imp fun k => (hasL_iff H fr5).mpr) (by rw [c_cnt_eq (p := lP h4) (q := lP h) fun k _ => lP_iff H fr5]; exact hM) ih
        rw [z0, z1, z2, show (ν 2 + 1).toNat = (ν 2).toNat + 1 by omega, c_cnt_eq (p := hasL h4 (ν 0).toNat) (q := hasL h (ν 0).toNat) fun k _ => hasL_iff H fr5]
        by_cases q : hasL h (ν 0).toNat (ν 2).toNat
        · rw [c_cnt_s.1 q]
          have := hb1.mpr q
          omega
        · rw [c_cnt_s.2 q]
          have : b ≠ 1 := fun e => q (hb1.mp e)
          omega
      have cont : b_gd c_K c_r245 2 21 [some (2, 365, 0), some (1, 0, 0), some (1, 3, 0), some (1, 4, 0), none] [(1, 6, 0), (1, 3, 0)] 7 (b_nu ν1 6 x.toInt) h3 0 0 := by
        have g2 : b_G c_K ν1 h3 h3 (rB.2.1.2.2.1 ++ [(0, 0, 4), (0, 0, 4), (0, 1, 5)], [], [], [], []) := ⟨g1.1, (fun f hf => by cases hf), (fun f hf => by cases hf), (fun f hf => by cases hf), y4, b_frm.rf⟩
        by_cases hx0 : 0 ≤ x.toInt
        · have g3 := g2.ad (ν' := b_nu ν1 6 x.toInt) (E' := [(0, 0, 19)]) (F' := []) (C' := []) hx ⟨by show b_q _ _ (b_nu ν1 6 x.toInt 6); rw [b_nu_n]; exact b_q.i hx0 y3, trivial⟩ trivial trivial
          refine b_gd.cv (G := ([(0, 0, 4), (0, 0, 5), (0, 0, 5), (0, 0, 4), (0, 0, 4), (0, 1, 5), (0, 0, 19)], [], [], [], [])) (T := (rC1.2.1.2.2.1, [], [])) (bl := rC1.2.1.1) (bs := rC1.2.1.2.1) (σ := [(1, 0, 0), (1, 3, 0), (1, 4, 0), (1, 6, 0)]) (by decide +kernel) g3 (fun g4 => ?_)
          refine b_gd.sg (S := rC1) c_hJ rO rC1C rfl (by decide) (by decide) g4 (b_al.c ?_ b_al.n)
          intro ν3 h4 x3 g5
          refine b_pq.to rfl ?_
          have n0 : ν3 0 = ν 0 := (x3.2 0 (by decide)).trans (by show b_nu ν1 6 x.toInt 0 + 0 = _; rw [hx 0 (by decide)]; omega)
          have n1 : ν3 1 = ν 1 := (x3.2 1 (by decide)).trans (by show b_nu ν1 6 x.toInt 3 + 0 = _; rw [hx 3 (by decide)]; omega)
          have n2 : ν3 2 = ν 2 := (x3.2 2 (by decide)).trans (by show b_nu ν1 6 x.toInt 4 + 0 = _; rw [hx 4 (by decide)]; omega)
          refine b_gd.cv (T := (rB.2.1.2.2.1, [], [])) (bl := rB.2.1.1) (bs := []) (σ := [(1, 0, 0), (1, 1, 1), (1, 2, 1)]) (by decide +kernel) g5 (fun g6 => ?_)
          exact again 1 _ h4 g5.2.2.2.2.2 g6 (by show ν3 0 + 0 = _; omega) (by show ν3 1 + 1 = _; omega) (by show ν3 2 + 1 = _; omega) (by decide) ⟨fun _ => iff.mp hx0, fun _ => rfl⟩
        · have g3 := g2.ad (ν' := b_nu ν1 6 x.toInt) (E' := [(0, -1, -1)]) (F' := []) (C' := []) hx ⟨by show b_q _ _ (b_nu ν1 6 x.toInt 6); rw [b_nu_n]; exact b_q.i (by omega) (by omega), trivial⟩ trivial trivial
          refine b_gd.cv (G := ([(0, 0, 4), (0, 0, 5), (0, 0, 5), (0, 0, 4), (0, 0, 4), (0, 1, 5), (0, -1, -1)], [], [], [], [])) (T := (rC0.2.1.2.2.1, [], [])) (bl := rC0.2.1.1) (bs := rC0.2.1.2.1) (σ := [(1, 0, 0), (1, 3, 0), (1, 4, 0), (1, 6, 0)]) (by decide +kernel) g3 (fun g4 => ?_)
          refine b_gd.sg (S := rC0) c_hJ rO rC0C rfl (by decide) (by decide) g4 (b_al.c ?_ b_al.n)
          intro ν3 h4 x3 g5
          refine b_pq.to rfl ?_
          have n0 : ν3 0 = ν 0 := (x3.2 0 (by decide)).trans (by show b_nu ν1 6 x.toInt 0 + 0 = _; rw [hx 0 (by decide)]; omega)
          have n1 : ν3 1 = ν 1 := (x3.2 1 (by decide)).trans (by show b_nu ν1 6 x.toInt 3 + 0 = _; rw [hx 3 (by decide)]; omega)
          have n2 : ν3 2 = ν 2 := (x3.2 2 (by decide)).trans (by show b_nu ν1 6 x.toInt 4 + 0 = _; rw [hx 4 (by decide)]; omega)
          refine b_gd.cv (T := (rB.2.1.2.2.1, [], [])) (bl := rB.2.1.1) (bs := []) (σ := [(1, 0, 0), (1, 1, 0), (1, 2, 1)]) (by decide +kernel) g5 (fun g6 => ?_)
          exact again 0 _ h4 g5.2.2.2.2.2 g6 (by show ν3 0 + 0 = _; omega) (by show ν3 1 + 0 = _; omega) (by show ν3 2 + 1 = _; omega) (by decide) ⟨(fun e => by cases e), fun p => absurd (iff.mpr p) hx0⟩
      obtain ⟨r, r1, r2⟩ := cont al [.int x, .int w] (hl.ext b_nu_ext) (b_S.cons (v := .int x) (Or.inr ⟨rfl, by decide, by show _ = b_nu ν1 6 x.toInt 6 + 0; rw [b_nu_n]; omega⟩) (b_S.cons (v := .int w) (Or.inr ⟨rfl, by decide, by show _ = b_nu ν1 6 x.toInt 3 + 0; rw [hx 3 (by decide)]; omega⟩) b_S.nil))
      exact ⟨r, b_R.cal rI18 rfl rfl (c_calV (k := 3) rI18c c_n238.1 c_n238.2 (by show 3 ≤ 4; decide) (Nat.le_of_ble_eq_true rfl) rfl hh) (b_lim_up (k := 1) y1) r1, (r2.cut (W := []) y5 (fun w hw => by cases hw)).ext (N := 7) ⟨by decide, fun n hn => hx n (by have hn : n < 1 := hn; omega)⟩⟩
theorem r0 : ∀ (M : Nat) (ν : BN) (h : AH), b_G c_K ν h h (rA.2.1.2.2.1, [], [], [], []) → c_cnt (lP h) 20 < M → (∃ j, hasL h (ν 0).toNat j) → b_gd c_K c_r245 2 0 rA.2.1.1 [] rA.2.1.2.2.1.length ν h 0 0
  | 0, ν, h, g, hm, _ => absurd hm (Nat.not_lt_zero _)
  | M + 1, ν, h, g, hm, hj => by
    have H := g.2.2.2.2.1
    refine b_gd.sg (S := rA) c_hJ rO rAC rfl (by decide) (by decide) g (b_al.c ?_ b_al.n)
    intro ν1 h1 x1 g1
    refine b_pq.to rfl ?_
    have m0 := x1.2 0 (by decide)
    have fr1 := g1.2.2.2.2.2
    refine b_gd.cv (T := (rB.2.1.2.2.1, [], [])) (bl := rB.2.1.1) (bs := []) (σ := [(1, 0, 0), (0, 0, 0), (0, 0, 0)]) (by decide +kernel) g1 (fun g2 => ?_)
    have u0 : b_vT [(1, 0, 0), (0, 0, 0), (0, 0, 0)] ν1 0 = ν 0 := by show ν1 0 + 0 = _; omega
    exact r4 _ M _ h1 g2 (Int.le_refl _) (Nat.lt_succ_self _) rfl (by rw [u0]; exact hj.imp fun k => (hasL_iff H fr1).mpr) (by rw [c_cnt_eq (p := lP h1) (q := lP h) fun k _ => lP_iff H fr1]; omega) (fun ν' h' g' hlt hj' => r0 M ν' h' g' hlt hj')
end
