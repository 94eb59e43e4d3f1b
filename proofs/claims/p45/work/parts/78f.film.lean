/-! film: one film more, and none more is left -/
theorem fO : b_cal c_K (b_lim 1) (b_orc c_K [] 3000 1) := b_orc_ok c_hJ (fun _ h => absurd h List.not_mem_nil) 3000 1
def fA : BSg := ((168, 0), ([some (2, 365, 0), some (1, 0, 0), some (1, 1, 0), some (1, 2, 0), none], [], ([(0, 0, 65535), (0, (-2147483648), 2147483647), (0, (-2147483648), 2147483647)], [], [])), [(50, 55), (51, 0), (52, 0), (53, 0), (54, 0), (55, 0), (65, 0)], [
  (.inl (.inl (some (0, 0, 0))), ([], [], []), (0, 0)),
  (.inr (151, [some (2, 365, 0), none, none, none, none], [(1, 3, 1), (2, 365, 0)]), ([(0, 0, 19)], [((2, 365, 0), (0, 0, 44), (1, 3, 0))], []), (0, 0))])
def fAT : List BCu := [(118, [some (2, 365, 0), none, none, none, some (1, 4, 0)], ([(0, 0, 65535), (0, (-2147483648), 2147483647), (0, (-2147483648), 2147483647), (0, 0, 19), (0, 0, 8)], [((2, 365, 0), (0, 0, 44), (1, 3, 0))], []), ([(4, (-1))], 20), none)]
theorem fAC : b_rgc c_K (b_orc c_K [] 3000 1) fA fAT [151] 3000 = true := by decide +kernel
def fB : BSg := ((168, 154), ([some (2, 365, 0), none, none, none, none], [], ([(0, 0, 65535), (0, (-2147483648), 2147483647), (0, (-2147483648), 2147483647), (0, 0, 19), (0, 1, 20)], [((2, 365, 0), (0, 0, 44), (1, 4, 0))], [])), [], [
  (.inl (.inl (some (1, 4, (-1)))), ([], [], []), (0, 0))])
theorem fBC : b_sgc c_K (b_orc c_K [] 3000 1) fB [] 3000 = true := by decide +kernel
theorem fI151 : a_ins 168 151 = some (.putfield 156, 3) := by decide +kernel
theorem fI151f : a_field (a_own 168) 156 = some (12, 44) := by decide +kernel
theorem fI151t : a_fty 12 44 = .int := by decide +kernel
theorem fI151n : (a_cT 12 44).2.2.2 = false := by decide +kernel
theorem f151 {ν : BN} {h : AH} (g : b_G c_K ν h h (fA.2.1.2.2.1 ++ [(0, 0, 19)], [((2, 365, 0), (0, 0, 44), (1, 3, 0))], [], [], [])) : b_gd c_K c_r168 1 151 [some (2, 365, 0), none, none, none, none] [(1, 3, 1), (2, 365, 0)] 4 ν h 0 0 := by
  intro al st hl hs
  obtain ⟨v1, t1, rfl, a1, b1⟩ := hs.inv
  obtain ⟨v2, t2, rfl, a2, b2⟩ := b1.inv
  obtain rfl := b2.inv0
  obtain ⟨y, rfl, y1⟩ := a1.int (by show 1 < 2; decide)
  obtain ⟨a, rfl, a3⟩ := a2.ref (Or.inl rfl)
  have a3 := a3.k
  subst a3
  have y1 := y1.v
  have iv3 := g.iv 3 (lo := 0) (hi := 19) rfl
  have H := g.2.2.2.2.1
  obtain ⟨vs, u1, u2, u3⟩ := H.1 365 50 _ c_a365 c_q50
  have u1 : h[365]? = some (12, vs) := u1
  have u2 : vs.length = 56 := u2 (by decide)
  obtain ⟨x, x1, x2⟩ := g.rdF (a := 365) (j := 44) (m := 3) (k' := 0) (by rfl)
  have x1 : vs[44]? = some (.int x) := by
    unfold c_at at x1
    rw [u1] at x1
    exact x1
  have lt := (List.getElem?_eq_some_iff.mp u1).1
  have e : a_stp (a_own 168) (a_ini 168) (.putfield 156) 3 151 al [.int y, .ref 365] h = some (154, al, [], h.set 365 (12, vs.set 44 (.int y)), 0, 0) := a_by4 rfl (by
    unfold a_st4
    dsimp only
    rw [fI151f]
    dsimp only
    rw [u1]
    dsimp only
    rw [if_pos ⟨rfl, by omega, by rw [fI151t]; rfl, by rw [fI151t]; rfl, Or.inl fI151n⟩])
  have key : b_key c_K 365 44 = some (50, 44) := b_keyF c_a365 c_q50 rfl
  have J : c_J h := H.2
  have J2 : c_J (h.set 365 (12, vs.set 44 (.int y))) := by
    refine ⟨c_Ja_set J.1 (by decide), ?_⟩
    obtain ⟨-, ⟨z, q2⟩, q3⟩ := J.2
    refine ⟨⟨_, List.getElem?_set_self lt⟩, ⟨z, by rw [List.getElem?_set_ne (by decide)]; exact q2⟩, fun t t2 ms ls n f e1 e2 e3 e4 => ?_⟩
    rw [List.getElem?_set_self lt] at e1
    cases e1
    rw [List.getElem?_set_self (by omega)] at e2
    cases e2
    rw [List.getElem?_set_ne (by decide)] at e3
    have := q3 12 t2 vs ls x f u1 x1 e3 e4
    omega
  have H2 : b_H c_K (h.set 365 (12, vs.set 44 (.int y))) := ⟨H.1.put u1 (fun g' row' ty' y1' y2 y3 => by
    rw [c_a365] at y1'
    cases y1'
    rw [c_q50] at y2
    cases y2
    cases y3
    exact ⟨by show (0 : Int) ≤ y.toInt; omega, by show y.toInt ≤ 20; omega⟩), J2⟩
  have g2 : b_G c_K ν (h.set 365 (12, vs.set 44 (.int y))) (h.set 365 (12, vs.set 44 (.int y))) (fA.2.1.2.2.1 ++ [(0, 0, 19)], [], [], [], []) := ⟨g.1, (fun f hf => by cases hf), (fun f hf => by cases hf), (fun f hf => by cases hf), H2, b_frm.rf⟩
  have hy : c_at (h.set 365 (12, vs.set 44 (.int y))) 365 44 = some (.int y) := by rw [c_at_set u1 (by omega), if_pos ⟨rfl, rfl⟩]
  obtain ⟨g3, x3⟩ := g2.rdI (base := (2, 365, 0)) (slot := (0, 0, 44)) (lo := 1) (hi := 20) hy (Or.inl ⟨rfl, rfl⟩) (Or.inl ⟨rfl, rfl⟩) (by omega) (by omega)
  have k : b_gd c_K c_r168 1 154 [some (2, 365, 0), none, none, none, none] [] 4 ν (h.set 365 (12, vs.set 44 (.int y))) 0 0 := by
    refine b_gd.more (N' := 5) (ν' := b_nu ν 4 y.toInt) x3 (by decide) ?_
    refine b_gd.sg (S := fB) c_hJ fO fBC rfl (by decide) (by decide) (g3.wk (by decide)) (b_al.c ?_ b_al.n)
    intro ν5 h5 x5 g5
    exact b_pq.int (lo := 0) (hi := 19) (by decide) g5
  obtain ⟨r, r1, r2⟩ := k al [] hl b_S.nil
  exact ⟨r, b_R.stp fI151 rfl rfl rfl e r1, r2.cut (W := [(50, 44)]) (b_frm.set u1 key) (by decide)⟩
/-- JuryreelModel.film(CII)I -/
theorem c_v168 : b_valid c_K c_r168 := b_gd.valid (d := 1) rfl (by decide +kernel) fun ν h g => by
  refine b_gd.rg (S := fA) c_hJ fO fAC rfl (by decide) (by decide) g (b_al.c ?_ (b_al.c ?_ b_al.n))
  · intro ν3 h3 x3 g3
    exact b_pq.int (lo := 0) (hi := 19) (by decide) g3
  · intro ν1 h1 x1 g1
    exact b_pq.to rfl (f151 (g1.wk (by decide)))
