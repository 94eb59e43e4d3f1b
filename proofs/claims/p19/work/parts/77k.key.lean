/-! The model's key: what it answers exactly, by what is told (wip/g3/key.py) -/
def c_r199k : BRw := (199, 3, ([(2, 365, 0), (1, 0, 0), (1, 1, 0), (1, 2, 0), (1, 3, 0)], ([(0, 0, 19), (0, 0, 3), (0, 0, 49), (0, 0, 49), (0, 0, 20), (0, 0, 4), (0, 0, 59)], [((2, 365, 0), (0, 0, 44), (1, 4, 0)), ((2, 365, 0), (0, 0, 47), (1, 5, 0)), ((2, 365, 0), (0, 0, 48), (1, 6, 0))], [(0, 4, (-1)), (1, 5, (-1)), (2, 3, 0)])), [(50, 48), (50, 55), (76, 0)], [(.inl (some (1, 6, 1)), ([], [((2, 365, 0), (0, 0, 48), (1, 6, 1)), ((2, 365, 0), (0, 0, 55), (0, 0, 0))], []), (1, 4))])
def c_r199a : BRw := (199, 3, ([(2, 365, 0), (1, 0, 0), (1, 1, 0), (1, 2, 0), (1, 3, 0)], ([(0, (-2147483648), (-1)), (0, (-2147483648), 2147483647), (0, (-2147483648), 2147483647), (0, (-2147483648), 2147483647)], [], [])), [(50, 55)], [(.inl (some (0, 0, 0)), ([], [((2, 365, 0), (0, 0, 55), (0, 0, 1))], []), (0, 0))])
theorem c_v199a : b_valid c_K c_r199a := b_chk_ok c_hJ (d := 2) (F := 3000) (R := c_r199a) (cuts := []) (b_orc_ok c_hJ (tab := []) (fun _ h => absurd h List.not_mem_nil) 3000 2) rfl (by decide +kernel)
def c_r199b : BRw := (199, 3, ([(2, 365, 0), (1, 0, 0), (1, 1, 0), (1, 2, 0), (1, 3, 0)], ([(0, 0, 2147483647), (0, (-2147483648), 2147483647), (0, (-2147483648), 2147483647), (0, (-2147483648), 2147483647), (0, 0, 20)], [((2, 365, 0), (0, 0, 44), (1, 4, 0))], [(4, 0, 0)])), [(50, 55)], [(.inl (some (0, 0, 0)), ([], [((2, 365, 0), (0, 0, 55), (0, 0, 1))], []), (0, 0))])
theorem c_v199b : b_valid c_K c_r199b := b_chk_ok c_hJ (d := 2) (F := 3000) (R := c_r199b) (cuts := []) (b_orc_ok c_hJ (tab := []) (fun _ h => absurd h List.not_mem_nil) 3000 2) rfl (by decide +kernel)
def c_r199c : BRw := (199, 3, ([(2, 365, 0), (1, 0, 0), (1, 1, 0), (1, 2, 0), (1, 3, 0)], ([(0, 0, 19), (0, (-2147483648), (-1)), (0, (-2147483648), 2147483647), (0, (-2147483648), 2147483647), (0, 0, 20)], [((2, 365, 0), (0, 0, 44), (1, 4, 0))], [(0, 4, (-1))])), [(50, 55)], [(.inl (some (0, 0, 0)), ([], [((2, 365, 0), (0, 0, 55), (0, 0, 1))], []), (0, 0))])
theorem c_v199c : b_valid c_K c_r199c := b_chk_ok c_hJ (d := 2) (F := 3000) (R := c_r199c) (cuts := []) (b_orc_ok c_hJ (tab := []) (fun _ h => absurd h List.not_mem_nil) 3000 2) rfl (by decide +kernel)
def c_r199d : BRw := (199, 3, ([(2, 365, 0), (1, 0, 0), (1, 1, 0), (1, 2, 0), (1, 3, 0)], ([(0, 0, 19), (0, 0, 2147483647), (0, (-2147483648), 2147483647), (0, (-2147483648), 2147483647), (0, 0, 20), (0, 0, 4)], [((2, 365, 0), (0, 0, 44), (1, 4, 0)), ((2, 365, 0), (0, 0, 47), (1, 5, 0))], [(0, 4, (-1)), (5, 1, 0)])), [(50, 55)], [(.inl (some (0, 0, 0)), ([], [((2, 365, 0), (0, 0, 55), (0, 0, 1))], []), (0, 0))])
theorem c_v199d : b_valid c_K c_r199d := b_chk_ok c_hJ (d := 2) (F := 3000) (R := c_r199d) (cuts := []) (b_orc_ok c_hJ (tab := []) (fun _ h => absurd h List.not_mem_nil) 3000 2) rfl (by decide +kernel)
def c_r199e : BRw := (199, 3, ([(2, 365, 0), (1, 0, 0), (1, 1, 0), (1, 2, 0), (1, 3, 0)], ([(0, 0, 19), (0, 0, 3), (0, (-2147483648), (-1)), (0, (-2147483648), 2147483647), (0, 0, 20), (0, 0, 4)], [((2, 365, 0), (0, 0, 44), (1, 4, 0)), ((2, 365, 0), (0, 0, 47), (1, 5, 0))], [(0, 4, (-1)), (1, 5, (-1))])), [(50, 55)], [(.inl (some (0, 0, 0)), ([], [((2, 365, 0), (0, 0, 55), (0, 0, 2))], []), (0, 0))])
theorem c_v199e : b_valid c_K c_r199e := b_chk_ok c_hJ (d := 2) (F := 3000) (R := c_r199e) (cuts := []) (b_orc_ok c_hJ (tab := []) (fun _ h => absurd h List.not_mem_nil) 3000 2) rfl (by decide +kernel)
def c_r199f : BRw := (199, 3, ([(2, 365, 0), (1, 0, 0), (1, 1, 0), (1, 2, 0), (1, 3, 0)], ([(0, 0, 19), (0, 0, 3), (0, 50, 2147483647), (0, (-2147483648), 2147483647), (0, 0, 20), (0, 0, 4)], [((2, 365, 0), (0, 0, 44), (1, 4, 0)), ((2, 365, 0), (0, 0, 47), (1, 5, 0))], [(0, 4, (-1)), (1, 5, (-1))])), [(50, 55)], [(.inl (some (0, 0, 0)), ([], [((2, 365, 0), (0, 0, 55), (0, 0, 2))], []), (0, 0))])
theorem c_v199f : b_valid c_K c_r199f := b_chk_ok c_hJ (d := 2) (F := 3000) (R := c_r199f) (cuts := []) (b_orc_ok c_hJ (tab := []) (fun _ h => absurd h List.not_mem_nil) 3000 2) rfl (by decide +kernel)
def c_r199g : BRw := (199, 3, ([(2, 365, 0), (1, 0, 0), (1, 1, 0), (1, 2, 0), (1, 3, 0)], ([(0, 0, 19), (0, 0, 3), (0, 0, 49), (0, (-2147483648), 48), (0, 0, 20), (0, 0, 4)], [((2, 365, 0), (0, 0, 44), (1, 4, 0)), ((2, 365, 0), (0, 0, 47), (1, 5, 0))], [(0, 4, (-1)), (1, 5, (-1)), (3, 2, (-1))])), [(50, 55)], [(.inl (some (0, 0, 0)), ([], [((2, 365, 0), (0, 0, 55), (0, 0, 2))], []), (0, 0))])
theorem c_v199g : b_valid c_K c_r199g := b_chk_ok c_hJ (d := 2) (F := 3000) (R := c_r199g) (cuts := []) (b_orc_ok c_hJ (tab := []) (fun _ h => absurd h List.not_mem_nil) 3000 2) rfl (by decide +kernel)
def c_r199h : BRw := (199, 3, ([(2, 365, 0), (1, 0, 0), (1, 1, 0), (1, 2, 0), (1, 3, 0)], ([(0, 0, 19), (0, 0, 3), (0, 0, 49), (0, 50, 2147483647), (0, 0, 20), (0, 0, 4)], [((2, 365, 0), (0, 0, 44), (1, 4, 0)), ((2, 365, 0), (0, 0, 47), (1, 5, 0))], [(0, 4, (-1)), (1, 5, (-1))])), [(50, 55)], [(.inl (some (0, 0, 0)), ([], [((2, 365, 0), (0, 0, 55), (0, 0, 2))], []), (0, 0))])
theorem c_v199h : b_valid c_K c_r199h := b_chk_ok c_hJ (d := 2) (F := 3000) (R := c_r199h) (cuts := []) (b_orc_ok c_hJ (tab := []) (fun _ h => absurd h List.not_mem_nil) 3000 2) rfl (by decide +kernel)
def c_r199i : BRw := (199, 3, ([(2, 365, 0), (1, 0, 0), (1, 1, 0), (1, 2, 0), (1, 3, 0)], ([(0, 0, 19), (0, 0, 3), (0, 0, 49), (0, 0, 49), (0, 0, 20), (0, 0, 4), (0, 60, 60)], [((2, 365, 0), (0, 0, 44), (1, 4, 0)), ((2, 365, 0), (0, 0, 47), (1, 5, 0)), ((2, 365, 0), (0, 0, 48), (1, 6, 0))], [(0, 4, (-1)), (1, 5, (-1)), (2, 3, 0)])), [(50, 55)], [(.inl (some (0, 0, 0)), ([], [((2, 365, 0), (0, 0, 55), (0, 0, 3))], []), (0, 0))])
theorem c_v199i : b_valid c_K c_r199i := b_chk_ok c_hJ (d := 2) (F := 3000) (R := c_r199i) (cuts := []) (b_orc_ok c_hJ (tab := []) (fun _ h => absurd h List.not_mem_nil) 3000 2) rfl (by decide +kernel)
def kA2 : BSg := ((199, 0), ([some (2, 365, 0), some (1, 0, 0), some (1, 1, 0), some (1, 2, 0), some (1, 3, 0), none], [], ([(0, 0, 19), (0, 0, 3), (0, 0, 49), (0, 0, 49), (0, 0, 20), (0, 0, 4), (0, 0, 59)], [((2, 365, 0), (0, 0, 44), (1, 4, 0)), ((2, 365, 0), (0, 0, 47), (1, 5, 0)), ((2, 365, 0), (0, 0, 48), (1, 6, 0))], [(0, 4, (-1)), (1, 5, (-1)), (2, 3, 0)])), [(50, 55)], [
  (.inr (84, [some (2, 365, 0), some (1, 0, 0), some (1, 1, 0), some (1, 2, 0), some (1, 3, 0), none], []), ([], [((2, 365, 0), (0, 0, 48), (1, 6, 0)), ((2, 365, 0), (0, 0, 55), (0, 0, 0))], []), (0, 0))])
theorem kA2C : b_sgc c_K (b_orc c_K [] 3000 2) kA2 [84] 3000 = true := by decide +kernel
def kB2 : BSg := ((199, 106), ([some (2, 365, 0), some (1, 0, 0), some (1, 1, 0), some (1, 2, 0), some (1, 3, 0), some (3, 7, 0)], [], ([(0, 0, 19), (0, 0, 3), (0, 0, 49), (0, 0, 49), (0, 0, 20), (0, 0, 4), (0, 0, 59), (1, 1, 0)], [((2, 365, 0), (0, 0, 48), (1, 6, 0)), ((2, 365, 0), (0, 0, 55), (0, 0, 0))], [])), [], [
  (.inr (120, [some (2, 365, 0), some (1, 0, 0), some (1, 1, 0), some (1, 2, 0), some (1, 3, 0), none], [(0, 0, 4), (0, 0, 0), (3, 8, 0), (0, 0, 0), (3, 7, 0)]), ([(77, 0, 0)], [((2, 365, 0), (0, 0, 48), (1, 6, 0)), ((2, 365, 0), (0, 0, 55), (0, 0, 0))], []), (0, 0))])
theorem kB2C : b_sgc c_K (b_orc c_K [] 3000 2) kB2 [120] 3000 = true := by decide +kernel
def kC2 : BSg := ((199, 123), ([some (2, 365, 0), some (1, 0, 0), some (1, 1, 0), some (1, 2, 0), some (1, 3, 0), none], [], ([(0, 0, 19), (0, 0, 3), (0, 0, 49), (0, 0, 49), (0, 0, 20), (0, 0, 4), (0, 0, 59), (1, 1, 0), (77, 0, 0)], [((2, 365, 0), (0, 0, 48), (1, 6, 0)), ((2, 365, 0), (0, 0, 55), (0, 0, 0))], [])), [(50, 48)], [
  (.inl (.inl (some (1, 6, 1))), ([], [((2, 365, 0), (0, 0, 48), (1, 6, 1)), ((2, 365, 0), (0, 0, 55), (0, 0, 0))], []), (0, 0))])
theorem kC2C : b_sgc c_K (b_orc c_K [] 3000 2) kC2 [] 3000 = true := by decide +kernel
/-- the end -/
theorem kEnd {ν : BN} {h h0 : AH} {W : BW} {F : BF} {C : BC} {N : Nat} {E : BQ} (g : b_G c_K ν h0 h (E, F, C, [], W)) (e0 : E.take 7 = c_r199k.2.2.1.2.1) (f1 : F.contains ((2, 365, 0), (0, 0, 48), (1, 6, 1)) = true) (f2 : F.contains ((2, 365, 0), (0, 0, 55), (0, 0, 0)) = true) : ∀ r : AR, b_fin N ν (.inl (some (1, 6, 1))) r.1 → r.2.1 = h → r.2.2 = (1, 4) → b_post c_K c_r199k ν h r := by
  intro r r1 r2 r3
  obtain ⟨x, x1, x2⟩ := (g.fa ((2, 365, 0), (0, 0, 48), (1, 6, 1)) f1).atI (a := 365) (j := 48) (Or.inl ⟨rfl, rfl⟩) (Or.inl ⟨rfl, rfl⟩) (by show 1 < 2; decide)
  obtain ⟨y, y1, y2⟩ := (g.fa ((2, 365, 0), (0, 0, 55), (0, 0, 0)) f2).atI (a := 365) (j := 55) (Or.inl ⟨rfl, rfl⟩) (Or.inl ⟨rfl, rfl⟩) (by show 0 < 2; decide)
  refine ⟨_, List.mem_cons_self, ν, ⟨by decide, fun _ _ => rfl⟩, ?_, ⟨g.1.pre (E0 := c_r199k.2.2.1.2.1) e0, fun f hf => ?_, (fun f hf => by cases hf), (fun f hf => by cases hf), by rw [r2]; exact g.2.2.2.2.1, by rw [r2]; exact b_frm.rf.mono (fun w hw => by cases hw)⟩, r3⟩
  · cases hr : r.1 with
    | inr k' => rw [hr] at r1; exact r1.elim
    | inl v =>
      rw [hr] at r1
      cases v with
      | none => exact r1.elim
      | some v =>
        obtain ⟨z, rfl, hz⟩ := b_v.int (b := (1, 6, 1)) r1 (by decide)
        exact Or.inr ⟨rfl, by decide, hz.v⟩
  · rw [r2]
    have hf : f ∈ ([((2, 365, 0), (0, 0, 48), (1, 6, 1)), ((2, 365, 0), (0, 0, 55), (0, 0, 0))] : BF) := hf
    simp only [List.mem_cons, List.not_mem_nil, or_false] at hf
    rcases hf with rfl | rfl
    · exact b_fa.mk x1 (Or.inl ⟨rfl, rfl⟩) (Or.inl ⟨rfl, rfl⟩) (Or.inr ⟨rfl, by decide, x2.v⟩)
    · exact b_fa.mk y1 (Or.inl ⟨rfl, rfl⟩) (Or.inl ⟨rfl, rfl⟩) (Or.inl ⟨rfl, y2.k⟩)
theorem k106b {ν : BN} {h : AH} {a : Nat} {vs : List Value} (g : b_G c_K ν h h (kB2.2.1.2.2.1, kB2.2.1.2.2.2.1, [], [], [])) (ha : (a : Int) = ν 7) (h1 : h[a]? = some (20, vs)) (h2 : vs.length = 4) (h3 : ∀ v ∈ vs, ∃ x : Int32, v = .int x ∧ 0 ≤ x.toInt ∧ x.toInt ≤ 49) : b_gd c_K c_r199k 2 106 kB2.2.1.1 [] kB2.2.1.2.2.1.length ν h 1 4 := by
  refine b_gd.sg c_hJ kO kB2C rfl (by decide) (by decide) g (b_al.c ?_ b_al.n)
  intro ν1 h1' x1 g1
  refine b_pq.to rfl ?_
  have f1 := g1.2.2.2.2.2
  have t1 : h1'[a]? = some (20, vs) := by
    obtain ⟨us, u1, u2, u3⟩ := f1 a _ h1
    rw [u1, show us = vs from List.ext_getElem? fun j => u3 j (fun w hw => by cases hw)]
  have n1 : ν1 7 = ν 7 := x1.2 7 (by decide)
  refine b_gd.acp c_hJ (gg := 76) (lo := 0) (hi := 49) (n := 4) (by decide +kernel) (by decide +kernel) (by decide +kernel) (by rfl) (by decide) (by decide) rfl (fun aa haa => ⟨vs, ?_, h2, h3⟩) rfl (by decide) g1.here (fun b us g2 => ?_) rfl
  · have e : aa = a := by have := haa.v; omega
    rw [e]; exact t1
  · refine b_gd.sg (S := kC2) c_hJ kO kC2C rfl (by decide) (by decide) (g2.wk (by decide +kernel)) (b_al.c ?_ b_al.n)
    intro ν3 h3' x3 g4
    exact kEnd g4 (by decide) (by decide) (by decide)
theorem k84b {ν : BN} {h : AH} (g : b_G c_K ν h h ([(0, 0, 19), (0, 0, 3), (0, 0, 49), (0, 0, 49), (0, 0, 20), (0, 0, 4), (0, 0, 59)], [((2, 365, 0), (0, 0, 48), (1, 6, 0)), ((2, 365, 0), (0, 0, 55), (0, 0, 0))], [], [], [])) : b_gd c_K c_r199k 2 84 [some (2, 365, 0), some (1, 0, 0), some (1, 1, 0), some (1, 2, 0), some (1, 3, 0), none] [] 7 ν h 0 0 := by
  intro al st hl hs
  obtain rfl := hs.inv0
  obtain ⟨v0, a0, b0⟩ := hl.2 1 (1, 0, 0) rfl
  obtain ⟨f0, rfl, e0⟩ := b0.int (by show 1 < 2; decide)
  have i0 := g.iv 0 (lo := 0) (hi := 19) rfl
  have w0 := e0.v
  obtain ⟨v1, a1, b1⟩ := hl.2 2 (1, 1, 0) rfl
  obtain ⟨f1, rfl, e1⟩ := b1.int (by show 1 < 2; decide)
  have i1 := g.iv 1 (lo := 0) (hi := 3) rfl
  have w1 := e1.v
  obtain ⟨v2, a2, b2⟩ := hl.2 3 (1, 2, 0) rfl
  obtain ⟨f2, rfl, e2⟩ := b2.int (by show 1 < 2; decide)
  have i2 := g.iv 2 (lo := 0) (hi := 49) rfl
  have w2 := e2.v
  obtain ⟨v3, a3, b3⟩ := hl.2 4 (1, 3, 0) rfl
  obtain ⟨f3, rfl, e3⟩ := b3.int (by show 1 < 2; decide)
  have i3 := g.iv 3 (lo := 0) (hi := 49) rfl
  have w3 := e3.v
  have g1 := g.ad (ν' := b_nu ν 7 h.length) (E' := [(1, 1, 0)]) (F' := []) (C' := []) (fun n hn => if_neg (Nat.ne_of_lt hn)) ⟨by show b_q _ _ (b_nu ν 7 h.length 7); rw [b_nu_n]; exact b_q.r0, trivial⟩ trivial trivial
  have g2 := g1.app c_hJ (c := (20, [.int f0, .int f1, .int f2, .int f3]))
  have hl2 : b_L 8 (b_nu ν 7 h.length) [some (2, 365, 0), some (1, 0, 0), some (1, 1, 0), some (1, 2, 0), some (1, 3, 0), none] al := hl.ext b_nu_ext
  obtain ⟨al2, s1, s2⟩ := b_sto_ok (k := 5) (b := (3, 7, 0)) (bl' := kB2.2.1.1) hl2 (v := .ref h.length) (Or.inr ⟨rfl, by decide, by rw [b_nu_n]⟩) rfl
  obtain ⟨r, r1, r2⟩ := k106b (a := h.length) (vs := [.int f0, .int f1, .int f2, .int f3]) (g2.wk (by decide)) (by rw [b_nu_n]) c_atE rfl (fun v hv => by
    simp only [List.mem_cons, List.not_mem_nil, or_false] at hv
    rcases hv with rfl | rfl | rfl | rfl
    · exact ⟨f0, rfl, by omega, by omega⟩
    · exact ⟨f1, rfl, by omega, by omega⟩
    · exact ⟨f2, rfl, by omega, by omega⟩
    · exact ⟨f3, rfl, by omega, by omega⟩) al2 [] s2 b_S.nil
  exact ⟨r, kM a0 a1 a2 a3 s1 r1, (r2.cut (W := []) b_frm.app (fun w hw => by cases hw)).ext (N := 8) ⟨by decide, fun n hn => if_neg (by have hn : n < 7 := hn; omega)⟩⟩
theorem c_v199k : b_valid c_K c_r199k := b_gd.valid (d := 2) rfl (by decide +kernel) fun ν h g => by
  refine b_gd.sg (S := kA2) c_hJ kO kA2C rfl (by decide) (by decide) g (b_al.c ?_ b_al.n)
  intro ν1 h1 x1 g1
  exact b_pq.to rfl (k84b (g1.wk (by decide)))
