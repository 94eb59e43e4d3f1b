/-! storm and late -/
theorem zO : b_cal c_K (b_lim 6) (b_orc c_K [] 3000 6) := b_orc_ok c_hJ (fun _ h => absurd h List.not_mem_nil) 3000 6
def zA : BSg := ((221, 0), ([some (2, 365, 0), some (1, 0, 0)], [], ([(0, (-2147483648), 2147483647)], [], [])), [(50, 55)], [
  (.inl (.inl (some (0, 0, 0))), ([], [], []), (0, 0)),
  (.inr (45, [some (2, 365, 0), some (1, 1, 0)], [(0, 0, (-1)), (1, 1, 0), (2, 365, 0), (1, 2, 0), (2, 365, 0)]), ([(0, 0, 9), (0, 0, 60)], [((2, 365, 0), (0, 0, 49), (1, 2, 0))], []), (0, 0))])
theorem zAC : b_sgc c_K (b_orc c_K [] 3000 6) zA [45] 3000 = true := by decide +kernel
def zB : BSg := ((221, 49), ([some (2, 365, 0), some (1, 1, 0)], [(1, 2, 0), (2, 365, 0)], ([(0, (-2147483648), 2147483647), (0, 0, 9), (0, 61, 120)], [], [])), [(50, 55)], [
  (.inl (.inl (some (0, 0, 0))), ([], [], []), (0, 0))])
theorem zBC : b_sgc c_K (b_orc c_K [] 3000 6) zB [80] 3000 = true := by decide +kernel
def zC : BSg := ((221, 49), ([some (2, 365, 0), some (1, 1, 0)], [(1, 2, 0), (2, 365, 0)], ([(0, (-2147483648), 2147483647), (0, 0, 9), (0, 0, 60)], [], [])), [(50, 55), (87, 0)], [
  (.inr (80, [some (2, 365, 0), some (1, 1, 0)], [(0, 0, (-1)), (1, 1, 0), (0, 0, 115), (2, 365, 0)]), ([], [], []), (0, 0))])
theorem zCC : b_sgc c_K (b_orc c_K [] 3000 6) zC [80] 3000 = true := by decide +kernel
def zD : BSg := ((221, 83), ([some (2, 365, 0), some (1, 1, 0)], [(1, 2, 0)], ([(0, (-2147483648), 2147483647), (0, 0, 9), (0, 0, 60)], [], [])), [], [
  (.inl (.inl (some (1, 2, 0))), ([], [], []), (0, 0))])
theorem zDC : b_sgc c_K (b_orc c_K [] 3000 6) zD [] 3000 = true := by decide +kernel
theorem xO : b_cal c_K (b_lim 6) (b_orc c_K [] 3000 6) := b_orc_ok c_hJ (fun _ h => absurd h List.not_mem_nil) 3000 6
def xA : BSg := ((222, 0), ([some (2, 365, 0), some (1, 0, 0), some (1, 1, 0), none], [], ([(0, (-2147483648), 2147483647), (0, (-2147483648), 2147483647)], [], [])), [(50, 55), (59, 0)], [
  (.inl (.inl (some (0, 0, 0))), ([], [], []), (0, 0)),
  (.inr (97, [some (2, 365, 0), some (1, 2, 0), some (1, 3, 0), some (1, 4, 0)], [(1, 2, 0), (0, 0, (-1)), (2, 365, 0), (1, 5, 0), (2, 365, 0)]), ([(0, 0, 19), (0, 0, 49), (0, 0, 49), (0, 0, 60)], [((2, 365, 0), (0, 0, 49), (1, 5, 0))], []), (0, 0))])
theorem xAC : b_sgc c_K (b_orc c_K [] 3000 6) xA [97] 3000 = true := by decide +kernel
def xB : BSg := ((222, 101), ([some (2, 365, 0), some (1, 2, 0), some (1, 3, 0), some (1, 4, 0)], [(1, 5, 0), (2, 365, 0)], ([(0, (-2147483648), 2147483647), (0, (-2147483648), 2147483647), (0, 0, 19), (0, 0, 49), (0, 0, 49), (0, 61, 120)], [], [])), [(50, 55), (59, 0)], [
  (.inl (.inl (some (0, 0, 0))), ([], [], []), (0, 0))])
theorem xBC : b_sgc c_K (b_orc c_K [] 3000 6) xB [132] 3000 = true := by decide +kernel
def xC : BSg := ((222, 101), ([some (2, 365, 0), some (1, 2, 0), some (1, 3, 0), some (1, 4, 0)], [(1, 5, 0), (2, 365, 0)], ([(0, (-2147483648), 2147483647), (0, (-2147483648), 2147483647), (0, 0, 19), (0, 0, 49), (0, 0, 49), (0, 0, 60)], [], [])), [(50, 55)], [
  (.inr (132, [some (2, 365, 0), some (1, 2, 0), some (1, 3, 0), some (1, 4, 0)], [(1, 2, 0), (0, 0, (-1)), (0, 0, 108), (2, 365, 0)]), ([], [], []), (0, 0))])
theorem xCC : b_sgc c_K (b_orc c_K [] 3000 6) xC [132] 3000 = true := by decide +kernel
def xD : BSg := ((222, 135), ([some (2, 365, 0), some (1, 2, 0), some (1, 3, 0), some (1, 4, 0)], [(1, 5, 0)], ([(0, (-2147483648), 2147483647), (0, (-2147483648), 2147483647), (0, 0, 19), (0, 0, 49), (0, 0, 49), (0, 0, 60)], [], [])), [], [
  (.inl (.inl (some (1, 5, 0))), ([], [], []), (0, 0))])
theorem xDC : b_sgc c_K (b_orc c_K [] 3000 6) xD [] 3000 = true := by decide +kernel
theorem c_n219 : a_nrg 219 = 4 ∧ a_own 219 = 12 := by decide +kernel
theorem c_n220 : a_nrg 220 = 3 ∧ a_own 220 = 12 := by decide +kernel
theorem zI45 : a_ins 221 45 = some (.invokevirtual 299, 3) := by decide +kernel
theorem zI48 : a_ins 221 48 = some (.iadd, 1) := by decide +kernel
theorem zI80 : a_ins 221 80 = some (.invokevirtual 302, 3) := by decide +kernel
theorem zIc : (a_of a_inv (a_own 221)).find? (fun e => e.1 == 299 && e.2.1 == 0) = some (299, 0, 220, (8, 161), (8, 163), (0, 44), (1, 13)) := by rfl
theorem zId : (a_of a_inv (a_own 221)).find? (fun e => e.1 == 302 && e.2.1 == 0) = some (302, 0, 219, (8, 169), (8, 171), (0, 46), (1, 13)) := by rfl
/-- from the call of takes on -/
theorem zT {ν : BN} {h : AH} (g : b_G c_K ν h h ([(0, -2147483648, 2147483647), (0, 0, 9)], [], [], [], [])) {had : Int32} (hh : c_at h 365 49 = some (.int had)) (hc : had.toInt + (c_cnt (fun k => shL h k ∧ GB h k (ν 1) (-1)) 60 : Int) ≤ 60) : b_gd c_K c_r221 6 80 [some (2, 365, 0), some (1, 1, 0)] [(0, 0, -1), (1, 1, 0), (0, 0, 115), (2, 365, 0)] 2 ν h 0 0 := by
  intro al st hl hst
  have H := g.2.2.2.2.1
  have iv1 := g.iv 1 (lo := 0) (hi := 9) rfl
  obtain ⟨v1, t1, rfl, a1, b1⟩ := hst.inv
  obtain ⟨v2, t2, rfl, a2, b2⟩ := b1.inv
  obtain ⟨v3, t3, rfl, a3, b3⟩ := b2.inv
  obtain ⟨v4, t4, rfl, a4, b4⟩ := b3.inv
  obtain rfl := b4.inv0
  obtain ⟨f, rfl, f1⟩ := a1.int (by show 0 < 2; decide)
  obtain ⟨d, rfl, d1⟩ := a2.int (by show 1 < 2; decide)
  obtain ⟨c, rfl, c1⟩ := a3.int (by show 0 < 2; decide)
  obtain ⟨r3, rfl, r4⟩ := a4.ref (Or.inl rfl)
  have f1 := f1.k
  have d1 := d1.v
  have c1 := c1.k
  have r4 := r4.k
  subst r4
  obtain ⟨vM, hM⟩ := c_o365 H
  obtain ⟨x, h2, y1, y2, y3, y4, y5⟩ := tk H (c := c) (day := d) (film := f) (by omega) (by omega) (by omega) hh (by rw [show d.toInt = (ν 1) by omega, show f.toInt = (-1) by omega]; exact hc)
  have g2 : b_G c_K ν h2 h2 ([(0, -2147483648, 2147483647), (0, 0, 9)], [], [], [], []) := ⟨g.1, (fun f hf => by cases hf), (fun f hf => by cases hf), (fun f hf => by cases hf), y4, b_frm.rf⟩
  have g3 := g2.ad (ν' := b_nu ν 2 x.toInt) (E' := [(0, 0, 60)]) (F' := []) (C' := []) (fun n hn => if_neg (Nat.ne_of_lt hn)) ⟨by show b_q _ _ (b_nu ν 2 x.toInt 2); rw [b_nu_n]; exact b_q.i y2 y3, trivial⟩ trivial trivial
  have cont : b_gd c_K c_r221 6 83 [some (2, 365, 0), some (1, 1, 0)] [(1, 2, 0)] 3 (b_nu ν 2 x.toInt) h2 1 60 := by
    refine b_gd.sg (S := zD) c_hJ zO zDC rfl (by decide) (by decide) (g3.wk (by decide)) (b_al.c ?_ b_al.n)
    intro ν5 h5 x5 g5
    exact b_pq.int (lo := 0) (hi := 60) (by decide) g5
  obtain ⟨r, r1, r2⟩ := cont al [.int x] (hl.ext b_nu_ext) (b_S.cons (v := .int x) (Or.inr ⟨rfl, by decide, by show _ = b_nu ν 2 x.toInt 2 + 0; rw [b_nu_n]; omega⟩) b_S.nil)
  exact ⟨r, b_R.cal zI80 rfl rfl (c_calV (k := 4) zId c_n219.1 c_n219.2 (by show 4 ≤ 4; decide) (Nat.le_of_ble_eq_true rfl) rfl hM) y1 r1, (r2.cut (W := tW) y5 (b_subW_ok (by decide))).ext (N := 3) ⟨by decide, fun n hn => if_neg (by have hn : n < 1 := hn; omega)⟩⟩
/-- from the call of going on -/
theorem zG {ν : BN} {h : AH} (g : b_G c_K ν h h ([(0, -2147483648, 2147483647), (0, 0, 9)] ++ [(0, 0, 60)], [((2, 365, 0), (0, 0, 49), (1, 2, 0))], [], [], [])) : b_gd c_K c_r221 6 45 [some (2, 365, 0), some (1, 1, 0)] [(0, 0, -1), (1, 1, 0), (2, 365, 0), (1, 2, 0), (2, 365, 0)] 3 ν h 0 0 := by
  intro al st hl hst
  have H := g.2.2.2.2.1
  have iv1 := g.iv 1 (lo := 0) (hi := 9) rfl
  have ivs := g.iv 2 (lo := 0) (hi := 60) rfl
  obtain ⟨had, had1, had2⟩ := g.rdF (a := 365) (j := 49) (m := 2) (k' := 0) (by rfl)
  obtain ⟨v1, t1, rfl, a1, b1⟩ := hst.inv
  obtain ⟨v2, t2, rfl, a2, b2⟩ := b1.inv
  obtain ⟨v3, t3, rfl, a3, b3⟩ := b2.inv
  obtain ⟨v4, t4, rfl, a4, b4⟩ := b3.inv
  obtain ⟨v5, t5, rfl, a5, b5⟩ := b4.inv
  obtain rfl := b5.inv0
  obtain ⟨f, rfl, f1⟩ := a1.int (by show 0 < 2; decide)
  obtain ⟨d, rfl, d1⟩ := a2.int (by show 1 < 2; decide)
  obtain ⟨r3, rfl, r4⟩ := a3.ref (Or.inl rfl)
  obtain ⟨s, rfl, s1⟩ := a4.int (by show 1 < 2; decide)
  have f1 := f1.k
  have d1 := d1.v
  have s1 := s1.v
  have r4 := r4.k
  subst r4
  obtain ⟨vM, hM⟩ := c_o365 H
  obtain ⟨x, h2, y1, y2, y3, y4, y5, y6⟩ := goi H (day := d) (film := f) (by omega) (by omega)
  rw [show d.toInt = (ν 1) by omega, show f.toInt = (-1) by omega] at y6
  have e : (s + x).toInt = s.toInt + x.toInt := by rw [Int32.toInt_add, b_bm (by omega) (by omega)]
  have g2 : b_G c_K ν h2 h2 ([(0, -2147483648, 2147483647), (0, 0, 9)] ++ [(0, 0, 60)], [], [], [], []) := ⟨g.1, (fun f hf => by cases hf), (fun f hf => by cases hf), (fun f hf => by cases hf), y4, b_frm.rf⟩
  have hx : ∀ n, n < 3 → b_nu ν 3 (s + x).toInt n = ν n := fun n hn => if_neg (Nat.ne_of_lt hn)
  have had' : c_at h2 365 49 = some (.int had) := by rw [y5.kF H c_a365 c_q50 rfl rfl]; exact had1
  have cont : b_gd c_K c_r221 6 49 [some (2, 365, 0), some (1, 1, 0)] [(1, 3, 0), (2, 365, 0)] 4 (b_nu ν 3 (s + x).toInt) h2 0 0 := by
    by_cases hle : (s + x).toInt ≤ 60
    · have g3 := g2.ad (ν' := b_nu ν 3 (s + x).toInt) (E' := [(0, 0, 60)]) (F' := []) (C' := []) hx ⟨by show b_q _ _ (b_nu ν 3 (s + x).toInt 3); rw [b_nu_n]; exact b_q.i (by omega) hle, trivial⟩ trivial trivial
      refine b_gd.cv (G := ([(0, -2147483648, 2147483647), (0, 0, 9)] ++ [(0, 0, 60)] ++ [(0, 0, 60)], [], [], [], [])) (T := (zC.2.1.2.2.1, [], [])) (bl := zC.2.1.1) (bs := zC.2.1.2.1) (σ := [(1, 0, 0), (1, 1, 0), (1, 3, 0)]) (by decide +kernel) g3 (fun g4 => ?_)
      refine b_gd.sg (S := zC) c_hJ zO zCC rfl (by decide) (by decide) g4 (b_al.c ?_ b_al.n)
      intro ν5 h5 x5 g5
      refine b_pq.to rfl ?_
      have fr5 := g5.2.2.2.2.2
      have m1 : ν5 1 = ν 1 := (x5.2 1 (by decide)).trans (by show b_nu ν 3 (s + x).toInt 1 + 0 = _; rw [hx 1 (by decide)]; omega)
      refine b_gd.cv (T := ([(0, -2147483648, 2147483647), (0, 0, 9)], [], [])) (bl := [some (2, 365, 0), some (1, 1, 0)]) (bs := [(0, 0, -1), (1, 1, 0), (0, 0, 115), (2, 365, 0)]) (σ := [(1, 0, 0), (1, 1, 0)]) (by decide +kernel) g5 (fun g6 => ?_)
      refine zT g6 (had := had) (by rw [fr5.kF y4 c_a365 c_q50 rfl rfl]; exact had') ?_
      have u1 : b_vT [(1, 0, 0), (1, 1, 0)] ν5 1 = ν 1 := by show ν5 1 + 0 = _; omega
      have sh : ∀ k, shL h5 k ↔ shL h k := fun k => by
        unfold shL
        rw [fr5.kF y4 c_a365 c_q50 rfl rfl, y5.kF H c_a365 c_q50 rfl rfl]
      have ce : c_cnt (fun k => shL h5 k ∧ GB h5 k (b_vT [(1, 0, 0), (1, 1, 0)] ν5 1) (-1)) 60 = c_cnt (fun k => shL h k ∧ GB h k (ν 1) (-1)) 60 := c_cnt_eq fun k _ => by
        rw [sh k, GB_iff y4 fr5 (by decide), GB_iff H y5 (by decide), u1]
      rw [ce]
      omega
    · have g3 := g2.ad (ν' := b_nu ν 3 (s + x).toInt) (E' := [(0, 61, 120)]) (F' := []) (C' := []) hx ⟨by show b_q _ _ (b_nu ν 3 (s + x).toInt 3); rw [b_nu_n]; exact b_q.i (by omega) (by omega), trivial⟩ trivial trivial
      refine b_gd.cv (G := ([(0, -2147483648, 2147483647), (0, 0, 9)] ++ [(0, 0, 60)] ++ [(0, 61, 120)], [], [], [], [])) (T := (zB.2.1.2.2.1, [], [])) (bl := zB.2.1.1) (bs := zB.2.1.2.1) (σ := [(1, 0, 0), (1, 1, 0), (1, 3, 0)]) (by decide +kernel) g3 (fun g4 => ?_)
      refine b_gd.sg (S := zB) c_hJ zO zBC rfl (by decide) (by decide) g4 (b_al.c ?_ b_al.n)
      intro ν5 h5 x5 g5
      exact b_pq.int (lo := 0) (hi := 0) (by decide) g5
  obtain ⟨r, r1, r2⟩ := cont al [.int (s + x), v5] (hl.ext b_nu_ext) (b_S.cons (v := .int (s + x)) (Or.inr ⟨rfl, by decide, by show _ = b_nu ν 3 (s + x).toInt 3 + 0; rw [b_nu_n]; omega⟩) (b_S.cons (a5.ext b_nu_ext) b_S.nil))
  obtain ⟨r5, rfl, -⟩ := a5.ref (Or.inl rfl)
  exact ⟨r, b_R.cal zI45 rfl rfl (c_calV (k := 3) zIc c_n220.1 c_n220.2 (by show 3 ≤ 5; decide) (Nat.le_of_ble_eq_true rfl) rfl hM) (b_lim_up (k := 1) y1) (b_R.stp zI48 rfl rfl rfl (a_by2 rfl rfl) r1), (r2.cut (W := []) y5 (fun w hw => by cases hw)).ext (N := 4) ⟨by decide, fun n hn => hx n (by have hn : n < 1 := hn; omega)⟩⟩
/-- JuryreelModel.storm(I)I -/
theorem c_v221 : b_valid c_K c_r221 := b_gd.valid (d := 6) rfl (by decide +kernel) fun ν h g => by
  refine b_gd.sg (S := zA) c_hJ zO zAC rfl (by decide) (by decide) g (b_al.c ?_ (b_al.c ?_ b_al.n))
  · intro ν3 h3 x3 g3
    exact b_pq.int (lo := 0) (hi := 0) (by decide) g3
  · intro ν1 h1 x1 g1
    exact b_pq.to rfl (zG (g1.wk (by decide)))
theorem xI97 : a_ins 222 97 = some (.invokevirtual 299, 3) := by decide +kernel
theorem xI100 : a_ins 222 100 = some (.iadd, 1) := by decide +kernel
theorem xI132 : a_ins 222 132 = some (.invokevirtual 302, 3) := by decide +kernel
theorem xIc : (a_of a_inv (a_own 222)).find? (fun e => e.1 == 299 && e.2.1 == 0) = some (299, 0, 220, (8, 161), (8, 163), (0, 44), (1, 13)) := by rfl
theorem xId : (a_of a_inv (a_own 222)).find? (fun e => e.1 == 302 && e.2.1 == 0) = some (302, 0, 219, (8, 169), (8, 171), (0, 46), (1, 13)) := by rfl
/-- from the call of takes on -/
theorem xT {ν : BN} {h : AH} (g : b_G c_K ν h h ([(0, -2147483648, 2147483647), (0, -2147483648, 2147483647), (0, 0, 19), (0, 0, 49), (0, 0, 49)], [], [], [], [])) {had : Int32} (hh : c_at h 365 49 = some (.int had)) (hc : had.toInt + (c_cnt (fun k => shL h k ∧ GB h k (-1) (ν 2)) 60 : Int) ≤ 60) : b_gd c_K c_r222 6 132 [some (2, 365, 0), some (1, 2, 0), some (1, 3, 0), some (1, 4, 0)] [(1, 2, 0), (0, 0, -1), (0, 0, 108), (2, 365, 0)] 5 ν h 0 0 := by
  intro al st hl hst
  have H := g.2.2.2.2.1
  have iv2 := g.iv 2 (lo := 0) (hi := 19) rfl
  obtain ⟨v1, t1, rfl, a1, b1⟩ := hst.inv
  obtain ⟨v2, t2, rfl, a2, b2⟩ := b1.inv
  obtain ⟨v3, t3, rfl, a3, b3⟩ := b2.inv
  obtain ⟨v4, t4, rfl, a4, b4⟩ := b3.inv
  obtain rfl := b4.inv0
  obtain ⟨f, rfl, f1⟩ := a1.int (by show 1 < 2; decide)
  obtain ⟨d, rfl, d1⟩ := a2.int (by show 0 < 2; decide)
  obtain ⟨c, rfl, c1⟩ := a3.int (by show 0 < 2; decide)
  obtain ⟨r3, rfl, r4⟩ := a4.ref (Or.inl rfl)
  have f1 := f1.v
  have d1 := d1.k
  have c1 := c1.k
  have r4 := r4.k
  subst r4
  obtain ⟨vM, hM⟩ := c_o365 H
  obtain ⟨x, h2, y1, y2, y3, y4, y5⟩ := tk H (c := c) (day := d) (film := f) (by omega) (by omega) (by omega) hh (by rw [show d.toInt = (-1) by omega, show f.toInt = (ν 2) by omega]; exact hc)
  have g2 : b_G c_K ν h2 h2 ([(0, -2147483648, 2147483647), (0, -2147483648, 2147483647), (0, 0, 19), (0, 0, 49), (0, 0, 49)], [], [], [], []) := ⟨g.1, (fun f hf => by cases hf), (fun f hf => by cases hf), (fun f hf => by cases hf), y4, b_frm.rf⟩
  have g3 := g2.ad (ν' := b_nu ν 5 x.toInt) (E' := [(0, 0, 60)]) (F' := []) (C' := []) (fun n hn => if_neg (Nat.ne_of_lt hn)) ⟨by show b_q _ _ (b_nu ν 5 x.toInt 5); rw [b_nu_n]; exact b_q.i y2 y3, trivial⟩ trivial trivial
  have cont : b_gd c_K c_r222 6 135 [some (2, 365, 0), some (1, 2, 0), some (1, 3, 0), some (1, 4, 0)] [(1, 5, 0)] 6 (b_nu ν 5 x.toInt) h2 1 60 := by
    refine b_gd.sg (S := xD) c_hJ xO xDC rfl (by decide) (by decide) (g3.wk (by decide)) (b_al.c ?_ b_al.n)
    intro ν5 h5 x5 g5
    exact b_pq.int (lo := 0) (hi := 60) (by decide) g5
  obtain ⟨r, r1, r2⟩ := cont al [.int x] (hl.ext b_nu_ext) (b_S.cons (v := .int x) (Or.inr ⟨rfl, by decide, by show _ = b_nu ν 5 x.toInt 5 + 0; rw [b_nu_n]; omega⟩) b_S.nil)
  exact ⟨r, b_R.cal xI132 rfl rfl (c_calV (k := 4) xId c_n219.1 c_n219.2 (by show 4 ≤ 4; decide) (Nat.le_of_ble_eq_true rfl) rfl hM) y1 r1, (r2.cut (W := tW) y5 (b_subW_ok (by decide))).ext (N := 6) ⟨by decide, fun n hn => if_neg (by have hn : n < 2 := hn; omega)⟩⟩
/-- from the call of going on -/
theorem xG {ν : BN} {h : AH} (g : b_G c_K ν h h ([(0, -2147483648, 2147483647), (0, -2147483648, 2147483647), (0, 0, 19), (0, 0, 49), (0, 0, 49)] ++ [(0, 0, 60)], [((2, 365, 0), (0, 0, 49), (1, 5, 0))], [], [], [])) : b_gd c_K c_r222 6 97 [some (2, 365, 0), some (1, 2, 0), some (1, 3, 0), some (1, 4, 0)] [(1, 2, 0), (0, 0, -1), (2, 365, 0), (1, 5, 0), (2, 365, 0)] 6 ν h 0 0 := by
  intro al st hl hst
  have H := g.2.2.2.2.1
  have iv2 := g.iv 2 (lo := 0) (hi := 19) rfl
  have ivs := g.iv 5 (lo := 0) (hi := 60) rfl
  obtain ⟨had, had1, had2⟩ := g.rdF (a := 365) (j := 49) (m := 5) (k' := 0) (by rfl)
  obtain ⟨v1, t1, rfl, a1, b1⟩ := hst.inv
  obtain ⟨v2, t2, rfl, a2, b2⟩ := b1.inv
  obtain ⟨v3, t3, rfl, a3, b3⟩ := b2.inv
  obtain ⟨v4, t4, rfl, a4, b4⟩ := b3.inv
  obtain ⟨v5, t5, rfl, a5, b5⟩ := b4.inv
  obtain rfl := b5.inv0
  obtain ⟨f, rfl, f1⟩ := a1.int (by show 1 < 2; decide)
  obtain ⟨d, rfl, d1⟩ := a2.int (by show 0 < 2; decide)
  obtain ⟨r3, rfl, r4⟩ := a3.ref (Or.inl rfl)
  obtain ⟨s, rfl, s1⟩ := a4.int (by show 1 < 2; decide)
  have f1 := f1.v
  have d1 := d1.k
  have s1 := s1.v
  have r4 := r4.k
  subst r4
  obtain ⟨vM, hM⟩ := c_o365 H
  obtain ⟨x, h2, y1, y2, y3, y4, y5, y6⟩ := goi H (day := d) (film := f) (by omega) (by omega)
  rw [show d.toInt = (-1) by omega, show f.toInt = (ν 2) by omega] at y6
  have e : (s + x).toInt = s.toInt + x.toInt := by rw [Int32.toInt_add, b_bm (by omega) (by omega)]
  have g2 : b_G c_K ν h2 h2 ([(0, -2147483648, 2147483647), (0, -2147483648, 2147483647), (0, 0, 19), (0, 0, 49), (0, 0, 49)] ++ [(0, 0, 60)], [], [], [], []) := ⟨g.1, (fun f hf => by cases hf), (fun f hf => by cases hf), (fun f hf => by cases hf), y4, b_frm.rf⟩
  have hx : ∀ n, n < 6 → b_nu ν 6 (s + x).toInt n = ν n := fun n hn => if_neg (Nat.ne_of_lt hn)
  have had' : c_at h2 365 49 = some (.int had) := by rw [y5.kF H c_a365 c_q50 rfl rfl]; exact had1
  have cont : b_gd c_K c_r222 6 101 [some (2, 365, 0), some (1, 2, 0), some (1, 3, 0), some (1, 4, 0)] [(1, 6, 0), (2, 365, 0)] 7 (b_nu ν 6 (s + x).toInt) h2 0 0 := by
    by_cases hle : (s + x).toInt ≤ 60
    · have g3 := g2.ad (ν' := b_nu ν 6 (s + x).toInt) (E' := [(0, 0, 60)]) (F' := []) (C' := []) hx ⟨by show b_q _ _ (b_nu ν 6 (s + x).toInt 6); rw [b_nu_n]; exact b_q.i (by omega) hle, trivial⟩ trivial trivial
      refine b_gd.cv (G := ([(0, -2147483648, 2147483647), (0, -2147483648, 2147483647), (0, 0, 19), (0, 0, 49), (0, 0, 49)] ++ [(0, 0, 60)] ++ [(0, 0, 60)], [], [], [], [])) (T := (xC.2.1.2.2.1, [], [])) (bl := xC.2.1.1) (bs := xC.2.1.2.1) (σ := [(1, 0, 0), (1, 1, 0), (1, 2, 0), (1, 3, 0), (1, 4, 0), (1, 6, 0)]) (by decide +kernel) g3 (fun g4 => ?_)
      refine b_gd.sg (S := xC) c_hJ xO xCC rfl (by decide) (by decide) g4 (b_al.c ?_ b_al.n)
      intro ν5 h5 x5 g5
      refine b_pq.to rfl ?_
      have fr5 := g5.2.2.2.2.2
      have m1 : ν5 2 = ν 2 := (x5.2 2 (by decide)).trans (by show b_nu ν 6 (s + x).toInt 2 + 0 = _; rw [hx 2 (by decide)]; omega)
      refine b_gd.cv (T := ([(0, -2147483648, 2147483647), (0, -2147483648, 2147483647), (0, 0, 19), (0, 0, 49), (0, 0, 49)], [], [])) (bl := [some (2, 365, 0), some (1, 2, 0), some (1, 3, 0), some (1, 4, 0)]) (bs := [(1, 2, 0), (0, 0, -1), (0, 0, 108), (2, 365, 0)]) (σ := [(1, 0, 0), (1, 1, 0), (1, 2, 0), (1, 3, 0), (1, 4, 0)]) (by decide +kernel) g5 (fun g6 => ?_)
      refine xT g6 (had := had) (by rw [fr5.kF y4 c_a365 c_q50 rfl rfl]; exact had') ?_
      have u1 : b_vT [(1, 0, 0), (1, 1, 0), (1, 2, 0), (1, 3, 0), (1, 4, 0)] ν5 2 = ν 2 := by show ν5 2 + 0 = _; omega
      have sh : ∀ k, shL h5 k ↔ shL h k := fun k => by
        unfold shL
        rw [fr5.kF y4 c_a365 c_q50 rfl rfl, y5.kF H c_a365 c_q50 rfl rfl]
      have ce : c_cnt (fun k => shL h5 k ∧ GB h5 k (-1) (b_vT [(1, 0, 0), (1, 1, 0), (1, 2, 0), (1, 3, 0), (1, 4, 0)] ν5 2)) 60 = c_cnt (fun k => shL h k ∧ GB h k (-1) (ν 2)) 60 := c_cnt_eq fun k _ => by
        rw [sh k, GB_iff y4 fr5 (by decide), GB_iff H y5 (by decide), u1]
      rw [ce]
      omega
    · have g3 := g2.ad (ν' := b_nu ν 6 (s + x).toInt) (E' := [(0, 61, 120)]) (F' := []) (C' := []) hx ⟨by show b_q _ _ (b_nu ν 6 (s + x).toInt 6); rw [b_nu_n]; exact b_q.i (by omega) (by omega), trivial⟩ trivial trivial
      refine b_gd.cv (G := ([(0, -2147483648, 2147483647), (0, -2147483648, 2147483647), (0, 0, 19), (0, 0, 49), (0, 0, 49)] ++ [(0, 0, 60)] ++ [(0, 61, 120)], [], [], [], [])) (T := (xB.2.1.2.2.1, [], [])) (bl := xB.2.1.1) (bs := xB.2.1.2.1) (σ := [(1, 0, 0), (1, 1, 0), (1, 2, 0), (1, 3, 0), (1, 4, 0), (1, 6, 0)]) (by decide +kernel) g3 (fun g4 => ?_)
      refine b_gd.sg (S := xB) c_hJ xO xBC rfl (by decide) (by decide) g4 (b_al.c ?_ b_al.n)
      intro ν5 h5 x5 g5
      exact b_pq.int (lo := 0) (hi := 0) (by decide) g5
  obtain ⟨r, r1, r2⟩ := cont al [.int (s + x), v5] (hl.ext b_nu_ext) (b_S.cons (v := .int (s + x)) (Or.inr ⟨rfl, by decide, by show _ = b_nu ν 6 (s + x).toInt 6 + 0; rw [b_nu_n]; omega⟩) (b_S.cons (a5.ext b_nu_ext) b_S.nil))
  obtain ⟨r5, rfl, -⟩ := a5.ref (Or.inl rfl)
  exact ⟨r, b_R.cal xI97 rfl rfl (c_calV (k := 3) xIc c_n220.1 c_n220.2 (by show 3 ≤ 5; decide) (Nat.le_of_ble_eq_true rfl) rfl hM) (b_lim_up (k := 1) y1) (b_R.stp xI100 rfl rfl rfl (a_by2 rfl rfl) r1), (r2.cut (W := []) y5 (fun w hw => by cases hw)).ext (N := 7) ⟨by decide, fun n hn => hx n (by have hn : n < 2 := hn; omega)⟩⟩
/-- JuryreelModel.late(II)I -/
theorem c_v222 : b_valid c_K c_r222 := b_gd.valid (d := 6) rfl (by decide +kernel) fun ν h g => by
  refine b_gd.sg (S := xA) c_hJ xO xAC rfl (by decide) (by decide) g (b_al.c ?_ (b_al.c ?_ b_al.n))
  · intro ν3 h3 x3 g3
    exact b_pq.int (lo := 0) (hi := 0) (by decide) g3
  · intro ν1 h1 x1 g1
    exact b_pq.to rfl (xG (g1.wk (by decide)))
