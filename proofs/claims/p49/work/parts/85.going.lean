/-! going: how many go -/
theorem yO : b_cal c_K (b_lim 4) (b_orc c_K [] 3000 4) := b_orc_ok c_hJ (fun _ h => absurd h List.not_mem_nil) 3000 4
def yA : BSg := ((220, 0), ([some (2, 365, 0), some (1, 0, 0), some (1, 1, 0), none, none], [], ([(0, (-1), 9), (0, (-1), 19)], [], [])), [], [
  (.inr (5, [some (2, 365, 0), some (1, 0, 0), some (1, 1, 0), some (0, 0, 0), some (0, 0, 0)], []), ([], [], []), (0, 0))])
theorem yAC : b_sgc c_K (b_orc c_K [] 3000 4) yA [5] 3000 = true := by decide +kernel
def yB : BSg := ((220, 5), ([some (2, 365, 0), some (1, 0, 0), some (1, 1, 0), some (1, 2, 0), some (1, 3, 0)], [], ([(0, (-1), 9), (0, (-1), 19), (0, 0, 60), (0, 0, 60)], [], [(2, 3, 0)])), [], [
  (.inl (.inl (some (1, 2, 0))), ([(0, 0, 60)], [((2, 365, 0), (0, 0, 49), (1, 4, 0))], [(4, 3, 0)]), (0, 0)),
  (.inr (20, [some (2, 365, 0), some (1, 0, 0), some (1, 1, 0), some (1, 4, 0), some (1, 5, 0)], [(1, 1, 0), (1, 0, 0), (1, 5, 0), (2, 365, 0), (1, 4, 0)]), ([(0, 0, 59), (0, 0, 59), (0, 1, 60)], [((2, 365, 0), (0, 0, 49), (1, 6, 0))], [(4, 2, 0), (2, 4, 0), (5, 3, 0), (3, 5, 0), (5, 6, (-1))]), (0, 0))])
theorem yBC : b_sgc c_K (b_orc c_K [] 3000 4) yB [20] 3000 = true := by decide +kernel
def yC0 : BSg := ((220, 23), ([some (2, 365, 0), some (1, 0, 0), some (1, 1, 0), some (1, 2, 0), some (1, 3, 0)], [(0, 0, 0), (1, 2, 0)], ([(0, (-1), 9), (0, (-1), 19), (0, 0, 59), (0, 0, 59)], [], [])), [], [
  (.inr (5, [some (2, 365, 0), some (1, 0, 0), some (1, 1, 0), some (1, 2, 0), some (1, 3, 1)], []), ([], [], []), (0, 0))])
theorem yC0C : b_sgc c_K (b_orc c_K [] 3000 4) yC0 [5] 3000 = true := by decide +kernel
def yC1 : BSg := ((220, 23), ([some (2, 365, 0), some (1, 0, 0), some (1, 1, 0), some (1, 2, 0), some (1, 3, 0)], [(0, 0, 1), (1, 2, 0)], ([(0, (-1), 9), (0, (-1), 19), (0, 0, 59), (0, 0, 59)], [], [])), [], [
  (.inr (5, [some (2, 365, 0), some (1, 0, 0), some (1, 1, 0), some (1, 2, 1), some (1, 3, 1)], []), ([], [], []), (0, 0))])
theorem yC1C : b_sgc c_K (b_orc c_K [] 3000 4) yC1 [5] 3000 = true := by decide +kernel
def shL (h : AH) (k : Nat) : Prop := ∃ n : Int32, c_at h 365 49 = some (.int n) ∧ (k : Int) < n.toInt
def goingP (h : AH) (day film : Int) (r : AR) : Prop := ∃ (x : Int32) (h' : AH), r = (.inl (some (.int x)), h', 0, 0) ∧ 0 ≤ x.toInt ∧ x.toInt ≤ 60 ∧ b_H c_K h' ∧ b_frm c_K [] h h' ∧ (c_cnt (fun k => shL h k ∧ GB h k day film) 60 : Int) ≤ x.toInt
theorem yI20 : a_ins 220 20 = some (.invokevirtual 296, 3) := by decide +kernel
theorem yI20c : (a_of a_inv (a_own 220)).find? (fun e => e.1 == 296 && e.2.1 == 0) = some (296, 0, 218, (8, 161), (8, 163), (0, 45), (1, 13)) := by rfl
theorem c_n218 : a_nrg 218 = 4 ∧ a_own 218 = 12 := by decide +kernel
theorem y5 {h : AH} (H : b_H c_K h) {day film : Int32} (hd : -1 ≤ day.toInt ∧ day.toInt ≤ 9) (hf : -1 ≤ film.toInt ∧ film.toInt ≤ 19) : ∀ (m : Nat) (ν : BN) (h1 : AH), b_frm c_K [] h h1 → b_G c_K ν h1 h1 (yB.2.1.2.2.1, [], [], [], []) → ν 0 = day.toInt → ν 1 = film.toInt → ν 2 ≤ ν 3 → (60 - ν 3).toNat < m → (c_cnt (fun k => shL h k ∧ GB h k day.toInt film.toInt) (ν 3).toNat : Int) ≤ ν 2 → b_ge 4 220 5 yB.2.1.1 [] yB.2.1.2.2.1.length ν h1 0 0 (goingP h day.toInt film.toInt)
  | 0, ν, h1, _, _, _, _, _, hm, _ => absurd hm (Nat.not_lt_zero _)
  | m + 1, ν, h1, fr, gg, e0, e1, h23, hm, hc => by
    have g0 := gg.ad (ν' := ν) (E' := []) (F' := []) (C' := [(2, 3, 0)]) (fun _ _ => rfl) trivial trivial ⟨⟨by decide, by decide, by show ν 2 ≤ ν 3 + 0; omega⟩, trivial⟩
    have iv2 := gg.iv 2 (lo := 0) (hi := 60) rfl
    have iv3 := gg.iv 3 (lo := 0) (hi := 60) rfl
    refine b_ge.sg c_hJ yO yBC (g0.wk (by decide)) (b_al.c ?_ (b_al.c ?_ b_al.n))
    · intro ν1 h2 x1 g1
      refine b_pe.int rfl (by show 1 < 2; decide) (fun x hx => ?_)
      have hx := hx.v
      have m2 := x1.2 2 (by decide)
      have m3 := x1.2 3 (by decide)
      have k4 : ν1 4 ≤ ν1 3 + 0 := g1.co (by decide)
      obtain ⟨z, z1, z2⟩ := g1.rdF (a := 365) (j := 49) (m := 4) (k' := 0) (by rfl)
      have fr2 := frm0 fr g1.2.2.2.2.2
      rw [fr2.kF H c_a365 c_q50 rfl rfl] at z1
      refine ⟨x, h2, rfl, by omega, by omega, g1.2.2.2.2.1, fr2, ?_⟩
      have c1 := c_cnt_hi (p := fun k => shL h k ∧ GB h k day.toInt film.toInt) (n := (ν 3).toNat) (m := 60) (fun j h1 h2 q => by
        obtain ⟨⟨z', q1, q2⟩, -⟩ := q
        rw [z1] at q1
        cases q1
        omega)
      omega
    · intro ν1 h2 x1 g1
      refine b_pe.to rfl ?_
      intro al st hl hst
      obtain ⟨v1, t1, rfl, a1, b1⟩ := hst.inv
      obtain ⟨v2, t2, rfl, a2, b2⟩ := b1.inv
      obtain ⟨v3, t3, rfl, a3, b3⟩ := b2.inv
      obtain ⟨v4, t4, rfl, a4, b4⟩ := b3.inv
      obtain ⟨v5, t5, rfl, a5, b5⟩ := b4.inv
      obtain rfl := b5.inv0
      obtain ⟨f', rfl, f1⟩ := a1.int (by show 1 < 2; decide)
      obtain ⟨d', rfl, d1⟩ := a2.int (by show 1 < 2; decide)
      obtain ⟨k, rfl, j1⟩ := a3.int (by show 1 < 2; decide)
      obtain ⟨r3, rfl, r4⟩ := a4.ref (Or.inl rfl)
      obtain ⟨w, rfl, w1⟩ := a5.int (by show 1 < 2; decide)
      have f1 := f1.v
      have d1 := d1.v
      have j1 := j1.v
      have w1 := w1.v
      have r4 := r4.k
      subst r4
      have m0 := x1.2 0 (by decide)
      have m1 := x1.2 1 (by decide)
      have m2 := x1.2 2 (by decide)
      have m3 := x1.2 3 (by decide)
      have k1 : ν1 4 ≤ ν1 2 + 0 := g1.co (by decide)
      have k2 : ν1 2 ≤ ν1 4 + 0 := g1.co (by decide)
      have k3 : ν1 5 ≤ ν1 3 + 0 := g1.co (by decide)
      have k4 : ν1 3 ≤ ν1 5 + 0 := g1.co (by decide)
      have iv4 := g1.iv 4 (lo := 0) (hi := 59) rfl
      have iv5 := g1.iv 5 (lo := 0) (hi := 59) rfl
      have ed : d' = day := Int32.toInt_inj.mp (by omega)
      have ef : f' = film := Int32.toInt_inj.mp (by omega)
      subst ed
      subst ef
      have fr2 := frm0 fr g1.2.2.2.2.2
      have H2 := g1.2.2.2.2.1
      obtain ⟨x, h3, y1, y2, y3, y4, y5'⟩ := gb H2 (k := k) (by omega) hd hf
      obtain ⟨vs, hh⟩ := c_o365 H2
      have fr3 := frm0 fr2 y4
      rw [GB_iff H fr2 (by decide), show k.toInt.toNat = (ν 3).toNat by omega] at y5'
      have g2 : b_G c_K ν1 h3 h3 (yB.2.1.2.2.1 ++ [(0, 0, 59), (0, 0, 59), (0, 1, 60)], [], [], [], []) := ⟨g1.1, (fun f hf => by cases hf), (fun f hf => by cases hf), (fun f hf => by cases hf), y3, b_frm.rf⟩
      have again : ∀ (b : Int) (ν3 : BN) (h4 : AH), b_frm c_K [] h3 h4 → b_G c_K ν3 h4 h4 (yB.2.1.2.2.1, [], [], [], []) → ν3 0 = d'.toInt → ν3 1 = f'.toInt → ν3 2 = ν 2 + b → ν3 3 = ν 3 + 1 → b = x.toInt → b_ge 4 220 5 yB.2.1.1 [] yB.2.1.2.2.1.length ν3 h4 0 0 (goingP h d'.toInt f'.toInt) := by
        intro b ν3 h4 fr4 g4 z0 z1 z2 z3 hb
        refine y5 H hd hf m ν3 h4 (frm0 fr3 fr4) g4 z0 z1 (by omega) (by omega) ?_
        rw [z2, z3, show (ν 3 + 1).toNat = (ν 3).toNat + 1 by omega]
        by_cases q : shL h (ν 3).toNat ∧ GB h (ν 3).toNat d'.toInt f'.toInt
        · rw [c_cnt_s.1 q]
          have := y5'.mpr q.2
          omega
        · rw [c_cnt_s.2 q]
          omega
      have cont : b_ge 4 220 23 [some (2, 365, 0), some (1, 0, 0), some (1, 1, 0), some (1, 4, 0), some (1, 5, 0)] [(0, 0, x.toInt), (1, 4, 0)] 7 ν1 h3 0 0 (goingP h d'.toInt f'.toInt) := by
        rcases y2 with hx | hx
        · rw [hx]
          refine b_ge.cv (T := (yC0.2.1.2.2.1, [], [])) (bl := yC0.2.1.1) (bs := yC0.2.1.2.1) (σ := [(1, 0, 0), (1, 1, 0), (1, 4, 0), (1, 5, 0)]) (by decide +kernel) g2 (fun g3 => ?_)
          refine b_ge.sg (S := yC0) c_hJ yO yC0C g3 (b_al.c ?_ b_al.n)
          intro ν3 h4 x3 g4
          refine b_pe.to rfl ?_
          have u0 : ν3 0 = d'.toInt := (x3.2 0 (by decide)).trans (by show ν1 0 + 0 = _; omega)
          have u1 : ν3 1 = f'.toInt := (x3.2 1 (by decide)).trans (by show ν1 1 + 0 = _; omega)
          have u2 : ν3 2 = ν 2 := (x3.2 2 (by decide)).trans (by show ν1 4 + 0 = _; omega)
          have u3 : ν3 3 = ν 3 := (x3.2 3 (by decide)).trans (by show ν1 5 + 0 = _; omega)
          refine b_ge.cv (T := (yB.2.1.2.2.1, [], [])) (bl := yB.2.1.1) (bs := []) (σ := [(1, 0, 0), (1, 1, 0), (1, 2, 0), (1, 3, 1)]) (by decide +kernel) g4 (fun g5 => ?_)
          exact again 0 _ h4 g4.2.2.2.2.2 g5 (by show ν3 0 + 0 = _; omega) (by show ν3 1 + 0 = _; omega) (by show ν3 2 + 0 = _; omega) (by show ν3 3 + 1 = _; omega) hx.symm
        · rw [hx]
          refine b_ge.cv (T := (yC1.2.1.2.2.1, [], [])) (bl := yC1.2.1.1) (bs := yC1.2.1.2.1) (σ := [(1, 0, 0), (1, 1, 0), (1, 4, 0), (1, 5, 0)]) (by decide +kernel) g2 (fun g3 => ?_)
          refine b_ge.sg (S := yC1) c_hJ yO yC1C g3 (b_al.c ?_ b_al.n)
          intro ν3 h4 x3 g4
          refine b_pe.to rfl ?_
          have u0 : ν3 0 = d'.toInt := (x3.2 0 (by decide)).trans (by show ν1 0 + 0 = _; omega)
          have u1 : ν3 1 = f'.toInt := (x3.2 1 (by decide)).trans (by show ν1 1 + 0 = _; omega)
          have u2 : ν3 2 = ν 2 := (x3.2 2 (by decide)).trans (by show ν1 4 + 0 = _; omega)
          have u3 : ν3 3 = ν 3 := (x3.2 3 (by decide)).trans (by show ν1 5 + 0 = _; omega)
          refine b_ge.cv (T := (yB.2.1.2.2.1, [], [])) (bl := yB.2.1.1) (bs := []) (σ := [(1, 0, 0), (1, 1, 0), (1, 2, 1), (1, 3, 1)]) (by decide +kernel) g4 (fun g5 => ?_)
          exact again 1 _ h4 g4.2.2.2.2.2 g5 (by show ν3 0 + 0 = _; omega) (by show ν3 1 + 0 = _; omega) (by show ν3 2 + 1 = _; omega) (by show ν3 3 + 1 = _; omega) hx.symm
      obtain ⟨r, r1, r2⟩ := cont al [.int x, .int w] hl (b_S.cons (v := .int x) (Or.inl ⟨rfl, rfl⟩) (b_S.cons (v := .int w) (Or.inr ⟨rfl, by decide, by show _ = ν1 4 + 0; omega⟩) b_S.nil))
      exact ⟨r, b_R.cal yI20 rfl rfl (c_calV (k := 4) yI20c c_n218.1 c_n218.2 (by show 4 ≤ 5; decide) (Nat.le_of_ble_eq_true rfl) rfl hh) y1 r1, r2⟩
/-- what going answers -/
theorem goi {h : AH} (H : b_H c_K h) {day film : Int32} (hd : -1 ≤ day.toInt ∧ day.toInt ≤ 9) (hf : -1 ≤ film.toInt ∧ film.toInt ≤ 19) : ∃ (x : Int32) (h' : AH), b_lim 5 220 [.ref 365, .int day, .int film] h = some (.inl (some (.int x)), h', 0, 0) ∧ 0 ≤ x.toInt ∧ x.toInt ≤ 60 ∧ b_H c_K h' ∧ b_frm c_K [] h h' ∧ (c_cnt (fun k => shL h k ∧ GB h k day.toInt film.toInt) 60 : Int) ≤ x.toInt := by
  have g0 : b_G c_K (fun n => match n with | 0 => day.toInt | _ => film.toInt) h h (yA.2.1.2.2.1, [], [], [], []) := ⟨(fun n q hq => by
    rcases n with _ | _ | n
    · cases hq; exact b_q.i hd.1 hd.2
    · cases hq; exact b_q.i hf.1 hf.2
    · cases hq), (fun f hf => by cases hf), (fun f hf => by cases hf), (fun f hf => by cases hf), H, b_frm.rf⟩
  obtain ⟨r, r1, x, h', e, k⟩ : ∃ r, b_lim 5 220 [.ref 365, .int day, .int film] h = some r ∧ goingP h day.toInt film.toInt r := by
    refine b_ge.lim (N := 2) (ν := fun n => match n with | 0 => day.toInt | _ => film.toInt) (bas := [(2, 365, 0), (1, 0, 0), (1, 1, 0)]) (by decide +kernel) (b_S.cons (Or.inl ⟨rfl, rfl⟩) (b_S.cons (Or.inr ⟨rfl, by decide, by show day.toInt = day.toInt + 0; omega⟩) (b_S.cons (Or.inr ⟨rfl, by decide, by show film.toInt = film.toInt + 0; omega⟩) b_S.nil))) ?_
    refine b_ge.sg (S := yA) c_hJ yO yAC g0 (b_al.c ?_ b_al.n)
    intro ν1 h1 x1 g1
    refine b_pe.to rfl ?_
    refine b_ge.cv (T := (yB.2.1.2.2.1, [], [])) (bl := yB.2.1.1) (bs := []) (σ := [(1, 0, 0), (1, 1, 0), (0, 0, 0), (0, 0, 0)]) (by decide +kernel) g1 (fun g2 => ?_)
    have m0 : ν1 0 = day.toInt := x1.2 0 (by decide)
    have m1 : ν1 1 = film.toInt := x1.2 1 (by decide)
    exact y5 H hd hf _ _ h1 g1.2.2.2.2.2 g2 (by show ν1 0 + 0 = _; omega) (by show ν1 1 + 0 = _; omega) (Int.le_refl _) (Nat.lt_succ_self _) (Int.le_refl _)
  subst e
  exact ⟨x, h', r1, k⟩
