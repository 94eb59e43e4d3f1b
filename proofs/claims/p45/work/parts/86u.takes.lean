/-! takes, the two loops before, and its start -/
theorem t47 {h : AH} {a : Nat} {vs : List Value} : ∀ (m : Nat) (ν : BN) (h1 : AH), b_frm c_K tW h h1 → b_G c_K ν h1 h1 (tI.2.1.2.2.1, [], [], [], []) → ν 4 = a → tA0 h1 a vs (ν 3) → ν 5 ≤ ν 6 → (60 - ν 6).toNat < m → (∃ s : Int32, c_at h1 365 49 = some (.int s) ∧ s.toInt + (c_cnt (tr vs) 60 : Int) ≤ 60) → b_ge 5 219 47 tF.2.1.1 [] tI.2.1.2.2.1.length ν h1 1 60 (tP h)
  | 0, ν, h1, _, _, _, _, _, hm, _ => absurd hm (Nat.not_lt_zero _)
  | m + 1, ν, h1, fr, g, ea, hA, h56, hm, hs => by
    have H1 := g.2.2.2.2.1
    have iv5 := g.iv 5 (lo := 0) (hi := 60) rfl
    have iv6 := g.iv 6 (lo := 0) (hi := 60) rfl
    obtain ⟨s, s1, s2⟩ := hs
    have g0 := g.ad (ν' := ν) (E' := []) (F' := []) (C' := [(5, 6, 0)]) (fun _ _ => rfl) trivial trivial ⟨⟨by decide, by decide, by show ν 5 ≤ ν 6 + 0; omega⟩, trivial⟩
    refine b_ge.sg (S := tF) c_hJ tO tFC (g0.wk (by decide)) (b_al.c ?_ (b_al.c ?_ b_al.n))
    · intro ν1 h2 x1 g1
      refine b_pe.to rfl ?_
      have m3 := x1.2 3 (by decide)
      have m4 := x1.2 4 (by decide)
      have H2 := g1.2.2.2.2.1
      have f2 := g1.2.2.2.2.2
      refine b_ge.cv (T := (tH.2.1.2.2.1, [], [])) (bl := tH.2.1.1) (bs := []) (σ := [(1, 0, 0), (1, 1, 0), (1, 2, 0), (1, 3, 0), (3, 4, 0), (1, 5, 0)]) (by decide +kernel) g1 (fun g2 => ?_)
      refine b_ge.sg (S := tH) c_hJ tO tHC g2 (b_al.c ?_ b_al.n)
      intro ν3 h3 x3 g3
      refine b_pe.to rfl ?_
      have n3 : ν3 3 = ν 3 := (x3.2 3 (by decide)).trans (by show ν1 3 + 0 = _; omega)
      have n4 : ν3 4 = ν 4 := (x3.2 4 (by decide)).trans m4
      refine b_ge.cv (T := (tI.2.1.2.2.1, [], [])) (bl := tI.2.1.1) (bs := []) (σ := [(1, 0, 0), (1, 1, 0), (1, 2, 0), (1, 3, 0), (3, 4, 0), (1, 5, 0), (0, 0, 0)]) (by decide +kernel) g3 (fun g4 => ?_)
      have e3 : b_vT [(1, 0, 0), (1, 1, 0), (1, 2, 0), (1, 3, 0), (3, 4, 0), (1, 5, 0), (0, 0, 0)] ν3 3 = ν 3 := by show ν3 3 + 0 = _; omega
      refine t95 (h := h) (a := a) (vs := vs) _ _ h3 (tFr (tFr fr f2 (by decide)) g3.2.2.2.2.2 (by decide)) g4 (n4.trans ea) (by rw [e3]; exact tA0_frm g3.2.2.2.2.2 (tA0_frm f2 hA)) (Nat.lt_succ_self _) ⟨s, ?_, ?_⟩
      · rw [g3.2.2.2.2.2.kF H2 c_a365 c_q50 rfl rfl, f2.kF H1 c_a365 c_q50 rfl rfl]; exact s1
      · show s.toInt + ((c_cnt (tr vs) 60 : Int) - ((0 : Nat) : Int)) ≤ 60
        omega
    · intro ν1 h2 x1 g1
      refine b_pe.to rfl ?_
      have m3 := x1.2 3 (by decide)
      have m4 := x1.2 4 (by decide)
      have m5 := x1.2 5 (by decide)
      have m6 := x1.2 6 (by decide)
      have k1 : ν1 7 ≤ ν1 5 + 0 := g1.co (by decide)
      have k2 : ν1 5 ≤ ν1 7 + 0 := g1.co (by decide)
      have k3 : ν1 8 ≤ ν1 6 + 0 := g1.co (by decide)
      have k4 : ν1 6 ≤ ν1 8 + 0 := g1.co (by decide)
      have k5 : ν1 8 ≤ ν1 3 + (-1) := g1.co (by decide)
      have iv7 := g1.iv 7 (lo := 0) (hi := 59) rfl
      have iv8 := g1.iv 8 (lo := 0) (hi := 59) rfl
      have H2 := g1.2.2.2.2.1
      have f2 := g1.2.2.2.2.2
      have A2 := tA0_frm f2 hA
      have s1' : c_at h2 365 49 = some (.int s) := by rw [f2.kF H1 c_a365 c_q50 rfl rfl]; exact s1
      intro al st hl hst
      obtain ⟨v1, t1, rfl, a1, b1⟩ := hst.inv
      obtain ⟨v2, t2, rfl, a2, b2⟩ := b1.inv
      obtain rfl := b2.inv0
      obtain ⟨k, rfl, j1⟩ := a1.int (by show 1 < 2; decide)
      obtain ⟨a', rfl, j2⟩ := a2.ref (Or.inr rfl)
      have j1 := j1.v
      have j2 := j2.v
      have ea' : a' = a := Int.ofNat.inj (j2.trans (m4.trans ea))
      rw [ea']
      have gB : b_G c_K ν1 h2 h2 (tI.2.1.2.2.1 ++ [(0, 0, 59), (0, 0, 59)], [], [], [], []) := g1.bare
      have again : ∀ (ν3 : BN) (h3 : AH), b_frm c_K tW h2 h3 → b_H c_K h3 → b_G c_K ν3 h3 h3 (tI.2.1.2.2.1, [], [], [], []) → ν3 3 = ν 3 → ν3 4 = ν 4 → ν3 5 ≤ ν 5 + 1 → ν3 6 = ν 6 + 1 → c_at h3 365 49 = some (.int s) → b_ge 5 219 47 tF.2.1.1 [] tI.2.1.2.2.1.length ν3 h3 1 60 (tP h) := fun ν3 h3 f3 H3 g3 z3 z4 z5 z6 w1 =>
        t47 (h := h) (a := a) (vs := vs) m ν3 h3 (tFr (tFr fr f2 (by decide)) f3 (by decide)) g3 (z4.trans ea) (by rw [z3]; exact tA0_frm f3 A2) (by omega) (by omega) ⟨s, w1, s2⟩
      refine tLdE tI58 A2 (by omega) (fun x hx hv => ?_)
      rcases hx with hx | hx
      · have cont : b_ge 5 219 59 [some (2, 365, 0), some (1, 0, 0), some (1, 1, 0), some (1, 2, 0), some (1, 3, 0), some (1, 7, 0), some (3, 4, 0), some (1, 8, 0), none] [(0, 0, 0)] 9 ν1 h2 1 60 (tP h) := by
          refine b_ge.cv (G := (tI.2.1.2.2.1 ++ [(0, 0, 59), (0, 0, 59)], [], [], [], [])) (T := (tG0.2.1.2.2.1, [], [])) (bl := tG0.2.1.1) (bs := tG0.2.1.2.1) (σ := [(1, 0, 0), (1, 1, 0), (1, 2, 0), (1, 3, 0), (3, 4, 0), (1, 7, 0), (1, 8, 0)]) (by decide +kernel) gB (fun g3 => ?_)
          refine b_ge.sg (S := tG0) c_hJ tO tG0C g3 (b_al.c ?_ b_al.n)
          intro ν3 h3 x3 g4
          refine b_pe.to rfl ?_
          have n3 : ν3 3 = ν 3 := (x3.2 3 (by decide)).trans (by show ν1 3 + 0 = _; omega)
          have n4 : ν3 4 = ν 4 := (x3.2 4 (by decide)).trans m4
          have n5 : ν3 5 = ν 5 := (x3.2 5 (by decide)).trans (by show ν1 7 + 0 = _; omega)
          have n6 : ν3 6 = ν 6 := (x3.2 6 (by decide)).trans (by show ν1 8 + 0 = _; omega)
          refine b_ge.cv (T := (tI.2.1.2.2.1, [], [])) (bl := tF.2.1.1) (bs := []) (σ := [(1, 0, 0), (1, 1, 0), (1, 2, 0), (1, 3, 0), (3, 4, 0), (1, 5, 0), (1, 6, 1)]) (by decide +kernel) g4 (fun g5 => ?_)
          exact again _ h3 (g4.2.2.2.2.2.mono (b_subW_ok (by decide))) g4.2.2.2.2.1 g5 (by show ν3 3 + 0 = _; omega) n4 (by show ν3 5 + 0 ≤ _; omega) (by show ν3 6 + 1 = _; omega) (by rw [g4.2.2.2.2.2.kF H2 c_a365 c_q50 rfl rfl]; exact s1')
        exact cont al [.int x] hl (b_S.cons (v := .int x) (Or.inl ⟨rfl, hx⟩) b_S.nil)
      · have cont : b_ge 5 219 59 [some (2, 365, 0), some (1, 0, 0), some (1, 1, 0), some (1, 2, 0), some (1, 3, 0), some (1, 7, 0), some (3, 4, 0), some (1, 8, 0), none] [(0, 0, 1)] 9 ν1 h2 1 60 (tP h) := by
          refine b_ge.cv (G := (tI.2.1.2.2.1 ++ [(0, 0, 59), (0, 0, 59)], [], [], [], [])) (T := (tG1.2.1.2.2.1, [], [])) (bl := tG1.2.1.1) (bs := tG1.2.1.2.1) (σ := [(1, 0, 0), (1, 1, 0), (1, 2, 0), (1, 3, 0), (3, 4, 0), (1, 7, 0), (1, 8, 0)]) (by decide +kernel) gB (fun g3 => ?_)
          refine b_ge.sg (S := tG1) c_hJ tO tG1C g3 (b_al.c ?_ b_al.n)
          intro ν3 h3 x3 g4
          refine b_pe.to rfl ?_
          have n3 : ν3 3 = ν 3 := (x3.2 3 (by decide)).trans (by show ν1 3 + 0 = _; omega)
          have n4 : ν3 4 = ν 4 := (x3.2 4 (by decide)).trans m4
          have n5 : ν3 5 = ν 5 := (x3.2 5 (by decide)).trans (by show ν1 7 + 0 = _; omega)
          have n6 : ν3 6 = ν 6 := (x3.2 6 (by decide)).trans (by show ν1 8 + 0 = _; omega)
          refine b_ge.cv (T := (tI.2.1.2.2.1, [], [])) (bl := tF.2.1.1) (bs := []) (σ := [(1, 0, 0), (1, 1, 0), (1, 2, 0), (1, 3, 0), (3, 4, 0), (1, 5, 1), (1, 6, 1)]) (by decide +kernel) g4 (fun g5 => ?_)
          exact again _ h3 (g4.2.2.2.2.2.mono (b_subW_ok (by decide))) g4.2.2.2.2.1 g5 (by show ν3 3 + 0 = _; omega) n4 (by show ν3 5 + 1 ≤ _; omega) (by show ν3 6 + 1 = _; omega) (by rw [g4.2.2.2.2.2.kF H2 c_a365 c_q50 rfl (by decide)]; exact s1')
        exact cont al [.int x] hl (b_S.cons (v := .int x) (Or.inl ⟨rfl, hx⟩) b_S.nil)
theorem t18 {h : AH} (H : b_H c_K h) {a : Nat} (hla : h.length ≤ a) {day film : Int32} (hd : -1 ≤ day.toInt ∧ day.toInt ≤ 9) (hf : -1 ≤ film.toInt ∧ film.toInt ≤ 19) {had : Int32} (hh : c_at h 365 49 = some (.int had)) (hc : had.toInt + (c_cnt (fun k => shL h k ∧ GB h k day.toInt film.toInt) 60 : Int) ≤ 60) : ∀ (m : Nat) (ν : BN) (h1 : AH) (vs : List Value), b_frm c_K [] h h1 → b_G c_K ν h1 h1 (tC.2.1.2.2.1, [], [], [], []) → ν 1 = day.toInt → ν 2 = film.toInt → ν 3 = had.toInt → ν 4 = a → tA0 h1 a vs (ν 3) → (∀ j, tr vs j → GB h j day.toInt film.toInt) → (60 - ν 5).toNat < m → b_ge 5 219 18 tC.2.1.1 [] tC.2.1.2.2.1.length ν h1 1 60 (tP h)
  | 0, ν, h1, vs, _, _, _, _, _, _, _, _, hm => absurd hm (Nat.not_lt_zero _)
  | m + 1, ν, h1, vs, fr, g, e1, e2, e3, ea, hA, hG, hm => by
    have H1 := g.2.2.2.2.1
    have iv5 := g.iv 5 (lo := 0) (hi := 60) rfl
    refine b_ge.sg (S := tC) c_hJ tO tCC g (b_al.c ?_ (b_al.c ?_ b_al.n))
    · intro ν1 h2 x1 g1
      refine b_pe.to rfl ?_
      have m3 := x1.2 3 (by decide)
      have m4 := x1.2 4 (by decide)
      have H2 := g1.2.2.2.2.1
      have f2 := g1.2.2.2.2.2
      refine b_ge.cv (T := (tE.2.1.2.2.1, [], [])) (bl := tE.2.1.1) (bs := []) (σ := [(1, 0, 0), (1, 1, 0), (1, 2, 0), (1, 3, 0), (3, 4, 0)]) (by decide +kernel) g1 (fun g2 => ?_)
      refine b_ge.sg (S := tE) c_hJ tO tEC g2 (b_al.c ?_ b_al.n)
      intro ν3 h3 x3 g3
      refine b_pe.to rfl ?_
      have n3 : ν3 3 = ν 3 := (x3.2 3 (by decide)).trans (by show ν1 3 + 0 = _; omega)
      have n4 : ν3 4 = ν 4 := (x3.2 4 (by decide)).trans m4
      have f3 := frm0 (frm0 fr f2) g3.2.2.2.2.2
      refine b_ge.cv (T := (tI.2.1.2.2.1, [], [])) (bl := tF.2.1.1) (bs := []) (σ := [(1, 0, 0), (1, 1, 0), (1, 2, 0), (1, 3, 0), (3, 4, 0), (0, 0, 0), (0, 0, 0)]) (by decide +kernel) g3 (fun g4 => ?_)
      have u3 : b_vT [(1, 0, 0), (1, 1, 0), (1, 2, 0), (1, 3, 0), (3, 4, 0), (0, 0, 0), (0, 0, 0)] ν3 3 = ν 3 := by show ν3 3 + 0 = _; omega
      refine t47 (h := h) (a := a) (vs := vs) _ _ h3 (f3.mono (fun w hw => by cases hw)) g4 (n4.trans ea) (by rw [u3]; exact tA0_frm g3.2.2.2.2.2 (tA0_frm f2 hA)) (Int.le_refl _) (Nat.lt_succ_self _) ⟨had, ?_, ?_⟩
      · rw [f3.kF H c_a365 c_q50 rfl rfl]; exact hh
      · have c1 : c_cnt (tr vs) 60 ≤ c_cnt (fun k => shL h k ∧ GB h k day.toInt film.toInt) 60 := c_cnt_le fun j _ p => ⟨⟨had, hh, by have := hA.2.2.2.2 j p; omega⟩, hG j p⟩
        omega
    · intro ν1 h2 x1 g1
      refine b_pe.to rfl ?_
      have m1 := x1.2 1 (by decide)
      have m2 := x1.2 2 (by decide)
      have m3 := x1.2 3 (by decide)
      have m4 := x1.2 4 (by decide)
      have m5 := x1.2 5 (by decide)
      have k1 : ν1 6 ≤ ν1 5 + 0 := g1.co (by decide)
      have k2 : ν1 5 ≤ ν1 6 + 0 := g1.co (by decide)
      have k3 : ν1 6 ≤ ν1 3 + (-1) := g1.co (by decide)
      have iv6 := g1.iv 6 (lo := 0) (hi := 59) rfl
      have H2 := g1.2.2.2.2.1
      have f2 := frm0 fr g1.2.2.2.2.2
      have A2 := tA0_frm g1.2.2.2.2.2 hA
      intro al st hl hst
      obtain ⟨v1, t1, rfl, a1, b1⟩ := hst.inv
      obtain ⟨v2, t2, rfl, a2, b2⟩ := b1.inv
      obtain ⟨v3, t3, rfl, a3, b3⟩ := b2.inv
      obtain ⟨v4, t4, rfl, a4, b4⟩ := b3.inv
      obtain ⟨v5, t5, rfl, a5, b5⟩ := b4.inv
      obtain ⟨v6, t6, rfl, a6, b6⟩ := b5.inv
      obtain rfl := b6.inv0
      obtain ⟨f', rfl, f1⟩ := a1.int (by show 1 < 2; decide)
      obtain ⟨d', rfl, d1⟩ := a2.int (by show 1 < 2; decide)
      obtain ⟨k, rfl, j1⟩ := a3.int (by show 1 < 2; decide)
      obtain ⟨r3, rfl, r4⟩ := a4.ref (Or.inl rfl)
      obtain ⟨k', rfl, j2⟩ := a5.int (by show 1 < 2; decide)
      obtain ⟨a', rfl, j3⟩ := a6.ref (Or.inr rfl)
      have f1 := f1.v
      have d1 := d1.v
      have j1 := j1.v
      have j2 := j2.v
      have j3 := j3.v
      have r4 := r4.k
      have ed : d' = day := Int32.toInt_inj.mp (by omega)
      have ef : f' = film := Int32.toInt_inj.mp (by omega)
      have ek : k' = k := Int32.toInt_inj.mp (by omega)
      have ea' : a' = a := Int.ofNat.inj (j3.trans (m4.trans ea))
      rw [ed, ef, ek, ea', r4]
      obtain ⟨x, h3, y1, y2, y3, y4, y5'⟩ := gb H2 (k := k) (by omega) hd hf
      obtain ⟨vM, hM⟩ := c_o365 H2
      have fr3 := frm0 f2 y4
      have kk : k.toInt.toNat = (ν 5).toNat := by omega
      rw [GB_iff H f2 (by decide), kk] at y5'
      obtain ⟨q1, q2, q3, q4, q5⟩ := tA0_frm y4 A2
      obtain ⟨i1, i2, i3⟩ := b_ix_ok (j := k) (n := vs.length) (by omega) (by omega)
      have ik : k.toNatClampNeg = (ν 5).toNat := by rw [← kk]; rfl
      have nar : a_ast .bastore 21 (.int x) = some (.int x) := by
        rcases y2 with q | q
        · rw [c_is0 q]; decide +kernel
        · rw [c_is1 q]; decide +kernel
      have A4 : tA0 (h3.set a (21, vs.set (ν 5).toNat (.int x))) a (vs.set (ν 5).toNat (.int x)) (ν 3) := by
        refine ⟨q1, List.getElem?_set_self (List.getElem?_eq_some_iff.mp q2).1, by rw [List.length_set]; exact q3, fun v hv => ?_, fun j hj => ?_⟩
        · rcases List.mem_or_eq_of_mem_set hv with c | c
          · exact q4 v c
          · exact ⟨x, c, y2⟩
        · unfold tr at hj
          by_cases e : j = (ν 5).toNat
          · omega
          · rw [List.getElem?_set_ne (Ne.symm e)] at hj
            exact q5 j hj
      have G4 : ∀ j, tr (vs.set (ν 5).toNat (.int x)) j → GB h j day.toInt film.toInt := fun j hj => by
        unfold tr at hj
        by_cases e : j = (ν 5).toNat
        · rw [e, List.getElem?_set_self (by omega)] at hj
          cases hj
          rw [e]
          exact y5'.mp (by decide)
        · rw [List.getElem?_set_ne (Ne.symm e)] at hj
          exact hG j hj
      have H4 := H_setE (c := (21, vs.set (ν 5).toNat (.int x))) y3 q1
      have fr4 := frm_setE (c := (21, vs.set (ν 5).toNat (.int x))) fr3 hla
      have g4 : b_G c_K ν1 (h3.set a (21, vs.set (ν 5).toNat (.int x))) (h3.set a (21, vs.set (ν 5).toNat (.int x))) (tC.2.1.2.2.1 ++ [(0, 0, 59)], [], [], [], []) := ⟨g1.1, (fun f hf => by cases hf), (fun f hf => by cases hf), (fun f hf => by cases hf), H4, b_frm.rf⟩
      have cont : b_ge 5 219 38 [some (2, 365, 0), some (1, 0, 0), some (1, 1, 0), some (1, 2, 0), some (1, 3, 0), some (0, 0, 0), some (3, 4, 0), some (1, 6, 0), none] [] 7 ν1 (h3.set a (21, vs.set (ν 5).toNat (.int x))) 1 60 (tP h) := by
        refine b_ge.cv (G := (tC.2.1.2.2.1 ++ [(0, 0, 59)], [], [], [], [])) (T := (tD.2.1.2.2.1, [], [])) (bl := tD.2.1.1) (bs := []) (σ := [(1, 0, 0), (1, 1, 0), (1, 2, 0), (1, 3, 0), (3, 4, 0), (1, 6, 0)]) (by decide +kernel) g4 (fun g5 => ?_)
        refine b_ge.sg (S := tD) c_hJ tO tDC g5 (b_al.c ?_ b_al.n)
        intro ν3 h5 x3 g6
        refine b_pe.to rfl ?_
        have n1 : ν3 1 = ν 1 := (x3.2 1 (by decide)).trans (by show ν1 1 + 0 = _; omega)
        have n2 : ν3 2 = ν 2 := (x3.2 2 (by decide)).trans (by show ν1 2 + 0 = _; omega)
        have n3 : ν3 3 = ν 3 := (x3.2 3 (by decide)).trans (by show ν1 3 + 0 = _; omega)
        have n4 : ν3 4 = ν 4 := (x3.2 4 (by decide)).trans m4
        have n5 : ν3 5 = ν 5 := (x3.2 5 (by decide)).trans (by show ν1 6 + 0 = _; omega)
        refine b_ge.cv (T := (tC.2.1.2.2.1, [], [])) (bl := tC.2.1.1) (bs := []) (σ := [(1, 0, 0), (1, 1, 0), (1, 2, 0), (1, 3, 0), (3, 4, 0), (1, 5, 1)]) (by decide +kernel) g6 (fun g7 => ?_)
        have u3 : b_vT [(1, 0, 0), (1, 1, 0), (1, 2, 0), (1, 3, 0), (3, 4, 0), (1, 5, 1)] ν3 3 = ν 3 := by show ν3 3 + 0 = _; omega
        have u5 : b_vT [(1, 0, 0), (1, 1, 0), (1, 2, 0), (1, 3, 0), (3, 4, 0), (1, 5, 1)] ν3 5 = ν 5 + 1 := by show ν3 5 + 1 = _; omega
        exact t18 H hla hd hf hh hc m _ h5 _ (frm0 fr4 g6.2.2.2.2.2) g7 (by show ν3 1 + 0 = _; omega) (by show ν3 2 + 0 = _; omega) (u3.trans e3) (n4.trans ea) (by rw [u3]; exact tA0_frm g6.2.2.2.2.2 A4) G4 (by rw [u5]; omega)
      obtain ⟨r, r1, r2⟩ := cont al [] hl b_S.nil
      refine ⟨r, b_R.cal tI34 rfl rfl (c_calV (k := 4) tI34c c_n218.1 c_n218.2 (by show 4 ≤ 6; decide) (Nat.le_of_ble_eq_true rfl) rfl hM) (b_lim_up (k := 1) y1) (b_R.stp tI37 rfl rfl rfl (a_by4 rfl (b_st4A (Or.inr (Or.inl rfl)) q2 nar i1)) ?_), r2⟩
      rw [ik]
      exact r1
/-- takes, where there is room for all that go -/
theorem tk {h : AH} (H : b_H c_K h) {c day film : Int32} (hcz : 100 ≤ c.toInt ∧ c.toInt ≤ 115) (hd : -1 ≤ day.toInt ∧ day.toInt ≤ 9) (hf : -1 ≤ film.toInt ∧ film.toInt ≤ 19) {had : Int32} (hh : c_at h 365 49 = some (.int had)) (hc : had.toInt + (c_cnt (fun k => shL h k ∧ GB h k day.toInt film.toInt) 60 : Int) ≤ 60) : ∃ (x : Int32) (h' : AH), b_lim 6 219 [.ref 365, .int c, .int day, .int film] h = some (.inl (some (.int x)), h', 1, 60) ∧ 0 ≤ x.toInt ∧ x.toInt ≤ 60 ∧ b_H c_K h' ∧ b_frm c_K tW h h' := by
  generalize hν : (fun n => match n with | 0 => c.toInt | 1 => day.toInt | _ => film.toInt : BN) = ν
  have v0 : ν 0 = c.toInt := by subst hν; rfl
  have v1 : ν 1 = day.toInt := by subst hν; rfl
  have v2 : ν 2 = film.toInt := by subst hν; rfl
  have g0 : b_G c_K ν h h (tA.2.1.2.2.1, [], [], [], []) := ⟨(fun n q hq => by
    rcases n with _ | _ | _ | n
    · cases hq; rw [v0]; exact b_q.i hcz.1 hcz.2
    · cases hq; rw [v1]; exact b_q.i hd.1 hd.2
    · cases hq; rw [v2]; exact b_q.i hf.1 hf.2
    · cases hq), (fun f hf => by cases hf), (fun f hf => by cases hf), (fun f hf => by cases hf), H, b_frm.rf⟩
  obtain ⟨r, r1, x, h', e, k⟩ : ∃ r, b_lim 6 219 [.ref 365, .int c, .int day, .int film] h = some r ∧ tP h r := by
    refine b_ge.lim (N := 3) (ν := ν) (bas := [(2, 365, 0), (1, 0, 0), (1, 1, 0), (1, 2, 0)]) (by decide +kernel) (b_S.cons (Or.inl ⟨rfl, rfl⟩) (b_S.cons (Or.inr ⟨rfl, by decide, by show _ = ν 0 + 0; omega⟩) (b_S.cons (Or.inr ⟨rfl, by decide, by show _ = ν 1 + 0; omega⟩) (b_S.cons (Or.inr ⟨rfl, by decide, by show _ = ν 2 + 0; omega⟩) b_S.nil)))) ?_
    refine b_ge.sg (S := tA) c_hJ tO tAC g0 (b_al.c ?_ b_al.n)
    intro ν1 h1 x1 g1
    refine b_pe.to rfl ?_
    have m1 : ν1 1 = day.toInt := (x1.2 1 (by decide)).trans v1
    have m2 : ν1 2 = film.toInt := (x1.2 2 (by decide)).trans v2
    have fr1 := g1.2.2.2.2.2
    have H1 := g1.2.2.2.2.1
    have L1 := c_len H1
    obtain ⟨z, z1, z2⟩ := g1.rdF (a := 365) (j := 49) (m := 3) (k' := 0) (by rfl)
    rw [fr1.kF H c_a365 c_q50 rfl rfl, hh] at z1
    cases z1
    intro al st hl hst
    obtain ⟨w1, t1, rfl, a1, b1⟩ := hst.inv
    obtain rfl := b1.inv0
    obtain ⟨n60, rfl, c60⟩ := a1.int (by show 0 < 2; decide)
    have c60 := c60.k
    have e60 : n60 = 60 := Int32.toInt_inj.mp (by have z : (60 : Int32).toInt = 60 := by decide
                                                  omega)
    subst e60
    have g2 := g1.ad (ν' := b_nu ν1 4 h1.length) (E' := [(1, 1, 0)]) (F' := []) (C' := []) (fun n hn => if_neg (Nat.ne_of_lt hn)) ⟨by show b_q _ _ (b_nu ν1 4 h1.length 4); rw [b_nu_n]; exact b_q.r0, trivial⟩ trivial trivial
    have g3 := (g2.app c_hJ (c := (21, List.replicate 60 (.int 0)))).bare
    have hx : ∀ n, n < 4 → b_nu ν1 4 h1.length n = ν1 n := fun n hn => if_neg (Nat.ne_of_lt hn)
    have hl2 : b_L 5 (b_nu ν1 4 h1.length) [some (2, 365, 0), some (1, 0, 0), some (1, 1, 0), some (1, 2, 0), some (1, 3, 0), some (0, 0, 0), none, none, none] al := hl.ext b_nu_ext
    obtain ⟨al2, s1, s2⟩ := b_sto_ok (k := 6) (b := (3, 4, 0)) (bl' := tB.2.1.1) hl2 (v := .ref h1.length) (Or.inr ⟨rfl, by decide, by rw [b_nu_n]⟩) rfl
    have fr2 : b_frm c_K [] h (h1 ++ [(21, List.replicate 60 (.int 0))]) := frm0 fr1 b_frm.app
    have lh : h.length ≤ h1.length := by
      rcases Nat.lt_or_ge h1.length h.length with q | q
      · obtain ⟨us, k1, -⟩ := fr1 h1.length _ (List.getElem?_eq_getElem q)
        have := (List.getElem?_eq_some_iff.mp k1).1
        omega
      · exact q
    have cont : b_ge 5 219 15 tB.2.1.1 [] tB.2.1.2.2.1.length (b_nu ν1 4 h1.length) (h1 ++ [(21, List.replicate 60 (.int 0))]) 1 60 (tP h) := by
      refine b_ge.sg (S := tB) c_hJ tO tBC g3 (b_al.c ?_ b_al.n)
      intro ν3 h3 x3 g4
      refine b_pe.to rfl ?_
      have n1 : ν3 1 = day.toInt := (x3.2 1 (by decide)).trans ((hx 1 (by decide)).trans m1)
      have n2 : ν3 2 = film.toInt := (x3.2 2 (by decide)).trans ((hx 2 (by decide)).trans m2)
      have n3 : ν3 3 = had.toInt := (x3.2 3 (by decide)).trans ((hx 3 (by decide)).trans (by omega))
      have n4 : ν3 4 = h1.length := (x3.2 4 (by decide)).trans b_nu_n
      refine b_ge.cv (T := (tC.2.1.2.2.1, [], [])) (bl := tC.2.1.1) (bs := []) (σ := [(1, 0, 0), (1, 1, 0), (1, 2, 0), (1, 3, 0), (3, 4, 0), (0, 0, 0)]) (by decide +kernel) g4 (fun g5 => ?_)
      have u3 : b_vT [(1, 0, 0), (1, 1, 0), (1, 2, 0), (1, 3, 0), (3, 4, 0), (0, 0, 0)] ν3 3 = had.toInt := by show ν3 3 + 0 = _; omega
      have no : ∀ j, ¬ tr (List.replicate 60 (.int 0)) j := fun j q => by
        have := List.eq_of_mem_replicate (List.mem_of_getElem? q)
        cases this
      have A0 : tA0 (h1 ++ [(21, List.replicate 60 (.int 0))]) h1.length (List.replicate 60 (.int 0)) had.toInt := ⟨L1, c_atE, List.length_replicate, fun v hv => ⟨0, List.eq_of_mem_replicate hv, Or.inl (by decide)⟩, fun j hj => absurd hj (no j)⟩
      exact t18 H lh hd hf hh hc _ _ h3 _ (frm0 fr2 g4.2.2.2.2.2) g5 (by show ν3 1 + 0 = _; omega) (by show ν3 2 + 0 = _; omega) u3 n4 (by rw [u3]; exact tA0_frm g4.2.2.2.2.2 A0) (fun j hj => absurd hj (no j)) (Nat.lt_succ_self _)
    obtain ⟨r, r1, r2⟩ := cont al2 [] s2 b_S.nil
    refine ⟨r, ?_, r2⟩
    show b_R 5 219 11 al [.int 60] h1 0 0 r
    refine b_R.stp tI11 rfl rfl rfl tN ?_
    refine b_R.stp tI13 rfl rfl rfl (a_by1 rfl (by show (a_sto al 6 (.ref h1.length)).map _ = _; rw [s1]; rfl)) ?_
    exact r1
  subst e
  exact ⟨x, h', r1, k⟩
