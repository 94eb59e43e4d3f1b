/-! The calls' goals, on (wip/law4.py) -/
theorem c_g1240 : c_goal 1240 := c_goal_gen (S := c_sG1240) (b_orc_ok c_hJ (tab := [c_r280, c_r216]) (List.forall_mem_cons.mpr ⟨c_v280, List.forall_mem_cons.mpr ⟨c_v216, fun _ h => absurd h List.not_mem_nil⟩⟩) 3000 12) c_sG1240C c_sG1240B (by decide +kernel)
theorem c_g1268 : c_goal 1268 := c_goal_gen (S := c_sG1268) (b_orc_ok c_hJ (tab := [c_r115, c_r217]) (List.forall_mem_cons.mpr ⟨c_v115, List.forall_mem_cons.mpr ⟨c_v217, fun _ h => absurd h List.not_mem_nil⟩⟩) 3000 12) c_sG1268C c_sG1268B (by decide +kernel)
theorem c_g1281 : c_goal 1281 := c_goal_gen (S := c_sG1281) (b_orc_ok c_hJ (tab := [c_r281, c_r221]) (List.forall_mem_cons.mpr ⟨c_v281, List.forall_mem_cons.mpr ⟨c_v221, fun _ h => absurd h List.not_mem_nil⟩⟩) 3000 12) c_sG1281C c_sG1281B (by decide +kernel)
theorem c_g1309 : c_goal 1309 := c_goal_gen (S := c_sG1309) (b_orc_ok c_hJ (tab := [c_r282, c_r222]) (List.forall_mem_cons.mpr ⟨c_v282, List.forall_mem_cons.mpr ⟨c_v222, fun _ h => absurd h List.not_mem_nil⟩⟩) 3000 12) c_sG1309C c_sG1309B (by decide +kernel)
theorem c_g1349 : c_goal 1349 := by
  intro ν al h mc ms hl g R
  have H := g.2.2.2.2.1
  obtain ⟨x, ex⟩ := c_scr g (j := 1) (by decide)
  have bx := b_32 x
  have i0 := g.iv 0 (lo := 0) (hi := 3072) rfl
  have i1 := g.iv 1 (lo := 0) (hi := 3072) rfl
  have i2 := g.iv 2 (lo := 0) (hi := 20) rfl
  have i3 := g.iv 3 (lo := 0) (hi := 40) rfl
  have hp : 1349 ≠ 28 := by decide
  have hO := b_orc_ok (K := c_K) c_hJ (tab := [c_r223a, c_r223b, c_r223c, c_r223l, c_r223g, c_r223d, c_r43, c_r45]) (List.forall_mem_cons.mpr ⟨c_v223a, List.forall_mem_cons.mpr ⟨c_v223b, List.forall_mem_cons.mpr ⟨c_v223c, List.forall_mem_cons.mpr ⟨c_v223l, List.forall_mem_cons.mpr ⟨c_v223g, List.forall_mem_cons.mpr ⟨c_v223d, List.forall_mem_cons.mpr ⟨c_v43, List.forall_mem_cons.mpr ⟨c_v45, fun _ h => absurd h List.not_mem_nil⟩⟩⟩⟩⟩⟩⟩⟩) 3000 12
  by_cases h1 : x.toInt < 0
  · generalize hν : (fun n => match n with
      | 4 => x.toInt
      | n => ν n : BN) = ν2
    have hx : ∀ n, n < 4 → ν2 n = ν n := fun n hn => by
      rw [← hν]
      rcases n with _ | _ | _ | _ | n <;> first | rfl | (exfalso; omega)
    have u0 : ν2 0 = ν 0 := hx 0 (by decide)
    have u1 : ν2 1 = ν 1 := hx 1 (by decide)
    have u2 : ν2 2 = ν 2 := hx 2 (by decide)
    have u3 : ν2 3 = ν 3 := hx 3 (by decide)
    have u4 : ν2 4 = x.toInt := by subst hν; rfl
    have g2 := g.ad (ν' := ν2) (E' := [(0, (-2147483648), (-1))]) (F' := [((2, 0, 0), (1, 0, 1), (1, 4, 0))]) (C' := [(0, 0, 1)]) hx
      ⟨(by show b_q _ _ (ν2 4); rw [u4]; exact b_q.i (by omega) (by omega)), trivial⟩
      ⟨b_fa.mk ex (Or.inl ⟨rfl, rfl⟩) (Or.inr ⟨rfl, by decide, by show _ = ν2 0 + 1; omega⟩) (Or.inr ⟨rfl, by decide, by show _ = ν2 4 + 0; omega⟩), trivial⟩
      ⟨⟨by decide, by decide, by show ν2 0 ≤ ν2 0 + 1; omega⟩, trivial⟩
    exact c_sp hO c_sWithdraw1C c_sWithdraw1B hl hx (Q := c_Rel) g2 (b_al_of fun p hp ν' h' x' g' => c_Rel_frm H (show b_frm c_K c_sWithdraw1.2.2.1 h h' from g'.2.2.2.2.2) (by decide +kernel) R)
  by_cases h2 : ν 2 ≤ x.toInt
  · generalize hν : (fun n => match n with
      | 4 => x.toInt
      | n => ν n : BN) = ν2
    have hx : ∀ n, n < 4 → ν2 n = ν n := fun n hn => by
      rw [← hν]
      rcases n with _ | _ | _ | _ | n <;> first | rfl | (exfalso; omega)
    have u0 : ν2 0 = ν 0 := hx 0 (by decide)
    have u1 : ν2 1 = ν 1 := hx 1 (by decide)
    have u2 : ν2 2 = ν 2 := hx 2 (by decide)
    have u3 : ν2 3 = ν 3 := hx 3 (by decide)
    have u4 : ν2 4 = x.toInt := by subst hν; rfl
    have g2 := g.ad (ν' := ν2) (E' := [(0, 0, 2147483647)]) (F' := [((2, 0, 0), (1, 0, 1), (1, 4, 0))]) (C' := [(2, 4, 0), (0, 0, 1)]) hx
      ⟨(by show b_q _ _ (ν2 4); rw [u4]; exact b_q.i (by omega) (by omega)), trivial⟩
      ⟨b_fa.mk ex (Or.inl ⟨rfl, rfl⟩) (Or.inr ⟨rfl, by decide, by show _ = ν2 0 + 1; omega⟩) (Or.inr ⟨rfl, by decide, by show _ = ν2 4 + 0; omega⟩), trivial⟩
      ⟨⟨by decide, by decide, by show ν2 2 ≤ ν2 4 + 0; omega⟩, ⟨by decide, by decide, by show ν2 0 ≤ ν2 0 + 1; omega⟩, trivial⟩
    exact c_sp hO c_sWithdraw2C c_sWithdraw2B hl hx (Q := c_Rel) g2 (b_al_of fun p hp ν' h' x' g' => c_Rel_frm H (show b_frm c_K c_sWithdraw2.2.2.1 h h' from g'.2.2.2.2.2) (by decide +kernel) R)
  obtain ⟨k, hk, hkn⟩ : ∃ k : Nat, (k : Int) = x.toInt ∧ k < 20 := ⟨x.toInt.toNat, by omega, by omega⟩
  obtain ⟨y, ey, y1, y2⟩ := H.rdI (a := 17 + k) (j := 4) (lo := 0) (hi := 1) (c_gF k hkn) c_rq3 (by decide) (by decide) rfl
  obtain ⟨w, ew, w1, w2⟩ := H.rdI (a := 372) (j := k) (lo := 0) (hi := 1) c_ra372 c_rq57 (by decide) hkn rfl
  have rk := R.2.1 k hkn
  rw [c_I_of ey, c_I_of ew] at rk
  rcases (by omega : y.toInt = 0 ∨ y.toInt = 1) with q1 | q1
  · refine c_res.mono (c_res.all hp (Q := fun h' => c_Fx h' ∧ c_RQ h') (P := fun i h' => c_I h' (17 + i) 4 = c_I h' 372 i) (n := 20) ?_ (fun i hi => ?_)) (fun h' q => ⟨q.1.1, (fun i hi => q.2 i hi), q.1.2⟩)
    · generalize hν : (fun n => match n with
        | 4 => x.toInt
        | 5 => ((17 + k : Nat) : Int)
        | n => ν n : BN) = ν2
      have hx : ∀ n, n < 4 → ν2 n = ν n := fun n hn => by
        rw [← hν]
        rcases n with _ | _ | _ | _ | n <;> first | rfl | (exfalso; omega)
      have u0 : ν2 0 = ν 0 := hx 0 (by decide)
      have u1 : ν2 1 = ν 1 := hx 1 (by decide)
      have u2 : ν2 2 = ν 2 := hx 2 (by decide)
      have u3 : ν2 3 = ν 3 := hx 3 (by decide)
      have u4 : ν2 4 = x.toInt := by subst hν; rfl
      have u5 : ν2 5 = ((17 + k : Nat) : Int) := by subst hν; rfl
      have g2 := g.ad (ν' := ν2) (E' := [(0, 0, 19), (4, 0, 0)]) (F' := [((2, 0, 0), (1, 0, 1), (1, 4, 0)), ((2, 3, 0), (1, 4, 0), (3, 5, 0)), ((3, 5, 0), (0, 0, 4), (0, 0, 0)), ((2, 372, 0), (1, 4, 0), (0, 0, 0))]) (C' := [(4, 2, (-1)), (0, 0, 2), (0, 0, 1)]) hx
        ⟨(by show b_q _ _ (ν2 4); rw [u4]; exact b_q.i (by omega) (by omega)), (by show b_q _ _ (ν2 5); rw [u5]; exact b_q.r (c_gF k hkn)), trivial⟩
        ⟨b_fa.mk ex (Or.inl ⟨rfl, rfl⟩) (Or.inr ⟨rfl, by decide, by show _ = ν2 0 + 1; omega⟩) (Or.inr ⟨rfl, by decide, by show _ = ν2 4 + 0; omega⟩), b_fa.mk (R.1.1 k hkn) (Or.inl ⟨rfl, rfl⟩) (Or.inr ⟨rfl, by decide, by show _ = ν2 4 + 0; omega⟩) (Or.inr ⟨rfl, by decide, by show _ = ν2 5; omega⟩), b_fa.mk ey (Or.inr ⟨rfl, by decide, by show _ = ν2 5; omega⟩) (Or.inl ⟨rfl, rfl⟩) (Or.inl ⟨rfl, by show _ = (0 : Int); omega⟩), b_fa.mk ew (Or.inl ⟨rfl, rfl⟩) (Or.inr ⟨rfl, by decide, by show _ = ν2 4 + 0; omega⟩) (Or.inl ⟨rfl, by show _ = (0 : Int); omega⟩), trivial⟩
        ⟨⟨by decide, by decide, by show ν2 4 ≤ ν2 2 + (-1); omega⟩, ⟨by decide, by decide, by show ν2 0 ≤ ν2 0 + 2; omega⟩, ⟨by decide, by decide, by show ν2 0 ≤ ν2 0 + 1; omega⟩, trivial⟩
      exact c_sp hO c_sWithdrawxMC c_sWithdrawxMB hl hx g2 (b_al_of fun p hp ν' h' x' g' => ⟨c_Fx_frm H (show b_frm c_K c_sWithdrawxM.2.2.1 h h' from g'.2.2.2.2.2) (by decide +kernel) R.1, c_RQ_frm H (show b_frm c_K c_sWithdrawxM.2.2.1 h h' from g'.2.2.2.2.2) (by decide +kernel) R.2.2⟩)
    · have fi := R.2.1 i hi
      rcases Nat.lt_trichotomy i k with c | c | c
      · obtain ⟨ya, eya, ya1, ya2⟩ := H.rdI (a := 17 + i) (j := 4) (lo := 0) (hi := 1) (c_gF i hi) c_rq3 (by decide) (by decide) rfl
        obtain ⟨wa, ewa, wa1, wa2⟩ := H.rdI (a := 372) (j := i) (lo := 0) (hi := 1) c_ra372 c_rq57 (by decide) hi rfl
        rw [c_I_of eya, c_I_of ewa] at fi
        generalize hν : (fun n => match n with
          | 4 => x.toInt
          | 5 => ((17 + k : Nat) : Int)
          | 6 => (i : Int)
          | 7 => ((17 + i : Nat) : Int)
          | 8 => ya.toInt
          | 9 => wa.toInt
          | n => ν n : BN) = ν2
        have hx : ∀ n, n < 4 → ν2 n = ν n := fun n hn => by
          rw [← hν]
          rcases n with _ | _ | _ | _ | n <;> first | rfl | (exfalso; omega)
        have u0 : ν2 0 = ν 0 := hx 0 (by decide)
        have u1 : ν2 1 = ν 1 := hx 1 (by decide)
        have u2 : ν2 2 = ν 2 := hx 2 (by decide)
        have u3 : ν2 3 = ν 3 := hx 3 (by decide)
        have u4 : ν2 4 = x.toInt := by subst hν; rfl
        have u5 : ν2 5 = ((17 + k : Nat) : Int) := by subst hν; rfl
        have u6 : ν2 6 = (i : Int) := by subst hν; rfl
        have u7 : ν2 7 = ((17 + i : Nat) : Int) := by subst hν; rfl
        have u8 : ν2 8 = ya.toInt := by subst hν; rfl
        have u9 : ν2 9 = wa.toInt := by subst hν; rfl
        have g2 := g.ad (ν' := ν2) (E' := [(0, 0, 19), (4, 0, 0), (0, 0, 19), (4, 0, 0), (0, 0, 1), (0, 0, 1)]) (F' := [((2, 3, 0), (1, 6, 0), (3, 7, 0)), ((3, 7, 0), (0, 0, 4), (1, 8, 0)), ((2, 372, 0), (1, 6, 0), (1, 9, 0)), ((2, 0, 0), (1, 0, 1), (1, 4, 0)), ((2, 3, 0), (1, 4, 0), (3, 5, 0)), ((3, 5, 0), (0, 0, 4), (0, 0, 0)), ((2, 372, 0), (1, 4, 0), (0, 0, 0))]) (C' := [(4, 2, (-1)), (6, 4, (-1)), (7, 5, (-1)), (0, 0, 2), (0, 0, 1)]) hx
          ⟨(by show b_q _ _ (ν2 4); rw [u4]; exact b_q.i (by omega) (by omega)), (by show b_q _ _ (ν2 5); rw [u5]; exact b_q.r (c_gF k hkn)), (by show b_q _ _ (ν2 6); rw [u6]; exact b_q.i (by omega) (by omega)), (by show b_q _ _ (ν2 7); rw [u7]; exact b_q.r (c_gF i hi)), (by show b_q _ _ (ν2 8); rw [u8]; exact b_q.i (by omega) (by omega)), (by show b_q _ _ (ν2 9); rw [u9]; exact b_q.i (by omega) (by omega)), trivial⟩
          ⟨b_fa.mk (R.1.1 i hi) (Or.inl ⟨rfl, rfl⟩) (Or.inr ⟨rfl, by decide, by show _ = ν2 6 + 0; omega⟩) (Or.inr ⟨rfl, by decide, by show _ = ν2 7; omega⟩), b_fa.mk eya (Or.inr ⟨rfl, by decide, by show _ = ν2 7; omega⟩) (Or.inl ⟨rfl, rfl⟩) (Or.inr ⟨rfl, by decide, by show _ = ν2 8 + 0; omega⟩), b_fa.mk ewa (Or.inl ⟨rfl, rfl⟩) (Or.inr ⟨rfl, by decide, by show _ = ν2 6 + 0; omega⟩) (Or.inr ⟨rfl, by decide, by show _ = ν2 9 + 0; omega⟩), b_fa.mk ex (Or.inl ⟨rfl, rfl⟩) (Or.inr ⟨rfl, by decide, by show _ = ν2 0 + 1; omega⟩) (Or.inr ⟨rfl, by decide, by show _ = ν2 4 + 0; omega⟩), b_fa.mk (R.1.1 k hkn) (Or.inl ⟨rfl, rfl⟩) (Or.inr ⟨rfl, by decide, by show _ = ν2 4 + 0; omega⟩) (Or.inr ⟨rfl, by decide, by show _ = ν2 5; omega⟩), b_fa.mk ey (Or.inr ⟨rfl, by decide, by show _ = ν2 5; omega⟩) (Or.inl ⟨rfl, rfl⟩) (Or.inl ⟨rfl, by show _ = (0 : Int); omega⟩), b_fa.mk ew (Or.inl ⟨rfl, rfl⟩) (Or.inr ⟨rfl, by decide, by show _ = ν2 4 + 0; omega⟩) (Or.inl ⟨rfl, by show _ = (0 : Int); omega⟩), trivial⟩
          ⟨⟨by decide, by decide, by show ν2 4 ≤ ν2 2 + (-1); omega⟩, ⟨by decide, by decide, by show ν2 6 ≤ ν2 4 + (-1); omega⟩, ⟨by decide, by decide, by show ν2 7 ≤ ν2 5 + (-1); omega⟩, ⟨by decide, by decide, by show ν2 0 ≤ ν2 0 + 2; omega⟩, ⟨by decide, by decide, by show ν2 0 ≤ ν2 0 + 1; omega⟩, trivial⟩
        exact c_sp hO c_sWithdrawxLC c_sWithdrawxLB hl hx g2 (b_al.c (fun ν' h' x' g' => by
          have e1 : c_I h' (17 + i) 4 = ν' 8 + 0 := g'.rI (base := (3, 7, 0)) (slot := (0, 0, 4)) (val := (1, 8, 0)) (by rfl) (by decide) (by decide) (by show ((17 + i : Nat) : Int) = ν' 7; rw [x'.2 7 (by decide)]; exact u7.symm) rfl
          have e2 : c_I h' 372 i = ν' 9 + 0 := g'.rI (base := (2, 372, 0)) (slot := (1, 6, 0)) (val := (1, 9, 0)) (by rfl) (by decide) (by decide) rfl (by show (i : Int) = ν' 6 + 0; rw [x'.2 6 (by decide)]; omega)
          rw [x'.2 8 (by decide), u8, Int.add_zero] at e1
          rw [x'.2 9 (by decide), u9, Int.add_zero] at e2
          rw [e1, e2]
          exact fi) b_al.n)
      · subst c
        generalize hν : (fun n => match n with
          | 4 => x.toInt
          | 5 => ((17 + i : Nat) : Int)
          | n => ν n : BN) = ν2
        have hx : ∀ n, n < 4 → ν2 n = ν n := fun n hn => by
          rw [← hν]
          rcases n with _ | _ | _ | _ | n <;> first | rfl | (exfalso; omega)
        have u0 : ν2 0 = ν 0 := hx 0 (by decide)
        have u1 : ν2 1 = ν 1 := hx 1 (by decide)
        have u2 : ν2 2 = ν 2 := hx 2 (by decide)
        have u3 : ν2 3 = ν 3 := hx 3 (by decide)
        have u4 : ν2 4 = x.toInt := by subst hν; rfl
        have u5 : ν2 5 = ((17 + i : Nat) : Int) := by subst hν; rfl
        have g2 := g.ad (ν' := ν2) (E' := [(0, 0, 19), (4, 0, 0)]) (F' := [((2, 0, 0), (1, 0, 1), (1, 4, 0)), ((2, 3, 0), (1, 4, 0), (3, 5, 0)), ((3, 5, 0), (0, 0, 4), (0, 0, 0)), ((2, 372, 0), (1, 4, 0), (0, 0, 0))]) (C' := [(4, 2, (-1)), (0, 0, 2), (0, 0, 1)]) hx
          ⟨(by show b_q _ _ (ν2 4); rw [u4]; exact b_q.i (by omega) (by omega)), (by show b_q _ _ (ν2 5); rw [u5]; exact b_q.r (c_gF i hkn)), trivial⟩
          ⟨b_fa.mk ex (Or.inl ⟨rfl, rfl⟩) (Or.inr ⟨rfl, by decide, by show _ = ν2 0 + 1; omega⟩) (Or.inr ⟨rfl, by decide, by show _ = ν2 4 + 0; omega⟩), b_fa.mk (R.1.1 i hkn) (Or.inl ⟨rfl, rfl⟩) (Or.inr ⟨rfl, by decide, by show _ = ν2 4 + 0; omega⟩) (Or.inr ⟨rfl, by decide, by show _ = ν2 5; omega⟩), b_fa.mk ey (Or.inr ⟨rfl, by decide, by show _ = ν2 5; omega⟩) (Or.inl ⟨rfl, rfl⟩) (Or.inl ⟨rfl, by show _ = (0 : Int); omega⟩), b_fa.mk ew (Or.inl ⟨rfl, rfl⟩) (Or.inr ⟨rfl, by decide, by show _ = ν2 4 + 0; omega⟩) (Or.inl ⟨rfl, by show _ = (0 : Int); omega⟩), trivial⟩
          ⟨⟨by decide, by decide, by show ν2 4 ≤ ν2 2 + (-1); omega⟩, ⟨by decide, by decide, by show ν2 0 ≤ ν2 0 + 2; omega⟩, ⟨by decide, by decide, by show ν2 0 ≤ ν2 0 + 1; omega⟩, trivial⟩
        exact c_sp hO c_sWithdrawxMC c_sWithdrawxMB hl hx g2 (b_al.c (fun ν' h' x' g' => by
          have e1 : c_I h' (17 + i) 4 = (1 : Int) := g'.rI (base := (3, 5, 0)) (slot := (0, 0, 4)) (val := (0, 0, 1)) (by rfl) (by decide) (by decide) (by show ((17 + i : Nat) : Int) = ν' 5; rw [x'.2 5 (by decide)]; exact u5.symm) rfl
          have e2 : c_I h' 372 i = (1 : Int) := g'.rI (base := (2, 372, 0)) (slot := (1, 4, 0)) (val := (0, 0, 1)) (by rfl) (by decide) (by decide) rfl (by show (i : Int) = ν' 4 + 0; rw [x'.2 4 (by decide)]; omega)
          exact e1.trans e2.symm) b_al.n)
      · obtain ⟨ya, eya, ya1, ya2⟩ := H.rdI (a := 17 + i) (j := 4) (lo := 0) (hi := 1) (c_gF i hi) c_rq3 (by decide) (by decide) rfl
        obtain ⟨wa, ewa, wa1, wa2⟩ := H.rdI (a := 372) (j := i) (lo := 0) (hi := 1) c_ra372 c_rq57 (by decide) hi rfl
        rw [c_I_of eya, c_I_of ewa] at fi
        generalize hν : (fun n => match n with
          | 4 => x.toInt
          | 5 => ((17 + k : Nat) : Int)
          | 6 => (i : Int)
          | 7 => ((17 + i : Nat) : Int)
          | 8 => ya.toInt
          | 9 => wa.toInt
          | n => ν n : BN) = ν2
        have hx : ∀ n, n < 4 → ν2 n = ν n := fun n hn => by
          rw [← hν]
          rcases n with _ | _ | _ | _ | n <;> first | rfl | (exfalso; omega)
        have u0 : ν2 0 = ν 0 := hx 0 (by decide)
        have u1 : ν2 1 = ν 1 := hx 1 (by decide)
        have u2 : ν2 2 = ν 2 := hx 2 (by decide)
        have u3 : ν2 3 = ν 3 := hx 3 (by decide)
        have u4 : ν2 4 = x.toInt := by subst hν; rfl
        have u5 : ν2 5 = ((17 + k : Nat) : Int) := by subst hν; rfl
        have u6 : ν2 6 = (i : Int) := by subst hν; rfl
        have u7 : ν2 7 = ((17 + i : Nat) : Int) := by subst hν; rfl
        have u8 : ν2 8 = ya.toInt := by subst hν; rfl
        have u9 : ν2 9 = wa.toInt := by subst hν; rfl
        have g2 := g.ad (ν' := ν2) (E' := [(0, 0, 19), (4, 0, 0), (0, 0, 19), (4, 0, 0), (0, 0, 1), (0, 0, 1)]) (F' := [((2, 3, 0), (1, 6, 0), (3, 7, 0)), ((3, 7, 0), (0, 0, 4), (1, 8, 0)), ((2, 372, 0), (1, 6, 0), (1, 9, 0)), ((2, 0, 0), (1, 0, 1), (1, 4, 0)), ((2, 3, 0), (1, 4, 0), (3, 5, 0)), ((3, 5, 0), (0, 0, 4), (0, 0, 0)), ((2, 372, 0), (1, 4, 0), (0, 0, 0))]) (C' := [(4, 2, (-1)), (4, 6, (-1)), (5, 7, (-1)), (0, 0, 2), (0, 0, 1)]) hx
          ⟨(by show b_q _ _ (ν2 4); rw [u4]; exact b_q.i (by omega) (by omega)), (by show b_q _ _ (ν2 5); rw [u5]; exact b_q.r (c_gF k hkn)), (by show b_q _ _ (ν2 6); rw [u6]; exact b_q.i (by omega) (by omega)), (by show b_q _ _ (ν2 7); rw [u7]; exact b_q.r (c_gF i hi)), (by show b_q _ _ (ν2 8); rw [u8]; exact b_q.i (by omega) (by omega)), (by show b_q _ _ (ν2 9); rw [u9]; exact b_q.i (by omega) (by omega)), trivial⟩
          ⟨b_fa.mk (R.1.1 i hi) (Or.inl ⟨rfl, rfl⟩) (Or.inr ⟨rfl, by decide, by show _ = ν2 6 + 0; omega⟩) (Or.inr ⟨rfl, by decide, by show _ = ν2 7; omega⟩), b_fa.mk eya (Or.inr ⟨rfl, by decide, by show _ = ν2 7; omega⟩) (Or.inl ⟨rfl, rfl⟩) (Or.inr ⟨rfl, by decide, by show _ = ν2 8 + 0; omega⟩), b_fa.mk ewa (Or.inl ⟨rfl, rfl⟩) (Or.inr ⟨rfl, by decide, by show _ = ν2 6 + 0; omega⟩) (Or.inr ⟨rfl, by decide, by show _ = ν2 9 + 0; omega⟩), b_fa.mk ex (Or.inl ⟨rfl, rfl⟩) (Or.inr ⟨rfl, by decide, by show _ = ν2 0 + 1; omega⟩) (Or.inr ⟨rfl, by decide, by show _ = ν2 4 + 0; omega⟩), b_fa.mk (R.1.1 k hkn) (Or.inl ⟨rfl, rfl⟩) (Or.inr ⟨rfl, by decide, by show _ = ν2 4 + 0; omega⟩) (Or.inr ⟨rfl, by decide, by show _ = ν2 5; omega⟩), b_fa.mk ey (Or.inr ⟨rfl, by decide, by show _ = ν2 5; omega⟩) (Or.inl ⟨rfl, rfl⟩) (Or.inl ⟨rfl, by show _ = (0 : Int); omega⟩), b_fa.mk ew (Or.inl ⟨rfl, rfl⟩) (Or.inr ⟨rfl, by decide, by show _ = ν2 4 + 0; omega⟩) (Or.inl ⟨rfl, by show _ = (0 : Int); omega⟩), trivial⟩
          ⟨⟨by decide, by decide, by show ν2 4 ≤ ν2 2 + (-1); omega⟩, ⟨by decide, by decide, by show ν2 4 ≤ ν2 6 + (-1); omega⟩, ⟨by decide, by decide, by show ν2 5 ≤ ν2 7 + (-1); omega⟩, ⟨by decide, by decide, by show ν2 0 ≤ ν2 0 + 2; omega⟩, ⟨by decide, by decide, by show ν2 0 ≤ ν2 0 + 1; omega⟩, trivial⟩
        exact c_sp hO c_sWithdrawxGC c_sWithdrawxGB hl hx g2 (b_al.c (fun ν' h' x' g' => by
          have e1 : c_I h' (17 + i) 4 = ν' 8 + 0 := g'.rI (base := (3, 7, 0)) (slot := (0, 0, 4)) (val := (1, 8, 0)) (by rfl) (by decide) (by decide) (by show ((17 + i : Nat) : Int) = ν' 7; rw [x'.2 7 (by decide)]; exact u7.symm) rfl
          have e2 : c_I h' 372 i = ν' 9 + 0 := g'.rI (base := (2, 372, 0)) (slot := (1, 6, 0)) (val := (1, 9, 0)) (by rfl) (by decide) (by decide) rfl (by show (i : Int) = ν' 6 + 0; rw [x'.2 6 (by decide)]; omega)
          rw [x'.2 8 (by decide), u8, Int.add_zero] at e1
          rw [x'.2 9 (by decide), u9, Int.add_zero] at e2
          rw [e1, e2]
          exact fi) b_al.n)
  · refine c_res.mono (c_res.all hp (Q := fun h' => c_Fx h' ∧ c_RQ h') (P := fun i h' => c_I h' (17 + i) 4 = c_I h' 372 i) (n := 20) ?_ (fun i hi => ?_)) (fun h' q => ⟨q.1.1, (fun i hi => q.2 i hi), q.1.2⟩)
    · generalize hν : (fun n => match n with
        | 4 => x.toInt
        | 5 => ((17 + k : Nat) : Int)
        | n => ν n : BN) = ν2
      have hx : ∀ n, n < 4 → ν2 n = ν n := fun n hn => by
        rw [← hν]
        rcases n with _ | _ | _ | _ | n <;> first | rfl | (exfalso; omega)
      have u0 : ν2 0 = ν 0 := hx 0 (by decide)
      have u1 : ν2 1 = ν 1 := hx 1 (by decide)
      have u2 : ν2 2 = ν 2 := hx 2 (by decide)
      have u3 : ν2 3 = ν 3 := hx 3 (by decide)
      have u4 : ν2 4 = x.toInt := by subst hν; rfl
      have u5 : ν2 5 = ((17 + k : Nat) : Int) := by subst hν; rfl
      have g2 := g.ad (ν' := ν2) (E' := [(0, 0, 19), (4, 0, 0)]) (F' := [((2, 0, 0), (1, 0, 1), (1, 4, 0)), ((2, 3, 0), (1, 4, 0), (3, 5, 0)), ((3, 5, 0), (0, 0, 4), (0, 0, 1)), ((2, 372, 0), (1, 4, 0), (0, 0, 1))]) (C' := [(4, 2, (-1)), (0, 0, 2), (0, 0, 1)]) hx
        ⟨(by show b_q _ _ (ν2 4); rw [u4]; exact b_q.i (by omega) (by omega)), (by show b_q _ _ (ν2 5); rw [u5]; exact b_q.r (c_gF k hkn)), trivial⟩
        ⟨b_fa.mk ex (Or.inl ⟨rfl, rfl⟩) (Or.inr ⟨rfl, by decide, by show _ = ν2 0 + 1; omega⟩) (Or.inr ⟨rfl, by decide, by show _ = ν2 4 + 0; omega⟩), b_fa.mk (R.1.1 k hkn) (Or.inl ⟨rfl, rfl⟩) (Or.inr ⟨rfl, by decide, by show _ = ν2 4 + 0; omega⟩) (Or.inr ⟨rfl, by decide, by show _ = ν2 5; omega⟩), b_fa.mk ey (Or.inr ⟨rfl, by decide, by show _ = ν2 5; omega⟩) (Or.inl ⟨rfl, rfl⟩) (Or.inl ⟨rfl, by show _ = (1 : Int); omega⟩), b_fa.mk ew (Or.inl ⟨rfl, rfl⟩) (Or.inr ⟨rfl, by decide, by show _ = ν2 4 + 0; omega⟩) (Or.inl ⟨rfl, by show _ = (1 : Int); omega⟩), trivial⟩
        ⟨⟨by decide, by decide, by show ν2 4 ≤ ν2 2 + (-1); omega⟩, ⟨by decide, by decide, by show ν2 0 ≤ ν2 0 + 2; omega⟩, ⟨by decide, by decide, by show ν2 0 ≤ ν2 0 + 1; omega⟩, trivial⟩
      exact c_sp hO c_sWithdrawyMC c_sWithdrawyMB hl hx g2 (b_al_of fun p hp ν' h' x' g' => ⟨c_Fx_frm H (show b_frm c_K c_sWithdrawyM.2.2.1 h h' from g'.2.2.2.2.2) (by decide +kernel) R.1, c_RQ_frm H (show b_frm c_K c_sWithdrawyM.2.2.1 h h' from g'.2.2.2.2.2) (by decide +kernel) R.2.2⟩)
    · have fi := R.2.1 i hi
      rcases Nat.lt_trichotomy i k with c | c | c
      · obtain ⟨ya, eya, ya1, ya2⟩ := H.rdI (a := 17 + i) (j := 4) (lo := 0) (hi := 1) (c_gF i hi) c_rq3 (by decide) (by decide) rfl
        obtain ⟨wa, ewa, wa1, wa2⟩ := H.rdI (a := 372) (j := i) (lo := 0) (hi := 1) c_ra372 c_rq57 (by decide) hi rfl
        rw [c_I_of eya, c_I_of ewa] at fi
        generalize hν : (fun n => match n with
          | 4 => x.toInt
          | 5 => ((17 + k : Nat) : Int)
          | 6 => (i : Int)
          | 7 => ((17 + i : Nat) : Int)
          | 8 => ya.toInt
          | 9 => wa.toInt
          | n => ν n : BN) = ν2
        have hx : ∀ n, n < 4 → ν2 n = ν n := fun n hn => by
          rw [← hν]
          rcases n with _ | _ | _ | _ | n <;> first | rfl | (exfalso; omega)
        have u0 : ν2 0 = ν 0 := hx 0 (by decide)
        have u1 : ν2 1 = ν 1 := hx 1 (by decide)
        have u2 : ν2 2 = ν 2 := hx 2 (by decide)
        have u3 : ν2 3 = ν 3 := hx 3 (by decide)
        have u4 : ν2 4 = x.toInt := by subst hν; rfl
        have u5 : ν2 5 = ((17 + k : Nat) : Int) := by subst hν; rfl
        have u6 : ν2 6 = (i : Int) := by subst hν; rfl
        have u7 : ν2 7 = ((17 + i : Nat) : Int) := by subst hν; rfl
        have u8 : ν2 8 = ya.toInt := by subst hν; rfl
        have u9 : ν2 9 = wa.toInt := by subst hν; rfl
        have g2 := g.ad (ν' := ν2) (E' := [(0, 0, 19), (4, 0, 0), (0, 0, 19), (4, 0, 0), (0, 0, 1), (0, 0, 1)]) (F' := [((2, 3, 0), (1, 6, 0), (3, 7, 0)), ((3, 7, 0), (0, 0, 4), (1, 8, 0)), ((2, 372, 0), (1, 6, 0), (1, 9, 0)), ((2, 0, 0), (1, 0, 1), (1, 4, 0)), ((2, 3, 0), (1, 4, 0), (3, 5, 0)), ((3, 5, 0), (0, 0, 4), (0, 0, 1)), ((2, 372, 0), (1, 4, 0), (0, 0, 1))]) (C' := [(4, 2, (-1)), (6, 4, (-1)), (7, 5, (-1)), (0, 0, 2), (0, 0, 1)]) hx
          ⟨(by show b_q _ _ (ν2 4); rw [u4]; exact b_q.i (by omega) (by omega)), (by show b_q _ _ (ν2 5); rw [u5]; exact b_q.r (c_gF k hkn)), (by show b_q _ _ (ν2 6); rw [u6]; exact b_q.i (by omega) (by omega)), (by show b_q _ _ (ν2 7); rw [u7]; exact b_q.r (c_gF i hi)), (by show b_q _ _ (ν2 8); rw [u8]; exact b_q.i (by omega) (by omega)), (by show b_q _ _ (ν2 9); rw [u9]; exact b_q.i (by omega) (by omega)), trivial⟩
          ⟨b_fa.mk (R.1.1 i hi) (Or.inl ⟨rfl, rfl⟩) (Or.inr ⟨rfl, by decide, by show _ = ν2 6 + 0; omega⟩) (Or.inr ⟨rfl, by decide, by show _ = ν2 7; omega⟩), b_fa.mk eya (Or.inr ⟨rfl, by decide, by show _ = ν2 7; omega⟩) (Or.inl ⟨rfl, rfl⟩) (Or.inr ⟨rfl, by decide, by show _ = ν2 8 + 0; omega⟩), b_fa.mk ewa (Or.inl ⟨rfl, rfl⟩) (Or.inr ⟨rfl, by decide, by show _ = ν2 6 + 0; omega⟩) (Or.inr ⟨rfl, by decide, by show _ = ν2 9 + 0; omega⟩), b_fa.mk ex (Or.inl ⟨rfl, rfl⟩) (Or.inr ⟨rfl, by decide, by show _ = ν2 0 + 1; omega⟩) (Or.inr ⟨rfl, by decide, by show _ = ν2 4 + 0; omega⟩), b_fa.mk (R.1.1 k hkn) (Or.inl ⟨rfl, rfl⟩) (Or.inr ⟨rfl, by decide, by show _ = ν2 4 + 0; omega⟩) (Or.inr ⟨rfl, by decide, by show _ = ν2 5; omega⟩), b_fa.mk ey (Or.inr ⟨rfl, by decide, by show _ = ν2 5; omega⟩) (Or.inl ⟨rfl, rfl⟩) (Or.inl ⟨rfl, by show _ = (1 : Int); omega⟩), b_fa.mk ew (Or.inl ⟨rfl, rfl⟩) (Or.inr ⟨rfl, by decide, by show _ = ν2 4 + 0; omega⟩) (Or.inl ⟨rfl, by show _ = (1 : Int); omega⟩), trivial⟩
          ⟨⟨by decide, by decide, by show ν2 4 ≤ ν2 2 + (-1); omega⟩, ⟨by decide, by decide, by show ν2 6 ≤ ν2 4 + (-1); omega⟩, ⟨by decide, by decide, by show ν2 7 ≤ ν2 5 + (-1); omega⟩, ⟨by decide, by decide, by show ν2 0 ≤ ν2 0 + 2; omega⟩, ⟨by decide, by decide, by show ν2 0 ≤ ν2 0 + 1; omega⟩, trivial⟩
        exact c_sp hO c_sWithdrawyLC c_sWithdrawyLB hl hx g2 (b_al.c (fun ν' h' x' g' => by
          have e1 : c_I h' (17 + i) 4 = ν' 8 + 0 := g'.rI (base := (3, 7, 0)) (slot := (0, 0, 4)) (val := (1, 8, 0)) (by rfl) (by decide) (by decide) (by show ((17 + i : Nat) : Int) = ν' 7; rw [x'.2 7 (by decide)]; exact u7.symm) rfl
          have e2 : c_I h' 372 i = ν' 9 + 0 := g'.rI (base := (2, 372, 0)) (slot := (1, 6, 0)) (val := (1, 9, 0)) (by rfl) (by decide) (by decide) rfl (by show (i : Int) = ν' 6 + 0; rw [x'.2 6 (by decide)]; omega)
          rw [x'.2 8 (by decide), u8, Int.add_zero] at e1
          rw [x'.2 9 (by decide), u9, Int.add_zero] at e2
          rw [e1, e2]
          exact fi) b_al.n)
      · subst c
        generalize hν : (fun n => match n with
          | 4 => x.toInt
          | 5 => ((17 + i : Nat) : Int)
          | n => ν n : BN) = ν2
        have hx : ∀ n, n < 4 → ν2 n = ν n := fun n hn => by
          rw [← hν]
          rcases n with _ | _ | _ | _ | n <;> first | rfl | (exfalso; omega)
        have u0 : ν2 0 = ν 0 := hx 0 (by decide)
        have u1 : ν2 1 = ν 1 := hx 1 (by decide)
        have u2 : ν2 2 = ν 2 := hx 2 (by decide)
        have u3 : ν2 3 = ν 3 := hx 3 (by decide)
        have u4 : ν2 4 = x.toInt := by subst hν; rfl
        have u5 : ν2 5 = ((17 + i : Nat) : Int) := by subst hν; rfl
        have g2 := g.ad (ν' := ν2) (E' := [(0, 0, 19), (4, 0, 0)]) (F' := [((2, 0, 0), (1, 0, 1), (1, 4, 0)), ((2, 3, 0), (1, 4, 0), (3, 5, 0)), ((3, 5, 0), (0, 0, 4), (0, 0, 1)), ((2, 372, 0), (1, 4, 0), (0, 0, 1))]) (C' := [(4, 2, (-1)), (0, 0, 2), (0, 0, 1)]) hx
          ⟨(by show b_q _ _ (ν2 4); rw [u4]; exact b_q.i (by omega) (by omega)), (by show b_q _ _ (ν2 5); rw [u5]; exact b_q.r (c_gF i hkn)), trivial⟩
          ⟨b_fa.mk ex (Or.inl ⟨rfl, rfl⟩) (Or.inr ⟨rfl, by decide, by show _ = ν2 0 + 1; omega⟩) (Or.inr ⟨rfl, by decide, by show _ = ν2 4 + 0; omega⟩), b_fa.mk (R.1.1 i hkn) (Or.inl ⟨rfl, rfl⟩) (Or.inr ⟨rfl, by decide, by show _ = ν2 4 + 0; omega⟩) (Or.inr ⟨rfl, by decide, by show _ = ν2 5; omega⟩), b_fa.mk ey (Or.inr ⟨rfl, by decide, by show _ = ν2 5; omega⟩) (Or.inl ⟨rfl, rfl⟩) (Or.inl ⟨rfl, by show _ = (1 : Int); omega⟩), b_fa.mk ew (Or.inl ⟨rfl, rfl⟩) (Or.inr ⟨rfl, by decide, by show _ = ν2 4 + 0; omega⟩) (Or.inl ⟨rfl, by show _ = (1 : Int); omega⟩), trivial⟩
          ⟨⟨by decide, by decide, by show ν2 4 ≤ ν2 2 + (-1); omega⟩, ⟨by decide, by decide, by show ν2 0 ≤ ν2 0 + 2; omega⟩, ⟨by decide, by decide, by show ν2 0 ≤ ν2 0 + 1; omega⟩, trivial⟩
        exact c_sp hO c_sWithdrawyMC c_sWithdrawyMB hl hx g2 (b_al.c (fun ν' h' x' g' => by
          have e1 : c_I h' (17 + i) 4 = (1 : Int) := g'.rI (base := (3, 5, 0)) (slot := (0, 0, 4)) (val := (0, 0, 1)) (by rfl) (by decide) (by decide) (by show ((17 + i : Nat) : Int) = ν' 5; rw [x'.2 5 (by decide)]; exact u5.symm) rfl
          have e2 : c_I h' 372 i = (1 : Int) := g'.rI (base := (2, 372, 0)) (slot := (1, 4, 0)) (val := (0, 0, 1)) (by rfl) (by decide) (by decide) rfl (by show (i : Int) = ν' 4 + 0; rw [x'.2 4 (by decide)]; omega)
          exact e1.trans e2.symm) b_al.n)
      · obtain ⟨ya, eya, ya1, ya2⟩ := H.rdI (a := 17 + i) (j := 4) (lo := 0) (hi := 1) (c_gF i hi) c_rq3 (by decide) (by decide) rfl
        obtain ⟨wa, ewa, wa1, wa2⟩ := H.rdI (a := 372) (j := i) (lo := 0) (hi := 1) c_ra372 c_rq57 (by decide) hi rfl
        rw [c_I_of eya, c_I_of ewa] at fi
        generalize hν : (fun n => match n with
          | 4 => x.toInt
          | 5 => ((17 + k : Nat) : Int)
          | 6 => (i : Int)
          | 7 => ((17 + i : Nat) : Int)
          | 8 => ya.toInt
          | 9 => wa.toInt
          | n => ν n : BN) = ν2
        have hx : ∀ n, n < 4 → ν2 n = ν n := fun n hn => by
          rw [← hν]
          rcases n with _ | _ | _ | _ | n <;> first | rfl | (exfalso; omega)
        have u0 : ν2 0 = ν 0 := hx 0 (by decide)
        have u1 : ν2 1 = ν 1 := hx 1 (by decide)
        have u2 : ν2 2 = ν 2 := hx 2 (by decide)
        have u3 : ν2 3 = ν 3 := hx 3 (by decide)
        have u4 : ν2 4 = x.toInt := by subst hν; rfl
        have u5 : ν2 5 = ((17 + k : Nat) : Int) := by subst hν; rfl
        have u6 : ν2 6 = (i : Int) := by subst hν; rfl
        have u7 : ν2 7 = ((17 + i : Nat) : Int) := by subst hν; rfl
        have u8 : ν2 8 = ya.toInt := by subst hν; rfl
        have u9 : ν2 9 = wa.toInt := by subst hν; rfl
        have g2 := g.ad (ν' := ν2) (E' := [(0, 0, 19), (4, 0, 0), (0, 0, 19), (4, 0, 0), (0, 0, 1), (0, 0, 1)]) (F' := [((2, 3, 0), (1, 6, 0), (3, 7, 0)), ((3, 7, 0), (0, 0, 4), (1, 8, 0)), ((2, 372, 0), (1, 6, 0), (1, 9, 0)), ((2, 0, 0), (1, 0, 1), (1, 4, 0)), ((2, 3, 0), (1, 4, 0), (3, 5, 0)), ((3, 5, 0), (0, 0, 4), (0, 0, 1)), ((2, 372, 0), (1, 4, 0), (0, 0, 1))]) (C' := [(4, 2, (-1)), (4, 6, (-1)), (5, 7, (-1)), (0, 0, 2), (0, 0, 1)]) hx
          ⟨(by show b_q _ _ (ν2 4); rw [u4]; exact b_q.i (by omega) (by omega)), (by show b_q _ _ (ν2 5); rw [u5]; exact b_q.r (c_gF k hkn)), (by show b_q _ _ (ν2 6); rw [u6]; exact b_q.i (by omega) (by omega)), (by show b_q _ _ (ν2 7); rw [u7]; exact b_q.r (c_gF i hi)), (by show b_q _ _ (ν2 8); rw [u8]; exact b_q.i (by omega) (by omega)), (by show b_q _ _ (ν2 9); rw [u9]; exact b_q.i (by omega) (by omega)), trivial⟩
          ⟨b_fa.mk (R.1.1 i hi) (Or.inl ⟨rfl, rfl⟩) (Or.inr ⟨rfl, by decide, by show _ = ν2 6 + 0; omega⟩) (Or.inr ⟨rfl, by decide, by show _ = ν2 7; omega⟩), b_fa.mk eya (Or.inr ⟨rfl, by decide, by show _ = ν2 7; omega⟩) (Or.inl ⟨rfl, rfl⟩) (Or.inr ⟨rfl, by decide, by show _ = ν2 8 + 0; omega⟩), b_fa.mk ewa (Or.inl ⟨rfl, rfl⟩) (Or.inr ⟨rfl, by decide, by show _ = ν2 6 + 0; omega⟩) (Or.inr ⟨rfl, by decide, by show _ = ν2 9 + 0; omega⟩), b_fa.mk ex (Or.inl ⟨rfl, rfl⟩) (Or.inr ⟨rfl, by decide, by show _ = ν2 0 + 1; omega⟩) (Or.inr ⟨rfl, by decide, by show _ = ν2 4 + 0; omega⟩), b_fa.mk (R.1.1 k hkn) (Or.inl ⟨rfl, rfl⟩) (Or.inr ⟨rfl, by decide, by show _ = ν2 4 + 0; omega⟩) (Or.inr ⟨rfl, by decide, by show _ = ν2 5; omega⟩), b_fa.mk ey (Or.inr ⟨rfl, by decide, by show _ = ν2 5; omega⟩) (Or.inl ⟨rfl, rfl⟩) (Or.inl ⟨rfl, by show _ = (1 : Int); omega⟩), b_fa.mk ew (Or.inl ⟨rfl, rfl⟩) (Or.inr ⟨rfl, by decide, by show _ = ν2 4 + 0; omega⟩) (Or.inl ⟨rfl, by show _ = (1 : Int); omega⟩), trivial⟩
          ⟨⟨by decide, by decide, by show ν2 4 ≤ ν2 2 + (-1); omega⟩, ⟨by decide, by decide, by show ν2 4 ≤ ν2 6 + (-1); omega⟩, ⟨by decide, by decide, by show ν2 5 ≤ ν2 7 + (-1); omega⟩, ⟨by decide, by decide, by show ν2 0 ≤ ν2 0 + 2; omega⟩, ⟨by decide, by decide, by show ν2 0 ≤ ν2 0 + 1; omega⟩, trivial⟩
        exact c_sp hO c_sWithdrawyGC c_sWithdrawyGB hl hx g2 (b_al.c (fun ν' h' x' g' => by
          have e1 : c_I h' (17 + i) 4 = ν' 8 + 0 := g'.rI (base := (3, 7, 0)) (slot := (0, 0, 4)) (val := (1, 8, 0)) (by rfl) (by decide) (by decide) (by show ((17 + i : Nat) : Int) = ν' 7; rw [x'.2 7 (by decide)]; exact u7.symm) rfl
          have e2 : c_I h' 372 i = ν' 9 + 0 := g'.rI (base := (2, 372, 0)) (slot := (1, 6, 0)) (val := (1, 9, 0)) (by rfl) (by decide) (by decide) rfl (by show (i : Int) = ν' 6 + 0; rw [x'.2 6 (by decide)]; omega)
          rw [x'.2 8 (by decide), u8, Int.add_zero] at e1
          rw [x'.2 9 (by decide), u9, Int.add_zero] at e2
          rw [e1, e2]
          exact fi) b_al.n)
theorem c_g1377 : c_goal 1377 := c_goal_gen (S := c_sG1377) (b_orc_ok c_hJ (tab := [c_r284, c_r224]) (List.forall_mem_cons.mpr ⟨c_v284, List.forall_mem_cons.mpr ⟨c_v224, fun _ h => absurd h List.not_mem_nil⟩⟩) 3000 12) c_sG1377C c_sG1377B (by decide +kernel)
theorem c_g1405 : c_goal 1405 := c_goal_gen (S := c_sG1405) (b_orc_ok c_hJ (tab := [c_r285, c_r226]) (List.forall_mem_cons.mpr ⟨c_v285, List.forall_mem_cons.mpr ⟨c_v226, fun _ h => absurd h List.not_mem_nil⟩⟩) 3000 12) c_sG1405C c_sG1405B (by decide +kernel)
theorem c_g1445 : c_goal 1445 := c_goal_gen (S := c_sG1445) (b_orc_ok c_hJ (tab := [c_r286, c_r228]) (List.forall_mem_cons.mpr ⟨c_v286, List.forall_mem_cons.mpr ⟨c_v228, fun _ h => absurd h List.not_mem_nil⟩⟩) 3000 12) c_sG1445C c_sG1445B (by decide +kernel)
theorem c_g1473 : c_goal 1473 := c_goal_gen (S := c_sG1473) (b_orc_ok c_hJ (tab := [c_r287, c_r229]) (List.forall_mem_cons.mpr ⟨c_v287, List.forall_mem_cons.mpr ⟨c_v229, fun _ h => absurd h List.not_mem_nil⟩⟩) 3000 12) c_sG1473C c_sG1473B (by decide +kernel)
theorem c_g1513 : c_goal 1513 := c_goal_gen (S := c_sG1513) (b_orc_ok c_hJ (tab := [c_r288, c_r230]) (List.forall_mem_cons.mpr ⟨c_v288, List.forall_mem_cons.mpr ⟨c_v230, fun _ h => absurd h List.not_mem_nil⟩⟩) 3000 12) c_sG1513C c_sG1513B (by decide +kernel)
theorem c_g1553 : c_goal 1553 := c_goal_gen (S := c_sG1553) (b_orc_ok c_hJ (tab := [c_r289, c_r231]) (List.forall_mem_cons.mpr ⟨c_v289, List.forall_mem_cons.mpr ⟨c_v231, fun _ h => absurd h List.not_mem_nil⟩⟩) 3000 12) c_sG1553C c_sG1553B (by decide +kernel)
theorem c_g1595 : c_goal 1595 := c_goal_gen (S := c_sG1595) (b_orc_ok c_hJ (tab := [c_r290, c_r233]) (List.forall_mem_cons.mpr ⟨c_v290, List.forall_mem_cons.mpr ⟨c_v233, fun _ h => absurd h List.not_mem_nil⟩⟩) 3000 12) c_sG1595C c_sG1595B (by decide +kernel)
