/-! The calls' goals, on (wip/law4.py) -/
theorem c_g740 : c_goal 740 := c_goal_gen (S := c_sG740) (b_orc_ok c_hJ (tab := [c_r268, c_r192]) (List.forall_mem_cons.mpr ⟨c_v268, List.forall_mem_cons.mpr ⟨c_v192, fun _ h => absurd h List.not_mem_nil⟩⟩) 3000 12) c_sG740C c_sG740B (by decide +kernel)
theorem c_g768 : c_goal 768 := c_goal_gen (S := c_sG768) (b_orc_ok c_hJ (tab := [c_r269, c_r193]) (List.forall_mem_cons.mpr ⟨c_v269, List.forall_mem_cons.mpr ⟨c_v193, fun _ h => absurd h List.not_mem_nil⟩⟩) 3000 12) c_sG768C c_sG768B (by decide +kernel)
theorem c_g796 : c_goal 796 := c_goal_gen (S := c_sG796) (b_orc_ok c_hJ (tab := [c_r270, c_r194]) (List.forall_mem_cons.mpr ⟨c_v270, List.forall_mem_cons.mpr ⟨c_v194, fun _ h => absurd h List.not_mem_nil⟩⟩) 3000 12) c_sG796C c_sG796B (by decide +kernel)
theorem c_g824 : c_goal 824 := c_goal_gen (S := c_sG824) (b_orc_ok c_hJ (tab := [c_r271, c_r195]) (List.forall_mem_cons.mpr ⟨c_v271, List.forall_mem_cons.mpr ⟨c_v195, fun _ h => absurd h List.not_mem_nil⟩⟩) 3000 12) c_sG824C c_sG824B (by decide +kernel)
theorem c_g880 : c_goal 880 := by
  intro ν al h mc ms hl g R
  have H := g.2.2.2.2.1
  obtain ⟨x, ex⟩ := c_scr g (j := 1) (by decide)
  have bx := b_32 x
  have i0 := g.iv 0 (lo := 0) (hi := 3072) rfl
  have i1 := g.iv 1 (lo := 0) (hi := 3072) rfl
  have i2 := g.iv 2 (lo := 0) (hi := 20) rfl
  have hp : 880 ≠ 28 := by decide
  have hO := b_orc_ok (K := c_K) c_hJ (tab := []) (fun _ h => absurd h List.not_mem_nil) 3000 12
  by_cases h1 : x.toInt < 0
  · generalize hν : (fun n => match n with
      | 3 => x.toInt
      | n => ν n : BN) = ν2
    have hx : ∀ n, n < 3 → ν2 n = ν n := fun n hn => by
      rw [← hν]
      rcases n with _ | _ | _ | n <;> first | rfl | (exfalso; omega)
    have u0 : ν2 0 = ν 0 := hx 0 (by decide)
    have u1 : ν2 1 = ν 1 := hx 1 (by decide)
    have u2 : ν2 2 = ν 2 := hx 2 (by decide)
    have u3 : ν2 3 = x.toInt := by subst hν; rfl
    have g2 := g.ad (ν' := ν2) (E' := [(0, (-2147483648), (-1))]) (F' := [((2, 0, 0), (1, 0, 1), (1, 3, 0))]) (C' := [(0, 0, 1)]) hx
      ⟨(by show b_q _ _ (ν2 3); rw [u3]; exact b_q.i (by omega) (by omega)), trivial⟩
      ⟨b_fa.mk ex (Or.inl ⟨rfl, rfl⟩) (Or.inr ⟨rfl, by decide, by show _ = ν2 0 + 1; omega⟩) (Or.inr ⟨rfl, by decide, by show _ = ν2 3 + 0; omega⟩), trivial⟩
      ⟨⟨by decide, by decide, by show ν2 0 ≤ ν2 0 + 1; omega⟩, trivial⟩
    exact c_sp hO c_sPrint1C c_sPrint1B hl hx (Q := c_Rel) g2 (b_al_of fun p hp ν' h' x' g' => c_Rel_frm H (show b_frm c_K c_sPrint1.2.2.1 h h' from g'.2.2.2.2.2) (by decide +kernel) R)
  by_cases h2 : ν 2 ≤ x.toInt
  · generalize hν : (fun n => match n with
      | 3 => x.toInt
      | n => ν n : BN) = ν2
    have hx : ∀ n, n < 3 → ν2 n = ν n := fun n hn => by
      rw [← hν]
      rcases n with _ | _ | _ | n <;> first | rfl | (exfalso; omega)
    have u0 : ν2 0 = ν 0 := hx 0 (by decide)
    have u1 : ν2 1 = ν 1 := hx 1 (by decide)
    have u2 : ν2 2 = ν 2 := hx 2 (by decide)
    have u3 : ν2 3 = x.toInt := by subst hν; rfl
    have g2 := g.ad (ν' := ν2) (E' := [(0, 0, 2147483647)]) (F' := [((2, 0, 0), (1, 0, 1), (1, 3, 0))]) (C' := [(2, 3, 0), (0, 0, 1)]) hx
      ⟨(by show b_q _ _ (ν2 3); rw [u3]; exact b_q.i (by omega) (by omega)), trivial⟩
      ⟨b_fa.mk ex (Or.inl ⟨rfl, rfl⟩) (Or.inr ⟨rfl, by decide, by show _ = ν2 0 + 1; omega⟩) (Or.inr ⟨rfl, by decide, by show _ = ν2 3 + 0; omega⟩), trivial⟩
      ⟨⟨by decide, by decide, by show ν2 2 ≤ ν2 3 + 0; omega⟩, ⟨by decide, by decide, by show ν2 0 ≤ ν2 0 + 1; omega⟩, trivial⟩
    exact c_sp hO c_sPrint2C c_sPrint2B hl hx (Q := c_Rel) g2 (b_al_of fun p hp ν' h' x' g' => c_Rel_frm H (show b_frm c_K c_sPrint2.2.2.1 h h' from g'.2.2.2.2.2) (by decide +kernel) R)
  obtain ⟨k, hk, hkn⟩ : ∃ k : Nat, (k : Int) = x.toInt ∧ k < 20 := ⟨x.toInt.toNat, by omega, by omega⟩
  obtain ⟨y, ey, y1, y2⟩ := H.rdI (a := 17 + k) (j := 7) (lo := 45) (hi := 150) (c_gF k hkn) c_rq3 (by decide) (by decide) rfl
  obtain ⟨w, ew, w1, w2⟩ := H.rdI (a := 373) (j := k) (lo := 0) (hi := 150) c_ra373 c_rq58 (by decide) hkn rfl
  have rk := R.2 k hkn
  rw [c_I_of ey, c_I_of ew] at rk
  rcases rk with ⟨q1, q2⟩ | ⟨q1, q2 | q2⟩
  · refine c_res.mono (c_res.all hp (Q := fun h' => c_Fx h') (P := fun i h' => (c_I h' (17 + i) 7 = 45 ∧ c_I h' 373 i = 0) ∨ (c_I h' (17 + i) 7 = c_I h' 373 i ∧ (c_I h' 373 i = 100 ∨ c_I h' 373 i = 114))) (n := 20) ?_ (fun i hi => ?_)) (fun h' q => ⟨q.1, (fun i hi => q.2 i hi)⟩)
    · generalize hν : (fun n => match n with
        | 3 => x.toInt
        | 4 => ((17 + k : Nat) : Int)
        | n => ν n : BN) = ν2
      have hx : ∀ n, n < 3 → ν2 n = ν n := fun n hn => by
        rw [← hν]
        rcases n with _ | _ | _ | n <;> first | rfl | (exfalso; omega)
      have u0 : ν2 0 = ν 0 := hx 0 (by decide)
      have u1 : ν2 1 = ν 1 := hx 1 (by decide)
      have u2 : ν2 2 = ν 2 := hx 2 (by decide)
      have u3 : ν2 3 = x.toInt := by subst hν; rfl
      have u4 : ν2 4 = ((17 + k : Nat) : Int) := by subst hν; rfl
      have g2 := g.ad (ν' := ν2) (E' := [(0, 0, 19), (4, 0, 0)]) (F' := [((2, 0, 0), (1, 0, 1), (1, 3, 0)), ((2, 3, 0), (1, 3, 0), (3, 4, 0)), ((3, 4, 0), (0, 0, 7), (0, 0, 45)), ((2, 373, 0), (1, 3, 0), (0, 0, 0))]) (C' := [(3, 2, (-1)), (0, 0, 2), (0, 0, 1)]) hx
        ⟨(by show b_q _ _ (ν2 3); rw [u3]; exact b_q.i (by omega) (by omega)), (by show b_q _ _ (ν2 4); rw [u4]; exact b_q.r (c_gF k hkn)), trivial⟩
        ⟨b_fa.mk ex (Or.inl ⟨rfl, rfl⟩) (Or.inr ⟨rfl, by decide, by show _ = ν2 0 + 1; omega⟩) (Or.inr ⟨rfl, by decide, by show _ = ν2 3 + 0; omega⟩), b_fa.mk (R.1.1 k hkn) (Or.inl ⟨rfl, rfl⟩) (Or.inr ⟨rfl, by decide, by show _ = ν2 3 + 0; omega⟩) (Or.inr ⟨rfl, by decide, by show _ = ν2 4; omega⟩), b_fa.mk ey (Or.inr ⟨rfl, by decide, by show _ = ν2 4; omega⟩) (Or.inl ⟨rfl, rfl⟩) (Or.inl ⟨rfl, by show _ = (45 : Int); omega⟩), b_fa.mk ew (Or.inl ⟨rfl, rfl⟩) (Or.inr ⟨rfl, by decide, by show _ = ν2 3 + 0; omega⟩) (Or.inl ⟨rfl, by show _ = (0 : Int); omega⟩), trivial⟩
        ⟨⟨by decide, by decide, by show ν2 3 ≤ ν2 2 + (-1); omega⟩, ⟨by decide, by decide, by show ν2 0 ≤ ν2 0 + 2; omega⟩, ⟨by decide, by decide, by show ν2 0 ≤ ν2 0 + 1; omega⟩, trivial⟩
      exact c_sp hO c_sPrintxMC c_sPrintxMB hl hx g2 (b_al_of fun p hp ν' h' x' g' => c_Fx_frm H (show b_frm c_K c_sPrintxM.2.2.1 h h' from g'.2.2.2.2.2) (by decide +kernel) R.1)
    · have fi := R.2 i hi
      rcases Nat.lt_trichotomy i k with c | c | c
      · obtain ⟨ya, eya, ya1, ya2⟩ := H.rdI (a := 17 + i) (j := 7) (lo := 45) (hi := 150) (c_gF i hi) c_rq3 (by decide) (by decide) rfl
        obtain ⟨wa, ewa, wa1, wa2⟩ := H.rdI (a := 373) (j := i) (lo := 0) (hi := 150) c_ra373 c_rq58 (by decide) hi rfl
        rw [c_I_of eya, c_I_of ewa] at fi
        generalize hν : (fun n => match n with
          | 3 => x.toInt
          | 4 => ((17 + k : Nat) : Int)
          | 5 => (i : Int)
          | 6 => ((17 + i : Nat) : Int)
          | 7 => ya.toInt
          | 8 => wa.toInt
          | n => ν n : BN) = ν2
        have hx : ∀ n, n < 3 → ν2 n = ν n := fun n hn => by
          rw [← hν]
          rcases n with _ | _ | _ | n <;> first | rfl | (exfalso; omega)
        have u0 : ν2 0 = ν 0 := hx 0 (by decide)
        have u1 : ν2 1 = ν 1 := hx 1 (by decide)
        have u2 : ν2 2 = ν 2 := hx 2 (by decide)
        have u3 : ν2 3 = x.toInt := by subst hν; rfl
        have u4 : ν2 4 = ((17 + k : Nat) : Int) := by subst hν; rfl
        have u5 : ν2 5 = (i : Int) := by subst hν; rfl
        have u6 : ν2 6 = ((17 + i : Nat) : Int) := by subst hν; rfl
        have u7 : ν2 7 = ya.toInt := by subst hν; rfl
        have u8 : ν2 8 = wa.toInt := by subst hν; rfl
        have g2 := g.ad (ν' := ν2) (E' := [(0, 0, 19), (4, 0, 0), (0, 0, 19), (4, 0, 0), (0, 45, 150), (0, 0, 150)]) (F' := [((2, 0, 0), (1, 0, 1), (1, 3, 0)), ((2, 3, 0), (1, 3, 0), (3, 4, 0)), ((3, 4, 0), (0, 0, 7), (0, 0, 45)), ((2, 373, 0), (1, 3, 0), (0, 0, 0)), ((2, 3, 0), (1, 5, 0), (3, 6, 0)), ((3, 6, 0), (0, 0, 7), (1, 7, 0)), ((2, 373, 0), (1, 5, 0), (1, 8, 0))]) (C' := [(3, 2, (-1)), (5, 3, (-1)), (6, 4, (-1)), (0, 0, 2), (0, 0, 1)]) hx
          ⟨(by show b_q _ _ (ν2 3); rw [u3]; exact b_q.i (by omega) (by omega)), (by show b_q _ _ (ν2 4); rw [u4]; exact b_q.r (c_gF k hkn)), (by show b_q _ _ (ν2 5); rw [u5]; exact b_q.i (by omega) (by omega)), (by show b_q _ _ (ν2 6); rw [u6]; exact b_q.r (c_gF i hi)), (by show b_q _ _ (ν2 7); rw [u7]; exact b_q.i (by omega) (by omega)), (by show b_q _ _ (ν2 8); rw [u8]; exact b_q.i (by omega) (by omega)), trivial⟩
          ⟨b_fa.mk ex (Or.inl ⟨rfl, rfl⟩) (Or.inr ⟨rfl, by decide, by show _ = ν2 0 + 1; omega⟩) (Or.inr ⟨rfl, by decide, by show _ = ν2 3 + 0; omega⟩), b_fa.mk (R.1.1 k hkn) (Or.inl ⟨rfl, rfl⟩) (Or.inr ⟨rfl, by decide, by show _ = ν2 3 + 0; omega⟩) (Or.inr ⟨rfl, by decide, by show _ = ν2 4; omega⟩), b_fa.mk ey (Or.inr ⟨rfl, by decide, by show _ = ν2 4; omega⟩) (Or.inl ⟨rfl, rfl⟩) (Or.inl ⟨rfl, by show _ = (45 : Int); omega⟩), b_fa.mk ew (Or.inl ⟨rfl, rfl⟩) (Or.inr ⟨rfl, by decide, by show _ = ν2 3 + 0; omega⟩) (Or.inl ⟨rfl, by show _ = (0 : Int); omega⟩), b_fa.mk (R.1.1 i hi) (Or.inl ⟨rfl, rfl⟩) (Or.inr ⟨rfl, by decide, by show _ = ν2 5 + 0; omega⟩) (Or.inr ⟨rfl, by decide, by show _ = ν2 6; omega⟩), b_fa.mk eya (Or.inr ⟨rfl, by decide, by show _ = ν2 6; omega⟩) (Or.inl ⟨rfl, rfl⟩) (Or.inr ⟨rfl, by decide, by show _ = ν2 7 + 0; omega⟩), b_fa.mk ewa (Or.inl ⟨rfl, rfl⟩) (Or.inr ⟨rfl, by decide, by show _ = ν2 5 + 0; omega⟩) (Or.inr ⟨rfl, by decide, by show _ = ν2 8 + 0; omega⟩), trivial⟩
          ⟨⟨by decide, by decide, by show ν2 3 ≤ ν2 2 + (-1); omega⟩, ⟨by decide, by decide, by show ν2 5 ≤ ν2 3 + (-1); omega⟩, ⟨by decide, by decide, by show ν2 6 ≤ ν2 4 + (-1); omega⟩, ⟨by decide, by decide, by show ν2 0 ≤ ν2 0 + 2; omega⟩, ⟨by decide, by decide, by show ν2 0 ≤ ν2 0 + 1; omega⟩, trivial⟩
        exact c_sp hO c_sPrintxLC c_sPrintxLB hl hx g2 (b_al.c (fun ν' h' x' g' => by
          have e1 : c_I h' (17 + i) 7 = ν' 7 + 0 := g'.rI (base := (3, 6, 0)) (slot := (0, 0, 7)) (val := (1, 7, 0)) (by rfl) (by decide) (by decide) (by show ((17 + i : Nat) : Int) = ν' 6; rw [x'.2 6 (by decide)]; exact u6.symm) rfl
          have e2 : c_I h' 373 i = ν' 8 + 0 := g'.rI (base := (2, 373, 0)) (slot := (1, 5, 0)) (val := (1, 8, 0)) (by rfl) (by decide) (by decide) rfl (by show (i : Int) = ν' 5 + 0; rw [x'.2 5 (by decide)]; omega)
          rw [x'.2 7 (by decide), u7, Int.add_zero] at e1
          rw [x'.2 8 (by decide), u8, Int.add_zero] at e2
          rw [e1, e2]
          exact fi) (b_al.c (fun ν' h' x' g' => by
          have e1 : c_I h' (17 + i) 7 = ν' 7 + 0 := g'.rI (base := (3, 6, 0)) (slot := (0, 0, 7)) (val := (1, 7, 0)) (by rfl) (by decide) (by decide) (by show ((17 + i : Nat) : Int) = ν' 6; rw [x'.2 6 (by decide)]; exact u6.symm) rfl
          have e2 : c_I h' 373 i = ν' 8 + 0 := g'.rI (base := (2, 373, 0)) (slot := (1, 5, 0)) (val := (1, 8, 0)) (by rfl) (by decide) (by decide) rfl (by show (i : Int) = ν' 5 + 0; rw [x'.2 5 (by decide)]; omega)
          rw [x'.2 7 (by decide), u7, Int.add_zero] at e1
          rw [x'.2 8 (by decide), u8, Int.add_zero] at e2
          rw [e1, e2]
          exact fi) b_al.n))
      · subst c
        generalize hν : (fun n => match n with
          | 3 => x.toInt
          | 4 => ((17 + i : Nat) : Int)
          | n => ν n : BN) = ν2
        have hx : ∀ n, n < 3 → ν2 n = ν n := fun n hn => by
          rw [← hν]
          rcases n with _ | _ | _ | n <;> first | rfl | (exfalso; omega)
        have u0 : ν2 0 = ν 0 := hx 0 (by decide)
        have u1 : ν2 1 = ν 1 := hx 1 (by decide)
        have u2 : ν2 2 = ν 2 := hx 2 (by decide)
        have u3 : ν2 3 = x.toInt := by subst hν; rfl
        have u4 : ν2 4 = ((17 + i : Nat) : Int) := by subst hν; rfl
        have g2 := g.ad (ν' := ν2) (E' := [(0, 0, 19), (4, 0, 0)]) (F' := [((2, 0, 0), (1, 0, 1), (1, 3, 0)), ((2, 3, 0), (1, 3, 0), (3, 4, 0)), ((3, 4, 0), (0, 0, 7), (0, 0, 45)), ((2, 373, 0), (1, 3, 0), (0, 0, 0))]) (C' := [(3, 2, (-1)), (0, 0, 2), (0, 0, 1)]) hx
          ⟨(by show b_q _ _ (ν2 3); rw [u3]; exact b_q.i (by omega) (by omega)), (by show b_q _ _ (ν2 4); rw [u4]; exact b_q.r (c_gF i hkn)), trivial⟩
          ⟨b_fa.mk ex (Or.inl ⟨rfl, rfl⟩) (Or.inr ⟨rfl, by decide, by show _ = ν2 0 + 1; omega⟩) (Or.inr ⟨rfl, by decide, by show _ = ν2 3 + 0; omega⟩), b_fa.mk (R.1.1 i hkn) (Or.inl ⟨rfl, rfl⟩) (Or.inr ⟨rfl, by decide, by show _ = ν2 3 + 0; omega⟩) (Or.inr ⟨rfl, by decide, by show _ = ν2 4; omega⟩), b_fa.mk ey (Or.inr ⟨rfl, by decide, by show _ = ν2 4; omega⟩) (Or.inl ⟨rfl, rfl⟩) (Or.inl ⟨rfl, by show _ = (45 : Int); omega⟩), b_fa.mk ew (Or.inl ⟨rfl, rfl⟩) (Or.inr ⟨rfl, by decide, by show _ = ν2 3 + 0; omega⟩) (Or.inl ⟨rfl, by show _ = (0 : Int); omega⟩), trivial⟩
          ⟨⟨by decide, by decide, by show ν2 3 ≤ ν2 2 + (-1); omega⟩, ⟨by decide, by decide, by show ν2 0 ≤ ν2 0 + 2; omega⟩, ⟨by decide, by decide, by show ν2 0 ≤ ν2 0 + 1; omega⟩, trivial⟩
        exact c_sp hO c_sPrintxMC c_sPrintxMB hl hx g2 (b_al.c (fun ν' h' x' g' => by
          have e1 : c_I h' (17 + i) 7 = ν' 6 + 0 := g'.rI (base := (3, 4, 0)) (slot := (0, 0, 7)) (val := (1, 6, 0)) (by rfl) (by decide) (by decide) (by show ((17 + i : Nat) : Int) = ν' 4; rw [x'.2 4 (by decide)]; exact u4.symm) rfl
          have e2 : c_I h' 373 i = ν' 6 + 0 := g'.rI (base := (2, 373, 0)) (slot := (1, 3, 0)) (val := (1, 6, 0)) (by rfl) (by decide) (by decide) rfl (by show (i : Int) = ν' 3 + 0; rw [x'.2 3 (by decide)]; omega)
          have iv := g'.iv 6 (lo := 100) (hi := 100) rfl
          rw [e1, e2]
          omega) (b_al.c (fun ν' h' x' g' => by
          have e1 : c_I h' (17 + i) 7 = ν' 6 + 0 := g'.rI (base := (3, 4, 0)) (slot := (0, 0, 7)) (val := (1, 6, 0)) (by rfl) (by decide) (by decide) (by show ((17 + i : Nat) : Int) = ν' 4; rw [x'.2 4 (by decide)]; exact u4.symm) rfl
          have e2 : c_I h' 373 i = ν' 6 + 0 := g'.rI (base := (2, 373, 0)) (slot := (1, 3, 0)) (val := (1, 6, 0)) (by rfl) (by decide) (by decide) rfl (by show (i : Int) = ν' 3 + 0; rw [x'.2 3 (by decide)]; omega)
          have iv := g'.iv 6 (lo := 114) (hi := 114) rfl
          rw [e1, e2]
          omega) (b_al.c (fun ν' h' x' g' => by
          have e1 : c_I h' (17 + i) 7 = (45 : Int) := g'.rI (base := (3, 4, 0)) (slot := (0, 0, 7)) (val := (0, 0, 45)) (by rfl) (by decide) (by decide) (by show ((17 + i : Nat) : Int) = ν' 4; rw [x'.2 4 (by decide)]; exact u4.symm) rfl
          have e2 : c_I h' 373 i = (0 : Int) := g'.rI (base := (2, 373, 0)) (slot := (1, 3, 0)) (val := (0, 0, 0)) (by rfl) (by decide) (by decide) rfl (by show (i : Int) = ν' 3 + 0; rw [x'.2 3 (by decide)]; omega)
          rw [e1, e2]
          omega) b_al.n)))
      · obtain ⟨ya, eya, ya1, ya2⟩ := H.rdI (a := 17 + i) (j := 7) (lo := 45) (hi := 150) (c_gF i hi) c_rq3 (by decide) (by decide) rfl
        obtain ⟨wa, ewa, wa1, wa2⟩ := H.rdI (a := 373) (j := i) (lo := 0) (hi := 150) c_ra373 c_rq58 (by decide) hi rfl
        rw [c_I_of eya, c_I_of ewa] at fi
        generalize hν : (fun n => match n with
          | 3 => x.toInt
          | 4 => ((17 + k : Nat) : Int)
          | 5 => (i : Int)
          | 6 => ((17 + i : Nat) : Int)
          | 7 => ya.toInt
          | 8 => wa.toInt
          | n => ν n : BN) = ν2
        have hx : ∀ n, n < 3 → ν2 n = ν n := fun n hn => by
          rw [← hν]
          rcases n with _ | _ | _ | n <;> first | rfl | (exfalso; omega)
        have u0 : ν2 0 = ν 0 := hx 0 (by decide)
        have u1 : ν2 1 = ν 1 := hx 1 (by decide)
        have u2 : ν2 2 = ν 2 := hx 2 (by decide)
        have u3 : ν2 3 = x.toInt := by subst hν; rfl
        have u4 : ν2 4 = ((17 + k : Nat) : Int) := by subst hν; rfl
        have u5 : ν2 5 = (i : Int) := by subst hν; rfl
        have u6 : ν2 6 = ((17 + i : Nat) : Int) := by subst hν; rfl
        have u7 : ν2 7 = ya.toInt := by subst hν; rfl
        have u8 : ν2 8 = wa.toInt := by subst hν; rfl
        have g2 := g.ad (ν' := ν2) (E' := [(0, 0, 19), (4, 0, 0), (0, 0, 19), (4, 0, 0), (0, 45, 150), (0, 0, 150)]) (F' := [((2, 0, 0), (1, 0, 1), (1, 3, 0)), ((2, 3, 0), (1, 3, 0), (3, 4, 0)), ((3, 4, 0), (0, 0, 7), (0, 0, 45)), ((2, 373, 0), (1, 3, 0), (0, 0, 0)), ((2, 3, 0), (1, 5, 0), (3, 6, 0)), ((3, 6, 0), (0, 0, 7), (1, 7, 0)), ((2, 373, 0), (1, 5, 0), (1, 8, 0))]) (C' := [(3, 2, (-1)), (3, 5, (-1)), (4, 6, (-1)), (0, 0, 2), (0, 0, 1)]) hx
          ⟨(by show b_q _ _ (ν2 3); rw [u3]; exact b_q.i (by omega) (by omega)), (by show b_q _ _ (ν2 4); rw [u4]; exact b_q.r (c_gF k hkn)), (by show b_q _ _ (ν2 5); rw [u5]; exact b_q.i (by omega) (by omega)), (by show b_q _ _ (ν2 6); rw [u6]; exact b_q.r (c_gF i hi)), (by show b_q _ _ (ν2 7); rw [u7]; exact b_q.i (by omega) (by omega)), (by show b_q _ _ (ν2 8); rw [u8]; exact b_q.i (by omega) (by omega)), trivial⟩
          ⟨b_fa.mk ex (Or.inl ⟨rfl, rfl⟩) (Or.inr ⟨rfl, by decide, by show _ = ν2 0 + 1; omega⟩) (Or.inr ⟨rfl, by decide, by show _ = ν2 3 + 0; omega⟩), b_fa.mk (R.1.1 k hkn) (Or.inl ⟨rfl, rfl⟩) (Or.inr ⟨rfl, by decide, by show _ = ν2 3 + 0; omega⟩) (Or.inr ⟨rfl, by decide, by show _ = ν2 4; omega⟩), b_fa.mk ey (Or.inr ⟨rfl, by decide, by show _ = ν2 4; omega⟩) (Or.inl ⟨rfl, rfl⟩) (Or.inl ⟨rfl, by show _ = (45 : Int); omega⟩), b_fa.mk ew (Or.inl ⟨rfl, rfl⟩) (Or.inr ⟨rfl, by decide, by show _ = ν2 3 + 0; omega⟩) (Or.inl ⟨rfl, by show _ = (0 : Int); omega⟩), b_fa.mk (R.1.1 i hi) (Or.inl ⟨rfl, rfl⟩) (Or.inr ⟨rfl, by decide, by show _ = ν2 5 + 0; omega⟩) (Or.inr ⟨rfl, by decide, by show _ = ν2 6; omega⟩), b_fa.mk eya (Or.inr ⟨rfl, by decide, by show _ = ν2 6; omega⟩) (Or.inl ⟨rfl, rfl⟩) (Or.inr ⟨rfl, by decide, by show _ = ν2 7 + 0; omega⟩), b_fa.mk ewa (Or.inl ⟨rfl, rfl⟩) (Or.inr ⟨rfl, by decide, by show _ = ν2 5 + 0; omega⟩) (Or.inr ⟨rfl, by decide, by show _ = ν2 8 + 0; omega⟩), trivial⟩
          ⟨⟨by decide, by decide, by show ν2 3 ≤ ν2 2 + (-1); omega⟩, ⟨by decide, by decide, by show ν2 3 ≤ ν2 5 + (-1); omega⟩, ⟨by decide, by decide, by show ν2 4 ≤ ν2 6 + (-1); omega⟩, ⟨by decide, by decide, by show ν2 0 ≤ ν2 0 + 2; omega⟩, ⟨by decide, by decide, by show ν2 0 ≤ ν2 0 + 1; omega⟩, trivial⟩
        exact c_sp hO c_sPrintxGC c_sPrintxGB hl hx g2 (b_al.c (fun ν' h' x' g' => by
          have e1 : c_I h' (17 + i) 7 = ν' 7 + 0 := g'.rI (base := (3, 6, 0)) (slot := (0, 0, 7)) (val := (1, 7, 0)) (by rfl) (by decide) (by decide) (by show ((17 + i : Nat) : Int) = ν' 6; rw [x'.2 6 (by decide)]; exact u6.symm) rfl
          have e2 : c_I h' 373 i = ν' 8 + 0 := g'.rI (base := (2, 373, 0)) (slot := (1, 5, 0)) (val := (1, 8, 0)) (by rfl) (by decide) (by decide) rfl (by show (i : Int) = ν' 5 + 0; rw [x'.2 5 (by decide)]; omega)
          rw [x'.2 7 (by decide), u7, Int.add_zero] at e1
          rw [x'.2 8 (by decide), u8, Int.add_zero] at e2
          rw [e1, e2]
          exact fi) (b_al.c (fun ν' h' x' g' => by
          have e1 : c_I h' (17 + i) 7 = ν' 7 + 0 := g'.rI (base := (3, 6, 0)) (slot := (0, 0, 7)) (val := (1, 7, 0)) (by rfl) (by decide) (by decide) (by show ((17 + i : Nat) : Int) = ν' 6; rw [x'.2 6 (by decide)]; exact u6.symm) rfl
          have e2 : c_I h' 373 i = ν' 8 + 0 := g'.rI (base := (2, 373, 0)) (slot := (1, 5, 0)) (val := (1, 8, 0)) (by rfl) (by decide) (by decide) rfl (by show (i : Int) = ν' 5 + 0; rw [x'.2 5 (by decide)]; omega)
          rw [x'.2 7 (by decide), u7, Int.add_zero] at e1
          rw [x'.2 8 (by decide), u8, Int.add_zero] at e2
          rw [e1, e2]
          exact fi) b_al.n))
  · refine c_res.mono (c_res.all hp (Q := fun h' => c_Fx h') (P := fun i h' => (c_I h' (17 + i) 7 = 45 ∧ c_I h' 373 i = 0) ∨ (c_I h' (17 + i) 7 = c_I h' 373 i ∧ (c_I h' 373 i = 100 ∨ c_I h' 373 i = 114))) (n := 20) ?_ (fun i hi => ?_)) (fun h' q => ⟨q.1, (fun i hi => q.2 i hi)⟩)
    · generalize hν : (fun n => match n with
        | 3 => x.toInt
        | 4 => ((17 + k : Nat) : Int)
        | n => ν n : BN) = ν2
      have hx : ∀ n, n < 3 → ν2 n = ν n := fun n hn => by
        rw [← hν]
        rcases n with _ | _ | _ | n <;> first | rfl | (exfalso; omega)
      have u0 : ν2 0 = ν 0 := hx 0 (by decide)
      have u1 : ν2 1 = ν 1 := hx 1 (by decide)
      have u2 : ν2 2 = ν 2 := hx 2 (by decide)
      have u3 : ν2 3 = x.toInt := by subst hν; rfl
      have u4 : ν2 4 = ((17 + k : Nat) : Int) := by subst hν; rfl
      have g2 := g.ad (ν' := ν2) (E' := [(0, 0, 19), (4, 0, 0)]) (F' := [((2, 0, 0), (1, 0, 1), (1, 3, 0)), ((2, 3, 0), (1, 3, 0), (3, 4, 0)), ((3, 4, 0), (0, 0, 7), (0, 0, 100)), ((2, 373, 0), (1, 3, 0), (0, 0, 100))]) (C' := [(3, 2, (-1)), (0, 0, 2), (0, 0, 1)]) hx
        ⟨(by show b_q _ _ (ν2 3); rw [u3]; exact b_q.i (by omega) (by omega)), (by show b_q _ _ (ν2 4); rw [u4]; exact b_q.r (c_gF k hkn)), trivial⟩
        ⟨b_fa.mk ex (Or.inl ⟨rfl, rfl⟩) (Or.inr ⟨rfl, by decide, by show _ = ν2 0 + 1; omega⟩) (Or.inr ⟨rfl, by decide, by show _ = ν2 3 + 0; omega⟩), b_fa.mk (R.1.1 k hkn) (Or.inl ⟨rfl, rfl⟩) (Or.inr ⟨rfl, by decide, by show _ = ν2 3 + 0; omega⟩) (Or.inr ⟨rfl, by decide, by show _ = ν2 4; omega⟩), b_fa.mk ey (Or.inr ⟨rfl, by decide, by show _ = ν2 4; omega⟩) (Or.inl ⟨rfl, rfl⟩) (Or.inl ⟨rfl, by show _ = (100 : Int); omega⟩), b_fa.mk ew (Or.inl ⟨rfl, rfl⟩) (Or.inr ⟨rfl, by decide, by show _ = ν2 3 + 0; omega⟩) (Or.inl ⟨rfl, by show _ = (100 : Int); omega⟩), trivial⟩
        ⟨⟨by decide, by decide, by show ν2 3 ≤ ν2 2 + (-1); omega⟩, ⟨by decide, by decide, by show ν2 0 ≤ ν2 0 + 2; omega⟩, ⟨by decide, by decide, by show ν2 0 ≤ ν2 0 + 1; omega⟩, trivial⟩
      exact c_sp hO c_sPrintyMC c_sPrintyMB hl hx g2 (b_al_of fun p hp ν' h' x' g' => c_Fx_frm H (show b_frm c_K c_sPrintyM.2.2.1 h h' from g'.2.2.2.2.2) (by decide +kernel) R.1)
    · have fi := R.2 i hi
      rcases Nat.lt_trichotomy i k with c | c | c
      · obtain ⟨ya, eya, ya1, ya2⟩ := H.rdI (a := 17 + i) (j := 7) (lo := 45) (hi := 150) (c_gF i hi) c_rq3 (by decide) (by decide) rfl
        obtain ⟨wa, ewa, wa1, wa2⟩ := H.rdI (a := 373) (j := i) (lo := 0) (hi := 150) c_ra373 c_rq58 (by decide) hi rfl
        rw [c_I_of eya, c_I_of ewa] at fi
        generalize hν : (fun n => match n with
          | 3 => x.toInt
          | 4 => ((17 + k : Nat) : Int)
          | 5 => (i : Int)
          | 6 => ((17 + i : Nat) : Int)
          | 7 => ya.toInt
          | 8 => wa.toInt
          | n => ν n : BN) = ν2
        have hx : ∀ n, n < 3 → ν2 n = ν n := fun n hn => by
          rw [← hν]
          rcases n with _ | _ | _ | n <;> first | rfl | (exfalso; omega)
        have u0 : ν2 0 = ν 0 := hx 0 (by decide)
        have u1 : ν2 1 = ν 1 := hx 1 (by decide)
        have u2 : ν2 2 = ν 2 := hx 2 (by decide)
        have u3 : ν2 3 = x.toInt := by subst hν; rfl
        have u4 : ν2 4 = ((17 + k : Nat) : Int) := by subst hν; rfl
        have u5 : ν2 5 = (i : Int) := by subst hν; rfl
        have u6 : ν2 6 = ((17 + i : Nat) : Int) := by subst hν; rfl
        have u7 : ν2 7 = ya.toInt := by subst hν; rfl
        have u8 : ν2 8 = wa.toInt := by subst hν; rfl
        have g2 := g.ad (ν' := ν2) (E' := [(0, 0, 19), (4, 0, 0), (0, 0, 19), (4, 0, 0), (0, 45, 150), (0, 0, 150)]) (F' := [((2, 0, 0), (1, 0, 1), (1, 3, 0)), ((2, 3, 0), (1, 3, 0), (3, 4, 0)), ((3, 4, 0), (0, 0, 7), (0, 0, 100)), ((2, 373, 0), (1, 3, 0), (0, 0, 100)), ((2, 3, 0), (1, 5, 0), (3, 6, 0)), ((3, 6, 0), (0, 0, 7), (1, 7, 0)), ((2, 373, 0), (1, 5, 0), (1, 8, 0))]) (C' := [(3, 2, (-1)), (5, 3, (-1)), (6, 4, (-1)), (0, 0, 2), (0, 0, 1)]) hx
          ⟨(by show b_q _ _ (ν2 3); rw [u3]; exact b_q.i (by omega) (by omega)), (by show b_q _ _ (ν2 4); rw [u4]; exact b_q.r (c_gF k hkn)), (by show b_q _ _ (ν2 5); rw [u5]; exact b_q.i (by omega) (by omega)), (by show b_q _ _ (ν2 6); rw [u6]; exact b_q.r (c_gF i hi)), (by show b_q _ _ (ν2 7); rw [u7]; exact b_q.i (by omega) (by omega)), (by show b_q _ _ (ν2 8); rw [u8]; exact b_q.i (by omega) (by omega)), trivial⟩
          ⟨b_fa.mk ex (Or.inl ⟨rfl, rfl⟩) (Or.inr ⟨rfl, by decide, by show _ = ν2 0 + 1; omega⟩) (Or.inr ⟨rfl, by decide, by show _ = ν2 3 + 0; omega⟩), b_fa.mk (R.1.1 k hkn) (Or.inl ⟨rfl, rfl⟩) (Or.inr ⟨rfl, by decide, by show _ = ν2 3 + 0; omega⟩) (Or.inr ⟨rfl, by decide, by show _ = ν2 4; omega⟩), b_fa.mk ey (Or.inr ⟨rfl, by decide, by show _ = ν2 4; omega⟩) (Or.inl ⟨rfl, rfl⟩) (Or.inl ⟨rfl, by show _ = (100 : Int); omega⟩), b_fa.mk ew (Or.inl ⟨rfl, rfl⟩) (Or.inr ⟨rfl, by decide, by show _ = ν2 3 + 0; omega⟩) (Or.inl ⟨rfl, by show _ = (100 : Int); omega⟩), b_fa.mk (R.1.1 i hi) (Or.inl ⟨rfl, rfl⟩) (Or.inr ⟨rfl, by decide, by show _ = ν2 5 + 0; omega⟩) (Or.inr ⟨rfl, by decide, by show _ = ν2 6; omega⟩), b_fa.mk eya (Or.inr ⟨rfl, by decide, by show _ = ν2 6; omega⟩) (Or.inl ⟨rfl, rfl⟩) (Or.inr ⟨rfl, by decide, by show _ = ν2 7 + 0; omega⟩), b_fa.mk ewa (Or.inl ⟨rfl, rfl⟩) (Or.inr ⟨rfl, by decide, by show _ = ν2 5 + 0; omega⟩) (Or.inr ⟨rfl, by decide, by show _ = ν2 8 + 0; omega⟩), trivial⟩
          ⟨⟨by decide, by decide, by show ν2 3 ≤ ν2 2 + (-1); omega⟩, ⟨by decide, by decide, by show ν2 5 ≤ ν2 3 + (-1); omega⟩, ⟨by decide, by decide, by show ν2 6 ≤ ν2 4 + (-1); omega⟩, ⟨by decide, by decide, by show ν2 0 ≤ ν2 0 + 2; omega⟩, ⟨by decide, by decide, by show ν2 0 ≤ ν2 0 + 1; omega⟩, trivial⟩
        exact c_sp hO c_sPrintyLC c_sPrintyLB hl hx g2 (b_al.c (fun ν' h' x' g' => by
          have e1 : c_I h' (17 + i) 7 = ν' 7 + 0 := g'.rI (base := (3, 6, 0)) (slot := (0, 0, 7)) (val := (1, 7, 0)) (by rfl) (by decide) (by decide) (by show ((17 + i : Nat) : Int) = ν' 6; rw [x'.2 6 (by decide)]; exact u6.symm) rfl
          have e2 : c_I h' 373 i = ν' 8 + 0 := g'.rI (base := (2, 373, 0)) (slot := (1, 5, 0)) (val := (1, 8, 0)) (by rfl) (by decide) (by decide) rfl (by show (i : Int) = ν' 5 + 0; rw [x'.2 5 (by decide)]; omega)
          rw [x'.2 7 (by decide), u7, Int.add_zero] at e1
          rw [x'.2 8 (by decide), u8, Int.add_zero] at e2
          rw [e1, e2]
          exact fi) (b_al.c (fun ν' h' x' g' => by
          have e1 : c_I h' (17 + i) 7 = ν' 7 + 0 := g'.rI (base := (3, 6, 0)) (slot := (0, 0, 7)) (val := (1, 7, 0)) (by rfl) (by decide) (by decide) (by show ((17 + i : Nat) : Int) = ν' 6; rw [x'.2 6 (by decide)]; exact u6.symm) rfl
          have e2 : c_I h' 373 i = ν' 8 + 0 := g'.rI (base := (2, 373, 0)) (slot := (1, 5, 0)) (val := (1, 8, 0)) (by rfl) (by decide) (by decide) rfl (by show (i : Int) = ν' 5 + 0; rw [x'.2 5 (by decide)]; omega)
          rw [x'.2 7 (by decide), u7, Int.add_zero] at e1
          rw [x'.2 8 (by decide), u8, Int.add_zero] at e2
          rw [e1, e2]
          exact fi) b_al.n))
      · subst c
        generalize hν : (fun n => match n with
          | 3 => x.toInt
          | 4 => ((17 + i : Nat) : Int)
          | n => ν n : BN) = ν2
        have hx : ∀ n, n < 3 → ν2 n = ν n := fun n hn => by
          rw [← hν]
          rcases n with _ | _ | _ | n <;> first | rfl | (exfalso; omega)
        have u0 : ν2 0 = ν 0 := hx 0 (by decide)
        have u1 : ν2 1 = ν 1 := hx 1 (by decide)
        have u2 : ν2 2 = ν 2 := hx 2 (by decide)
        have u3 : ν2 3 = x.toInt := by subst hν; rfl
        have u4 : ν2 4 = ((17 + i : Nat) : Int) := by subst hν; rfl
        have g2 := g.ad (ν' := ν2) (E' := [(0, 0, 19), (4, 0, 0)]) (F' := [((2, 0, 0), (1, 0, 1), (1, 3, 0)), ((2, 3, 0), (1, 3, 0), (3, 4, 0)), ((3, 4, 0), (0, 0, 7), (0, 0, 100)), ((2, 373, 0), (1, 3, 0), (0, 0, 100))]) (C' := [(3, 2, (-1)), (0, 0, 2), (0, 0, 1)]) hx
          ⟨(by show b_q _ _ (ν2 3); rw [u3]; exact b_q.i (by omega) (by omega)), (by show b_q _ _ (ν2 4); rw [u4]; exact b_q.r (c_gF i hkn)), trivial⟩
          ⟨b_fa.mk ex (Or.inl ⟨rfl, rfl⟩) (Or.inr ⟨rfl, by decide, by show _ = ν2 0 + 1; omega⟩) (Or.inr ⟨rfl, by decide, by show _ = ν2 3 + 0; omega⟩), b_fa.mk (R.1.1 i hkn) (Or.inl ⟨rfl, rfl⟩) (Or.inr ⟨rfl, by decide, by show _ = ν2 3 + 0; omega⟩) (Or.inr ⟨rfl, by decide, by show _ = ν2 4; omega⟩), b_fa.mk ey (Or.inr ⟨rfl, by decide, by show _ = ν2 4; omega⟩) (Or.inl ⟨rfl, rfl⟩) (Or.inl ⟨rfl, by show _ = (100 : Int); omega⟩), b_fa.mk ew (Or.inl ⟨rfl, rfl⟩) (Or.inr ⟨rfl, by decide, by show _ = ν2 3 + 0; omega⟩) (Or.inl ⟨rfl, by show _ = (100 : Int); omega⟩), trivial⟩
          ⟨⟨by decide, by decide, by show ν2 3 ≤ ν2 2 + (-1); omega⟩, ⟨by decide, by decide, by show ν2 0 ≤ ν2 0 + 2; omega⟩, ⟨by decide, by decide, by show ν2 0 ≤ ν2 0 + 1; omega⟩, trivial⟩
        exact c_sp hO c_sPrintyMC c_sPrintyMB hl hx g2 (b_al.c (fun ν' h' x' g' => by
          have e1 : c_I h' (17 + i) 7 = ν' 6 + 0 := g'.rI (base := (3, 4, 0)) (slot := (0, 0, 7)) (val := (1, 6, 0)) (by rfl) (by decide) (by decide) (by show ((17 + i : Nat) : Int) = ν' 4; rw [x'.2 4 (by decide)]; exact u4.symm) rfl
          have e2 : c_I h' 373 i = ν' 6 + 0 := g'.rI (base := (2, 373, 0)) (slot := (1, 3, 0)) (val := (1, 6, 0)) (by rfl) (by decide) (by decide) rfl (by show (i : Int) = ν' 3 + 0; rw [x'.2 3 (by decide)]; omega)
          have iv := g'.iv 6 (lo := 100) (hi := 100) rfl
          rw [e1, e2]
          omega) (b_al.c (fun ν' h' x' g' => by
          have e1 : c_I h' (17 + i) 7 = ν' 6 + 0 := g'.rI (base := (3, 4, 0)) (slot := (0, 0, 7)) (val := (1, 6, 0)) (by rfl) (by decide) (by decide) (by show ((17 + i : Nat) : Int) = ν' 4; rw [x'.2 4 (by decide)]; exact u4.symm) rfl
          have e2 : c_I h' 373 i = ν' 6 + 0 := g'.rI (base := (2, 373, 0)) (slot := (1, 3, 0)) (val := (1, 6, 0)) (by rfl) (by decide) (by decide) rfl (by show (i : Int) = ν' 3 + 0; rw [x'.2 3 (by decide)]; omega)
          have iv := g'.iv 6 (lo := 114) (hi := 114) rfl
          rw [e1, e2]
          omega) (b_al.c (fun ν' h' x' g' => by
          have e1 : c_I h' (17 + i) 7 = (100 : Int) := g'.rI (base := (3, 4, 0)) (slot := (0, 0, 7)) (val := (0, 0, 100)) (by rfl) (by decide) (by decide) (by show ((17 + i : Nat) : Int) = ν' 4; rw [x'.2 4 (by decide)]; exact u4.symm) rfl
          have e2 : c_I h' 373 i = (100 : Int) := g'.rI (base := (2, 373, 0)) (slot := (1, 3, 0)) (val := (0, 0, 100)) (by rfl) (by decide) (by decide) rfl (by show (i : Int) = ν' 3 + 0; rw [x'.2 3 (by decide)]; omega)
          rw [e1, e2]
          omega) b_al.n)))
      · obtain ⟨ya, eya, ya1, ya2⟩ := H.rdI (a := 17 + i) (j := 7) (lo := 45) (hi := 150) (c_gF i hi) c_rq3 (by decide) (by decide) rfl
        obtain ⟨wa, ewa, wa1, wa2⟩ := H.rdI (a := 373) (j := i) (lo := 0) (hi := 150) c_ra373 c_rq58 (by decide) hi rfl
        rw [c_I_of eya, c_I_of ewa] at fi
        generalize hν : (fun n => match n with
          | 3 => x.toInt
          | 4 => ((17 + k : Nat) : Int)
          | 5 => (i : Int)
          | 6 => ((17 + i : Nat) : Int)
          | 7 => ya.toInt
          | 8 => wa.toInt
          | n => ν n : BN) = ν2
        have hx : ∀ n, n < 3 → ν2 n = ν n := fun n hn => by
          rw [← hν]
          rcases n with _ | _ | _ | n <;> first | rfl | (exfalso; omega)
        have u0 : ν2 0 = ν 0 := hx 0 (by decide)
        have u1 : ν2 1 = ν 1 := hx 1 (by decide)
        have u2 : ν2 2 = ν 2 := hx 2 (by decide)
        have u3 : ν2 3 = x.toInt := by subst hν; rfl
        have u4 : ν2 4 = ((17 + k : Nat) : Int) := by subst hν; rfl
        have u5 : ν2 5 = (i : Int) := by subst hν; rfl
        have u6 : ν2 6 = ((17 + i : Nat) : Int) := by subst hν; rfl
        have u7 : ν2 7 = ya.toInt := by subst hν; rfl
        have u8 : ν2 8 = wa.toInt := by subst hν; rfl
        have g2 := g.ad (ν' := ν2) (E' := [(0, 0, 19), (4, 0, 0), (0, 0, 19), (4, 0, 0), (0, 45, 150), (0, 0, 150)]) (F' := [((2, 0, 0), (1, 0, 1), (1, 3, 0)), ((2, 3, 0), (1, 3, 0), (3, 4, 0)), ((3, 4, 0), (0, 0, 7), (0, 0, 100)), ((2, 373, 0), (1, 3, 0), (0, 0, 100)), ((2, 3, 0), (1, 5, 0), (3, 6, 0)), ((3, 6, 0), (0, 0, 7), (1, 7, 0)), ((2, 373, 0), (1, 5, 0), (1, 8, 0))]) (C' := [(3, 2, (-1)), (3, 5, (-1)), (4, 6, (-1)), (0, 0, 2), (0, 0, 1)]) hx
          ⟨(by show b_q _ _ (ν2 3); rw [u3]; exact b_q.i (by omega) (by omega)), (by show b_q _ _ (ν2 4); rw [u4]; exact b_q.r (c_gF k hkn)), (by show b_q _ _ (ν2 5); rw [u5]; exact b_q.i (by omega) (by omega)), (by show b_q _ _ (ν2 6); rw [u6]; exact b_q.r (c_gF i hi)), (by show b_q _ _ (ν2 7); rw [u7]; exact b_q.i (by omega) (by omega)), (by show b_q _ _ (ν2 8); rw [u8]; exact b_q.i (by omega) (by omega)), trivial⟩
          ⟨b_fa.mk ex (Or.inl ⟨rfl, rfl⟩) (Or.inr ⟨rfl, by decide, by show _ = ν2 0 + 1; omega⟩) (Or.inr ⟨rfl, by decide, by show _ = ν2 3 + 0; omega⟩), b_fa.mk (R.1.1 k hkn) (Or.inl ⟨rfl, rfl⟩) (Or.inr ⟨rfl, by decide, by show _ = ν2 3 + 0; omega⟩) (Or.inr ⟨rfl, by decide, by show _ = ν2 4; omega⟩), b_fa.mk ey (Or.inr ⟨rfl, by decide, by show _ = ν2 4; omega⟩) (Or.inl ⟨rfl, rfl⟩) (Or.inl ⟨rfl, by show _ = (100 : Int); omega⟩), b_fa.mk ew (Or.inl ⟨rfl, rfl⟩) (Or.inr ⟨rfl, by decide, by show _ = ν2 3 + 0; omega⟩) (Or.inl ⟨rfl, by show _ = (100 : Int); omega⟩), b_fa.mk (R.1.1 i hi) (Or.inl ⟨rfl, rfl⟩) (Or.inr ⟨rfl, by decide, by show _ = ν2 5 + 0; omega⟩) (Or.inr ⟨rfl, by decide, by show _ = ν2 6; omega⟩), b_fa.mk eya (Or.inr ⟨rfl, by decide, by show _ = ν2 6; omega⟩) (Or.inl ⟨rfl, rfl⟩) (Or.inr ⟨rfl, by decide, by show _ = ν2 7 + 0; omega⟩), b_fa.mk ewa (Or.inl ⟨rfl, rfl⟩) (Or.inr ⟨rfl, by decide, by show _ = ν2 5 + 0; omega⟩) (Or.inr ⟨rfl, by decide, by show _ = ν2 8 + 0; omega⟩), trivial⟩
          ⟨⟨by decide, by decide, by show ν2 3 ≤ ν2 2 + (-1); omega⟩, ⟨by decide, by decide, by show ν2 3 ≤ ν2 5 + (-1); omega⟩, ⟨by decide, by decide, by show ν2 4 ≤ ν2 6 + (-1); omega⟩, ⟨by decide, by decide, by show ν2 0 ≤ ν2 0 + 2; omega⟩, ⟨by decide, by decide, by show ν2 0 ≤ ν2 0 + 1; omega⟩, trivial⟩
        exact c_sp hO c_sPrintyGC c_sPrintyGB hl hx g2 (b_al.c (fun ν' h' x' g' => by
          have e1 : c_I h' (17 + i) 7 = ν' 7 + 0 := g'.rI (base := (3, 6, 0)) (slot := (0, 0, 7)) (val := (1, 7, 0)) (by rfl) (by decide) (by decide) (by show ((17 + i : Nat) : Int) = ν' 6; rw [x'.2 6 (by decide)]; exact u6.symm) rfl
          have e2 : c_I h' 373 i = ν' 8 + 0 := g'.rI (base := (2, 373, 0)) (slot := (1, 5, 0)) (val := (1, 8, 0)) (by rfl) (by decide) (by decide) rfl (by show (i : Int) = ν' 5 + 0; rw [x'.2 5 (by decide)]; omega)
          rw [x'.2 7 (by decide), u7, Int.add_zero] at e1
          rw [x'.2 8 (by decide), u8, Int.add_zero] at e2
          rw [e1, e2]
          exact fi) (b_al.c (fun ν' h' x' g' => by
          have e1 : c_I h' (17 + i) 7 = ν' 7 + 0 := g'.rI (base := (3, 6, 0)) (slot := (0, 0, 7)) (val := (1, 7, 0)) (by rfl) (by decide) (by decide) (by show ((17 + i : Nat) : Int) = ν' 6; rw [x'.2 6 (by decide)]; exact u6.symm) rfl
          have e2 : c_I h' 373 i = ν' 8 + 0 := g'.rI (base := (2, 373, 0)) (slot := (1, 5, 0)) (val := (1, 8, 0)) (by rfl) (by decide) (by decide) rfl (by show (i : Int) = ν' 5 + 0; rw [x'.2 5 (by decide)]; omega)
          rw [x'.2 7 (by decide), u7, Int.add_zero] at e1
          rw [x'.2 8 (by decide), u8, Int.add_zero] at e2
          rw [e1, e2]
          exact fi) b_al.n))
  · refine c_res.mono (c_res.all hp (Q := fun h' => c_Fx h') (P := fun i h' => (c_I h' (17 + i) 7 = 45 ∧ c_I h' 373 i = 0) ∨ (c_I h' (17 + i) 7 = c_I h' 373 i ∧ (c_I h' 373 i = 100 ∨ c_I h' 373 i = 114))) (n := 20) ?_ (fun i hi => ?_)) (fun h' q => ⟨q.1, (fun i hi => q.2 i hi)⟩)
    · generalize hν : (fun n => match n with
        | 3 => x.toInt
        | 4 => ((17 + k : Nat) : Int)
        | n => ν n : BN) = ν2
      have hx : ∀ n, n < 3 → ν2 n = ν n := fun n hn => by
        rw [← hν]
        rcases n with _ | _ | _ | n <;> first | rfl | (exfalso; omega)
      have u0 : ν2 0 = ν 0 := hx 0 (by decide)
      have u1 : ν2 1 = ν 1 := hx 1 (by decide)
      have u2 : ν2 2 = ν 2 := hx 2 (by decide)
      have u3 : ν2 3 = x.toInt := by subst hν; rfl
      have u4 : ν2 4 = ((17 + k : Nat) : Int) := by subst hν; rfl
      have g2 := g.ad (ν' := ν2) (E' := [(0, 0, 19), (4, 0, 0)]) (F' := [((2, 0, 0), (1, 0, 1), (1, 3, 0)), ((2, 3, 0), (1, 3, 0), (3, 4, 0)), ((3, 4, 0), (0, 0, 7), (0, 0, 114)), ((2, 373, 0), (1, 3, 0), (0, 0, 114))]) (C' := [(3, 2, (-1)), (0, 0, 2), (0, 0, 1)]) hx
        ⟨(by show b_q _ _ (ν2 3); rw [u3]; exact b_q.i (by omega) (by omega)), (by show b_q _ _ (ν2 4); rw [u4]; exact b_q.r (c_gF k hkn)), trivial⟩
        ⟨b_fa.mk ex (Or.inl ⟨rfl, rfl⟩) (Or.inr ⟨rfl, by decide, by show _ = ν2 0 + 1; omega⟩) (Or.inr ⟨rfl, by decide, by show _ = ν2 3 + 0; omega⟩), b_fa.mk (R.1.1 k hkn) (Or.inl ⟨rfl, rfl⟩) (Or.inr ⟨rfl, by decide, by show _ = ν2 3 + 0; omega⟩) (Or.inr ⟨rfl, by decide, by show _ = ν2 4; omega⟩), b_fa.mk ey (Or.inr ⟨rfl, by decide, by show _ = ν2 4; omega⟩) (Or.inl ⟨rfl, rfl⟩) (Or.inl ⟨rfl, by show _ = (114 : Int); omega⟩), b_fa.mk ew (Or.inl ⟨rfl, rfl⟩) (Or.inr ⟨rfl, by decide, by show _ = ν2 3 + 0; omega⟩) (Or.inl ⟨rfl, by show _ = (114 : Int); omega⟩), trivial⟩
        ⟨⟨by decide, by decide, by show ν2 3 ≤ ν2 2 + (-1); omega⟩, ⟨by decide, by decide, by show ν2 0 ≤ ν2 0 + 2; omega⟩, ⟨by decide, by decide, by show ν2 0 ≤ ν2 0 + 1; omega⟩, trivial⟩
      exact c_sp hO c_sPrintzMC c_sPrintzMB hl hx g2 (b_al_of fun p hp ν' h' x' g' => c_Fx_frm H (show b_frm c_K c_sPrintzM.2.2.1 h h' from g'.2.2.2.2.2) (by decide +kernel) R.1)
    · have fi := R.2 i hi
      rcases Nat.lt_trichotomy i k with c | c | c
      · obtain ⟨ya, eya, ya1, ya2⟩ := H.rdI (a := 17 + i) (j := 7) (lo := 45) (hi := 150) (c_gF i hi) c_rq3 (by decide) (by decide) rfl
        obtain ⟨wa, ewa, wa1, wa2⟩ := H.rdI (a := 373) (j := i) (lo := 0) (hi := 150) c_ra373 c_rq58 (by decide) hi rfl
        rw [c_I_of eya, c_I_of ewa] at fi
        generalize hν : (fun n => match n with
          | 3 => x.toInt
          | 4 => ((17 + k : Nat) : Int)
          | 5 => (i : Int)
          | 6 => ((17 + i : Nat) : Int)
          | 7 => ya.toInt
          | 8 => wa.toInt
          | n => ν n : BN) = ν2
        have hx : ∀ n, n < 3 → ν2 n = ν n := fun n hn => by
          rw [← hν]
          rcases n with _ | _ | _ | n <;> first | rfl | (exfalso; omega)
        have u0 : ν2 0 = ν 0 := hx 0 (by decide)
        have u1 : ν2 1 = ν 1 := hx 1 (by decide)
        have u2 : ν2 2 = ν 2 := hx 2 (by decide)
        have u3 : ν2 3 = x.toInt := by subst hν; rfl
        have u4 : ν2 4 = ((17 + k : Nat) : Int) := by subst hν; rfl
        have u5 : ν2 5 = (i : Int) := by subst hν; rfl
        have u6 : ν2 6 = ((17 + i : Nat) : Int) := by subst hν; rfl
        have u7 : ν2 7 = ya.toInt := by subst hν; rfl
        have u8 : ν2 8 = wa.toInt := by subst hν; rfl
        have g2 := g.ad (ν' := ν2) (E' := [(0, 0, 19), (4, 0, 0), (0, 0, 19), (4, 0, 0), (0, 45, 150), (0, 0, 150)]) (F' := [((2, 0, 0), (1, 0, 1), (1, 3, 0)), ((2, 3, 0), (1, 3, 0), (3, 4, 0)), ((3, 4, 0), (0, 0, 7), (0, 0, 114)), ((2, 373, 0), (1, 3, 0), (0, 0, 114)), ((2, 3, 0), (1, 5, 0), (3, 6, 0)), ((3, 6, 0), (0, 0, 7), (1, 7, 0)), ((2, 373, 0), (1, 5, 0), (1, 8, 0))]) (C' := [(3, 2, (-1)), (5, 3, (-1)), (6, 4, (-1)), (0, 0, 2), (0, 0, 1)]) hx
          ⟨(by show b_q _ _ (ν2 3); rw [u3]; exact b_q.i (by omega) (by omega)), (by show b_q _ _ (ν2 4); rw [u4]; exact b_q.r (c_gF k hkn)), (by show b_q _ _ (ν2 5); rw [u5]; exact b_q.i (by omega) (by omega)), (by show b_q _ _ (ν2 6); rw [u6]; exact b_q.r (c_gF i hi)), (by show b_q _ _ (ν2 7); rw [u7]; exact b_q.i (by omega) (by omega)), (by show b_q _ _ (ν2 8); rw [u8]; exact b_q.i (by omega) (by omega)), trivial⟩
          ⟨b_fa.mk ex (Or.inl ⟨rfl, rfl⟩) (Or.inr ⟨rfl, by decide, by show _ = ν2 0 + 1; omega⟩) (Or.inr ⟨rfl, by decide, by show _ = ν2 3 + 0; omega⟩), b_fa.mk (R.1.1 k hkn) (Or.inl ⟨rfl, rfl⟩) (Or.inr ⟨rfl, by decide, by show _ = ν2 3 + 0; omega⟩) (Or.inr ⟨rfl, by decide, by show _ = ν2 4; omega⟩), b_fa.mk ey (Or.inr ⟨rfl, by decide, by show _ = ν2 4; omega⟩) (Or.inl ⟨rfl, rfl⟩) (Or.inl ⟨rfl, by show _ = (114 : Int); omega⟩), b_fa.mk ew (Or.inl ⟨rfl, rfl⟩) (Or.inr ⟨rfl, by decide, by show _ = ν2 3 + 0; omega⟩) (Or.inl ⟨rfl, by show _ = (114 : Int); omega⟩), b_fa.mk (R.1.1 i hi) (Or.inl ⟨rfl, rfl⟩) (Or.inr ⟨rfl, by decide, by show _ = ν2 5 + 0; omega⟩) (Or.inr ⟨rfl, by decide, by show _ = ν2 6; omega⟩), b_fa.mk eya (Or.inr ⟨rfl, by decide, by show _ = ν2 6; omega⟩) (Or.inl ⟨rfl, rfl⟩) (Or.inr ⟨rfl, by decide, by show _ = ν2 7 + 0; omega⟩), b_fa.mk ewa (Or.inl ⟨rfl, rfl⟩) (Or.inr ⟨rfl, by decide, by show _ = ν2 5 + 0; omega⟩) (Or.inr ⟨rfl, by decide, by show _ = ν2 8 + 0; omega⟩), trivial⟩
          ⟨⟨by decide, by decide, by show ν2 3 ≤ ν2 2 + (-1); omega⟩, ⟨by decide, by decide, by show ν2 5 ≤ ν2 3 + (-1); omega⟩, ⟨by decide, by decide, by show ν2 6 ≤ ν2 4 + (-1); omega⟩, ⟨by decide, by decide, by show ν2 0 ≤ ν2 0 + 2; omega⟩, ⟨by decide, by decide, by show ν2 0 ≤ ν2 0 + 1; omega⟩, trivial⟩
        exact c_sp hO c_sPrintzLC c_sPrintzLB hl hx g2 (b_al.c (fun ν' h' x' g' => by
          have e1 : c_I h' (17 + i) 7 = ν' 7 + 0 := g'.rI (base := (3, 6, 0)) (slot := (0, 0, 7)) (val := (1, 7, 0)) (by rfl) (by decide) (by decide) (by show ((17 + i : Nat) : Int) = ν' 6; rw [x'.2 6 (by decide)]; exact u6.symm) rfl
          have e2 : c_I h' 373 i = ν' 8 + 0 := g'.rI (base := (2, 373, 0)) (slot := (1, 5, 0)) (val := (1, 8, 0)) (by rfl) (by decide) (by decide) rfl (by show (i : Int) = ν' 5 + 0; rw [x'.2 5 (by decide)]; omega)
          rw [x'.2 7 (by decide), u7, Int.add_zero] at e1
          rw [x'.2 8 (by decide), u8, Int.add_zero] at e2
          rw [e1, e2]
          exact fi) (b_al.c (fun ν' h' x' g' => by
          have e1 : c_I h' (17 + i) 7 = ν' 7 + 0 := g'.rI (base := (3, 6, 0)) (slot := (0, 0, 7)) (val := (1, 7, 0)) (by rfl) (by decide) (by decide) (by show ((17 + i : Nat) : Int) = ν' 6; rw [x'.2 6 (by decide)]; exact u6.symm) rfl
          have e2 : c_I h' 373 i = ν' 8 + 0 := g'.rI (base := (2, 373, 0)) (slot := (1, 5, 0)) (val := (1, 8, 0)) (by rfl) (by decide) (by decide) rfl (by show (i : Int) = ν' 5 + 0; rw [x'.2 5 (by decide)]; omega)
          rw [x'.2 7 (by decide), u7, Int.add_zero] at e1
          rw [x'.2 8 (by decide), u8, Int.add_zero] at e2
          rw [e1, e2]
          exact fi) b_al.n))
      · subst c
        generalize hν : (fun n => match n with
          | 3 => x.toInt
          | 4 => ((17 + i : Nat) : Int)
          | n => ν n : BN) = ν2
        have hx : ∀ n, n < 3 → ν2 n = ν n := fun n hn => by
          rw [← hν]
          rcases n with _ | _ | _ | n <;> first | rfl | (exfalso; omega)
        have u0 : ν2 0 = ν 0 := hx 0 (by decide)
        have u1 : ν2 1 = ν 1 := hx 1 (by decide)
        have u2 : ν2 2 = ν 2 := hx 2 (by decide)
        have u3 : ν2 3 = x.toInt := by subst hν; rfl
        have u4 : ν2 4 = ((17 + i : Nat) : Int) := by subst hν; rfl
        have g2 := g.ad (ν' := ν2) (E' := [(0, 0, 19), (4, 0, 0)]) (F' := [((2, 0, 0), (1, 0, 1), (1, 3, 0)), ((2, 3, 0), (1, 3, 0), (3, 4, 0)), ((3, 4, 0), (0, 0, 7), (0, 0, 114)), ((2, 373, 0), (1, 3, 0), (0, 0, 114))]) (C' := [(3, 2, (-1)), (0, 0, 2), (0, 0, 1)]) hx
          ⟨(by show b_q _ _ (ν2 3); rw [u3]; exact b_q.i (by omega) (by omega)), (by show b_q _ _ (ν2 4); rw [u4]; exact b_q.r (c_gF i hkn)), trivial⟩
          ⟨b_fa.mk ex (Or.inl ⟨rfl, rfl⟩) (Or.inr ⟨rfl, by decide, by show _ = ν2 0 + 1; omega⟩) (Or.inr ⟨rfl, by decide, by show _ = ν2 3 + 0; omega⟩), b_fa.mk (R.1.1 i hkn) (Or.inl ⟨rfl, rfl⟩) (Or.inr ⟨rfl, by decide, by show _ = ν2 3 + 0; omega⟩) (Or.inr ⟨rfl, by decide, by show _ = ν2 4; omega⟩), b_fa.mk ey (Or.inr ⟨rfl, by decide, by show _ = ν2 4; omega⟩) (Or.inl ⟨rfl, rfl⟩) (Or.inl ⟨rfl, by show _ = (114 : Int); omega⟩), b_fa.mk ew (Or.inl ⟨rfl, rfl⟩) (Or.inr ⟨rfl, by decide, by show _ = ν2 3 + 0; omega⟩) (Or.inl ⟨rfl, by show _ = (114 : Int); omega⟩), trivial⟩
          ⟨⟨by decide, by decide, by show ν2 3 ≤ ν2 2 + (-1); omega⟩, ⟨by decide, by decide, by show ν2 0 ≤ ν2 0 + 2; omega⟩, ⟨by decide, by decide, by show ν2 0 ≤ ν2 0 + 1; omega⟩, trivial⟩
        exact c_sp hO c_sPrintzMC c_sPrintzMB hl hx g2 (b_al.c (fun ν' h' x' g' => by
          have e1 : c_I h' (17 + i) 7 = ν' 6 + 0 := g'.rI (base := (3, 4, 0)) (slot := (0, 0, 7)) (val := (1, 6, 0)) (by rfl) (by decide) (by decide) (by show ((17 + i : Nat) : Int) = ν' 4; rw [x'.2 4 (by decide)]; exact u4.symm) rfl
          have e2 : c_I h' 373 i = ν' 6 + 0 := g'.rI (base := (2, 373, 0)) (slot := (1, 3, 0)) (val := (1, 6, 0)) (by rfl) (by decide) (by decide) rfl (by show (i : Int) = ν' 3 + 0; rw [x'.2 3 (by decide)]; omega)
          have iv := g'.iv 6 (lo := 100) (hi := 100) rfl
          rw [e1, e2]
          omega) (b_al.c (fun ν' h' x' g' => by
          have e1 : c_I h' (17 + i) 7 = ν' 6 + 0 := g'.rI (base := (3, 4, 0)) (slot := (0, 0, 7)) (val := (1, 6, 0)) (by rfl) (by decide) (by decide) (by show ((17 + i : Nat) : Int) = ν' 4; rw [x'.2 4 (by decide)]; exact u4.symm) rfl
          have e2 : c_I h' 373 i = ν' 6 + 0 := g'.rI (base := (2, 373, 0)) (slot := (1, 3, 0)) (val := (1, 6, 0)) (by rfl) (by decide) (by decide) rfl (by show (i : Int) = ν' 3 + 0; rw [x'.2 3 (by decide)]; omega)
          have iv := g'.iv 6 (lo := 114) (hi := 114) rfl
          rw [e1, e2]
          omega) (b_al.c (fun ν' h' x' g' => by
          have e1 : c_I h' (17 + i) 7 = (114 : Int) := g'.rI (base := (3, 4, 0)) (slot := (0, 0, 7)) (val := (0, 0, 114)) (by rfl) (by decide) (by decide) (by show ((17 + i : Nat) : Int) = ν' 4; rw [x'.2 4 (by decide)]; exact u4.symm) rfl
          have e2 : c_I h' 373 i = (114 : Int) := g'.rI (base := (2, 373, 0)) (slot := (1, 3, 0)) (val := (0, 0, 114)) (by rfl) (by decide) (by decide) rfl (by show (i : Int) = ν' 3 + 0; rw [x'.2 3 (by decide)]; omega)
          rw [e1, e2]
          omega) b_al.n)))
      · obtain ⟨ya, eya, ya1, ya2⟩ := H.rdI (a := 17 + i) (j := 7) (lo := 45) (hi := 150) (c_gF i hi) c_rq3 (by decide) (by decide) rfl
        obtain ⟨wa, ewa, wa1, wa2⟩ := H.rdI (a := 373) (j := i) (lo := 0) (hi := 150) c_ra373 c_rq58 (by decide) hi rfl
        rw [c_I_of eya, c_I_of ewa] at fi
        generalize hν : (fun n => match n with
          | 3 => x.toInt
          | 4 => ((17 + k : Nat) : Int)
          | 5 => (i : Int)
          | 6 => ((17 + i : Nat) : Int)
          | 7 => ya.toInt
          | 8 => wa.toInt
          | n => ν n : BN) = ν2
        have hx : ∀ n, n < 3 → ν2 n = ν n := fun n hn => by
          rw [← hν]
          rcases n with _ | _ | _ | n <;> first | rfl | (exfalso; omega)
        have u0 : ν2 0 = ν 0 := hx 0 (by decide)
        have u1 : ν2 1 = ν 1 := hx 1 (by decide)
        have u2 : ν2 2 = ν 2 := hx 2 (by decide)
        have u3 : ν2 3 = x.toInt := by subst hν; rfl
        have u4 : ν2 4 = ((17 + k : Nat) : Int) := by subst hν; rfl
        have u5 : ν2 5 = (i : Int) := by subst hν; rfl
        have u6 : ν2 6 = ((17 + i : Nat) : Int) := by subst hν; rfl
        have u7 : ν2 7 = ya.toInt := by subst hν; rfl
        have u8 : ν2 8 = wa.toInt := by subst hν; rfl
        have g2 := g.ad (ν' := ν2) (E' := [(0, 0, 19), (4, 0, 0), (0, 0, 19), (4, 0, 0), (0, 45, 150), (0, 0, 150)]) (F' := [((2, 0, 0), (1, 0, 1), (1, 3, 0)), ((2, 3, 0), (1, 3, 0), (3, 4, 0)), ((3, 4, 0), (0, 0, 7), (0, 0, 114)), ((2, 373, 0), (1, 3, 0), (0, 0, 114)), ((2, 3, 0), (1, 5, 0), (3, 6, 0)), ((3, 6, 0), (0, 0, 7), (1, 7, 0)), ((2, 373, 0), (1, 5, 0), (1, 8, 0))]) (C' := [(3, 2, (-1)), (3, 5, (-1)), (4, 6, (-1)), (0, 0, 2), (0, 0, 1)]) hx
          ⟨(by show b_q _ _ (ν2 3); rw [u3]; exact b_q.i (by omega) (by omega)), (by show b_q _ _ (ν2 4); rw [u4]; exact b_q.r (c_gF k hkn)), (by show b_q _ _ (ν2 5); rw [u5]; exact b_q.i (by omega) (by omega)), (by show b_q _ _ (ν2 6); rw [u6]; exact b_q.r (c_gF i hi)), (by show b_q _ _ (ν2 7); rw [u7]; exact b_q.i (by omega) (by omega)), (by show b_q _ _ (ν2 8); rw [u8]; exact b_q.i (by omega) (by omega)), trivial⟩
          ⟨b_fa.mk ex (Or.inl ⟨rfl, rfl⟩) (Or.inr ⟨rfl, by decide, by show _ = ν2 0 + 1; omega⟩) (Or.inr ⟨rfl, by decide, by show _ = ν2 3 + 0; omega⟩), b_fa.mk (R.1.1 k hkn) (Or.inl ⟨rfl, rfl⟩) (Or.inr ⟨rfl, by decide, by show _ = ν2 3 + 0; omega⟩) (Or.inr ⟨rfl, by decide, by show _ = ν2 4; omega⟩), b_fa.mk ey (Or.inr ⟨rfl, by decide, by show _ = ν2 4; omega⟩) (Or.inl ⟨rfl, rfl⟩) (Or.inl ⟨rfl, by show _ = (114 : Int); omega⟩), b_fa.mk ew (Or.inl ⟨rfl, rfl⟩) (Or.inr ⟨rfl, by decide, by show _ = ν2 3 + 0; omega⟩) (Or.inl ⟨rfl, by show _ = (114 : Int); omega⟩), b_fa.mk (R.1.1 i hi) (Or.inl ⟨rfl, rfl⟩) (Or.inr ⟨rfl, by decide, by show _ = ν2 5 + 0; omega⟩) (Or.inr ⟨rfl, by decide, by show _ = ν2 6; omega⟩), b_fa.mk eya (Or.inr ⟨rfl, by decide, by show _ = ν2 6; omega⟩) (Or.inl ⟨rfl, rfl⟩) (Or.inr ⟨rfl, by decide, by show _ = ν2 7 + 0; omega⟩), b_fa.mk ewa (Or.inl ⟨rfl, rfl⟩) (Or.inr ⟨rfl, by decide, by show _ = ν2 5 + 0; omega⟩) (Or.inr ⟨rfl, by decide, by show _ = ν2 8 + 0; omega⟩), trivial⟩
          ⟨⟨by decide, by decide, by show ν2 3 ≤ ν2 2 + (-1); omega⟩, ⟨by decide, by decide, by show ν2 3 ≤ ν2 5 + (-1); omega⟩, ⟨by decide, by decide, by show ν2 4 ≤ ν2 6 + (-1); omega⟩, ⟨by decide, by decide, by show ν2 0 ≤ ν2 0 + 2; omega⟩, ⟨by decide, by decide, by show ν2 0 ≤ ν2 0 + 1; omega⟩, trivial⟩
        exact c_sp hO c_sPrintzGC c_sPrintzGB hl hx g2 (b_al.c (fun ν' h' x' g' => by
          have e1 : c_I h' (17 + i) 7 = ν' 7 + 0 := g'.rI (base := (3, 6, 0)) (slot := (0, 0, 7)) (val := (1, 7, 0)) (by rfl) (by decide) (by decide) (by show ((17 + i : Nat) : Int) = ν' 6; rw [x'.2 6 (by decide)]; exact u6.symm) rfl
          have e2 : c_I h' 373 i = ν' 8 + 0 := g'.rI (base := (2, 373, 0)) (slot := (1, 5, 0)) (val := (1, 8, 0)) (by rfl) (by decide) (by decide) rfl (by show (i : Int) = ν' 5 + 0; rw [x'.2 5 (by decide)]; omega)
          rw [x'.2 7 (by decide), u7, Int.add_zero] at e1
          rw [x'.2 8 (by decide), u8, Int.add_zero] at e2
          rw [e1, e2]
          exact fi) (b_al.c (fun ν' h' x' g' => by
          have e1 : c_I h' (17 + i) 7 = ν' 7 + 0 := g'.rI (base := (3, 6, 0)) (slot := (0, 0, 7)) (val := (1, 7, 0)) (by rfl) (by decide) (by decide) (by show ((17 + i : Nat) : Int) = ν' 6; rw [x'.2 6 (by decide)]; exact u6.symm) rfl
          have e2 : c_I h' 373 i = ν' 8 + 0 := g'.rI (base := (2, 373, 0)) (slot := (1, 5, 0)) (val := (1, 8, 0)) (by rfl) (by decide) (by decide) rfl (by show (i : Int) = ν' 5 + 0; rw [x'.2 5 (by decide)]; omega)
          rw [x'.2 7 (by decide), u7, Int.add_zero] at e1
          rw [x'.2 8 (by decide), u8, Int.add_zero] at e2
          rw [e1, e2]
          exact fi) b_al.n))
theorem c_g969 : c_goal 969 := c_goal_gen (S := c_sG969) (b_orc_ok c_hJ (tab := [c_r273, c_r199]) (List.forall_mem_cons.mpr ⟨c_v273, List.forall_mem_cons.mpr ⟨c_v199, fun _ h => absurd h List.not_mem_nil⟩⟩) 3000 12) c_sG969C c_sG969B (by decide +kernel)
theorem c_g1033 : c_goal 1033 := c_goal_gen (S := c_sG1033) (b_orc_ok c_hJ (tab := [c_r274, c_r201]) (List.forall_mem_cons.mpr ⟨c_v274, List.forall_mem_cons.mpr ⟨c_v201, fun _ h => absurd h List.not_mem_nil⟩⟩) 3000 12) c_sG1033C c_sG1033B (by decide +kernel)
theorem c_g1085 : c_goal 1085 := c_goal_gen (S := c_sG1085) (b_orc_ok c_hJ (tab := [c_r275, c_r209]) (List.forall_mem_cons.mpr ⟨c_v275, List.forall_mem_cons.mpr ⟨c_v209, fun _ h => absurd h List.not_mem_nil⟩⟩) 3000 12) c_sG1085C c_sG1085B (by decide +kernel)
theorem c_g1137 : c_goal 1137 := c_goal_gen (S := c_sG1137) (b_orc_ok c_hJ (tab := [c_r276, c_r211]) (List.forall_mem_cons.mpr ⟨c_v276, List.forall_mem_cons.mpr ⟨c_v211, fun _ h => absurd h List.not_mem_nil⟩⟩) 3000 12) c_sG1137C c_sG1137B (by decide +kernel)
theorem c_g1165 : c_goal 1165 := c_goal_gen (S := c_sG1165) (b_orc_ok c_hJ (tab := [c_r277, c_r213]) (List.forall_mem_cons.mpr ⟨c_v277, List.forall_mem_cons.mpr ⟨c_v213, fun _ h => absurd h List.not_mem_nil⟩⟩) 3000 12) c_sG1165C c_sG1165B (by decide +kernel)
theorem c_g1207 : c_goal 1207 := c_goal_gen (S := c_sG1207) (b_orc_ok c_hJ (tab := [c_r278, c_r214]) (List.forall_mem_cons.mpr ⟨c_v278, List.forall_mem_cons.mpr ⟨c_v214, fun _ h => absurd h List.not_mem_nil⟩⟩) 3000 12) c_sG1207C c_sG1207B (by decide +kernel)
theorem c_g1235 : c_goal 1235 := c_goal_gen (S := c_sG1235) (b_orc_ok c_hJ (tab := [c_r279, c_r215]) (List.forall_mem_cons.mpr ⟨c_v279, List.forall_mem_cons.mpr ⟨c_v215, fun _ h => absurd h List.not_mem_nil⟩⟩) 3000 12) c_sG1235C c_sG1235B (by decide +kernel)
