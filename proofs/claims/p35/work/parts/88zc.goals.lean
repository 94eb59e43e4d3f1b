/-! The calls' goals, on (wip/law4.py) -/
theorem c_g1240 : c_goal 1240 := c_goal_gen (S := c_sG1240) (b_orc_ok c_hJ (tab := [c_r280, c_r216]) (List.forall_mem_cons.mpr ⟨c_v280, List.forall_mem_cons.mpr ⟨c_v216, fun _ h => absurd h List.not_mem_nil⟩⟩) 3000 12) c_sG1240C c_sG1240B (by decide +kernel)
theorem c_g1268 : c_goal 1268 := c_goal_gen (S := c_sG1268) (b_orc_ok c_hJ (tab := [c_r115, c_r217]) (List.forall_mem_cons.mpr ⟨c_v115, List.forall_mem_cons.mpr ⟨c_v217, fun _ h => absurd h List.not_mem_nil⟩⟩) 3000 12) c_sG1268C c_sG1268B (by decide +kernel)
theorem c_g1281 : c_goal 1281 := c_goal_gen (S := c_sG1281) (b_orc_ok c_hJ (tab := [c_r281, c_r221]) (List.forall_mem_cons.mpr ⟨c_v281, List.forall_mem_cons.mpr ⟨c_v221, fun _ h => absurd h List.not_mem_nil⟩⟩) 3000 12) c_sG1281C c_sG1281B (by decide +kernel)
theorem c_g1309 : c_goal 1309 := c_goal_gen (S := c_sG1309) (b_orc_ok c_hJ (tab := [c_r282, c_r222]) (List.forall_mem_cons.mpr ⟨c_v282, List.forall_mem_cons.mpr ⟨c_v222, fun _ h => absurd h List.not_mem_nil⟩⟩) 3000 12) c_sG1309C c_sG1309B (by decide +kernel)
theorem c_g1349 : c_goal 1349 := c_goal_gen (S := c_sG1349) (b_orc_ok c_hJ (tab := [c_r283, c_r223]) (List.forall_mem_cons.mpr ⟨c_v283, List.forall_mem_cons.mpr ⟨c_v223, fun _ h => absurd h List.not_mem_nil⟩⟩) 3000 12) c_sG1349C c_sG1349B (by decide +kernel)
theorem c_g1377 : c_goal 1377 := c_goal_gen (S := c_sG1377) (b_orc_ok c_hJ (tab := [c_r284, c_r224]) (List.forall_mem_cons.mpr ⟨c_v284, List.forall_mem_cons.mpr ⟨c_v224, fun _ h => absurd h List.not_mem_nil⟩⟩) 3000 12) c_sG1377C c_sG1377B (by decide +kernel)
theorem c_g1405 : c_goal 1405 := c_goal_gen (S := c_sG1405) (b_orc_ok c_hJ (tab := [c_r285, c_r226]) (List.forall_mem_cons.mpr ⟨c_v285, List.forall_mem_cons.mpr ⟨c_v226, fun _ h => absurd h List.not_mem_nil⟩⟩) 3000 12) c_sG1405C c_sG1405B (by decide +kernel)
theorem c_g1445 : c_goal 1445 := c_goal_gen (S := c_sG1445) (b_orc_ok c_hJ (tab := [c_r286, c_r228]) (List.forall_mem_cons.mpr ⟨c_v286, List.forall_mem_cons.mpr ⟨c_v228, fun _ h => absurd h List.not_mem_nil⟩⟩) 3000 12) c_sG1445C c_sG1445B (by decide +kernel)
theorem c_g1473 : c_goal 1473 := c_goal_gen (S := c_sG1473) (b_orc_ok c_hJ (tab := [c_r287, c_r229]) (List.forall_mem_cons.mpr ⟨c_v287, List.forall_mem_cons.mpr ⟨c_v229, fun _ h => absurd h List.not_mem_nil⟩⟩) 3000 12) c_sG1473C c_sG1473B (by decide +kernel)
theorem c_g1513 : c_goal 1513 := by
  intro ν al h mc ms hl g R
  have H := g.2.2.2.2.1
  obtain ⟨x, ex⟩ := c_scr g (j := 1) (by decide)
  have bx := b_32 x
  have i0 := g.iv 0 (lo := 0) (hi := 3072) rfl
  have i1 := g.iv 1 (lo := 0) (hi := 3072) rfl
  have i2 := g.iv 2 (lo := 0) (hi := 5) rfl
  have hp : 1513 ≠ 28 := by decide
  have hO := b_orc_ok (K := c_K) c_hJ (tab := []) (fun _ h => absurd h List.not_mem_nil) 3000 12
  by_cases h1 : x.toInt < 0
  · generalize hν : (fun n => match n with
      | 3 => x.toInt
      | n => ν n : BN) = ν2
    have hx : ∀ n, n < 3 → ν2 n = ν n := fun n hn => by
      rw [← hν]
      rcases n with _ | _ | _ | n <;> first | rfl | (exfalso; omega)
    have u0 : ν2 0 = ν 0 := hx 0 (by decide)
    have u1 : ν2 1 = ν 1 := hx 1 (by decide)
    have u2 : ν2 2 = ν 2 := hx 2 (by decide)
    have u3 : ν2 3 = x.toInt := by subst hν; rfl
    have g2 := g.ad (ν' := ν2) (E' := [(0, (-2147483648), (-1))]) (F' := [((2, 0, 0), (1, 0, 1), (1, 3, 0))]) (C' := [(0, 0, 1)]) hx
      ⟨(by show b_q _ _ (ν2 3); rw [u3]; exact b_q.i (by omega) (by omega)), trivial⟩
      ⟨b_fa.mk ex (Or.inl ⟨rfl, rfl⟩) (Or.inr ⟨rfl, by decide, by show _ = ν2 0 + 1; omega⟩) (Or.inr ⟨rfl, by decide, by show _ = ν2 3 + 0; omega⟩), trivial⟩
      ⟨⟨by decide, by decide, by show ν2 0 ≤ ν2 0 + 1; omega⟩, trivial⟩
    exact c_sp hO c_sJuror1C c_sJuror1B hl hx (Q := c_Rel) g2 (b_al_of fun p hp ν' h' x' g' => c_Rel_frm H (show b_frm c_K c_sJuror1.2.2.1 h h' from g'.2.2.2.2.2) (by decide +kernel) R)
  by_cases h2 : ν 2 ≤ x.toInt
  · generalize hν : (fun n => match n with
      | 3 => x.toInt
      | n => ν n : BN) = ν2
    have hx : ∀ n, n < 3 → ν2 n = ν n := fun n hn => by
      rw [← hν]
      rcases n with _ | _ | _ | n <;> first | rfl | (exfalso; omega)
    have u0 : ν2 0 = ν 0 := hx 0 (by decide)
    have u1 : ν2 1 = ν 1 := hx 1 (by decide)
    have u2 : ν2 2 = ν 2 := hx 2 (by decide)
    have u3 : ν2 3 = x.toInt := by subst hν; rfl
    have g2 := g.ad (ν' := ν2) (E' := [(0, 0, 2147483647)]) (F' := [((2, 0, 0), (1, 0, 1), (1, 3, 0))]) (C' := [(2, 3, 0), (0, 0, 1)]) hx
      ⟨(by show b_q _ _ (ν2 3); rw [u3]; exact b_q.i (by omega) (by omega)), trivial⟩
      ⟨b_fa.mk ex (Or.inl ⟨rfl, rfl⟩) (Or.inr ⟨rfl, by decide, by show _ = ν2 0 + 1; omega⟩) (Or.inr ⟨rfl, by decide, by show _ = ν2 3 + 0; omega⟩), trivial⟩
      ⟨⟨by decide, by decide, by show ν2 2 ≤ ν2 3 + 0; omega⟩, ⟨by decide, by decide, by show ν2 0 ≤ ν2 0 + 1; omega⟩, trivial⟩
    exact c_sp hO c_sJuror2C c_sJuror2B hl hx (Q := c_Rel) g2 (b_al_of fun p hp ν' h' x' g' => c_Rel_frm H (show b_frm c_K c_sJuror2.2.2.1 h h' from g'.2.2.2.2.2) (by decide +kernel) R)
  obtain ⟨k, hk, hkn⟩ : ∃ k : Nat, (k : Int) = x.toInt ∧ k < 5 := ⟨x.toInt.toNat, by omega, by omega⟩
  obtain ⟨y, ey, y1, y2⟩ := H.rdI (a := 280 + 17 * k) (j := 8) (lo := 0) (hi := 5) (c_gS k hkn) c_rq21 (by decide) (by decide) rfl
  obtain ⟨w, ew, w1, w2⟩ := H.rdI (a := 619) (j := k) (lo := 0) (hi := 5) c_ra619 c_rq89 (by decide) hkn rfl
  have rk := R.2 k hkn
  rw [c_I_of ey, c_I_of ew] at rk
  refine c_res.mono (c_res.all hp (Q := fun h' => c_Fx h') (P := fun i h' => c_I h' (280 + 17 * i) 8 = c_I h' 619 i) (n := 5) ?_ (fun i hi => ?_)) (fun h' q => ⟨q.1, (fun i hi => q.2 i hi)⟩)
  · generalize hν : (fun n => match n with
      | 3 => x.toInt
      | 4 => ((280 + 17 * k : Nat) : Int)
      | 5 => y.toInt
      | n => ν n : BN) = ν2
    have hx : ∀ n, n < 3 → ν2 n = ν n := fun n hn => by
      rw [← hν]
      rcases n with _ | _ | _ | n <;> first | rfl | (exfalso; omega)
    have u0 : ν2 0 = ν 0 := hx 0 (by decide)
    have u1 : ν2 1 = ν 1 := hx 1 (by decide)
    have u2 : ν2 2 = ν 2 := hx 2 (by decide)
    have u3 : ν2 3 = x.toInt := by subst hν; rfl
    have u4 : ν2 4 = ((280 + 17 * k : Nat) : Int) := by subst hν; rfl
    have u5 : ν2 5 = y.toInt := by subst hν; rfl
    have g2 := g.ad (ν' := ν2) (E' := [(0, 0, 4), (22, 0, 0), (0, 0, 5)]) (F' := [((2, 0, 0), (1, 0, 1), (1, 3, 0)), ((2, 217, 0), (1, 3, 0), (3, 4, 0)), ((3, 4, 0), (0, 0, 8), (1, 5, 0)), ((2, 619, 0), (1, 3, 0), (1, 5, 0))]) (C' := [(3, 2, (-1)), (0, 0, 2), (0, 0, 1)]) hx
      ⟨(by show b_q _ _ (ν2 3); rw [u3]; exact b_q.i (by omega) (by omega)), (by show b_q _ _ (ν2 4); rw [u4]; exact b_q.r (c_gS k hkn)), (by show b_q _ _ (ν2 5); rw [u5]; exact b_q.i (by omega) (by omega)), trivial⟩
      ⟨b_fa.mk ex (Or.inl ⟨rfl, rfl⟩) (Or.inr ⟨rfl, by decide, by show _ = ν2 0 + 1; omega⟩) (Or.inr ⟨rfl, by decide, by show _ = ν2 3 + 0; omega⟩), b_fa.mk (R.1.2 k hkn) (Or.inl ⟨rfl, rfl⟩) (Or.inr ⟨rfl, by decide, by show _ = ν2 3 + 0; omega⟩) (Or.inr ⟨rfl, by decide, by show _ = ν2 4; omega⟩), b_fa.mk ey (Or.inr ⟨rfl, by decide, by show _ = ν2 4; omega⟩) (Or.inl ⟨rfl, rfl⟩) (Or.inr ⟨rfl, by decide, by show _ = ν2 5 + 0; omega⟩), b_fa.mk ew (Or.inl ⟨rfl, rfl⟩) (Or.inr ⟨rfl, by decide, by show _ = ν2 3 + 0; omega⟩) (Or.inr ⟨rfl, by decide, by show _ = ν2 5 + 0; omega⟩), trivial⟩
      ⟨⟨by decide, by decide, by show ν2 3 ≤ ν2 2 + (-1); omega⟩, ⟨by decide, by decide, by show ν2 0 ≤ ν2 0 + 2; omega⟩, ⟨by decide, by decide, by show ν2 0 ≤ ν2 0 + 1; omega⟩, trivial⟩
    exact c_sp hO c_sJurorMC c_sJurorMB hl hx g2 (b_al_of fun p hp ν' h' x' g' => c_Fx_frm H (show b_frm c_K c_sJurorM.2.2.1 h h' from g'.2.2.2.2.2) (by decide +kernel) R.1)
  · have fi := R.2 i hi
    rcases Nat.lt_trichotomy i k with c | c | c
    · obtain ⟨ya, eya, ya1, ya2⟩ := H.rdI (a := 280 + 17 * i) (j := 8) (lo := 0) (hi := 5) (c_gS i hi) c_rq21 (by decide) (by decide) rfl
      obtain ⟨wa, ewa, wa1, wa2⟩ := H.rdI (a := 619) (j := i) (lo := 0) (hi := 5) c_ra619 c_rq89 (by decide) hi rfl
      rw [c_I_of eya, c_I_of ewa] at fi
      generalize hν : (fun n => match n with
        | 3 => x.toInt
        | 4 => ((280 + 17 * k : Nat) : Int)
        | 5 => y.toInt
        | 6 => (i : Int)
        | 7 => ((280 + 17 * i : Nat) : Int)
        | 8 => ya.toInt
        | 9 => wa.toInt
        | n => ν n : BN) = ν2
      have hx : ∀ n, n < 3 → ν2 n = ν n := fun n hn => by
        rw [← hν]
        rcases n with _ | _ | _ | n <;> first | rfl | (exfalso; omega)
      have u0 : ν2 0 = ν 0 := hx 0 (by decide)
      have u1 : ν2 1 = ν 1 := hx 1 (by decide)
      have u2 : ν2 2 = ν 2 := hx 2 (by decide)
      have u3 : ν2 3 = x.toInt := by subst hν; rfl
      have u4 : ν2 4 = ((280 + 17 * k : Nat) : Int) := by subst hν; rfl
      have u5 : ν2 5 = y.toInt := by subst hν; rfl
      have u6 : ν2 6 = (i : Int) := by subst hν; rfl
      have u7 : ν2 7 = ((280 + 17 * i : Nat) : Int) := by subst hν; rfl
      have u8 : ν2 8 = ya.toInt := by subst hν; rfl
      have u9 : ν2 9 = wa.toInt := by subst hν; rfl
      have g2 := g.ad (ν' := ν2) (E' := [(0, 0, 4), (22, 0, 0), (0, 0, 5), (0, 0, 4), (22, 0, 0), (0, 0, 5), (0, 0, 5)]) (F' := [((2, 0, 0), (1, 0, 1), (1, 3, 0)), ((2, 217, 0), (1, 3, 0), (3, 4, 0)), ((3, 4, 0), (0, 0, 8), (1, 5, 0)), ((2, 619, 0), (1, 3, 0), (1, 5, 0)), ((2, 217, 0), (1, 6, 0), (3, 7, 0)), ((3, 7, 0), (0, 0, 8), (1, 8, 0)), ((2, 619, 0), (1, 6, 0), (1, 9, 0))]) (C' := [(3, 2, (-1)), (6, 3, (-1)), (7, 4, (-1)), (0, 0, 2), (0, 0, 1)]) hx
        ⟨(by show b_q _ _ (ν2 3); rw [u3]; exact b_q.i (by omega) (by omega)), (by show b_q _ _ (ν2 4); rw [u4]; exact b_q.r (c_gS k hkn)), (by show b_q _ _ (ν2 5); rw [u5]; exact b_q.i (by omega) (by omega)), (by show b_q _ _ (ν2 6); rw [u6]; exact b_q.i (by omega) (by omega)), (by show b_q _ _ (ν2 7); rw [u7]; exact b_q.r (c_gS i hi)), (by show b_q _ _ (ν2 8); rw [u8]; exact b_q.i (by omega) (by omega)), (by show b_q _ _ (ν2 9); rw [u9]; exact b_q.i (by omega) (by omega)), trivial⟩
        ⟨b_fa.mk ex (Or.inl ⟨rfl, rfl⟩) (Or.inr ⟨rfl, by decide, by show _ = ν2 0 + 1; omega⟩) (Or.inr ⟨rfl, by decide, by show _ = ν2 3 + 0; omega⟩), b_fa.mk (R.1.2 k hkn) (Or.inl ⟨rfl, rfl⟩) (Or.inr ⟨rfl, by decide, by show _ = ν2 3 + 0; omega⟩) (Or.inr ⟨rfl, by decide, by show _ = ν2 4; omega⟩), b_fa.mk ey (Or.inr ⟨rfl, by decide, by show _ = ν2 4; omega⟩) (Or.inl ⟨rfl, rfl⟩) (Or.inr ⟨rfl, by decide, by show _ = ν2 5 + 0; omega⟩), b_fa.mk ew (Or.inl ⟨rfl, rfl⟩) (Or.inr ⟨rfl, by decide, by show _ = ν2 3 + 0; omega⟩) (Or.inr ⟨rfl, by decide, by show _ = ν2 5 + 0; omega⟩), b_fa.mk (R.1.2 i hi) (Or.inl ⟨rfl, rfl⟩) (Or.inr ⟨rfl, by decide, by show _ = ν2 6 + 0; omega⟩) (Or.inr ⟨rfl, by decide, by show _ = ν2 7; omega⟩), b_fa.mk eya (Or.inr ⟨rfl, by decide, by show _ = ν2 7; omega⟩) (Or.inl ⟨rfl, rfl⟩) (Or.inr ⟨rfl, by decide, by show _ = ν2 8 + 0; omega⟩), b_fa.mk ewa (Or.inl ⟨rfl, rfl⟩) (Or.inr ⟨rfl, by decide, by show _ = ν2 6 + 0; omega⟩) (Or.inr ⟨rfl, by decide, by show _ = ν2 9 + 0; omega⟩), trivial⟩
        ⟨⟨by decide, by decide, by show ν2 3 ≤ ν2 2 + (-1); omega⟩, ⟨by decide, by decide, by show ν2 6 ≤ ν2 3 + (-1); omega⟩, ⟨by decide, by decide, by show ν2 7 ≤ ν2 4 + (-1); omega⟩, ⟨by decide, by decide, by show ν2 0 ≤ ν2 0 + 2; omega⟩, ⟨by decide, by decide, by show ν2 0 ≤ ν2 0 + 1; omega⟩, trivial⟩
      exact c_sp hO c_sJurorLC c_sJurorLB hl hx g2 (b_al.c (fun ν' h' x' g' => by
        have e1 : c_I h' (280 + 17 * i) 8 = ν' 8 + 0 := g'.rI (base := (3, 7, 0)) (slot := (0, 0, 8)) (val := (1, 8, 0)) (by rfl) (by decide) (by decide) (by show ((280 + 17 * i : Nat) : Int) = ν' 7; rw [x'.2 7 (by decide)]; exact u7.symm) rfl
        have e2 : c_I h' 619 i = ν' 9 + 0 := g'.rI (base := (2, 619, 0)) (slot := (1, 6, 0)) (val := (1, 9, 0)) (by rfl) (by decide) (by decide) rfl (by show (i : Int) = ν' 6 + 0; rw [x'.2 6 (by decide)]; omega)
        rw [x'.2 8 (by decide), u8, Int.add_zero] at e1
        rw [x'.2 9 (by decide), u9, Int.add_zero] at e2
        rw [e1, e2]
        exact fi) (b_al.c (fun ν' h' x' g' => by
        have e1 : c_I h' (280 + 17 * i) 8 = ν' 8 + 0 := g'.rI (base := (3, 7, 0)) (slot := (0, 0, 8)) (val := (1, 8, 0)) (by rfl) (by decide) (by decide) (by show ((280 + 17 * i : Nat) : Int) = ν' 7; rw [x'.2 7 (by decide)]; exact u7.symm) rfl
        have e2 : c_I h' 619 i = ν' 9 + 0 := g'.rI (base := (2, 619, 0)) (slot := (1, 6, 0)) (val := (1, 9, 0)) (by rfl) (by decide) (by decide) rfl (by show (i : Int) = ν' 6 + 0; rw [x'.2 6 (by decide)]; omega)
        rw [x'.2 8 (by decide), u8, Int.add_zero] at e1
        rw [x'.2 9 (by decide), u9, Int.add_zero] at e2
        rw [e1, e2]
        exact fi) b_al.n))
    · subst c
      generalize hν : (fun n => match n with
        | 3 => x.toInt
        | 4 => ((280 + 17 * i : Nat) : Int)
        | 5 => y.toInt
        | n => ν n : BN) = ν2
      have hx : ∀ n, n < 3 → ν2 n = ν n := fun n hn => by
        rw [← hν]
        rcases n with _ | _ | _ | n <;> first | rfl | (exfalso; omega)
      have u0 : ν2 0 = ν 0 := hx 0 (by decide)
      have u1 : ν2 1 = ν 1 := hx 1 (by decide)
      have u2 : ν2 2 = ν 2 := hx 2 (by decide)
      have u3 : ν2 3 = x.toInt := by subst hν; rfl
      have u4 : ν2 4 = ((280 + 17 * i : Nat) : Int) := by subst hν; rfl
      have u5 : ν2 5 = y.toInt := by subst hν; rfl
      have g2 := g.ad (ν' := ν2) (E' := [(0, 0, 4), (22, 0, 0), (0, 0, 5)]) (F' := [((2, 0, 0), (1, 0, 1), (1, 3, 0)), ((2, 217, 0), (1, 3, 0), (3, 4, 0)), ((3, 4, 0), (0, 0, 8), (1, 5, 0)), ((2, 619, 0), (1, 3, 0), (1, 5, 0))]) (C' := [(3, 2, (-1)), (0, 0, 2), (0, 0, 1)]) hx
        ⟨(by show b_q _ _ (ν2 3); rw [u3]; exact b_q.i (by omega) (by omega)), (by show b_q _ _ (ν2 4); rw [u4]; exact b_q.r (c_gS i hkn)), (by show b_q _ _ (ν2 5); rw [u5]; exact b_q.i (by omega) (by omega)), trivial⟩
        ⟨b_fa.mk ex (Or.inl ⟨rfl, rfl⟩) (Or.inr ⟨rfl, by decide, by show _ = ν2 0 + 1; omega⟩) (Or.inr ⟨rfl, by decide, by show _ = ν2 3 + 0; omega⟩), b_fa.mk (R.1.2 i hkn) (Or.inl ⟨rfl, rfl⟩) (Or.inr ⟨rfl, by decide, by show _ = ν2 3 + 0; omega⟩) (Or.inr ⟨rfl, by decide, by show _ = ν2 4; omega⟩), b_fa.mk ey (Or.inr ⟨rfl, by decide, by show _ = ν2 4; omega⟩) (Or.inl ⟨rfl, rfl⟩) (Or.inr ⟨rfl, by decide, by show _ = ν2 5 + 0; omega⟩), b_fa.mk ew (Or.inl ⟨rfl, rfl⟩) (Or.inr ⟨rfl, by decide, by show _ = ν2 3 + 0; omega⟩) (Or.inr ⟨rfl, by decide, by show _ = ν2 5 + 0; omega⟩), trivial⟩
        ⟨⟨by decide, by decide, by show ν2 3 ≤ ν2 2 + (-1); omega⟩, ⟨by decide, by decide, by show ν2 0 ≤ ν2 0 + 2; omega⟩, ⟨by decide, by decide, by show ν2 0 ≤ ν2 0 + 1; omega⟩, trivial⟩
      exact c_sp hO c_sJurorMC c_sJurorMB hl hx g2 (b_al.c (fun ν' h' x' g' => by
        have e1 : c_I h' (280 + 17 * i) 8 = ν' 5 + 1 := g'.rI (base := (3, 4, 0)) (slot := (0, 0, 8)) (val := (1, 5, 1)) (by rfl) (by decide) (by decide) (by show ((280 + 17 * i : Nat) : Int) = ν' 4; rw [x'.2 4 (by decide)]; exact u4.symm) rfl
        have e2 : c_I h' 619 i = ν' 5 + 1 := g'.rI (base := (2, 619, 0)) (slot := (1, 3, 0)) (val := (1, 5, 1)) (by rfl) (by decide) (by decide) rfl (by show (i : Int) = ν' 3 + 0; rw [x'.2 3 (by decide)]; omega)
        exact e1.trans e2.symm) (b_al.c (fun ν' h' x' g' => by
        have e1 : c_I h' (280 + 17 * i) 8 = ν' 5 + 0 := g'.rI (base := (3, 4, 0)) (slot := (0, 0, 8)) (val := (1, 5, 0)) (by rfl) (by decide) (by decide) (by show ((280 + 17 * i : Nat) : Int) = ν' 4; rw [x'.2 4 (by decide)]; exact u4.symm) rfl
        have e2 : c_I h' 619 i = ν' 5 + 0 := g'.rI (base := (2, 619, 0)) (slot := (1, 3, 0)) (val := (1, 5, 0)) (by rfl) (by decide) (by decide) rfl (by show (i : Int) = ν' 3 + 0; rw [x'.2 3 (by decide)]; omega)
        exact e1.trans e2.symm) b_al.n))
    · obtain ⟨ya, eya, ya1, ya2⟩ := H.rdI (a := 280 + 17 * i) (j := 8) (lo := 0) (hi := 5) (c_gS i hi) c_rq21 (by decide) (by decide) rfl
      obtain ⟨wa, ewa, wa1, wa2⟩ := H.rdI (a := 619) (j := i) (lo := 0) (hi := 5) c_ra619 c_rq89 (by decide) hi rfl
      rw [c_I_of eya, c_I_of ewa] at fi
      generalize hν : (fun n => match n with
        | 3 => x.toInt
        | 4 => ((280 + 17 * k : Nat) : Int)
        | 5 => y.toInt
        | 6 => (i : Int)
        | 7 => ((280 + 17 * i : Nat) : Int)
        | 8 => ya.toInt
        | 9 => wa.toInt
        | n => ν n : BN) = ν2
      have hx : ∀ n, n < 3 → ν2 n = ν n := fun n hn => by
        rw [← hν]
        rcases n with _ | _ | _ | n <;> first | rfl | (exfalso; omega)
      have u0 : ν2 0 = ν 0 := hx 0 (by decide)
      have u1 : ν2 1 = ν 1 := hx 1 (by decide)
      have u2 : ν2 2 = ν 2 := hx 2 (by decide)
      have u3 : ν2 3 = x.toInt := by subst hν; rfl
      have u4 : ν2 4 = ((280 + 17 * k : Nat) : Int) := by subst hν; rfl
      have u5 : ν2 5 = y.toInt := by subst hν; rfl
      have u6 : ν2 6 = (i : Int) := by subst hν; rfl
      have u7 : ν2 7 = ((280 + 17 * i : Nat) : Int) := by subst hν; rfl
      have u8 : ν2 8 = ya.toInt := by subst hν; rfl
      have u9 : ν2 9 = wa.toInt := by subst hν; rfl
      have g2 := g.ad (ν' := ν2) (E' := [(0, 0, 4), (22, 0, 0), (0, 0, 5), (0, 0, 4), (22, 0, 0), (0, 0, 5), (0, 0, 5)]) (F' := [((2, 0, 0), (1, 0, 1), (1, 3, 0)), ((2, 217, 0), (1, 3, 0), (3, 4, 0)), ((3, 4, 0), (0, 0, 8), (1, 5, 0)), ((2, 619, 0), (1, 3, 0), (1, 5, 0)), ((2, 217, 0), (1, 6, 0), (3, 7, 0)), ((3, 7, 0), (0, 0, 8), (1, 8, 0)), ((2, 619, 0), (1, 6, 0), (1, 9, 0))]) (C' := [(3, 2, (-1)), (3, 6, (-1)), (4, 7, (-1)), (0, 0, 2), (0, 0, 1)]) hx
        ⟨(by show b_q _ _ (ν2 3); rw [u3]; exact b_q.i (by omega) (by omega)), (by show b_q _ _ (ν2 4); rw [u4]; exact b_q.r (c_gS k hkn)), (by show b_q _ _ (ν2 5); rw [u5]; exact b_q.i (by omega) (by omega)), (by show b_q _ _ (ν2 6); rw [u6]; exact b_q.i (by omega) (by omega)), (by show b_q _ _ (ν2 7); rw [u7]; exact b_q.r (c_gS i hi)), (by show b_q _ _ (ν2 8); rw [u8]; exact b_q.i (by omega) (by omega)), (by show b_q _ _ (ν2 9); rw [u9]; exact b_q.i (by omega) (by omega)), trivial⟩
        ⟨b_fa.mk ex (Or.inl ⟨rfl, rfl⟩) (Or.inr ⟨rfl, by decide, by show _ = ν2 0 + 1; omega⟩) (Or.inr ⟨rfl, by decide, by show _ = ν2 3 + 0; omega⟩), b_fa.mk (R.1.2 k hkn) (Or.inl ⟨rfl, rfl⟩) (Or.inr ⟨rfl, by decide, by show _ = ν2 3 + 0; omega⟩) (Or.inr ⟨rfl, by decide, by show _ = ν2 4; omega⟩), b_fa.mk ey (Or.inr ⟨rfl, by decide, by show _ = ν2 4; omega⟩) (Or.inl ⟨rfl, rfl⟩) (Or.inr ⟨rfl, by decide, by show _ = ν2 5 + 0; omega⟩), b_fa.mk ew (Or.inl ⟨rfl, rfl⟩) (Or.inr ⟨rfl, by decide, by show _ = ν2 3 + 0; omega⟩) (Or.inr ⟨rfl, by decide, by show _ = ν2 5 + 0; omega⟩), b_fa.mk (R.1.2 i hi) (Or.inl ⟨rfl, rfl⟩) (Or.inr ⟨rfl, by decide, by show _ = ν2 6 + 0; omega⟩) (Or.inr ⟨rfl, by decide, by show _ = ν2 7; omega⟩), b_fa.mk eya (Or.inr ⟨rfl, by decide, by show _ = ν2 7; omega⟩) (Or.inl ⟨rfl, rfl⟩) (Or.inr ⟨rfl, by decide, by show _ = ν2 8 + 0; omega⟩), b_fa.mk ewa (Or.inl ⟨rfl, rfl⟩) (Or.inr ⟨rfl, by decide, by show _ = ν2 6 + 0; omega⟩) (Or.inr ⟨rfl, by decide, by show _ = ν2 9 + 0; omega⟩), trivial⟩
        ⟨⟨by decide, by decide, by show ν2 3 ≤ ν2 2 + (-1); omega⟩, ⟨by decide, by decide, by show ν2 3 ≤ ν2 6 + (-1); omega⟩, ⟨by decide, by decide, by show ν2 4 ≤ ν2 7 + (-1); omega⟩, ⟨by decide, by decide, by show ν2 0 ≤ ν2 0 + 2; omega⟩, ⟨by decide, by decide, by show ν2 0 ≤ ν2 0 + 1; omega⟩, trivial⟩
      exact c_sp hO c_sJurorGC c_sJurorGB hl hx g2 (b_al.c (fun ν' h' x' g' => by
        have e1 : c_I h' (280 + 17 * i) 8 = ν' 8 + 0 := g'.rI (base := (3, 7, 0)) (slot := (0, 0, 8)) (val := (1, 8, 0)) (by rfl) (by decide) (by decide) (by show ((280 + 17 * i : Nat) : Int) = ν' 7; rw [x'.2 7 (by decide)]; exact u7.symm) rfl
        have e2 : c_I h' 619 i = ν' 9 + 0 := g'.rI (base := (2, 619, 0)) (slot := (1, 6, 0)) (val := (1, 9, 0)) (by rfl) (by decide) (by decide) rfl (by show (i : Int) = ν' 6 + 0; rw [x'.2 6 (by decide)]; omega)
        rw [x'.2 8 (by decide), u8, Int.add_zero] at e1
        rw [x'.2 9 (by decide), u9, Int.add_zero] at e2
        rw [e1, e2]
        exact fi) (b_al.c (fun ν' h' x' g' => by
        have e1 : c_I h' (280 + 17 * i) 8 = ν' 8 + 0 := g'.rI (base := (3, 7, 0)) (slot := (0, 0, 8)) (val := (1, 8, 0)) (by rfl) (by decide) (by decide) (by show ((280 + 17 * i : Nat) : Int) = ν' 7; rw [x'.2 7 (by decide)]; exact u7.symm) rfl
        have e2 : c_I h' 619 i = ν' 9 + 0 := g'.rI (base := (2, 619, 0)) (slot := (1, 6, 0)) (val := (1, 9, 0)) (by rfl) (by decide) (by decide) rfl (by show (i : Int) = ν' 6 + 0; rw [x'.2 6 (by decide)]; omega)
        rw [x'.2 8 (by decide), u8, Int.add_zero] at e1
        rw [x'.2 9 (by decide), u9, Int.add_zero] at e2
        rw [e1, e2]
        exact fi) b_al.n))
theorem c_g1581 : c_goal 1581 := c_goal_gen (S := c_sG1581) (b_orc_ok c_hJ (tab := [c_r289, c_r231]) (List.forall_mem_cons.mpr ⟨c_v289, List.forall_mem_cons.mpr ⟨c_v231, fun _ h => absurd h List.not_mem_nil⟩⟩) 3000 12) c_sG1581C c_sG1581B (by decide +kernel)
theorem c_g1623 : c_goal 1623 := c_goal_gen (S := c_sG1623) (b_orc_ok c_hJ (tab := [c_r290, c_r233]) (List.forall_mem_cons.mpr ⟨c_v290, List.forall_mem_cons.mpr ⟨c_v233, fun _ h => absurd h List.not_mem_nil⟩⟩) 3000 12) c_sG1623C c_sG1623B (by decide +kernel)
