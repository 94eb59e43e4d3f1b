/-! The calls' goals (wip/law4.py) -/
theorem c_vFilm {ν : BN} {al : AL} {h : AH} {mc ms : Nat} (hl : b_L c_E28.length ν c_bl28 al) (g : b_G c_K ν h h (c_E28, c_F28, [(0, 1, -6)], [], [])) (R : c_Rel h) : c_res 252 ν al h mc ms c_Rel := by
  have H := g.2.2.2.2.1
  have i0 := g.iv 0 (lo := 0) (hi := 3072) rfl
  have i1 := g.iv 1 (lo := 0) (hi := 3072) rfl
  have i2 := g.iv 2 (lo := 0) (hi := 20) rfl
  have hp : 252 ≠ 28 := by decide
  have hO := b_orc_ok (K := c_K) c_hJ (tab := []) (fun _ h => absurd h List.not_mem_nil) 3000 12
  have fl : c_I h 1 4 = ν 2 + 0 := g.rI (base := (2, 1, 0)) (slot := (0, 0, 4)) (val := (1, 2, 0)) (by rfl) (by decide) (by decide) rfl rfl
  obtain ⟨n, hn⟩ : ∃ n : Nat, (n : Int) = ν 2 := ⟨(ν 2).toNat, by omega⟩
  have main : c_res 252 ν al h mc ms (fun h' => c_Fx h' ∧ (∀ i, i < 20 → c_I h' (17 + i) 5 = c_I h (17 + i) 5) ∧ (c_I h' 1 4 = c_I h 1 4 ∨ (c_I h' 1 4 = c_I h 1 4 + 1 ∧ c_I h' 369 n = 3))) := by
    generalize hν : (fun n => match n with
      | n => ν n : BN) = ν2
    have hx : ∀ n, n < 3 → ν2 n = ν n := fun n hn => by subst hν; rfl
    have u0 : ν2 0 = ν 0 := hx 0 (by decide)
    have u1 : ν2 1 = ν 1 := hx 1 (by decide)
    have u2 : ν2 2 = ν 2 := hx 2 (by decide)
    have g2 := g.ad (ν' := ν2) (E' := []) (F' := []) (C' := [(0, 0, 2), (0, 0, 1)]) hx
      trivial
      trivial
      ⟨⟨by decide, by decide, by show ν2 0 ≤ ν2 0 + 2; omega⟩, ⟨by decide, by decide, by show ν2 0 ≤ ν2 0 + 1; omega⟩, trivial⟩
    exact c_sp hO c_sFilmMC c_sFilmMB hl hx g2 (b_al.c (fun ν' h' x' g' => ⟨c_Fx_frm H (show b_frm c_K c_sFilmM.2.2.1 h h' from g'.2.2.2.2.2) (by decide +kernel) R.1, (fun i hi => c_I_cg ((show b_frm c_K c_sFilmM.2.2.1 h h' from g'.2.2.2.2.2).kF H (c_gF i hi) c_rq3 (by decide) (by decide +kernel))), by
        have e1 : c_I h' 1 4 = ν' 3 + 0 := g'.rI (base := (2, 1, 0)) (slot := (0, 0, 4)) (val := (1, 3, 0)) (by rfl) (by decide) (by decide) rfl rfl
        have k1 : ν' 3 ≤ ν' 2 + 1 := g'.co (by decide)
        have k2 : ν' 2 ≤ ν' 3 + (-1) := g'.co (by decide)
        have k3 : ν' 2 = ν2 2 := x'.2 2 (by decide)
        have e2 : c_I h' 369 n = (3 : Int) := g'.rI (base := (2, 369, 0)) (slot := (1, 2, 0)) (val := (0, 0, 3)) (by rfl) (by decide) (by decide) rfl (by show (n : Int) = ν' 2 + 0; omega)
        exact Or.inr ⟨by omega, e2⟩⟩) (b_al.c (fun ν' h' x' g' => ⟨c_Fx_frm H (show b_frm c_K c_sFilmM.2.2.1 h h' from g'.2.2.2.2.2) (by decide +kernel) R.1, (fun i hi => c_I_cg ((show b_frm c_K c_sFilmM.2.2.1 h h' from g'.2.2.2.2.2).kF H (c_gF i hi) c_rq3 (by decide) (by decide +kernel))), by
        have e1 : c_I h' 1 4 = ν' 3 + 0 := g'.rI (base := (2, 1, 0)) (slot := (0, 0, 4)) (val := (1, 3, 0)) (by rfl) (by decide) (by decide) rfl rfl
        have k1 : ν' 3 ≤ ν' 2 + 0 := g'.co (by decide)
        have k2 : ν' 2 ≤ ν' 3 + 0 := g'.co (by decide)
        have k3 : ν' 2 = ν2 2 := x'.2 2 (by decide)
        exact Or.inl (by omega)⟩) b_al.n))
  refine c_res.mono (c_res.all hp (P := fun i h' => (i : Int) < c_I h 1 4 → c_I h' 369 i = c_I h 369 i) (n := 20) main (fun i hi => ?_)) (fun h' q => ⟨q.1.1, (fun i hi => by
      have r := R.2 i hi
      have a := q.1.2.1 i hi
      have b := q.2 i hi
      rw [a]
      rcases q.1.2.2 with e | ⟨e, e3⟩
      · rw [e]
        exact ⟨fun l => by rw [b l]; exact r.1 l, r.2⟩
      · rw [e]
        refine ⟨fun l => ?_, fun l => r.2 (by omega)⟩
        by_cases l2 : (i : Int) < c_I h 1 4
        · rw [b l2]; exact r.1 l2
        · have en : i = n := by omega
          rw [en] at r ⊢
          rw [e3]
          exact r.2 (by omega))⟩)
  by_cases l : (i : Int) < c_I h 1 4
  · obtain ⟨w, ew, w1, w2⟩ := H.rdI (a := 369) (j := i) (lo := 0) (hi := 3) c_ra369 c_rq54 (by decide) hi rfl
    generalize hν : (fun n => match n with
      | 3 => (i : Int)
      | 4 => w.toInt
      | n => ν n : BN) = ν2
    have hx : ∀ n, n < 3 → ν2 n = ν n := fun n hn => by
      rw [← hν]
      rcases n with _ | _ | _ | n <;> first | rfl | (exfalso; omega)
    have u0 : ν2 0 = ν 0 := hx 0 (by decide)
    have u1 : ν2 1 = ν 1 := hx 1 (by decide)
    have u2 : ν2 2 = ν 2 := hx 2 (by decide)
    have u3 : ν2 3 = (i : Int) := by subst hν; rfl
    have u4 : ν2 4 = w.toInt := by subst hν; rfl
    have g2 := g.ad (ν' := ν2) (E' := [(0, 0, 19), (0, 0, 3)]) (F' := [((2, 369, 0), (1, 3, 0), (1, 4, 0))]) (C' := [(3, 2, (-1)), (0, 0, 2), (0, 0, 1)]) hx
      ⟨(by show b_q _ _ (ν2 3); rw [u3]; exact b_q.i (by omega) (by omega)), (by show b_q _ _ (ν2 4); rw [u4]; exact b_q.i (by omega) (by omega)), trivial⟩
      ⟨b_fa.mk ew (Or.inl ⟨rfl, rfl⟩) (Or.inr ⟨rfl, by decide, by show _ = ν2 3 + 0; omega⟩) (Or.inr ⟨rfl, by decide, by show _ = ν2 4 + 0; omega⟩), trivial⟩
      ⟨⟨by decide, by decide, by show ν2 3 ≤ ν2 2 + (-1); omega⟩, ⟨by decide, by decide, by show ν2 0 ≤ ν2 0 + 2; omega⟩, ⟨by decide, by decide, by show ν2 0 ≤ ν2 0 + 1; omega⟩, trivial⟩
    exact c_sp hO c_sFilmLC c_sFilmLB hl hx g2 (b_al.c (fun ν' h' x' g' => fun _ => by
      have e2 : c_I h' 369 i = ν' 4 + 0 := g'.rI (base := (2, 369, 0)) (slot := (1, 3, 0)) (val := (1, 4, 0)) (by rfl) (by decide) (by decide) rfl (by show (i : Int) = ν' 3 + 0; rw [x'.2 3 (by decide)]; omega)
      rw [x'.2 4 (by decide), u4, Int.add_zero] at e2
      rw [e2, c_I_of ew]) (b_al.c (fun ν' h' x' g' => fun _ => by
      have e2 : c_I h' 369 i = ν' 4 + 0 := g'.rI (base := (2, 369, 0)) (slot := (1, 3, 0)) (val := (1, 4, 0)) (by rfl) (by decide) (by decide) rfl (by show (i : Int) = ν' 3 + 0; rw [x'.2 3 (by decide)]; omega)
      rw [x'.2 4 (by decide), u4, Int.add_zero] at e2
      rw [e2, c_I_of ew]) b_al.n))
  · exact main.mono (fun h' _ q => absurd q l)
theorem c_g252 : c_goal 252 := by
  intro ν al h mc ms hl g R
  exact c_vFilm hl g R
theorem c_g306 : c_goal 306 := c_goal_gen (S := c_sG306) (b_orc_ok c_hJ (tab := [c_r257, c_r169]) (List.forall_mem_cons.mpr ⟨c_v257, List.forall_mem_cons.mpr ⟨c_v169, fun _ h => absurd h List.not_mem_nil⟩⟩) 3000 12) c_sG306C c_sG306B (by decide +kernel)
theorem c_g334 : c_goal 334 := c_goal_gen (S := c_sG334) (b_orc_ok c_hJ (tab := [c_r258, c_r171]) (List.forall_mem_cons.mpr ⟨c_v258, List.forall_mem_cons.mpr ⟨c_v171, fun _ h => absurd h List.not_mem_nil⟩⟩) 3000 12) c_sG334C c_sG334B (by decide +kernel)
theorem c_g374 : c_goal 374 := c_goal_gen (S := c_sG374) (b_orc_ok c_hJ (tab := [c_r259, c_r173]) (List.forall_mem_cons.mpr ⟨c_v259, List.forall_mem_cons.mpr ⟨c_v173, fun _ h => absurd h List.not_mem_nil⟩⟩) 3000 12) c_sG374C c_sG374B (by decide +kernel)
theorem c_g414 : c_goal 414 := c_goal_gen (S := c_sG414) (b_orc_ok c_hJ (tab := [c_r260, c_r175]) (List.forall_mem_cons.mpr ⟨c_v260, List.forall_mem_cons.mpr ⟨c_v175, fun _ h => absurd h List.not_mem_nil⟩⟩) 3000 12) c_sG414C c_sG414B (by decide +kernel)
theorem c_g466 : c_goal 466 := c_goal_gen (S := c_sG466) (b_orc_ok c_hJ (tab := [c_r261, c_r177]) (List.forall_mem_cons.mpr ⟨c_v261, List.forall_mem_cons.mpr ⟨c_v177, fun _ h => absurd h List.not_mem_nil⟩⟩) 3000 12) c_sG466C c_sG466B (by decide +kernel)
theorem c_g506 : c_goal 506 := c_goal_gen (S := c_sG506) (b_orc_ok c_hJ (tab := [c_r262, c_r179]) (List.forall_mem_cons.mpr ⟨c_v262, List.forall_mem_cons.mpr ⟨c_v179, fun _ h => absurd h List.not_mem_nil⟩⟩) 3000 12) c_sG506C c_sG506B (by decide +kernel)
theorem c_g534 : c_goal 534 := c_goal_gen (S := c_sG534) (b_orc_ok c_hJ (tab := [c_r263, c_r181]) (List.forall_mem_cons.mpr ⟨c_v263, List.forall_mem_cons.mpr ⟨c_v181, fun _ h => absurd h List.not_mem_nil⟩⟩) 3000 12) c_sG534C c_sG534B (by decide +kernel)
theorem c_g562 : c_goal 562 := by
  intro ν al h mc ms hl g R
  have H := g.2.2.2.2.1
  obtain ⟨x, ex⟩ := c_scr g (j := 1) (by decide)
  have bx := b_32 x
  have i0 := g.iv 0 (lo := 0) (hi := 3072) rfl
  have i1 := g.iv 1 (lo := 0) (hi := 3072) rfl
  have i2 := g.iv 2 (lo := 0) (hi := 20) rfl
  have hp : 562 ≠ 28 := by decide
  have hO := b_orc_ok (K := c_K) c_hJ (tab := []) (fun _ h => absurd h List.not_mem_nil) 3000 12
  by_cases h1 : x.toInt < 0
  · generalize hν : (fun n => match n with
      | 3 => x.toInt
      | n => ν n : BN) = ν2
    have hx : ∀ n, n < 3 → ν2 n = ν n := fun n hn => by
      rw [← hν]
      rcases n with _ | _ | _ | n <;> first | rfl | (exfalso; omega)
    have u0 : ν2 0 = ν 0 := hx 0 (by decide)
    have u1 : ν2 1 = ν 1 := hx 1 (by decide)
    have u2 : ν2 2 = ν 2 := hx 2 (by decide)
    have u3 : ν2 3 = x.toInt := by subst hν; rfl
    have g2 := g.ad (ν' := ν2) (E' := [(0, (-2147483648), (-1))]) (F' := [((2, 0, 0), (1, 0, 1), (1, 3, 0))]) (C' := [(0, 0, 1)]) hx
      ⟨(by show b_q _ _ (ν2 3); rw [u3]; exact b_q.i (by omega) (by omega)), trivial⟩
      ⟨b_fa.mk ex (Or.inl ⟨rfl, rfl⟩) (Or.inr ⟨rfl, by decide, by show _ = ν2 0 + 1; omega⟩) (Or.inr ⟨rfl, by decide, by show _ = ν2 3 + 0; omega⟩), trivial⟩
      ⟨⟨by decide, by decide, by show ν2 0 ≤ ν2 0 + 1; omega⟩, trivial⟩
    exact c_sp hO c_sRival1C c_sRival1B hl hx (Q := c_Rel) g2 (b_al_of fun p hp ν' h' x' g' => c_Rel_frm H (show b_frm c_K c_sRival1.2.2.1 h h' from g'.2.2.2.2.2) (by decide +kernel) R)
  by_cases h2 : ν 2 ≤ x.toInt
  · generalize hν : (fun n => match n with
      | 3 => x.toInt
      | n => ν n : BN) = ν2
    have hx : ∀ n, n < 3 → ν2 n = ν n := fun n hn => by
      rw [← hν]
      rcases n with _ | _ | _ | n <;> first | rfl | (exfalso; omega)
    have u0 : ν2 0 = ν 0 := hx 0 (by decide)
    have u1 : ν2 1 = ν 1 := hx 1 (by decide)
    have u2 : ν2 2 = ν 2 := hx 2 (by decide)
    have u3 : ν2 3 = x.toInt := by subst hν; rfl
    have g2 := g.ad (ν' := ν2) (E' := [(0, 0, 2147483647)]) (F' := [((2, 0, 0), (1, 0, 1), (1, 3, 0))]) (C' := [(2, 3, 0), (0, 0, 1)]) hx
      ⟨(by show b_q _ _ (ν2 3); rw [u3]; exact b_q.i (by omega) (by omega)), trivial⟩
      ⟨b_fa.mk ex (Or.inl ⟨rfl, rfl⟩) (Or.inr ⟨rfl, by decide, by show _ = ν2 0 + 1; omega⟩) (Or.inr ⟨rfl, by decide, by show _ = ν2 3 + 0; omega⟩), trivial⟩
      ⟨⟨by decide, by decide, by show ν2 2 ≤ ν2 3 + 0; omega⟩, ⟨by decide, by decide, by show ν2 0 ≤ ν2 0 + 1; omega⟩, trivial⟩
    exact c_sp hO c_sRival2C c_sRival2B hl hx (Q := c_Rel) g2 (b_al_of fun p hp ν' h' x' g' => c_Rel_frm H (show b_frm c_K c_sRival2.2.2.1 h h' from g'.2.2.2.2.2) (by decide +kernel) R)
  obtain ⟨k, hk, hkn⟩ : ∃ k : Nat, (k : Int) = x.toInt ∧ k < 20 := ⟨x.toInt.toNat, by omega, by omega⟩
  have fl : c_I h 1 4 = ν 2 + 0 := g.rI (base := (2, 1, 0)) (slot := (0, 0, 4)) (val := (1, 2, 0)) (by rfl) (by decide) (by decide) rfl rfl
  obtain ⟨y, ey, y1, y2⟩ := H.rdI (a := 17 + k) (j := 5) (lo := 0) (hi := 3) (c_gF k hkn) c_rq3 (by decide) (by decide) rfl
  obtain ⟨w, ew, w1, w2⟩ := H.rdI (a := 369) (j := k) (lo := 0) (hi := 3) c_ra369 c_rq54 (by decide) hkn rfl
  have rk := R.2 k hkn
  rw [c_I_of ey, c_I_of ew] at rk
  have rk := rk.1 (by omega)
  refine c_res.mono (c_res.all hp (Q := fun h' => c_Fx h' ∧ c_I h' 1 4 = c_I h 1 4) (P := fun i h' => ((i : Int) < c_I h 1 4 → c_I h' (17 + i) 5 = c_I h' 369 i) ∧ (c_I h 1 4 ≤ (i : Int) → c_I h' (17 + i) 5 = 3)) (n := 20) ?_ (fun i hi => ?_)) (fun h' q => ⟨q.1.1, (fun i hi => by rw [q.1.2]; exact q.2 i hi)⟩)
  · generalize hν : (fun n => match n with
      | 3 => x.toInt
      | 4 => ((17 + k : Nat) : Int)
      | 5 => y.toInt
      | n => ν n : BN) = ν2
    have hx : ∀ n, n < 3 → ν2 n = ν n := fun n hn => by
      rw [← hν]
      rcases n with _ | _ | _ | n <;> first | rfl | (exfalso; omega)
    have u0 : ν2 0 = ν 0 := hx 0 (by decide)
    have u1 : ν2 1 = ν 1 := hx 1 (by decide)
    have u2 : ν2 2 = ν 2 := hx 2 (by decide)
    have u3 : ν2 3 = x.toInt := by subst hν; rfl
    have u4 : ν2 4 = ((17 + k : Nat) : Int) := by subst hν; rfl
    have u5 : ν2 5 = y.toInt := by subst hν; rfl
    have g2 := g.ad (ν' := ν2) (E' := [(0, 0, 19), (4, 0, 0), (0, 0, 3)]) (F' := [((2, 0, 0), (1, 0, 1), (1, 3, 0)), ((2, 3, 0), (1, 3, 0), (3, 4, 0)), ((3, 4, 0), (0, 0, 5), (1, 5, 0)), ((2, 369, 0), (1, 3, 0), (1, 5, 0))]) (C' := [(3, 2, (-1)), (0, 0, 2), (0, 0, 1)]) hx
      ⟨(by show b_q _ _ (ν2 3); rw [u3]; exact b_q.i (by omega) (by omega)), (by show b_q _ _ (ν2 4); rw [u4]; exact b_q.r (c_gF k hkn)), (by show b_q _ _ (ν2 5); rw [u5]; exact b_q.i (by omega) (by omega)), trivial⟩
      ⟨b_fa.mk ex (Or.inl ⟨rfl, rfl⟩) (Or.inr ⟨rfl, by decide, by show _ = ν2 0 + 1; omega⟩) (Or.inr ⟨rfl, by decide, by show _ = ν2 3 + 0; omega⟩), b_fa.mk (R.1.1 k hkn) (Or.inl ⟨rfl, rfl⟩) (Or.inr ⟨rfl, by decide, by show _ = ν2 3 + 0; omega⟩) (Or.inr ⟨rfl, by decide, by show _ = ν2 4; omega⟩), b_fa.mk ey (Or.inr ⟨rfl, by decide, by show _ = ν2 4; omega⟩) (Or.inl ⟨rfl, rfl⟩) (Or.inr ⟨rfl, by decide, by show _ = ν2 5 + 0; omega⟩), b_fa.mk ew (Or.inl ⟨rfl, rfl⟩) (Or.inr ⟨rfl, by decide, by show _ = ν2 3 + 0; omega⟩) (Or.inr ⟨rfl, by decide, by show _ = ν2 5 + 0; omega⟩), trivial⟩
      ⟨⟨by decide, by decide, by show ν2 3 ≤ ν2 2 + (-1); omega⟩, ⟨by decide, by decide, by show ν2 0 ≤ ν2 0 + 2; omega⟩, ⟨by decide, by decide, by show ν2 0 ≤ ν2 0 + 1; omega⟩, trivial⟩
    exact c_sp hO c_sRivalMC c_sRivalMB hl hx g2 (b_al_of fun p hp ν' h' x' g' => ⟨c_Fx_frm H (show b_frm c_K c_sRivalM.2.2.1 h h' from g'.2.2.2.2.2) (by decide +kernel) R.1, c_I_cg ((show b_frm c_K c_sRivalM.2.2.1 h h' from g'.2.2.2.2.2).kF H c_ra1 c_rq0 (by decide) (by decide +kernel))⟩)
  · have fi := R.2 i hi
    rcases Nat.lt_trichotomy i k with c | c | c
    · obtain ⟨ya, eya, ya1, ya2⟩ := H.rdI (a := 17 + i) (j := 5) (lo := 0) (hi := 3) (c_gF i hi) c_rq3 (by decide) (by decide) rfl
      obtain ⟨wa, ewa, wa1, wa2⟩ := H.rdI (a := 369) (j := i) (lo := 0) (hi := 3) c_ra369 c_rq54 (by decide) hi rfl
      rw [c_I_of eya, c_I_of ewa] at fi
      generalize hν : (fun n => match n with
        | 3 => x.toInt
        | 4 => ((17 + k : Nat) : Int)
        | 5 => y.toInt
        | 6 => (i : Int)
        | 7 => ((17 + i : Nat) : Int)
        | 8 => ya.toInt
        | 9 => wa.toInt
        | n => ν n : BN) = ν2
      have hx : ∀ n, n < 3 → ν2 n = ν n := fun n hn => by
        rw [← hν]
        rcases n with _ | _ | _ | n <;> first | rfl | (exfalso; omega)
      have u0 : ν2 0 = ν 0 := hx 0 (by decide)
      have u1 : ν2 1 = ν 1 := hx 1 (by decide)
      have u2 : ν2 2 = ν 2 := hx 2 (by decide)
      have u3 : ν2 3 = x.toInt := by subst hν; rfl
      have u4 : ν2 4 = ((17 + k : Nat) : Int) := by subst hν; rfl
      have u5 : ν2 5 = y.toInt := by subst hν; rfl
      have u6 : ν2 6 = (i : Int) := by subst hν; rfl
      have u7 : ν2 7 = ((17 + i : Nat) : Int) := by subst hν; rfl
      have u8 : ν2 8 = ya.toInt := by subst hν; rfl
      have u9 : ν2 9 = wa.toInt := by subst hν; rfl
      have g2 := g.ad (ν' := ν2) (E' := [(0, 0, 19), (4, 0, 0), (0, 0, 3), (0, 0, 19), (4, 0, 0), (0, 0, 3), (0, 0, 3)]) (F' := [((2, 0, 0), (1, 0, 1), (1, 3, 0)), ((2, 3, 0), (1, 3, 0), (3, 4, 0)), ((3, 4, 0), (0, 0, 5), (1, 5, 0)), ((2, 369, 0), (1, 3, 0), (1, 5, 0)), ((2, 3, 0), (1, 6, 0), (3, 7, 0)), ((3, 7, 0), (0, 0, 5), (1, 8, 0)), ((2, 369, 0), (1, 6, 0), (1, 9, 0))]) (C' := [(3, 2, (-1)), (6, 3, (-1)), (7, 4, (-1)), (0, 0, 2), (0, 0, 1)]) hx
        ⟨(by show b_q _ _ (ν2 3); rw [u3]; exact b_q.i (by omega) (by omega)), (by show b_q _ _ (ν2 4); rw [u4]; exact b_q.r (c_gF k hkn)), (by show b_q _ _ (ν2 5); rw [u5]; exact b_q.i (by omega) (by omega)), (by show b_q _ _ (ν2 6); rw [u6]; exact b_q.i (by omega) (by omega)), (by show b_q _ _ (ν2 7); rw [u7]; exact b_q.r (c_gF i hi)), (by show b_q _ _ (ν2 8); rw [u8]; exact b_q.i (by omega) (by omega)), (by show b_q _ _ (ν2 9); rw [u9]; exact b_q.i (by omega) (by omega)), trivial⟩
        ⟨b_fa.mk ex (Or.inl ⟨rfl, rfl⟩) (Or.inr ⟨rfl, by decide, by show _ = ν2 0 + 1; omega⟩) (Or.inr ⟨rfl, by decide, by show _ = ν2 3 + 0; omega⟩), b_fa.mk (R.1.1 k hkn) (Or.inl ⟨rfl, rfl⟩) (Or.inr ⟨rfl, by decide, by show _ = ν2 3 + 0; omega⟩) (Or.inr ⟨rfl, by decide, by show _ = ν2 4; omega⟩), b_fa.mk ey (Or.inr ⟨rfl, by decide, by show _ = ν2 4; omega⟩) (Or.inl ⟨rfl, rfl⟩) (Or.inr ⟨rfl, by decide, by show _ = ν2 5 + 0; omega⟩), b_fa.mk ew (Or.inl ⟨rfl, rfl⟩) (Or.inr ⟨rfl, by decide, by show _ = ν2 3 + 0; omega⟩) (Or.inr ⟨rfl, by decide, by show _ = ν2 5 + 0; omega⟩), b_fa.mk (R.1.1 i hi) (Or.inl ⟨rfl, rfl⟩) (Or.inr ⟨rfl, by decide, by show _ = ν2 6 + 0; omega⟩) (Or.inr ⟨rfl, by decide, by show _ = ν2 7; omega⟩), b_fa.mk eya (Or.inr ⟨rfl, by decide, by show _ = ν2 7; omega⟩) (Or.inl ⟨rfl, rfl⟩) (Or.inr ⟨rfl, by decide, by show _ = ν2 8 + 0; omega⟩), b_fa.mk ewa (Or.inl ⟨rfl, rfl⟩) (Or.inr ⟨rfl, by decide, by show _ = ν2 6 + 0; omega⟩) (Or.inr ⟨rfl, by decide, by show _ = ν2 9 + 0; omega⟩), trivial⟩
        ⟨⟨by decide, by decide, by show ν2 3 ≤ ν2 2 + (-1); omega⟩, ⟨by decide, by decide, by show ν2 6 ≤ ν2 3 + (-1); omega⟩, ⟨by decide, by decide, by show ν2 7 ≤ ν2 4 + (-1); omega⟩, ⟨by decide, by decide, by show ν2 0 ≤ ν2 0 + 2; omega⟩, ⟨by decide, by decide, by show ν2 0 ≤ ν2 0 + 1; omega⟩, trivial⟩
      exact c_sp hO c_sRivalLC c_sRivalLB hl hx g2 (b_al.c (fun ν' h' x' g' => by
        have e1 : c_I h' (17 + i) 5 = ν' 8 + 0 := g'.rI (base := (3, 7, 0)) (slot := (0, 0, 5)) (val := (1, 8, 0)) (by rfl) (by decide) (by decide) (by show ((17 + i : Nat) : Int) = ν' 7; rw [x'.2 7 (by decide)]; exact u7.symm) rfl
        have e2 : c_I h' 369 i = ν' 9 + 0 := g'.rI (base := (2, 369, 0)) (slot := (1, 6, 0)) (val := (1, 9, 0)) (by rfl) (by decide) (by decide) rfl (by show (i : Int) = ν' 6 + 0; rw [x'.2 6 (by decide)]; omega)
        rw [x'.2 8 (by decide), u8, Int.add_zero] at e1
        rw [x'.2 9 (by decide), u9, Int.add_zero] at e2
        rw [e1, e2]
        exact fi) (b_al.c (fun ν' h' x' g' => by
        have e1 : c_I h' (17 + i) 5 = ν' 8 + 0 := g'.rI (base := (3, 7, 0)) (slot := (0, 0, 5)) (val := (1, 8, 0)) (by rfl) (by decide) (by decide) (by show ((17 + i : Nat) : Int) = ν' 7; rw [x'.2 7 (by decide)]; exact u7.symm) rfl
        have e2 : c_I h' 369 i = ν' 9 + 0 := g'.rI (base := (2, 369, 0)) (slot := (1, 6, 0)) (val := (1, 9, 0)) (by rfl) (by decide) (by decide) rfl (by show (i : Int) = ν' 6 + 0; rw [x'.2 6 (by decide)]; omega)
        rw [x'.2 8 (by decide), u8, Int.add_zero] at e1
        rw [x'.2 9 (by decide), u9, Int.add_zero] at e2
        rw [e1, e2]
        exact fi) b_al.n))
    · subst c
      generalize hν : (fun n => match n with
        | 3 => x.toInt
        | 4 => ((17 + i : Nat) : Int)
        | 5 => y.toInt
        | n => ν n : BN) = ν2
      have hx : ∀ n, n < 3 → ν2 n = ν n := fun n hn => by
        rw [← hν]
        rcases n with _ | _ | _ | n <;> first | rfl | (exfalso; omega)
      have u0 : ν2 0 = ν 0 := hx 0 (by decide)
      have u1 : ν2 1 = ν 1 := hx 1 (by decide)
      have u2 : ν2 2 = ν 2 := hx 2 (by decide)
      have u3 : ν2 3 = x.toInt := by subst hν; rfl
      have u4 : ν2 4 = ((17 + i : Nat) : Int) := by subst hν; rfl
      have u5 : ν2 5 = y.toInt := by subst hν; rfl
      have g2 := g.ad (ν' := ν2) (E' := [(0, 0, 19), (4, 0, 0), (0, 0, 3)]) (F' := [((2, 0, 0), (1, 0, 1), (1, 3, 0)), ((2, 3, 0), (1, 3, 0), (3, 4, 0)), ((3, 4, 0), (0, 0, 5), (1, 5, 0)), ((2, 369, 0), (1, 3, 0), (1, 5, 0))]) (C' := [(3, 2, (-1)), (0, 0, 2), (0, 0, 1)]) hx
        ⟨(by show b_q _ _ (ν2 3); rw [u3]; exact b_q.i (by omega) (by omega)), (by show b_q _ _ (ν2 4); rw [u4]; exact b_q.r (c_gF i hkn)), (by show b_q _ _ (ν2 5); rw [u5]; exact b_q.i (by omega) (by omega)), trivial⟩
        ⟨b_fa.mk ex (Or.inl ⟨rfl, rfl⟩) (Or.inr ⟨rfl, by decide, by show _ = ν2 0 + 1; omega⟩) (Or.inr ⟨rfl, by decide, by show _ = ν2 3 + 0; omega⟩), b_fa.mk (R.1.1 i hkn) (Or.inl ⟨rfl, rfl⟩) (Or.inr ⟨rfl, by decide, by show _ = ν2 3 + 0; omega⟩) (Or.inr ⟨rfl, by decide, by show _ = ν2 4; omega⟩), b_fa.mk ey (Or.inr ⟨rfl, by decide, by show _ = ν2 4; omega⟩) (Or.inl ⟨rfl, rfl⟩) (Or.inr ⟨rfl, by decide, by show _ = ν2 5 + 0; omega⟩), b_fa.mk ew (Or.inl ⟨rfl, rfl⟩) (Or.inr ⟨rfl, by decide, by show _ = ν2 3 + 0; omega⟩) (Or.inr ⟨rfl, by decide, by show _ = ν2 5 + 0; omega⟩), trivial⟩
        ⟨⟨by decide, by decide, by show ν2 3 ≤ ν2 2 + (-1); omega⟩, ⟨by decide, by decide, by show ν2 0 ≤ ν2 0 + 2; omega⟩, ⟨by decide, by decide, by show ν2 0 ≤ ν2 0 + 1; omega⟩, trivial⟩
      exact c_sp hO c_sRivalMC c_sRivalMB hl hx g2 (b_al.c (fun ν' h' x' g' => by
        have e1 : c_I h' (17 + i) 5 = ν' 7 + 0 := g'.rI (base := (3, 4, 0)) (slot := (0, 0, 5)) (val := (1, 7, 0)) (by rfl) (by decide) (by decide) (by show ((17 + i : Nat) : Int) = ν' 4; rw [x'.2 4 (by decide)]; exact u4.symm) rfl
        have e2 : c_I h' 369 i = ν' 7 + 0 := g'.rI (base := (2, 369, 0)) (slot := (1, 3, 0)) (val := (1, 7, 0)) (by rfl) (by decide) (by decide) rfl (by show (i : Int) = ν' 3 + 0; rw [x'.2 3 (by decide)]; omega)
        exact ⟨fun _ => e1.trans e2.symm, fun q => by exfalso; omega⟩) (b_al.c (fun ν' h' x' g' => by
        have e1 : c_I h' (17 + i) 5 = ν' 5 + 0 := g'.rI (base := (3, 4, 0)) (slot := (0, 0, 5)) (val := (1, 5, 0)) (by rfl) (by decide) (by decide) (by show ((17 + i : Nat) : Int) = ν' 4; rw [x'.2 4 (by decide)]; exact u4.symm) rfl
        have e2 : c_I h' 369 i = ν' 5 + 0 := g'.rI (base := (2, 369, 0)) (slot := (1, 3, 0)) (val := (1, 5, 0)) (by rfl) (by decide) (by decide) rfl (by show (i : Int) = ν' 3 + 0; rw [x'.2 3 (by decide)]; omega)
        exact ⟨fun _ => e1.trans e2.symm, fun q => by exfalso; omega⟩) b_al.n))
    · obtain ⟨ya, eya, ya1, ya2⟩ := H.rdI (a := 17 + i) (j := 5) (lo := 0) (hi := 3) (c_gF i hi) c_rq3 (by decide) (by decide) rfl
      obtain ⟨wa, ewa, wa1, wa2⟩ := H.rdI (a := 369) (j := i) (lo := 0) (hi := 3) c_ra369 c_rq54 (by decide) hi rfl
      rw [c_I_of eya, c_I_of ewa] at fi
      generalize hν : (fun n => match n with
        | 3 => x.toInt
        | 4 => ((17 + k : Nat) : Int)
        | 5 => y.toInt
        | 6 => (i : Int)
        | 7 => ((17 + i : Nat) : Int)
        | 8 => ya.toInt
        | 9 => wa.toInt
        | n => ν n : BN) = ν2
      have hx : ∀ n, n < 3 → ν2 n = ν n := fun n hn => by
        rw [← hν]
        rcases n with _ | _ | _ | n <;> first | rfl | (exfalso; omega)
      have u0 : ν2 0 = ν 0 := hx 0 (by decide)
      have u1 : ν2 1 = ν 1 := hx 1 (by decide)
      have u2 : ν2 2 = ν 2 := hx 2 (by decide)
      have u3 : ν2 3 = x.toInt := by subst hν; rfl
      have u4 : ν2 4 = ((17 + k : Nat) : Int) := by subst hν; rfl
      have u5 : ν2 5 = y.toInt := by subst hν; rfl
      have u6 : ν2 6 = (i : Int) := by subst hν; rfl
      have u7 : ν2 7 = ((17 + i : Nat) : Int) := by subst hν; rfl
      have u8 : ν2 8 = ya.toInt := by subst hν; rfl
      have u9 : ν2 9 = wa.toInt := by subst hν; rfl
      have g2 := g.ad (ν' := ν2) (E' := [(0, 0, 19), (4, 0, 0), (0, 0, 3), (0, 0, 19), (4, 0, 0), (0, 0, 3), (0, 0, 3)]) (F' := [((2, 0, 0), (1, 0, 1), (1, 3, 0)), ((2, 3, 0), (1, 3, 0), (3, 4, 0)), ((3, 4, 0), (0, 0, 5), (1, 5, 0)), ((2, 369, 0), (1, 3, 0), (1, 5, 0)), ((2, 3, 0), (1, 6, 0), (3, 7, 0)), ((3, 7, 0), (0, 0, 5), (1, 8, 0)), ((2, 369, 0), (1, 6, 0), (1, 9, 0))]) (C' := [(3, 2, (-1)), (3, 6, (-1)), (4, 7, (-1)), (0, 0, 2), (0, 0, 1)]) hx
        ⟨(by show b_q _ _ (ν2 3); rw [u3]; exact b_q.i (by omega) (by omega)), (by show b_q _ _ (ν2 4); rw [u4]; exact b_q.r (c_gF k hkn)), (by show b_q _ _ (ν2 5); rw [u5]; exact b_q.i (by omega) (by omega)), (by show b_q _ _ (ν2 6); rw [u6]; exact b_q.i (by omega) (by omega)), (by show b_q _ _ (ν2 7); rw [u7]; exact b_q.r (c_gF i hi)), (by show b_q _ _ (ν2 8); rw [u8]; exact b_q.i (by omega) (by omega)), (by show b_q _ _ (ν2 9); rw [u9]; exact b_q.i (by omega) (by omega)), trivial⟩
        ⟨b_fa.mk ex (Or.inl ⟨rfl, rfl⟩) (Or.inr ⟨rfl, by decide, by show _ = ν2 0 + 1; omega⟩) (Or.inr ⟨rfl, by decide, by show _ = ν2 3 + 0; omega⟩), b_fa.mk (R.1.1 k hkn) (Or.inl ⟨rfl, rfl⟩) (Or.inr ⟨rfl, by decide, by show _ = ν2 3 + 0; omega⟩) (Or.inr ⟨rfl, by decide, by show _ = ν2 4; omega⟩), b_fa.mk ey (Or.inr ⟨rfl, by decide, by show _ = ν2 4; omega⟩) (Or.inl ⟨rfl, rfl⟩) (Or.inr ⟨rfl, by decide, by show _ = ν2 5 + 0; omega⟩), b_fa.mk ew (Or.inl ⟨rfl, rfl⟩) (Or.inr ⟨rfl, by decide, by show _ = ν2 3 + 0; omega⟩) (Or.inr ⟨rfl, by decide, by show _ = ν2 5 + 0; omega⟩), b_fa.mk (R.1.1 i hi) (Or.inl ⟨rfl, rfl⟩) (Or.inr ⟨rfl, by decide, by show _ = ν2 6 + 0; omega⟩) (Or.inr ⟨rfl, by decide, by show _ = ν2 7; omega⟩), b_fa.mk eya (Or.inr ⟨rfl, by decide, by show _ = ν2 7; omega⟩) (Or.inl ⟨rfl, rfl⟩) (Or.inr ⟨rfl, by decide, by show _ = ν2 8 + 0; omega⟩), b_fa.mk ewa (Or.inl ⟨rfl, rfl⟩) (Or.inr ⟨rfl, by decide, by show _ = ν2 6 + 0; omega⟩) (Or.inr ⟨rfl, by decide, by show _ = ν2 9 + 0; omega⟩), trivial⟩
        ⟨⟨by decide, by decide, by show ν2 3 ≤ ν2 2 + (-1); omega⟩, ⟨by decide, by decide, by show ν2 3 ≤ ν2 6 + (-1); omega⟩, ⟨by decide, by decide, by show ν2 4 ≤ ν2 7 + (-1); omega⟩, ⟨by decide, by decide, by show ν2 0 ≤ ν2 0 + 2; omega⟩, ⟨by decide, by decide, by show ν2 0 ≤ ν2 0 + 1; omega⟩, trivial⟩
      exact c_sp hO c_sRivalGC c_sRivalGB hl hx g2 (b_al.c (fun ν' h' x' g' => by
        have e1 : c_I h' (17 + i) 5 = ν' 8 + 0 := g'.rI (base := (3, 7, 0)) (slot := (0, 0, 5)) (val := (1, 8, 0)) (by rfl) (by decide) (by decide) (by show ((17 + i : Nat) : Int) = ν' 7; rw [x'.2 7 (by decide)]; exact u7.symm) rfl
        have e2 : c_I h' 369 i = ν' 9 + 0 := g'.rI (base := (2, 369, 0)) (slot := (1, 6, 0)) (val := (1, 9, 0)) (by rfl) (by decide) (by decide) rfl (by show (i : Int) = ν' 6 + 0; rw [x'.2 6 (by decide)]; omega)
        rw [x'.2 8 (by decide), u8, Int.add_zero] at e1
        rw [x'.2 9 (by decide), u9, Int.add_zero] at e2
        rw [e1, e2]
        exact fi) (b_al.c (fun ν' h' x' g' => by
        have e1 : c_I h' (17 + i) 5 = ν' 8 + 0 := g'.rI (base := (3, 7, 0)) (slot := (0, 0, 5)) (val := (1, 8, 0)) (by rfl) (by decide) (by decide) (by show ((17 + i : Nat) : Int) = ν' 7; rw [x'.2 7 (by decide)]; exact u7.symm) rfl
        have e2 : c_I h' 369 i = ν' 9 + 0 := g'.rI (base := (2, 369, 0)) (slot := (1, 6, 0)) (val := (1, 9, 0)) (by rfl) (by decide) (by decide) rfl (by show (i : Int) = ν' 6 + 0; rw [x'.2 6 (by decide)]; omega)
        rw [x'.2 8 (by decide), u8, Int.add_zero] at e1
        rw [x'.2 9 (by decide), u9, Int.add_zero] at e2
        rw [e1, e2]
        exact fi) b_al.n))
theorem c_g632 : c_goal 632 := c_goal_gen (S := c_sG632) (b_orc_ok c_hJ (tab := [c_r265, c_r185]) (List.forall_mem_cons.mpr ⟨c_v265, List.forall_mem_cons.mpr ⟨c_v185, fun _ h => absurd h List.not_mem_nil⟩⟩) 3000 12) c_sG632C c_sG632B (by decide +kernel)
theorem c_g712 : c_goal 712 := c_goal_gen (S := c_sG712) (b_orc_ok c_hJ (tab := [c_r266, c_r190]) (List.forall_mem_cons.mpr ⟨c_v266, List.forall_mem_cons.mpr ⟨c_v190, fun _ h => absurd h List.not_mem_nil⟩⟩) 3000 12) c_sG712C c_sG712B (by decide +kernel)
theorem c_g740 : c_goal 740 := c_goal_gen (S := c_sG740) (b_orc_ok c_hJ (tab := [c_r267, c_r191]) (List.forall_mem_cons.mpr ⟨c_v267, List.forall_mem_cons.mpr ⟨c_v191, fun _ h => absurd h List.not_mem_nil⟩⟩) 3000 12) c_sG740C c_sG740B (by decide +kernel)
