/-! The calls' goals, on (wip/law4.py) -/
theorem c_g1647 : c_goal 1647 := c_goal_gen (S := c_sG1647) (b_orc_ok c_hJ (tab := [c_r291, c_r234]) (List.forall_mem_cons.mpr ⟨c_v291, List.forall_mem_cons.mpr ⟨c_v234, fun _ h => absurd h List.not_mem_nil⟩⟩) 3000 12) c_sG1647C c_sG1647B (by decide +kernel)
theorem c_g1675 : c_goal 1675 := c_goal_gen (S := c_sG1675) (b_orc_ok c_hJ (tab := [c_r127, c_r235]) (List.forall_mem_cons.mpr ⟨c_v127, List.forall_mem_cons.mpr ⟨c_v235, fun _ h => absurd h List.not_mem_nil⟩⟩) 3000 12) c_sG1675C c_sG1675B (by decide +kernel)
theorem c_g1688 : c_goal 1688 := c_goal_gen (S := c_sG1688) (b_orc_ok c_hJ (tab := [c_r292, c_r237]) (List.forall_mem_cons.mpr ⟨c_v292, List.forall_mem_cons.mpr ⟨c_v237, fun _ h => absurd h List.not_mem_nil⟩⟩) 3000 12) c_sG1688C c_sG1688B (by decide +kernel)
theorem c_g1728 : c_goal 1728 := c_goal_gen (S := c_sG1728) (b_orc_ok c_hJ (tab := [c_r293, c_r247]) (List.forall_mem_cons.mpr ⟨c_v293, List.forall_mem_cons.mpr ⟨c_v247, fun _ h => absurd h List.not_mem_nil⟩⟩) 3000 12) c_sG1728C c_sG1728B (by decide +kernel)
theorem c_g1756 : c_goal 1756 := c_goal_gen (S := c_sG1756) (b_orc_ok c_hJ (tab := [c_r294, c_r248]) (List.forall_mem_cons.mpr ⟨c_v294, List.forall_mem_cons.mpr ⟨c_v248, fun _ h => absurd h List.not_mem_nil⟩⟩) 3000 12) c_sG1756C c_sG1756B (by decide +kernel)
theorem c_g1784 : c_goal 1784 := by
  intro ν al h mc ms hl g R
  have H := g.2.2.2.2.1
  obtain ⟨xa, e1⟩ := c_scr g (j := 1) (by decide)
  have b1 := b_32 xa
  obtain ⟨xb, e2⟩ := c_scr g (j := 2) (by decide)
  have b2 := b_32 xb
  obtain ⟨xc, e3⟩ := c_scr g (j := 3) (by decide)
  have b3 := b_32 xc
  obtain ⟨xd, e4⟩ := c_scr g (j := 4) (by decide)
  have b4 := b_32 xd
  obtain ⟨xe, e5⟩ := c_scr g (j := 5) (by decide)
  have b5 := b_32 xe
  have i0 := g.iv 0 (lo := 0) (hi := 3072) rfl
  have i1 := g.iv 1 (lo := 0) (hi := 3072) rfl
  have i2 := g.iv 2 (lo := 0) (hi := 20) rfl
  have i3 := g.iv 3 (lo := 0) (hi := 40) rfl
  have hp : 1784 ≠ 28 := by decide
  have hO := b_orc_ok (K := c_K) c_hJ (tab := [c_r72w, c_r249w, c_r249o, c_r72]) (List.forall_mem_cons.mpr ⟨c_v72w, List.forall_mem_cons.mpr ⟨c_v249w, List.forall_mem_cons.mpr ⟨c_v249o, List.forall_mem_cons.mpr ⟨c_v72, fun _ h => absurd h List.not_mem_nil⟩⟩⟩⟩) 3000 12
  by_cases h1 : xa.toInt < 0
  · generalize hν : (fun n => match n with
      | 4 => xa.toInt
      | n => ν n : BN) = ν2
    have hx : ∀ n, n < 4 → ν2 n = ν n := fun n hn => by
      rw [← hν]
      rcases n with _ | _ | _ | _ | n <;> first | rfl | (exfalso; omega)
    have u0 : ν2 0 = ν 0 := hx 0 (by decide)
    have u1 : ν2 1 = ν 1 := hx 1 (by decide)
    have u2 : ν2 2 = ν 2 := hx 2 (by decide)
    have u3 : ν2 3 = ν 3 := hx 3 (by decide)
    have u4 : ν2 4 = xa.toInt := by subst hν; rfl
    have g2 := g.ad (ν' := ν2) (E' := [(0, (-2147483648), (-1))]) (F' := [((2, 0, 0), (1, 0, 1), (1, 4, 0))]) (C' := [(0, 0, 1)]) hx
      ⟨(by show b_q _ _ (ν2 4); rw [u4]; exact b_q.i (by omega) (by omega)), trivial⟩
      ⟨b_fa.mk e1 (Or.inl ⟨rfl, rfl⟩) (Or.inr ⟨rfl, by decide, by show _ = ν2 0 + 1; omega⟩) (Or.inr ⟨rfl, by decide, by show _ = ν2 4 + 0; omega⟩), trivial⟩
      ⟨⟨by decide, by decide, by show ν2 0 ≤ ν2 0 + 1; omega⟩, trivial⟩
    exact c_sp hO c_sSell1C c_sSell1B hl hx (Q := c_Rel) g2 (b_al_of fun p hp ν' h' x' g' => c_Rel_frm H (show b_frm c_K c_sSell1.2.2.1 h h' from g'.2.2.2.2.2) (by decide +kernel) R)
  by_cases h2 : ν 2 ≤ xa.toInt
  · generalize hν : (fun n => match n with
      | 4 => xa.toInt
      | n => ν n : BN) = ν2
    have hx : ∀ n, n < 4 → ν2 n = ν n := fun n hn => by
      rw [← hν]
      rcases n with _ | _ | _ | _ | n <;> first | rfl | (exfalso; omega)
    have u0 : ν2 0 = ν 0 := hx 0 (by decide)
    have u1 : ν2 1 = ν 1 := hx 1 (by decide)
    have u2 : ν2 2 = ν 2 := hx 2 (by decide)
    have u3 : ν2 3 = ν 3 := hx 3 (by decide)
    have u4 : ν2 4 = xa.toInt := by subst hν; rfl
    have g2 := g.ad (ν' := ν2) (E' := [(0, 0, 2147483647)]) (F' := [((2, 0, 0), (1, 0, 1), (1, 4, 0))]) (C' := [(2, 4, 0), (0, 0, 1)]) hx
      ⟨(by show b_q _ _ (ν2 4); rw [u4]; exact b_q.i (by omega) (by omega)), trivial⟩
      ⟨b_fa.mk e1 (Or.inl ⟨rfl, rfl⟩) (Or.inr ⟨rfl, by decide, by show _ = ν2 0 + 1; omega⟩) (Or.inr ⟨rfl, by decide, by show _ = ν2 4 + 0; omega⟩), trivial⟩
      ⟨⟨by decide, by decide, by show ν2 2 ≤ ν2 4 + 0; omega⟩, ⟨by decide, by decide, by show ν2 0 ≤ ν2 0 + 1; omega⟩, trivial⟩
    exact c_sp hO c_sSell2C c_sSell2B hl hx (Q := c_Rel) g2 (b_al_of fun p hp ν' h' x' g' => c_Rel_frm H (show b_frm c_K c_sSell2.2.2.1 h h' from g'.2.2.2.2.2) (by decide +kernel) R)
  by_cases hc : xb.toInt < 0
  · generalize hν : (fun n => match n with
      | 4 => xa.toInt
      | 5 => xb.toInt
      | 6 => xc.toInt
      | 7 => xd.toInt
      | 8 => xe.toInt
      | n => ν n : BN) = ν2
    have hx : ∀ n, n < 4 → ν2 n = ν n := fun n hn => by
      rw [← hν]
      rcases n with _ | _ | _ | _ | n <;> first | rfl | (exfalso; omega)
    have u0 : ν2 0 = ν 0 := hx 0 (by decide)
    have u1 : ν2 1 = ν 1 := hx 1 (by decide)
    have u2 : ν2 2 = ν 2 := hx 2 (by decide)
    have u3 : ν2 3 = ν 3 := hx 3 (by decide)
    have u4 : ν2 4 = xa.toInt := by subst hν; rfl
    have u5 : ν2 5 = xb.toInt := by subst hν; rfl
    have u6 : ν2 6 = xc.toInt := by subst hν; rfl
    have u7 : ν2 7 = xd.toInt := by subst hν; rfl
    have u8 : ν2 8 = xe.toInt := by subst hν; rfl
    have g2 := g.ad (ν' := ν2) (E' := [(0, 0, 19), (0, (-2147483648), (-1)), (0, (-2147483648), 2147483647), (0, (-2147483648), 2147483647), (0, (-2147483648), 2147483647)]) (F' := [((2, 0, 0), (1, 0, 1), (1, 4, 0)), ((2, 0, 0), (1, 0, 2), (1, 5, 0)), ((2, 0, 0), (1, 0, 3), (1, 6, 0)), ((2, 0, 0), (1, 0, 4), (1, 7, 0)), ((2, 0, 0), (1, 0, 5), (1, 8, 0))]) (C' := [(4, 2, (-1)), (0, 0, 1)]) hx
      ⟨(by show b_q _ _ (ν2 4); rw [u4]; exact b_q.i (by omega) (by omega)), (by show b_q _ _ (ν2 5); rw [u5]; exact b_q.i (by omega) (by omega)), (by show b_q _ _ (ν2 6); rw [u6]; exact b_q.i (by omega) (by omega)), (by show b_q _ _ (ν2 7); rw [u7]; exact b_q.i (by omega) (by omega)), (by show b_q _ _ (ν2 8); rw [u8]; exact b_q.i (by omega) (by omega)), trivial⟩
      ⟨b_fa.mk e1 (Or.inl ⟨rfl, rfl⟩) (Or.inr ⟨rfl, by decide, by show _ = ν2 0 + 1; omega⟩) (Or.inr ⟨rfl, by decide, by show _ = ν2 4 + 0; omega⟩), b_fa.mk e2 (Or.inl ⟨rfl, rfl⟩) (Or.inr ⟨rfl, by decide, by show _ = ν2 0 + 2; omega⟩) (Or.inr ⟨rfl, by decide, by show _ = ν2 5 + 0; omega⟩), b_fa.mk e3 (Or.inl ⟨rfl, rfl⟩) (Or.inr ⟨rfl, by decide, by show _ = ν2 0 + 3; omega⟩) (Or.inr ⟨rfl, by decide, by show _ = ν2 6 + 0; omega⟩), b_fa.mk e4 (Or.inl ⟨rfl, rfl⟩) (Or.inr ⟨rfl, by decide, by show _ = ν2 0 + 4; omega⟩) (Or.inr ⟨rfl, by decide, by show _ = ν2 7 + 0; omega⟩), b_fa.mk e5 (Or.inl ⟨rfl, rfl⟩) (Or.inr ⟨rfl, by decide, by show _ = ν2 0 + 5; omega⟩) (Or.inr ⟨rfl, by decide, by show _ = ν2 8 + 0; omega⟩), trivial⟩
      ⟨⟨by decide, by decide, by show ν2 4 ≤ ν2 2 + (-1); omega⟩, ⟨by decide, by decide, by show ν2 0 ≤ ν2 0 + 1; omega⟩, trivial⟩
    exact c_sp hO c_sSellcC c_sSellcB hl hx (Q := c_Rel) g2 (b_al_of fun p hp ν' h' x' g' => c_Rel_frm H (show b_frm c_K c_sSellc.2.2.1 h h' from g'.2.2.2.2.2) (by decide +kernel) R)
  by_cases hd : 9 < xb.toInt
  · generalize hν : (fun n => match n with
      | 4 => xa.toInt
      | 5 => xb.toInt
      | 6 => xc.toInt
      | 7 => xd.toInt
      | 8 => xe.toInt
      | n => ν n : BN) = ν2
    have hx : ∀ n, n < 4 → ν2 n = ν n := fun n hn => by
      rw [← hν]
      rcases n with _ | _ | _ | _ | n <;> first | rfl | (exfalso; omega)
    have u0 : ν2 0 = ν 0 := hx 0 (by decide)
    have u1 : ν2 1 = ν 1 := hx 1 (by decide)
    have u2 : ν2 2 = ν 2 := hx 2 (by decide)
    have u3 : ν2 3 = ν 3 := hx 3 (by decide)
    have u4 : ν2 4 = xa.toInt := by subst hν; rfl
    have u5 : ν2 5 = xb.toInt := by subst hν; rfl
    have u6 : ν2 6 = xc.toInt := by subst hν; rfl
    have u7 : ν2 7 = xd.toInt := by subst hν; rfl
    have u8 : ν2 8 = xe.toInt := by subst hν; rfl
    have g2 := g.ad (ν' := ν2) (E' := [(0, 0, 19), (0, 10, 2147483647), (0, (-2147483648), 2147483647), (0, (-2147483648), 2147483647), (0, (-2147483648), 2147483647)]) (F' := [((2, 0, 0), (1, 0, 1), (1, 4, 0)), ((2, 0, 0), (1, 0, 2), (1, 5, 0)), ((2, 0, 0), (1, 0, 3), (1, 6, 0)), ((2, 0, 0), (1, 0, 4), (1, 7, 0)), ((2, 0, 0), (1, 0, 5), (1, 8, 0))]) (C' := [(4, 2, (-1)), (0, 0, 1)]) hx
      ⟨(by show b_q _ _ (ν2 4); rw [u4]; exact b_q.i (by omega) (by omega)), (by show b_q _ _ (ν2 5); rw [u5]; exact b_q.i (by omega) (by omega)), (by show b_q _ _ (ν2 6); rw [u6]; exact b_q.i (by omega) (by omega)), (by show b_q _ _ (ν2 7); rw [u7]; exact b_q.i (by omega) (by omega)), (by show b_q _ _ (ν2 8); rw [u8]; exact b_q.i (by omega) (by omega)), trivial⟩
      ⟨b_fa.mk e1 (Or.inl ⟨rfl, rfl⟩) (Or.inr ⟨rfl, by decide, by show _ = ν2 0 + 1; omega⟩) (Or.inr ⟨rfl, by decide, by show _ = ν2 4 + 0; omega⟩), b_fa.mk e2 (Or.inl ⟨rfl, rfl⟩) (Or.inr ⟨rfl, by decide, by show _ = ν2 0 + 2; omega⟩) (Or.inr ⟨rfl, by decide, by show _ = ν2 5 + 0; omega⟩), b_fa.mk e3 (Or.inl ⟨rfl, rfl⟩) (Or.inr ⟨rfl, by decide, by show _ = ν2 0 + 3; omega⟩) (Or.inr ⟨rfl, by decide, by show _ = ν2 6 + 0; omega⟩), b_fa.mk e4 (Or.inl ⟨rfl, rfl⟩) (Or.inr ⟨rfl, by decide, by show _ = ν2 0 + 4; omega⟩) (Or.inr ⟨rfl, by decide, by show _ = ν2 7 + 0; omega⟩), b_fa.mk e5 (Or.inl ⟨rfl, rfl⟩) (Or.inr ⟨rfl, by decide, by show _ = ν2 0 + 5; omega⟩) (Or.inr ⟨rfl, by decide, by show _ = ν2 8 + 0; omega⟩), trivial⟩
      ⟨⟨by decide, by decide, by show ν2 4 ≤ ν2 2 + (-1); omega⟩, ⟨by decide, by decide, by show ν2 0 ≤ ν2 0 + 1; omega⟩, trivial⟩
    exact c_sp hO c_sSelldC c_sSelldB hl hx (Q := c_Rel) g2 (b_al_of fun p hp ν' h' x' g' => c_Rel_frm H (show b_frm c_K c_sSelld.2.2.1 h h' from g'.2.2.2.2.2) (by decide +kernel) R)
  by_cases he : xc.toInt < 0
  · generalize hν : (fun n => match n with
      | 4 => xa.toInt
      | 5 => xb.toInt
      | 6 => xc.toInt
      | 7 => xd.toInt
      | 8 => xe.toInt
      | n => ν n : BN) = ν2
    have hx : ∀ n, n < 4 → ν2 n = ν n := fun n hn => by
      rw [← hν]
      rcases n with _ | _ | _ | _ | n <;> first | rfl | (exfalso; omega)
    have u0 : ν2 0 = ν 0 := hx 0 (by decide)
    have u1 : ν2 1 = ν 1 := hx 1 (by decide)
    have u2 : ν2 2 = ν 2 := hx 2 (by decide)
    have u3 : ν2 3 = ν 3 := hx 3 (by decide)
    have u4 : ν2 4 = xa.toInt := by subst hν; rfl
    have u5 : ν2 5 = xb.toInt := by subst hν; rfl
    have u6 : ν2 6 = xc.toInt := by subst hν; rfl
    have u7 : ν2 7 = xd.toInt := by subst hν; rfl
    have u8 : ν2 8 = xe.toInt := by subst hν; rfl
    have g2 := g.ad (ν' := ν2) (E' := [(0, 0, 19), (0, (-2147483648), 2147483647), (0, (-2147483648), (-1)), (0, (-2147483648), 2147483647), (0, (-2147483648), 2147483647)]) (F' := [((2, 0, 0), (1, 0, 1), (1, 4, 0)), ((2, 0, 0), (1, 0, 2), (1, 5, 0)), ((2, 0, 0), (1, 0, 3), (1, 6, 0)), ((2, 0, 0), (1, 0, 4), (1, 7, 0)), ((2, 0, 0), (1, 0, 5), (1, 8, 0))]) (C' := [(4, 2, (-1)), (0, 0, 1)]) hx
      ⟨(by show b_q _ _ (ν2 4); rw [u4]; exact b_q.i (by omega) (by omega)), (by show b_q _ _ (ν2 5); rw [u5]; exact b_q.i (by omega) (by omega)), (by show b_q _ _ (ν2 6); rw [u6]; exact b_q.i (by omega) (by omega)), (by show b_q _ _ (ν2 7); rw [u7]; exact b_q.i (by omega) (by omega)), (by show b_q _ _ (ν2 8); rw [u8]; exact b_q.i (by omega) (by omega)), trivial⟩
      ⟨b_fa.mk e1 (Or.inl ⟨rfl, rfl⟩) (Or.inr ⟨rfl, by decide, by show _ = ν2 0 + 1; omega⟩) (Or.inr ⟨rfl, by decide, by show _ = ν2 4 + 0; omega⟩), b_fa.mk e2 (Or.inl ⟨rfl, rfl⟩) (Or.inr ⟨rfl, by decide, by show _ = ν2 0 + 2; omega⟩) (Or.inr ⟨rfl, by decide, by show _ = ν2 5 + 0; omega⟩), b_fa.mk e3 (Or.inl ⟨rfl, rfl⟩) (Or.inr ⟨rfl, by decide, by show _ = ν2 0 + 3; omega⟩) (Or.inr ⟨rfl, by decide, by show _ = ν2 6 + 0; omega⟩), b_fa.mk e4 (Or.inl ⟨rfl, rfl⟩) (Or.inr ⟨rfl, by decide, by show _ = ν2 0 + 4; omega⟩) (Or.inr ⟨rfl, by decide, by show _ = ν2 7 + 0; omega⟩), b_fa.mk e5 (Or.inl ⟨rfl, rfl⟩) (Or.inr ⟨rfl, by decide, by show _ = ν2 0 + 5; omega⟩) (Or.inr ⟨rfl, by decide, by show _ = ν2 8 + 0; omega⟩), trivial⟩
      ⟨⟨by decide, by decide, by show ν2 4 ≤ ν2 2 + (-1); omega⟩, ⟨by decide, by decide, by show ν2 0 ≤ ν2 0 + 1; omega⟩, trivial⟩
    exact c_sp hO c_sSelleC c_sSelleB hl hx (Q := c_Rel) g2 (b_al_of fun p hp ν' h' x' g' => c_Rel_frm H (show b_frm c_K c_sSelle.2.2.1 h h' from g'.2.2.2.2.2) (by decide +kernel) R)
  by_cases hf : 99 < xc.toInt
  · generalize hν : (fun n => match n with
      | 4 => xa.toInt
      | 5 => xb.toInt
      | 6 => xc.toInt
      | 7 => xd.toInt
      | 8 => xe.toInt
      | n => ν n : BN) = ν2
    have hx : ∀ n, n < 4 → ν2 n = ν n := fun n hn => by
      rw [← hν]
      rcases n with _ | _ | _ | _ | n <;> first | rfl | (exfalso; omega)
    have u0 : ν2 0 = ν 0 := hx 0 (by decide)
    have u1 : ν2 1 = ν 1 := hx 1 (by decide)
    have u2 : ν2 2 = ν 2 := hx 2 (by decide)
    have u3 : ν2 3 = ν 3 := hx 3 (by decide)
    have u4 : ν2 4 = xa.toInt := by subst hν; rfl
    have u5 : ν2 5 = xb.toInt := by subst hν; rfl
    have u6 : ν2 6 = xc.toInt := by subst hν; rfl
    have u7 : ν2 7 = xd.toInt := by subst hν; rfl
    have u8 : ν2 8 = xe.toInt := by subst hν; rfl
    have g2 := g.ad (ν' := ν2) (E' := [(0, 0, 19), (0, (-2147483648), 2147483647), (0, 100, 2147483647), (0, (-2147483648), 2147483647), (0, (-2147483648), 2147483647)]) (F' := [((2, 0, 0), (1, 0, 1), (1, 4, 0)), ((2, 0, 0), (1, 0, 2), (1, 5, 0)), ((2, 0, 0), (1, 0, 3), (1, 6, 0)), ((2, 0, 0), (1, 0, 4), (1, 7, 0)), ((2, 0, 0), (1, 0, 5), (1, 8, 0))]) (C' := [(4, 2, (-1)), (0, 0, 1)]) hx
      ⟨(by show b_q _ _ (ν2 4); rw [u4]; exact b_q.i (by omega) (by omega)), (by show b_q _ _ (ν2 5); rw [u5]; exact b_q.i (by omega) (by omega)), (by show b_q _ _ (ν2 6); rw [u6]; exact b_q.i (by omega) (by omega)), (by show b_q _ _ (ν2 7); rw [u7]; exact b_q.i (by omega) (by omega)), (by show b_q _ _ (ν2 8); rw [u8]; exact b_q.i (by omega) (by omega)), trivial⟩
      ⟨b_fa.mk e1 (Or.inl ⟨rfl, rfl⟩) (Or.inr ⟨rfl, by decide, by show _ = ν2 0 + 1; omega⟩) (Or.inr ⟨rfl, by decide, by show _ = ν2 4 + 0; omega⟩), b_fa.mk e2 (Or.inl ⟨rfl, rfl⟩) (Or.inr ⟨rfl, by decide, by show _ = ν2 0 + 2; omega⟩) (Or.inr ⟨rfl, by decide, by show _ = ν2 5 + 0; omega⟩), b_fa.mk e3 (Or.inl ⟨rfl, rfl⟩) (Or.inr ⟨rfl, by decide, by show _ = ν2 0 + 3; omega⟩) (Or.inr ⟨rfl, by decide, by show _ = ν2 6 + 0; omega⟩), b_fa.mk e4 (Or.inl ⟨rfl, rfl⟩) (Or.inr ⟨rfl, by decide, by show _ = ν2 0 + 4; omega⟩) (Or.inr ⟨rfl, by decide, by show _ = ν2 7 + 0; omega⟩), b_fa.mk e5 (Or.inl ⟨rfl, rfl⟩) (Or.inr ⟨rfl, by decide, by show _ = ν2 0 + 5; omega⟩) (Or.inr ⟨rfl, by decide, by show _ = ν2 8 + 0; omega⟩), trivial⟩
      ⟨⟨by decide, by decide, by show ν2 4 ≤ ν2 2 + (-1); omega⟩, ⟨by decide, by decide, by show ν2 0 ≤ ν2 0 + 1; omega⟩, trivial⟩
    exact c_sp hO c_sSellfC c_sSellfB hl hx (Q := c_Rel) g2 (b_al_of fun p hp ν' h' x' g' => c_Rel_frm H (show b_frm c_K c_sSellf.2.2.1 h h' from g'.2.2.2.2.2) (by decide +kernel) R)
  by_cases hg : xd.toInt < xc.toInt
  · generalize hν : (fun n => match n with
      | 4 => xa.toInt
      | 5 => xb.toInt
      | 6 => xc.toInt
      | 7 => xd.toInt
      | 8 => xe.toInt
      | n => ν n : BN) = ν2
    have hx : ∀ n, n < 4 → ν2 n = ν n := fun n hn => by
      rw [← hν]
      rcases n with _ | _ | _ | _ | n <;> first | rfl | (exfalso; omega)
    have u0 : ν2 0 = ν 0 := hx 0 (by decide)
    have u1 : ν2 1 = ν 1 := hx 1 (by decide)
    have u2 : ν2 2 = ν 2 := hx 2 (by decide)
    have u3 : ν2 3 = ν 3 := hx 3 (by decide)
    have u4 : ν2 4 = xa.toInt := by subst hν; rfl
    have u5 : ν2 5 = xb.toInt := by subst hν; rfl
    have u6 : ν2 6 = xc.toInt := by subst hν; rfl
    have u7 : ν2 7 = xd.toInt := by subst hν; rfl
    have u8 : ν2 8 = xe.toInt := by subst hν; rfl
    have g2 := g.ad (ν' := ν2) (E' := [(0, 0, 19), (0, (-2147483648), 2147483647), (0, (-2147483648), 2147483647), (0, (-2147483648), 2147483647), (0, (-2147483648), 2147483647)]) (F' := [((2, 0, 0), (1, 0, 1), (1, 4, 0)), ((2, 0, 0), (1, 0, 2), (1, 5, 0)), ((2, 0, 0), (1, 0, 3), (1, 6, 0)), ((2, 0, 0), (1, 0, 4), (1, 7, 0)), ((2, 0, 0), (1, 0, 5), (1, 8, 0))]) (C' := [(4, 2, (-1)), (7, 6, (-1)), (0, 0, 1)]) hx
      ⟨(by show b_q _ _ (ν2 4); rw [u4]; exact b_q.i (by omega) (by omega)), (by show b_q _ _ (ν2 5); rw [u5]; exact b_q.i (by omega) (by omega)), (by show b_q _ _ (ν2 6); rw [u6]; exact b_q.i (by omega) (by omega)), (by show b_q _ _ (ν2 7); rw [u7]; exact b_q.i (by omega) (by omega)), (by show b_q _ _ (ν2 8); rw [u8]; exact b_q.i (by omega) (by omega)), trivial⟩
      ⟨b_fa.mk e1 (Or.inl ⟨rfl, rfl⟩) (Or.inr ⟨rfl, by decide, by show _ = ν2 0 + 1; omega⟩) (Or.inr ⟨rfl, by decide, by show _ = ν2 4 + 0; omega⟩), b_fa.mk e2 (Or.inl ⟨rfl, rfl⟩) (Or.inr ⟨rfl, by decide, by show _ = ν2 0 + 2; omega⟩) (Or.inr ⟨rfl, by decide, by show _ = ν2 5 + 0; omega⟩), b_fa.mk e3 (Or.inl ⟨rfl, rfl⟩) (Or.inr ⟨rfl, by decide, by show _ = ν2 0 + 3; omega⟩) (Or.inr ⟨rfl, by decide, by show _ = ν2 6 + 0; omega⟩), b_fa.mk e4 (Or.inl ⟨rfl, rfl⟩) (Or.inr ⟨rfl, by decide, by show _ = ν2 0 + 4; omega⟩) (Or.inr ⟨rfl, by decide, by show _ = ν2 7 + 0; omega⟩), b_fa.mk e5 (Or.inl ⟨rfl, rfl⟩) (Or.inr ⟨rfl, by decide, by show _ = ν2 0 + 5; omega⟩) (Or.inr ⟨rfl, by decide, by show _ = ν2 8 + 0; omega⟩), trivial⟩
      ⟨⟨by decide, by decide, by show ν2 4 ≤ ν2 2 + (-1); omega⟩, ⟨by decide, by decide, by show ν2 7 ≤ ν2 6 + (-1); omega⟩, ⟨by decide, by decide, by show ν2 0 ≤ ν2 0 + 1; omega⟩, trivial⟩
    exact c_sp hO c_sSellgC c_sSellgB hl hx (Q := c_Rel) g2 (b_al_of fun p hp ν' h' x' g' => c_Rel_frm H (show b_frm c_K c_sSellg.2.2.1 h h' from g'.2.2.2.2.2) (by decide +kernel) R)
  by_cases hh : 99 < xd.toInt
  · generalize hν : (fun n => match n with
      | 4 => xa.toInt
      | 5 => xb.toInt
      | 6 => xc.toInt
      | 7 => xd.toInt
      | 8 => xe.toInt
      | n => ν n : BN) = ν2
    have hx : ∀ n, n < 4 → ν2 n = ν n := fun n hn => by
      rw [← hν]
      rcases n with _ | _ | _ | _ | n <;> first | rfl | (exfalso; omega)
    have u0 : ν2 0 = ν 0 := hx 0 (by decide)
    have u1 : ν2 1 = ν 1 := hx 1 (by decide)
    have u2 : ν2 2 = ν 2 := hx 2 (by decide)
    have u3 : ν2 3 = ν 3 := hx 3 (by decide)
    have u4 : ν2 4 = xa.toInt := by subst hν; rfl
    have u5 : ν2 5 = xb.toInt := by subst hν; rfl
    have u6 : ν2 6 = xc.toInt := by subst hν; rfl
    have u7 : ν2 7 = xd.toInt := by subst hν; rfl
    have u8 : ν2 8 = xe.toInt := by subst hν; rfl
    have g2 := g.ad (ν' := ν2) (E' := [(0, 0, 19), (0, (-2147483648), 2147483647), (0, (-2147483648), 2147483647), (0, 100, 2147483647), (0, (-2147483648), 2147483647)]) (F' := [((2, 0, 0), (1, 0, 1), (1, 4, 0)), ((2, 0, 0), (1, 0, 2), (1, 5, 0)), ((2, 0, 0), (1, 0, 3), (1, 6, 0)), ((2, 0, 0), (1, 0, 4), (1, 7, 0)), ((2, 0, 0), (1, 0, 5), (1, 8, 0))]) (C' := [(4, 2, (-1)), (0, 0, 1)]) hx
      ⟨(by show b_q _ _ (ν2 4); rw [u4]; exact b_q.i (by omega) (by omega)), (by show b_q _ _ (ν2 5); rw [u5]; exact b_q.i (by omega) (by omega)), (by show b_q _ _ (ν2 6); rw [u6]; exact b_q.i (by omega) (by omega)), (by show b_q _ _ (ν2 7); rw [u7]; exact b_q.i (by omega) (by omega)), (by show b_q _ _ (ν2 8); rw [u8]; exact b_q.i (by omega) (by omega)), trivial⟩
      ⟨b_fa.mk e1 (Or.inl ⟨rfl, rfl⟩) (Or.inr ⟨rfl, by decide, by show _ = ν2 0 + 1; omega⟩) (Or.inr ⟨rfl, by decide, by show _ = ν2 4 + 0; omega⟩), b_fa.mk e2 (Or.inl ⟨rfl, rfl⟩) (Or.inr ⟨rfl, by decide, by show _ = ν2 0 + 2; omega⟩) (Or.inr ⟨rfl, by decide, by show _ = ν2 5 + 0; omega⟩), b_fa.mk e3 (Or.inl ⟨rfl, rfl⟩) (Or.inr ⟨rfl, by decide, by show _ = ν2 0 + 3; omega⟩) (Or.inr ⟨rfl, by decide, by show _ = ν2 6 + 0; omega⟩), b_fa.mk e4 (Or.inl ⟨rfl, rfl⟩) (Or.inr ⟨rfl, by decide, by show _ = ν2 0 + 4; omega⟩) (Or.inr ⟨rfl, by decide, by show _ = ν2 7 + 0; omega⟩), b_fa.mk e5 (Or.inl ⟨rfl, rfl⟩) (Or.inr ⟨rfl, by decide, by show _ = ν2 0 + 5; omega⟩) (Or.inr ⟨rfl, by decide, by show _ = ν2 8 + 0; omega⟩), trivial⟩
      ⟨⟨by decide, by decide, by show ν2 4 ≤ ν2 2 + (-1); omega⟩, ⟨by decide, by decide, by show ν2 0 ≤ ν2 0 + 1; omega⟩, trivial⟩
    exact c_sp hO c_sSellhC c_sSellhB hl hx (Q := c_Rel) g2 (b_al_of fun p hp ν' h' x' g' => c_Rel_frm H (show b_frm c_K c_sSellh.2.2.1 h h' from g'.2.2.2.2.2) (by decide +kernel) R)
  by_cases hi : xe.toInt < 0
  · generalize hν : (fun n => match n with
      | 4 => xa.toInt
      | 5 => xb.toInt
      | 6 => xc.toInt
      | 7 => xd.toInt
      | 8 => xe.toInt
      | n => ν n : BN) = ν2
    have hx : ∀ n, n < 4 → ν2 n = ν n := fun n hn => by
      rw [← hν]
      rcases n with _ | _ | _ | _ | n <;> first | rfl | (exfalso; omega)
    have u0 : ν2 0 = ν 0 := hx 0 (by decide)
    have u1 : ν2 1 = ν 1 := hx 1 (by decide)
    have u2 : ν2 2 = ν 2 := hx 2 (by decide)
    have u3 : ν2 3 = ν 3 := hx 3 (by decide)
    have u4 : ν2 4 = xa.toInt := by subst hν; rfl
    have u5 : ν2 5 = xb.toInt := by subst hν; rfl
    have u6 : ν2 6 = xc.toInt := by subst hν; rfl
    have u7 : ν2 7 = xd.toInt := by subst hν; rfl
    have u8 : ν2 8 = xe.toInt := by subst hν; rfl
    have g2 := g.ad (ν' := ν2) (E' := [(0, 0, 19), (0, (-2147483648), 2147483647), (0, (-2147483648), 2147483647), (0, (-2147483648), 2147483647), (0, (-2147483648), (-1))]) (F' := [((2, 0, 0), (1, 0, 1), (1, 4, 0)), ((2, 0, 0), (1, 0, 2), (1, 5, 0)), ((2, 0, 0), (1, 0, 3), (1, 6, 0)), ((2, 0, 0), (1, 0, 4), (1, 7, 0)), ((2, 0, 0), (1, 0, 5), (1, 8, 0))]) (C' := [(4, 2, (-1)), (0, 0, 1)]) hx
      ⟨(by show b_q _ _ (ν2 4); rw [u4]; exact b_q.i (by omega) (by omega)), (by show b_q _ _ (ν2 5); rw [u5]; exact b_q.i (by omega) (by omega)), (by show b_q _ _ (ν2 6); rw [u6]; exact b_q.i (by omega) (by omega)), (by show b_q _ _ (ν2 7); rw [u7]; exact b_q.i (by omega) (by omega)), (by show b_q _ _ (ν2 8); rw [u8]; exact b_q.i (by omega) (by omega)), trivial⟩
      ⟨b_fa.mk e1 (Or.inl ⟨rfl, rfl⟩) (Or.inr ⟨rfl, by decide, by show _ = ν2 0 + 1; omega⟩) (Or.inr ⟨rfl, by decide, by show _ = ν2 4 + 0; omega⟩), b_fa.mk e2 (Or.inl ⟨rfl, rfl⟩) (Or.inr ⟨rfl, by decide, by show _ = ν2 0 + 2; omega⟩) (Or.inr ⟨rfl, by decide, by show _ = ν2 5 + 0; omega⟩), b_fa.mk e3 (Or.inl ⟨rfl, rfl⟩) (Or.inr ⟨rfl, by decide, by show _ = ν2 0 + 3; omega⟩) (Or.inr ⟨rfl, by decide, by show _ = ν2 6 + 0; omega⟩), b_fa.mk e4 (Or.inl ⟨rfl, rfl⟩) (Or.inr ⟨rfl, by decide, by show _ = ν2 0 + 4; omega⟩) (Or.inr ⟨rfl, by decide, by show _ = ν2 7 + 0; omega⟩), b_fa.mk e5 (Or.inl ⟨rfl, rfl⟩) (Or.inr ⟨rfl, by decide, by show _ = ν2 0 + 5; omega⟩) (Or.inr ⟨rfl, by decide, by show _ = ν2 8 + 0; omega⟩), trivial⟩
      ⟨⟨by decide, by decide, by show ν2 4 ≤ ν2 2 + (-1); omega⟩, ⟨by decide, by decide, by show ν2 0 ≤ ν2 0 + 1; omega⟩, trivial⟩
    exact c_sp hO c_sSelliC c_sSelliB hl hx (Q := c_Rel) g2 (b_al_of fun p hp ν' h' x' g' => c_Rel_frm H (show b_frm c_K c_sSelli.2.2.1 h h' from g'.2.2.2.2.2) (by decide +kernel) R)
  by_cases hj : 9 < xe.toInt
  · generalize hν : (fun n => match n with
      | 4 => xa.toInt
      | 5 => xb.toInt
      | 6 => xc.toInt
      | 7 => xd.toInt
      | 8 => xe.toInt
      | n => ν n : BN) = ν2
    have hx : ∀ n, n < 4 → ν2 n = ν n := fun n hn => by
      rw [← hν]
      rcases n with _ | _ | _ | _ | n <;> first | rfl | (exfalso; omega)
    have u0 : ν2 0 = ν 0 := hx 0 (by decide)
    have u1 : ν2 1 = ν 1 := hx 1 (by decide)
    have u2 : ν2 2 = ν 2 := hx 2 (by decide)
    have u3 : ν2 3 = ν 3 := hx 3 (by decide)
    have u4 : ν2 4 = xa.toInt := by subst hν; rfl
    have u5 : ν2 5 = xb.toInt := by subst hν; rfl
    have u6 : ν2 6 = xc.toInt := by subst hν; rfl
    have u7 : ν2 7 = xd.toInt := by subst hν; rfl
    have u8 : ν2 8 = xe.toInt := by subst hν; rfl
    have g2 := g.ad (ν' := ν2) (E' := [(0, 0, 19), (0, (-2147483648), 2147483647), (0, (-2147483648), 2147483647), (0, (-2147483648), 2147483647), (0, 10, 2147483647)]) (F' := [((2, 0, 0), (1, 0, 1), (1, 4, 0)), ((2, 0, 0), (1, 0, 2), (1, 5, 0)), ((2, 0, 0), (1, 0, 3), (1, 6, 0)), ((2, 0, 0), (1, 0, 4), (1, 7, 0)), ((2, 0, 0), (1, 0, 5), (1, 8, 0))]) (C' := [(4, 2, (-1)), (0, 0, 1)]) hx
      ⟨(by show b_q _ _ (ν2 4); rw [u4]; exact b_q.i (by omega) (by omega)), (by show b_q _ _ (ν2 5); rw [u5]; exact b_q.i (by omega) (by omega)), (by show b_q _ _ (ν2 6); rw [u6]; exact b_q.i (by omega) (by omega)), (by show b_q _ _ (ν2 7); rw [u7]; exact b_q.i (by omega) (by omega)), (by show b_q _ _ (ν2 8); rw [u8]; exact b_q.i (by omega) (by omega)), trivial⟩
      ⟨b_fa.mk e1 (Or.inl ⟨rfl, rfl⟩) (Or.inr ⟨rfl, by decide, by show _ = ν2 0 + 1; omega⟩) (Or.inr ⟨rfl, by decide, by show _ = ν2 4 + 0; omega⟩), b_fa.mk e2 (Or.inl ⟨rfl, rfl⟩) (Or.inr ⟨rfl, by decide, by show _ = ν2 0 + 2; omega⟩) (Or.inr ⟨rfl, by decide, by show _ = ν2 5 + 0; omega⟩), b_fa.mk e3 (Or.inl ⟨rfl, rfl⟩) (Or.inr ⟨rfl, by decide, by show _ = ν2 0 + 3; omega⟩) (Or.inr ⟨rfl, by decide, by show _ = ν2 6 + 0; omega⟩), b_fa.mk e4 (Or.inl ⟨rfl, rfl⟩) (Or.inr ⟨rfl, by decide, by show _ = ν2 0 + 4; omega⟩) (Or.inr ⟨rfl, by decide, by show _ = ν2 7 + 0; omega⟩), b_fa.mk e5 (Or.inl ⟨rfl, rfl⟩) (Or.inr ⟨rfl, by decide, by show _ = ν2 0 + 5; omega⟩) (Or.inr ⟨rfl, by decide, by show _ = ν2 8 + 0; omega⟩), trivial⟩
      ⟨⟨by decide, by decide, by show ν2 4 ≤ ν2 2 + (-1); omega⟩, ⟨by decide, by decide, by show ν2 0 ≤ ν2 0 + 1; omega⟩, trivial⟩
    exact c_sp hO c_sSelljC c_sSelljB hl hx (Q := c_Rel) g2 (b_al_of fun p hp ν' h' x' g' => c_Rel_frm H (show b_frm c_K c_sSellj.2.2.1 h h' from g'.2.2.2.2.2) (by decide +kernel) R)
  obtain ⟨k, hk, hkn⟩ : ∃ k : Nat, (k : Int) = xa.toInt ∧ k < 20 := ⟨xa.toInt.toNat, by omega, by omega⟩
  have RQ : c_RQ h := R.2.2
  have nD : c_I h 271 5 = ν 3 + 0 := g.rI (base := (2, 271, 0)) (slot := (0, 0, 5)) (val := (1, 3, 0)) (by rfl) (by decide) (by decide) rfl rfl
  have nM : c_I h 365 52 = ν 3 + 0 := g.rI (base := (2, 365, 0)) (slot := (0, 0, 52)) (val := (1, 3, 0)) (by rfl) (by decide) (by decide) rfl rfl
  have nF : c_I h 365 44 = ν 2 + 0 := g.rI (base := (2, 365, 0)) (slot := (0, 0, 44)) (val := (1, 2, 0)) (by rfl) (by decide) (by decide) rfl rfl
  have eq : c_I h 365 52 = c_I h 271 5 := nM.trans nD.symm
  obtain ⟨c, ec, c1, c2⟩ := H.rdI (a := 271) (j := 5) (lo := 0) (hi := 40) c_ra271 c_rq41 (by decide) (by decide) rfl
  obtain ⟨cm, ecm, cm1, cm2⟩ := H.rdI (a := 365) (j := 52) (lo := 0) (hi := 40) c_ra365 c_rq50 (by decide) (by decide) rfl
  have qD : c.toInt = ν 3 + 0 := (c_I_of ec).symm.trans nD
  have qM : cm.toInt = ν 3 + 0 := (c_I_of ecm).symm.trans nM
  obtain ⟨y, ey, y1, y2⟩ := H.rdI (a := 17 + k) (j := 4) (lo := 0) (hi := 1) (c_gF k hkn) c_rq3 (by decide) (by decide) rfl
  obtain ⟨w, ew, w1, w2⟩ := H.rdI (a := 372) (j := k) (lo := 0) (hi := 1) c_ra372 c_rq57 (by decide) hkn rfl
  have rk := R.2.1 k hkn
  rw [c_I_of ey, c_I_of ew] at rk
  by_cases hy : y.toInt = 1
  · generalize hν : (fun n => match n with
      | 4 => xa.toInt
      | 5 => xb.toInt
      | 6 => xc.toInt
      | 7 => xd.toInt
      | 8 => xe.toInt
      | 9 => ((17 + k : Nat) : Int)
      | n => ν n : BN) = ν2
    have hx : ∀ n, n < 4 → ν2 n = ν n := fun n hn => by
      rw [← hν]
      rcases n with _ | _ | _ | _ | n <;> first | rfl | (exfalso; omega)
    have u0 : ν2 0 = ν 0 := hx 0 (by decide)
    have u1 : ν2 1 = ν 1 := hx 1 (by decide)
    have u2 : ν2 2 = ν 2 := hx 2 (by decide)
    have u3 : ν2 3 = ν 3 := hx 3 (by decide)
    have u4 : ν2 4 = xa.toInt := by subst hν; rfl
    have u5 : ν2 5 = xb.toInt := by subst hν; rfl
    have u6 : ν2 6 = xc.toInt := by subst hν; rfl
    have u7 : ν2 7 = xd.toInt := by subst hν; rfl
    have u8 : ν2 8 = xe.toInt := by subst hν; rfl
    have u9 : ν2 9 = ((17 + k : Nat) : Int) := by subst hν; rfl
    have g2 := g.ad (ν' := ν2) (E' := [(0, 0, 19), (0, 0, 9), (0, 0, 99), (0, 0, 99), (0, 0, 9), (4, 0, 0)]) (F' := [((2, 0, 0), (1, 0, 1), (1, 4, 0)), ((2, 0, 0), (1, 0, 2), (1, 5, 0)), ((2, 0, 0), (1, 0, 3), (1, 6, 0)), ((2, 0, 0), (1, 0, 4), (1, 7, 0)), ((2, 0, 0), (1, 0, 5), (1, 8, 0)), ((2, 3, 0), (1, 4, 0), (3, 9, 0)), ((3, 9, 0), (0, 0, 4), (0, 0, 1)), ((2, 372, 0), (1, 4, 0), (0, 0, 1))]) (C' := [(4, 2, (-1)), (6, 7, 0), (0, 0, 2), (0, 0, 1)]) hx
      ⟨(by show b_q _ _ (ν2 4); rw [u4]; exact b_q.i (by omega) (by omega)), (by show b_q _ _ (ν2 5); rw [u5]; exact b_q.i (by omega) (by omega)), (by show b_q _ _ (ν2 6); rw [u6]; exact b_q.i (by omega) (by omega)), (by show b_q _ _ (ν2 7); rw [u7]; exact b_q.i (by omega) (by omega)), (by show b_q _ _ (ν2 8); rw [u8]; exact b_q.i (by omega) (by omega)), (by show b_q _ _ (ν2 9); rw [u9]; exact b_q.r (c_gF k hkn)), trivial⟩
      ⟨b_fa.mk e1 (Or.inl ⟨rfl, rfl⟩) (Or.inr ⟨rfl, by decide, by show _ = ν2 0 + 1; omega⟩) (Or.inr ⟨rfl, by decide, by show _ = ν2 4 + 0; omega⟩), b_fa.mk e2 (Or.inl ⟨rfl, rfl⟩) (Or.inr ⟨rfl, by decide, by show _ = ν2 0 + 2; omega⟩) (Or.inr ⟨rfl, by decide, by show _ = ν2 5 + 0; omega⟩), b_fa.mk e3 (Or.inl ⟨rfl, rfl⟩) (Or.inr ⟨rfl, by decide, by show _ = ν2 0 + 3; omega⟩) (Or.inr ⟨rfl, by decide, by show _ = ν2 6 + 0; omega⟩), b_fa.mk e4 (Or.inl ⟨rfl, rfl⟩) (Or.inr ⟨rfl, by decide, by show _ = ν2 0 + 4; omega⟩) (Or.inr ⟨rfl, by decide, by show _ = ν2 7 + 0; omega⟩), b_fa.mk e5 (Or.inl ⟨rfl, rfl⟩) (Or.inr ⟨rfl, by decide, by show _ = ν2 0 + 5; omega⟩) (Or.inr ⟨rfl, by decide, by show _ = ν2 8 + 0; omega⟩), b_fa.mk (R.1.1 k hkn) (Or.inl ⟨rfl, rfl⟩) (Or.inr ⟨rfl, by decide, by show _ = ν2 4 + 0; omega⟩) (Or.inr ⟨rfl, by decide, by show _ = ν2 9; omega⟩), b_fa.mk ey (Or.inr ⟨rfl, by decide, by show _ = ν2 9; omega⟩) (Or.inl ⟨rfl, rfl⟩) (Or.inl ⟨rfl, by show _ = (1 : Int); omega⟩), b_fa.mk ew (Or.inl ⟨rfl, rfl⟩) (Or.inr ⟨rfl, by decide, by show _ = ν2 4 + 0; omega⟩) (Or.inl ⟨rfl, by show _ = (1 : Int); omega⟩), trivial⟩
      ⟨⟨by decide, by decide, by show ν2 4 ≤ ν2 2 + (-1); omega⟩, ⟨by decide, by decide, by show ν2 6 ≤ ν2 7 + 0; omega⟩, ⟨by decide, by decide, by show ν2 0 ≤ ν2 0 + 2; omega⟩, ⟨by decide, by decide, by show ν2 0 ≤ ν2 0 + 1; omega⟩, trivial⟩
    exact c_sp hO c_sSellwC c_sSellwB hl hx (Q := c_Rel) g2 (b_al_of fun p hp ν' h' x' g' => c_Rel_frm H (show b_frm c_K c_sSellw.2.2.1 h h' from g'.2.2.2.2.2) (by decide +kernel) R)
  by_cases hov : ∃ j, c_ov h xa.toInt xb.toInt xc.toInt xd.toInt j
  · obtain ⟨j, o⟩ := hov
    obtain ⟨-, m2, m3, m4, m5, m6⟩ := (c_ovQ RQ eq).mpr o
    obtain ⟨o1, o2, o3, o4, o5, o6⟩ := o
    rw [c_I_of ec] at o2
    obtain ⟨s, es, s1, s2⟩ := H.rdI (a := 272) (j := j) (lo := 0) (hi := 19) c_ra272 c_rq42 (by decide) o1 rfl
    rw [c_I_of es] at o3
    obtain ⟨t, et, t1, t2⟩ := H.rdI (a := 273) (j := j) (lo := 0) (hi := 9) c_ra273 c_rq43 (by decide) o1 rfl
    rw [c_I_of et] at o4
    obtain ⟨p, ep, p1, p2⟩ := H.rdI (a := 274) (j := j) (lo := 0) (hi := 99) c_ra274 c_rq44 (by decide) o1 rfl
    rw [c_I_of ep] at o5
    obtain ⟨q, eq0, q1, q2⟩ := H.rdI (a := 275) (j := j) (lo := 0) (hi := 99) c_ra275 c_rq45 (by decide) o1 rfl
    rw [c_I_of eq0] at o6
    obtain ⟨r0, em0, r01, r02⟩ := H.rdI (a := 727 + j) (j := 0) (lo := 0) (hi := 99) (sRow j o1) c_rq105 (by decide) (by decide) rfl
    rw [c_I_of em0] at m3
    obtain ⟨r1, em1, r11, r12⟩ := H.rdI (a := 727 + j) (j := 1) (lo := 0) (hi := 99) (sRow j o1) c_rq105 (by decide) (by decide) rfl
    rw [c_I_of em1] at m4
    obtain ⟨r2, em2, r21, r22⟩ := H.rdI (a := 727 + j) (j := 2) (lo := 0) (hi := 99) (sRow j o1) c_rq105 (by decide) (by decide) rfl
    rw [c_I_of em2] at m5
    obtain ⟨r3, em3, r31, r32⟩ := H.rdI (a := 727 + j) (j := 3) (lo := 0) (hi := 99) (sRow j o1) c_rq105 (by decide) (by decide) rfl
    rw [c_I_of em3] at m6
    obtain ⟨z0, z1, z2, z3, z4⟩ := RQ.2.1 j o1 (by rw [c_I_of ec]; exact o2)
    rw [c_I_of es, c_I_of em0] at z0
    rw [c_I_of et, c_I_of em1] at z1
    rw [c_I_of ep, c_I_of em2] at z2
    rw [c_I_of eq0, c_I_of em3] at z3
    generalize hν : (fun n => match n with
      | 4 => xa.toInt
      | 5 => xb.toInt
      | 6 => xc.toInt
      | 7 => xd.toInt
      | 8 => xe.toInt
      | 9 => ((17 + k : Nat) : Int)
      | 10 => c.toInt
      | 11 => (j : Int)
      | 12 => ((727 + j : Nat) : Int)
      | 13 => p.toInt
      | 14 => q.toInt
      | n => ν n : BN) = ν2
    have hx : ∀ n, n < 4 → ν2 n = ν n := fun n hn => by
      rw [← hν]
      rcases n with _ | _ | _ | _ | n <;> first | rfl | (exfalso; omega)
    have u0 : ν2 0 = ν 0 := hx 0 (by decide)
    have u1 : ν2 1 = ν 1 := hx 1 (by decide)
    have u2 : ν2 2 = ν 2 := hx 2 (by decide)
    have u3 : ν2 3 = ν 3 := hx 3 (by decide)
    have u4 : ν2 4 = xa.toInt := by subst hν; rfl
    have u5 : ν2 5 = xb.toInt := by subst hν; rfl
    have u6 : ν2 6 = xc.toInt := by subst hν; rfl
    have u7 : ν2 7 = xd.toInt := by subst hν; rfl
    have u8 : ν2 8 = xe.toInt := by subst hν; rfl
    have u9 : ν2 9 = ((17 + k : Nat) : Int) := by subst hν; rfl
    have u10 : ν2 10 = c.toInt := by subst hν; rfl
    have u11 : ν2 11 = (j : Int) := by subst hν; rfl
    have u12 : ν2 12 = ((727 + j : Nat) : Int) := by subst hν; rfl
    have u13 : ν2 13 = p.toInt := by subst hν; rfl
    have u14 : ν2 14 = q.toInt := by subst hν; rfl
    have g2 := g.ad (ν' := ν2) (E' := [(0, 0, 19), (0, 0, 9), (0, 0, 99), (0, 0, 99), (0, 0, 9), (4, 0, 0), (0, 1, 40), (0, 0, 39), (106, 0, 0), (0, 0, 99), (0, 0, 99)]) (F' := [((2, 0, 0), (1, 0, 1), (1, 4, 0)), ((2, 0, 0), (1, 0, 2), (1, 5, 0)), ((2, 0, 0), (1, 0, 3), (1, 6, 0)), ((2, 0, 0), (1, 0, 4), (1, 7, 0)), ((2, 0, 0), (1, 0, 5), (1, 8, 0)), ((2, 3, 0), (1, 4, 0), (3, 9, 0)), ((3, 9, 0), (0, 0, 4), (0, 0, 0)), ((2, 372, 0), (1, 4, 0), (0, 0, 0)), ((2, 271, 0), (0, 0, 5), (1, 10, 0)), ((2, 365, 0), (0, 0, 52), (1, 10, 0)), ((2, 272, 0), (1, 11, 0), (1, 4, 0)), ((2, 273, 0), (1, 11, 0), (1, 5, 0)), ((2, 274, 0), (1, 11, 0), (1, 13, 0)), ((2, 275, 0), (1, 11, 0), (1, 14, 0)), ((2, 726, 0), (1, 11, 0), (3, 12, 0)), ((3, 12, 0), (0, 0, 0), (1, 4, 0)), ((3, 12, 0), (0, 0, 1), (1, 5, 0)), ((3, 12, 0), (0, 0, 2), (1, 13, 0)), ((3, 12, 0), (0, 0, 3), (1, 14, 0))]) (C' := [(4, 2, (-1)), (6, 7, 0), (11, 10, (-1)), (13, 7, 0), (6, 14, 0), (0, 0, 2), (0, 0, 1)]) hx
      ⟨(by show b_q _ _ (ν2 4); rw [u4]; exact b_q.i (by omega) (by omega)), (by show b_q _ _ (ν2 5); rw [u5]; exact b_q.i (by omega) (by omega)), (by show b_q _ _ (ν2 6); rw [u6]; exact b_q.i (by omega) (by omega)), (by show b_q _ _ (ν2 7); rw [u7]; exact b_q.i (by omega) (by omega)), (by show b_q _ _ (ν2 8); rw [u8]; exact b_q.i (by omega) (by omega)), (by show b_q _ _ (ν2 9); rw [u9]; exact b_q.r (c_gF k hkn)), (by show b_q _ _ (ν2 10); rw [u10]; exact b_q.i (by omega) (by omega)), (by show b_q _ _ (ν2 11); rw [u11]; exact b_q.i (by omega) (by omega)), (by show b_q _ _ (ν2 12); rw [u12]; exact b_q.r (sRow j o1)), (by show b_q _ _ (ν2 13); rw [u13]; exact b_q.i (by omega) (by omega)), (by show b_q _ _ (ν2 14); rw [u14]; exact b_q.i (by omega) (by omega)), trivial⟩
      ⟨b_fa.mk e1 (Or.inl ⟨rfl, rfl⟩) (Or.inr ⟨rfl, by decide, by show _ = ν2 0 + 1; omega⟩) (Or.inr ⟨rfl, by decide, by show _ = ν2 4 + 0; omega⟩), b_fa.mk e2 (Or.inl ⟨rfl, rfl⟩) (Or.inr ⟨rfl, by decide, by show _ = ν2 0 + 2; omega⟩) (Or.inr ⟨rfl, by decide, by show _ = ν2 5 + 0; omega⟩), b_fa.mk e3 (Or.inl ⟨rfl, rfl⟩) (Or.inr ⟨rfl, by decide, by show _ = ν2 0 + 3; omega⟩) (Or.inr ⟨rfl, by decide, by show _ = ν2 6 + 0; omega⟩), b_fa.mk e4 (Or.inl ⟨rfl, rfl⟩) (Or.inr ⟨rfl, by decide, by show _ = ν2 0 + 4; omega⟩) (Or.inr ⟨rfl, by decide, by show _ = ν2 7 + 0; omega⟩), b_fa.mk e5 (Or.inl ⟨rfl, rfl⟩) (Or.inr ⟨rfl, by decide, by show _ = ν2 0 + 5; omega⟩) (Or.inr ⟨rfl, by decide, by show _ = ν2 8 + 0; omega⟩), b_fa.mk (R.1.1 k hkn) (Or.inl ⟨rfl, rfl⟩) (Or.inr ⟨rfl, by decide, by show _ = ν2 4 + 0; omega⟩) (Or.inr ⟨rfl, by decide, by show _ = ν2 9; omega⟩), b_fa.mk ey (Or.inr ⟨rfl, by decide, by show _ = ν2 9; omega⟩) (Or.inl ⟨rfl, rfl⟩) (Or.inl ⟨rfl, by show _ = (0 : Int); omega⟩), b_fa.mk ew (Or.inl ⟨rfl, rfl⟩) (Or.inr ⟨rfl, by decide, by show _ = ν2 4 + 0; omega⟩) (Or.inl ⟨rfl, by show _ = (0 : Int); omega⟩), b_fa.mk ec (Or.inl ⟨rfl, rfl⟩) (Or.inl ⟨rfl, rfl⟩) (Or.inr ⟨rfl, by decide, by show _ = ν2 10 + 0; omega⟩), b_fa.mk ecm (Or.inl ⟨rfl, rfl⟩) (Or.inl ⟨rfl, rfl⟩) (Or.inr ⟨rfl, by decide, by show _ = ν2 10 + 0; omega⟩), b_fa.mk es (Or.inl ⟨rfl, rfl⟩) (Or.inr ⟨rfl, by decide, by show _ = ν2 11 + 0; omega⟩) (Or.inr ⟨rfl, by decide, by show _ = ν2 4 + 0; omega⟩), b_fa.mk et (Or.inl ⟨rfl, rfl⟩) (Or.inr ⟨rfl, by decide, by show _ = ν2 11 + 0; omega⟩) (Or.inr ⟨rfl, by decide, by show _ = ν2 5 + 0; omega⟩), b_fa.mk ep (Or.inl ⟨rfl, rfl⟩) (Or.inr ⟨rfl, by decide, by show _ = ν2 11 + 0; omega⟩) (Or.inr ⟨rfl, by decide, by show _ = ν2 13 + 0; omega⟩), b_fa.mk eq0 (Or.inl ⟨rfl, rfl⟩) (Or.inr ⟨rfl, by decide, by show _ = ν2 11 + 0; omega⟩) (Or.inr ⟨rfl, by decide, by show _ = ν2 14 + 0; omega⟩), b_fa.mk (RQ.1 j o1) (Or.inl ⟨rfl, rfl⟩) (Or.inr ⟨rfl, by decide, by show _ = ν2 11 + 0; omega⟩) (Or.inr ⟨rfl, by decide, by show _ = ν2 12; omega⟩), b_fa.mk em0 (Or.inr ⟨rfl, by decide, by show _ = ν2 12; omega⟩) (Or.inl ⟨rfl, rfl⟩) (Or.inr ⟨rfl, by decide, by show _ = ν2 4 + 0; omega⟩), b_fa.mk em1 (Or.inr ⟨rfl, by decide, by show _ = ν2 12; omega⟩) (Or.inl ⟨rfl, rfl⟩) (Or.inr ⟨rfl, by decide, by show _ = ν2 5 + 0; omega⟩), b_fa.mk em2 (Or.inr ⟨rfl, by decide, by show _ = ν2 12; omega⟩) (Or.inl ⟨rfl, rfl⟩) (Or.inr ⟨rfl, by decide, by show _ = ν2 13 + 0; omega⟩), b_fa.mk em3 (Or.inr ⟨rfl, by decide, by show _ = ν2 12; omega⟩) (Or.inl ⟨rfl, rfl⟩) (Or.inr ⟨rfl, by decide, by show _ = ν2 14 + 0; omega⟩), trivial⟩
      ⟨⟨by decide, by decide, by show ν2 4 ≤ ν2 2 + (-1); omega⟩, ⟨by decide, by decide, by show ν2 6 ≤ ν2 7 + 0; omega⟩, ⟨by decide, by decide, by show ν2 11 ≤ ν2 10 + (-1); omega⟩, ⟨by decide, by decide, by show ν2 13 ≤ ν2 7 + 0; omega⟩, ⟨by decide, by decide, by show ν2 6 ≤ ν2 14 + 0; omega⟩, ⟨by decide, by decide, by show ν2 0 ≤ ν2 0 + 2; omega⟩, ⟨by decide, by decide, by show ν2 0 ≤ ν2 0 + 1; omega⟩, trivial⟩
    exact c_sp hO c_sSelloC c_sSelloB hl hx (Q := c_Rel) g2 (b_al_of fun p hp ν' h' x' g' => c_Rel_frm H (show b_frm c_K c_sSello.2.2.1 h h' from g'.2.2.2.2.2) (by decide +kernel) R)
  have no : ∀ j, ¬ c_ov h xa.toInt xb.toInt xc.toInt xd.toInt j := fun j o => hov ⟨j, o⟩
  have noM : ∀ j, ¬ c_ovM h xa.toInt xb.toInt xc.toInt xd.toInt j := fun j o => hov ⟨j, (c_ovQ RQ eq).mp o⟩
  by_cases hn : 40 ≤ ν 3
  · generalize hν : (fun n => match n with
      | 4 => xa.toInt
      | 5 => xb.toInt
      | 6 => xc.toInt
      | 7 => xd.toInt
      | 8 => xe.toInt
      | 9 => ((17 + k : Nat) : Int)
      | 10 => c.toInt
      | n => ν n : BN) = ν2
    have hx : ∀ n, n < 4 → ν2 n = ν n := fun n hn => by
      rw [← hν]
      rcases n with _ | _ | _ | _ | n <;> first | rfl | (exfalso; omega)
    have u0 : ν2 0 = ν 0 := hx 0 (by decide)
    have u1 : ν2 1 = ν 1 := hx 1 (by decide)
    have u2 : ν2 2 = ν 2 := hx 2 (by decide)
    have u3 : ν2 3 = ν 3 := hx 3 (by decide)
    have u4 : ν2 4 = xa.toInt := by subst hν; rfl
    have u5 : ν2 5 = xb.toInt := by subst hν; rfl
    have u6 : ν2 6 = xc.toInt := by subst hν; rfl
    have u7 : ν2 7 = xd.toInt := by subst hν; rfl
    have u8 : ν2 8 = xe.toInt := by subst hν; rfl
    have u9 : ν2 9 = ((17 + k : Nat) : Int) := by subst hν; rfl
    have u10 : ν2 10 = c.toInt := by subst hν; rfl
    have g2 := g.ad (ν' := ν2) (E' := [(0, 0, 19), (0, 0, 9), (0, 0, 99), (0, 0, 99), (0, 0, 9), (4, 0, 0), (0, 40, 40)]) (F' := [((2, 0, 0), (1, 0, 1), (1, 4, 0)), ((2, 0, 0), (1, 0, 2), (1, 5, 0)), ((2, 0, 0), (1, 0, 3), (1, 6, 0)), ((2, 0, 0), (1, 0, 4), (1, 7, 0)), ((2, 0, 0), (1, 0, 5), (1, 8, 0)), ((2, 3, 0), (1, 4, 0), (3, 9, 0)), ((3, 9, 0), (0, 0, 4), (0, 0, 0)), ((2, 372, 0), (1, 4, 0), (0, 0, 0)), ((2, 271, 0), (0, 0, 5), (1, 10, 0)), ((2, 365, 0), (0, 0, 52), (1, 10, 0))]) (C' := [(4, 2, (-1)), (6, 7, 0), (0, 0, 2), (0, 0, 1)]) hx
      ⟨(by show b_q _ _ (ν2 4); rw [u4]; exact b_q.i (by omega) (by omega)), (by show b_q _ _ (ν2 5); rw [u5]; exact b_q.i (by omega) (by omega)), (by show b_q _ _ (ν2 6); rw [u6]; exact b_q.i (by omega) (by omega)), (by show b_q _ _ (ν2 7); rw [u7]; exact b_q.i (by omega) (by omega)), (by show b_q _ _ (ν2 8); rw [u8]; exact b_q.i (by omega) (by omega)), (by show b_q _ _ (ν2 9); rw [u9]; exact b_q.r (c_gF k hkn)), (by show b_q _ _ (ν2 10); rw [u10]; exact b_q.i (by omega) (by omega)), trivial⟩
      ⟨b_fa.mk e1 (Or.inl ⟨rfl, rfl⟩) (Or.inr ⟨rfl, by decide, by show _ = ν2 0 + 1; omega⟩) (Or.inr ⟨rfl, by decide, by show _ = ν2 4 + 0; omega⟩), b_fa.mk e2 (Or.inl ⟨rfl, rfl⟩) (Or.inr ⟨rfl, by decide, by show _ = ν2 0 + 2; omega⟩) (Or.inr ⟨rfl, by decide, by show _ = ν2 5 + 0; omega⟩), b_fa.mk e3 (Or.inl ⟨rfl, rfl⟩) (Or.inr ⟨rfl, by decide, by show _ = ν2 0 + 3; omega⟩) (Or.inr ⟨rfl, by decide, by show _ = ν2 6 + 0; omega⟩), b_fa.mk e4 (Or.inl ⟨rfl, rfl⟩) (Or.inr ⟨rfl, by decide, by show _ = ν2 0 + 4; omega⟩) (Or.inr ⟨rfl, by decide, by show _ = ν2 7 + 0; omega⟩), b_fa.mk e5 (Or.inl ⟨rfl, rfl⟩) (Or.inr ⟨rfl, by decide, by show _ = ν2 0 + 5; omega⟩) (Or.inr ⟨rfl, by decide, by show _ = ν2 8 + 0; omega⟩), b_fa.mk (R.1.1 k hkn) (Or.inl ⟨rfl, rfl⟩) (Or.inr ⟨rfl, by decide, by show _ = ν2 4 + 0; omega⟩) (Or.inr ⟨rfl, by decide, by show _ = ν2 9; omega⟩), b_fa.mk ey (Or.inr ⟨rfl, by decide, by show _ = ν2 9; omega⟩) (Or.inl ⟨rfl, rfl⟩) (Or.inl ⟨rfl, by show _ = (0 : Int); omega⟩), b_fa.mk ew (Or.inl ⟨rfl, rfl⟩) (Or.inr ⟨rfl, by decide, by show _ = ν2 4 + 0; omega⟩) (Or.inl ⟨rfl, by show _ = (0 : Int); omega⟩), b_fa.mk ec (Or.inl ⟨rfl, rfl⟩) (Or.inl ⟨rfl, rfl⟩) (Or.inr ⟨rfl, by decide, by show _ = ν2 10 + 0; omega⟩), b_fa.mk ecm (Or.inl ⟨rfl, rfl⟩) (Or.inl ⟨rfl, rfl⟩) (Or.inr ⟨rfl, by decide, by show _ = ν2 10 + 0; omega⟩), trivial⟩
      ⟨⟨by decide, by decide, by show ν2 4 ≤ ν2 2 + (-1); omega⟩, ⟨by decide, by decide, by show ν2 6 ≤ ν2 7 + 0; omega⟩, ⟨by decide, by decide, by show ν2 0 ≤ ν2 0 + 2; omega⟩, ⟨by decide, by decide, by show ν2 0 ≤ ν2 0 + 1; omega⟩, trivial⟩
    exact c_spR (b_orcS_ok c_hJ (List.forall_mem_cons.mpr ⟨(c_vrSold0 H (by decide) u4 u5 u6 u7 (by omega) (by omega) (by omega) (by omega) (by omega) (by omega) (by omega) (by omega) no), (List.forall_mem_cons.mpr ⟨(c_vrSellx H (by decide) u4 u5 u6 u7 u8 (by omega) (by omega) (by omega) (by omega) (by omega) (by omega) (by omega) (by omega) (by omega) (by omega) RQ.1 (by rw [nF]; omega) (by omega) (by rw [show xa.toInt.toNat = k by omega, c_I_of ew]; omega) noM (by rw [nM]; omega)), (fun _ h => absurd h List.not_mem_nil)⟩)⟩) (tab := [c_r72w, c_r249w, c_r249o, c_r72]) (List.forall_mem_cons.mpr ⟨c_v72w, List.forall_mem_cons.mpr ⟨c_v249w, List.forall_mem_cons.mpr ⟨c_v249o, List.forall_mem_cons.mpr ⟨c_v72, fun _ h => absurd h List.not_mem_nil⟩⟩⟩⟩) 3000 12) c_sSellxC c_sSellxB hl hx (Q := c_Rel) g2 (b_al_of fun p hp ν' h' x' g' => c_Rel_frm H (show b_frm c_K c_sSellx.2.2.1 h h' from g'.2.2.2.2.2) (by decide +kernel) R)
  obtain ⟨nn, hnn⟩ : ∃ n : Nat, (n : Int) = ν 3 := ⟨(ν 3).toNat, by omega⟩
  have hn40 : nn < 40 := by omega
  have main : c_res 1784 ν al h mc ms (fun h' => c_Fx h' ∧ c_RW h' ∧ (∀ i, i < 40 → c_at h' 726 i = some (.ref (727 + i))) ∧ c_I h' 271 5 = ν 3 + 1 ∧ c_I h' 272 nn = xa.toInt ∧ c_I h' 273 nn = xb.toInt ∧ c_I h' 274 nn = xc.toInt ∧ c_I h' 275 nn = xd.toInt ∧ c_I h' 276 nn = xe.toInt ∧ c_I h' (727 + nn) 0 = xa.toInt ∧ c_I h' (727 + nn) 1 = xb.toInt ∧ c_I h' (727 + nn) 2 = xc.toInt ∧ c_I h' (727 + nn) 3 = xd.toInt ∧ c_I h' (727 + nn) 4 = xe.toInt) := by
    generalize hν : (fun n => match n with
      | 4 => xa.toInt
      | 5 => xb.toInt
      | 6 => xc.toInt
      | 7 => xd.toInt
      | 8 => xe.toInt
      | 9 => ((17 + k : Nat) : Int)
      | 10 => c.toInt
      | 11 => ((727 + nn : Nat) : Int)
      | n => ν n : BN) = ν2
    have hx : ∀ n, n < 4 → ν2 n = ν n := fun n hn => by
      rw [← hν]
      rcases n with _ | _ | _ | _ | n <;> first | rfl | (exfalso; omega)
    have u0 : ν2 0 = ν 0 := hx 0 (by decide)
    have u1 : ν2 1 = ν 1 := hx 1 (by decide)
    have u2 : ν2 2 = ν 2 := hx 2 (by decide)
    have u3 : ν2 3 = ν 3 := hx 3 (by decide)
    have u4 : ν2 4 = xa.toInt := by subst hν; rfl
    have u5 : ν2 5 = xb.toInt := by subst hν; rfl
    have u6 : ν2 6 = xc.toInt := by subst hν; rfl
    have u7 : ν2 7 = xd.toInt := by subst hν; rfl
    have u8 : ν2 8 = xe.toInt := by subst hν; rfl
    have u9 : ν2 9 = ((17 + k : Nat) : Int) := by subst hν; rfl
    have u10 : ν2 10 = c.toInt := by subst hν; rfl
    have u11 : ν2 11 = ((727 + nn : Nat) : Int) := by subst hν; rfl
    have g2 := g.ad (ν' := ν2) (E' := [(0, 0, 19), (0, 0, 9), (0, 0, 99), (0, 0, 99), (0, 0, 9), (4, 0, 0), (0, 0, 39), (106, 0, 0)]) (F' := [((2, 0, 0), (1, 0, 1), (1, 4, 0)), ((2, 0, 0), (1, 0, 2), (1, 5, 0)), ((2, 0, 0), (1, 0, 3), (1, 6, 0)), ((2, 0, 0), (1, 0, 4), (1, 7, 0)), ((2, 0, 0), (1, 0, 5), (1, 8, 0)), ((2, 3, 0), (1, 4, 0), (3, 9, 0)), ((3, 9, 0), (0, 0, 4), (0, 0, 0)), ((2, 372, 0), (1, 4, 0), (0, 0, 0)), ((2, 271, 0), (0, 0, 5), (1, 10, 0)), ((2, 365, 0), (0, 0, 52), (1, 10, 0)), ((2, 726, 0), (1, 10, 0), (3, 11, 0))]) (C' := [(4, 2, (-1)), (6, 7, 0), (0, 0, 2), (0, 0, 1)]) hx
      ⟨(by show b_q _ _ (ν2 4); rw [u4]; exact b_q.i (by omega) (by omega)), (by show b_q _ _ (ν2 5); rw [u5]; exact b_q.i (by omega) (by omega)), (by show b_q _ _ (ν2 6); rw [u6]; exact b_q.i (by omega) (by omega)), (by show b_q _ _ (ν2 7); rw [u7]; exact b_q.i (by omega) (by omega)), (by show b_q _ _ (ν2 8); rw [u8]; exact b_q.i (by omega) (by omega)), (by show b_q _ _ (ν2 9); rw [u9]; exact b_q.r (c_gF k hkn)), (by show b_q _ _ (ν2 10); rw [u10]; exact b_q.i (by omega) (by omega)), (by show b_q _ _ (ν2 11); rw [u11]; exact b_q.r (sRow nn hn40)), trivial⟩
      ⟨b_fa.mk e1 (Or.inl ⟨rfl, rfl⟩) (Or.inr ⟨rfl, by decide, by show _ = ν2 0 + 1; omega⟩) (Or.inr ⟨rfl, by decide, by show _ = ν2 4 + 0; omega⟩), b_fa.mk e2 (Or.inl ⟨rfl, rfl⟩) (Or.inr ⟨rfl, by decide, by show _ = ν2 0 + 2; omega⟩) (Or.inr ⟨rfl, by decide, by show _ = ν2 5 + 0; omega⟩), b_fa.mk e3 (Or.inl ⟨rfl, rfl⟩) (Or.inr ⟨rfl, by decide, by show _ = ν2 0 + 3; omega⟩) (Or.inr ⟨rfl, by decide, by show _ = ν2 6 + 0; omega⟩), b_fa.mk e4 (Or.inl ⟨rfl, rfl⟩) (Or.inr ⟨rfl, by decide, by show _ = ν2 0 + 4; omega⟩) (Or.inr ⟨rfl, by decide, by show _ = ν2 7 + 0; omega⟩), b_fa.mk e5 (Or.inl ⟨rfl, rfl⟩) (Or.inr ⟨rfl, by decide, by show _ = ν2 0 + 5; omega⟩) (Or.inr ⟨rfl, by decide, by show _ = ν2 8 + 0; omega⟩), b_fa.mk (R.1.1 k hkn) (Or.inl ⟨rfl, rfl⟩) (Or.inr ⟨rfl, by decide, by show _ = ν2 4 + 0; omega⟩) (Or.inr ⟨rfl, by decide, by show _ = ν2 9; omega⟩), b_fa.mk ey (Or.inr ⟨rfl, by decide, by show _ = ν2 9; omega⟩) (Or.inl ⟨rfl, rfl⟩) (Or.inl ⟨rfl, by show _ = (0 : Int); omega⟩), b_fa.mk ew (Or.inl ⟨rfl, rfl⟩) (Or.inr ⟨rfl, by decide, by show _ = ν2 4 + 0; omega⟩) (Or.inl ⟨rfl, by show _ = (0 : Int); omega⟩), b_fa.mk ec (Or.inl ⟨rfl, rfl⟩) (Or.inl ⟨rfl, rfl⟩) (Or.inr ⟨rfl, by decide, by show _ = ν2 10 + 0; omega⟩), b_fa.mk ecm (Or.inl ⟨rfl, rfl⟩) (Or.inl ⟨rfl, rfl⟩) (Or.inr ⟨rfl, by decide, by show _ = ν2 10 + 0; omega⟩), b_fa.mk (RQ.1 nn hn40) (Or.inl ⟨rfl, rfl⟩) (Or.inr ⟨rfl, by decide, by show _ = ν2 10 + 0; omega⟩) (Or.inr ⟨rfl, by decide, by show _ = ν2 11; omega⟩), trivial⟩
      ⟨⟨by decide, by decide, by show ν2 4 ≤ ν2 2 + (-1); omega⟩, ⟨by decide, by decide, by show ν2 6 ≤ ν2 7 + 0; omega⟩, ⟨by decide, by decide, by show ν2 0 ≤ ν2 0 + 2; omega⟩, ⟨by decide, by decide, by show ν2 0 ≤ ν2 0 + 1; omega⟩, trivial⟩
    exact c_spR (b_orcS_ok c_hJ (List.forall_mem_cons.mpr ⟨(c_vrSold0 H (by decide) u4 u5 u6 u7 (by omega) (by omega) (by omega) (by omega) (by omega) (by omega) (by omega) (by omega) no), (List.forall_mem_cons.mpr ⟨(c_vrSelln H (by decide) u4 u5 u6 u7 u8 (by omega) (by omega) (by omega) (by omega) (by omega) (by omega) (by omega) (by omega) (by omega) (by omega) RQ.1 (by rw [nF]; omega) (by omega) (by rw [show xa.toInt.toNat = k by omega, c_I_of ew]; omega) noM (by rw [nM]; omega) (by rw [nM]; omega) (by rw [← (show 727 + nn = 727 + (c_I h 365 52).toNat by rw [nM]; omega)]; exact u11)), (fun _ h => absurd h List.not_mem_nil)⟩)⟩) (tab := [c_r72w, c_r249w, c_r249o, c_r72]) (List.forall_mem_cons.mpr ⟨c_v72w, List.forall_mem_cons.mpr ⟨c_v249w, List.forall_mem_cons.mpr ⟨c_v249o, List.forall_mem_cons.mpr ⟨c_v72, fun _ h => absurd h List.not_mem_nil⟩⟩⟩⟩) 3000 12) c_sSellMC c_sSellMB hl hx (Q := fun h' => c_Fx h' ∧ c_RW h' ∧ (∀ i, i < 40 → c_at h' 726 i = some (.ref (727 + i))) ∧ c_I h' 271 5 = ν 3 + 1 ∧ c_I h' 272 nn = xa.toInt ∧ c_I h' 273 nn = xb.toInt ∧ c_I h' 274 nn = xc.toInt ∧ c_I h' 275 nn = xd.toInt ∧ c_I h' 276 nn = xe.toInt ∧ c_I h' (727 + nn) 0 = xa.toInt ∧ c_I h' (727 + nn) 1 = xb.toInt ∧ c_I h' (727 + nn) 2 = xc.toInt ∧ c_I h' (727 + nn) 3 = xd.toInt ∧ c_I h' (727 + nn) 4 = xe.toInt) g2 (b_al.c (fun ν' h' x' g' => by
      have e1 : c_I h' 271 5 = ν' 13 + 0 := g'.rI (base := (2, 271, 0)) (slot := (0, 0, 5)) (val := (1, 13, 0)) (by rfl) (by decide) (by decide) rfl rfl
      have k1 : ν' 13 ≤ ν' 10 + 1 := g'.co (by decide)
      have k2 : ν' 10 ≤ ν' 13 + (-1) := g'.co (by decide)
      have k10 : ν' 4 = ν2 4 := x'.2 4 (by decide)
      have k11 : ν' 5 = ν2 5 := x'.2 5 (by decide)
      have k12 : ν' 6 = ν2 6 := x'.2 6 (by decide)
      have k13 : ν' 7 = ν2 7 := x'.2 7 (by decide)
      have k14 : ν' 8 = ν2 8 := x'.2 8 (by decide)
      have k15 : ν' 9 = ν2 9 := x'.2 9 (by decide)
      have k16 : ν' 10 = ν2 10 := x'.2 10 (by decide)
      have k17 : ν' 11 = ν2 11 := x'.2 11 (by decide)
      have f0 : c_I h' 272 nn = ν' 4 + 0 := g'.rI (base := (2, 272, 0)) (slot := (1, 10, 0)) (val := (1, 4, 0)) (by rfl) (by decide) (by decide) rfl (by show (nn : Int) = ν' 10 + 0; omega)
      have d0 : c_I h' (727 + nn) 0 = ν' 4 + 0 := g'.rI (base := (3, 11, 0)) (slot := (0, 0, 0)) (val := (1, 4, 0)) (by rfl) (by decide) (by decide) (by show ((727 + nn : Nat) : Int) = ν' 11; omega) rfl
      have f1 : c_I h' 273 nn = ν' 5 + 0 := g'.rI (base := (2, 273, 0)) (slot := (1, 10, 0)) (val := (1, 5, 0)) (by rfl) (by decide) (by decide) rfl (by show (nn : Int) = ν' 10 + 0; omega)
      have d1 : c_I h' (727 + nn) 1 = ν' 5 + 0 := g'.rI (base := (3, 11, 0)) (slot := (0, 0, 1)) (val := (1, 5, 0)) (by rfl) (by decide) (by decide) (by show ((727 + nn : Nat) : Int) = ν' 11; omega) rfl
      have f2 : c_I h' 274 nn = ν' 6 + 0 := g'.rI (base := (2, 274, 0)) (slot := (1, 10, 0)) (val := (1, 6, 0)) (by rfl) (by decide) (by decide) rfl (by show (nn : Int) = ν' 10 + 0; omega)
      have d2 : c_I h' (727 + nn) 2 = ν' 6 + 0 := g'.rI (base := (3, 11, 0)) (slot := (0, 0, 2)) (val := (1, 6, 0)) (by rfl) (by decide) (by decide) (by show ((727 + nn : Nat) : Int) = ν' 11; omega) rfl
      have f3 : c_I h' 275 nn = ν' 7 + 0 := g'.rI (base := (2, 275, 0)) (slot := (1, 10, 0)) (val := (1, 7, 0)) (by rfl) (by decide) (by decide) rfl (by show (nn : Int) = ν' 10 + 0; omega)
      have d3 : c_I h' (727 + nn) 3 = ν' 7 + 0 := g'.rI (base := (3, 11, 0)) (slot := (0, 0, 3)) (val := (1, 7, 0)) (by rfl) (by decide) (by decide) (by show ((727 + nn : Nat) : Int) = ν' 11; omega) rfl
      have f4 : c_I h' 276 nn = ν' 8 + 0 := g'.rI (base := (2, 276, 0)) (slot := (1, 10, 0)) (val := (1, 8, 0)) (by rfl) (by decide) (by decide) rfl (by show (nn : Int) = ν' 10 + 0; omega)
      have d4 : c_I h' (727 + nn) 4 = ν' 8 + 0 := g'.rI (base := (3, 11, 0)) (slot := (0, 0, 4)) (val := (1, 8, 0)) (by rfl) (by decide) (by decide) (by show ((727 + nn : Nat) : Int) = ν' 11; omega) rfl
      exact ⟨c_Fx_frm H (show b_frm c_K c_sSellM.2.2.1 h h' from g'.2.2.2.2.2) (by decide +kernel) R.1, c_RW_frm H (show b_frm c_K c_sSellM.2.2.1 h h' from g'.2.2.2.2.2) (by decide +kernel) R.2.1, (fun i hi => by rw [(show b_frm c_K c_sSellM.2.2.1 h h' from g'.2.2.2.2.2).k H c_ra726 c_rq104 (by decide) (by decide +kernel)]; exact RQ.1 i hi), by omega, by omega, by omega, by omega, by omega, by omega, by omega, by omega, by omega, by omega, by omega⟩) b_al.n)
  refine c_res.mono (c_res.all hp (P := fun (i : Nat) (h' : AH) => (i : Int) < ν 3 → c_I h' 272 i = c_I h 272 i ∧ c_I h' 273 i = c_I h 273 i ∧ c_I h' 274 i = c_I h 274 i ∧ c_I h' 275 i = c_I h 275 i ∧ c_I h' 276 i = c_I h 276 i ∧ c_I h' (727 + i) 0 = c_I h (727 + i) 0 ∧ c_I h' (727 + i) 1 = c_I h (727 + i) 1 ∧ c_I h' (727 + i) 2 = c_I h (727 + i) 2 ∧ c_I h' (727 + i) 3 = c_I h (727 + i) 3 ∧ c_I h' (727 + i) 4 = c_I h (727 + i) 4) (n := 40) main (fun i hi => ?_)) (fun h' q => ?_)
  · by_cases l : (i : Int) < ν 3
    · obtain ⟨r0, r1, r2, r3, r4⟩ := RQ.2.1 i hi (by rw [nD]; omega)
      obtain ⟨z0, ez0, z01, z02⟩ := H.rdI (a := 272) (j := i) (lo := 0) (hi := 19) c_ra272 c_rq42 (by decide) hi rfl
      obtain ⟨m0, em0, -, -⟩ := H.rdI (a := 727 + i) (j := 0) (lo := 0) (hi := 99) (sRow i hi) c_rq105 (by decide) (by decide) rfl
      have rz0 : z0.toInt = m0.toInt := ((c_I_of ez0).symm.trans r0).trans (c_I_of em0)
      obtain ⟨z1, ez1, z11, z12⟩ := H.rdI (a := 273) (j := i) (lo := 0) (hi := 9) c_ra273 c_rq43 (by decide) hi rfl
      obtain ⟨m1, em1, -, -⟩ := H.rdI (a := 727 + i) (j := 1) (lo := 0) (hi := 99) (sRow i hi) c_rq105 (by decide) (by decide) rfl
      have rz1 : z1.toInt = m1.toInt := ((c_I_of ez1).symm.trans r1).trans (c_I_of em1)
      obtain ⟨z2, ez2, z21, z22⟩ := H.rdI (a := 274) (j := i) (lo := 0) (hi := 99) c_ra274 c_rq44 (by decide) hi rfl
      obtain ⟨m2, em2, -, -⟩ := H.rdI (a := 727 + i) (j := 2) (lo := 0) (hi := 99) (sRow i hi) c_rq105 (by decide) (by decide) rfl
      have rz2 : z2.toInt = m2.toInt := ((c_I_of ez2).symm.trans r2).trans (c_I_of em2)
      obtain ⟨z3, ez3, z31, z32⟩ := H.rdI (a := 275) (j := i) (lo := 0) (hi := 99) c_ra275 c_rq45 (by decide) hi rfl
      obtain ⟨m3, em3, -, -⟩ := H.rdI (a := 727 + i) (j := 3) (lo := 0) (hi := 99) (sRow i hi) c_rq105 (by decide) (by decide) rfl
      have rz3 : z3.toInt = m3.toInt := ((c_I_of ez3).symm.trans r3).trans (c_I_of em3)
      obtain ⟨z4, ez4, z41, z42⟩ := H.rdI (a := 276) (j := i) (lo := 0) (hi := 9) c_ra276 c_rq46 (by decide) hi rfl
      obtain ⟨m4, em4, -, -⟩ := H.rdI (a := 727 + i) (j := 4) (lo := 0) (hi := 99) (sRow i hi) c_rq105 (by decide) (by decide) rfl
      have rz4 : z4.toInt = m4.toInt := ((c_I_of ez4).symm.trans r4).trans (c_I_of em4)
      generalize hν : (fun n => match n with
        | 4 => xa.toInt
        | 5 => xb.toInt
        | 6 => xc.toInt
        | 7 => xd.toInt
        | 8 => xe.toInt
        | 9 => ((17 + k : Nat) : Int)
        | 10 => c.toInt
        | 11 => ((727 + nn : Nat) : Int)
        | 12 => (i : Int)
        | 13 => ((727 + i : Nat) : Int)
        | 14 => z0.toInt
        | 15 => z1.toInt
        | 16 => z2.toInt
        | 17 => z3.toInt
        | 18 => z4.toInt
        | n => ν n : BN) = ν2
      have hx : ∀ n, n < 4 → ν2 n = ν n := fun n hn => by
        rw [← hν]
        rcases n with _ | _ | _ | _ | n <;> first | rfl | (exfalso; omega)
      have u0 : ν2 0 = ν 0 := hx 0 (by decide)
      have u1 : ν2 1 = ν 1 := hx 1 (by decide)
      have u2 : ν2 2 = ν 2 := hx 2 (by decide)
      have u3 : ν2 3 = ν 3 := hx 3 (by decide)
      have u4 : ν2 4 = xa.toInt := by subst hν; rfl
      have u5 : ν2 5 = xb.toInt := by subst hν; rfl
      have u6 : ν2 6 = xc.toInt := by subst hν; rfl
      have u7 : ν2 7 = xd.toInt := by subst hν; rfl
      have u8 : ν2 8 = xe.toInt := by subst hν; rfl
      have u9 : ν2 9 = ((17 + k : Nat) : Int) := by subst hν; rfl
      have u10 : ν2 10 = c.toInt := by subst hν; rfl
      have u11 : ν2 11 = ((727 + nn : Nat) : Int) := by subst hν; rfl
      have u12 : ν2 12 = (i : Int) := by subst hν; rfl
      have u13 : ν2 13 = ((727 + i : Nat) : Int) := by subst hν; rfl
      have u14 : ν2 14 = z0.toInt := by subst hν; rfl
      have u15 : ν2 15 = z1.toInt := by subst hν; rfl
      have u16 : ν2 16 = z2.toInt := by subst hν; rfl
      have u17 : ν2 17 = z3.toInt := by subst hν; rfl
      have u18 : ν2 18 = z4.toInt := by subst hν; rfl
      have g2 := g.ad (ν' := ν2) (E' := [(0, 0, 19), (0, 0, 9), (0, 0, 99), (0, 0, 99), (0, 0, 9), (4, 0, 0), (0, 0, 39), (106, 0, 0), (0, 0, 39), (106, 0, 0), (0, 0, 99), (0, 0, 99), (0, 0, 99), (0, 0, 99), (0, 0, 99)]) (F' := [((2, 0, 0), (1, 0, 1), (1, 4, 0)), ((2, 0, 0), (1, 0, 2), (1, 5, 0)), ((2, 0, 0), (1, 0, 3), (1, 6, 0)), ((2, 0, 0), (1, 0, 4), (1, 7, 0)), ((2, 0, 0), (1, 0, 5), (1, 8, 0)), ((2, 3, 0), (1, 4, 0), (3, 9, 0)), ((3, 9, 0), (0, 0, 4), (0, 0, 0)), ((2, 372, 0), (1, 4, 0), (0, 0, 0)), ((2, 271, 0), (0, 0, 5), (1, 10, 0)), ((2, 365, 0), (0, 0, 52), (1, 10, 0)), ((2, 726, 0), (1, 10, 0), (3, 11, 0)), ((2, 272, 0), (1, 12, 0), (1, 14, 0)), ((2, 273, 0), (1, 12, 0), (1, 15, 0)), ((2, 274, 0), (1, 12, 0), (1, 16, 0)), ((2, 275, 0), (1, 12, 0), (1, 17, 0)), ((2, 276, 0), (1, 12, 0), (1, 18, 0)), ((3, 13, 0), (0, 0, 0), (1, 14, 0)), ((3, 13, 0), (0, 0, 1), (1, 15, 0)), ((3, 13, 0), (0, 0, 2), (1, 16, 0)), ((3, 13, 0), (0, 0, 3), (1, 17, 0)), ((3, 13, 0), (0, 0, 4), (1, 18, 0)), ((2, 726, 0), (1, 12, 0), (3, 13, 0))]) (C' := [(4, 2, (-1)), (6, 7, 0), (12, 10, (-1)), (13, 11, (-1)), (0, 0, 2), (0, 0, 1)]) hx
        ⟨(by show b_q _ _ (ν2 4); rw [u4]; exact b_q.i (by omega) (by omega)), (by show b_q _ _ (ν2 5); rw [u5]; exact b_q.i (by omega) (by omega)), (by show b_q _ _ (ν2 6); rw [u6]; exact b_q.i (by omega) (by omega)), (by show b_q _ _ (ν2 7); rw [u7]; exact b_q.i (by omega) (by omega)), (by show b_q _ _ (ν2 8); rw [u8]; exact b_q.i (by omega) (by omega)), (by show b_q _ _ (ν2 9); rw [u9]; exact b_q.r (c_gF k hkn)), (by show b_q _ _ (ν2 10); rw [u10]; exact b_q.i (by omega) (by omega)), (by show b_q _ _ (ν2 11); rw [u11]; exact b_q.r (sRow nn hn40)), (by show b_q _ _ (ν2 12); rw [u12]; exact b_q.i (by omega) (by omega)), (by show b_q _ _ (ν2 13); rw [u13]; exact b_q.r (sRow i hi)), (by show b_q _ _ (ν2 14); rw [u14]; exact b_q.i (by omega) (by omega)), (by show b_q _ _ (ν2 15); rw [u15]; exact b_q.i (by omega) (by omega)), (by show b_q _ _ (ν2 16); rw [u16]; exact b_q.i (by omega) (by omega)), (by show b_q _ _ (ν2 17); rw [u17]; exact b_q.i (by omega) (by omega)), (by show b_q _ _ (ν2 18); rw [u18]; exact b_q.i (by omega) (by omega)), trivial⟩
        ⟨b_fa.mk e1 (Or.inl ⟨rfl, rfl⟩) (Or.inr ⟨rfl, by decide, by show _ = ν2 0 + 1; omega⟩) (Or.inr ⟨rfl, by decide, by show _ = ν2 4 + 0; omega⟩), b_fa.mk e2 (Or.inl ⟨rfl, rfl⟩) (Or.inr ⟨rfl, by decide, by show _ = ν2 0 + 2; omega⟩) (Or.inr ⟨rfl, by decide, by show _ = ν2 5 + 0; omega⟩), b_fa.mk e3 (Or.inl ⟨rfl, rfl⟩) (Or.inr ⟨rfl, by decide, by show _ = ν2 0 + 3; omega⟩) (Or.inr ⟨rfl, by decide, by show _ = ν2 6 + 0; omega⟩), b_fa.mk e4 (Or.inl ⟨rfl, rfl⟩) (Or.inr ⟨rfl, by decide, by show _ = ν2 0 + 4; omega⟩) (Or.inr ⟨rfl, by decide, by show _ = ν2 7 + 0; omega⟩), b_fa.mk e5 (Or.inl ⟨rfl, rfl⟩) (Or.inr ⟨rfl, by decide, by show _ = ν2 0 + 5; omega⟩) (Or.inr ⟨rfl, by decide, by show _ = ν2 8 + 0; omega⟩), b_fa.mk (R.1.1 k hkn) (Or.inl ⟨rfl, rfl⟩) (Or.inr ⟨rfl, by decide, by show _ = ν2 4 + 0; omega⟩) (Or.inr ⟨rfl, by decide, by show _ = ν2 9; omega⟩), b_fa.mk ey (Or.inr ⟨rfl, by decide, by show _ = ν2 9; omega⟩) (Or.inl ⟨rfl, rfl⟩) (Or.inl ⟨rfl, by show _ = (0 : Int); omega⟩), b_fa.mk ew (Or.inl ⟨rfl, rfl⟩) (Or.inr ⟨rfl, by decide, by show _ = ν2 4 + 0; omega⟩) (Or.inl ⟨rfl, by show _ = (0 : Int); omega⟩), b_fa.mk ec (Or.inl ⟨rfl, rfl⟩) (Or.inl ⟨rfl, rfl⟩) (Or.inr ⟨rfl, by decide, by show _ = ν2 10 + 0; omega⟩), b_fa.mk ecm (Or.inl ⟨rfl, rfl⟩) (Or.inl ⟨rfl, rfl⟩) (Or.inr ⟨rfl, by decide, by show _ = ν2 10 + 0; omega⟩), b_fa.mk (RQ.1 nn hn40) (Or.inl ⟨rfl, rfl⟩) (Or.inr ⟨rfl, by decide, by show _ = ν2 10 + 0; omega⟩) (Or.inr ⟨rfl, by decide, by show _ = ν2 11; omega⟩), b_fa.mk ez0 (Or.inl ⟨rfl, rfl⟩) (Or.inr ⟨rfl, by decide, by show _ = ν2 12 + 0; omega⟩) (Or.inr ⟨rfl, by decide, by show _ = ν2 14 + 0; omega⟩), b_fa.mk ez1 (Or.inl ⟨rfl, rfl⟩) (Or.inr ⟨rfl, by decide, by show _ = ν2 12 + 0; omega⟩) (Or.inr ⟨rfl, by decide, by show _ = ν2 15 + 0; omega⟩), b_fa.mk ez2 (Or.inl ⟨rfl, rfl⟩) (Or.inr ⟨rfl, by decide, by show _ = ν2 12 + 0; omega⟩) (Or.inr ⟨rfl, by decide, by show _ = ν2 16 + 0; omega⟩), b_fa.mk ez3 (Or.inl ⟨rfl, rfl⟩) (Or.inr ⟨rfl, by decide, by show _ = ν2 12 + 0; omega⟩) (Or.inr ⟨rfl, by decide, by show _ = ν2 17 + 0; omega⟩), b_fa.mk ez4 (Or.inl ⟨rfl, rfl⟩) (Or.inr ⟨rfl, by decide, by show _ = ν2 12 + 0; omega⟩) (Or.inr ⟨rfl, by decide, by show _ = ν2 18 + 0; omega⟩), b_fa.mk em0 (Or.inr ⟨rfl, by decide, by show _ = ν2 13; omega⟩) (Or.inl ⟨rfl, rfl⟩) (Or.inr ⟨rfl, by decide, by show _ = ν2 14 + 0; omega⟩), b_fa.mk em1 (Or.inr ⟨rfl, by decide, by show _ = ν2 13; omega⟩) (Or.inl ⟨rfl, rfl⟩) (Or.inr ⟨rfl, by decide, by show _ = ν2 15 + 0; omega⟩), b_fa.mk em2 (Or.inr ⟨rfl, by decide, by show _ = ν2 13; omega⟩) (Or.inl ⟨rfl, rfl⟩) (Or.inr ⟨rfl, by decide, by show _ = ν2 16 + 0; omega⟩), b_fa.mk em3 (Or.inr ⟨rfl, by decide, by show _ = ν2 13; omega⟩) (Or.inl ⟨rfl, rfl⟩) (Or.inr ⟨rfl, by decide, by show _ = ν2 17 + 0; omega⟩), b_fa.mk em4 (Or.inr ⟨rfl, by decide, by show _ = ν2 13; omega⟩) (Or.inl ⟨rfl, rfl⟩) (Or.inr ⟨rfl, by decide, by show _ = ν2 18 + 0; omega⟩), b_fa.mk (RQ.1 i hi) (Or.inl ⟨rfl, rfl⟩) (Or.inr ⟨rfl, by decide, by show _ = ν2 12 + 0; omega⟩) (Or.inr ⟨rfl, by decide, by show _ = ν2 13; omega⟩), trivial⟩
        ⟨⟨by decide, by decide, by show ν2 4 ≤ ν2 2 + (-1); omega⟩, ⟨by decide, by decide, by show ν2 6 ≤ ν2 7 + 0; omega⟩, ⟨by decide, by decide, by show ν2 12 ≤ ν2 10 + (-1); omega⟩, ⟨by decide, by decide, by show ν2 13 ≤ ν2 11 + (-1); omega⟩, ⟨by decide, by decide, by show ν2 0 ≤ ν2 0 + 2; omega⟩, ⟨by decide, by decide, by show ν2 0 ≤ ν2 0 + 1; omega⟩, trivial⟩
      exact c_spR (b_orcS_ok c_hJ (List.forall_mem_cons.mpr ⟨(c_vrSold0 H (by decide) u4 u5 u6 u7 (by omega) (by omega) (by omega) (by omega) (by omega) (by omega) (by omega) (by omega) no), (List.forall_mem_cons.mpr ⟨(c_vrSellm H (by decide) u4 u5 u6 u7 u8 (by omega) (by omega) (by omega) (by omega) (by omega) (by omega) (by omega) (by omega) (by omega) (by omega) RQ.1 (by rw [nF]; omega) (by omega) (by rw [show xa.toInt.toNat = k by omega, c_I_of ew]; omega) noM (by rw [nM]; omega) (by rw [nM]; omega) (by rw [← (show 727 + nn = 727 + (c_I h 365 52).toNat by rw [nM]; omega)]; exact u11) (i := i) (by rw [nM]; omega) u13 (fun q hq => by
        match q, hq with
        | 0, _ => exact u14.trans ((c_I_of ez0).symm.trans r0)
        | 1, _ => exact u15.trans ((c_I_of ez1).symm.trans r1)
        | 2, _ => exact u16.trans ((c_I_of ez2).symm.trans r2)
        | 3, _ => exact u17.trans ((c_I_of ez3).symm.trans r3)
        | 4, _ => exact u18.trans ((c_I_of ez4).symm.trans r4)
        | q + 5, hq => omega)), (fun _ h => absurd h List.not_mem_nil)⟩)⟩) (tab := [c_r72w, c_r249w, c_r249o, c_r72]) (List.forall_mem_cons.mpr ⟨c_v72w, List.forall_mem_cons.mpr ⟨c_v249w, List.forall_mem_cons.mpr ⟨c_v249o, List.forall_mem_cons.mpr ⟨c_v72, fun _ h => absurd h List.not_mem_nil⟩⟩⟩⟩) 3000 12) c_sSellLC c_sSellLB hl hx (Q := fun h' => (fun (i : Nat) (h' : AH) => (i : Int) < ν 3 → c_I h' 272 i = c_I h 272 i ∧ c_I h' 273 i = c_I h 273 i ∧ c_I h' 274 i = c_I h 274 i ∧ c_I h' 275 i = c_I h 275 i ∧ c_I h' 276 i = c_I h 276 i ∧ c_I h' (727 + i) 0 = c_I h (727 + i) 0 ∧ c_I h' (727 + i) 1 = c_I h (727 + i) 1 ∧ c_I h' (727 + i) 2 = c_I h (727 + i) 2 ∧ c_I h' (727 + i) 3 = c_I h (727 + i) 3 ∧ c_I h' (727 + i) 4 = c_I h (727 + i) 4) i h') g2 (b_al.c (fun ν' h' x' g' => fun _ => by
        have k20 : ν' 12 = ν2 12 := x'.2 12 (by decide)
        have k21 : ν' 13 = ν2 13 := x'.2 13 (by decide)
        have k22 : ν' 14 = ν2 14 := x'.2 14 (by decide)
        have k23 : ν' 15 = ν2 15 := x'.2 15 (by decide)
        have k24 : ν' 16 = ν2 16 := x'.2 16 (by decide)
        have k25 : ν' 17 = ν2 17 := x'.2 17 (by decide)
        have k26 : ν' 18 = ν2 18 := x'.2 18 (by decide)
        have f0 : c_I h' 272 i = ν' 14 + 0 := g'.rI (base := (2, 272, 0)) (slot := (1, 12, 0)) (val := (1, 14, 0)) (by rfl) (by decide) (by decide) rfl (by show (i : Int) = ν' 12 + 0; omega)
        have d0 : c_I h' (727 + i) 0 = ν' 14 + 0 := g'.rI (base := (3, 13, 0)) (slot := (0, 0, 0)) (val := (1, 14, 0)) (by rfl) (by decide) (by decide) (by show ((727 + i : Nat) : Int) = ν' 13; omega) rfl
        have f1 : c_I h' 273 i = ν' 15 + 0 := g'.rI (base := (2, 273, 0)) (slot := (1, 12, 0)) (val := (1, 15, 0)) (by rfl) (by decide) (by decide) rfl (by show (i : Int) = ν' 12 + 0; omega)
        have d1 : c_I h' (727 + i) 1 = ν' 15 + 0 := g'.rI (base := (3, 13, 0)) (slot := (0, 0, 1)) (val := (1, 15, 0)) (by rfl) (by decide) (by decide) (by show ((727 + i : Nat) : Int) = ν' 13; omega) rfl
        have f2 : c_I h' 274 i = ν' 16 + 0 := g'.rI (base := (2, 274, 0)) (slot := (1, 12, 0)) (val := (1, 16, 0)) (by rfl) (by decide) (by decide) rfl (by show (i : Int) = ν' 12 + 0; omega)
        have d2 : c_I h' (727 + i) 2 = ν' 16 + 0 := g'.rI (base := (3, 13, 0)) (slot := (0, 0, 2)) (val := (1, 16, 0)) (by rfl) (by decide) (by decide) (by show ((727 + i : Nat) : Int) = ν' 13; omega) rfl
        have f3 : c_I h' 275 i = ν' 17 + 0 := g'.rI (base := (2, 275, 0)) (slot := (1, 12, 0)) (val := (1, 17, 0)) (by rfl) (by decide) (by decide) rfl (by show (i : Int) = ν' 12 + 0; omega)
        have d3 : c_I h' (727 + i) 3 = ν' 17 + 0 := g'.rI (base := (3, 13, 0)) (slot := (0, 0, 3)) (val := (1, 17, 0)) (by rfl) (by decide) (by decide) (by show ((727 + i : Nat) : Int) = ν' 13; omega) rfl
        have f4 : c_I h' 276 i = ν' 18 + 0 := g'.rI (base := (2, 276, 0)) (slot := (1, 12, 0)) (val := (1, 18, 0)) (by rfl) (by decide) (by decide) rfl (by show (i : Int) = ν' 12 + 0; omega)
        have d4 : c_I h' (727 + i) 4 = ν' 18 + 0 := g'.rI (base := (3, 13, 0)) (slot := (0, 0, 4)) (val := (1, 18, 0)) (by rfl) (by decide) (by decide) (by show ((727 + i : Nat) : Int) = ν' 13; omega) rfl
        exact ⟨by rw [c_I_of ez0]; omega, by rw [c_I_of ez1]; omega, by rw [c_I_of ez2]; omega, by rw [c_I_of ez3]; omega, by rw [c_I_of ez4]; omega, by rw [c_I_of em0]; omega, by rw [c_I_of em1]; omega, by rw [c_I_of em2]; omega, by rw [c_I_of em3]; omega, by rw [c_I_of em4]; omega⟩) b_al.n)
    · exact main.mono (fun h' _ c => absurd c l)
  · obtain ⟨⟨qF, qW, qL, qN, a0, a1, a2, a3, a4, b0, b1, b2, b3, b4⟩, G⟩ := q
    refine ⟨qF, qW, ?_⟩
    refine ⟨qL, fun i hi l => ?_, fun i k' hik hk' l => ?_⟩
    · rw [qN] at l
      by_cases c : (i : Int) < ν 3
      · obtain ⟨p0, p1, p2, p3, p4, s0, s1, s2, s3, s4⟩ := G i hi c
        rw [p0, p1, p2, p3, p4, s0, s1, s2, s3, s4]
        exact RQ.2.1 i hi (by rw [nD]; omega)
      · have en : i = nn := by omega
        rw [en, a0, a1, a2, a3, a4, b0, b1, b2, b3, b4]
        exact ⟨rfl, rfl, rfl, rfl, rfl⟩
    · rw [qN] at l
      obtain ⟨p0, p1, p2, p3, p4, -⟩ := G i (by omega) (by omega)
      by_cases c : (k' : Int) < ν 3
      · obtain ⟨t0, t1, t2, t3, t4, -⟩ := G k' hk' c
        rw [p0, p1, p2, p3, t0, t1, t2, t3]
        exact RQ.2.2 i k' hik hk' (by rw [nD]; omega)
      · have en : k' = nn := by omega
        rw [en, p0, p1, p2, p3, a0, a1, a2, a3]
        rintro ⟨o3, o4, o5, o6⟩
        exact no i ⟨by omega, by rw [nD]; omega, o3, o4, o5, o6⟩
theorem c_g1860 : c_goal 1860 := by
  intro ν al h mc ms hl g R
  have H := g.2.2.2.2.1
  obtain ⟨xa, e1⟩ := c_scr g (j := 1) (by decide)
  have b1 := b_32 xa
  obtain ⟨xb, e2⟩ := c_scr g (j := 2) (by decide)
  have b2 := b_32 xb
  obtain ⟨xc, e3⟩ := c_scr g (j := 3) (by decide)
  have b3 := b_32 xc
  have i0 := g.iv 0 (lo := 0) (hi := 3072) rfl
  have i1 := g.iv 1 (lo := 0) (hi := 3072) rfl
  have i2 := g.iv 2 (lo := 0) (hi := 20) rfl
  have i3 := g.iv 3 (lo := 0) (hi := 40) rfl
  have hp : 1860 ≠ 28 := by decide
  have hO := b_orc_ok (K := c_K) c_hJ (tab := [c_r73]) (List.forall_mem_cons.mpr ⟨c_v73, fun _ h => absurd h List.not_mem_nil⟩) 3000 12
  by_cases h1 : xa.toInt < 0
  · generalize hν : (fun n => match n with
      | 4 => xa.toInt
      | n => ν n : BN) = ν2
    have hx : ∀ n, n < 4 → ν2 n = ν n := fun n hn => by
      rw [← hν]
      rcases n with _ | _ | _ | _ | n <;> first | rfl | (exfalso; omega)
    have u0 : ν2 0 = ν 0 := hx 0 (by decide)
    have u1 : ν2 1 = ν 1 := hx 1 (by decide)
    have u2 : ν2 2 = ν 2 := hx 2 (by decide)
    have u3 : ν2 3 = ν 3 := hx 3 (by decide)
    have u4 : ν2 4 = xa.toInt := by subst hν; rfl
    have g2 := g.ad (ν' := ν2) (E' := [(0, (-2147483648), (-1))]) (F' := [((2, 0, 0), (1, 0, 1), (1, 4, 0))]) (C' := [(0, 0, 1)]) hx
      ⟨(by show b_q _ _ (ν2 4); rw [u4]; exact b_q.i (by omega) (by omega)), trivial⟩
      ⟨b_fa.mk e1 (Or.inl ⟨rfl, rfl⟩) (Or.inr ⟨rfl, by decide, by show _ = ν2 0 + 1; omega⟩) (Or.inr ⟨rfl, by decide, by show _ = ν2 4 + 0; omega⟩), trivial⟩
      ⟨⟨by decide, by decide, by show ν2 0 ≤ ν2 0 + 1; omega⟩, trivial⟩
    exact c_sp hO c_sOwner1C c_sOwner1B hl hx (Q := c_Rel) g2 (b_al_of fun p hp ν' h' x' g' => c_Rel_frm H (show b_frm c_K c_sOwner1.2.2.1 h h' from g'.2.2.2.2.2) (by decide +kernel) R)
  by_cases h2 : ν 2 ≤ xa.toInt
  · generalize hν : (fun n => match n with
      | 4 => xa.toInt
      | n => ν n : BN) = ν2
    have hx : ∀ n, n < 4 → ν2 n = ν n := fun n hn => by
      rw [← hν]
      rcases n with _ | _ | _ | _ | n <;> first | rfl | (exfalso; omega)
    have u0 : ν2 0 = ν 0 := hx 0 (by decide)
    have u1 : ν2 1 = ν 1 := hx 1 (by decide)
    have u2 : ν2 2 = ν 2 := hx 2 (by decide)
    have u3 : ν2 3 = ν 3 := hx 3 (by decide)
    have u4 : ν2 4 = xa.toInt := by subst hν; rfl
    have g2 := g.ad (ν' := ν2) (E' := [(0, 0, 2147483647)]) (F' := [((2, 0, 0), (1, 0, 1), (1, 4, 0))]) (C' := [(2, 4, 0), (0, 0, 1)]) hx
      ⟨(by show b_q _ _ (ν2 4); rw [u4]; exact b_q.i (by omega) (by omega)), trivial⟩
      ⟨b_fa.mk e1 (Or.inl ⟨rfl, rfl⟩) (Or.inr ⟨rfl, by decide, by show _ = ν2 0 + 1; omega⟩) (Or.inr ⟨rfl, by decide, by show _ = ν2 4 + 0; omega⟩), trivial⟩
      ⟨⟨by decide, by decide, by show ν2 2 ≤ ν2 4 + 0; omega⟩, ⟨by decide, by decide, by show ν2 0 ≤ ν2 0 + 1; omega⟩, trivial⟩
    exact c_sp hO c_sOwner2C c_sOwner2B hl hx (Q := c_Rel) g2 (b_al_of fun p hp ν' h' x' g' => c_Rel_frm H (show b_frm c_K c_sOwner2.2.2.1 h h' from g'.2.2.2.2.2) (by decide +kernel) R)
  by_cases hc : xb.toInt < 0
  · generalize hν : (fun n => match n with
      | 4 => xa.toInt
      | 5 => xb.toInt
      | 6 => xc.toInt
      | n => ν n : BN) = ν2
    have hx : ∀ n, n < 4 → ν2 n = ν n := fun n hn => by
      rw [← hν]
      rcases n with _ | _ | _ | _ | n <;> first | rfl | (exfalso; omega)
    have u0 : ν2 0 = ν 0 := hx 0 (by decide)
    have u1 : ν2 1 = ν 1 := hx 1 (by decide)
    have u2 : ν2 2 = ν 2 := hx 2 (by decide)
    have u3 : ν2 3 = ν 3 := hx 3 (by decide)
    have u4 : ν2 4 = xa.toInt := by subst hν; rfl
    have u5 : ν2 5 = xb.toInt := by subst hν; rfl
    have u6 : ν2 6 = xc.toInt := by subst hν; rfl
    have g2 := g.ad (ν' := ν2) (E' := [(0, 0, 19), (0, (-2147483648), (-1)), (0, (-2147483648), 2147483647)]) (F' := [((2, 0, 0), (1, 0, 1), (1, 4, 0)), ((2, 0, 0), (1, 0, 2), (1, 5, 0)), ((2, 0, 0), (1, 0, 3), (1, 6, 0))]) (C' := [(4, 2, (-1)), (0, 0, 1)]) hx
      ⟨(by show b_q _ _ (ν2 4); rw [u4]; exact b_q.i (by omega) (by omega)), (by show b_q _ _ (ν2 5); rw [u5]; exact b_q.i (by omega) (by omega)), (by show b_q _ _ (ν2 6); rw [u6]; exact b_q.i (by omega) (by omega)), trivial⟩
      ⟨b_fa.mk e1 (Or.inl ⟨rfl, rfl⟩) (Or.inr ⟨rfl, by decide, by show _ = ν2 0 + 1; omega⟩) (Or.inr ⟨rfl, by decide, by show _ = ν2 4 + 0; omega⟩), b_fa.mk e2 (Or.inl ⟨rfl, rfl⟩) (Or.inr ⟨rfl, by decide, by show _ = ν2 0 + 2; omega⟩) (Or.inr ⟨rfl, by decide, by show _ = ν2 5 + 0; omega⟩), b_fa.mk e3 (Or.inl ⟨rfl, rfl⟩) (Or.inr ⟨rfl, by decide, by show _ = ν2 0 + 3; omega⟩) (Or.inr ⟨rfl, by decide, by show _ = ν2 6 + 0; omega⟩), trivial⟩
      ⟨⟨by decide, by decide, by show ν2 4 ≤ ν2 2 + (-1); omega⟩, ⟨by decide, by decide, by show ν2 0 ≤ ν2 0 + 1; omega⟩, trivial⟩
    exact c_sp hO c_sOwnercC c_sOwnercB hl hx (Q := c_Rel) g2 (b_al_of fun p hp ν' h' x' g' => c_Rel_frm H (show b_frm c_K c_sOwnerc.2.2.1 h h' from g'.2.2.2.2.2) (by decide +kernel) R)
  by_cases hd : 9 < xb.toInt
  · generalize hν : (fun n => match n with
      | 4 => xa.toInt
      | 5 => xb.toInt
      | 6 => xc.toInt
      | n => ν n : BN) = ν2
    have hx : ∀ n, n < 4 → ν2 n = ν n := fun n hn => by
      rw [← hν]
      rcases n with _ | _ | _ | _ | n <;> first | rfl | (exfalso; omega)
    have u0 : ν2 0 = ν 0 := hx 0 (by decide)
    have u1 : ν2 1 = ν 1 := hx 1 (by decide)
    have u2 : ν2 2 = ν 2 := hx 2 (by decide)
    have u3 : ν2 3 = ν 3 := hx 3 (by decide)
    have u4 : ν2 4 = xa.toInt := by subst hν; rfl
    have u5 : ν2 5 = xb.toInt := by subst hν; rfl
    have u6 : ν2 6 = xc.toInt := by subst hν; rfl
    have g2 := g.ad (ν' := ν2) (E' := [(0, 0, 19), (0, 10, 2147483647), (0, (-2147483648), 2147483647)]) (F' := [((2, 0, 0), (1, 0, 1), (1, 4, 0)), ((2, 0, 0), (1, 0, 2), (1, 5, 0)), ((2, 0, 0), (1, 0, 3), (1, 6, 0))]) (C' := [(4, 2, (-1)), (0, 0, 1)]) hx
      ⟨(by show b_q _ _ (ν2 4); rw [u4]; exact b_q.i (by omega) (by omega)), (by show b_q _ _ (ν2 5); rw [u5]; exact b_q.i (by omega) (by omega)), (by show b_q _ _ (ν2 6); rw [u6]; exact b_q.i (by omega) (by omega)), trivial⟩
      ⟨b_fa.mk e1 (Or.inl ⟨rfl, rfl⟩) (Or.inr ⟨rfl, by decide, by show _ = ν2 0 + 1; omega⟩) (Or.inr ⟨rfl, by decide, by show _ = ν2 4 + 0; omega⟩), b_fa.mk e2 (Or.inl ⟨rfl, rfl⟩) (Or.inr ⟨rfl, by decide, by show _ = ν2 0 + 2; omega⟩) (Or.inr ⟨rfl, by decide, by show _ = ν2 5 + 0; omega⟩), b_fa.mk e3 (Or.inl ⟨rfl, rfl⟩) (Or.inr ⟨rfl, by decide, by show _ = ν2 0 + 3; omega⟩) (Or.inr ⟨rfl, by decide, by show _ = ν2 6 + 0; omega⟩), trivial⟩
      ⟨⟨by decide, by decide, by show ν2 4 ≤ ν2 2 + (-1); omega⟩, ⟨by decide, by decide, by show ν2 0 ≤ ν2 0 + 1; omega⟩, trivial⟩
    exact c_sp hO c_sOwnerdC c_sOwnerdB hl hx (Q := c_Rel) g2 (b_al_of fun p hp ν' h' x' g' => c_Rel_frm H (show b_frm c_K c_sOwnerd.2.2.1 h h' from g'.2.2.2.2.2) (by decide +kernel) R)
  by_cases he : xc.toInt < 0
  · generalize hν : (fun n => match n with
      | 4 => xa.toInt
      | 5 => xb.toInt
      | 6 => xc.toInt
      | n => ν n : BN) = ν2
    have hx : ∀ n, n < 4 → ν2 n = ν n := fun n hn => by
      rw [← hν]
      rcases n with _ | _ | _ | _ | n <;> first | rfl | (exfalso; omega)
    have u0 : ν2 0 = ν 0 := hx 0 (by decide)
    have u1 : ν2 1 = ν 1 := hx 1 (by decide)
    have u2 : ν2 2 = ν 2 := hx 2 (by decide)
    have u3 : ν2 3 = ν 3 := hx 3 (by decide)
    have u4 : ν2 4 = xa.toInt := by subst hν; rfl
    have u5 : ν2 5 = xb.toInt := by subst hν; rfl
    have u6 : ν2 6 = xc.toInt := by subst hν; rfl
    have g2 := g.ad (ν' := ν2) (E' := [(0, 0, 19), (0, (-2147483648), 2147483647), (0, (-2147483648), (-1))]) (F' := [((2, 0, 0), (1, 0, 1), (1, 4, 0)), ((2, 0, 0), (1, 0, 2), (1, 5, 0)), ((2, 0, 0), (1, 0, 3), (1, 6, 0))]) (C' := [(4, 2, (-1)), (0, 0, 1)]) hx
      ⟨(by show b_q _ _ (ν2 4); rw [u4]; exact b_q.i (by omega) (by omega)), (by show b_q _ _ (ν2 5); rw [u5]; exact b_q.i (by omega) (by omega)), (by show b_q _ _ (ν2 6); rw [u6]; exact b_q.i (by omega) (by omega)), trivial⟩
      ⟨b_fa.mk e1 (Or.inl ⟨rfl, rfl⟩) (Or.inr ⟨rfl, by decide, by show _ = ν2 0 + 1; omega⟩) (Or.inr ⟨rfl, by decide, by show _ = ν2 4 + 0; omega⟩), b_fa.mk e2 (Or.inl ⟨rfl, rfl⟩) (Or.inr ⟨rfl, by decide, by show _ = ν2 0 + 2; omega⟩) (Or.inr ⟨rfl, by decide, by show _ = ν2 5 + 0; omega⟩), b_fa.mk e3 (Or.inl ⟨rfl, rfl⟩) (Or.inr ⟨rfl, by decide, by show _ = ν2 0 + 3; omega⟩) (Or.inr ⟨rfl, by decide, by show _ = ν2 6 + 0; omega⟩), trivial⟩
      ⟨⟨by decide, by decide, by show ν2 4 ≤ ν2 2 + (-1); omega⟩, ⟨by decide, by decide, by show ν2 0 ≤ ν2 0 + 1; omega⟩, trivial⟩
    exact c_sp hO c_sOwnereC c_sOwnereB hl hx (Q := c_Rel) g2 (b_al_of fun p hp ν' h' x' g' => c_Rel_frm H (show b_frm c_K c_sOwnere.2.2.1 h h' from g'.2.2.2.2.2) (by decide +kernel) R)
  by_cases hf : 99 < xc.toInt
  · generalize hν : (fun n => match n with
      | 4 => xa.toInt
      | 5 => xb.toInt
      | 6 => xc.toInt
      | n => ν n : BN) = ν2
    have hx : ∀ n, n < 4 → ν2 n = ν n := fun n hn => by
      rw [← hν]
      rcases n with _ | _ | _ | _ | n <;> first | rfl | (exfalso; omega)
    have u0 : ν2 0 = ν 0 := hx 0 (by decide)
    have u1 : ν2 1 = ν 1 := hx 1 (by decide)
    have u2 : ν2 2 = ν 2 := hx 2 (by decide)
    have u3 : ν2 3 = ν 3 := hx 3 (by decide)
    have u4 : ν2 4 = xa.toInt := by subst hν; rfl
    have u5 : ν2 5 = xb.toInt := by subst hν; rfl
    have u6 : ν2 6 = xc.toInt := by subst hν; rfl
    have g2 := g.ad (ν' := ν2) (E' := [(0, 0, 19), (0, (-2147483648), 2147483647), (0, 100, 2147483647)]) (F' := [((2, 0, 0), (1, 0, 1), (1, 4, 0)), ((2, 0, 0), (1, 0, 2), (1, 5, 0)), ((2, 0, 0), (1, 0, 3), (1, 6, 0))]) (C' := [(4, 2, (-1)), (0, 0, 1)]) hx
      ⟨(by show b_q _ _ (ν2 4); rw [u4]; exact b_q.i (by omega) (by omega)), (by show b_q _ _ (ν2 5); rw [u5]; exact b_q.i (by omega) (by omega)), (by show b_q _ _ (ν2 6); rw [u6]; exact b_q.i (by omega) (by omega)), trivial⟩
      ⟨b_fa.mk e1 (Or.inl ⟨rfl, rfl⟩) (Or.inr ⟨rfl, by decide, by show _ = ν2 0 + 1; omega⟩) (Or.inr ⟨rfl, by decide, by show _ = ν2 4 + 0; omega⟩), b_fa.mk e2 (Or.inl ⟨rfl, rfl⟩) (Or.inr ⟨rfl, by decide, by show _ = ν2 0 + 2; omega⟩) (Or.inr ⟨rfl, by decide, by show _ = ν2 5 + 0; omega⟩), b_fa.mk e3 (Or.inl ⟨rfl, rfl⟩) (Or.inr ⟨rfl, by decide, by show _ = ν2 0 + 3; omega⟩) (Or.inr ⟨rfl, by decide, by show _ = ν2 6 + 0; omega⟩), trivial⟩
      ⟨⟨by decide, by decide, by show ν2 4 ≤ ν2 2 + (-1); omega⟩, ⟨by decide, by decide, by show ν2 0 ≤ ν2 0 + 1; omega⟩, trivial⟩
    exact c_sp hO c_sOwnerfC c_sOwnerfB hl hx (Q := c_Rel) g2 (b_al_of fun p hp ν' h' x' g' => c_Rel_frm H (show b_frm c_K c_sOwnerf.2.2.1 h h' from g'.2.2.2.2.2) (by decide +kernel) R)
  have RQ : c_RQ h := R.2.2
  have nD : c_I h 271 5 = ν 3 + 0 := g.rI (base := (2, 271, 0)) (slot := (0, 0, 5)) (val := (1, 3, 0)) (by rfl) (by decide) (by decide) rfl rfl
  have nM : c_I h 365 52 = ν 3 + 0 := g.rI (base := (2, 365, 0)) (slot := (0, 0, 52)) (val := (1, 3, 0)) (by rfl) (by decide) (by decide) rfl rfl
  have nF : c_I h 365 44 = ν 2 + 0 := g.rI (base := (2, 365, 0)) (slot := (0, 0, 44)) (val := (1, 2, 0)) (by rfl) (by decide) (by decide) rfl rfl
  have eq : c_I h 365 52 = c_I h 271 5 := nM.trans nD.symm
  obtain ⟨c, ec, c1, c2⟩ := H.rdI (a := 271) (j := 5) (lo := 0) (hi := 40) c_ra271 c_rq41 (by decide) (by decide) rfl
  obtain ⟨cm, ecm, cm1, cm2⟩ := H.rdI (a := 365) (j := 52) (lo := 0) (hi := 40) c_ra365 c_rq50 (by decide) (by decide) rfl
  have qD : c.toInt = ν 3 + 0 := (c_I_of ec).symm.trans nD
  have qM : cm.toInt = ν 3 + 0 := (c_I_of ecm).symm.trans nM
  by_cases hov : ∃ j, c_ov h xa.toInt xb.toInt xc.toInt xc.toInt j
  · obtain ⟨j, o⟩ := hov
    have oM := (c_ovQ RQ eq).mpr o
    obtain ⟨y, ey, y1, y2⟩ := H.rdI (a := 276) (j := j) (lo := 0) (hi := 9) c_ra276 c_rq46 (by decide) o.1 rfl
    obtain ⟨-, -, -, -, r4⟩ := RQ.2.1 j o.1 o.2.1
    generalize hν : (fun n => match n with
      | 4 => xa.toInt
      | 5 => xb.toInt
      | 6 => xc.toInt
      | 7 => y.toInt
      | n => ν n : BN) = ν2
    have hx : ∀ n, n < 4 → ν2 n = ν n := fun n hn => by
      rw [← hν]
      rcases n with _ | _ | _ | _ | n <;> first | rfl | (exfalso; omega)
    have u0 : ν2 0 = ν 0 := hx 0 (by decide)
    have u1 : ν2 1 = ν 1 := hx 1 (by decide)
    have u2 : ν2 2 = ν 2 := hx 2 (by decide)
    have u3 : ν2 3 = ν 3 := hx 3 (by decide)
    have u4 : ν2 4 = xa.toInt := by subst hν; rfl
    have u5 : ν2 5 = xb.toInt := by subst hν; rfl
    have u6 : ν2 6 = xc.toInt := by subst hν; rfl
    have u7 : ν2 7 = y.toInt := by subst hν; rfl
    have g2 := g.ad (ν' := ν2) (E' := [(0, 0, 19), (0, 0, 9), (0, 0, 99), (0, 0, 9)]) (F' := [((2, 0, 0), (1, 0, 1), (1, 4, 0)), ((2, 0, 0), (1, 0, 2), (1, 5, 0)), ((2, 0, 0), (1, 0, 3), (1, 6, 0))]) (C' := [(4, 2, (-1)), (0, 0, 2), (0, 0, 1)]) hx
      ⟨(by show b_q _ _ (ν2 4); rw [u4]; exact b_q.i (by omega) (by omega)), (by show b_q _ _ (ν2 5); rw [u5]; exact b_q.i (by omega) (by omega)), (by show b_q _ _ (ν2 6); rw [u6]; exact b_q.i (by omega) (by omega)), (by show b_q _ _ (ν2 7); rw [u7]; exact b_q.i (by omega) (by omega)), trivial⟩
      ⟨b_fa.mk e1 (Or.inl ⟨rfl, rfl⟩) (Or.inr ⟨rfl, by decide, by show _ = ν2 0 + 1; omega⟩) (Or.inr ⟨rfl, by decide, by show _ = ν2 4 + 0; omega⟩), b_fa.mk e2 (Or.inl ⟨rfl, rfl⟩) (Or.inr ⟨rfl, by decide, by show _ = ν2 0 + 2; omega⟩) (Or.inr ⟨rfl, by decide, by show _ = ν2 5 + 0; omega⟩), b_fa.mk e3 (Or.inl ⟨rfl, rfl⟩) (Or.inr ⟨rfl, by decide, by show _ = ν2 0 + 3; omega⟩) (Or.inr ⟨rfl, by decide, by show _ = ν2 6 + 0; omega⟩), trivial⟩
      ⟨⟨by decide, by decide, by show ν2 4 ≤ ν2 2 + (-1); omega⟩, ⟨by decide, by decide, by show ν2 0 ≤ ν2 0 + 2; omega⟩, ⟨by decide, by decide, by show ν2 0 ≤ ν2 0 + 1; omega⟩, trivial⟩
    exact c_spR (b_orcS_ok c_hJ (List.forall_mem_cons.mpr ⟨(c_vrBuy1 H (by decide) u4 u5 u6 (by omega) (by omega) (by omega) (by omega) (by omega) (by omega) o (fun i q => c_ov_one RQ q o) (by rw [c_I_of ey]; exact u7)), (List.forall_mem_cons.mpr ⟨(c_vrOwn1 H (by decide) u4 u5 u6 (by omega) (by omega) (by omega) (by omega) (by omega) (by omega) RQ.1 (by rw [nF]; omega) oM (fun i q => c_ov_one RQ ((c_ovQ RQ eq).mp q) o) (by rw [← r4, c_I_of ey]; exact u7)), (fun _ h => absurd h List.not_mem_nil)⟩)⟩) (tab := [c_r73]) (List.forall_mem_cons.mpr ⟨c_v73, fun _ h => absurd h List.not_mem_nil⟩) 3000 12) c_sOwnerwC c_sOwnerwB hl hx (Q := c_Rel) g2 (b_al_of fun p hp ν' h' x' g' => c_Rel_frm H (show b_frm c_K c_sOwnerw.2.2.1 h h' from g'.2.2.2.2.2) (by decide +kernel) R)
  have no : ∀ j, ¬ c_ov h xa.toInt xb.toInt xc.toInt xc.toInt j := fun j o => hov ⟨j, o⟩
  have noM : ∀ j, ¬ c_ovM h xa.toInt xb.toInt xc.toInt xc.toInt j := fun j o => hov ⟨j, (c_ovQ RQ eq).mp o⟩
  generalize hν : (fun n => match n with
    | 4 => xa.toInt
    | 5 => xb.toInt
    | 6 => xc.toInt
    | n => ν n : BN) = ν2
  have hx : ∀ n, n < 4 → ν2 n = ν n := fun n hn => by
    rw [← hν]
    rcases n with _ | _ | _ | _ | n <;> first | rfl | (exfalso; omega)
  have u0 : ν2 0 = ν 0 := hx 0 (by decide)
  have u1 : ν2 1 = ν 1 := hx 1 (by decide)
  have u2 : ν2 2 = ν 2 := hx 2 (by decide)
  have u3 : ν2 3 = ν 3 := hx 3 (by decide)
  have u4 : ν2 4 = xa.toInt := by subst hν; rfl
  have u5 : ν2 5 = xb.toInt := by subst hν; rfl
  have u6 : ν2 6 = xc.toInt := by subst hν; rfl
  have g2 := g.ad (ν' := ν2) (E' := [(0, 0, 19), (0, 0, 9), (0, 0, 99)]) (F' := [((2, 0, 0), (1, 0, 1), (1, 4, 0)), ((2, 0, 0), (1, 0, 2), (1, 5, 0)), ((2, 0, 0), (1, 0, 3), (1, 6, 0))]) (C' := [(4, 2, (-1)), (0, 0, 2), (0, 0, 1)]) hx
    ⟨(by show b_q _ _ (ν2 4); rw [u4]; exact b_q.i (by omega) (by omega)), (by show b_q _ _ (ν2 5); rw [u5]; exact b_q.i (by omega) (by omega)), (by show b_q _ _ (ν2 6); rw [u6]; exact b_q.i (by omega) (by omega)), trivial⟩
    ⟨b_fa.mk e1 (Or.inl ⟨rfl, rfl⟩) (Or.inr ⟨rfl, by decide, by show _ = ν2 0 + 1; omega⟩) (Or.inr ⟨rfl, by decide, by show _ = ν2 4 + 0; omega⟩), b_fa.mk e2 (Or.inl ⟨rfl, rfl⟩) (Or.inr ⟨rfl, by decide, by show _ = ν2 0 + 2; omega⟩) (Or.inr ⟨rfl, by decide, by show _ = ν2 5 + 0; omega⟩), b_fa.mk e3 (Or.inl ⟨rfl, rfl⟩) (Or.inr ⟨rfl, by decide, by show _ = ν2 0 + 3; omega⟩) (Or.inr ⟨rfl, by decide, by show _ = ν2 6 + 0; omega⟩), trivial⟩
    ⟨⟨by decide, by decide, by show ν2 4 ≤ ν2 2 + (-1); omega⟩, ⟨by decide, by decide, by show ν2 0 ≤ ν2 0 + 2; omega⟩, ⟨by decide, by decide, by show ν2 0 ≤ ν2 0 + 1; omega⟩, trivial⟩
  exact c_spR (b_orcS_ok c_hJ (List.forall_mem_cons.mpr ⟨(c_vrBuy0 H (by decide) u4 u5 u6 (by omega) (by omega) (by omega) (by omega) (by omega) (by omega) no), (List.forall_mem_cons.mpr ⟨(c_vrOwn0 H (by decide) u4 u5 u6 (by omega) (by omega) (by omega) (by omega) (by omega) (by omega) RQ.1 (by rw [nF]; omega) noM), (fun _ h => absurd h List.not_mem_nil)⟩)⟩) (tab := [c_r73]) (List.forall_mem_cons.mpr ⟨c_v73, fun _ h => absurd h List.not_mem_nil⟩) 3000 12) c_sOwnernC c_sOwnernB hl hx (Q := c_Rel) g2 (b_al_of fun p hp ν' h' x' g' => c_Rel_frm H (show b_frm c_K c_sOwnern.2.2.1 h h' from g'.2.2.2.2.2) (by decide +kernel) R)
theorem c_g1940 : c_goal 1940 := c_goal_gen (S := c_sG1940) (b_orc_ok c_hJ (tab := [c_r297, c_r251]) (List.forall_mem_cons.mpr ⟨c_v297, List.forall_mem_cons.mpr ⟨c_v251, fun _ h => absurd h List.not_mem_nil⟩⟩) 3000 12) c_sG1940C c_sG1940B (by decide +kernel)
theorem c_g1996 : c_goal 1996 := c_goal_gen (S := c_sG1996) (b_orc_ok c_hJ (tab := [c_r134, c_r252]) (List.forall_mem_cons.mpr ⟨c_v134, List.forall_mem_cons.mpr ⟨c_v252, fun _ h => absurd h List.not_mem_nil⟩⟩) 3000 12) c_sG1996C c_sG1996B (by decide +kernel)
theorem c_g2009 : c_goal 2009 := c_goal_gen (S := c_sG2009) (b_orc_ok c_hJ (tab := [c_r298, c_r253]) (List.forall_mem_cons.mpr ⟨c_v298, List.forall_mem_cons.mpr ⟨c_v253, fun _ h => absurd h List.not_mem_nil⟩⟩) 3000 12) c_sG2009C c_sG2009B (by decide +kernel)
theorem c_g2026 : c_goal 2026 := c_goal_gen (S := c_sG2026) (b_orc_ok c_hJ (tab := [c_r299, c_r254]) (List.forall_mem_cons.mpr ⟨c_v299, List.forall_mem_cons.mpr ⟨c_v254, fun _ h => absurd h List.not_mem_nil⟩⟩) 3000 12) c_sG2026C c_sG2026B (by decide +kernel)
theorem c_g2043 : c_goal 2043 := c_goal_gen (S := c_sG2043) (b_orc_ok c_hJ (tab := [c_r137, c_r255]) (List.forall_mem_cons.mpr ⟨c_v137, List.forall_mem_cons.mpr ⟨c_v255, fun _ h => absurd h List.not_mem_nil⟩⟩) 3000 12) c_sG2043C c_sG2043B (by decide +kernel)
