/-! The calls' goals (wip/law4.py) -/
theorem c_g252 : c_goal 252 := c_goal_gen (S := c_sG252) (b_orc_ok c_hJ (tab := [c_r256, c_r168]) (List.forall_mem_cons.mpr ⟨c_v256, List.forall_mem_cons.mpr ⟨c_v168, fun _ h => absurd h List.not_mem_nil⟩⟩) 3000 12) c_sG252C c_sG252B (by decide +kernel)
theorem c_g306 : c_goal 306 := c_goal_gen (S := c_sG306) (b_orc_ok c_hJ (tab := [c_r257, c_r169]) (List.forall_mem_cons.mpr ⟨c_v257, List.forall_mem_cons.mpr ⟨c_v169, fun _ h => absurd h List.not_mem_nil⟩⟩) 3000 12) c_sG306C c_sG306B (by decide +kernel)
theorem c_g334 : c_goal 334 := c_goal_gen (S := c_sG334) (b_orc_ok c_hJ (tab := [c_r258, c_r171]) (List.forall_mem_cons.mpr ⟨c_v258, List.forall_mem_cons.mpr ⟨c_v171, fun _ h => absurd h List.not_mem_nil⟩⟩) 3000 12) c_sG334C c_sG334B (by decide +kernel)
theorem c_g374 : c_goal 374 := c_goal_gen (S := c_sG374) (b_orc_ok c_hJ (tab := [c_r259, c_r173]) (List.forall_mem_cons.mpr ⟨c_v259, List.forall_mem_cons.mpr ⟨c_v173, fun _ h => absurd h List.not_mem_nil⟩⟩) 3000 12) c_sG374C c_sG374B (by decide +kernel)
theorem c_g414 : c_goal 414 := c_goal_gen (S := c_sG414) (b_orc_ok c_hJ (tab := [c_r260, c_r175]) (List.forall_mem_cons.mpr ⟨c_v260, List.forall_mem_cons.mpr ⟨c_v175, fun _ h => absurd h List.not_mem_nil⟩⟩) 3000 12) c_sG414C c_sG414B (by decide +kernel)
theorem c_g466 : c_goal 466 := c_goal_gen (S := c_sG466) (b_orc_ok c_hJ (tab := [c_r261, c_r177]) (List.forall_mem_cons.mpr ⟨c_v261, List.forall_mem_cons.mpr ⟨c_v177, fun _ h => absurd h List.not_mem_nil⟩⟩) 3000 12) c_sG466C c_sG466B (by decide +kernel)
theorem c_g506 : c_goal 506 := c_goal_gen (S := c_sG506) (b_orc_ok c_hJ (tab := [c_r262, c_r179]) (List.forall_mem_cons.mpr ⟨c_v262, List.forall_mem_cons.mpr ⟨c_v179, fun _ h => absurd h List.not_mem_nil⟩⟩) 3000 12) c_sG506C c_sG506B (by decide +kernel)
theorem c_g534 : c_goal 534 := c_goal_gen (S := c_sG534) (b_orc_ok c_hJ (tab := [c_r263, c_r181]) (List.forall_mem_cons.mpr ⟨c_v263, List.forall_mem_cons.mpr ⟨c_v181, fun _ h => absurd h List.not_mem_nil⟩⟩) 3000 12) c_sG534C c_sG534B (by decide +kernel)
theorem c_g562 : c_goal 562 := c_goal_gen (S := c_sG562) (b_orc_ok c_hJ (tab := [c_r264, c_r184]) (List.forall_mem_cons.mpr ⟨c_v264, List.forall_mem_cons.mpr ⟨c_v184, fun _ h => absurd h List.not_mem_nil⟩⟩) 3000 12) c_sG562C c_sG562B (by decide +kernel)
theorem c_vSectionv0 {ν : BN} {al : AL} {h : AH} {mc ms : Nat} (hl : b_L c_E28.length ν c_bl28 al) (g : b_G c_K ν h h (c_E28, c_F28, [(0, 1, -6)], [], [])) (R : c_Rel h) {x : Int32} (ex : c_at h 0 ((ν 0).toNat + 5) = some (.int x)) (hc1 : 0 ≤ (s_i2c x).toInt) (hc2 : (s_i2c x).toInt ≤ 44) : c_res 604 ν al h mc ms c_Rel := by
  have H := g.2.2.2.2.1
  have i0 := g.iv 0 (lo := 0) (hi := 3072) rfl
  have i1 := g.iv 1 (lo := 0) (hi := 3072) rfl
  have i2 := g.iv 2 (lo := 0) (hi := 5) rfl
  have bx := b_32 x
  have hp : 604 ≠ 28 := by decide
  have hO := b_orc_ok (K := c_K) c_hJ (tab := []) (fun _ h => absurd h List.not_mem_nil) 3000 12
  generalize hν : (fun n => match n with
    | 3 => x.toInt
    | 4 => (s_i2c x).toInt
    | n => ν n : BN) = ν2
  have hx : ∀ n, n < 3 → ν2 n = ν n := fun n hn => by
    rw [← hν]
    rcases n with _ | _ | _ | n <;> first | rfl | (exfalso; omega)
  have u0 : ν2 0 = ν 0 := hx 0 (by decide)
  have u1 : ν2 1 = ν 1 := hx 1 (by decide)
  have u2 : ν2 2 = ν 2 := hx 2 (by decide)
  have u3 : ν2 3 = x.toInt := by subst hν; rfl
  have u4 : ν2 4 = (s_i2c x).toInt := by subst hν; rfl
  have g2 := g.ad (ν' := ν2) (E' := [(0, (-2147483648), 2147483647), (0, 0, 44)]) (F' := [((2, 0, 0), (1, 0, 5), (1, 3, 0))]) (C' := [(0, 0, 2), (0, 0, 1)]) hx
    ⟨(by show b_q _ _ (ν2 3); rw [u3]; exact b_q.i (by omega) (by omega)), (by show b_q _ _ (ν2 4); rw [u4]; exact b_q.i (by omega) (by omega)), trivial⟩
    ⟨b_fa.mk ex (Or.inl ⟨rfl, rfl⟩) (Or.inr ⟨rfl, by decide, by show _ = ν2 0 + 5; omega⟩) (Or.inr ⟨rfl, by decide, by show _ = ν2 3 + 0; omega⟩), trivial⟩
    ⟨⟨by decide, by decide, by show ν2 0 ≤ ν2 0 + 2; omega⟩, ⟨by decide, by decide, by show ν2 0 ≤ ν2 0 + 1; omega⟩, trivial⟩
  have g2 := g2.addO (o := (0, (1, 3, 0), (0, 0, 0), (1, 4, 0))) ⟨x, 0, Or.inr ⟨rfl, by decide, by show _ = ν2 3 + 0; omega⟩, Or.inl ⟨rfl, rfl⟩, Or.inr ⟨rfl, by decide, by show (s_i2c x).toInt = ν2 4 + 0; omega⟩⟩
  exact c_spO hO c_sSectionv0MC c_sSectionv0MB hl hx (Q := c_Rel) g2 (b_al_of fun p hp ν' h' x' g' => c_Rel_frm H (show b_frm c_K c_sSectionv0M.2.2.1 h h' from g'.2.2.2.2.2) (by decide +kernel) R)
theorem c_vSectionv1 {ν : BN} {al : AL} {h : AH} {mc ms : Nat} (hl : b_L c_E28.length ν c_bl28 al) (g : b_G c_K ν h h (c_E28, c_F28, [(0, 1, -6)], [], [])) (R : c_Rel h) {x : Int32} (ex : c_at h 0 ((ν 0).toNat + 5) = some (.int x)) (hc1 : 45 ≤ (s_i2c x).toInt) (hc2 : (s_i2c x).toInt ≤ 45) : c_res 604 ν al h mc ms c_Rel := by
  have H := g.2.2.2.2.1
  have i0 := g.iv 0 (lo := 0) (hi := 3072) rfl
  have i1 := g.iv 1 (lo := 0) (hi := 3072) rfl
  have i2 := g.iv 2 (lo := 0) (hi := 5) rfl
  have bx := b_32 x
  have hp : 604 ≠ 28 := by decide
  have hO := b_orc_ok (K := c_K) c_hJ (tab := []) (fun _ h => absurd h List.not_mem_nil) 3000 12
  generalize hν : (fun n => match n with
    | 3 => x.toInt
    | 4 => (s_i2c x).toInt
    | n => ν n : BN) = ν2
  have hx : ∀ n, n < 3 → ν2 n = ν n := fun n hn => by
    rw [← hν]
    rcases n with _ | _ | _ | n <;> first | rfl | (exfalso; omega)
  have u0 : ν2 0 = ν 0 := hx 0 (by decide)
  have u1 : ν2 1 = ν 1 := hx 1 (by decide)
  have u2 : ν2 2 = ν 2 := hx 2 (by decide)
  have u3 : ν2 3 = x.toInt := by subst hν; rfl
  have u4 : ν2 4 = (s_i2c x).toInt := by subst hν; rfl
  have g2 := g.ad (ν' := ν2) (E' := [(0, (-2147483648), 2147483647), (0, 45, 45)]) (F' := [((2, 0, 0), (1, 0, 5), (1, 3, 0))]) (C' := [(0, 0, 2), (0, 0, 1)]) hx
    ⟨(by show b_q _ _ (ν2 3); rw [u3]; exact b_q.i (by omega) (by omega)), (by show b_q _ _ (ν2 4); rw [u4]; exact b_q.i (by omega) (by omega)), trivial⟩
    ⟨b_fa.mk ex (Or.inl ⟨rfl, rfl⟩) (Or.inr ⟨rfl, by decide, by show _ = ν2 0 + 5; omega⟩) (Or.inr ⟨rfl, by decide, by show _ = ν2 3 + 0; omega⟩), trivial⟩
    ⟨⟨by decide, by decide, by show ν2 0 ≤ ν2 0 + 2; omega⟩, ⟨by decide, by decide, by show ν2 0 ≤ ν2 0 + 1; omega⟩, trivial⟩
  have g2 := g2.addO (o := (0, (1, 3, 0), (0, 0, 0), (1, 4, 0))) ⟨x, 0, Or.inr ⟨rfl, by decide, by show _ = ν2 3 + 0; omega⟩, Or.inl ⟨rfl, rfl⟩, Or.inr ⟨rfl, by decide, by show (s_i2c x).toInt = ν2 4 + 0; omega⟩⟩
  exact c_spO hO c_sSectionv1MC c_sSectionv1MB hl hx (Q := c_Rel) g2 (b_al_of fun p hp ν' h' x' g' => c_Rel_frm H (show b_frm c_K c_sSectionv1M.2.2.1 h h' from g'.2.2.2.2.2) (by decide +kernel) R)
theorem c_vSectionv2 {ν : BN} {al : AL} {h : AH} {mc ms : Nat} (hl : b_L c_E28.length ν c_bl28 al) (g : b_G c_K ν h h (c_E28, c_F28, [(0, 1, -6)], [], [])) (R : c_Rel h) {x : Int32} (ex : c_at h 0 ((ν 0).toNat + 5) = some (.int x)) (hc1 : 46 ≤ (s_i2c x).toInt) (hc2 : (s_i2c x).toInt ≤ 107) : c_res 604 ν al h mc ms c_Rel := by
  have H := g.2.2.2.2.1
  have i0 := g.iv 0 (lo := 0) (hi := 3072) rfl
  have i1 := g.iv 1 (lo := 0) (hi := 3072) rfl
  have i2 := g.iv 2 (lo := 0) (hi := 5) rfl
  have bx := b_32 x
  have hp : 604 ≠ 28 := by decide
  have hO := b_orc_ok (K := c_K) c_hJ (tab := []) (fun _ h => absurd h List.not_mem_nil) 3000 12
  generalize hν : (fun n => match n with
    | 3 => x.toInt
    | 4 => (s_i2c x).toInt
    | n => ν n : BN) = ν2
  have hx : ∀ n, n < 3 → ν2 n = ν n := fun n hn => by
    rw [← hν]
    rcases n with _ | _ | _ | n <;> first | rfl | (exfalso; omega)
  have u0 : ν2 0 = ν 0 := hx 0 (by decide)
  have u1 : ν2 1 = ν 1 := hx 1 (by decide)
  have u2 : ν2 2 = ν 2 := hx 2 (by decide)
  have u3 : ν2 3 = x.toInt := by subst hν; rfl
  have u4 : ν2 4 = (s_i2c x).toInt := by subst hν; rfl
  have g2 := g.ad (ν' := ν2) (E' := [(0, (-2147483648), 2147483647), (0, 46, 107)]) (F' := [((2, 0, 0), (1, 0, 5), (1, 3, 0))]) (C' := [(0, 0, 2), (0, 0, 1)]) hx
    ⟨(by show b_q _ _ (ν2 3); rw [u3]; exact b_q.i (by omega) (by omega)), (by show b_q _ _ (ν2 4); rw [u4]; exact b_q.i (by omega) (by omega)), trivial⟩
    ⟨b_fa.mk ex (Or.inl ⟨rfl, rfl⟩) (Or.inr ⟨rfl, by decide, by show _ = ν2 0 + 5; omega⟩) (Or.inr ⟨rfl, by decide, by show _ = ν2 3 + 0; omega⟩), trivial⟩
    ⟨⟨by decide, by decide, by show ν2 0 ≤ ν2 0 + 2; omega⟩, ⟨by decide, by decide, by show ν2 0 ≤ ν2 0 + 1; omega⟩, trivial⟩
  have g2 := g2.addO (o := (0, (1, 3, 0), (0, 0, 0), (1, 4, 0))) ⟨x, 0, Or.inr ⟨rfl, by decide, by show _ = ν2 3 + 0; omega⟩, Or.inl ⟨rfl, rfl⟩, Or.inr ⟨rfl, by decide, by show (s_i2c x).toInt = ν2 4 + 0; omega⟩⟩
  exact c_spO hO c_sSectionv2MC c_sSectionv2MB hl hx (Q := c_Rel) g2 (b_al_of fun p hp ν' h' x' g' => c_Rel_frm H (show b_frm c_K c_sSectionv2M.2.2.1 h h' from g'.2.2.2.2.2) (by decide +kernel) R)
theorem c_vSectionv3 {ν : BN} {al : AL} {h : AH} {mc ms : Nat} (hl : b_L c_E28.length ν c_bl28 al) (g : b_G c_K ν h h (c_E28, c_F28, [(0, 1, -6)], [], [])) (R : c_Rel h) {x : Int32} (ex : c_at h 0 ((ν 0).toNat + 5) = some (.int x)) (hc1 : 108 ≤ (s_i2c x).toInt) (hc2 : (s_i2c x).toInt ≤ 108) : c_res 604 ν al h mc ms c_Rel := by
  have H := g.2.2.2.2.1
  have i0 := g.iv 0 (lo := 0) (hi := 3072) rfl
  have i1 := g.iv 1 (lo := 0) (hi := 3072) rfl
  have i2 := g.iv 2 (lo := 0) (hi := 5) rfl
  have bx := b_32 x
  have hp : 604 ≠ 28 := by decide
  have hO := b_orc_ok (K := c_K) c_hJ (tab := []) (fun _ h => absurd h List.not_mem_nil) 3000 12
  generalize hν : (fun n => match n with
    | 3 => x.toInt
    | 4 => (s_i2c x).toInt
    | n => ν n : BN) = ν2
  have hx : ∀ n, n < 3 → ν2 n = ν n := fun n hn => by
    rw [← hν]
    rcases n with _ | _ | _ | n <;> first | rfl | (exfalso; omega)
  have u0 : ν2 0 = ν 0 := hx 0 (by decide)
  have u1 : ν2 1 = ν 1 := hx 1 (by decide)
  have u2 : ν2 2 = ν 2 := hx 2 (by decide)
  have u3 : ν2 3 = x.toInt := by subst hν; rfl
  have u4 : ν2 4 = (s_i2c x).toInt := by subst hν; rfl
  have g2 := g.ad (ν' := ν2) (E' := [(0, (-2147483648), 2147483647), (0, 108, 108)]) (F' := [((2, 0, 0), (1, 0, 5), (1, 3, 0))]) (C' := [(0, 0, 2), (0, 0, 1)]) hx
    ⟨(by show b_q _ _ (ν2 3); rw [u3]; exact b_q.i (by omega) (by omega)), (by show b_q _ _ (ν2 4); rw [u4]; exact b_q.i (by omega) (by omega)), trivial⟩
    ⟨b_fa.mk ex (Or.inl ⟨rfl, rfl⟩) (Or.inr ⟨rfl, by decide, by show _ = ν2 0 + 5; omega⟩) (Or.inr ⟨rfl, by decide, by show _ = ν2 3 + 0; omega⟩), trivial⟩
    ⟨⟨by decide, by decide, by show ν2 0 ≤ ν2 0 + 2; omega⟩, ⟨by decide, by decide, by show ν2 0 ≤ ν2 0 + 1; omega⟩, trivial⟩
  have g2 := g2.addO (o := (0, (1, 3, 0), (0, 0, 0), (1, 4, 0))) ⟨x, 0, Or.inr ⟨rfl, by decide, by show _ = ν2 3 + 0; omega⟩, Or.inl ⟨rfl, rfl⟩, Or.inr ⟨rfl, by decide, by show (s_i2c x).toInt = ν2 4 + 0; omega⟩⟩
  exact c_spO hO c_sSectionv3MC c_sSectionv3MB hl hx (Q := c_Rel) g2 (b_al_of fun p hp ν' h' x' g' => c_Rel_frm H (show b_frm c_K c_sSectionv3M.2.2.1 h h' from g'.2.2.2.2.2) (by decide +kernel) R)
theorem c_vSectionv4 {ν : BN} {al : AL} {h : AH} {mc ms : Nat} (hl : b_L c_E28.length ν c_bl28 al) (g : b_G c_K ν h h (c_E28, c_F28, [(0, 1, -6)], [], [])) (R : c_Rel h) {x : Int32} (ex : c_at h 0 ((ν 0).toNat + 5) = some (.int x)) (hc1 : 109 ≤ (s_i2c x).toInt) (hc2 : (s_i2c x).toInt ≤ 115) : c_res 604 ν al h mc ms c_Rel := by
  have H := g.2.2.2.2.1
  have i0 := g.iv 0 (lo := 0) (hi := 3072) rfl
  have i1 := g.iv 1 (lo := 0) (hi := 3072) rfl
  have i2 := g.iv 2 (lo := 0) (hi := 5) rfl
  have bx := b_32 x
  have hp : 604 ≠ 28 := by decide
  have hO := b_orc_ok (K := c_K) c_hJ (tab := []) (fun _ h => absurd h List.not_mem_nil) 3000 12
  generalize hν : (fun n => match n with
    | 3 => x.toInt
    | 4 => (s_i2c x).toInt
    | n => ν n : BN) = ν2
  have hx : ∀ n, n < 3 → ν2 n = ν n := fun n hn => by
    rw [← hν]
    rcases n with _ | _ | _ | n <;> first | rfl | (exfalso; omega)
  have u0 : ν2 0 = ν 0 := hx 0 (by decide)
  have u1 : ν2 1 = ν 1 := hx 1 (by decide)
  have u2 : ν2 2 = ν 2 := hx 2 (by decide)
  have u3 : ν2 3 = x.toInt := by subst hν; rfl
  have u4 : ν2 4 = (s_i2c x).toInt := by subst hν; rfl
  have g2 := g.ad (ν' := ν2) (E' := [(0, (-2147483648), 2147483647), (0, 109, 115)]) (F' := [((2, 0, 0), (1, 0, 5), (1, 3, 0))]) (C' := [(0, 0, 2), (0, 0, 1)]) hx
    ⟨(by show b_q _ _ (ν2 3); rw [u3]; exact b_q.i (by omega) (by omega)), (by show b_q _ _ (ν2 4); rw [u4]; exact b_q.i (by omega) (by omega)), trivial⟩
    ⟨b_fa.mk ex (Or.inl ⟨rfl, rfl⟩) (Or.inr ⟨rfl, by decide, by show _ = ν2 0 + 5; omega⟩) (Or.inr ⟨rfl, by decide, by show _ = ν2 3 + 0; omega⟩), trivial⟩
    ⟨⟨by decide, by decide, by show ν2 0 ≤ ν2 0 + 2; omega⟩, ⟨by decide, by decide, by show ν2 0 ≤ ν2 0 + 1; omega⟩, trivial⟩
  have g2 := g2.addO (o := (0, (1, 3, 0), (0, 0, 0), (1, 4, 0))) ⟨x, 0, Or.inr ⟨rfl, by decide, by show _ = ν2 3 + 0; omega⟩, Or.inl ⟨rfl, rfl⟩, Or.inr ⟨rfl, by decide, by show (s_i2c x).toInt = ν2 4 + 0; omega⟩⟩
  exact c_spO hO c_sSectionv4MC c_sSectionv4MB hl hx (Q := c_Rel) g2 (b_al_of fun p hp ν' h' x' g' => c_Rel_frm H (show b_frm c_K c_sSectionv4M.2.2.1 h h' from g'.2.2.2.2.2) (by decide +kernel) R)
theorem c_vSectionv5 {ν : BN} {al : AL} {h : AH} {mc ms : Nat} (hl : b_L c_E28.length ν c_bl28 al) (g : b_G c_K ν h h (c_E28, c_F28, [(0, 1, -6)], [], [])) (R : c_Rel h) {x : Int32} (ex : c_at h 0 ((ν 0).toNat + 5) = some (.int x)) (hc1 : 116 ≤ (s_i2c x).toInt) (hc2 : (s_i2c x).toInt ≤ 116) : c_res 604 ν al h mc ms c_Rel := by
  have H := g.2.2.2.2.1
  have i0 := g.iv 0 (lo := 0) (hi := 3072) rfl
  have i1 := g.iv 1 (lo := 0) (hi := 3072) rfl
  have i2 := g.iv 2 (lo := 0) (hi := 5) rfl
  have bx := b_32 x
  have hp : 604 ≠ 28 := by decide
  have hO := b_orc_ok (K := c_K) c_hJ (tab := []) (fun _ h => absurd h List.not_mem_nil) 3000 12
  generalize hν : (fun n => match n with
    | 3 => x.toInt
    | 4 => (s_i2c x).toInt
    | n => ν n : BN) = ν2
  have hx : ∀ n, n < 3 → ν2 n = ν n := fun n hn => by
    rw [← hν]
    rcases n with _ | _ | _ | n <;> first | rfl | (exfalso; omega)
  have u0 : ν2 0 = ν 0 := hx 0 (by decide)
  have u1 : ν2 1 = ν 1 := hx 1 (by decide)
  have u2 : ν2 2 = ν 2 := hx 2 (by decide)
  have u3 : ν2 3 = x.toInt := by subst hν; rfl
  have u4 : ν2 4 = (s_i2c x).toInt := by subst hν; rfl
  have g2 := g.ad (ν' := ν2) (E' := [(0, (-2147483648), 2147483647), (0, 116, 116)]) (F' := [((2, 0, 0), (1, 0, 5), (1, 3, 0))]) (C' := [(0, 0, 2), (0, 0, 1)]) hx
    ⟨(by show b_q _ _ (ν2 3); rw [u3]; exact b_q.i (by omega) (by omega)), (by show b_q _ _ (ν2 4); rw [u4]; exact b_q.i (by omega) (by omega)), trivial⟩
    ⟨b_fa.mk ex (Or.inl ⟨rfl, rfl⟩) (Or.inr ⟨rfl, by decide, by show _ = ν2 0 + 5; omega⟩) (Or.inr ⟨rfl, by decide, by show _ = ν2 3 + 0; omega⟩), trivial⟩
    ⟨⟨by decide, by decide, by show ν2 0 ≤ ν2 0 + 2; omega⟩, ⟨by decide, by decide, by show ν2 0 ≤ ν2 0 + 1; omega⟩, trivial⟩
  have g2 := g2.addO (o := (0, (1, 3, 0), (0, 0, 0), (1, 4, 0))) ⟨x, 0, Or.inr ⟨rfl, by decide, by show _ = ν2 3 + 0; omega⟩, Or.inl ⟨rfl, rfl⟩, Or.inr ⟨rfl, by decide, by show (s_i2c x).toInt = ν2 4 + 0; omega⟩⟩
  exact c_spO hO c_sSectionv5MC c_sSectionv5MB hl hx (Q := c_Rel) g2 (b_al_of fun p hp ν' h' x' g' => c_Rel_frm H (show b_frm c_K c_sSectionv5M.2.2.1 h h' from g'.2.2.2.2.2) (by decide +kernel) R)
theorem c_vSectionv6 {ν : BN} {al : AL} {h : AH} {mc ms : Nat} (hl : b_L c_E28.length ν c_bl28 al) (g : b_G c_K ν h h (c_E28, c_F28, [(0, 1, -6)], [], [])) (R : c_Rel h) {x : Int32} (ex : c_at h 0 ((ν 0).toNat + 5) = some (.int x)) (hc1 : 117 ≤ (s_i2c x).toInt) (hc2 : (s_i2c x).toInt ≤ 118) : c_res 604 ν al h mc ms c_Rel := by
  have H := g.2.2.2.2.1
  have i0 := g.iv 0 (lo := 0) (hi := 3072) rfl
  have i1 := g.iv 1 (lo := 0) (hi := 3072) rfl
  have i2 := g.iv 2 (lo := 0) (hi := 5) rfl
  have bx := b_32 x
  have hp : 604 ≠ 28 := by decide
  have hO := b_orc_ok (K := c_K) c_hJ (tab := []) (fun _ h => absurd h List.not_mem_nil) 3000 12
  generalize hν : (fun n => match n with
    | 3 => x.toInt
    | 4 => (s_i2c x).toInt
    | n => ν n : BN) = ν2
  have hx : ∀ n, n < 3 → ν2 n = ν n := fun n hn => by
    rw [← hν]
    rcases n with _ | _ | _ | n <;> first | rfl | (exfalso; omega)
  have u0 : ν2 0 = ν 0 := hx 0 (by decide)
  have u1 : ν2 1 = ν 1 := hx 1 (by decide)
  have u2 : ν2 2 = ν 2 := hx 2 (by decide)
  have u3 : ν2 3 = x.toInt := by subst hν; rfl
  have u4 : ν2 4 = (s_i2c x).toInt := by subst hν; rfl
  have g2 := g.ad (ν' := ν2) (E' := [(0, (-2147483648), 2147483647), (0, 117, 118)]) (F' := [((2, 0, 0), (1, 0, 5), (1, 3, 0))]) (C' := [(0, 0, 2), (0, 0, 1)]) hx
    ⟨(by show b_q _ _ (ν2 3); rw [u3]; exact b_q.i (by omega) (by omega)), (by show b_q _ _ (ν2 4); rw [u4]; exact b_q.i (by omega) (by omega)), trivial⟩
    ⟨b_fa.mk ex (Or.inl ⟨rfl, rfl⟩) (Or.inr ⟨rfl, by decide, by show _ = ν2 0 + 5; omega⟩) (Or.inr ⟨rfl, by decide, by show _ = ν2 3 + 0; omega⟩), trivial⟩
    ⟨⟨by decide, by decide, by show ν2 0 ≤ ν2 0 + 2; omega⟩, ⟨by decide, by decide, by show ν2 0 ≤ ν2 0 + 1; omega⟩, trivial⟩
  have g2 := g2.addO (o := (0, (1, 3, 0), (0, 0, 0), (1, 4, 0))) ⟨x, 0, Or.inr ⟨rfl, by decide, by show _ = ν2 3 + 0; omega⟩, Or.inl ⟨rfl, rfl⟩, Or.inr ⟨rfl, by decide, by show (s_i2c x).toInt = ν2 4 + 0; omega⟩⟩
  exact c_spO hO c_sSectionv6MC c_sSectionv6MB hl hx (Q := c_Rel) g2 (b_al_of fun p hp ν' h' x' g' => c_Rel_frm H (show b_frm c_K c_sSectionv6M.2.2.1 h h' from g'.2.2.2.2.2) (by decide +kernel) R)
theorem c_vSectionv7 {ν : BN} {al : AL} {h : AH} {mc ms : Nat} (hl : b_L c_E28.length ν c_bl28 al) (g : b_G c_K ν h h (c_E28, c_F28, [(0, 1, -6)], [], [])) (R : c_Rel h) {x : Int32} (ex : c_at h 0 ((ν 0).toNat + 5) = some (.int x)) (hc1 : 119 ≤ (s_i2c x).toInt) (hc2 : (s_i2c x).toInt ≤ 119) : c_res 604 ν al h mc ms c_Rel := by
  have H := g.2.2.2.2.1
  have i0 := g.iv 0 (lo := 0) (hi := 3072) rfl
  have i1 := g.iv 1 (lo := 0) (hi := 3072) rfl
  have i2 := g.iv 2 (lo := 0) (hi := 5) rfl
  have bx := b_32 x
  have hp : 604 ≠ 28 := by decide
  have hO := b_orc_ok (K := c_K) c_hJ (tab := []) (fun _ h => absurd h List.not_mem_nil) 3000 12
  generalize hν : (fun n => match n with
    | 3 => x.toInt
    | 4 => (s_i2c x).toInt
    | n => ν n : BN) = ν2
  have hx : ∀ n, n < 3 → ν2 n = ν n := fun n hn => by
    rw [← hν]
    rcases n with _ | _ | _ | n <;> first | rfl | (exfalso; omega)
  have u0 : ν2 0 = ν 0 := hx 0 (by decide)
  have u1 : ν2 1 = ν 1 := hx 1 (by decide)
  have u2 : ν2 2 = ν 2 := hx 2 (by decide)
  have u3 : ν2 3 = x.toInt := by subst hν; rfl
  have u4 : ν2 4 = (s_i2c x).toInt := by subst hν; rfl
  have g2 := g.ad (ν' := ν2) (E' := [(0, (-2147483648), 2147483647), (0, 119, 119)]) (F' := [((2, 0, 0), (1, 0, 5), (1, 3, 0))]) (C' := [(0, 0, 2), (0, 0, 1)]) hx
    ⟨(by show b_q _ _ (ν2 3); rw [u3]; exact b_q.i (by omega) (by omega)), (by show b_q _ _ (ν2 4); rw [u4]; exact b_q.i (by omega) (by omega)), trivial⟩
    ⟨b_fa.mk ex (Or.inl ⟨rfl, rfl⟩) (Or.inr ⟨rfl, by decide, by show _ = ν2 0 + 5; omega⟩) (Or.inr ⟨rfl, by decide, by show _ = ν2 3 + 0; omega⟩), trivial⟩
    ⟨⟨by decide, by decide, by show ν2 0 ≤ ν2 0 + 2; omega⟩, ⟨by decide, by decide, by show ν2 0 ≤ ν2 0 + 1; omega⟩, trivial⟩
  have g2 := g2.addO (o := (0, (1, 3, 0), (0, 0, 0), (1, 4, 0))) ⟨x, 0, Or.inr ⟨rfl, by decide, by show _ = ν2 3 + 0; omega⟩, Or.inl ⟨rfl, rfl⟩, Or.inr ⟨rfl, by decide, by show (s_i2c x).toInt = ν2 4 + 0; omega⟩⟩
  exact c_spO hO c_sSectionv7MC c_sSectionv7MB hl hx (Q := c_Rel) g2 (b_al_of fun p hp ν' h' x' g' => c_Rel_frm H (show b_frm c_K c_sSectionv7M.2.2.1 h h' from g'.2.2.2.2.2) (by decide +kernel) R)
theorem c_vSectionv8 {ν : BN} {al : AL} {h : AH} {mc ms : Nat} (hl : b_L c_E28.length ν c_bl28 al) (g : b_G c_K ν h h (c_E28, c_F28, [(0, 1, -6)], [], [])) (R : c_Rel h) {x : Int32} (ex : c_at h 0 ((ν 0).toNat + 5) = some (.int x)) (hc1 : 120 ≤ (s_i2c x).toInt) (hc2 : (s_i2c x).toInt ≤ 65535) : c_res 604 ν al h mc ms c_Rel := by
  have H := g.2.2.2.2.1
  have i0 := g.iv 0 (lo := 0) (hi := 3072) rfl
  have i1 := g.iv 1 (lo := 0) (hi := 3072) rfl
  have i2 := g.iv 2 (lo := 0) (hi := 5) rfl
  have bx := b_32 x
  have hp : 604 ≠ 28 := by decide
  have hO := b_orc_ok (K := c_K) c_hJ (tab := []) (fun _ h => absurd h List.not_mem_nil) 3000 12
  generalize hν : (fun n => match n with
    | 3 => x.toInt
    | 4 => (s_i2c x).toInt
    | n => ν n : BN) = ν2
  have hx : ∀ n, n < 3 → ν2 n = ν n := fun n hn => by
    rw [← hν]
    rcases n with _ | _ | _ | n <;> first | rfl | (exfalso; omega)
  have u0 : ν2 0 = ν 0 := hx 0 (by decide)
  have u1 : ν2 1 = ν 1 := hx 1 (by decide)
  have u2 : ν2 2 = ν 2 := hx 2 (by decide)
  have u3 : ν2 3 = x.toInt := by subst hν; rfl
  have u4 : ν2 4 = (s_i2c x).toInt := by subst hν; rfl
  have g2 := g.ad (ν' := ν2) (E' := [(0, (-2147483648), 2147483647), (0, 120, 65535)]) (F' := [((2, 0, 0), (1, 0, 5), (1, 3, 0))]) (C' := [(0, 0, 2), (0, 0, 1)]) hx
    ⟨(by show b_q _ _ (ν2 3); rw [u3]; exact b_q.i (by omega) (by omega)), (by show b_q _ _ (ν2 4); rw [u4]; exact b_q.i (by omega) (by omega)), trivial⟩
    ⟨b_fa.mk ex (Or.inl ⟨rfl, rfl⟩) (Or.inr ⟨rfl, by decide, by show _ = ν2 0 + 5; omega⟩) (Or.inr ⟨rfl, by decide, by show _ = ν2 3 + 0; omega⟩), trivial⟩
    ⟨⟨by decide, by decide, by show ν2 0 ≤ ν2 0 + 2; omega⟩, ⟨by decide, by decide, by show ν2 0 ≤ ν2 0 + 1; omega⟩, trivial⟩
  have g2 := g2.addO (o := (0, (1, 3, 0), (0, 0, 0), (1, 4, 0))) ⟨x, 0, Or.inr ⟨rfl, by decide, by show _ = ν2 3 + 0; omega⟩, Or.inl ⟨rfl, rfl⟩, Or.inr ⟨rfl, by decide, by show (s_i2c x).toInt = ν2 4 + 0; omega⟩⟩
  exact c_spO hO c_sSectionv8MC c_sSectionv8MB hl hx (Q := c_Rel) g2 (b_al_of fun p hp ν' h' x' g' => c_Rel_frm H (show b_frm c_K c_sSectionv8M.2.2.1 h h' from g'.2.2.2.2.2) (by decide +kernel) R)
theorem c_g604 : c_goal 604 := by
  intro ν al h mc ms hl g R
  obtain ⟨x, ex⟩ := c_scr g (j := 5) (by decide)
  have hc : 0 ≤ (s_i2c x).toInt ∧ (s_i2c x).toInt ≤ 65535 := by
    obtain ⟨q, hq, h1, h2⟩ := s_i2c_in x
    simp only [List.mem_cons, List.not_mem_nil, or_false] at hq
    subst hq
    exact ⟨h1, h2⟩
  have hs : (0 ≤ (s_i2c x).toInt ∧ (s_i2c x).toInt ≤ 44) ∨ (45 ≤ (s_i2c x).toInt ∧ (s_i2c x).toInt ≤ 45) ∨ (46 ≤ (s_i2c x).toInt ∧ (s_i2c x).toInt ≤ 107) ∨ (108 ≤ (s_i2c x).toInt ∧ (s_i2c x).toInt ≤ 108) ∨ (109 ≤ (s_i2c x).toInt ∧ (s_i2c x).toInt ≤ 115) ∨ (116 ≤ (s_i2c x).toInt ∧ (s_i2c x).toInt ≤ 116) ∨ (117 ≤ (s_i2c x).toInt ∧ (s_i2c x).toInt ≤ 118) ∨ (119 ≤ (s_i2c x).toInt ∧ (s_i2c x).toInt ≤ 119) ∨ (120 ≤ (s_i2c x).toInt ∧ (s_i2c x).toInt ≤ 65535) := by omega
  rcases hs with ⟨a, b⟩ | ⟨a, b⟩ | ⟨a, b⟩ | ⟨a, b⟩ | ⟨a, b⟩ | ⟨a, b⟩ | ⟨a, b⟩ | ⟨a, b⟩ | ⟨a, b⟩
  · exact c_vSectionv0 hl g R ex a b
  · exact c_vSectionv1 hl g R ex a b
  · exact c_vSectionv2 hl g R ex a b
  · exact c_vSectionv3 hl g R ex a b
  · exact c_vSectionv4 hl g R ex a b
  · exact c_vSectionv5 hl g R ex a b
  · exact c_vSectionv6 hl g R ex a b
  · exact c_vSectionv7 hl g R ex a b
  · exact c_vSectionv8 hl g R ex a b
theorem c_g712 : c_goal 712 := c_goal_gen (S := c_sG712) (b_orc_ok c_hJ (tab := [c_r266, c_r190]) (List.forall_mem_cons.mpr ⟨c_v266, List.forall_mem_cons.mpr ⟨c_v190, fun _ h => absurd h List.not_mem_nil⟩⟩) 3000 12) c_sG712C c_sG712B (by decide +kernel)
theorem c_g740 : c_goal 740 := c_goal_gen (S := c_sG740) (b_orc_ok c_hJ (tab := [c_r267, c_r191]) (List.forall_mem_cons.mpr ⟨c_v267, List.forall_mem_cons.mpr ⟨c_v191, fun _ h => absurd h List.not_mem_nil⟩⟩) 3000 12) c_sG740C c_sG740B (by decide +kernel)
