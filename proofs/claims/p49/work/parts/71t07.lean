/-! What the methods do, by program (wip/s/sgen.py), 7 -/
-- Section_countBallots (78)
def zT78 : ZT := []
theorem zH78 : z_ok zT78 := .n
def zP78_0 : List ZO := [(2, [(4, 0), (1, 0), (0, 0), (0, 0)])]
def zP78_4 : List ZO := [(5, [(1352, 0), (1, 0), (0, 0), (0, 0)]), (3, [(3, 0), (1, 0), (3, 0), (4, 0)]), (0, [(2, 0)]), (5, [(1477, 0), (1, 0), (3, 0), (0, 0)]), (3, [(5, 0), (2, 0), (5, 0), (0, 0)]), (4, [(0, 0), (3, 0), (0, 1)]), (2, [(4, 0), (1, 0), (2, 0), (6, 0)]), (4, [(0, 0), (2, 0), (0, 1)]), (4, [(0, 0), (3, 0), (0, 1)]), (2, [(4, 0), (1, 0), (6, 0), (7, 0)])]
def zD78 : ZD := [(0, 1, [some (23, (1, 0), (0, 0)), none, none], 2, zP78_0), (4, 3, [some (23, (1, 0), (0, 0)), some (0, (2, 0), (0, 0)), some (0, (3, 0), (0, 0))], 11, zP78_4)]
theorem zG78 : z_chk zT78 [] 78 zD78 = true := by decide +kernel
noncomputable def g_Section_countBallots (R : ZR) : ZR := z_psi (z_st (z_F zT78) zD78) R
noncomputable def f_Section_countBallots : ZFn := fun L S => g_Section_countBallots ((1000, L), S)
theorem zM78 : z_met 78 1 [(23, (1, 0), (0, 0))] f_Section_countBallots := z_met_psi zH78 (fun _ _ h => absurd h List.not_mem_nil) rfl zG78
theorem zE78_0 {x1 : Int} {S : ZS} : z_st (z_F zT78) zD78 0 [x1] S = ((1004, [x1, 0, 0]), S) := (id rfl : z_st (z_F zT78) zD78 0 [x1] S = z_ev (z_F zT78) 2 zP78_0 [x1] S).trans (id rfl)
theorem g_Section_countBallots_0 {x1 : Int} {S : ZS} : g_Section_countBallots ((1000, [x1]), S) = (g_Section_countBallots ((1004, [x1, 0, 0]), S)) := by
  unfold g_Section_countBallots
  refine ((z_psi_go (pc := 0)).trans (congrArg _ zE78_0)).trans ?_
  try simp only [z_psi_c, z_psi_b, z_psi_n, Nat.reduceLT, decide_true]
theorem zE78_4 {x1 x2 x3 : Int} {S : ZS} : z_st (z_F zT78) zD78 4 [x1, x2, x3] S = (bif decide ((S r_Section_jurorCount x1 0 0) ≤ x3) then ((0, [x2]), S) else (bif decide ((S r_Juror_ballotSize x1 x3 0) ≤ 0) then ((1004, [x1, x2, (e_wr (x3 + 1))]), S) else ((1004, [x1, (e_wr (x2 + 1)), (e_wr (x3 + 1))]), S))) := (id rfl : z_st (z_F zT78) zD78 4 [x1, x2, x3] S = z_ev (z_F zT78) 11 zP78_4 [x1, x2, x3] S).trans (id rfl)
theorem g_Section_countBallots_4 {x1 x2 x3 : Int} {S : ZS} : g_Section_countBallots ((1004, [x1, x2, x3]), S) = (bif decide ((S r_Section_jurorCount x1 0 0) ≤ x3) then ((0, [x2]), S) else (bif decide ((S r_Juror_ballotSize x1 x3 0) ≤ 0) then (g_Section_countBallots ((1004, [x1, x2, (e_wr (x3 + 1))]), S)) else (g_Section_countBallots ((1004, [x1, (e_wr (x2 + 1)), (e_wr (x3 + 1))]), S)))) := by
  unfold g_Section_countBallots
  refine ((z_psi_go (pc := 4)).trans (congrArg _ zE78_4)).trans ?_
  try simp only [z_psi_c, z_psi_b, z_psi_n, Nat.reduceLT, decide_true]
def zW78 : List Nat := []
theorem zK78 : z_kp 1 zW78 f_Section_countBallots := fun L S hL hc r i j k hr => z_psi_kp (KT := []) (F := z_F zT78) (W := zW78) (D := zD78) (.n) (z_h163 rfl) (by decide +kernel) _ hc r i j k hr

-- x_rank (128)
noncomputable def zT128 : ZT := [(54, 3, [(25, (1, 0), (2, 0)), (49, (0, 0), (0, 0)), (0, (3, 0), (0, 0))], f_Juror_vote), (78, 1, [(23, (1, 0), (0, 0))], f_Section_countBallots), (145, 1, [(2, (0, 0), (0, 0)), (0, (1, 0), (0, 0))], f_x_checkSection), (146, 2, [(2, (0, 0), (0, 0)), (0, (1, 0), (0, 0)), (0, (2, 0), (0, 0))], f_x_checkJuror), (159, 3, [(2, (0, 0), (0, 0)), (0, (1, 0), (0, 0)), (25, (2, 0), (3, 0))], f_x_isBallotOf)]
theorem zH128 : z_ok zT128 := .c zM54 (.c zM78 (.c zM145 (.c zM146 (.c zM159 .n))))
theorem zF128_54 : z_F zT128 54 = f_Juror_vote := id rfl
theorem zF128_78 : z_F zT128 78 = f_Section_countBallots := id rfl
theorem zF128_145 : z_F zT128 145 = f_x_checkSection := id rfl
theorem zF128_146 : z_F zT128 146 = f_x_checkJuror := id rfl
theorem zF128_159 : z_F zT128 159 = f_x_isBallotOf := id rfl
def zP128_0 : List ZO := [(7, [(145, 0), (1, 0)]), (7, [(146, 0), (1, 0), (2, 0)]), (7, [(159, 0), (1, 0), (1, 0), (2, 0)]), (3, [(1, 0), (5, 0), (5, 0), (0, 0)]), (5, [(12, 0), (0, 0), (0, 0), (0, 0)]), (7, [(54, 0), (1, 0), (2, 0), (6, 0)]), (6, [(12, 0), (0, 0), (0, 0), (0, 0), (0, 0), (0, 0)]), (7, [(78, 0), (1, 0)]), (0, [(8, 0)]), (1, [(3, 0)])]
def zC128 : ZC := [(0, 2, [some (2, (0, 0), (0, 0)), some (0, (1, 0), (0, 0)), some (0, (2, 0), (0, 0)), none])]
theorem zG128 : z_go zC128 (z_A zT128) [] 128 400 true 11 zP128_0 0 [some (2, (0, 0), (0, 0)), some (0, (1, 0), (0, 0)), some (0, (2, 0), (0, 0)), none] [] 2 = true := by decide +kernel
noncomputable def f_x_rank : ZFn := fun L S => match L with
  | [x1, x2] => (e_bind (f_x_checkSection [x1] S) (fun v1 S1 => (e_bind (f_x_checkJuror [x1, x2] S1) (fun v2 S2 => (e_bind (f_x_isBallotOf [x1, x1, x2] S2) (fun v3 S3 => (bif !decide (v3 = 0) then (e_bind (f_Juror_vote [x1, x2, (S3 r_x_typedCount 0 0 0)] S3) (fun v4 S4 => (e_bind (f_Section_countBallots [x1] (e_upd S4 r_x_typedCount 0 0 0 0)) (fun v5 S5 => ((0, [v5]), S5))))) else ((4, []), S3))))))))
  | _ => ((0, []), S)
theorem zE128 {x1 x2 : Int} {S : ZS} : z_ev (z_F zT128) 11 zP128_0 [x1, x2] S = f_x_rank [x1, x2] S := id rfl
theorem zM128 : z_met 128 2 [(2, (0, 0), (0, 0)), (0, (1, 0), (0, 0)), (0, (2, 0), (0, 0))] f_x_rank := z_met_ev zH128 (fun _ _ h => absurd h List.not_mem_nil) rfl zG128 (by decide +kernel) (fun L S hn => match L, hn with
  | [x1, x2], _ => zE128)
def zW128 : List Nat := [r_x_typedCount, r_Juror_ballotSize, r_Juror_ballot]
theorem zK128 : z_kp 2 zW128 f_x_rank := z_kp_ev (KT := [(54, 3, zW54), (78, 1, zW78), (145, 1, zW145), (146, 2, zW146), (159, 3, zW159)]) (.c zF128_54 zK54 (.c zF128_78 zK78 (.c zF128_145 zK145 (.c zF128_146 zK146 (.c zF128_159 zK159 .n))))) (z_h163 rfl) (by decide +kernel) (fun L S hn => match L, hn with
  | [x1, x2], _ => zE128)

-- w_rank (292)
noncomputable def zT292 : ZT := [(128, 2, [(2, (0, 0), (0, 0)), (0, (1, 0), (0, 0)), (0, (2, 0), (0, 0))], f_x_rank)]
theorem zH292 : z_ok zT292 := .c zM128 .n
theorem zF292_128 : z_F zT292 128 = f_x_rank := id rfl
def zP292_0 : List ZO := [(11, [(128, 0), (2, 0), (0, 2), (3, 3), (1, 0), (2, 0)]), (6, [(6976, 0), (0, 0), (0, 0), (0, 0), (0, 0), (3, 0)]), (0, [(0, 0)]), (0, [(0, 1)]), (0, [(0, 2)])]
def zC292 : ZC := [(0, 2, [some (2, (0, 0), (0, 0)), some (0, (1, 0), (0, 0)), some (0, (2, 0), (0, 0)), some (111, (0, 0), (0, 0)), none])]
theorem zG292 : z_go zC292 (z_A zT292) [] 292 400 true 6 zP292_0 0 [some (2, (0, 0), (0, 0)), some (0, (1, 0), (0, 0)), some (0, (2, 0), (0, 0)), some (111, (0, 0), (0, 0)), none] [] 2 = true := by decide +kernel
noncomputable def f_w_rank : ZFn := fun L S => match L with
  | [x1, x2] => (e_try (f_x_rank [x1, x2] S) (fun v1 S1 => ((0, [0]), (e_upd S1 r_out 0 0 0 v1))) [(0, 1), (3, 2)])
  | _ => ((0, []), S)
theorem zE292 {x1 x2 : Int} {S : ZS} : z_ev (z_F zT292) 6 zP292_0 [x1, x2] S = f_w_rank [x1, x2] S := id rfl
theorem zM292 : z_met 292 2 [(2, (0, 0), (0, 0)), (0, (1, 0), (0, 0)), (0, (2, 0), (0, 0)), (111, (0, 0), (0, 0))] f_w_rank := z_met_ev zH292 (fun _ _ h => absurd h List.not_mem_nil) rfl zG292 (by decide +kernel) (fun L S hn => match L, hn with
  | [x1, x2], _ => zE292)
def zW292 : List Nat := [r_x_typedCount, r_Juror_ballotSize, r_Juror_ballot, r_out]
theorem zK292 : z_kp 2 zW292 f_w_rank := z_kp_ev (KT := [(128, 2, zW128)]) (.c zF292_128 zK128 .n) (z_h163 rfl) (by decide +kernel) (fun L S hn => match L, hn with
  | [x1, x2], _ => zE292)

-- m_ballotsOf (236)
def zT236 : ZT := []
theorem zH236 : z_ok zT236 := .n
def zP236_0 : List ZO := [(2, [(4, 0), (1, 0), (0, 0), (0, 0)])]
def zP236_4 : List ZO := [(5, [(5696, 0), (0, 0), (0, 0), (1, 0)]), (3, [(3, 0), (1, 0), (3, 0), (4, 0)]), (0, [(2, 0)]), (5, [(6336, 0), (1, 0), (0, 0), (3, 0)]), (3, [(5, 0), (3, 0), (5, 0), (0, 0)]), (4, [(0, 0), (2, 0), (0, 0)]), (4, [(0, 0), (3, 0), (0, 1)]), (2, [(4, 0), (1, 0), (6, 0), (7, 0)]), (4, [(0, 0), (2, 0), (0, 1)]), (4, [(0, 0), (3, 0), (0, 1)]), (2, [(4, 0), (1, 0), (6, 0), (7, 0)])]
def zD236 : ZD := [(0, 1, [some (52, (0, 0), (0, 0)), some (0, (1, 0), (0, 0)), none, none], 2, zP236_0), (4, 3, [some (52, (0, 0), (0, 0)), some (0, (1, 0), (0, 0)), some (0, (2, 0), (0, 0)), some (0, (3, 0), (0, 0))], 12, zP236_4)]
theorem zG236 : z_chk zT236 [] 236 zD236 = true := by decide +kernel
noncomputable def g_m_ballotsOf (R : ZR) : ZR := z_psi (z_st (z_F zT236) zD236) R
noncomputable def f_m_ballotsOf : ZFn := fun L S => g_m_ballotsOf ((1000, L), S)
theorem zM236 : z_met 236 1 [(52, (0, 0), (0, 0)), (0, (1, 0), (0, 0))] f_m_ballotsOf := z_met_psi zH236 (fun _ _ h => absurd h List.not_mem_nil) rfl zG236
theorem zE236_0 {x1 : Int} {S : ZS} : z_st (z_F zT236) zD236 0 [x1] S = ((1004, [x1, 0, 0]), S) := (id rfl : z_st (z_F zT236) zD236 0 [x1] S = z_ev (z_F zT236) 2 zP236_0 [x1] S).trans (id rfl)
theorem g_m_ballotsOf_0 {x1 : Int} {S : ZS} : g_m_ballotsOf ((1000, [x1]), S) = (g_m_ballotsOf ((1004, [x1, 0, 0]), S)) := by
  unfold g_m_ballotsOf
  refine ((z_psi_go (pc := 0)).trans (congrArg _ zE236_0)).trans ?_
  try simp only [z_psi_c, z_psi_b, z_psi_n, Nat.reduceLT, decide_true]
theorem zE236_4 {x1 x2 x3 : Int} {S : ZS} : z_st (z_F zT236) zD236 4 [x1, x2, x3] S = (bif decide ((S r_m_jurorMany 0 0 x1) ≤ x3) then ((0, [x2]), S) else (bif decide ((S r_m_ballotMany_r x1 0 x3) ≤ 0) then ((1004, [x1, (e_wr (x2 + 0)), (e_wr (x3 + 1))]), S) else ((1004, [x1, (e_wr (x2 + 1)), (e_wr (x3 + 1))]), S))) := (id rfl : z_st (z_F zT236) zD236 4 [x1, x2, x3] S = z_ev (z_F zT236) 12 zP236_4 [x1, x2, x3] S).trans (id rfl)
theorem g_m_ballotsOf_4 {x1 x2 x3 : Int} {S : ZS} : g_m_ballotsOf ((1004, [x1, x2, x3]), S) = (bif decide ((S r_m_jurorMany 0 0 x1) ≤ x3) then ((0, [x2]), S) else (bif decide ((S r_m_ballotMany_r x1 0 x3) ≤ 0) then (g_m_ballotsOf ((1004, [x1, (e_wr (x2 + 0)), (e_wr (x3 + 1))]), S)) else (g_m_ballotsOf ((1004, [x1, (e_wr (x2 + 1)), (e_wr (x3 + 1))]), S)))) := by
  unfold g_m_ballotsOf
  refine ((z_psi_go (pc := 4)).trans (congrArg _ zE236_4)).trans ?_
  try simp only [z_psi_c, z_psi_b, z_psi_n, Nat.reduceLT, decide_true]
def zW236 : List Nat := []
theorem zK236 : z_kp 1 zW236 f_m_ballotsOf := fun L S hL hc r i j k hr => z_psi_kp (KT := []) (F := z_F zT236) (W := zW236) (D := zD236) (.n) (z_h163 rfl) (by decide +kernel) _ hc r i j k hr

-- m_rank (237)
noncomputable def zT237 : ZT := [(163, 2, [(52, (0, 0), (0, 0)), (0, (1, 0), (0, 0)), (0, (2, 0), (0, 0))], f_m_isThrown), (232, 2, [(52, (0, 0), (0, 0)), (0, (1, 0), (0, 0)), (0, (2, 0), (0, 0))], f_m_isNoJuror), (236, 1, [(52, (0, 0), (0, 0)), (0, (1, 0), (0, 0))], f_m_ballotsOf)]
theorem zH237 : z_ok zT237 := .c zM163 (.c zM232 (.c zM236 .n))
theorem zF237_163 : z_F zT237 163 = f_m_isThrown := id rfl
theorem zF237_232 : z_F zT237 232 = f_m_isNoJuror := id rfl
theorem zF237_236 : z_F zT237 236 = f_m_ballotsOf := id rfl
def zP237_0 : List ZO := [(7, [(232, 0), (1, 0), (2, 0)]), (13, [(163, 0), (0, 0), (3, 0), (0, 1)]), (3, [(0, 0), (4, 0), (3, 0), (0, 0)]), (5, [(3251, 0), (0, 0), (0, 0), (0, 0)]), (3, [(5, 0), (1, 0), (4, 0), (0, 0)]), (2, [(32, 0), (1, 0), (2, 0), (0, 0), (0, 0)]), (2, [(32, 0), (1, 0), (2, 0), (0, 1), (0, 0)]), (0, [(0, 0)])]
def zP237_32 : List ZO := [(5, [(3244, 0), (0, 0), (0, 0), (0, 0)]), (3, [(3, 0), (10, 0), (4, 0), (5, 0)]), (3, [(1, 0), (7, 0), (3, 0), (0, 0)]), (13, [(163, 0), (0, 0), (0, 0), (0, 2)]), (9, [(6592, 0), (0, 0), (0, 0), (0, 0), (6528, 0), (1, 0), (2, 0), (0, 0), (0, 9)]), (5, [(3251, 0), (0, 0), (0, 0), (0, 0)]), (6, [(6336, 0), (0, 0), (1, 0), (0, 0), (2, 0), (6, 0)]), (6, [(3251, 0), (0, 0), (0, 0), (0, 0), (0, 0), (0, 0)]), (7, [(236, 0), (1, 0)]), (0, [(7, 0)]), (13, [(163, 0), (0, 0), (0, 1), (0, 2)]), (0, [(0, 0)]), (2, [(47, 0), (1, 0), (2, 0), (3, 0), (4, 0), (0, 0), (0, 0)])]
def zP237_47 : List ZO := [(5, [(3251, 0), (0, 0), (0, 0), (0, 0)]), (3, [(3, 0), (31, 0), (6, 0), (7, 0)]), (5, [(3520, 0), (0, 0), (0, 0), (4, 0)]), (3, [(1, 0), (7, 0), (8, 0), (1, 0)]), (3, [(1, 0), (3, 0), (5, 0), (0, 0)]), (4, [(5, 0), (3, 0), (0, 0)]), (4, [(0, 0), (4, 0), (0, 1)]), (2, [(32, 0), (1, 0), (2, 0), (9, 0), (10, 0)]), (4, [(5, 0), (3, 0), (0, 1)]), (4, [(0, 0), (4, 0), (0, 1)]), (2, [(32, 0), (1, 0), (2, 0), (9, 0), (10, 0)]), (5, [(3392, 0), (0, 0), (0, 0), (4, 0)]), (5, [(5824, 0), (1, 0), (0, 0), (2, 0)]), (3, [(0, 0), (7, 0), (9, 0), (10, 0)]), (3, [(1, 0), (3, 0), (5, 0), (0, 0)]), (4, [(5, 0), (3, 0), (0, 0)]), (4, [(0, 0), (4, 0), (0, 1)]), (2, [(32, 0), (1, 0), (2, 0), (11, 0), (12, 0)]), (4, [(5, 0), (3, 0), (0, 1)]), (4, [(0, 0), (4, 0), (0, 1)]), (2, [(32, 0), (1, 0), (2, 0), (11, 0), (12, 0)]), (3, [(1, 0), (3, 0), (5, 0), (0, 1)]), (4, [(5, 0), (3, 0), (0, 0)]), (4, [(0, 0), (4, 0), (0, 1)]), (2, [(32, 0), (1, 0), (2, 0), (11, 0), (12, 0)]), (5, [(6016, 0), (1, 0), (2, 0), (4, 0)]), (3, [(0, 0), (3, 0), (11, 0), (0, 0)]), (4, [(5, 0), (3, 0), (0, 0)]), (4, [(0, 0), (4, 0), (0, 1)]), (2, [(32, 0), (1, 0), (2, 0), (12, 0), (13, 0)]), (4, [(5, 0), (3, 0), (0, 1)]), (4, [(0, 0), (4, 0), (0, 1)]), (2, [(32, 0), (1, 0), (2, 0), (12, 0), (13, 0)]), (5, [(6592, 0), (0, 0), (0, 0), (6, 0)]), (3, [(1, 0), (3, 0), (8, 0), (4, 0)]), (4, [(0, 0), (5, 0), (0, 0)]), (4, [(0, 0), (6, 0), (0, 1)]), (2, [(47, 0), (1, 0), (2, 0), (3, 0), (4, 0), (9, 0), (10, 0)]), (4, [(0, 0), (5, 0), (0, 1)]), (4, [(0, 0), (6, 0), (0, 1)]), (2, [(47, 0), (1, 0), (2, 0), (3, 0), (4, 0), (9, 0), (10, 0)])]
def zD237 : ZD := [(0, 2, [some (52, (0, 0), (0, 0)), some (0, (1, 0), (0, 0)), some (0, (2, 0), (0, 0)), none, none, none, none], 9, zP237_0), (32, 4, [some (52, (0, 0), (0, 0)), some (0, (1, 0), (0, 0)), some (0, (2, 0), (0, 0)), some (0, (3, 0), (0, 0)), some (0, (4, 0), (0, 0)), none, none], 14, zP237_32), (47, 6, [some (52, (0, 0), (0, 0)), some (0, (1, 0), (0, 0)), some (0, (2, 0), (0, 0)), some (0, (3, 0), (0, 0)), some (0, (4, 0), (0, 0)), some (0, (5, 0), (0, 0)), some (0, (6, 0), (0, 0))], 42, zP237_47)]
theorem zG237 : z_chk zT237 [(163, 0)] 237 zD237 = true := by decide +kernel
noncomputable def g_m_rank (R : ZR) : ZR := z_psi (z_st (z_F zT237) zD237) R
noncomputable def f_m_rank : ZFn := fun L S => g_m_rank ((1000, L), S)
theorem zM237 : z_met 237 2 [(52, (0, 0), (0, 0)), (0, (1, 0), (0, 0)), (0, (2, 0), (0, 0))] f_m_rank := z_met_psi zH237 (fun _ _ h => by rw [List.mem_singleton] at h; cases h; exact fun _ _ => rfl) rfl zG237
theorem zE237_0 {x1 x2 : Int} {S : ZS} : z_st (z_F zT237) zD237 0 [x1, x2] S = (bif decide ((v_m_isNoJuror x1 x2 S) = 0) then (bif decide ((S r_m_typedMany 0 0 0) ≤ 0) then ((1032, [x1, x2, 0, 0]), (e_upd S r_m_thrown 0 0 0 (bif !decide ((v_m_isNoJuror x1 x2 S) = 0) then 1 else 0))) else ((1032, [x1, x2, 1, 0]), (e_upd S r_m_thrown 0 0 0 (bif !decide ((v_m_isNoJuror x1 x2 S) = 0) then 1 else 0)))) else ((0, [0]), (e_upd S r_m_thrown 0 0 0 (bif !decide ((v_m_isNoJuror x1 x2 S) = 0) then 1 else 0)))) := (id rfl : z_st (z_F zT237) zD237 0 [x1, x2] S = z_ev (z_F zT237) 9 zP237_0 [x1, x2] S).trans (id rfl)
theorem g_m_rank_0 {x1 x2 : Int} {S : ZS} : g_m_rank ((1000, [x1, x2]), S) = (bif decide ((v_m_isNoJuror x1 x2 S) = 0) then (bif decide ((S r_m_typedMany 0 0 0) ≤ 0) then (g_m_rank ((1032, [x1, x2, 0, 0]), (e_upd S r_m_thrown 0 0 0 (bif !decide ((v_m_isNoJuror x1 x2 S) = 0) then 1 else 0)))) else (g_m_rank ((1032, [x1, x2, 1, 0]), (e_upd S r_m_thrown 0 0 0 (bif !decide ((v_m_isNoJuror x1 x2 S) = 0) then 1 else 0))))) else ((0, [0]), (e_upd S r_m_thrown 0 0 0 (bif !decide ((v_m_isNoJuror x1 x2 S) = 0) then 1 else 0)))) := by
  unfold g_m_rank
  refine ((z_psi_go (pc := 0)).trans (congrArg _ zE237_0)).trans ?_
  try simp only [z_psi_c, z_psi_b, z_psi_n, Nat.reduceLT, decide_true]
theorem zE237_32 {x1 x2 x3 x4 : Int} {S : ZS} : z_st (z_F zT237) zD237 32 [x1, x2, x3, x4] S = (bif decide ((S r_m_films 0 0 0) ≤ x4) then (bif !decide (x3 = 0) then (e_bind (f_m_ballotsOf [x1] (e_upd (e_upd (e_acp (e_upd S r_m_thrown 0 0 0 0) r_m_typed 0 0 0 r_m_ballots_r_r x1 x2 0 9) r_m_ballotMany_r x1 0 x2 ((e_acp (e_upd S r_m_thrown 0 0 0 0) r_m_typed 0 0 0 r_m_ballots_r_r x1 x2 0 9) r_m_typedMany 0 0 0)) r_m_typedMany 0 0 0 0)) (fun v1 S1 => ((0, [v1]), S1))) else ((0, [0]), (e_upd S r_m_thrown 0 0 0 2))) else ((1047, [x1, x2, x3, x4, 0, 0]), S)) := (id rfl : z_st (z_F zT237) zD237 32 [x1, x2, x3, x4] S = z_ev (z_F zT237) 14 zP237_32 [x1, x2, x3, x4] S).trans (by
  simp -implicitDefEqProofs only [zP237_32, zF237_163, zF237_232, zF237_236, zpI0, zpI1, zpIc, pF_m_isNoJuror, Nat.zero_add, Nat.reduceAdd, Nat.reduceBEq, Int.reduceToNat, z_e0, z_e1, z_e2, z_e3, z_e4, z_e5, z_e6, z_e7, z_e8, z_e11, z_e13, o_v0, o_v1, o_v2, List.cons_append, List.nil_append, List.map_cons, List.map_nil, List.drop_succ_cons, List.drop_zero, List.take_succ_cons, List.take_zero, e_c0, e_c1, e_c2, e_c3, e_c4, e_c5, e_b0, e_b1, e_b2, e_b3, e_b4, e_b5, e_b6, e_b7, e_b8, e_b9, e_b10, e_b11, e_b12, e_b13, e_b14, e_b15, e_b16, e_b17, e_n0, e_bnd, e_un]
  try rfl)
theorem g_m_rank_32 {x1 x2 x3 x4 : Int} {S : ZS} : g_m_rank ((1032, [x1, x2, x3, x4]), S) = (bif decide ((S r_m_films 0 0 0) ≤ x4) then (bif !decide (x3 = 0) then (e_bind (f_m_ballotsOf [x1] (e_upd (e_upd (e_acp (e_upd S r_m_thrown 0 0 0 0) r_m_typed 0 0 0 r_m_ballots_r_r x1 x2 0 9) r_m_ballotMany_r x1 0 x2 ((e_acp (e_upd S r_m_thrown 0 0 0 0) r_m_typed 0 0 0 r_m_ballots_r_r x1 x2 0 9) r_m_typedMany 0 0 0)) r_m_typedMany 0 0 0 0)) (fun v1 S1 => ((0, [v1]), S1))) else ((0, [0]), (e_upd S r_m_thrown 0 0 0 2))) else (g_m_rank ((1047, [x1, x2, x3, x4, 0, 0]), S))) := by
  unfold g_m_rank
  refine ((z_psi_go (pc := 32)).trans (congrArg _ zE237_32)).trans ?_
  try simp only [z_psi_c, z_psi_b, z_psi_n, Nat.reduceLT, decide_true]
theorem zE237_47 {x1 x2 x3 x4 x5 x6 : Int} {S : ZS} : z_st (z_F zT237) zD237 47 [x1, x2, x3, x4, x5, x6] S = (bif decide ((S r_m_typedMany 0 0 0) ≤ x6) then (bif !decide ((S r_m_sections 0 0 x4) = x1) then (bif !decide (x5 = 0) then ((1032, [x1, x2, (e_and x3 0), (e_wr (x4 + 1))]), S) else ((1032, [x1, x2, (e_and x3 1), (e_wr (x4 + 1))]), S)) else (bif decide ((S r_m_lands 0 0 x4) = (S r_m_jurorLands_r x1 0 x2)) then (bif !decide (x5 = 0) then ((1032, [x1, x2, (e_and x3 0), (e_wr (x4 + 1))]), S) else ((1032, [x1, x2, (e_and x3 1), (e_wr (x4 + 1))]), S)) else (bif !decide (x5 = 1) then ((1032, [x1, x2, (e_and x3 0), (e_wr (x4 + 1))]), S) else (bif decide ((S r_m_haveSeen_r_r x1 x2 x4) = 0) then ((1032, [x1, x2, (e_and x3 0), (e_wr (x4 + 1))]), S) else ((1032, [x1, x2, (e_and x3 1), (e_wr (x4 + 1))]), S))))) else (bif !decide ((S r_m_typed 0 0 x6) = x4) then ((1047, [x1, x2, x3, x4, (e_wr (x5 + 0)), (e_wr (x6 + 1))]), S) else ((1047, [x1, x2, x3, x4, (e_wr (x5 + 1)), (e_wr (x6 + 1))]), S))) := (id rfl : z_st (z_F zT237) zD237 47 [x1, x2, x3, x4, x5, x6] S = z_ev (z_F zT237) 42 zP237_47 [x1, x2, x3, x4, x5, x6] S).trans (by
  simp -implicitDefEqProofs only [zP237_47, zF237_163, zF237_232, zF237_236, zpI0, zpI1, zpIc, pF_m_isNoJuror, Nat.zero_add, Nat.reduceAdd, Nat.reduceBEq, Int.reduceToNat, z_e0, z_e1, z_e2, z_e3, z_e4, z_e5, z_e6, z_e7, z_e8, z_e11, z_e13, o_v0, o_v1, o_v2, List.cons_append, List.nil_append, List.map_cons, List.map_nil, List.drop_succ_cons, List.drop_zero, List.take_succ_cons, List.take_zero, e_c0, e_c1, e_c2, e_c3, e_c4, e_c5, e_b0, e_b1, e_b2, e_b3, e_b4, e_b5, e_b6, e_b7, e_b8, e_b9, e_b10, e_b11, e_b12, e_b13, e_b14, e_b15, e_b16, e_b17, e_n0, e_bnd, e_un]
  try rfl)
theorem g_m_rank_47 {x1 x2 x3 x4 x5 x6 : Int} {S : ZS} : g_m_rank ((1047, [x1, x2, x3, x4, x5, x6]), S) = (bif decide ((S r_m_typedMany 0 0 0) ≤ x6) then (bif !decide ((S r_m_sections 0 0 x4) = x1) then (bif !decide (x5 = 0) then (g_m_rank ((1032, [x1, x2, (e_and x3 0), (e_wr (x4 + 1))]), S)) else (g_m_rank ((1032, [x1, x2, (e_and x3 1), (e_wr (x4 + 1))]), S))) else (bif decide ((S r_m_lands 0 0 x4) = (S r_m_jurorLands_r x1 0 x2)) then (bif !decide (x5 = 0) then (g_m_rank ((1032, [x1, x2, (e_and x3 0), (e_wr (x4 + 1))]), S)) else (g_m_rank ((1032, [x1, x2, (e_and x3 1), (e_wr (x4 + 1))]), S))) else (bif !decide (x5 = 1) then (g_m_rank ((1032, [x1, x2, (e_and x3 0), (e_wr (x4 + 1))]), S)) else (bif decide ((S r_m_haveSeen_r_r x1 x2 x4) = 0) then (g_m_rank ((1032, [x1, x2, (e_and x3 0), (e_wr (x4 + 1))]), S)) else (g_m_rank ((1032, [x1, x2, (e_and x3 1), (e_wr (x4 + 1))]), S)))))) else (bif !decide ((S r_m_typed 0 0 x6) = x4) then (g_m_rank ((1047, [x1, x2, x3, x4, (e_wr (x5 + 0)), (e_wr (x6 + 1))]), S)) else (g_m_rank ((1047, [x1, x2, x3, x4, (e_wr (x5 + 1)), (e_wr (x6 + 1))]), S)))) := by
  unfold g_m_rank
  refine ((z_psi_go (pc := 47)).trans (congrArg _ zE237_47)).trans ?_
  try simp only [z_psi_c, z_psi_b, z_psi_n, Nat.reduceLT, decide_true]
def zW237 : List Nat := [r_m_typedMany, r_m_thrown, r_m_ballotMany_r, r_m_ballots_r_r]
theorem zK237 : z_kp 2 zW237 f_m_rank := fun L S hL hc r i j k hr => z_psi_kp (KT := [(163, 2, zW163), (232, 2, zW232), (236, 1, zW236)]) (F := z_F zT237) (W := zW237) (D := zD237) (.c zF237_163 zK163 (.c zF237_232 zK232 (.c zF237_236 zK236 .n))) (fun _ _ => Or.inl rfl) (by decide +kernel) _ hc r i j k hr

-- Count_dropWithdrawn (5)
def zT5 : ZT := []
theorem zH5 : z_ok zT5 := .n
def zP5_0 : List ZO := [(2, [(2, 0), (0, 0)])]
def zP5_2 : List ZO := [(3, [(3, 0), (1, 0), (1, 0), (0, 20)]), (0, []), (5, [(191, 0), (0, 0), (0, 0), (0, 0)]), (3, [(3, 0), (1, 0), (1, 0), (2, 0)]), (0, []), (5, [(196, 0), (1, 0), (0, 0), (0, 0)]), (6, [(2304, 0), (1, 0), (0, 0), (0, 0), (1, 0), (3, 0)]), (4, [(0, 0), (1, 0), (0, 1)]), (2, [(2, 0), (4, 0)])]
def zD5 : ZD := [(0, 0, [some (37, (0, 0), (0, 0)), some (4, (0, 0), (0, 0)), none], 2, zP5_0), (2, 1, [some (37, (0, 0), (0, 0)), some (4, (0, 0), (0, 0)), some (0, (1, 0), (0, 0))], 10, zP5_2)]
theorem zG5 : z_chk zT5 [] 5 zD5 = true := by decide +kernel
noncomputable def g_Count_dropWithdrawn (R : ZR) : ZR := z_psi (z_st (z_F zT5) zD5) R
noncomputable def f_Count_dropWithdrawn : ZFn := fun L S => g_Count_dropWithdrawn ((1000, L), S)
theorem zM5 : z_met 5 0 [(37, (0, 0), (0, 0)), (4, (0, 0), (0, 0))] f_Count_dropWithdrawn := z_met_psi zH5 (fun _ _ h => absurd h List.not_mem_nil) rfl zG5
theorem zE5_0 {S : ZS} : z_st (z_F zT5) zD5 0 [] S = ((1002, [0]), S) := (id rfl : z_st (z_F zT5) zD5 0 [] S = z_ev (z_F zT5) 2 zP5_0 [] S).trans (id rfl)
theorem g_Count_dropWithdrawn_0 {S : ZS} : g_Count_dropWithdrawn ((1000, []), S) = (g_Count_dropWithdrawn ((1002, [0]), S)) := by
  unfold g_Count_dropWithdrawn
  refine ((z_psi_go (pc := 0)).trans (congrArg _ zE5_0)).trans ?_
  try simp only [z_psi_c, z_psi_b, z_psi_n, Nat.reduceLT, decide_true]
theorem zE5_2 {x1 : Int} {S : ZS} : z_st (z_F zT5) zD5 2 [x1] S = (bif decide (20 ≤ x1) then ((0, []), S) else (bif decide ((S r_Grid_films_len 0 0 0) ≤ x1) then ((0, []), S) else ((1002, [(e_wr (x1 + 1))]), (e_upd S r_Count_isOut 0 0 x1 (e_nar 1 (S r_Film_isWithdrawn x1 0 0)))))) := (id rfl : z_st (z_F zT5) zD5 2 [x1] S = z_ev (z_F zT5) 10 zP5_2 [x1] S).trans (id rfl)
theorem g_Count_dropWithdrawn_2 {x1 : Int} {S : ZS} : g_Count_dropWithdrawn ((1002, [x1]), S) = (bif decide (20 ≤ x1) then ((0, []), S) else (bif decide ((S r_Grid_films_len 0 0 0) ≤ x1) then ((0, []), S) else (g_Count_dropWithdrawn ((1002, [(e_wr (x1 + 1))]), (e_upd S r_Count_isOut 0 0 x1 (e_nar 1 (S r_Film_isWithdrawn x1 0 0))))))) := by
  unfold g_Count_dropWithdrawn
  refine ((z_psi_go (pc := 2)).trans (congrArg _ zE5_2)).trans ?_
  try simp only [z_psi_c, z_psi_b, z_psi_n, Nat.reduceLT, decide_true]
def zW5 : List Nat := [r_Count_isOut]
theorem zK5 : z_kp 0 zW5 f_Count_dropWithdrawn := fun L S hL hc r i j k hr => z_psi_kp (KT := []) (F := z_F zT5) (W := zW5) (D := zD5) (.n) (z_h163 rfl) (by decide +kernel) _ hc r i j k hr

-- Count_placeOn (6)
def zT6 : ZT := []
theorem zH6 : z_ok zT6 := .n
def zP6_0 : List ZO := [(2, [(2, 0), (1, 0), (2, 0), (3, 0), (0, 0)])]
def zP6_2 : List ZO := [(5, [(1477, 0), (1, 0), (2, 0), (0, 0)]), (3, [(3, 0), (1, 0), (4, 0), (5, 0)]), (0, [(0, (-1))]), (5, [(1600, 0), (1, 0), (2, 0), (4, 0)]), (3, [(1, 0), (2, 0), (6, 0), (3, 0)]), (4, [(0, 0), (4, 0), (0, 1)]), (2, [(2, 0), (1, 0), (2, 0), (3, 0), (7, 0)]), (0, [(4, 0)])]
def zD6 : ZD := [(0, 3, [some (37, (0, 0), (0, 0)), some (25, (1, 0), (2, 0)), some (0, (3, 0), (0, 0)), none], 2, zP6_0), (2, 4, [none, some (25, (1, 0), (2, 0)), some (0, (3, 0), (0, 0)), some (0, (4, 0), (0, 0))], 9, zP6_2)]
theorem zG6 : z_chk zT6 [] 6 zD6 = true := by decide +kernel
noncomputable def g_Count_placeOn (R : ZR) : ZR := z_psi (z_st (z_F zT6) zD6) R
noncomputable def f_Count_placeOn : ZFn := fun L S => g_Count_placeOn ((1000, L), S)
theorem zM6 : z_met 6 3 [(37, (0, 0), (0, 0)), (25, (1, 0), (2, 0)), (0, (3, 0), (0, 0))] f_Count_placeOn := z_met_psi zH6 (fun _ _ h => absurd h List.not_mem_nil) rfl zG6
theorem zE6_0 {x1 x2 x3 : Int} {S : ZS} : z_st (z_F zT6) zD6 0 [x1, x2, x3] S = ((1002, [x1, x2, x3, 0]), S) := (id rfl : z_st (z_F zT6) zD6 0 [x1, x2, x3] S = z_ev (z_F zT6) 2 zP6_0 [x1, x2, x3] S).trans (id rfl)
theorem g_Count_placeOn_0 {x1 x2 x3 : Int} {S : ZS} : g_Count_placeOn ((1000, [x1, x2, x3]), S) = (g_Count_placeOn ((1002, [x1, x2, x3, 0]), S)) := by
  unfold g_Count_placeOn
  refine ((z_psi_go (pc := 0)).trans (congrArg _ zE6_0)).trans ?_
  try simp only [z_psi_c, z_psi_b, z_psi_n, Nat.reduceLT, decide_true]
theorem zE6_2 {x1 x2 x3 x4 : Int} {S : ZS} : z_st (z_F zT6) zD6 2 [x1, x2, x3, x4] S = (bif decide ((S r_Juror_ballotSize x1 x2 0) ≤ x4) then ((0, [(-1)]), S) else (bif !decide ((S r_Juror_ballot x1 x2 x4) = x3) then ((1002, [x1, x2, x3, (e_wr (x4 + 1))]), S) else ((0, [x4]), S))) := (id rfl : z_st (z_F zT6) zD6 2 [x1, x2, x3, x4] S = z_ev (z_F zT6) 9 zP6_2 [x1, x2, x3, x4] S).trans (id rfl)
theorem g_Count_placeOn_2 {x1 x2 x3 x4 : Int} {S : ZS} : g_Count_placeOn ((1002, [x1, x2, x3, x4]), S) = (bif decide ((S r_Juror_ballotSize x1 x2 0) ≤ x4) then ((0, [(-1)]), S) else (bif !decide ((S r_Juror_ballot x1 x2 x4) = x3) then (g_Count_placeOn ((1002, [x1, x2, x3, (e_wr (x4 + 1))]), S)) else ((0, [x4]), S))) := by
  unfold g_Count_placeOn
  refine ((z_psi_go (pc := 2)).trans (congrArg _ zE6_2)).trans ?_
  try simp only [z_psi_c, z_psi_b, z_psi_n, Nat.reduceLT, decide_true]
def zW6 : List Nat := []
theorem zK6 : z_kp 3 zW6 f_Count_placeOn := fun L S hL hc r i j k hr => z_psi_kp (KT := []) (F := z_F zT6) (W := zW6) (D := zD6) (.n) (z_h163 rfl) (by decide +kernel) _ hc r i j k hr

-- Count_isRanked (8)
noncomputable def zT8 : ZT := [(6, 3, [(37, (0, 0), (0, 0)), (25, (1, 0), (2, 0)), (0, (3, 0), (0, 0))], f_Count_placeOn)]
theorem zH8 : z_ok zT8 := .c zM6 .n
theorem zF8_6 : z_F zT8 6 = f_Count_placeOn := id rfl
def zP8_0 : List ZO := [(2, [(2, 0), (1, 0), (2, 0), (0, 0)])]
def zP8_2 : List ZO := [(5, [(1352, 0), (1, 0), (0, 0), (0, 0)]), (3, [(3, 0), (1, 0), (3, 0), (4, 0)]), (0, [(0, 0)]), (5, [(2304, 0), (0, 0), (0, 0), (2, 0)]), (3, [(1, 0), (2, 0), (5, 0), (0, 0)]), (4, [(0, 0), (3, 0), (0, 1)]), (2, [(2, 0), (1, 0), (2, 0), (6, 0)]), (7, [(6, 0), (1, 0), (3, 0), (2, 0)]), (3, [(0, 0), (2, 0), (6, 0), (0, (-1))]), (4, [(0, 0), (3, 0), (0, 1)]), (2, [(2, 0), (1, 0), (2, 0), (7, 0)]), (0, [(0, 1)])]
def zD8 : ZD := [(0, 2, [some (37, (0, 0), (0, 0)), some (23, (1, 0), (0, 0)), some (0, (2, 0), (0, 0)), none], 2, zP8_0), (2, 3, [some (37, (0, 0), (0, 0)), some (23, (1, 0), (0, 0)), some (0, (2, 0), (0, 0)), some (0, (3, 0), (0, 0))], 13, zP8_2)]
theorem zG8 : z_chk zT8 [] 8 zD8 = true := by decide +kernel
noncomputable def g_Count_isRanked (R : ZR) : ZR := z_psi (z_st (z_F zT8) zD8) R
noncomputable def f_Count_isRanked : ZFn := fun L S => g_Count_isRanked ((1000, L), S)
theorem zM8 : z_met 8 2 [(37, (0, 0), (0, 0)), (23, (1, 0), (0, 0)), (0, (2, 0), (0, 0))] f_Count_isRanked := z_met_psi zH8 (fun _ _ h => absurd h List.not_mem_nil) rfl zG8
theorem zE8_0 {x1 x2 : Int} {S : ZS} : z_st (z_F zT8) zD8 0 [x1, x2] S = ((1002, [x1, x2, 0]), S) := (id rfl : z_st (z_F zT8) zD8 0 [x1, x2] S = z_ev (z_F zT8) 2 zP8_0 [x1, x2] S).trans (id rfl)
theorem g_Count_isRanked_0 {x1 x2 : Int} {S : ZS} : g_Count_isRanked ((1000, [x1, x2]), S) = (g_Count_isRanked ((1002, [x1, x2, 0]), S)) := by
  unfold g_Count_isRanked
  refine ((z_psi_go (pc := 0)).trans (congrArg _ zE8_0)).trans ?_
  try simp only [z_psi_c, z_psi_b, z_psi_n, Nat.reduceLT, decide_true]
theorem zE8_2 {x1 x2 x3 : Int} {S : ZS} : z_st (z_F zT8) zD8 2 [x1, x2, x3] S = (bif decide ((S r_Section_jurorCount x1 0 0) ≤ x3) then ((0, [0]), S) else (bif !decide ((S r_Count_isOut 0 0 x2) = 0) then ((1002, [x1, x2, (e_wr (x3 + 1))]), S) else (e_bind (f_Count_placeOn [x1, x3, x2] S) (fun v1 S1 => (bif decide (v1 = (-1)) then ((1002, [x1, x2, (e_wr (x3 + 1))]), S1) else ((0, [1]), S1)))))) := (id rfl : z_st (z_F zT8) zD8 2 [x1, x2, x3] S = z_ev (z_F zT8) 13 zP8_2 [x1, x2, x3] S).trans (id rfl)
theorem g_Count_isRanked_2 {x1 x2 x3 : Int} {S : ZS} : g_Count_isRanked ((1002, [x1, x2, x3]), S) = (bif decide ((S r_Section_jurorCount x1 0 0) ≤ x3) then ((0, [0]), S) else (bif !decide ((S r_Count_isOut 0 0 x2) = 0) then (g_Count_isRanked ((1002, [x1, x2, (e_wr (x3 + 1))]), S)) else (e_bind (f_Count_placeOn [x1, x3, x2] S) (fun v1 S1 => (bif decide (v1 = (-1)) then (g_Count_isRanked ((1002, [x1, x2, (e_wr (x3 + 1))]), S1)) else ((0, [1]), S1)))))) := by
  unfold g_Count_isRanked
  refine ((z_psi_go (pc := 2)).trans (congrArg _ zE8_2)).trans ?_
  try simp only [z_psi_c, z_psi_b, z_psi_n, Nat.reduceLT, decide_true]
def zW8 : List Nat := []
theorem zK8 : z_kp 2 zW8 f_Count_isRanked := fun L S hL hc r i j k hr => z_psi_kp (KT := [(6, 3, zW6)]) (F := z_F zT8) (W := zW8) (D := zD8) (.c zF8_6 zK6 .n) (z_h163 rfl) (by decide +kernel) _ hc r i j k hr

-- Count_firstOn (7)
def zT7 : ZT := []
theorem zH7 : z_ok zT7 := .n
def zP7_0 : List ZO := [(2, [(2, 0), (1, 0), (2, 0), (0, 0)])]
def zP7_2 : List ZO := [(5, [(1477, 0), (1, 0), (2, 0), (0, 0)]), (3, [(3, 0), (1, 0), (3, 0), (4, 0)]), (0, [(0, (-1))]), (5, [(1600, 0), (1, 0), (2, 0), (3, 0)]), (5, [(2304, 0), (0, 0), (0, 0), (5, 0)]), (3, [(1, 0), (2, 0), (6, 0), (0, 0)]), (4, [(0, 0), (3, 0), (0, 1)]), (2, [(2, 0), (1, 0), (2, 0), (7, 0)]), (5, [(1600, 0), (1, 0), (2, 0), (3, 0)]), (0, [(7, 0)])]
def zD7 : ZD := [(0, 2, [some (37, (0, 0), (0, 0)), some (25, (1, 0), (2, 0)), none], 2, zP7_0), (2, 3, [some (37, (0, 0), (0, 0)), some (25, (1, 0), (2, 0)), some (0, (3, 0), (0, 0))], 11, zP7_2)]
theorem zG7 : z_chk zT7 [] 7 zD7 = true := by decide +kernel
noncomputable def g_Count_firstOn (R : ZR) : ZR := z_psi (z_st (z_F zT7) zD7) R
noncomputable def f_Count_firstOn : ZFn := fun L S => g_Count_firstOn ((1000, L), S)
theorem zM7 : z_met 7 2 [(37, (0, 0), (0, 0)), (25, (1, 0), (2, 0))] f_Count_firstOn := z_met_psi zH7 (fun _ _ h => absurd h List.not_mem_nil) rfl zG7
theorem zE7_0 {x1 x2 : Int} {S : ZS} : z_st (z_F zT7) zD7 0 [x1, x2] S = ((1002, [x1, x2, 0]), S) := (id rfl : z_st (z_F zT7) zD7 0 [x1, x2] S = z_ev (z_F zT7) 2 zP7_0 [x1, x2] S).trans (id rfl)
theorem g_Count_firstOn_0 {x1 x2 : Int} {S : ZS} : g_Count_firstOn ((1000, [x1, x2]), S) = (g_Count_firstOn ((1002, [x1, x2, 0]), S)) := by
  unfold g_Count_firstOn
  refine ((z_psi_go (pc := 0)).trans (congrArg _ zE7_0)).trans ?_
  try simp only [z_psi_c, z_psi_b, z_psi_n, Nat.reduceLT, decide_true]
theorem zE7_2 {x1 x2 x3 : Int} {S : ZS} : z_st (z_F zT7) zD7 2 [x1, x2, x3] S = (bif decide ((S r_Juror_ballotSize x1 x2 0) ≤ x3) then ((0, [(-1)]), S) else (bif !decide ((S r_Count_isOut 0 0 (S r_Juror_ballot x1 x2 x3)) = 0) then ((1002, [x1, x2, (e_wr (x3 + 1))]), S) else ((0, [(S r_Juror_ballot x1 x2 x3)]), S))) := (id rfl : z_st (z_F zT7) zD7 2 [x1, x2, x3] S = z_ev (z_F zT7) 11 zP7_2 [x1, x2, x3] S).trans (id rfl)
theorem g_Count_firstOn_2 {x1 x2 x3 : Int} {S : ZS} : g_Count_firstOn ((1002, [x1, x2, x3]), S) = (bif decide ((S r_Juror_ballotSize x1 x2 0) ≤ x3) then ((0, [(-1)]), S) else (bif !decide ((S r_Count_isOut 0 0 (S r_Juror_ballot x1 x2 x3)) = 0) then (g_Count_firstOn ((1002, [x1, x2, (e_wr (x3 + 1))]), S)) else ((0, [(S r_Juror_ballot x1 x2 x3)]), S))) := by
  unfold g_Count_firstOn
  refine ((z_psi_go (pc := 2)).trans (congrArg _ zE7_2)).trans ?_
  try simp only [z_psi_c, z_psi_b, z_psi_n, Nat.reduceLT, decide_true]
def zW7 : List Nat := []
theorem zK7 : z_kp 2 zW7 f_Count_firstOn := fun L S hL hc r i j k hr => z_psi_kp (KT := []) (F := z_F zT7) (W := zW7) (D := zD7) (.n) (z_h163 rfl) (by decide +kernel) _ hc r i j k hr

-- Count_firstsOf (9)
noncomputable def zT9 : ZT := [(7, 2, [(37, (0, 0), (0, 0)), (25, (1, 0), (2, 0))], f_Count_firstOn)]
theorem zH9 : z_ok zT9 := .c zM7 .n
theorem zF9_7 : z_F zT9 7 = f_Count_firstOn := id rfl
def zP9_0 : List ZO := [(2, [(5, 0), (1, 0), (2, 0), (0, 0), (0, 0)])]
def zP9_5 : List ZO := [(5, [(1352, 0), (1, 0), (0, 0), (0, 0)]), (3, [(3, 0), (1, 0), (4, 0), (5, 0)]), (0, [(3, 0)]), (7, [(7, 0), (1, 0), (4, 0)]), (3, [(1, 0), (2, 0), (6, 0), (2, 0)]), (4, [(0, 0), (4, 0), (0, 1)]), (2, [(5, 0), (1, 0), (2, 0), (3, 0), (7, 0)]), (4, [(0, 0), (3, 0), (0, 1)]), (4, [(0, 0), (4, 0), (0, 1)]), (2, [(5, 0), (1, 0), (2, 0), (7, 0), (8, 0)])]
def zD9 : ZD := [(0, 2, [some (37, (0, 0), (0, 0)), some (23, (1, 0), (0, 0)), some (0, (2, 0), (0, 0)), none, none], 2, zP9_0), (5, 4, [some (37, (0, 0), (0, 0)), some (23, (1, 0), (0, 0)), some (0, (2, 0), (0, 0)), some (0, (3, 0), (0, 0)), some (0, (4, 0), (0, 0))], 11, zP9_5)]
theorem zG9 : z_chk zT9 [] 9 zD9 = true := by decide +kernel
noncomputable def g_Count_firstsOf (R : ZR) : ZR := z_psi (z_st (z_F zT9) zD9) R
noncomputable def f_Count_firstsOf : ZFn := fun L S => g_Count_firstsOf ((1000, L), S)
theorem zM9 : z_met 9 2 [(37, (0, 0), (0, 0)), (23, (1, 0), (0, 0)), (0, (2, 0), (0, 0))] f_Count_firstsOf := z_met_psi zH9 (fun _ _ h => absurd h List.not_mem_nil) rfl zG9
theorem zE9_0 {x1 x2 : Int} {S : ZS} : z_st (z_F zT9) zD9 0 [x1, x2] S = ((1005, [x1, x2, 0, 0]), S) := (id rfl : z_st (z_F zT9) zD9 0 [x1, x2] S = z_ev (z_F zT9) 2 zP9_0 [x1, x2] S).trans (id rfl)
theorem g_Count_firstsOf_0 {x1 x2 : Int} {S : ZS} : g_Count_firstsOf ((1000, [x1, x2]), S) = (g_Count_firstsOf ((1005, [x1, x2, 0, 0]), S)) := by
  unfold g_Count_firstsOf
  refine ((z_psi_go (pc := 0)).trans (congrArg _ zE9_0)).trans ?_
  try simp only [z_psi_c, z_psi_b, z_psi_n, Nat.reduceLT, decide_true]
theorem zE9_5 {x1 x2 x3 x4 : Int} {S : ZS} : z_st (z_F zT9) zD9 5 [x1, x2, x3, x4] S = (bif decide ((S r_Section_jurorCount x1 0 0) ≤ x4) then ((0, [x3]), S) else (e_bind (f_Count_firstOn [x1, x4] S) (fun v1 S1 => (bif !decide (v1 = x2) then ((1005, [x1, x2, x3, (e_wr (x4 + 1))]), S1) else ((1005, [x1, x2, (e_wr (x3 + 1)), (e_wr (x4 + 1))]), S1))))) := (id rfl : z_st (z_F zT9) zD9 5 [x1, x2, x3, x4] S = z_ev (z_F zT9) 11 zP9_5 [x1, x2, x3, x4] S).trans (id rfl)
theorem g_Count_firstsOf_5 {x1 x2 x3 x4 : Int} {S : ZS} : g_Count_firstsOf ((1005, [x1, x2, x3, x4]), S) = (bif decide ((S r_Section_jurorCount x1 0 0) ≤ x4) then ((0, [x3]), S) else (e_bind (f_Count_firstOn [x1, x4] S) (fun v1 S1 => (bif !decide (v1 = x2) then (g_Count_firstsOf ((1005, [x1, x2, x3, (e_wr (x4 + 1))]), S1)) else (g_Count_firstsOf ((1005, [x1, x2, (e_wr (x3 + 1)), (e_wr (x4 + 1))]), S1)))))) := by
  unfold g_Count_firstsOf
  refine ((z_psi_go (pc := 5)).trans (congrArg _ zE9_5)).trans ?_
  try simp only [z_psi_c, z_psi_b, z_psi_n, Nat.reduceLT, decide_true]
def zW9 : List Nat := []
theorem zK9 : z_kp 2 zW9 f_Count_firstsOf := fun L S hL hc r i j k hr => z_psi_kp (KT := [(7, 2, zW7)]) (F := z_F zT9) (W := zW9) (D := zD9) (.c zF9_7 zK7 .n) (z_h163 rfl) (by decide +kernel) _ hc r i j k hr

-- Count_pointsOf (10)
noncomputable def zT10 : ZT := [(6, 3, [(37, (0, 0), (0, 0)), (25, (1, 0), (2, 0)), (0, (3, 0), (0, 0))], f_Count_placeOn)]
theorem zH10 : z_ok zT10 := .c zM6 .n
theorem zF10_6 : z_F zT10 6 = f_Count_placeOn := id rfl
def zP10_0 : List ZO := [(2, [(5, 0), (1, 0), (2, 0), (0, 0), (0, 0)])]
def zP10_5 : List ZO := [(5, [(1352, 0), (1, 0), (0, 0), (0, 0)]), (3, [(3, 0), (1, 0), (4, 0), (5, 0)]), (0, [(3, 0)]), (7, [(6, 0), (1, 0), (4, 0), (2, 0)]), (4, [(0, 0), (6, 0), (0, 1)]), (2, [(38, 0), (1, 0), (2, 0), (3, 0), (4, 0), (1, 0), (4, 0), (6, 0), (7, 0)])]
def zP10_38 : List ZO := [(3, [(0, 0), (2, 0), (7, 0), (0, (-1))]), (4, [(0, 0), (4, 0), (0, 1)]), (2, [(5, 0), (1, 0), (2, 0), (3, 0), (9, 0)]), (5, [(1477, 0), (5, 0), (6, 0), (0, 0)]), (3, [(3, 0), (2, 0), (8, 0), (9, 0)]), (4, [(0, 0), (4, 0), (0, 1)]), (2, [(5, 0), (1, 0), (2, 0), (3, 0), (10, 0)]), (5, [(1600, 0), (5, 0), (6, 0), (8, 0)]), (5, [(2304, 0), (0, 0), (0, 0), (10, 0)]), (3, [(1, 0), (2, 0), (11, 0), (0, 0)]), (4, [(0, 0), (8, 0), (0, 1)]), (2, [(38, 0), (1, 0), (2, 0), (3, 0), (4, 0), (5, 0), (6, 0), (7, 0), (12, 0)]), (4, [(0, 0), (3, 0), (0, 1)]), (4, [(0, 0), (8, 0), (0, 1)]), (2, [(38, 0), (1, 0), (2, 0), (12, 0), (4, 0), (5, 0), (6, 0), (7, 0), (13, 0)])]
def zD10 : ZD := [(0, 2, [some (37, (0, 0), (0, 0)), some (23, (1, 0), (0, 0)), some (0, (2, 0), (0, 0)), none, none, none, none, none], 2, zP10_0), (5, 4, [some (37, (0, 0), (0, 0)), some (23, (1, 0), (0, 0)), some (0, (2, 0), (0, 0)), some (0, (3, 0), (0, 0)), some (0, (4, 0), (0, 0)), none, none, none], 7, zP10_5), (38, 8, [some (37, (0, 0), (0, 0)), some (23, (1, 0), (0, 0)), some (0, (2, 0), (0, 0)), some (0, (3, 0), (0, 0)), some (0, (4, 0), (0, 0)), some (25, (5, 0), (6, 0)), some (0, (7, 0), (0, 0)), some (0, (8, 0), (0, 0))], 16, zP10_38)]
theorem zG10 : z_chk zT10 [] 10 zD10 = true := by decide +kernel
noncomputable def g_Count_pointsOf (R : ZR) : ZR := z_psi (z_st (z_F zT10) zD10) R
noncomputable def f_Count_pointsOf : ZFn := fun L S => g_Count_pointsOf ((1000, L), S)
theorem zM10 : z_met 10 2 [(37, (0, 0), (0, 0)), (23, (1, 0), (0, 0)), (0, (2, 0), (0, 0))] f_Count_pointsOf := z_met_psi zH10 (fun _ _ h => absurd h List.not_mem_nil) rfl zG10
theorem zE10_0 {x1 x2 : Int} {S : ZS} : z_st (z_F zT10) zD10 0 [x1, x2] S = ((1005, [x1, x2, 0, 0]), S) := (id rfl : z_st (z_F zT10) zD10 0 [x1, x2] S = z_ev (z_F zT10) 2 zP10_0 [x1, x2] S).trans (id rfl)
theorem g_Count_pointsOf_0 {x1 x2 : Int} {S : ZS} : g_Count_pointsOf ((1000, [x1, x2]), S) = (g_Count_pointsOf ((1005, [x1, x2, 0, 0]), S)) := by
  unfold g_Count_pointsOf
  refine ((z_psi_go (pc := 0)).trans (congrArg _ zE10_0)).trans ?_
  try simp only [z_psi_c, z_psi_b, z_psi_n, Nat.reduceLT, decide_true]
theorem zE10_5 {x1 x2 x3 x4 : Int} {S : ZS} : z_st (z_F zT10) zD10 5 [x1, x2, x3, x4] S = (bif decide ((S r_Section_jurorCount x1 0 0) ≤ x4) then ((0, [x3]), S) else (e_bind (f_Count_placeOn [x1, x4, x2] S) (fun v1 S1 => ((1038, [x1, x2, x3, x4, x1, x4, v1, (e_wr (v1 + 1))]), S1)))) := (id rfl : z_st (z_F zT10) zD10 5 [x1, x2, x3, x4] S = z_ev (z_F zT10) 7 zP10_5 [x1, x2, x3, x4] S).trans (id rfl)
theorem g_Count_pointsOf_5 {x1 x2 x3 x4 : Int} {S : ZS} : g_Count_pointsOf ((1005, [x1, x2, x3, x4]), S) = (bif decide ((S r_Section_jurorCount x1 0 0) ≤ x4) then ((0, [x3]), S) else (e_bind (f_Count_placeOn [x1, x4, x2] S) (fun v1 S1 => (g_Count_pointsOf ((1038, [x1, x2, x3, x4, x1, x4, v1, (e_wr (v1 + 1))]), S1))))) := by
  unfold g_Count_pointsOf
  refine ((z_psi_go (pc := 5)).trans (congrArg _ zE10_5)).trans ?_
  try simp only [z_psi_c, z_psi_b, z_psi_n, Nat.reduceLT, decide_true]
theorem zE10_38 {x1 x2 x3 x4 x5 x6 x7 x8 : Int} {S : ZS} : z_st (z_F zT10) zD10 38 [x1, x2, x3, x4, x5, x6, x7, x8] S = (bif decide (x7 = (-1)) then ((1005, [x1, x2, x3, (e_wr (x4 + 1))]), S) else (bif decide ((S r_Juror_ballotSize x5 x6 0) ≤ x8) then ((1005, [x1, x2, x3, (e_wr (x4 + 1))]), S) else (bif !decide ((S r_Count_isOut 0 0 (S r_Juror_ballot x5 x6 x8)) = 0) then ((1038, [x1, x2, x3, x4, x5, x6, x7, (e_wr (x8 + 1))]), S) else ((1038, [x1, x2, (e_wr (x3 + 1)), x4, x5, x6, x7, (e_wr (x8 + 1))]), S)))) := (id rfl : z_st (z_F zT10) zD10 38 [x1, x2, x3, x4, x5, x6, x7, x8] S = z_ev (z_F zT10) 16 zP10_38 [x1, x2, x3, x4, x5, x6, x7, x8] S).trans (by
  simp -implicitDefEqProofs only [zP10_38, zF10_6, Nat.zero_add, Nat.reduceAdd, Nat.reduceBEq, Int.reduceToNat, z_e0, z_e1, z_e2, z_e3, z_e4, z_e5, z_e6, z_e7, z_e8, z_e11, z_e13, o_v0, o_v1, o_v2, List.cons_append, List.nil_append, List.map_cons, List.map_nil, List.drop_succ_cons, List.drop_zero, List.take_succ_cons, List.take_zero, e_c0, e_c1, e_c2, e_c3, e_c4, e_c5, e_b0, e_b1, e_b2, e_b3, e_b4, e_b5, e_b6, e_b7, e_b8, e_b9, e_b10, e_b11, e_b12, e_b13, e_b14, e_b15, e_b16, e_b17, e_n0, e_bnd, e_un]
  try rfl)
theorem g_Count_pointsOf_38 {x1 x2 x3 x4 x5 x6 x7 x8 : Int} {S : ZS} : g_Count_pointsOf ((1038, [x1, x2, x3, x4, x5, x6, x7, x8]), S) = (bif decide (x7 = (-1)) then (g_Count_pointsOf ((1005, [x1, x2, x3, (e_wr (x4 + 1))]), S)) else (bif decide ((S r_Juror_ballotSize x5 x6 0) ≤ x8) then (g_Count_pointsOf ((1005, [x1, x2, x3, (e_wr (x4 + 1))]), S)) else (bif !decide ((S r_Count_isOut 0 0 (S r_Juror_ballot x5 x6 x8)) = 0) then (g_Count_pointsOf ((1038, [x1, x2, x3, x4, x5, x6, x7, (e_wr (x8 + 1))]), S)) else (g_Count_pointsOf ((1038, [x1, x2, (e_wr (x3 + 1)), x4, x5, x6, x7, (e_wr (x8 + 1))]), S))))) := by
  unfold g_Count_pointsOf
  refine ((z_psi_go (pc := 38)).trans (congrArg _ zE10_38)).trans ?_
  try simp only [z_psi_c, z_psi_b, z_psi_n, Nat.reduceLT, decide_true]
def zW10 : List Nat := []
theorem zK10 : z_kp 2 zW10 f_Count_pointsOf := fun L S hL hc r i j k hr => z_psi_kp (KT := [(6, 3, zW6)]) (F := z_F zT10) (W := zW10) (D := zD10) (.c zF10_6 zK6 .n) (z_h163 rfl) (by decide +kernel) _ hc r i j k hr

-- Count_withMost (11)
noncomputable def zT11 : ZT := [(8, 2, [(37, (0, 0), (0, 0)), (23, (1, 0), (0, 0)), (0, (2, 0), (0, 0))], f_Count_isRanked), (9, 2, [(37, (0, 0), (0, 0)), (23, (1, 0), (0, 0)), (0, (2, 0), (0, 0))], f_Count_firstsOf), (10, 2, [(37, (0, 0), (0, 0)), (23, (1, 0), (0, 0)), (0, (2, 0), (0, 0))], f_Count_pointsOf)]
theorem zH11 : z_ok zT11 := .c zM8 (.c zM9 (.c zM10 .n))
theorem zF11_8 : z_F zT11 8 = f_Count_isRanked := id rfl
theorem zF11_9 : z_F zT11 9 = f_Count_firstsOf := id rfl
theorem zF11_10 : z_F zT11 10 = f_Count_pointsOf := id rfl
def zP11_0 : List ZO := [(2, [(8, 0), (1, 0), (2, 0), (0, (-1)), (0, (-1)), (0, 0)])]
def zP11_8 : List ZO := [(3, [(3, 0), (1, 0), (5, 0), (0, 20)]), (0, [(3, 0)]), (7, [(8, 0), (1, 0), (5, 0)]), (3, [(0, 0), (2, 0), (6, 0), (0, 0)]), (4, [(0, 0), (5, 0), (0, 1)]), (2, [(8, 0), (1, 0), (2, 0), (3, 0), (4, 0), (7, 0)]), (3, [(0, 0), (6, 0), (2, 0), (0, 0)]), (7, [(9, 0), (1, 0), (5, 0)]), (3, [(5, 0), (2, 0), (7, 0), (4, 0)]), (4, [(0, 0), (5, 0), (0, 1)]), (2, [(8, 0), (1, 0), (2, 0), (3, 0), (4, 0), (8, 0)]), (4, [(0, 0), (5, 0), (0, 1)]), (2, [(8, 0), (1, 0), (2, 0), (5, 0), (7, 0), (8, 0)]), (7, [(10, 0), (1, 0), (5, 0)]), (3, [(5, 0), (2, 0), (7, 0), (4, 0)]), (4, [(0, 0), (5, 0), (0, 1)]), (2, [(8, 0), (1, 0), (2, 0), (3, 0), (4, 0), (8, 0)]), (4, [(0, 0), (5, 0), (0, 1)]), (2, [(8, 0), (1, 0), (2, 0), (5, 0), (7, 0), (8, 0)])]
def zD11 : ZD := [(0, 2, [some (37, (0, 0), (0, 0)), some (23, (1, 0), (0, 0)), some (0, (2, 0), (0, 0)), none, none, none, none], 2, zP11_0), (8, 5, [some (37, (0, 0), (0, 0)), some (23, (1, 0), (0, 0)), some (0, (2, 0), (0, 0)), some (0, (3, 0), (0, 0)), some (0, (4, 0), (0, 0)), some (0, (5, 0), (0, 0)), none], 20, zP11_8)]
theorem zG11 : z_chk zT11 [] 11 zD11 = true := by decide +kernel
noncomputable def g_Count_withMost (R : ZR) : ZR := z_psi (z_st (z_F zT11) zD11) R
noncomputable def f_Count_withMost : ZFn := fun L S => g_Count_withMost ((1000, L), S)
theorem zM11 : z_met 11 2 [(37, (0, 0), (0, 0)), (23, (1, 0), (0, 0)), (0, (2, 0), (0, 0))] f_Count_withMost := z_met_psi zH11 (fun _ _ h => absurd h List.not_mem_nil) rfl zG11
theorem zE11_0 {x1 x2 : Int} {S : ZS} : z_st (z_F zT11) zD11 0 [x1, x2] S = ((1008, [x1, x2, (-1), (-1), 0]), S) := (id rfl : z_st (z_F zT11) zD11 0 [x1, x2] S = z_ev (z_F zT11) 2 zP11_0 [x1, x2] S).trans (id rfl)
theorem g_Count_withMost_0 {x1 x2 : Int} {S : ZS} : g_Count_withMost ((1000, [x1, x2]), S) = (g_Count_withMost ((1008, [x1, x2, (-1), (-1), 0]), S)) := by
  unfold g_Count_withMost
  refine ((z_psi_go (pc := 0)).trans (congrArg _ zE11_0)).trans ?_
  try simp only [z_psi_c, z_psi_b, z_psi_n, Nat.reduceLT, decide_true]
theorem zE11_8 {x1 x2 x3 x4 x5 : Int} {S : ZS} : z_st (z_F zT11) zD11 8 [x1, x2, x3, x4, x5] S = (bif decide (20 ≤ x5) then ((0, [x3]), S) else (e_bind (f_Count_isRanked [x1, x5] S) (fun v1 S1 => (bif decide (v1 = 0) then ((1008, [x1, x2, x3, x4, (e_wr (x5 + 1))]), S1) else (bif decide (x2 = 0) then (e_bind (f_Count_firstsOf [x1, x5] S1) (fun v2 S2 => (bif decide (v2 ≤ x4) then ((1008, [x1, x2, x3, x4, (e_wr (x5 + 1))]), S2) else ((1008, [x1, x2, x5, v2, (e_wr (x5 + 1))]), S2)))) else (e_bind (f_Count_pointsOf [x1, x5] S1) (fun v3 S3 => (bif decide (v3 ≤ x4) then ((1008, [x1, x2, x3, x4, (e_wr (x5 + 1))]), S3) else ((1008, [x1, x2, x5, v3, (e_wr (x5 + 1))]), S3))))))))) := (id rfl : z_st (z_F zT11) zD11 8 [x1, x2, x3, x4, x5] S = z_ev (z_F zT11) 20 zP11_8 [x1, x2, x3, x4, x5] S).trans (by
  simp -implicitDefEqProofs only [zP11_8, zF11_8, zF11_9, zF11_10, Nat.zero_add, Nat.reduceAdd, Nat.reduceBEq, Int.reduceToNat, z_e0, z_e1, z_e2, z_e3, z_e4, z_e5, z_e6, z_e7, z_e8, z_e11, z_e13, o_v0, o_v1, o_v2, List.cons_append, List.nil_append, List.map_cons, List.map_nil, List.drop_succ_cons, List.drop_zero, List.take_succ_cons, List.take_zero, e_c0, e_c1, e_c2, e_c3, e_c4, e_c5, e_b0, e_b1, e_b2, e_b3, e_b4, e_b5, e_b6, e_b7, e_b8, e_b9, e_b10, e_b11, e_b12, e_b13, e_b14, e_b15, e_b16, e_b17, e_n0, e_bnd, e_un]
  try rfl)
theorem g_Count_withMost_8 {x1 x2 x3 x4 x5 : Int} {S : ZS} : g_Count_withMost ((1008, [x1, x2, x3, x4, x5]), S) = (bif decide (20 ≤ x5) then ((0, [x3]), S) else (e_bind (f_Count_isRanked [x1, x5] S) (fun v1 S1 => (bif decide (v1 = 0) then (g_Count_withMost ((1008, [x1, x2, x3, x4, (e_wr (x5 + 1))]), S1)) else (bif decide (x2 = 0) then (e_bind (f_Count_firstsOf [x1, x5] S1) (fun v2 S2 => (bif decide (v2 ≤ x4) then (g_Count_withMost ((1008, [x1, x2, x3, x4, (e_wr (x5 + 1))]), S2)) else (g_Count_withMost ((1008, [x1, x2, x5, v2, (e_wr (x5 + 1))]), S2))))) else (e_bind (f_Count_pointsOf [x1, x5] S1) (fun v3 S3 => (bif decide (v3 ≤ x4) then (g_Count_withMost ((1008, [x1, x2, x3, x4, (e_wr (x5 + 1))]), S3)) else (g_Count_withMost ((1008, [x1, x2, x5, v3, (e_wr (x5 + 1))]), S3)))))))))) := by
  unfold g_Count_withMost
  refine ((z_psi_go (pc := 8)).trans (congrArg _ zE11_8)).trans ?_
  try simp only [z_psi_c, z_psi_b, z_psi_n, Nat.reduceLT, decide_true]
def zW11 : List Nat := []
theorem zK11 : z_kp 2 zW11 f_Count_withMost := fun L S hL hc r i j k hr => z_psi_kp (KT := [(8, 2, zW8), (9, 2, zW9), (10, 2, zW10)]) (F := z_F zT11) (W := zW11) (D := zD11) (.c zF11_8 zK8 (.c zF11_9 zK9 (.c zF11_10 zK10 .n))) (z_h163 rfl) (by decide +kernel) _ hc r i j k hr

-- Count_withFewestFirsts (16)
noncomputable def zT16 : ZT := [(8, 2, [(37, (0, 0), (0, 0)), (23, (1, 0), (0, 0)), (0, (2, 0), (0, 0))], f_Count_isRanked), (9, 2, [(37, (0, 0), (0, 0)), (23, (1, 0), (0, 0)), (0, (2, 0), (0, 0))], f_Count_firstsOf)]
theorem zH16 : z_ok zT16 := .c zM8 (.c zM9 .n)
theorem zF16_8 : z_F zT16 8 = f_Count_isRanked := id rfl
theorem zF16_9 : z_F zT16 9 = f_Count_firstsOf := id rfl
def zP16_0 : List ZO := [(2, [(8, 0), (1, 0), (0, 0), (0, 6), (0, 0)])]
def zP16_8 : List ZO := [(3, [(3, 0), (1, 0), (4, 0), (0, 20)]), (0, [(2, 0)]), (7, [(8, 0), (1, 0), (4, 0)]), (3, [(0, 0), (2, 0), (5, 0), (0, 0)]), (4, [(0, 0), (4, 0), (0, 1)]), (2, [(8, 0), (1, 0), (2, 0), (3, 0), (6, 0)]), (7, [(9, 0), (1, 0), (4, 0)]), (3, [(4, 0), (2, 0), (6, 0), (3, 0)]), (4, [(0, 0), (4, 0), (0, 1)]), (2, [(8, 0), (1, 0), (2, 0), (3, 0), (7, 0)]), (7, [(9, 0), (1, 0), (4, 0)]), (4, [(0, 0), (4, 0), (0, 1)]), (2, [(8, 0), (1, 0), (4, 0), (7, 0), (8, 0)])]
def zD16 : ZD := [(0, 1, [some (37, (0, 0), (0, 0)), some (23, (1, 0), (0, 0)), none, none, none], 2, zP16_0), (8, 4, [some (37, (0, 0), (0, 0)), some (23, (1, 0), (0, 0)), some (0, (2, 0), (0, 0)), some (0, (3, 0), (0, 0)), some (0, (4, 0), (0, 0))], 14, zP16_8)]
theorem zG16 : z_chk zT16 [] 16 zD16 = true := by decide +kernel
noncomputable def g_Count_withFewestFirsts (R : ZR) : ZR := z_psi (z_st (z_F zT16) zD16) R
noncomputable def f_Count_withFewestFirsts : ZFn := fun L S => g_Count_withFewestFirsts ((1000, L), S)
theorem zM16 : z_met 16 1 [(37, (0, 0), (0, 0)), (23, (1, 0), (0, 0))] f_Count_withFewestFirsts := z_met_psi zH16 (fun _ _ h => absurd h List.not_mem_nil) rfl zG16
theorem zE16_0 {x1 : Int} {S : ZS} : z_st (z_F zT16) zD16 0 [x1] S = ((1008, [x1, 0, 6, 0]), S) := (id rfl : z_st (z_F zT16) zD16 0 [x1] S = z_ev (z_F zT16) 2 zP16_0 [x1] S).trans (id rfl)
theorem g_Count_withFewestFirsts_0 {x1 : Int} {S : ZS} : g_Count_withFewestFirsts ((1000, [x1]), S) = (g_Count_withFewestFirsts ((1008, [x1, 0, 6, 0]), S)) := by
  unfold g_Count_withFewestFirsts
  refine ((z_psi_go (pc := 0)).trans (congrArg _ zE16_0)).trans ?_
  try simp only [z_psi_c, z_psi_b, z_psi_n, Nat.reduceLT, decide_true]
theorem zE16_8 {x1 x2 x3 x4 : Int} {S : ZS} : z_st (z_F zT16) zD16 8 [x1, x2, x3, x4] S = (bif decide (20 ≤ x4) then ((0, [x2]), S) else (e_bind (f_Count_isRanked [x1, x4] S) (fun v1 S1 => (bif decide (v1 = 0) then ((1008, [x1, x2, x3, (e_wr (x4 + 1))]), S1) else (e_bind (f_Count_firstsOf [x1, x4] S1) (fun v2 S2 => (bif decide (x3 < v2) then ((1008, [x1, x2, x3, (e_wr (x4 + 1))]), S2) else (e_bind (f_Count_firstsOf [x1, x4] S2) (fun v3 S3 => ((1008, [x1, x4, v3, (e_wr (x4 + 1))]), S3)))))))))) := (id rfl : z_st (z_F zT16) zD16 8 [x1, x2, x3, x4] S = z_ev (z_F zT16) 14 zP16_8 [x1, x2, x3, x4] S).trans (by
  simp -implicitDefEqProofs only [zP16_8, zF16_8, zF16_9, Nat.zero_add, Nat.reduceAdd, Nat.reduceBEq, Int.reduceToNat, z_e0, z_e1, z_e2, z_e3, z_e4, z_e5, z_e6, z_e7, z_e8, z_e11, z_e13, o_v0, o_v1, o_v2, List.cons_append, List.nil_append, List.map_cons, List.map_nil, List.drop_succ_cons, List.drop_zero, List.take_succ_cons, List.take_zero, e_c0, e_c1, e_c2, e_c3, e_c4, e_c5, e_b0, e_b1, e_b2, e_b3, e_b4, e_b5, e_b6, e_b7, e_b8, e_b9, e_b10, e_b11, e_b12, e_b13, e_b14, e_b15, e_b16, e_b17, e_n0, e_bnd, e_un]
  try rfl)
theorem g_Count_withFewestFirsts_8 {x1 x2 x3 x4 : Int} {S : ZS} : g_Count_withFewestFirsts ((1008, [x1, x2, x3, x4]), S) = (bif decide (20 ≤ x4) then ((0, [x2]), S) else (e_bind (f_Count_isRanked [x1, x4] S) (fun v1 S1 => (bif decide (v1 = 0) then (g_Count_withFewestFirsts ((1008, [x1, x2, x3, (e_wr (x4 + 1))]), S1)) else (e_bind (f_Count_firstsOf [x1, x4] S1) (fun v2 S2 => (bif decide (x3 < v2) then (g_Count_withFewestFirsts ((1008, [x1, x2, x3, (e_wr (x4 + 1))]), S2)) else (e_bind (f_Count_firstsOf [x1, x4] S2) (fun v3 S3 => (g_Count_withFewestFirsts ((1008, [x1, x4, v3, (e_wr (x4 + 1))]), S3))))))))))) := by
  unfold g_Count_withFewestFirsts
  refine ((z_psi_go (pc := 8)).trans (congrArg _ zE16_8)).trans ?_
  try simp only [z_psi_c, z_psi_b, z_psi_n, Nat.reduceLT, decide_true]
def zW16 : List Nat := []
theorem zK16 : z_kp 1 zW16 f_Count_withFewestFirsts := fun L S hL hc r i j k hr => z_psi_kp (KT := [(8, 2, zW8), (9, 2, zW9)]) (F := z_F zT16) (W := zW16) (D := zD16) (.c zF16_8 zK8 (.c zF16_9 zK9 .n)) (z_h163 rfl) (by decide +kernel) _ hc r i j k hr

-- Count_byRounds (15)
noncomputable def zT15 : ZT := [(7, 2, [(37, (0, 0), (0, 0)), (25, (1, 0), (2, 0))], f_Count_firstOn), (9, 2, [(37, (0, 0), (0, 0)), (23, (1, 0), (0, 0)), (0, (2, 0), (0, 0))], f_Count_firstsOf), (11, 2, [(37, (0, 0), (0, 0)), (23, (1, 0), (0, 0)), (0, (2, 0), (0, 0))], f_Count_withMost), (16, 1, [(37, (0, 0), (0, 0)), (23, (1, 0), (0, 0))], f_Count_withFewestFirsts)]
theorem zH15 : z_ok zT15 := .c zM7 (.c zM9 (.c zM11 (.c zM16 .n)))
theorem zF15_7 : z_F zT15 7 = f_Count_firstOn := id rfl
theorem zF15_9 : z_F zT15 9 = f_Count_firstsOf := id rfl
theorem zF15_11 : z_F zT15 11 = f_Count_withMost := id rfl
theorem zF15_16 : z_F zT15 16 = f_Count_withFewestFirsts := id rfl
def zP15_0 : List ZO := [(2, [(2, 0), (1, 0), (0, 0)])]
def zP15_2 : List ZO := [(3, [(3, 0), (1, 0), (2, 0), (0, 20)]), (0, [(0, (-1))]), (2, [(13, 0), (1, 0), (2, 0), (0, 0), (0, 0)])]
def zP15_13 : List ZO := [(5, [(1352, 0), (1, 0), (0, 0), (0, 0)]), (3, [(3, 0), (11, 0), (4, 0), (5, 0)]), (7, [(11, 0), (1, 0), (0, 0)]), (3, [(0, 0), (1, 0), (6, 0), (0, (-1))]), (0, [(6, 0)]), (7, [(9, 0), (1, 0), (6, 0)]), (4, [(2, 0), (0, 2), (7, 0)]), (3, [(5, 0), (4, 0), (8, 0), (3, 0)]), (7, [(16, 0), (1, 0)]), (6, [(2304, 0), (1, 0), (0, 0), (0, 0), (9, 0), (0, 1)]), (4, [(0, 0), (2, 0), (0, 1)]), (2, [(2, 0), (1, 0), (10, 0)]), (0, [(6, 0)]), (7, [(7, 0), (1, 0), (4, 0)]), (3, [(0, 0), (2, 0), (6, 0), (0, (-1))]), (4, [(0, 0), (4, 0), (0, 1)]), (2, [(13, 0), (1, 0), (2, 0), (3, 0), (7, 0)]), (4, [(0, 0), (3, 0), (0, 1)]), (4, [(0, 0), (4, 0), (0, 1)]), (2, [(13, 0), (1, 0), (2, 0), (7, 0), (8, 0)])]
def zD15 : ZD := [(0, 1, [some (37, (0, 0), (0, 0)), some (23, (1, 0), (0, 0)), none, none, none], 2, zP15_0), (2, 2, [some (37, (0, 0), (0, 0)), some (23, (1, 0), (0, 0)), some (0, (2, 0), (0, 0)), none, none], 4, zP15_2), (13, 4, [some (37, (0, 0), (0, 0)), some (23, (1, 0), (0, 0)), some (0, (2, 0), (0, 0)), some (0, (3, 0), (0, 0)), some (0, (4, 0), (0, 0))], 21, zP15_13)]
theorem zG15 : z_chk zT15 [] 15 zD15 = true := by decide +kernel
noncomputable def g_Count_byRounds (R : ZR) : ZR := z_psi (z_st (z_F zT15) zD15) R
noncomputable def f_Count_byRounds : ZFn := fun L S => g_Count_byRounds ((1000, L), S)
theorem zM15 : z_met 15 1 [(37, (0, 0), (0, 0)), (23, (1, 0), (0, 0))] f_Count_byRounds := z_met_psi zH15 (fun _ _ h => absurd h List.not_mem_nil) rfl zG15
theorem zE15_0 {x1 : Int} {S : ZS} : z_st (z_F zT15) zD15 0 [x1] S = ((1002, [x1, 0]), S) := (id rfl : z_st (z_F zT15) zD15 0 [x1] S = z_ev (z_F zT15) 2 zP15_0 [x1] S).trans (id rfl)
theorem g_Count_byRounds_0 {x1 : Int} {S : ZS} : g_Count_byRounds ((1000, [x1]), S) = (g_Count_byRounds ((1002, [x1, 0]), S)) := by
  unfold g_Count_byRounds
  refine ((z_psi_go (pc := 0)).trans (congrArg _ zE15_0)).trans ?_
  try simp only [z_psi_c, z_psi_b, z_psi_n, Nat.reduceLT, decide_true]
theorem zE15_2 {x1 x2 : Int} {S : ZS} : z_st (z_F zT15) zD15 2 [x1, x2] S = (bif decide (20 ≤ x2) then ((0, [(-1)]), S) else ((1013, [x1, x2, 0, 0]), S)) := (id rfl : z_st (z_F zT15) zD15 2 [x1, x2] S = z_ev (z_F zT15) 4 zP15_2 [x1, x2] S).trans (id rfl)
theorem g_Count_byRounds_2 {x1 x2 : Int} {S : ZS} : g_Count_byRounds ((1002, [x1, x2]), S) = (bif decide (20 ≤ x2) then ((0, [(-1)]), S) else (g_Count_byRounds ((1013, [x1, x2, 0, 0]), S))) := by
  unfold g_Count_byRounds
  refine ((z_psi_go (pc := 2)).trans (congrArg _ zE15_2)).trans ?_
  try simp only [z_psi_c, z_psi_b, z_psi_n, Nat.reduceLT, decide_true]
theorem zE15_13 {x1 x2 x3 x4 : Int} {S : ZS} : z_st (z_F zT15) zD15 13 [x1, x2, x3, x4] S = (bif decide ((S r_Section_jurorCount x1 0 0) ≤ x4) then (e_bind (f_Count_withMost [x1, 0] S) (fun v1 S1 => (bif decide (v1 = (-1)) then ((0, [v1]), S1) else (e_bind (f_Count_firstsOf [x1, v1] S1) (fun v2 S2 => (bif decide ((e_wr (2 * v2)) ≤ x3) then (e_bind (f_Count_withFewestFirsts [x1] S2) (fun v3 S3 => ((1002, [x1, (e_wr (x2 + 1))]), (e_upd S3 r_Count_isOut 0 0 v3 (e_nar 1 1))))) else ((0, [v1]), S2))))))) else (e_bind (f_Count_firstOn [x1, x4] S) (fun v4 S4 => (bif decide (v4 = (-1)) then ((1013, [x1, x2, x3, (e_wr (x4 + 1))]), S4) else ((1013, [x1, x2, (e_wr (x3 + 1)), (e_wr (x4 + 1))]), S4))))) := (id rfl : z_st (z_F zT15) zD15 13 [x1, x2, x3, x4] S = z_ev (z_F zT15) 21 zP15_13 [x1, x2, x3, x4] S).trans (by
  simp -implicitDefEqProofs only [zP15_13, zF15_7, zF15_9, zF15_11, zF15_16, Nat.zero_add, Nat.reduceAdd, Nat.reduceBEq, Int.reduceToNat, z_e0, z_e1, z_e2, z_e3, z_e4, z_e5, z_e6, z_e7, z_e8, z_e11, z_e13, o_v0, o_v1, o_v2, List.cons_append, List.nil_append, List.map_cons, List.map_nil, List.drop_succ_cons, List.drop_zero, List.take_succ_cons, List.take_zero, e_c0, e_c1, e_c2, e_c3, e_c4, e_c5, e_b0, e_b1, e_b2, e_b3, e_b4, e_b5, e_b6, e_b7, e_b8, e_b9, e_b10, e_b11, e_b12, e_b13, e_b14, e_b15, e_b16, e_b17, e_n0, e_bnd, e_un]
  try rfl)
theorem g_Count_byRounds_13 {x1 x2 x3 x4 : Int} {S : ZS} : g_Count_byRounds ((1013, [x1, x2, x3, x4]), S) = (bif decide ((S r_Section_jurorCount x1 0 0) ≤ x4) then (e_bind (f_Count_withMost [x1, 0] S) (fun v1 S1 => (bif decide (v1 = (-1)) then ((0, [v1]), S1) else (e_bind (f_Count_firstsOf [x1, v1] S1) (fun v2 S2 => (bif decide ((e_wr (2 * v2)) ≤ x3) then (e_bind (f_Count_withFewestFirsts [x1] S2) (fun v3 S3 => (g_Count_byRounds ((1002, [x1, (e_wr (x2 + 1))]), (e_upd S3 r_Count_isOut 0 0 v3 (e_nar 1 1)))))) else ((0, [v1]), S2))))))) else (e_bind (f_Count_firstOn [x1, x4] S) (fun v4 S4 => (bif decide (v4 = (-1)) then (g_Count_byRounds ((1013, [x1, x2, x3, (e_wr (x4 + 1))]), S4)) else (g_Count_byRounds ((1013, [x1, x2, (e_wr (x3 + 1)), (e_wr (x4 + 1))]), S4)))))) := by
  unfold g_Count_byRounds
  refine ((z_psi_go (pc := 13)).trans (congrArg _ zE15_13)).trans ?_
  try simp only [z_psi_c, z_psi_b, z_psi_n, Nat.reduceLT, decide_true]
def zW15 : List Nat := [r_Count_isOut]
theorem zK15 : z_kp 1 zW15 f_Count_byRounds := fun L S hL hc r i j k hr => z_psi_kp (KT := [(7, 2, zW7), (9, 2, zW9), (11, 2, zW11), (16, 1, zW16)]) (F := z_F zT15) (W := zW15) (D := zD15) (.c zF15_7 zK7 (.c zF15_9 zK9 (.c zF15_11 zK11 (.c zF15_16 zK16 .n)))) (z_h163 rfl) (by decide +kernel) _ hc r i j k hr

-- Count_leadOf (14)
noncomputable def zT14 : ZT := [(6, 3, [(37, (0, 0), (0, 0)), (25, (1, 0), (2, 0)), (0, (3, 0), (0, 0))], f_Count_placeOn)]
theorem zH14 : z_ok zT14 := .c zM6 .n
theorem zF14_6 : z_F zT14 6 = f_Count_placeOn := id rfl
def zP14_0 : List ZO := [(2, [(6, 0), (1, 0), (2, 0), (3, 0), (0, 0), (0, 0)])]
def zP14_6 : List ZO := [(5, [(1352, 0), (1, 0), (0, 0), (0, 0)]), (3, [(3, 0), (1, 0), (5, 0), (6, 0)]), (0, [(4, 0)]), (7, [(6, 0), (1, 0), (5, 0), (2, 0)]), (7, [(6, 0), (1, 0), (5, 0), (3, 0)]), (3, [(0, 0), (2, 0), (7, 0), (0, (-1))]), (4, [(0, 0), (5, 0), (0, 1)]), (2, [(6, 0), (1, 0), (2, 0), (3, 0), (4, 0), (9, 0)]), (3, [(0, 0), (2, 0), (8, 0), (0, (-1))]), (4, [(0, 0), (5, 0), (0, 1)]), (2, [(6, 0), (1, 0), (2, 0), (3, 0), (4, 0), (9, 0)]), (3, [(3, 0), (3, 0), (7, 0), (8, 0)]), (4, [(0, 0), (4, 0), (0, (-1))]), (4, [(0, 0), (5, 0), (0, 1)]), (2, [(6, 0), (1, 0), (2, 0), (3, 0), (9, 0), (10, 0)]), (4, [(0, 0), (4, 0), (0, 1)]), (4, [(0, 0), (5, 0), (0, 1)]), (2, [(6, 0), (1, 0), (2, 0), (3, 0), (9, 0), (10, 0)])]
def zD14 : ZD := [(0, 3, [some (37, (0, 0), (0, 0)), some (23, (1, 0), (0, 0)), some (0, (2, 0), (0, 0)), some (0, (3, 0), (0, 0)), none, none, none, none], 2, zP14_0), (6, 5, [some (37, (0, 0), (0, 0)), some (23, (1, 0), (0, 0)), some (0, (2, 0), (0, 0)), some (0, (3, 0), (0, 0)), some (0, (4, 0), (0, 0)), some (0, (5, 0), (0, 0)), none, none], 19, zP14_6)]
theorem zG14 : z_chk zT14 [] 14 zD14 = true := by decide +kernel
noncomputable def g_Count_leadOf (R : ZR) : ZR := z_psi (z_st (z_F zT14) zD14) R
noncomputable def f_Count_leadOf : ZFn := fun L S => g_Count_leadOf ((1000, L), S)
theorem zM14 : z_met 14 3 [(37, (0, 0), (0, 0)), (23, (1, 0), (0, 0)), (0, (2, 0), (0, 0)), (0, (3, 0), (0, 0))] f_Count_leadOf := z_met_psi zH14 (fun _ _ h => absurd h List.not_mem_nil) rfl zG14
theorem zE14_0 {x1 x2 x3 : Int} {S : ZS} : z_st (z_F zT14) zD14 0 [x1, x2, x3] S = ((1006, [x1, x2, x3, 0, 0]), S) := (id rfl : z_st (z_F zT14) zD14 0 [x1, x2, x3] S = z_ev (z_F zT14) 2 zP14_0 [x1, x2, x3] S).trans (id rfl)
theorem g_Count_leadOf_0 {x1 x2 x3 : Int} {S : ZS} : g_Count_leadOf ((1000, [x1, x2, x3]), S) = (g_Count_leadOf ((1006, [x1, x2, x3, 0, 0]), S)) := by
  unfold g_Count_leadOf
  refine ((z_psi_go (pc := 0)).trans (congrArg _ zE14_0)).trans ?_
  try simp only [z_psi_c, z_psi_b, z_psi_n, Nat.reduceLT, decide_true]
theorem zE14_6 {x1 x2 x3 x4 x5 : Int} {S : ZS} : z_st (z_F zT14) zD14 6 [x1, x2, x3, x4, x5] S = (bif decide ((S r_Section_jurorCount x1 0 0) ≤ x5) then ((0, [x4]), S) else (e_bind (f_Count_placeOn [x1, x5, x2] S) (fun v1 S1 => (e_bind (f_Count_placeOn [x1, x5, x3] S1) (fun v2 S2 => (bif decide (v1 = (-1)) then ((1006, [x1, x2, x3, x4, (e_wr (x5 + 1))]), S2) else (bif decide (v2 = (-1)) then ((1006, [x1, x2, x3, x4, (e_wr (x5 + 1))]), S2) else (bif decide (v2 ≤ v1) then ((1006, [x1, x2, x3, (e_wr (x4 + (-1))), (e_wr (x5 + 1))]), S2) else ((1006, [x1, x2, x3, (e_wr (x4 + 1)), (e_wr (x5 + 1))]), S2))))))))) := (id rfl : z_st (z_F zT14) zD14 6 [x1, x2, x3, x4, x5] S = z_ev (z_F zT14) 19 zP14_6 [x1, x2, x3, x4, x5] S).trans (by
  simp -implicitDefEqProofs only [zP14_6, zF14_6, Nat.zero_add, Nat.reduceAdd, Nat.reduceBEq, Int.reduceToNat, z_e0, z_e1, z_e2, z_e3, z_e4, z_e5, z_e6, z_e7, z_e8, z_e11, z_e13, o_v0, o_v1, o_v2, List.cons_append, List.nil_append, List.map_cons, List.map_nil, List.drop_succ_cons, List.drop_zero, List.take_succ_cons, List.take_zero, e_c0, e_c1, e_c2, e_c3, e_c4, e_c5, e_b0, e_b1, e_b2, e_b3, e_b4, e_b5, e_b6, e_b7, e_b8, e_b9, e_b10, e_b11, e_b12, e_b13, e_b14, e_b15, e_b16, e_b17, e_n0, e_bnd, e_un]
  try rfl)
theorem g_Count_leadOf_6 {x1 x2 x3 x4 x5 : Int} {S : ZS} : g_Count_leadOf ((1006, [x1, x2, x3, x4, x5]), S) = (bif decide ((S r_Section_jurorCount x1 0 0) ≤ x5) then ((0, [x4]), S) else (e_bind (f_Count_placeOn [x1, x5, x2] S) (fun v1 S1 => (e_bind (f_Count_placeOn [x1, x5, x3] S1) (fun v2 S2 => (bif decide (v1 = (-1)) then (g_Count_leadOf ((1006, [x1, x2, x3, x4, (e_wr (x5 + 1))]), S2)) else (bif decide (v2 = (-1)) then (g_Count_leadOf ((1006, [x1, x2, x3, x4, (e_wr (x5 + 1))]), S2)) else (bif decide (v2 ≤ v1) then (g_Count_leadOf ((1006, [x1, x2, x3, (e_wr (x4 + (-1))), (e_wr (x5 + 1))]), S2)) else (g_Count_leadOf ((1006, [x1, x2, x3, (e_wr (x4 + 1)), (e_wr (x5 + 1))]), S2)))))))))) := by
  unfold g_Count_leadOf
  refine ((z_psi_go (pc := 6)).trans (congrArg _ zE14_6)).trans ?_
  try simp only [z_psi_c, z_psi_b, z_psi_n, Nat.reduceLT, decide_true]
def zW14 : List Nat := []
theorem zK14 : z_kp 3 zW14 f_Count_leadOf := fun L S hL hc r i j k hr => z_psi_kp (KT := [(6, 3, zW6)]) (F := z_F zT14) (W := zW14) (D := zD14) (.c zF14_6 zK6 .n) (z_h163 rfl) (by decide +kernel) _ hc r i j k hr

-- Count_winsEachDuel (13)
noncomputable def zT13 : ZT := [(8, 2, [(37, (0, 0), (0, 0)), (23, (1, 0), (0, 0)), (0, (2, 0), (0, 0))], f_Count_isRanked), (14, 3, [(37, (0, 0), (0, 0)), (23, (1, 0), (0, 0)), (0, (2, 0), (0, 0)), (0, (3, 0), (0, 0))], f_Count_leadOf)]
theorem zH13 : z_ok zT13 := .c zM8 (.c zM14 .n)
theorem zF13_8 : z_F zT13 8 = f_Count_isRanked := id rfl
theorem zF13_14 : z_F zT13 14 = f_Count_leadOf := id rfl
def zP13_0 : List ZO := [(2, [(2, 0), (1, 0), (2, 0), (0, 0)])]
def zP13_2 : List ZO := [(3, [(3, 0), (1, 0), (3, 0), (0, 20)]), (0, [(0, 1)]), (3, [(0, 0), (2, 0), (3, 0), (2, 0)]), (4, [(0, 0), (3, 0), (0, 1)]), (2, [(2, 0), (1, 0), (2, 0), (4, 0)]), (7, [(8, 0), (1, 0), (3, 0)]), (3, [(0, 0), (2, 0), (4, 0), (0, 0)]), (4, [(0, 0), (3, 0), (0, 1)]), (2, [(2, 0), (1, 0), (2, 0), (5, 0)]), (7, [(14, 0), (1, 0), (2, 0), (3, 0)]), (3, [(4, 0), (2, 0), (5, 0), (0, 0)]), (4, [(0, 0), (3, 0), (0, 1)]), (2, [(2, 0), (1, 0), (2, 0), (6, 0)]), (0, [(0, 0)])]
def zD13 : ZD := [(0, 2, [some (37, (0, 0), (0, 0)), some (23, (1, 0), (0, 0)), some (0, (2, 0), (0, 0)), none], 2, zP13_0), (2, 3, [some (37, (0, 0), (0, 0)), some (23, (1, 0), (0, 0)), some (0, (2, 0), (0, 0)), some (0, (3, 0), (0, 0))], 15, zP13_2)]
theorem zG13 : z_chk zT13 [] 13 zD13 = true := by decide +kernel
noncomputable def g_Count_winsEachDuel (R : ZR) : ZR := z_psi (z_st (z_F zT13) zD13) R
noncomputable def f_Count_winsEachDuel : ZFn := fun L S => g_Count_winsEachDuel ((1000, L), S)
theorem zM13 : z_met 13 2 [(37, (0, 0), (0, 0)), (23, (1, 0), (0, 0)), (0, (2, 0), (0, 0))] f_Count_winsEachDuel := z_met_psi zH13 (fun _ _ h => absurd h List.not_mem_nil) rfl zG13
theorem zE13_0 {x1 x2 : Int} {S : ZS} : z_st (z_F zT13) zD13 0 [x1, x2] S = ((1002, [x1, x2, 0]), S) := (id rfl : z_st (z_F zT13) zD13 0 [x1, x2] S = z_ev (z_F zT13) 2 zP13_0 [x1, x2] S).trans (id rfl)
theorem g_Count_winsEachDuel_0 {x1 x2 : Int} {S : ZS} : g_Count_winsEachDuel ((1000, [x1, x2]), S) = (g_Count_winsEachDuel ((1002, [x1, x2, 0]), S)) := by
  unfold g_Count_winsEachDuel
  refine ((z_psi_go (pc := 0)).trans (congrArg _ zE13_0)).trans ?_
  try simp only [z_psi_c, z_psi_b, z_psi_n, Nat.reduceLT, decide_true]
theorem zE13_2 {x1 x2 x3 : Int} {S : ZS} : z_st (z_F zT13) zD13 2 [x1, x2, x3] S = (bif decide (20 ≤ x3) then ((0, [1]), S) else (bif decide (x3 = x2) then ((1002, [x1, x2, (e_wr (x3 + 1))]), S) else (e_bind (f_Count_isRanked [x1, x3] S) (fun v1 S1 => (bif decide (v1 = 0) then ((1002, [x1, x2, (e_wr (x3 + 1))]), S1) else (e_bind (f_Count_leadOf [x1, x2, x3] S1) (fun v2 S2 => (bif decide (0 < v2) then ((1002, [x1, x2, (e_wr (x3 + 1))]), S2) else ((0, [0]), S2))))))))) := (id rfl : z_st (z_F zT13) zD13 2 [x1, x2, x3] S = z_ev (z_F zT13) 15 zP13_2 [x1, x2, x3] S).trans (by
  simp -implicitDefEqProofs only [zP13_2, zF13_8, zF13_14, Nat.zero_add, Nat.reduceAdd, Nat.reduceBEq, Int.reduceToNat, z_e0, z_e1, z_e2, z_e3, z_e4, z_e5, z_e6, z_e7, z_e8, z_e11, z_e13, o_v0, o_v1, o_v2, List.cons_append, List.nil_append, List.map_cons, List.map_nil, List.drop_succ_cons, List.drop_zero, List.take_succ_cons, List.take_zero, e_c0, e_c1, e_c2, e_c3, e_c4, e_c5, e_b0, e_b1, e_b2, e_b3, e_b4, e_b5, e_b6, e_b7, e_b8, e_b9, e_b10, e_b11, e_b12, e_b13, e_b14, e_b15, e_b16, e_b17, e_n0, e_bnd, e_un]
  try rfl)
theorem g_Count_winsEachDuel_2 {x1 x2 x3 : Int} {S : ZS} : g_Count_winsEachDuel ((1002, [x1, x2, x3]), S) = (bif decide (20 ≤ x3) then ((0, [1]), S) else (bif decide (x3 = x2) then (g_Count_winsEachDuel ((1002, [x1, x2, (e_wr (x3 + 1))]), S)) else (e_bind (f_Count_isRanked [x1, x3] S) (fun v1 S1 => (bif decide (v1 = 0) then (g_Count_winsEachDuel ((1002, [x1, x2, (e_wr (x3 + 1))]), S1)) else (e_bind (f_Count_leadOf [x1, x2, x3] S1) (fun v2 S2 => (bif decide (0 < v2) then (g_Count_winsEachDuel ((1002, [x1, x2, (e_wr (x3 + 1))]), S2)) else ((0, [0]), S2))))))))) := by
  unfold g_Count_winsEachDuel
  refine ((z_psi_go (pc := 2)).trans (congrArg _ zE13_2)).trans ?_
  try simp only [z_psi_c, z_psi_b, z_psi_n, Nat.reduceLT, decide_true]
def zW13 : List Nat := []
theorem zK13 : z_kp 2 zW13 f_Count_winsEachDuel := fun L S hL hc r i j k hr => z_psi_kp (KT := [(8, 2, zW8), (14, 3, zW14)]) (F := z_F zT13) (W := zW13) (D := zD13) (.c zF13_8 zK8 (.c zF13_14 zK14 .n)) (z_h163 rfl) (by decide +kernel) _ hc r i j k hr

-- Count_byDuels (12)
noncomputable def zT12 : ZT := [(8, 2, [(37, (0, 0), (0, 0)), (23, (1, 0), (0, 0)), (0, (2, 0), (0, 0))], f_Count_isRanked), (11, 2, [(37, (0, 0), (0, 0)), (23, (1, 0), (0, 0)), (0, (2, 0), (0, 0))], f_Count_withMost), (13, 2, [(37, (0, 0), (0, 0)), (23, (1, 0), (0, 0)), (0, (2, 0), (0, 0))], f_Count_winsEachDuel)]
theorem zH12 : z_ok zT12 := .c zM8 (.c zM11 (.c zM13 .n))
theorem zF12_8 : z_F zT12 8 = f_Count_isRanked := id rfl
theorem zF12_11 : z_F zT12 11 = f_Count_withMost := id rfl
theorem zF12_13 : z_F zT12 13 = f_Count_winsEachDuel := id rfl
def zP12_0 : List ZO := [(2, [(2, 0), (1, 0), (0, 0)])]
def zP12_2 : List ZO := [(3, [(3, 0), (2, 0), (2, 0), (0, 20)]), (7, [(11, 0), (1, 0), (0, 1)]), (0, [(3, 0)]), (7, [(8, 0), (1, 0), (2, 0)]), (3, [(0, 0), (2, 0), (3, 0), (0, 0)]), (4, [(0, 0), (2, 0), (0, 1)]), (2, [(2, 0), (1, 0), (4, 0)]), (7, [(13, 0), (1, 0), (2, 0)]), (3, [(0, 0), (2, 0), (4, 0), (0, 0)]), (4, [(0, 0), (2, 0), (0, 1)]), (2, [(2, 0), (1, 0), (5, 0)]), (0, [(2, 0)])]
def zD12 : ZD := [(0, 1, [some (37, (0, 0), (0, 0)), some (23, (1, 0), (0, 0)), none], 2, zP12_0), (2, 2, [some (37, (0, 0), (0, 0)), some (23, (1, 0), (0, 0)), some (0, (2, 0), (0, 0))], 13, zP12_2)]
theorem zG12 : z_chk zT12 [] 12 zD12 = true := by decide +kernel
noncomputable def g_Count_byDuels (R : ZR) : ZR := z_psi (z_st (z_F zT12) zD12) R
noncomputable def f_Count_byDuels : ZFn := fun L S => g_Count_byDuels ((1000, L), S)
theorem zM12 : z_met 12 1 [(37, (0, 0), (0, 0)), (23, (1, 0), (0, 0))] f_Count_byDuels := z_met_psi zH12 (fun _ _ h => absurd h List.not_mem_nil) rfl zG12
theorem zE12_0 {x1 : Int} {S : ZS} : z_st (z_F zT12) zD12 0 [x1] S = ((1002, [x1, 0]), S) := (id rfl : z_st (z_F zT12) zD12 0 [x1] S = z_ev (z_F zT12) 2 zP12_0 [x1] S).trans (id rfl)
theorem g_Count_byDuels_0 {x1 : Int} {S : ZS} : g_Count_byDuels ((1000, [x1]), S) = (g_Count_byDuels ((1002, [x1, 0]), S)) := by
  unfold g_Count_byDuels
  refine ((z_psi_go (pc := 0)).trans (congrArg _ zE12_0)).trans ?_
  try simp only [z_psi_c, z_psi_b, z_psi_n, Nat.reduceLT, decide_true]
theorem zE12_2 {x1 x2 : Int} {S : ZS} : z_st (z_F zT12) zD12 2 [x1, x2] S = (bif decide (20 ≤ x2) then (e_bind (f_Count_withMost [x1, 1] S) (fun v1 S1 => ((0, [v1]), S1))) else (e_bind (f_Count_isRanked [x1, x2] S) (fun v2 S2 => (bif decide (v2 = 0) then ((1002, [x1, (e_wr (x2 + 1))]), S2) else (e_bind (f_Count_winsEachDuel [x1, x2] S2) (fun v3 S3 => (bif decide (v3 = 0) then ((1002, [x1, (e_wr (x2 + 1))]), S3) else ((0, [x2]), S3)))))))) := (id rfl : z_st (z_F zT12) zD12 2 [x1, x2] S = z_ev (z_F zT12) 13 zP12_2 [x1, x2] S).trans (id rfl)
theorem g_Count_byDuels_2 {x1 x2 : Int} {S : ZS} : g_Count_byDuels ((1002, [x1, x2]), S) = (bif decide (20 ≤ x2) then (e_bind (f_Count_withMost [x1, 1] S) (fun v1 S1 => ((0, [v1]), S1))) else (e_bind (f_Count_isRanked [x1, x2] S) (fun v2 S2 => (bif decide (v2 = 0) then (g_Count_byDuels ((1002, [x1, (e_wr (x2 + 1))]), S2)) else (e_bind (f_Count_winsEachDuel [x1, x2] S2) (fun v3 S3 => (bif decide (v3 = 0) then (g_Count_byDuels ((1002, [x1, (e_wr (x2 + 1))]), S3)) else ((0, [x2]), S3)))))))) := by
  unfold g_Count_byDuels
  refine ((z_psi_go (pc := 2)).trans (congrArg _ zE12_2)).trans ?_
  try simp only [z_psi_c, z_psi_b, z_psi_n, Nat.reduceLT, decide_true]
def zW12 : List Nat := []
theorem zK12 : z_kp 1 zW12 f_Count_byDuels := fun L S hL hc r i j k hr => z_psi_kp (KT := [(8, 2, zW8), (11, 2, zW11), (13, 2, zW13)]) (F := z_F zT12) (W := zW12) (D := zD12) (.c zF12_8 zK8 (.c zF12_11 zK11 (.c zF12_13 zK13 .n))) (z_h163 rfl) (by decide +kernel) _ hc r i j k hr

-- Count_findWinner (4)
noncomputable def zT4 : ZT := [(5, 0, [(37, (0, 0), (0, 0)), (4, (0, 0), (0, 0))], f_Count_dropWithdrawn), (11, 2, [(37, (0, 0), (0, 0)), (23, (1, 0), (0, 0)), (0, (2, 0), (0, 0))], f_Count_withMost), (12, 1, [(37, (0, 0), (0, 0)), (23, (1, 0), (0, 0))], f_Count_byDuels), (15, 1, [(37, (0, 0), (0, 0)), (23, (1, 0), (0, 0))], f_Count_byRounds)]
theorem zH4 : z_ok zT4 := .c zM5 (.c zM11 (.c zM12 (.c zM15 .n)))
theorem zF4_5 : z_F zT4 5 = f_Count_dropWithdrawn := id rfl
theorem zF4_11 : z_F zT4 11 = f_Count_withMost := id rfl
theorem zF4_12 : z_F zT4 12 = f_Count_byDuels := id rfl
theorem zF4_15 : z_F zT4 15 = f_Count_byRounds := id rfl
def zP4_0 : List ZO := [(7, [(5, 0)]), (5, [(1349, 0), (1, 0), (0, 0), (0, 0)]), (3, [(1, 0), (10, 0), (3, 0), (0, 98)]), (5, [(1349, 0), (1, 0), (0, 0), (0, 0)]), (3, [(1, 0), (6, 0), (4, 0), (0, 99)]), (5, [(1349, 0), (1, 0), (0, 0), (0, 0)]), (3, [(1, 0), (2, 0), (5, 0), (0, 114)]), (7, [(11, 0), (1, 0), (0, 0)]), (0, [(6, 0)]), (7, [(15, 0), (1, 0)]), (0, [(6, 0)]), (7, [(12, 0), (1, 0)]), (0, [(5, 0)]), (7, [(11, 0), (1, 0), (0, 1)]), (0, [(4, 0)])]
def zC4 : ZC := [(0, 1, [some (37, (0, 0), (0, 0)), some (4, (0, 0), (0, 0)), some (23, (1, 0), (0, 0))])]
theorem zG4 : z_go zC4 (z_A zT4) [] 4 400 true 16 zP4_0 0 [some (37, (0, 0), (0, 0)), some (4, (0, 0), (0, 0)), some (23, (1, 0), (0, 0))] [] 1 = true := by decide +kernel
noncomputable def f_Count_findWinner : ZFn := fun L S => match L with
  | [x1] => (e_bind (f_Count_dropWithdrawn [] S) (fun v1 S1 => (bif !decide ((S1 r_Section_rule x1 0 0) = 98) then (bif !decide ((S1 r_Section_rule x1 0 0) = 99) then (bif !decide ((S1 r_Section_rule x1 0 0) = 114) then (e_bind (f_Count_withMost [x1, 0] S1) (fun v2 S2 => ((0, [v2]), S2))) else (e_bind (f_Count_byRounds [x1] S1) (fun v3 S3 => ((0, [v3]), S3)))) else (e_bind (f_Count_byDuels [x1] S1) (fun v4 S4 => ((0, [v4]), S4)))) else (e_bind (f_Count_withMost [x1, 1] S1) (fun v5 S5 => ((0, [v5]), S5))))))
  | _ => ((0, []), S)
theorem zE4 {x1 : Int} {S : ZS} : z_ev (z_F zT4) 16 zP4_0 [x1] S = f_Count_findWinner [x1] S := by
  simp -implicitDefEqProofs only [zP4_0, zF4_5, zF4_11, zF4_12, zF4_15, Nat.zero_add, Nat.reduceAdd, Nat.reduceBEq, Int.reduceToNat, z_e0, z_e1, z_e2, z_e3, z_e4, z_e5, z_e6, z_e7, z_e8, z_e11, z_e13, o_v0, o_v1, o_v2, List.cons_append, List.nil_append, List.map_cons, List.map_nil, List.drop_succ_cons, List.drop_zero, List.take_succ_cons, List.take_zero, e_c0, e_c1, e_c2, e_c3, e_c4, e_c5, e_b0, e_b1, e_b2, e_b3, e_b4, e_b5, e_b6, e_b7, e_b8, e_b9, e_b10, e_b11, e_b12, e_b13, e_b14, e_b15, e_b16, e_b17, e_n0, e_bnd, e_un]
  try rfl
theorem zM4 : z_met 4 1 [(37, (0, 0), (0, 0)), (4, (0, 0), (0, 0)), (23, (1, 0), (0, 0))] f_Count_findWinner := z_met_ev zH4 (fun _ _ h => absurd h List.not_mem_nil) rfl zG4 (by decide +kernel) (fun L S hn => match L, hn with
  | [x1], _ => zE4)
def zW4 : List Nat := [r_Count_isOut]
theorem zK4 : z_kp 1 zW4 f_Count_findWinner := z_kp_ev (KT := [(5, 0, zW5), (11, 2, zW11), (12, 1, zW12), (15, 1, zW15)]) (.c zF4_5 zK5 (.c zF4_11 zK11 (.c zF4_12 zK12 (.c zF4_15 zK15 .n)))) (z_h163 rfl) (by decide +kernel) (fun L S hn => match L, hn with
  | [x1], _ => zE4)

-- x_winner (129)
noncomputable def zT129 : ZT := [(4, 1, [(37, (0, 0), (0, 0)), (4, (0, 0), (0, 0)), (23, (1, 0), (0, 0))], f_Count_findWinner), (145, 1, [(2, (0, 0), (0, 0)), (0, (1, 0), (0, 0))], f_x_checkSection)]
theorem zH129 : z_ok zT129 := .c zM4 (.c zM145 .n)
theorem zF129_4 : z_F zT129 4 = f_Count_findWinner := id rfl
theorem zF129_145 : z_F zT129 145 = f_x_checkSection := id rfl
def zP129_0 : List ZO := [(7, [(145, 0), (1, 0)]), (7, [(4, 0), (1, 0)]), (3, [(1, 0), (1, 0), (3, 0), (0, (-1))]), (0, [(3, 0)]), (1, [(4, 0)])]
def zC129 : ZC := [(0, 1, [some (2, (0, 0), (0, 0)), some (0, (1, 0), (0, 0)), none])]
theorem zG129 : z_go zC129 (z_A zT129) [] 129 400 true 6 zP129_0 0 [some (2, (0, 0), (0, 0)), some (0, (1, 0), (0, 0)), none] [] 1 = true := by decide +kernel
noncomputable def f_x_winner : ZFn := fun L S => match L with
  | [x1] => (e_bind (f_x_checkSection [x1] S) (fun v1 S1 => (e_bind (f_Count_findWinner [x1] S1) (fun v2 S2 => (bif !decide (v2 = (-1)) then ((0, [v2]), S2) else ((5, []), S2))))))
  | _ => ((0, []), S)
theorem zE129 {x1 : Int} {S : ZS} : z_ev (z_F zT129) 6 zP129_0 [x1] S = f_x_winner [x1] S := id rfl
theorem zM129 : z_met 129 1 [(2, (0, 0), (0, 0)), (0, (1, 0), (0, 0))] f_x_winner := z_met_ev zH129 (fun _ _ h => absurd h List.not_mem_nil) rfl zG129 (by decide +kernel) (fun L S hn => match L, hn with
  | [x1], _ => zE129)
def zW129 : List Nat := [r_Count_isOut]
theorem zK129 : z_kp 1 zW129 f_x_winner := z_kp_ev (KT := [(4, 1, zW4), (145, 1, zW145)]) (.c zF129_4 zK4 (.c zF129_145 zK145 .n)) (z_h163 rfl) (by decide +kernel) (fun L S hn => match L, hn with
  | [x1], _ => zE129)

-- w_winner (293)
noncomputable def zT293 : ZT := [(129, 1, [(2, (0, 0), (0, 0)), (0, (1, 0), (0, 0))], f_x_winner)]
theorem zH293 : z_ok zT293 := .c zM129 .n
theorem zF293_129 : z_F zT293 129 = f_x_winner := id rfl
def zP293_0 : List ZO := [(11, [(129, 0), (2, 0), (0, 2), (4, 3), (1, 0)]), (6, [(6976, 0), (0, 0), (0, 0), (0, 0), (0, 0), (2, 0)]), (0, [(0, 0)]), (0, [(0, 1)]), (0, [(0, 2)])]
def zC293 : ZC := [(0, 1, [some (2, (0, 0), (0, 0)), some (0, (1, 0), (0, 0)), some (111, (0, 0), (0, 0)), none])]
theorem zG293 : z_go zC293 (z_A zT293) [] 293 400 true 6 zP293_0 0 [some (2, (0, 0), (0, 0)), some (0, (1, 0), (0, 0)), some (111, (0, 0), (0, 0)), none] [] 1 = true := by decide +kernel
noncomputable def f_w_winner : ZFn := fun L S => match L with
  | [x1] => (e_try (f_x_winner [x1] S) (fun v1 S1 => ((0, [0]), (e_upd S1 r_out 0 0 0 v1))) [(0, 1), (4, 2)])
  | _ => ((0, []), S)
theorem zE293 {x1 : Int} {S : ZS} : z_ev (z_F zT293) 6 zP293_0 [x1] S = f_w_winner [x1] S := id rfl
theorem zM293 : z_met 293 1 [(2, (0, 0), (0, 0)), (0, (1, 0), (0, 0)), (111, (0, 0), (0, 0))] f_w_winner := z_met_ev zH293 (fun _ _ h => absurd h List.not_mem_nil) rfl zG293 (by decide +kernel) (fun L S hn => match L, hn with
  | [x1], _ => zE293)
def zW293 : List Nat := [r_Count_isOut, r_out]
theorem zK293 : z_kp 1 zW293 f_w_winner := z_kp_ev (KT := [(129, 1, zW129)]) (.c zF293_129 zK129 .n) (z_h163 rfl) (by decide +kernel) (fun L S hn => match L, hn with
  | [x1], _ => zE293)

-- m_firstOf (238)
def zT238 : ZT := []
theorem zH238 : z_ok zT238 := .n
def zP238_0 : List ZO := [(2, [(2, 0), (1, 0), (2, 0), (0, 0)])]
def zP238_2 : List ZO := [(5, [(6336, 0), (1, 0), (0, 0), (2, 0)]), (3, [(3, 0), (1, 0), (3, 0), (4, 0)]), (0, [(0, (-1))]), (5, [(6528, 0), (1, 0), (2, 0), (3, 0)]), (5, [(6912, 0), (0, 0), (0, 0), (5, 0)]), (3, [(0, 0), (2, 0), (6, 0), (0, 0)]), (4, [(0, 0), (3, 0), (0, 1)]), (2, [(2, 0), (1, 0), (2, 0), (7, 0)]), (5, [(6528, 0), (1, 0), (2, 0), (3, 0)]), (0, [(7, 0)])]
def zD238 : ZD := [(0, 2, [some (52, (0, 0), (0, 0)), some (0, (1, 0), (0, 0)), some (0, (2, 0), (0, 0)), none], 2, zP238_0), (2, 3, [some (52, (0, 0), (0, 0)), some (0, (1, 0), (0, 0)), some (0, (2, 0), (0, 0)), some (0, (3, 0), (0, 0))], 11, zP238_2)]
theorem zG238 : z_chk zT238 [] 238 zD238 = true := by decide +kernel
noncomputable def g_m_firstOf (R : ZR) : ZR := z_psi (z_st (z_F zT238) zD238) R
noncomputable def f_m_firstOf : ZFn := fun L S => g_m_firstOf ((1000, L), S)
theorem zM238 : z_met 238 2 [(52, (0, 0), (0, 0)), (0, (1, 0), (0, 0)), (0, (2, 0), (0, 0))] f_m_firstOf := z_met_psi zH238 (fun _ _ h => absurd h List.not_mem_nil) rfl zG238
theorem zE238_0 {x1 x2 : Int} {S : ZS} : z_st (z_F zT238) zD238 0 [x1, x2] S = ((1002, [x1, x2, 0]), S) := (id rfl : z_st (z_F zT238) zD238 0 [x1, x2] S = z_ev (z_F zT238) 2 zP238_0 [x1, x2] S).trans (id rfl)
theorem g_m_firstOf_0 {x1 x2 : Int} {S : ZS} : g_m_firstOf ((1000, [x1, x2]), S) = (g_m_firstOf ((1002, [x1, x2, 0]), S)) := by
  unfold g_m_firstOf
  refine ((z_psi_go (pc := 0)).trans (congrArg _ zE238_0)).trans ?_
  try simp only [z_psi_c, z_psi_b, z_psi_n, Nat.reduceLT, decide_true]
theorem zE238_2 {x1 x2 x3 : Int} {S : ZS} : z_st (z_F zT238) zD238 2 [x1, x2, x3] S = (bif decide ((S r_m_ballotMany_r x1 0 x2) ≤ x3) then ((0, [(-1)]), S) else (bif decide ((S r_m_areLeft 0 0 (S r_m_ballots_r_r x1 x2 x3)) = 0) then ((1002, [x1, x2, (e_wr (x3 + 1))]), S) else ((0, [(S r_m_ballots_r_r x1 x2 x3)]), S))) := (id rfl : z_st (z_F zT238) zD238 2 [x1, x2, x3] S = z_ev (z_F zT238) 11 zP238_2 [x1, x2, x3] S).trans (id rfl)
theorem g_m_firstOf_2 {x1 x2 x3 : Int} {S : ZS} : g_m_firstOf ((1002, [x1, x2, x3]), S) = (bif decide ((S r_m_ballotMany_r x1 0 x2) ≤ x3) then ((0, [(-1)]), S) else (bif decide ((S r_m_areLeft 0 0 (S r_m_ballots_r_r x1 x2 x3)) = 0) then (g_m_firstOf ((1002, [x1, x2, (e_wr (x3 + 1))]), S)) else ((0, [(S r_m_ballots_r_r x1 x2 x3)]), S))) := by
  unfold g_m_firstOf
  refine ((z_psi_go (pc := 2)).trans (congrArg _ zE238_2)).trans ?_
  try simp only [z_psi_c, z_psi_b, z_psi_n, Nat.reduceLT, decide_true]
def zW238 : List Nat := []
theorem zK238 : z_kp 2 zW238 f_m_firstOf := fun L S hL hc r i j k hr => z_psi_kp (KT := []) (F := z_F zT238) (W := zW238) (D := zD238) (.n) (z_h163 rfl) (by decide +kernel) _ hc r i j k hr

-- m_firsts (239)
noncomputable def zT239 : ZT := [(238, 2, [(52, (0, 0), (0, 0)), (0, (1, 0), (0, 0)), (0, (2, 0), (0, 0))], f_m_firstOf)]
theorem zH239 : z_ok zT239 := .c zM238 .n
theorem zF239_238 : z_F zT239 238 = f_m_firstOf := id rfl
def zP239_0 : List ZO := [(2, [(5, 0), (1, 0), (2, 0), (0, 0), (0, 0)])]
def zP239_5 : List ZO := [(5, [(5696, 0), (0, 0), (0, 0), (1, 0)]), (3, [(3, 0), (1, 0), (4, 0), (5, 0)]), (0, [(3, 0)]), (7, [(238, 0), (1, 0), (4, 0)]), (3, [(1, 0), (3, 0), (6, 0), (2, 0)]), (4, [(0, 0), (3, 0), (0, 0)]), (4, [(0, 0), (4, 0), (0, 1)]), (2, [(5, 0), (1, 0), (2, 0), (7, 0), (8, 0)]), (4, [(0, 0), (3, 0), (0, 1)]), (4, [(0, 0), (4, 0), (0, 1)]), (2, [(5, 0), (1, 0), (2, 0), (7, 0), (8, 0)])]
def zD239 : ZD := [(0, 2, [some (52, (0, 0), (0, 0)), some (0, (1, 0), (0, 0)), some (0, (2, 0), (0, 0)), none, none], 2, zP239_0), (5, 4, [some (52, (0, 0), (0, 0)), some (0, (1, 0), (0, 0)), some (0, (2, 0), (0, 0)), some (0, (3, 0), (0, 0)), some (0, (4, 0), (0, 0))], 12, zP239_5)]
theorem zG239 : z_chk zT239 [] 239 zD239 = true := by decide +kernel
noncomputable def g_m_firsts (R : ZR) : ZR := z_psi (z_st (z_F zT239) zD239) R
noncomputable def f_m_firsts : ZFn := fun L S => g_m_firsts ((1000, L), S)
theorem zM239 : z_met 239 2 [(52, (0, 0), (0, 0)), (0, (1, 0), (0, 0)), (0, (2, 0), (0, 0))] f_m_firsts := z_met_psi zH239 (fun _ _ h => absurd h List.not_mem_nil) rfl zG239
theorem zE239_0 {x1 x2 : Int} {S : ZS} : z_st (z_F zT239) zD239 0 [x1, x2] S = ((1005, [x1, x2, 0, 0]), S) := (id rfl : z_st (z_F zT239) zD239 0 [x1, x2] S = z_ev (z_F zT239) 2 zP239_0 [x1, x2] S).trans (id rfl)
theorem g_m_firsts_0 {x1 x2 : Int} {S : ZS} : g_m_firsts ((1000, [x1, x2]), S) = (g_m_firsts ((1005, [x1, x2, 0, 0]), S)) := by
  unfold g_m_firsts
  refine ((z_psi_go (pc := 0)).trans (congrArg _ zE239_0)).trans ?_
  try simp only [z_psi_c, z_psi_b, z_psi_n, Nat.reduceLT, decide_true]
theorem zE239_5 {x1 x2 x3 x4 : Int} {S : ZS} : z_st (z_F zT239) zD239 5 [x1, x2, x3, x4] S = (bif decide ((S r_m_jurorMany 0 0 x1) ≤ x4) then ((0, [x3]), S) else (e_bind (f_m_firstOf [x1, x4] S) (fun v1 S1 => (bif !decide (v1 = x2) then ((1005, [x1, x2, (e_wr (x3 + 0)), (e_wr (x4 + 1))]), S1) else ((1005, [x1, x2, (e_wr (x3 + 1)), (e_wr (x4 + 1))]), S1))))) := (id rfl : z_st (z_F zT239) zD239 5 [x1, x2, x3, x4] S = z_ev (z_F zT239) 12 zP239_5 [x1, x2, x3, x4] S).trans (id rfl)
theorem g_m_firsts_5 {x1 x2 x3 x4 : Int} {S : ZS} : g_m_firsts ((1005, [x1, x2, x3, x4]), S) = (bif decide ((S r_m_jurorMany 0 0 x1) ≤ x4) then ((0, [x3]), S) else (e_bind (f_m_firstOf [x1, x4] S) (fun v1 S1 => (bif !decide (v1 = x2) then (g_m_firsts ((1005, [x1, x2, (e_wr (x3 + 0)), (e_wr (x4 + 1))]), S1)) else (g_m_firsts ((1005, [x1, x2, (e_wr (x3 + 1)), (e_wr (x4 + 1))]), S1)))))) := by
  unfold g_m_firsts
  refine ((z_psi_go (pc := 5)).trans (congrArg _ zE239_5)).trans ?_
  try simp only [z_psi_c, z_psi_b, z_psi_n, Nat.reduceLT, decide_true]
def zW239 : List Nat := []
theorem zK239 : z_kp 2 zW239 f_m_firsts := fun L S hL hc r i j k hr => z_psi_kp (KT := [(238, 2, zW238)]) (F := z_F zT239) (W := zW239) (D := zD239) (.c zF239_238 zK238 .n) (z_h163 rfl) (by decide +kernel) _ hc r i j k hr

-- m_placeOf (240)
def zT240 : ZT := []
theorem zH240 : z_ok zT240 := .n
def zP240_0 : List ZO := [(2, [(6, 0), (1, 0), (2, 0), (3, 0), (0, (-1)), (0, 0)])]
def zP240_6 : List ZO := [(5, [(6336, 0), (1, 0), (0, 0), (2, 0)]), (3, [(3, 0), (1, 0), (5, 0), (6, 0)]), (0, [(4, 0)]), (5, [(6528, 0), (1, 0), (2, 0), (5, 0)]), (3, [(1, 0), (2, 0), (7, 0), (3, 0)]), (4, [(0, 0), (5, 0), (0, 1)]), (2, [(6, 0), (1, 0), (2, 0), (3, 0), (4, 0), (8, 0)]), (4, [(0, 0), (5, 0), (0, 1)]), (2, [(6, 0), (1, 0), (2, 0), (3, 0), (5, 0), (8, 0)])]
def zD240 : ZD := [(0, 3, [some (52, (0, 0), (0, 0)), some (0, (1, 0), (0, 0)), some (0, (2, 0), (0, 0)), some (0, (3, 0), (0, 0)), none, none], 2, zP240_0), (6, 5, [some (52, (0, 0), (0, 0)), some (0, (1, 0), (0, 0)), some (0, (2, 0), (0, 0)), some (0, (3, 0), (0, 0)), some (0, (4, 0), (0, 0)), some (0, (5, 0), (0, 0))], 10, zP240_6)]
theorem zG240 : z_chk zT240 [] 240 zD240 = true := by decide +kernel
noncomputable def g_m_placeOf (R : ZR) : ZR := z_psi (z_st (z_F zT240) zD240) R
noncomputable def f_m_placeOf : ZFn := fun L S => g_m_placeOf ((1000, L), S)
theorem zM240 : z_met 240 3 [(52, (0, 0), (0, 0)), (0, (1, 0), (0, 0)), (0, (2, 0), (0, 0)), (0, (3, 0), (0, 0))] f_m_placeOf := z_met_psi zH240 (fun _ _ h => absurd h List.not_mem_nil) rfl zG240
theorem zE240_0 {x1 x2 x3 : Int} {S : ZS} : z_st (z_F zT240) zD240 0 [x1, x2, x3] S = ((1006, [x1, x2, x3, (-1), 0]), S) := (id rfl : z_st (z_F zT240) zD240 0 [x1, x2, x3] S = z_ev (z_F zT240) 2 zP240_0 [x1, x2, x3] S).trans (id rfl)
theorem g_m_placeOf_0 {x1 x2 x3 : Int} {S : ZS} : g_m_placeOf ((1000, [x1, x2, x3]), S) = (g_m_placeOf ((1006, [x1, x2, x3, (-1), 0]), S)) := by
  unfold g_m_placeOf
  refine ((z_psi_go (pc := 0)).trans (congrArg _ zE240_0)).trans ?_
  try simp only [z_psi_c, z_psi_b, z_psi_n, Nat.reduceLT, decide_true]
theorem zE240_6 {x1 x2 x3 x4 x5 : Int} {S : ZS} : z_st (z_F zT240) zD240 6 [x1, x2, x3, x4, x5] S = (bif decide ((S r_m_ballotMany_r x1 0 x2) ≤ x5) then ((0, [x4]), S) else (bif !decide ((S r_m_ballots_r_r x1 x2 x5) = x3) then ((1006, [x1, x2, x3, x4, (e_wr (x5 + 1))]), S) else ((1006, [x1, x2, x3, x5, (e_wr (x5 + 1))]), S))) := (id rfl : z_st (z_F zT240) zD240 6 [x1, x2, x3, x4, x5] S = z_ev (z_F zT240) 10 zP240_6 [x1, x2, x3, x4, x5] S).trans (id rfl)
theorem g_m_placeOf_6 {x1 x2 x3 x4 x5 : Int} {S : ZS} : g_m_placeOf ((1006, [x1, x2, x3, x4, x5]), S) = (bif decide ((S r_m_ballotMany_r x1 0 x2) ≤ x5) then ((0, [x4]), S) else (bif !decide ((S r_m_ballots_r_r x1 x2 x5) = x3) then (g_m_placeOf ((1006, [x1, x2, x3, x4, (e_wr (x5 + 1))]), S)) else (g_m_placeOf ((1006, [x1, x2, x3, x5, (e_wr (x5 + 1))]), S)))) := by
  unfold g_m_placeOf
  refine ((z_psi_go (pc := 6)).trans (congrArg _ zE240_6)).trans ?_
  try simp only [z_psi_c, z_psi_b, z_psi_n, Nat.reduceLT, decide_true]
def zW240 : List Nat := []
theorem zK240 : z_kp 3 zW240 f_m_placeOf := fun L S hL hc r i j k hr => z_psi_kp (KT := []) (F := z_F zT240) (W := zW240) (D := zD240) (.n) (z_h163 rfl) (by decide +kernel) _ hc r i j k hr

-- m_points (241)
noncomputable def zT241 : ZT := [(240, 3, [(52, (0, 0), (0, 0)), (0, (1, 0), (0, 0)), (0, (2, 0), (0, 0)), (0, (3, 0), (0, 0))], f_m_placeOf)]
theorem zH241 : z_ok zT241 := .c zM240 .n
theorem zF241_240 : z_F zT241 240 = f_m_placeOf := id rfl
def zP241_0 : List ZO := [(2, [(5, 0), (1, 0), (2, 0), (0, 0), (0, 0)])]
def zP241_5 : List ZO := [(5, [(5696, 0), (0, 0), (0, 0), (1, 0)]), (3, [(3, 0), (1, 0), (4, 0), (5, 0)]), (0, [(3, 0)]), (7, [(240, 0), (1, 0), (4, 0), (2, 0)]), (4, [(0, 0), (6, 0), (0, 1)]), (2, [(32, 0), (1, 0), (2, 0), (3, 0), (4, 0), (6, 0), (7, 0)])]
def zP241_32 : List ZO := [(5, [(6336, 0), (1, 0), (0, 0), (4, 0)]), (3, [(3, 0), (2, 0), (6, 0), (7, 0)]), (4, [(0, 0), (4, 0), (0, 1)]), (2, [(5, 0), (1, 0), (2, 0), (3, 0), (8, 0)]), (3, [(2, 0), (2, 0), (5, 0), (0, 0)]), (4, [(0, 0), (4, 0), (0, 1)]), (2, [(5, 0), (1, 0), (2, 0), (3, 0), (8, 0)]), (5, [(6528, 0), (1, 0), (4, 0), (6, 0)]), (5, [(6912, 0), (0, 0), (0, 0), (8, 0)]), (3, [(0, 0), (3, 0), (9, 0), (0, 0)]), (4, [(0, 0), (3, 0), (0, 0)]), (4, [(0, 0), (6, 0), (0, 1)]), (2, [(32, 0), (1, 0), (2, 0), (10, 0), (4, 0), (5, 0), (11, 0)]), (4, [(0, 0), (3, 0), (0, 1)]), (4, [(0, 0), (6, 0), (0, 1)]), (2, [(32, 0), (1, 0), (2, 0), (10, 0), (4, 0), (5, 0), (11, 0)])]
def zD241 : ZD := [(0, 2, [some (52, (0, 0), (0, 0)), some (0, (1, 0), (0, 0)), some (0, (2, 0), (0, 0)), none, none, none, none], 2, zP241_0), (5, 4, [some (52, (0, 0), (0, 0)), some (0, (1, 0), (0, 0)), some (0, (2, 0), (0, 0)), some (0, (3, 0), (0, 0)), some (0, (4, 0), (0, 0)), none, none], 7, zP241_5), (32, 6, [some (52, (0, 0), (0, 0)), some (0, (1, 0), (0, 0)), some (0, (2, 0), (0, 0)), some (0, (3, 0), (0, 0)), some (0, (4, 0), (0, 0)), some (0, (5, 0), (0, 0)), some (0, (6, 0), (0, 0))], 17, zP241_32)]
theorem zG241 : z_chk zT241 [] 241 zD241 = true := by decide +kernel
noncomputable def g_m_points (R : ZR) : ZR := z_psi (z_st (z_F zT241) zD241) R
noncomputable def f_m_points : ZFn := fun L S => g_m_points ((1000, L), S)
theorem zM241 : z_met 241 2 [(52, (0, 0), (0, 0)), (0, (1, 0), (0, 0)), (0, (2, 0), (0, 0))] f_m_points := z_met_psi zH241 (fun _ _ h => absurd h List.not_mem_nil) rfl zG241
theorem zE241_0 {x1 x2 : Int} {S : ZS} : z_st (z_F zT241) zD241 0 [x1, x2] S = ((1005, [x1, x2, 0, 0]), S) := (id rfl : z_st (z_F zT241) zD241 0 [x1, x2] S = z_ev (z_F zT241) 2 zP241_0 [x1, x2] S).trans (id rfl)
theorem g_m_points_0 {x1 x2 : Int} {S : ZS} : g_m_points ((1000, [x1, x2]), S) = (g_m_points ((1005, [x1, x2, 0, 0]), S)) := by
  unfold g_m_points
  refine ((z_psi_go (pc := 0)).trans (congrArg _ zE241_0)).trans ?_
  try simp only [z_psi_c, z_psi_b, z_psi_n, Nat.reduceLT, decide_true]
theorem zE241_5 {x1 x2 x3 x4 : Int} {S : ZS} : z_st (z_F zT241) zD241 5 [x1, x2, x3, x4] S = (bif decide ((S r_m_jurorMany 0 0 x1) ≤ x4) then ((0, [x3]), S) else (e_bind (f_m_placeOf [x1, x4, x2] S) (fun v1 S1 => ((1032, [x1, x2, x3, x4, v1, (e_wr (v1 + 1))]), S1)))) := (id rfl : z_st (z_F zT241) zD241 5 [x1, x2, x3, x4] S = z_ev (z_F zT241) 7 zP241_5 [x1, x2, x3, x4] S).trans (id rfl)
theorem g_m_points_5 {x1 x2 x3 x4 : Int} {S : ZS} : g_m_points ((1005, [x1, x2, x3, x4]), S) = (bif decide ((S r_m_jurorMany 0 0 x1) ≤ x4) then ((0, [x3]), S) else (e_bind (f_m_placeOf [x1, x4, x2] S) (fun v1 S1 => (g_m_points ((1032, [x1, x2, x3, x4, v1, (e_wr (v1 + 1))]), S1))))) := by
  unfold g_m_points
  refine ((z_psi_go (pc := 5)).trans (congrArg _ zE241_5)).trans ?_
  try simp only [z_psi_c, z_psi_b, z_psi_n, Nat.reduceLT, decide_true]
theorem zE241_32 {x1 x2 x3 x4 x5 x6 : Int} {S : ZS} : z_st (z_F zT241) zD241 32 [x1, x2, x3, x4, x5, x6] S = (bif decide ((S r_m_ballotMany_r x1 0 x4) ≤ x6) then ((1005, [x1, x2, x3, (e_wr (x4 + 1))]), S) else (bif decide (x5 < 0) then ((1005, [x1, x2, x3, (e_wr (x4 + 1))]), S) else (bif decide ((S r_m_areLeft 0 0 (S r_m_ballots_r_r x1 x4 x6)) = 0) then ((1032, [x1, x2, (e_wr (x3 + 0)), x4, x5, (e_wr (x6 + 1))]), S) else ((1032, [x1, x2, (e_wr (x3 + 1)), x4, x5, (e_wr (x6 + 1))]), S)))) := (id rfl : z_st (z_F zT241) zD241 32 [x1, x2, x3, x4, x5, x6] S = z_ev (z_F zT241) 17 zP241_32 [x1, x2, x3, x4, x5, x6] S).trans (by
  simp -implicitDefEqProofs only [zP241_32, zF241_240, Nat.zero_add, Nat.reduceAdd, Nat.reduceBEq, Int.reduceToNat, z_e0, z_e1, z_e2, z_e3, z_e4, z_e5, z_e6, z_e7, z_e8, z_e11, z_e13, o_v0, o_v1, o_v2, List.cons_append, List.nil_append, List.map_cons, List.map_nil, List.drop_succ_cons, List.drop_zero, List.take_succ_cons, List.take_zero, e_c0, e_c1, e_c2, e_c3, e_c4, e_c5, e_b0, e_b1, e_b2, e_b3, e_b4, e_b5, e_b6, e_b7, e_b8, e_b9, e_b10, e_b11, e_b12, e_b13, e_b14, e_b15, e_b16, e_b17, e_n0, e_bnd, e_un]
  try rfl)
theorem g_m_points_32 {x1 x2 x3 x4 x5 x6 : Int} {S : ZS} : g_m_points ((1032, [x1, x2, x3, x4, x5, x6]), S) = (bif decide ((S r_m_ballotMany_r x1 0 x4) ≤ x6) then (g_m_points ((1005, [x1, x2, x3, (e_wr (x4 + 1))]), S)) else (bif decide (x5 < 0) then (g_m_points ((1005, [x1, x2, x3, (e_wr (x4 + 1))]), S)) else (bif decide ((S r_m_areLeft 0 0 (S r_m_ballots_r_r x1 x4 x6)) = 0) then (g_m_points ((1032, [x1, x2, (e_wr (x3 + 0)), x4, x5, (e_wr (x6 + 1))]), S)) else (g_m_points ((1032, [x1, x2, (e_wr (x3 + 1)), x4, x5, (e_wr (x6 + 1))]), S))))) := by
  unfold g_m_points
  refine ((z_psi_go (pc := 32)).trans (congrArg _ zE241_32)).trans ?_
  try simp only [z_psi_c, z_psi_b, z_psi_n, Nat.reduceLT, decide_true]
def zW241 : List Nat := []
theorem zK241 : z_kp 2 zW241 f_m_points := fun L S hL hc r i j k hr => z_psi_kp (KT := [(240, 3, zW240)]) (F := z_F zT241) (W := zW241) (D := zD241) (.c zF241_240 zK240 .n) (z_h163 rfl) (by decide +kernel) _ hc r i j k hr

-- m_byCount (243)
noncomputable def zT243 : ZT := [(239, 2, [(52, (0, 0), (0, 0)), (0, (1, 0), (0, 0)), (0, (2, 0), (0, 0))], f_m_firsts), (241, 2, [(52, (0, 0), (0, 0)), (0, (1, 0), (0, 0)), (0, (2, 0), (0, 0))], f_m_points)]
theorem zH243 : z_ok zT243 := .c zM239 (.c zM241 .n)
theorem zF243_239 : z_F zT243 239 = f_m_firsts := id rfl
theorem zF243_241 : z_F zT243 241 = f_m_points := id rfl
def zP243_0 : List ZO := [(2, [(5, 0), (1, 0), (2, 0), (0, (-1)), (0, 0)])]
def zP243_5 : List ZO := [(5, [(3244, 0), (0, 0), (0, 0), (0, 0)]), (3, [(3, 0), (1, 0), (4, 0), (5, 0)]), (0, [(3, 0)]), (5, [(6912, 0), (0, 0), (0, 0), (4, 0)]), (3, [(0, 0), (2, 0), (6, 0), (0, 0)]), (4, [(0, 0), (4, 0), (0, 1)]), (2, [(5, 0), (1, 0), (2, 0), (3, 0), (7, 0)]), (3, [(0, 0), (20, 0), (2, 0), (0, 0)]), (7, [(239, 0), (1, 0), (4, 0)]), (3, [(3, 0), (13, 0), (3, 0), (0, 0)]), (3, [(0, 0), (6, 0), (2, 0), (0, 0)]), (7, [(239, 0), (1, 0), (3, 0)]), (3, [(5, 0), (2, 0), (7, 0), (8, 0)]), (4, [(0, 0), (4, 0), (0, 1)]), (2, [(5, 0), (1, 0), (2, 0), (3, 0), (9, 0)]), (4, [(0, 0), (4, 0), (0, 1)]), (2, [(5, 0), (1, 0), (2, 0), (4, 0), (9, 0)]), (7, [(241, 0), (1, 0), (3, 0)]), (3, [(5, 0), (2, 0), (7, 0), (8, 0)]), (4, [(0, 0), (4, 0), (0, 1)]), (2, [(5, 0), (1, 0), (2, 0), (3, 0), (9, 0)]), (4, [(0, 0), (4, 0), (0, 1)]), (2, [(5, 0), (1, 0), (2, 0), (4, 0), (9, 0)]), (3, [(5, 0), (2, 0), (7, 0), (0, (-1))]), (4, [(0, 0), (4, 0), (0, 1)]), (2, [(5, 0), (1, 0), (2, 0), (3, 0), (8, 0)]), (4, [(0, 0), (4, 0), (0, 1)]), (2, [(5, 0), (1, 0), (2, 0), (4, 0), (8, 0)]), (7, [(241, 0), (1, 0), (4, 0)]), (3, [(3, 0), (13, 0), (3, 0), (0, 0)]), (3, [(0, 0), (6, 0), (2, 0), (0, 0)]), (7, [(239, 0), (1, 0), (3, 0)]), (3, [(5, 0), (2, 0), (7, 0), (8, 0)]), (4, [(0, 0), (4, 0), (0, 1)]), (2, [(5, 0), (1, 0), (2, 0), (3, 0), (9, 0)]), (4, [(0, 0), (4, 0), (0, 1)]), (2, [(5, 0), (1, 0), (2, 0), (4, 0), (9, 0)]), (7, [(241, 0), (1, 0), (3, 0)]), (3, [(5, 0), (2, 0), (7, 0), (8, 0)]), (4, [(0, 0), (4, 0), (0, 1)]), (2, [(5, 0), (1, 0), (2, 0), (3, 0), (9, 0)]), (4, [(0, 0), (4, 0), (0, 1)]), (2, [(5, 0), (1, 0), (2, 0), (4, 0), (9, 0)]), (3, [(5, 0), (2, 0), (7, 0), (0, (-1))]), (4, [(0, 0), (4, 0), (0, 1)]), (2, [(5, 0), (1, 0), (2, 0), (3, 0), (8, 0)]), (4, [(0, 0), (4, 0), (0, 1)]), (2, [(5, 0), (1, 0), (2, 0), (4, 0), (8, 0)])]
def zD243 : ZD := [(0, 2, [some (52, (0, 0), (0, 0)), some (0, (1, 0), (0, 0)), some (0, (2, 0), (0, 0)), none, none, none, none], 2, zP243_0), (5, 4, [some (52, (0, 0), (0, 0)), some (0, (1, 0), (0, 0)), some (0, (2, 0), (0, 0)), some (0, (3, 0), (0, 0)), some (0, (4, 0), (0, 0)), none, none], 49, zP243_5)]
theorem zG243 : z_chk zT243 [] 243 zD243 = true := by decide +kernel
noncomputable def g_m_byCount (R : ZR) : ZR := z_psi (z_st (z_F zT243) zD243) R
noncomputable def f_m_byCount : ZFn := fun L S => g_m_byCount ((1000, L), S)
theorem zM243 : z_met 243 2 [(52, (0, 0), (0, 0)), (0, (1, 0), (0, 0)), (0, (2, 0), (0, 0))] f_m_byCount := z_met_psi zH243 (fun _ _ h => absurd h List.not_mem_nil) rfl zG243
theorem zE243_0 {x1 x2 : Int} {S : ZS} : z_st (z_F zT243) zD243 0 [x1, x2] S = ((1005, [x1, x2, (-1), 0]), S) := (id rfl : z_st (z_F zT243) zD243 0 [x1, x2] S = z_ev (z_F zT243) 2 zP243_0 [x1, x2] S).trans (id rfl)
theorem g_m_byCount_0 {x1 x2 : Int} {S : ZS} : g_m_byCount ((1000, [x1, x2]), S) = (g_m_byCount ((1005, [x1, x2, (-1), 0]), S)) := by
  unfold g_m_byCount
  refine ((z_psi_go (pc := 0)).trans (congrArg _ zE243_0)).trans ?_
  try simp only [z_psi_c, z_psi_b, z_psi_n, Nat.reduceLT, decide_true]
theorem zE243_5 {x1 x2 x3 x4 : Int} {S : ZS} : z_st (z_F zT243) zD243 5 [x1, x2, x3, x4] S = (bif decide ((S r_m_films 0 0 0) ≤ x4) then ((0, [x3]), S) else (bif decide ((S r_m_areLeft 0 0 x4) = 0) then ((1005, [x1, x2, x3, (e_wr (x4 + 1))]), S) else (bif decide (x2 = 0) then (e_bind (f_m_firsts [x1, x4] S) (fun v1 S1 => (bif decide (0 ≤ x3) then (bif decide (x2 = 0) then (e_bind (f_m_firsts [x1, x3] S1) (fun v2 S2 => (bif decide (v1 ≤ v2) then ((1005, [x1, x2, x3, (e_wr (x4 + 1))]), S2) else ((1005, [x1, x2, x4, (e_wr (x4 + 1))]), S2)))) else (e_bind (f_m_points [x1, x3] S1) (fun v3 S3 => (bif decide (v1 ≤ v3) then ((1005, [x1, x2, x3, (e_wr (x4 + 1))]), S3) else ((1005, [x1, x2, x4, (e_wr (x4 + 1))]), S3))))) else (bif decide (v1 ≤ (-1)) then ((1005, [x1, x2, x3, (e_wr (x4 + 1))]), S1) else ((1005, [x1, x2, x4, (e_wr (x4 + 1))]), S1))))) else (e_bind (f_m_points [x1, x4] S) (fun v4 S4 => (bif decide (0 ≤ x3) then (bif decide (x2 = 0) then (e_bind (f_m_firsts [x1, x3] S4) (fun v5 S5 => (bif decide (v4 ≤ v5) then ((1005, [x1, x2, x3, (e_wr (x4 + 1))]), S5) else ((1005, [x1, x2, x4, (e_wr (x4 + 1))]), S5)))) else (e_bind (f_m_points [x1, x3] S4) (fun v6 S6 => (bif decide (v4 ≤ v6) then ((1005, [x1, x2, x3, (e_wr (x4 + 1))]), S6) else ((1005, [x1, x2, x4, (e_wr (x4 + 1))]), S6))))) else (bif decide (v4 ≤ (-1)) then ((1005, [x1, x2, x3, (e_wr (x4 + 1))]), S4) else ((1005, [x1, x2, x4, (e_wr (x4 + 1))]), S4)))))))) := (id rfl : z_st (z_F zT243) zD243 5 [x1, x2, x3, x4] S = z_ev (z_F zT243) 49 zP243_5 [x1, x2, x3, x4] S).trans (by
  simp -implicitDefEqProofs only [zP243_5, zF243_239, zF243_241, Nat.zero_add, Nat.reduceAdd, Nat.reduceBEq, Int.reduceToNat, z_e0, z_e1, z_e2, z_e3, z_e4, z_e5, z_e6, z_e7, z_e8, z_e11, z_e13, o_v0, o_v1, o_v2, List.cons_append, List.nil_append, List.map_cons, List.map_nil, List.drop_succ_cons, List.drop_zero, List.take_succ_cons, List.take_zero, e_c0, e_c1, e_c2, e_c3, e_c4, e_c5, e_b0, e_b1, e_b2, e_b3, e_b4, e_b5, e_b6, e_b7, e_b8, e_b9, e_b10, e_b11, e_b12, e_b13, e_b14, e_b15, e_b16, e_b17, e_n0, e_bnd, e_un]
  try rfl)
theorem g_m_byCount_5 {x1 x2 x3 x4 : Int} {S : ZS} : g_m_byCount ((1005, [x1, x2, x3, x4]), S) = (bif decide ((S r_m_films 0 0 0) ≤ x4) then ((0, [x3]), S) else (bif decide ((S r_m_areLeft 0 0 x4) = 0) then (g_m_byCount ((1005, [x1, x2, x3, (e_wr (x4 + 1))]), S)) else (bif decide (x2 = 0) then (e_bind (f_m_firsts [x1, x4] S) (fun v1 S1 => (bif decide (0 ≤ x3) then (bif decide (x2 = 0) then (e_bind (f_m_firsts [x1, x3] S1) (fun v2 S2 => (bif decide (v1 ≤ v2) then (g_m_byCount ((1005, [x1, x2, x3, (e_wr (x4 + 1))]), S2)) else (g_m_byCount ((1005, [x1, x2, x4, (e_wr (x4 + 1))]), S2))))) else (e_bind (f_m_points [x1, x3] S1) (fun v3 S3 => (bif decide (v1 ≤ v3) then (g_m_byCount ((1005, [x1, x2, x3, (e_wr (x4 + 1))]), S3)) else (g_m_byCount ((1005, [x1, x2, x4, (e_wr (x4 + 1))]), S3)))))) else (bif decide (v1 ≤ (-1)) then (g_m_byCount ((1005, [x1, x2, x3, (e_wr (x4 + 1))]), S1)) else (g_m_byCount ((1005, [x1, x2, x4, (e_wr (x4 + 1))]), S1)))))) else (e_bind (f_m_points [x1, x4] S) (fun v4 S4 => (bif decide (0 ≤ x3) then (bif decide (x2 = 0) then (e_bind (f_m_firsts [x1, x3] S4) (fun v5 S5 => (bif decide (v4 ≤ v5) then (g_m_byCount ((1005, [x1, x2, x3, (e_wr (x4 + 1))]), S5)) else (g_m_byCount ((1005, [x1, x2, x4, (e_wr (x4 + 1))]), S5))))) else (e_bind (f_m_points [x1, x3] S4) (fun v6 S6 => (bif decide (v4 ≤ v6) then (g_m_byCount ((1005, [x1, x2, x3, (e_wr (x4 + 1))]), S6)) else (g_m_byCount ((1005, [x1, x2, x4, (e_wr (x4 + 1))]), S6)))))) else (bif decide (v4 ≤ (-1)) then (g_m_byCount ((1005, [x1, x2, x3, (e_wr (x4 + 1))]), S4)) else (g_m_byCount ((1005, [x1, x2, x4, (e_wr (x4 + 1))]), S4))))))))) := by
  unfold g_m_byCount
  refine ((z_psi_go (pc := 5)).trans (congrArg _ zE243_5)).trans ?_
  try simp only [z_psi_c, z_psi_b, z_psi_n, Nat.reduceLT, decide_true]
def zW243 : List Nat := []
theorem zK243 : z_kp 2 zW243 f_m_byCount := fun L S hL hc r i j k hr => z_psi_kp (KT := [(239, 2, zW239), (241, 2, zW241)]) (F := z_F zT243) (W := zW243) (D := zD243) (.c zF243_239 zK239 (.c zF243_241 zK241 .n)) (z_h163 rfl) (by decide +kernel) _ hc r i j k hr

-- m_byRounds (245)
noncomputable def zT245 : ZT := [(238, 2, [(52, (0, 0), (0, 0)), (0, (1, 0), (0, 0)), (0, (2, 0), (0, 0))], f_m_firstOf), (239, 2, [(52, (0, 0), (0, 0)), (0, (1, 0), (0, 0)), (0, (2, 0), (0, 0))], f_m_firsts)]
theorem zH245 : z_ok zT245 := .c zM238 (.c zM239 .n)
theorem zF245_238 : z_F zT245 238 = f_m_firstOf := id rfl
theorem zF245_239 : z_F zT245 239 = f_m_firsts := id rfl
def zP245_0 : List ZO := [(2, [(4, 0), (1, 0), (0, 0), (0, 0)])]
def zP245_4 : List ZO := [(5, [(5696, 0), (0, 0), (0, 0), (1, 0)]), (3, [(3, 0), (1, 0), (3, 0), (4, 0)]), (2, [(42, 0), (1, 0), (2, 0), (0, (-1)), (0, 0)]), (7, [(238, 0), (1, 0), (3, 0)]), (3, [(2, 0), (3, 0), (5, 0), (0, 0)]), (4, [(0, 0), (2, 0), (0, 0)]), (4, [(0, 0), (3, 0), (0, 1)]), (2, [(4, 0), (1, 0), (6, 0), (7, 0)]), (4, [(0, 0), (2, 0), (0, 1)]), (4, [(0, 0), (3, 0), (0, 1)]), (2, [(4, 0), (1, 0), (6, 0), (7, 0)])]
def zP245_42 : List ZO := [(5, [(3244, 0), (0, 0), (0, 0), (0, 0)]), (3, [(3, 0), (2, 0), (4, 0), (5, 0)]), (6, [(6912, 0), (1, 0), (0, 0), (0, 0), (3, 0), (0, 0)]), (2, [(0, 0), (1, 0)]), (5, [(6912, 0), (0, 0), (0, 0), (4, 0)]), (3, [(0, 0), (2, 0), (6, 0), (0, 0)]), (4, [(0, 0), (4, 0), (0, 1)]), (2, [(42, 0), (1, 0), (2, 0), (3, 0), (7, 0)]), (7, [(239, 0), (1, 0), (4, 0)]), (4, [(2, 0), (0, 2), (7, 0)]), (3, [(5, 0), (10, 0), (8, 0), (2, 0)]), (3, [(2, 0), (2, 0), (3, 0), (0, 0)]), (4, [(0, 0), (4, 0), (0, 1)]), (2, [(42, 0), (1, 0), (2, 0), (4, 0), (9, 0)]), (7, [(239, 0), (1, 0), (4, 0)]), (7, [(239, 0), (1, 0), (3, 0)]), (3, [(4, 0), (2, 0), (9, 0), (10, 0)]), (4, [(0, 0), (4, 0), (0, 1)]), (2, [(42, 0), (1, 0), (2, 0), (3, 0), (11, 0)]), (4, [(0, 0), (4, 0), (0, 1)]), (2, [(42, 0), (1, 0), (2, 0), (4, 0), (11, 0)]), (0, [(4, 0)])]
def zD245 : ZD := [(0, 1, [some (52, (0, 0), (0, 0)), some (0, (1, 0), (0, 0)), none, none, none], 2, zP245_0), (4, 3, [some (52, (0, 0), (0, 0)), some (0, (1, 0), (0, 0)), some (0, (2, 0), (0, 0)), some (0, (3, 0), (0, 0)), none], 12, zP245_4), (42, 4, [some (52, (0, 0), (0, 0)), some (0, (1, 0), (0, 0)), some (0, (2, 0), (0, 0)), some (0, (3, 0), (0, 0)), some (0, (4, 0), (0, 0))], 23, zP245_42)]
theorem zG245 : z_chk zT245 [] 245 zD245 = true := by decide +kernel
noncomputable def g_m_byRounds (R : ZR) : ZR := z_psi (z_st (z_F zT245) zD245) R
noncomputable def f_m_byRounds : ZFn := fun L S => g_m_byRounds ((1000, L), S)
theorem zM245 : z_met 245 1 [(52, (0, 0), (0, 0)), (0, (1, 0), (0, 0))] f_m_byRounds := z_met_psi zH245 (fun _ _ h => absurd h List.not_mem_nil) rfl zG245
theorem zE245_0 {x1 : Int} {S : ZS} : z_st (z_F zT245) zD245 0 [x1] S = ((1004, [x1, 0, 0]), S) := (id rfl : z_st (z_F zT245) zD245 0 [x1] S = z_ev (z_F zT245) 2 zP245_0 [x1] S).trans (id rfl)
theorem g_m_byRounds_0 {x1 : Int} {S : ZS} : g_m_byRounds ((1000, [x1]), S) = (g_m_byRounds ((1004, [x1, 0, 0]), S)) := by
  unfold g_m_byRounds
  refine ((z_psi_go (pc := 0)).trans (congrArg _ zE245_0)).trans ?_
  try simp only [z_psi_c, z_psi_b, z_psi_n, Nat.reduceLT, decide_true]
theorem zE245_4 {x1 x2 x3 : Int} {S : ZS} : z_st (z_F zT245) zD245 4 [x1, x2, x3] S = (bif decide ((S r_m_jurorMany 0 0 x1) ≤ x3) then ((1042, [x1, x2, (-1), 0]), S) else (e_bind (f_m_firstOf [x1, x3] S) (fun v1 S1 => (bif decide (v1 < 0) then ((1004, [x1, (e_wr (x2 + 0)), (e_wr (x3 + 1))]), S1) else ((1004, [x1, (e_wr (x2 + 1)), (e_wr (x3 + 1))]), S1))))) := (id rfl : z_st (z_F zT245) zD245 4 [x1, x2, x3] S = z_ev (z_F zT245) 12 zP245_4 [x1, x2, x3] S).trans (id rfl)
theorem g_m_byRounds_4 {x1 x2 x3 : Int} {S : ZS} : g_m_byRounds ((1004, [x1, x2, x3]), S) = (bif decide ((S r_m_jurorMany 0 0 x1) ≤ x3) then (g_m_byRounds ((1042, [x1, x2, (-1), 0]), S)) else (e_bind (f_m_firstOf [x1, x3] S) (fun v1 S1 => (bif decide (v1 < 0) then (g_m_byRounds ((1004, [x1, (e_wr (x2 + 0)), (e_wr (x3 + 1))]), S1)) else (g_m_byRounds ((1004, [x1, (e_wr (x2 + 1)), (e_wr (x3 + 1))]), S1)))))) := by
  unfold g_m_byRounds
  refine ((z_psi_go (pc := 4)).trans (congrArg _ zE245_4)).trans ?_
  try simp only [z_psi_c, z_psi_b, z_psi_n, Nat.reduceLT, decide_true]
theorem zE245_42 {x1 x2 x3 x4 : Int} {S : ZS} : z_st (z_F zT245) zD245 42 [x1, x2, x3, x4] S = (bif decide ((S r_m_films 0 0 0) ≤ x4) then ((1000, [x1]), (e_upd S r_m_areLeft 0 0 x3 (e_nar 1 0))) else (bif decide ((S r_m_areLeft 0 0 x4) = 0) then ((1042, [x1, x2, x3, (e_wr (x4 + 1))]), S) else (e_bind (f_m_firsts [x1, x4] S) (fun v1 S1 => (bif decide ((e_wr (2 * v1)) ≤ x2) then (bif decide (x3 < 0) then ((1042, [x1, x2, x4, (e_wr (x4 + 1))]), S1) else (e_bind (f_m_firsts [x1, x4] S1) (fun v2 S2 => (e_bind (f_m_firsts [x1, x3] S2) (fun v3 S3 => (bif decide (v3 < v2) then ((1042, [x1, x2, x3, (e_wr (x4 + 1))]), S3) else ((1042, [x1, x2, x4, (e_wr (x4 + 1))]), S3))))))) else ((0, [x4]), S1)))))) := (id rfl : z_st (z_F zT245) zD245 42 [x1, x2, x3, x4] S = z_ev (z_F zT245) 23 zP245_42 [x1, x2, x3, x4] S).trans (by
  simp -implicitDefEqProofs only [zP245_42, zF245_238, zF245_239, Nat.zero_add, Nat.reduceAdd, Nat.reduceBEq, Int.reduceToNat, z_e0, z_e1, z_e2, z_e3, z_e4, z_e5, z_e6, z_e7, z_e8, z_e11, z_e13, o_v0, o_v1, o_v2, List.cons_append, List.nil_append, List.map_cons, List.map_nil, List.drop_succ_cons, List.drop_zero, List.take_succ_cons, List.take_zero, e_c0, e_c1, e_c2, e_c3, e_c4, e_c5, e_b0, e_b1, e_b2, e_b3, e_b4, e_b5, e_b6, e_b7, e_b8, e_b9, e_b10, e_b11, e_b12, e_b13, e_b14, e_b15, e_b16, e_b17, e_n0, e_bnd, e_un]
  try rfl)
theorem g_m_byRounds_42 {x1 x2 x3 x4 : Int} {S : ZS} : g_m_byRounds ((1042, [x1, x2, x3, x4]), S) = (bif decide ((S r_m_films 0 0 0) ≤ x4) then (g_m_byRounds ((1000, [x1]), (e_upd S r_m_areLeft 0 0 x3 (e_nar 1 0)))) else (bif decide ((S r_m_areLeft 0 0 x4) = 0) then (g_m_byRounds ((1042, [x1, x2, x3, (e_wr (x4 + 1))]), S)) else (e_bind (f_m_firsts [x1, x4] S) (fun v1 S1 => (bif decide ((e_wr (2 * v1)) ≤ x2) then (bif decide (x3 < 0) then (g_m_byRounds ((1042, [x1, x2, x4, (e_wr (x4 + 1))]), S1)) else (e_bind (f_m_firsts [x1, x4] S1) (fun v2 S2 => (e_bind (f_m_firsts [x1, x3] S2) (fun v3 S3 => (bif decide (v3 < v2) then (g_m_byRounds ((1042, [x1, x2, x3, (e_wr (x4 + 1))]), S3)) else (g_m_byRounds ((1042, [x1, x2, x4, (e_wr (x4 + 1))]), S3)))))))) else ((0, [x4]), S1)))))) := by
  unfold g_m_byRounds
  refine ((z_psi_go (pc := 42)).trans (congrArg _ zE245_42)).trans ?_
  try simp only [z_psi_c, z_psi_b, z_psi_n, Nat.reduceLT, decide_true]
def zW245 : List Nat := [r_m_areLeft]
theorem zK245 : z_kp 1 zW245 f_m_byRounds := fun L S hL hc r i j k hr => z_psi_kp (KT := [(238, 2, zW238), (239, 2, zW239)]) (F := z_F zT245) (W := zW245) (D := zD245) (.c zF245_238 zK238 (.c zF245_239 zK239 .n)) (z_h163 rfl) (by decide +kernel) _ hc r i j k hr

-- m_isAheadOf (242)
noncomputable def zT242 : ZT := [(240, 3, [(52, (0, 0), (0, 0)), (0, (1, 0), (0, 0)), (0, (2, 0), (0, 0)), (0, (3, 0), (0, 0))], f_m_placeOf)]
theorem zH242 : z_ok zT242 := .c zM240 .n
theorem zF242_240 : z_F zT242 240 = f_m_placeOf := id rfl
def zP242_0 : List ZO := [(2, [(6, 0), (1, 0), (2, 0), (3, 0), (0, 0), (0, 0)])]
def zP242_6 : List ZO := [(5, [(5696, 0), (0, 0), (0, 0), (1, 0)]), (3, [(3, 0), (3, 0), (5, 0), (6, 0)]), (3, [(5, 0), (1, 0), (4, 0), (0, 0)]), (0, [(0, 0)]), (0, [(0, 1)]), (7, [(240, 0), (1, 0), (5, 0), (2, 0)]), (7, [(240, 0), (1, 0), (5, 0), (3, 0)]), (3, [(2, 0), (3, 0), (7, 0), (0, 0)]), (4, [(0, 0), (4, 0), (0, 0)]), (4, [(0, 0), (5, 0), (0, 1)]), (2, [(6, 0), (1, 0), (2, 0), (3, 0), (9, 0), (10, 0)]), (3, [(3, 0), (7, 0), (8, 0), (0, 0)]), (3, [(3, 0), (3, 0), (7, 0), (8, 0)]), (4, [(0, 0), (4, 0), (0, (-1))]), (4, [(0, 0), (5, 0), (0, 1)]), (2, [(6, 0), (1, 0), (2, 0), (3, 0), (9, 0), (10, 0)]), (4, [(0, 0), (4, 0), (0, 1)]), (4, [(0, 0), (5, 0), (0, 1)]), (2, [(6, 0), (1, 0), (2, 0), (3, 0), (9, 0), (10, 0)]), (4, [(0, 0), (4, 0), (0, 0)]), (4, [(0, 0), (5, 0), (0, 1)]), (2, [(6, 0), (1, 0), (2, 0), (3, 0), (9, 0), (10, 0)])]
def zD242 : ZD := [(0, 3, [some (52, (0, 0), (0, 0)), some (0, (1, 0), (0, 0)), some (0, (2, 0), (0, 0)), some (0, (3, 0), (0, 0)), none, none, none, none], 2, zP242_0), (6, 5, [some (52, (0, 0), (0, 0)), some (0, (1, 0), (0, 0)), some (0, (2, 0), (0, 0)), some (0, (3, 0), (0, 0)), some (0, (4, 0), (0, 0)), some (0, (5, 0), (0, 0)), none, none], 23, zP242_6)]
theorem zG242 : z_chk zT242 [] 242 zD242 = true := by decide +kernel
noncomputable def g_m_isAheadOf (R : ZR) : ZR := z_psi (z_st (z_F zT242) zD242) R
noncomputable def f_m_isAheadOf : ZFn := fun L S => g_m_isAheadOf ((1000, L), S)
theorem zM242 : z_met 242 3 [(52, (0, 0), (0, 0)), (0, (1, 0), (0, 0)), (0, (2, 0), (0, 0)), (0, (3, 0), (0, 0))] f_m_isAheadOf := z_met_psi zH242 (fun _ _ h => absurd h List.not_mem_nil) rfl zG242
theorem zE242_0 {x1 x2 x3 : Int} {S : ZS} : z_st (z_F zT242) zD242 0 [x1, x2, x3] S = ((1006, [x1, x2, x3, 0, 0]), S) := (id rfl : z_st (z_F zT242) zD242 0 [x1, x2, x3] S = z_ev (z_F zT242) 2 zP242_0 [x1, x2, x3] S).trans (id rfl)
theorem g_m_isAheadOf_0 {x1 x2 x3 : Int} {S : ZS} : g_m_isAheadOf ((1000, [x1, x2, x3]), S) = (g_m_isAheadOf ((1006, [x1, x2, x3, 0, 0]), S)) := by
  unfold g_m_isAheadOf
  refine ((z_psi_go (pc := 0)).trans (congrArg _ zE242_0)).trans ?_
  try simp only [z_psi_c, z_psi_b, z_psi_n, Nat.reduceLT, decide_true]
theorem zE242_6 {x1 x2 x3 x4 x5 : Int} {S : ZS} : z_st (z_F zT242) zD242 6 [x1, x2, x3, x4, x5] S = (bif decide ((S r_m_jurorMany 0 0 x1) ≤ x5) then (bif decide (x4 ≤ 0) then ((0, [0]), S) else ((0, [1]), S)) else (e_bind (f_m_placeOf [x1, x5, x2] S) (fun v1 S1 => (e_bind (f_m_placeOf [x1, x5, x3] S1) (fun v2 S2 => (bif decide (v1 < 0) then ((1006, [x1, x2, x3, (e_wr (x4 + 0)), (e_wr (x5 + 1))]), S2) else (bif decide (0 ≤ v2) then (bif decide (v2 ≤ v1) then ((1006, [x1, x2, x3, (e_wr (x4 + (-1))), (e_wr (x5 + 1))]), S2) else ((1006, [x1, x2, x3, (e_wr (x4 + 1)), (e_wr (x5 + 1))]), S2)) else ((1006, [x1, x2, x3, (e_wr (x4 + 0)), (e_wr (x5 + 1))]), S2)))))))) := (id rfl : z_st (z_F zT242) zD242 6 [x1, x2, x3, x4, x5] S = z_ev (z_F zT242) 23 zP242_6 [x1, x2, x3, x4, x5] S).trans (by
  simp -implicitDefEqProofs only [zP242_6, zF242_240, Nat.zero_add, Nat.reduceAdd, Nat.reduceBEq, Int.reduceToNat, z_e0, z_e1, z_e2, z_e3, z_e4, z_e5, z_e6, z_e7, z_e8, z_e11, z_e13, o_v0, o_v1, o_v2, List.cons_append, List.nil_append, List.map_cons, List.map_nil, List.drop_succ_cons, List.drop_zero, List.take_succ_cons, List.take_zero, e_c0, e_c1, e_c2, e_c3, e_c4, e_c5, e_b0, e_b1, e_b2, e_b3, e_b4, e_b5, e_b6, e_b7, e_b8, e_b9, e_b10, e_b11, e_b12, e_b13, e_b14, e_b15, e_b16, e_b17, e_n0, e_bnd, e_un]
  try rfl)
theorem g_m_isAheadOf_6 {x1 x2 x3 x4 x5 : Int} {S : ZS} : g_m_isAheadOf ((1006, [x1, x2, x3, x4, x5]), S) = (bif decide ((S r_m_jurorMany 0 0 x1) ≤ x5) then (bif decide (x4 ≤ 0) then ((0, [0]), S) else ((0, [1]), S)) else (e_bind (f_m_placeOf [x1, x5, x2] S) (fun v1 S1 => (e_bind (f_m_placeOf [x1, x5, x3] S1) (fun v2 S2 => (bif decide (v1 < 0) then (g_m_isAheadOf ((1006, [x1, x2, x3, (e_wr (x4 + 0)), (e_wr (x5 + 1))]), S2)) else (bif decide (0 ≤ v2) then (bif decide (v2 ≤ v1) then (g_m_isAheadOf ((1006, [x1, x2, x3, (e_wr (x4 + (-1))), (e_wr (x5 + 1))]), S2)) else (g_m_isAheadOf ((1006, [x1, x2, x3, (e_wr (x4 + 1)), (e_wr (x5 + 1))]), S2))) else (g_m_isAheadOf ((1006, [x1, x2, x3, (e_wr (x4 + 0)), (e_wr (x5 + 1))]), S2))))))))) := by
  unfold g_m_isAheadOf
  refine ((z_psi_go (pc := 6)).trans (congrArg _ zE242_6)).trans ?_
  try simp only [z_psi_c, z_psi_b, z_psi_n, Nat.reduceLT, decide_true]
def zW242 : List Nat := []
theorem zK242 : z_kp 3 zW242 f_m_isAheadOf := fun L S hL hc r i j k hr => z_psi_kp (KT := [(240, 3, zW240)]) (F := z_F zT242) (W := zW242) (D := zD242) (.c zF242_240 zK240 .n) (z_h163 rfl) (by decide +kernel) _ hc r i j k hr

-- m_byDuels (244)
noncomputable def zT244 : ZT := [(242, 3, [(52, (0, 0), (0, 0)), (0, (1, 0), (0, 0)), (0, (2, 0), (0, 0)), (0, (3, 0), (0, 0))], f_m_isAheadOf), (243, 2, [(52, (0, 0), (0, 0)), (0, (1, 0), (0, 0)), (0, (2, 0), (0, 0))], f_m_byCount)]
theorem zH244 : z_ok zT244 := .c zM242 (.c zM243 .n)
theorem zF244_242 : z_F zT244 242 = f_m_isAheadOf := id rfl
theorem zF244_243 : z_F zT244 243 = f_m_byCount := id rfl
def zP244_0 : List ZO := [(2, [(2, 0), (1, 0), (0, 0)])]
def zP244_2 : List ZO := [(5, [(3244, 0), (0, 0), (0, 0), (0, 0)]), (3, [(3, 0), (2, 0), (2, 0), (3, 0)]), (7, [(243, 0), (1, 0), (0, 1)]), (0, [(4, 0)]), (5, [(6912, 0), (0, 0), (0, 0), (2, 0)]), (2, [(20, 0), (1, 0), (2, 0), (4, 0), (0, 0)])]
def zP244_20 : List ZO := [(5, [(3244, 0), (0, 0), (0, 0), (0, 0)]), (3, [(3, 0), (4, 0), (4, 0), (5, 0)]), (3, [(0, 0), (2, 0), (3, 0), (0, 0)]), (4, [(0, 0), (2, 0), (0, 1)]), (2, [(2, 0), (1, 0), (6, 0)]), (0, [(2, 0)]), (3, [(0, 0), (4, 0), (3, 0), (0, 0)]), (3, [(0, 0), (2, 0), (3, 0), (0, 0)]), (4, [(0, 0), (2, 0), (0, 1)]), (2, [(2, 0), (1, 0), (6, 0)]), (0, [(2, 0)]), (3, [(0, 0), (2, 0), (4, 0), (2, 0)]), (4, [(0, 0), (4, 0), (0, 1)]), (2, [(20, 0), (1, 0), (2, 0), (0, 1), (6, 0)]), (5, [(6912, 0), (0, 0), (0, 0), (4, 0)]), (3, [(0, 0), (2, 0), (6, 0), (0, 0)]), (4, [(0, 0), (4, 0), (0, 1)]), (2, [(20, 0), (1, 0), (2, 0), (0, 1), (7, 0)]), (7, [(242, 0), (1, 0), (2, 0), (4, 0)]), (3, [(0, 0), (2, 0), (7, 0), (0, 0)]), (4, [(0, 0), (4, 0), (0, 1)]), (2, [(20, 0), (1, 0), (2, 0), (0, 0), (8, 0)]), (4, [(0, 0), (4, 0), (0, 1)]), (2, [(20, 0), (1, 0), (2, 0), (0, 1), (8, 0)])]
def zD244 : ZD := [(0, 1, [some (52, (0, 0), (0, 0)), some (0, (1, 0), (0, 0)), none, none, none], 2, zP244_0), (2, 2, [some (52, (0, 0), (0, 0)), some (0, (1, 0), (0, 0)), some (0, (2, 0), (0, 0)), none, none], 7, zP244_2), (20, 4, [some (52, (0, 0), (0, 0)), some (0, (1, 0), (0, 0)), some (0, (2, 0), (0, 0)), some (0, (3, 0), (0, 0)), some (0, (4, 0), (0, 0))], 25, zP244_20)]
theorem zG244 : z_chk zT244 [] 244 zD244 = true := by decide +kernel
noncomputable def g_m_byDuels (R : ZR) : ZR := z_psi (z_st (z_F zT244) zD244) R
noncomputable def f_m_byDuels : ZFn := fun L S => g_m_byDuels ((1000, L), S)
theorem zM244 : z_met 244 1 [(52, (0, 0), (0, 0)), (0, (1, 0), (0, 0))] f_m_byDuels := z_met_psi zH244 (fun _ _ h => absurd h List.not_mem_nil) rfl zG244
theorem zE244_0 {x1 : Int} {S : ZS} : z_st (z_F zT244) zD244 0 [x1] S = ((1002, [x1, 0]), S) := (id rfl : z_st (z_F zT244) zD244 0 [x1] S = z_ev (z_F zT244) 2 zP244_0 [x1] S).trans (id rfl)
theorem g_m_byDuels_0 {x1 : Int} {S : ZS} : g_m_byDuels ((1000, [x1]), S) = (g_m_byDuels ((1002, [x1, 0]), S)) := by
  unfold g_m_byDuels
  refine ((z_psi_go (pc := 0)).trans (congrArg _ zE244_0)).trans ?_
  try simp only [z_psi_c, z_psi_b, z_psi_n, Nat.reduceLT, decide_true]
theorem zE244_2 {x1 x2 : Int} {S : ZS} : z_st (z_F zT244) zD244 2 [x1, x2] S = (bif decide ((S r_m_films 0 0 0) ≤ x2) then (e_bind (f_m_byCount [x1, 1] S) (fun v1 S1 => ((0, [v1]), S1))) else ((1020, [x1, x2, (S r_m_areLeft 0 0 x2), 0]), S)) := (id rfl : z_st (z_F zT244) zD244 2 [x1, x2] S = z_ev (z_F zT244) 7 zP244_2 [x1, x2] S).trans (id rfl)
theorem g_m_byDuels_2 {x1 x2 : Int} {S : ZS} : g_m_byDuels ((1002, [x1, x2]), S) = (bif decide ((S r_m_films 0 0 0) ≤ x2) then (e_bind (f_m_byCount [x1, 1] S) (fun v1 S1 => ((0, [v1]), S1))) else (g_m_byDuels ((1020, [x1, x2, (S r_m_areLeft 0 0 x2), 0]), S))) := by
  unfold g_m_byDuels
  refine ((z_psi_go (pc := 2)).trans (congrArg _ zE244_2)).trans ?_
  try simp only [z_psi_c, z_psi_b, z_psi_n, Nat.reduceLT, decide_true]
theorem zE244_20 {x1 x2 x3 x4 : Int} {S : ZS} : z_st (z_F zT244) zD244 20 [x1, x2, x3, x4] S = (bif decide ((S r_m_films 0 0 0) ≤ x4) then (bif decide (x3 = 0) then ((1002, [x1, (e_wr (x2 + 1))]), S) else ((0, [x2]), S)) else (bif decide (x3 = 0) then (bif decide (x3 = 0) then ((1002, [x1, (e_wr (x2 + 1))]), S) else ((0, [x2]), S)) else (bif decide (x4 = x2) then ((1020, [x1, x2, 1, (e_wr (x4 + 1))]), S) else (bif decide ((S r_m_areLeft 0 0 x4) = 0) then ((1020, [x1, x2, 1, (e_wr (x4 + 1))]), S) else (e_bind (f_m_isAheadOf [x1, x2, x4] S) (fun v1 S1 => (bif decide (v1 = 0) then ((1020, [x1, x2, 0, (e_wr (x4 + 1))]), S1) else ((1020, [x1, x2, 1, (e_wr (x4 + 1))]), S1)))))))) := (id rfl : z_st (z_F zT244) zD244 20 [x1, x2, x3, x4] S = z_ev (z_F zT244) 25 zP244_20 [x1, x2, x3, x4] S).trans (by
  simp -implicitDefEqProofs only [zP244_20, zF244_242, zF244_243, Nat.zero_add, Nat.reduceAdd, Nat.reduceBEq, Int.reduceToNat, z_e0, z_e1, z_e2, z_e3, z_e4, z_e5, z_e6, z_e7, z_e8, z_e11, z_e13, o_v0, o_v1, o_v2, List.cons_append, List.nil_append, List.map_cons, List.map_nil, List.drop_succ_cons, List.drop_zero, List.take_succ_cons, List.take_zero, e_c0, e_c1, e_c2, e_c3, e_c4, e_c5, e_b0, e_b1, e_b2, e_b3, e_b4, e_b5, e_b6, e_b7, e_b8, e_b9, e_b10, e_b11, e_b12, e_b13, e_b14, e_b15, e_b16, e_b17, e_n0, e_bnd, e_un]
  try rfl)
theorem g_m_byDuels_20 {x1 x2 x3 x4 : Int} {S : ZS} : g_m_byDuels ((1020, [x1, x2, x3, x4]), S) = (bif decide ((S r_m_films 0 0 0) ≤ x4) then (bif decide (x3 = 0) then (g_m_byDuels ((1002, [x1, (e_wr (x2 + 1))]), S)) else ((0, [x2]), S)) else (bif decide (x3 = 0) then (bif decide (x3 = 0) then (g_m_byDuels ((1002, [x1, (e_wr (x2 + 1))]), S)) else ((0, [x2]), S)) else (bif decide (x4 = x2) then (g_m_byDuels ((1020, [x1, x2, 1, (e_wr (x4 + 1))]), S)) else (bif decide ((S r_m_areLeft 0 0 x4) = 0) then (g_m_byDuels ((1020, [x1, x2, 1, (e_wr (x4 + 1))]), S)) else (e_bind (f_m_isAheadOf [x1, x2, x4] S) (fun v1 S1 => (bif decide (v1 = 0) then (g_m_byDuels ((1020, [x1, x2, 0, (e_wr (x4 + 1))]), S1)) else (g_m_byDuels ((1020, [x1, x2, 1, (e_wr (x4 + 1))]), S1))))))))) := by
  unfold g_m_byDuels
  refine ((z_psi_go (pc := 20)).trans (congrArg _ zE244_20)).trans ?_
  try simp only [z_psi_c, z_psi_b, z_psi_n, Nat.reduceLT, decide_true]
def zW244 : List Nat := []
theorem zK244 : z_kp 1 zW244 f_m_byDuels := fun L S hL hc r i j k hr => z_psi_kp (KT := [(242, 3, zW242), (243, 2, zW243)]) (F := z_F zT244) (W := zW244) (D := zD244) (.c zF244_242 zK242 (.c zF244_243 zK243 .n)) (z_h163 rfl) (by decide +kernel) _ hc r i j k hr

-- m_winnerOf (246)
noncomputable def zT246 : ZT := [(240, 3, [(52, (0, 0), (0, 0)), (0, (1, 0), (0, 0)), (0, (2, 0), (0, 0)), (0, (3, 0), (0, 0))], f_m_placeOf), (243, 2, [(52, (0, 0), (0, 0)), (0, (1, 0), (0, 0)), (0, (2, 0), (0, 0))], f_m_byCount), (244, 1, [(52, (0, 0), (0, 0)), (0, (1, 0), (0, 0))], f_m_byDuels), (245, 1, [(52, (0, 0), (0, 0)), (0, (1, 0), (0, 0))], f_m_byRounds)]
theorem zH246 : z_ok zT246 := .c zM240 (.c zM243 (.c zM244 (.c zM245 .n)))
theorem zF246_240 : z_F zT246 240 = f_m_placeOf := id rfl
theorem zF246_243 : z_F zT246 243 = f_m_byCount := id rfl
theorem zF246_244 : z_F zT246 244 = f_m_byDuels := id rfl
theorem zF246_245 : z_F zT246 245 = f_m_byRounds := id rfl
def zP246_0 : List ZO := [(2, [(4, 0), (1, 0), (0, 0), (0, 0)])]
def zP246_4 : List ZO := [(5, [(3244, 0), (0, 0), (0, 0), (0, 0)]), (3, [(3, 0), (14, 0), (3, 0), (4, 0)]), (3, [(1, 0), (12, 0), (2, 0), (0, 0)]), (5, [(4544, 0), (0, 0), (0, 0), (1, 0)]), (3, [(1, 0), (8, 0), (5, 0), (0, 99)]), (3, [(1, 0), (5, 0), (5, 0), (0, 114)]), (3, [(1, 0), (2, 0), (5, 0), (0, 98)]), (7, [(243, 0), (1, 0), (0, 0)]), (0, [(6, 0)]), (7, [(243, 0), (1, 0), (0, 1)]), (0, [(6, 0)]), (7, [(245, 0), (1, 0)]), (0, [(6, 0)]), (7, [(244, 0), (1, 0)]), (0, [(6, 0)]), (0, [(0, (-1))]), (6, [(6912, 0), (1, 0), (0, 0), (0, 0), (3, 0), (0, 0)]), (2, [(22, 0), (1, 0), (2, 0), (3, 0), (0, 0)])]
def zP246_22 : List ZO := [(5, [(5696, 0), (0, 0), (0, 0), (1, 0)]), (3, [(3, 0), (4, 0), (4, 0), (5, 0)]), (5, [(6912, 0), (0, 0), (0, 0), (3, 0)]), (4, [(6, 0), (2, 0), (6, 0)]), (4, [(0, 0), (3, 0), (0, 1)]), (2, [(4, 0), (1, 0), (7, 0), (8, 0)]), (5, [(6912, 0), (0, 0), (0, 0), (3, 0)]), (7, [(240, 0), (1, 0), (4, 0), (3, 0)]), (3, [(2, 0), (4, 0), (7, 0), (0, 0)]), (4, [(6, 0), (6, 0), (0, 0)]), (6, [(6912, 0), (1, 0), (0, 0), (0, 0), (3, 0), (8, 0)]), (4, [(0, 0), (4, 0), (0, 1)]), (2, [(22, 0), (1, 0), (2, 0), (3, 0), (9, 0)]), (5, [(3648, 0), (0, 0), (0, 0), (3, 0)]), (3, [(1, 0), (4, 0), (8, 0), (0, 0)]), (4, [(6, 0), (6, 0), (0, 0)]), (6, [(6912, 0), (1, 0), (0, 0), (0, 0), (3, 0), (9, 0)]), (4, [(0, 0), (4, 0), (0, 1)]), (2, [(22, 0), (1, 0), (2, 0), (3, 0), (10, 0)]), (4, [(6, 0), (6, 0), (0, 1)]), (6, [(6912, 0), (1, 0), (0, 0), (0, 0), (3, 0), (9, 0)]), (4, [(0, 0), (4, 0), (0, 1)]), (2, [(22, 0), (1, 0), (2, 0), (3, 0), (10, 0)])]
def zD246 : ZD := [(0, 1, [some (52, (0, 0), (0, 0)), some (0, (1, 0), (0, 0)), none, none, none], 2, zP246_0), (4, 3, [some (52, (0, 0), (0, 0)), some (0, (1, 0), (0, 0)), some (0, (2, 0), (0, 0)), some (0, (3, 0), (0, 0)), none], 19, zP246_4), (22, 4, [some (52, (0, 0), (0, 0)), some (0, (1, 0), (0, 0)), some (0, (2, 0), (0, 0)), some (0, (3, 0), (0, 0)), some (0, (4, 0), (0, 0))], 24, zP246_22)]
theorem zG246 : z_chk zT246 [] 246 zD246 = true := by decide +kernel
noncomputable def g_m_winnerOf (R : ZR) : ZR := z_psi (z_st (z_F zT246) zD246) R
noncomputable def f_m_winnerOf : ZFn := fun L S => g_m_winnerOf ((1000, L), S)
theorem zM246 : z_met 246 1 [(52, (0, 0), (0, 0)), (0, (1, 0), (0, 0))] f_m_winnerOf := z_met_psi zH246 (fun _ _ h => absurd h List.not_mem_nil) rfl zG246
theorem zE246_0 {x1 : Int} {S : ZS} : z_st (z_F zT246) zD246 0 [x1] S = ((1004, [x1, 0, 0]), S) := (id rfl : z_st (z_F zT246) zD246 0 [x1] S = z_ev (z_F zT246) 2 zP246_0 [x1] S).trans (id rfl)
theorem g_m_winnerOf_0 {x1 : Int} {S : ZS} : g_m_winnerOf ((1000, [x1]), S) = (g_m_winnerOf ((1004, [x1, 0, 0]), S)) := by
  unfold g_m_winnerOf
  refine ((z_psi_go (pc := 0)).trans (congrArg _ zE246_0)).trans ?_
  try simp only [z_psi_c, z_psi_b, z_psi_n, Nat.reduceLT, decide_true]
theorem zE246_4 {x1 x2 x3 : Int} {S : ZS} : z_st (z_F zT246) zD246 4 [x1, x2, x3] S = (bif decide ((S r_m_films 0 0 0) ≤ x3) then (bif !decide (x2 = 0) then (bif !decide ((S r_m_rules 0 0 x1) = 99) then (bif !decide ((S r_m_rules 0 0 x1) = 114) then (bif !decide ((S r_m_rules 0 0 x1) = 98) then (e_bind (f_m_byCount [x1, 0] S) (fun v1 S1 => ((0, [v1]), S1))) else (e_bind (f_m_byCount [x1, 1] S) (fun v2 S2 => ((0, [v2]), S2)))) else (e_bind (f_m_byRounds [x1] S) (fun v3 S3 => ((0, [v3]), S3)))) else (e_bind (f_m_byDuels [x1] S) (fun v4 S4 => ((0, [v4]), S4)))) else ((0, [(-1)]), S)) else ((1022, [x1, x2, x3, 0]), (e_upd S r_m_areLeft 0 0 x3 (e_nar 1 0)))) := (id rfl : z_st (z_F zT246) zD246 4 [x1, x2, x3] S = z_ev (z_F zT246) 19 zP246_4 [x1, x2, x3] S).trans (by
  simp -implicitDefEqProofs only [zP246_4, zF246_240, zF246_243, zF246_244, zF246_245, Nat.zero_add, Nat.reduceAdd, Nat.reduceBEq, Int.reduceToNat, z_e0, z_e1, z_e2, z_e3, z_e4, z_e5, z_e6, z_e7, z_e8, z_e11, z_e13, o_v0, o_v1, o_v2, List.cons_append, List.nil_append, List.map_cons, List.map_nil, List.drop_succ_cons, List.drop_zero, List.take_succ_cons, List.take_zero, e_c0, e_c1, e_c2, e_c3, e_c4, e_c5, e_b0, e_b1, e_b2, e_b3, e_b4, e_b5, e_b6, e_b7, e_b8, e_b9, e_b10, e_b11, e_b12, e_b13, e_b14, e_b15, e_b16, e_b17, e_n0, e_bnd, e_un]
  try rfl)
theorem g_m_winnerOf_4 {x1 x2 x3 : Int} {S : ZS} : g_m_winnerOf ((1004, [x1, x2, x3]), S) = (bif decide ((S r_m_films 0 0 0) ≤ x3) then (bif !decide (x2 = 0) then (bif !decide ((S r_m_rules 0 0 x1) = 99) then (bif !decide ((S r_m_rules 0 0 x1) = 114) then (bif !decide ((S r_m_rules 0 0 x1) = 98) then (e_bind (f_m_byCount [x1, 0] S) (fun v1 S1 => ((0, [v1]), S1))) else (e_bind (f_m_byCount [x1, 1] S) (fun v2 S2 => ((0, [v2]), S2)))) else (e_bind (f_m_byRounds [x1] S) (fun v3 S3 => ((0, [v3]), S3)))) else (e_bind (f_m_byDuels [x1] S) (fun v4 S4 => ((0, [v4]), S4)))) else ((0, [(-1)]), S)) else (g_m_winnerOf ((1022, [x1, x2, x3, 0]), (e_upd S r_m_areLeft 0 0 x3 (e_nar 1 0))))) := by
  unfold g_m_winnerOf
  refine ((z_psi_go (pc := 4)).trans (congrArg _ zE246_4)).trans ?_
  try simp only [z_psi_c, z_psi_b, z_psi_n, Nat.reduceLT, decide_true]
theorem zE246_22 {x1 x2 x3 x4 : Int} {S : ZS} : z_st (z_F zT246) zD246 22 [x1, x2, x3, x4] S = (bif decide ((S r_m_jurorMany 0 0 x1) ≤ x4) then ((1004, [x1, (e_or x2 (S r_m_areLeft 0 0 x3)), (e_wr (x3 + 1))]), S) else (e_bind (f_m_placeOf [x1, x4, x3] S) (fun v1 S1 => (bif decide (v1 < 0) then ((1022, [x1, x2, x3, (e_wr (x4 + 1))]), (e_upd S1 r_m_areLeft 0 0 x3 (e_nar 1 (e_or (S r_m_areLeft 0 0 x3) 0)))) else (bif !decide ((S1 r_m_areWithdrawn 0 0 x3) = 0) then ((1022, [x1, x2, x3, (e_wr (x4 + 1))]), (e_upd S1 r_m_areLeft 0 0 x3 (e_nar 1 (e_or (S r_m_areLeft 0 0 x3) 0)))) else ((1022, [x1, x2, x3, (e_wr (x4 + 1))]), (e_upd S1 r_m_areLeft 0 0 x3 (e_nar 1 (e_or (S r_m_areLeft 0 0 x3) 1))))))))) := (id rfl : z_st (z_F zT246) zD246 22 [x1, x2, x3, x4] S = z_ev (z_F zT246) 24 zP246_22 [x1, x2, x3, x4] S).trans (by
  simp -implicitDefEqProofs only [zP246_22, zF246_240, zF246_243, zF246_244, zF246_245, Nat.zero_add, Nat.reduceAdd, Nat.reduceBEq, Int.reduceToNat, z_e0, z_e1, z_e2, z_e3, z_e4, z_e5, z_e6, z_e7, z_e8, z_e11, z_e13, o_v0, o_v1, o_v2, List.cons_append, List.nil_append, List.map_cons, List.map_nil, List.drop_succ_cons, List.drop_zero, List.take_succ_cons, List.take_zero, e_c0, e_c1, e_c2, e_c3, e_c4, e_c5, e_b0, e_b1, e_b2, e_b3, e_b4, e_b5, e_b6, e_b7, e_b8, e_b9, e_b10, e_b11, e_b12, e_b13, e_b14, e_b15, e_b16, e_b17, e_n0, e_bnd, e_un]
  try rfl)
theorem g_m_winnerOf_22 {x1 x2 x3 x4 : Int} {S : ZS} : g_m_winnerOf ((1022, [x1, x2, x3, x4]), S) = (bif decide ((S r_m_jurorMany 0 0 x1) ≤ x4) then (g_m_winnerOf ((1004, [x1, (e_or x2 (S r_m_areLeft 0 0 x3)), (e_wr (x3 + 1))]), S)) else (e_bind (f_m_placeOf [x1, x4, x3] S) (fun v1 S1 => (bif decide (v1 < 0) then (g_m_winnerOf ((1022, [x1, x2, x3, (e_wr (x4 + 1))]), (e_upd S1 r_m_areLeft 0 0 x3 (e_nar 1 (e_or (S r_m_areLeft 0 0 x3) 0))))) else (bif !decide ((S1 r_m_areWithdrawn 0 0 x3) = 0) then (g_m_winnerOf ((1022, [x1, x2, x3, (e_wr (x4 + 1))]), (e_upd S1 r_m_areLeft 0 0 x3 (e_nar 1 (e_or (S r_m_areLeft 0 0 x3) 0))))) else (g_m_winnerOf ((1022, [x1, x2, x3, (e_wr (x4 + 1))]), (e_upd S1 r_m_areLeft 0 0 x3 (e_nar 1 (e_or (S r_m_areLeft 0 0 x3) 1)))))))))) := by
  unfold g_m_winnerOf
  refine ((z_psi_go (pc := 22)).trans (congrArg _ zE246_22)).trans ?_
  try simp only [z_psi_c, z_psi_b, z_psi_n, Nat.reduceLT, decide_true]
def zW246 : List Nat := [r_m_areLeft]
theorem zK246 : z_kp 1 zW246 f_m_winnerOf := fun L S hL hc r i j k hr => z_psi_kp (KT := [(240, 3, zW240), (243, 2, zW243), (244, 1, zW244), (245, 1, zW245)]) (F := z_F zT246) (W := zW246) (D := zD246) (.c zF246_240 zK240 (.c zF246_243 zK243 (.c zF246_244 zK244 (.c zF246_245 zK245 .n)))) (z_h163 rfl) (by decide +kernel) _ hc r i j k hr

-- m_winner (247)
noncomputable def zT247 : ZT := [(163, 2, [(52, (0, 0), (0, 0)), (0, (1, 0), (0, 0)), (0, (2, 0), (0, 0))], f_m_isThrown), (186, 1, [(52, (0, 0), (0, 0)), (0, (1, 0), (0, 0))], f_m_isNoSection), (246, 1, [(52, (0, 0), (0, 0)), (0, (1, 0), (0, 0))], f_m_winnerOf)]
theorem zH247 : z_ok zT247 := .c zM163 (.c zM186 (.c zM246 .n))
theorem zF247_163 : z_F zT247 163 = f_m_isThrown := id rfl
theorem zF247_186 : z_F zT247 186 = f_m_isNoSection := id rfl
theorem zF247_246 : z_F zT247 246 = f_m_winnerOf := id rfl
def zP247_0 : List ZO := [(7, [(186, 0), (1, 0)]), (13, [(163, 0), (0, 0), (2, 0), (0, 1)]), (3, [(0, 0), (6, 0), (2, 0), (0, 0)]), (7, [(246, 0), (1, 0)]), (3, [(3, 0), (2, 0), (3, 0), (0, 0)]), (13, [(163, 0), (0, 0), (0, 0), (0, 2)]), (0, [(3, 0)]), (13, [(163, 0), (0, 0), (0, 1), (0, 2)]), (0, [(0, 0)]), (0, [(0, 0)])]
def zC247 : ZC := [(0, 1, [some (52, (0, 0), (0, 0)), some (0, (1, 0), (0, 0)), none])]
theorem zG247 : z_go zC247 (z_A zT247) [(163, 0)] 247 400 true 11 zP247_0 0 [some (52, (0, 0), (0, 0)), some (0, (1, 0), (0, 0)), none] [] 1 = true := by decide +kernel
noncomputable def f_m_winner : ZFn := fun L S => match L with
  | [x1] => (bif decide ((v_m_isNoSection x1 S) = 0) then (e_bind (f_m_winnerOf [x1] (e_upd S r_m_thrown 0 0 0 (bif !decide ((v_m_isNoSection x1 S) = 0) then 1 else 0))) (fun v1 S1 => (bif decide (0 ≤ v1) then ((0, [v1]), (e_upd S1 r_m_thrown 0 0 0 0)) else ((0, [0]), (e_upd S1 r_m_thrown 0 0 0 2))))) else ((0, [0]), (e_upd S r_m_thrown 0 0 0 (bif !decide ((v_m_isNoSection x1 S) = 0) then 1 else 0))))
  | _ => ((0, []), S)
theorem zE247 {x1 : Int} {S : ZS} : z_ev (z_F zT247) 11 zP247_0 [x1] S = f_m_winner [x1] S := id rfl
theorem zM247 : z_met 247 1 [(52, (0, 0), (0, 0)), (0, (1, 0), (0, 0))] f_m_winner := z_met_ev zH247 (fun _ _ h => by rw [List.mem_singleton] at h; cases h; exact fun _ _ => rfl) rfl zG247 (by decide +kernel) (fun L S hn => match L, hn with
  | [x1], _ => zE247)
def zW247 : List Nat := [r_m_thrown, r_m_areLeft]
theorem zK247 : z_kp 1 zW247 f_m_winner := z_kp_ev (KT := [(163, 2, zW163), (186, 1, zW186), (246, 1, zW246)]) (.c zF247_163 zK163 (.c zF247_186 zK186 (.c zF247_246 zK246 .n))) (fun _ _ => Or.inl rfl) (by decide +kernel) (fun L S hn => match L, hn with
  | [x1], _ => zE247)

-- x_award (130)
noncomputable def zT130 : ZT := [(1, 2, [(13, (0, 0), (0, 0)), (0, (1, 0), (0, 0)), (0, (2, 0), (0, 0))], f_Archive_add), (4, 1, [(37, (0, 0), (0, 0)), (4, (0, 0), (0, 0)), (23, (1, 0), (0, 0))], f_Count_findWinner), (28, 1, [(5, (1, 0), (0, 0))], f_Film_breaksPromise), (145, 1, [(2, (0, 0), (0, 0)), (0, (1, 0), (0, 0))], f_x_checkSection)]
theorem zH130 : z_ok zT130 := .c zM1 (.c zM4 (.c zM28 (.c zM145 .n)))
theorem zF130_1 : z_F zT130 1 = f_Archive_add := id rfl
theorem zF130_4 : z_F zT130 4 = f_Count_findWinner := id rfl
theorem zF130_28 : z_F zT130 28 = f_Film_breaksPromise := id rfl
theorem zF130_145 : z_F zT130 145 = f_x_checkSection := id rfl
def zP130_0 : List ZO := [(7, [(145, 0), (1, 0)]), (5, [(1350, 0), (1, 0), (0, 0), (0, 0)]), (3, [(0, 0), (9, 0), (3, 0), (0, 0)]), (7, [(4, 0), (1, 0)]), (3, [(1, 0), (6, 0), (4, 0), (0, (-1))]), (7, [(28, 0), (4, 0)]), (3, [(0, 0), (3, 0), (5, 0), (0, 0)]), (6, [(1350, 0), (0, 0), (1, 0), (0, 0), (0, 0), (0, 1)]), (7, [(1, 0), (0, 112), (4, 0)]), (0, [(4, 0)]), (1, [(3, 0)]), (1, [(4, 0)]), (1, [(3, 0)])]
def zC130 : ZC := [(0, 1, [some (2, (0, 0), (0, 0)), some (0, (1, 0), (0, 0)), none])]
theorem zG130 : z_go zC130 (z_A zT130) [] 130 400 true 14 zP130_0 0 [some (2, (0, 0), (0, 0)), some (0, (1, 0), (0, 0)), none] [] 1 = true := by decide +kernel
noncomputable def f_x_award : ZFn := fun L S => match L with
  | [x1] => (e_bind (f_x_checkSection [x1] S) (fun v1 S1 => (bif decide ((S1 r_Section_isAwarded x1 0 0) = 0) then (e_bind (f_Count_findWinner [x1] S1) (fun v2 S2 => (bif !decide (v2 = (-1)) then (bif decide ((v_Film_breaksPromise v2 S2) = 0) then (e_bind (f_Archive_add [112, v2] (e_upd S2 r_Section_isAwarded x1 0 0 1)) (fun v3 S3 => ((0, [v2]), S3))) else ((4, []), S2)) else ((5, []), S2)))) else ((4, []), S1))))
  | _ => ((0, []), S)
theorem zE130 {x1 : Int} {S : ZS} : z_ev (z_F zT130) 14 zP130_0 [x1] S = f_x_award [x1] S := by
  simp -implicitDefEqProofs only [zP130_0, zF130_1, zF130_4, zF130_28, zF130_145, pF_Film_breaksPromise, Nat.zero_add, Nat.reduceAdd, Nat.reduceBEq, Int.reduceToNat, z_e0, z_e1, z_e2, z_e3, z_e4, z_e5, z_e6, z_e7, z_e8, z_e11, z_e13, o_v0, o_v1, o_v2, List.cons_append, List.nil_append, List.map_cons, List.map_nil, List.drop_succ_cons, List.drop_zero, List.take_succ_cons, List.take_zero, e_c0, e_c1, e_c2, e_c3, e_c4, e_c5, e_b0, e_b1, e_b2, e_b3, e_b4, e_b5, e_b6, e_b7, e_b8, e_b9, e_b10, e_b11, e_b12, e_b13, e_b14, e_b15, e_b16, e_b17, e_n0, e_bnd, e_un]
  try rfl
theorem zM130 : z_met 130 1 [(2, (0, 0), (0, 0)), (0, (1, 0), (0, 0))] f_x_award := z_met_ev zH130 (fun _ _ h => absurd h List.not_mem_nil) rfl zG130 (by decide +kernel) (fun L S hn => match L, hn with
  | [x1], _ => zE130)
def zW130 : List Nat := [r_Archive_lineCount, r_Archive_next, r_Archive_letters, r_Archive_filmOf, r_Section_isAwarded, r_Count_isOut]
theorem zK130 : z_kp 1 zW130 f_x_award := z_kp_ev (KT := [(1, 2, zW1), (4, 1, zW4), (28, 1, zW28), (145, 1, zW145)]) (.c zF130_1 zK1 (.c zF130_4 zK4 (.c zF130_28 zK28 (.c zF130_145 zK145 .n)))) (z_h163 rfl) (by decide +kernel) (fun L S hn => match L, hn with
  | [x1], _ => zE130)

-- w_award (294)
noncomputable def zT294 : ZT := [(130, 1, [(2, (0, 0), (0, 0)), (0, (1, 0), (0, 0))], f_x_award)]
theorem zH294 : z_ok zT294 := .c zM130 .n
theorem zF294_130 : z_F zT294 130 = f_x_award := id rfl
def zP294_0 : List ZO := [(11, [(130, 0), (3, 0), (0, 2), (3, 3), (4, 4), (1, 0)]), (6, [(6976, 0), (0, 0), (0, 0), (0, 0), (0, 0), (2, 0)]), (0, [(0, 0)]), (0, [(0, 1)]), (0, [(0, 2)]), (0, [(0, 3)])]
def zC294 : ZC := [(0, 1, [some (2, (0, 0), (0, 0)), some (0, (1, 0), (0, 0)), some (111, (0, 0), (0, 0)), none])]
theorem zG294 : z_go zC294 (z_A zT294) [] 294 400 true 7 zP294_0 0 [some (2, (0, 0), (0, 0)), some (0, (1, 0), (0, 0)), some (111, (0, 0), (0, 0)), none] [] 1 = true := by decide +kernel
noncomputable def f_w_award : ZFn := fun L S => match L with
  | [x1] => (e_try (f_x_award [x1] S) (fun v1 S1 => ((0, [0]), (e_upd S1 r_out 0 0 0 v1))) [(0, 1), (3, 2), (4, 3)])
  | _ => ((0, []), S)
theorem zE294 {x1 : Int} {S : ZS} : z_ev (z_F zT294) 7 zP294_0 [x1] S = f_w_award [x1] S := id rfl
theorem zM294 : z_met 294 1 [(2, (0, 0), (0, 0)), (0, (1, 0), (0, 0)), (111, (0, 0), (0, 0))] f_w_award := z_met_ev zH294 (fun _ _ h => absurd h List.not_mem_nil) rfl zG294 (by decide +kernel) (fun L S hn => match L, hn with
  | [x1], _ => zE294)
def zW294 : List Nat := [r_Archive_lineCount, r_Archive_next, r_Archive_letters, r_Archive_filmOf, r_Section_isAwarded, r_Count_isOut, r_out]
theorem zK294 : z_kp 1 zW294 f_w_award := z_kp_ev (KT := [(130, 1, zW130)]) (.c zF294_130 zK130 .n) (z_h163 rfl) (by decide +kernel) (fun L S hn => match L, hn with
  | [x1], _ => zE294)

-- m_award (248)
noncomputable def zT248 : ZT := [(163, 2, [(52, (0, 0), (0, 0)), (0, (1, 0), (0, 0)), (0, (2, 0), (0, 0))], f_m_isThrown), (167, 2, [(52, (0, 0), (0, 0)), (0, (1, 0), (0, 0)), (0, (2, 0), (0, 0))], f_m_writes), (186, 1, [(52, (0, 0), (0, 0)), (0, (1, 0), (0, 0))], f_m_isNoSection), (246, 1, [(52, (0, 0), (0, 0)), (0, (1, 0), (0, 0))], f_m_winnerOf)]
theorem zH248 : z_ok zT248 := .c zM163 (.c zM167 (.c zM186 (.c zM246 .n)))
theorem zF248_163 : z_F zT248 163 = f_m_isThrown := id rfl
theorem zF248_167 : z_F zT248 167 = f_m_writes := id rfl
theorem zF248_186 : z_F zT248 186 = f_m_isNoSection := id rfl
theorem zF248_246 : z_F zT248 246 = f_m_winnerOf := id rfl
def zP248_0 : List ZO := [(7, [(186, 0), (1, 0)]), (13, [(163, 0), (0, 0), (2, 0), (0, 1)]), (3, [(0, 0), (27, 0), (2, 0), (0, 0)]), (7, [(246, 0), (1, 0)]), (5, [(4608, 0), (0, 0), (0, 0), (1, 0)]), (3, [(1, 0), (2, 0), (4, 0), (0, 0)]), (13, [(163, 0), (0, 0), (0, 1), (0, 2)]), (0, [(0, 0)]), (3, [(2, 0), (8, 0), (3, 0), (0, 0)]), (13, [(163, 0), (0, 0), (0, 0), (0, 2)]), (3, [(3, 0), (4, 0), (3, 0), (0, 0)]), (13, [(163, 0), (0, 0), (0, 0), (0, 3)]), (6, [(4608, 0), (1, 0), (0, 0), (0, 0), (1, 0), (0, 1)]), (7, [(167, 0), (0, 112), (3, 0)]), (0, [(3, 0)]), (13, [(163, 0), (0, 0), (0, 1), (0, 3)]), (0, [(0, 0)]), (5, [(3456, 0), (0, 0), (0, 0), (3, 0)]), (5, [(3584, 0), (0, 0), (0, 0), (3, 0)]), (3, [(3, 0), (8, 0), (5, 0), (6, 0)]), (13, [(163, 0), (0, 0), (0, 0), (0, 2)]), (3, [(3, 0), (4, 0), (3, 0), (0, 0)]), (13, [(163, 0), (0, 0), (0, 0), (0, 3)]), (6, [(4608, 0), (1, 0), (0, 0), (0, 0), (1, 0), (0, 1)]), (7, [(167, 0), (0, 112), (3, 0)]), (0, [(3, 0)]), (13, [(163, 0), (0, 0), (0, 1), (0, 3)]), (0, [(0, 0)]), (13, [(163, 0), (0, 0), (0, 1), (0, 2)]), (0, [(0, 0)]), (0, [(0, 0)])]
def zC248 : ZC := [(0, 1, [some (52, (0, 0), (0, 0)), some (0, (1, 0), (0, 0)), none])]
theorem zG248 : z_go zC248 (z_A zT248) [(163, 0)] 248 400 true 32 zP248_0 0 [some (52, (0, 0), (0, 0)), some (0, (1, 0), (0, 0)), none] [] 1 = true := by decide +kernel
noncomputable def f_m_award : ZFn := fun L S => match L with
  | [x1] => (bif decide ((v_m_isNoSection x1 S) = 0) then (e_bind (f_m_winnerOf [x1] (e_upd S r_m_thrown 0 0 0 (bif !decide ((v_m_isNoSection x1 S) = 0) then 1 else 0))) (fun v1 S1 => (bif !decide ((S1 r_m_areGiven 0 0 x1) = 0) then ((0, [0]), (e_upd S1 r_m_thrown 0 0 0 2)) else (bif decide (v1 < 0) then (bif decide (0 ≤ v1) then (e_bind (f_m_writes [112, v1] (e_upd (e_upd (e_upd S1 r_m_thrown 0 0 0 0) r_m_thrown 0 0 0 0) r_m_areGiven 0 0 x1 (e_nar 1 1))) (fun v2 S2 => ((0, [v1]), S2))) else ((0, [0]), (e_upd (e_upd S1 r_m_thrown 0 0 0 0) r_m_thrown 0 0 0 3))) else (bif decide ((S1 r_m_promises 0 0 v1) ≤ (S1 r_m_still 0 0 v1)) then (bif decide (0 ≤ v1) then (e_bind (f_m_writes [112, v1] (e_upd (e_upd (e_upd S1 r_m_thrown 0 0 0 0) r_m_thrown 0 0 0 0) r_m_areGiven 0 0 x1 (e_nar 1 1))) (fun v3 S3 => ((0, [v1]), S3))) else ((0, [0]), (e_upd (e_upd S1 r_m_thrown 0 0 0 0) r_m_thrown 0 0 0 3))) else ((0, [0]), (e_upd S1 r_m_thrown 0 0 0 2))))))) else ((0, [0]), (e_upd S r_m_thrown 0 0 0 (bif !decide ((v_m_isNoSection x1 S) = 0) then 1 else 0))))
  | _ => ((0, []), S)
theorem zE248 {x1 : Int} {S : ZS} : z_ev (z_F zT248) 32 zP248_0 [x1] S = f_m_award [x1] S := by
  simp -implicitDefEqProofs only [zP248_0, zF248_163, zF248_167, zF248_186, zF248_246, zpI0, zpI1, zpIc, pF_m_isNoSection, Nat.zero_add, Nat.reduceAdd, Nat.reduceBEq, Int.reduceToNat, z_e0, z_e1, z_e2, z_e3, z_e4, z_e5, z_e6, z_e7, z_e8, z_e11, z_e13, o_v0, o_v1, o_v2, List.cons_append, List.nil_append, List.map_cons, List.map_nil, List.drop_succ_cons, List.drop_zero, List.take_succ_cons, List.take_zero, e_c0, e_c1, e_c2, e_c3, e_c4, e_c5, e_b0, e_b1, e_b2, e_b3, e_b4, e_b5, e_b6, e_b7, e_b8, e_b9, e_b10, e_b11, e_b12, e_b13, e_b14, e_b15, e_b16, e_b17, e_n0, e_bnd, e_un]
  try rfl
theorem zM248 : z_met 248 1 [(52, (0, 0), (0, 0)), (0, (1, 0), (0, 0))] f_m_award := z_met_ev zH248 (fun _ _ h => by rw [List.mem_singleton] at h; cases h; exact fun _ _ => rfl) rfl zG248 (by decide +kernel) (fun L S hn => match L, hn with
  | [x1], _ => zE248)
def zW248 : List Nat := [r_m_lineMany, r_m_thrown, r_m_areGiven, r_m_letters, r_m_lineFilms, r_m_areLeft]
theorem zK248 : z_kp 1 zW248 f_m_award := z_kp_ev (KT := [(163, 2, zW163), (167, 2, zW167), (186, 1, zW186), (246, 1, zW246)]) (.c zF248_163 zK163 (.c zF248_167 zK167 (.c zF248_186 zK186 (.c zF248_246 zK246 .n)))) (fun _ _ => Or.inl rfl) (by decide +kernel) (fun L S hn => match L, hn with
  | [x1], _ => zE248)

-- Rights_isOver (71)
def zT71 : ZT := []
theorem zH71 : z_ok zT71 := .n
def zP71_0 : List ZO := [(5, [(2688, 0), (0, 0), (0, 0), (1, 0)]), (3, [(1, 0), (1, 0), (6, 0), (2, 0)]), (0, [(0, 0)]), (5, [(2752, 0), (0, 0), (0, 0), (1, 0)]), (3, [(1, 0), (1, 0), (7, 0), (3, 0)]), (0, [(0, 0)]), (5, [(2816, 0), (0, 0), (0, 0), (1, 0)]), (3, [(4, 0), (1, 0), (8, 0), (5, 0)]), (0, [(0, 0)]), (5, [(2880, 0), (0, 0), (0, 0), (1, 0)]), (3, [(4, 0), (1, 0), (4, 0), (9, 0)]), (0, [(0, 0)]), (0, [(0, 1)])]
def zC71 : ZC := [(0, 5, [some (43, (0, 0), (0, 0)), some (0, (1, 0), (0, 0)), some (0, (2, 0), (0, 0)), some (0, (3, 0), (0, 0)), some (0, (4, 0), (0, 0)), some (0, (5, 0), (0, 0))])]
theorem zG71 : z_go zC71 (z_A zT71) [] 71 400 true 14 zP71_0 0 [some (43, (0, 0), (0, 0)), some (0, (1, 0), (0, 0)), some (0, (2, 0), (0, 0)), some (0, (3, 0), (0, 0)), some (0, (4, 0), (0, 0)), some (0, (5, 0), (0, 0))] [] 5 = true := by decide +kernel
def v_Rights_isOver (x1 x2 x3 x4 x5 : Int) (S : ZS) : Int := (bif !decide ((S r_Rights_soldFilms 0 0 x1) = x2) then 0 else (bif !decide ((S r_Rights_lands 0 0 x1) = x3) then 0 else (bif decide (x5 < (S r_Rights_firstMonths 0 0 x1)) then 0 else (bif decide ((S r_Rights_lastMonths 0 0 x1) < x4) then 0 else 1))))
def f_Rights_isOver : ZFn := fun L S => match L with
  | [x1, x2, x3, x4, x5] => ((0, [v_Rights_isOver x1 x2 x3 x4 x5 S]), S)
  | _ => ((0, []), S)
theorem pF_Rights_isOver {x1 x2 x3 x4 x5 : Int} {S : ZS} : f_Rights_isOver [x1, x2, x3, x4, x5] S = ((0, [v_Rights_isOver x1 x2 x3 x4 x5 S]), S) := id rfl
theorem zE71a {x1 x2 x3 x4 x5 : Int} {S : ZS} : z_ev (z_F zT71) 14 zP71_0 [x1, x2, x3, x4, x5] S = (bif !decide ((S r_Rights_soldFilms 0 0 x1) = x2) then ((0, [0]), S) else (bif !decide ((S r_Rights_lands 0 0 x1) = x3) then ((0, [0]), S) else (bif decide (x5 < (S r_Rights_firstMonths 0 0 x1)) then ((0, [0]), S) else (bif decide ((S r_Rights_lastMonths 0 0 x1) < x4) then ((0, [0]), S) else ((0, [1]), S))))) := by
  simp -implicitDefEqProofs only [zP71_0, Nat.zero_add, Nat.reduceAdd, Nat.reduceBEq, Int.reduceToNat, z_e0, z_e1, z_e2, z_e3, z_e4, z_e5, z_e6, z_e7, z_e8, z_e11, z_e13, o_v0, o_v1, o_v2, List.cons_append, List.nil_append, List.map_cons, List.map_nil, List.drop_succ_cons, List.drop_zero, List.take_succ_cons, List.take_zero, e_c0, e_c1, e_c2, e_c3, e_c4, e_c5, e_b0, e_b1, e_b2, e_b3, e_b4, e_b5, e_b6, e_b7, e_b8, e_b9, e_b10, e_b11, e_b12, e_b13, e_b14, e_b15, e_b16, e_b17, e_n0, e_bnd, e_un]
  try rfl
theorem zE71 {x1 x2 x3 x4 x5 : Int} {S : ZS} : z_ev (z_F zT71) 14 zP71_0 [x1, x2, x3, x4, x5] S = f_Rights_isOver [x1, x2, x3, x4, x5] S := zE71a.trans (by
  simp only [z_cv]
  rfl)
theorem zM71 : z_met 71 5 [(43, (0, 0), (0, 0)), (0, (1, 0), (0, 0)), (0, (2, 0), (0, 0)), (0, (3, 0), (0, 0)), (0, (4, 0), (0, 0)), (0, (5, 0), (0, 0))] f_Rights_isOver := z_met_ev zH71 (fun _ _ h => absurd h List.not_mem_nil) rfl zG71 (by decide +kernel) (fun L S hn => match L, hn with
  | [x1, x2, x3, x4, x5], _ => zE71)
def zW71 : List Nat := []
theorem zK71 : z_kp 5 zW71 f_Rights_isOver := z_kp_ev (KT := []) (.n) (z_h163 rfl) (by decide +kernel) (fun L S hn => match L, hn with
  | [x1, x2, x3, x4, x5], _ => zE71)

-- Rights_isSoldWithin (72)
def zT72 : ZT := [(71, 5, [(43, (0, 0), (0, 0)), (0, (1, 0), (0, 0)), (0, (2, 0), (0, 0)), (0, (3, 0), (0, 0)), (0, (4, 0), (0, 0)), (0, (5, 0), (0, 0))], f_Rights_isOver)]
theorem zH72 : z_ok zT72 := .c zM71 .n
theorem zF72_71 : z_F zT72 71 = f_Rights_isOver := id rfl
def zP72_0 : List ZO := [(2, [(3, 0), (1, 0), (2, 0), (3, 0), (4, 0), (0, 0)])]
def zP72_3 : List ZO := [(5, [(2629, 0), (0, 0), (0, 0), (0, 0)]), (3, [(3, 0), (1, 0), (5, 0), (6, 0)]), (0, [(0, 0)]), (7, [(71, 0), (5, 0), (1, 0), (2, 0), (3, 0), (4, 0)]), (3, [(0, 0), (2, 0), (7, 0), (0, 0)]), (4, [(0, 0), (5, 0), (0, 1)]), (2, [(3, 0), (1, 0), (2, 0), (3, 0), (4, 0), (8, 0)]), (0, [(0, 1)])]
def zD72 : ZD := [(0, 4, [some (43, (0, 0), (0, 0)), some (0, (1, 0), (0, 0)), some (0, (2, 0), (0, 0)), some (0, (3, 0), (0, 0)), some (0, (4, 0), (0, 0)), none], 2, zP72_0), (3, 5, [some (43, (0, 0), (0, 0)), some (0, (1, 0), (0, 0)), some (0, (2, 0), (0, 0)), some (0, (3, 0), (0, 0)), some (0, (4, 0), (0, 0)), some (0, (5, 0), (0, 0))], 9, zP72_3)]
theorem zG72 : z_chk zT72 [] 72 zD72 = true := by decide +kernel
noncomputable def g_Rights_isSoldWithin (R : ZR) : ZR := z_psi (z_st (z_F zT72) zD72) R
noncomputable def f_Rights_isSoldWithin : ZFn := fun L S => g_Rights_isSoldWithin ((1000, L), S)
theorem zM72 : z_met 72 4 [(43, (0, 0), (0, 0)), (0, (1, 0), (0, 0)), (0, (2, 0), (0, 0)), (0, (3, 0), (0, 0)), (0, (4, 0), (0, 0))] f_Rights_isSoldWithin := z_met_psi zH72 (fun _ _ h => absurd h List.not_mem_nil) rfl zG72
theorem zE72_0 {x1 x2 x3 x4 : Int} {S : ZS} : z_st (z_F zT72) zD72 0 [x1, x2, x3, x4] S = ((1003, [x1, x2, x3, x4, 0]), S) := (id rfl : z_st (z_F zT72) zD72 0 [x1, x2, x3, x4] S = z_ev (z_F zT72) 2 zP72_0 [x1, x2, x3, x4] S).trans (id rfl)
theorem g_Rights_isSoldWithin_0 {x1 x2 x3 x4 : Int} {S : ZS} : g_Rights_isSoldWithin ((1000, [x1, x2, x3, x4]), S) = (g_Rights_isSoldWithin ((1003, [x1, x2, x3, x4, 0]), S)) := by
  unfold g_Rights_isSoldWithin
  refine ((z_psi_go (pc := 0)).trans (congrArg _ zE72_0)).trans ?_
  try simp only [z_psi_c, z_psi_b, z_psi_n, Nat.reduceLT, decide_true]
theorem zE72_3 {x1 x2 x3 x4 x5 : Int} {S : ZS} : z_st (z_F zT72) zD72 3 [x1, x2, x3, x4, x5] S = (bif decide ((S r_Rights_dealCount 0 0 0) ≤ x5) then ((0, [0]), S) else (bif decide ((v_Rights_isOver x5 x1 x2 x3 x4 S) = 0) then ((1003, [x1, x2, x3, x4, (e_wr (x5 + 1))]), S) else ((0, [1]), S))) := (id rfl : z_st (z_F zT72) zD72 3 [x1, x2, x3, x4, x5] S = z_ev (z_F zT72) 9 zP72_3 [x1, x2, x3, x4, x5] S).trans (id rfl)
theorem g_Rights_isSoldWithin_3 {x1 x2 x3 x4 x5 : Int} {S : ZS} : g_Rights_isSoldWithin ((1003, [x1, x2, x3, x4, x5]), S) = (bif decide ((S r_Rights_dealCount 0 0 0) ≤ x5) then ((0, [0]), S) else (bif decide ((v_Rights_isOver x5 x1 x2 x3 x4 S) = 0) then (g_Rights_isSoldWithin ((1003, [x1, x2, x3, x4, (e_wr (x5 + 1))]), S)) else ((0, [1]), S))) := by
  unfold g_Rights_isSoldWithin
  refine ((z_psi_go (pc := 3)).trans (congrArg _ zE72_3)).trans ?_
  try simp only [z_psi_c, z_psi_b, z_psi_n, Nat.reduceLT, decide_true]
def zW72 : List Nat := []
theorem zK72 : z_kp 4 zW72 f_Rights_isSoldWithin := fun L S hL hc r i j k hr => z_psi_kp (KT := [(71, 5, zW71)]) (F := z_F zT72) (W := zW72) (D := zD72) (.c zF72_71 zK71 .n) (z_h163 rfl) (by decide +kernel) _ hc r i j k hr

-- Rights_addDeal (70)
def zT70 : ZT := []
theorem zH70 : z_ok zT70 := .n
def zP70_0 : List ZO := [(5, [(2629, 0), (0, 0), (0, 0), (0, 0)]), (6, [(2688, 0), (0, 0), (0, 0), (0, 0), (6, 0), (1, 0)]), (5, [(2629, 0), (0, 0), (0, 0), (0, 0)]), (6, [(2752, 0), (0, 0), (0, 0), (0, 0), (7, 0), (2, 0)]), (5, [(2629, 0), (0, 0), (0, 0), (0, 0)]), (6, [(2816, 0), (0, 0), (0, 0), (0, 0), (8, 0), (3, 0)]), (5, [(2629, 0), (0, 0), (0, 0), (0, 0)]), (6, [(2880, 0), (0, 0), (0, 0), (0, 0), (9, 0), (4, 0)]), (5, [(2629, 0), (0, 0), (0, 0), (0, 0)]), (6, [(2944, 0), (0, 0), (0, 0), (0, 0), (10, 0), (5, 0)]), (5, [(2629, 0), (0, 0), (0, 0), (0, 0)]), (4, [(0, 0), (11, 0), (0, 1)]), (6, [(2629, 0), (0, 0), (0, 0), (0, 0), (0, 0), (12, 0)]), (5, [(2629, 0), (0, 0), (0, 0), (0, 0)]), (0, [(13, 0)])]
def zC70 : ZC := [(0, 5, [some (43, (0, 0), (0, 0)), some (0, (1, 0), (0, 0)), some (0, (2, 0), (0, 0)), some (0, (3, 0), (0, 0)), some (0, (4, 0), (0, 0)), some (0, (5, 0), (0, 0))])]
theorem zG70 : z_go zC70 (z_A zT70) [] 70 400 true 16 zP70_0 0 [some (43, (0, 0), (0, 0)), some (0, (1, 0), (0, 0)), some (0, (2, 0), (0, 0)), some (0, (3, 0), (0, 0)), some (0, (4, 0), (0, 0)), some (0, (5, 0), (0, 0))] [] 5 = true := by decide +kernel
def f_Rights_addDeal : ZFn := fun L S => match L with
  | [x1, x2, x3, x4, x5] => ((0, [((e_upd (e_upd (e_upd (e_upd (e_upd (e_upd S r_Rights_soldFilms 0 0 (S r_Rights_dealCount 0 0 0) x1) r_Rights_lands 0 0 (S r_Rights_dealCount 0 0 0) x2) r_Rights_firstMonths 0 0 (S r_Rights_dealCount 0 0 0) x3) r_Rights_lastMonths 0 0 (S r_Rights_dealCount 0 0 0) x4) r_Rights_buyers 0 0 (S r_Rights_dealCount 0 0 0) x5) r_Rights_dealCount 0 0 0 (e_wr ((S r_Rights_dealCount 0 0 0) + 1))) r_Rights_dealCount 0 0 0)]), (e_upd (e_upd (e_upd (e_upd (e_upd (e_upd S r_Rights_soldFilms 0 0 (S r_Rights_dealCount 0 0 0) x1) r_Rights_lands 0 0 (S r_Rights_dealCount 0 0 0) x2) r_Rights_firstMonths 0 0 (S r_Rights_dealCount 0 0 0) x3) r_Rights_lastMonths 0 0 (S r_Rights_dealCount 0 0 0) x4) r_Rights_buyers 0 0 (S r_Rights_dealCount 0 0 0) x5) r_Rights_dealCount 0 0 0 (e_wr ((S r_Rights_dealCount 0 0 0) + 1))))
  | _ => ((0, []), S)
theorem zE70 {x1 x2 x3 x4 x5 : Int} {S : ZS} : z_ev (z_F zT70) 16 zP70_0 [x1, x2, x3, x4, x5] S = f_Rights_addDeal [x1, x2, x3, x4, x5] S := by
  simp -implicitDefEqProofs only [zP70_0, Nat.zero_add, Nat.reduceAdd, Nat.reduceBEq, Int.reduceToNat, z_e0, z_e1, z_e2, z_e3, z_e4, z_e5, z_e6, z_e7, z_e8, z_e11, z_e13, o_v0, o_v1, o_v2, List.cons_append, List.nil_append, List.map_cons, List.map_nil, List.drop_succ_cons, List.drop_zero, List.take_succ_cons, List.take_zero, e_c0, e_c1, e_c2, e_c3, e_c4, e_c5, e_b0, e_b1, e_b2, e_b3, e_b4, e_b5, e_b6, e_b7, e_b8, e_b9, e_b10, e_b11, e_b12, e_b13, e_b14, e_b15, e_b16, e_b17, e_n0, e_bnd, e_un]
  try rfl
theorem zM70 : z_met 70 5 [(43, (0, 0), (0, 0)), (0, (1, 0), (0, 0)), (0, (2, 0), (0, 0)), (0, (3, 0), (0, 0)), (0, (4, 0), (0, 0)), (0, (5, 0), (0, 0))] f_Rights_addDeal := z_met_ev zH70 (fun _ _ h => absurd h List.not_mem_nil) rfl zG70 (by decide +kernel) (fun L S hn => match L, hn with
  | [x1, x2, x3, x4, x5], _ => zE70)
def zW70 : List Nat := [r_Rights_dealCount, r_Rights_soldFilms, r_Rights_lands, r_Rights_firstMonths, r_Rights_lastMonths, r_Rights_buyers]
theorem zK70 : z_kp 5 zW70 f_Rights_addDeal := z_kp_ev (KT := []) (.n) (z_h163 rfl) (by decide +kernel) (fun L S hn => match L, hn with
  | [x1, x2, x3, x4, x5], _ => zE70)
