/-! What the methods do, by program (wip/s/sgen.py), 4 -/
-- x_canShow (108)
noncomputable def zT108 : ZT := [(32, 4, [(3, (0, 0), (0, 0)), (0, (1, 0), (0, 0)), (0, (2, 0), (0, 0)), (0, (3, 0), (0, 0)), (0, (4, 0), (0, 0))], f_Grid_canRun), (143, 1, [(2, (0, 0), (0, 0)), (0, (1, 0), (0, 0))], f_x_checkFilm), (147, 1, [(2, (0, 0), (0, 0)), (0, (1, 0), (0, 0))], f_x_checkScreen), (150, 1, [(2, (0, 0), (0, 0)), (0, (1, 0), (0, 0))], f_x_checkHour)]
theorem zH108 : z_ok zT108 := .c zM32 (.c zM143 (.c zM147 (.c zM150 .n)))
theorem zF108_32 : z_F zT108 32 = f_Grid_canRun := id rfl
theorem zF108_143 : z_F zT108 143 = f_x_checkFilm := id rfl
theorem zF108_147 : z_F zT108 147 = f_x_checkScreen := id rfl
theorem zF108_150 : z_F zT108 150 = f_x_checkHour := id rfl
def zP108_0 : List ZO := [(7, [(143, 0), (1, 0)]), (7, [(147, 0), (2, 0)]), (7, [(150, 0), (3, 0)]), (5, [(200, 0), (1, 0), (0, 0), (0, 0)]), (7, [(32, 0), (1, 0), (2, 0), (3, 0), (7, 0)]), (0, [(8, 0)])]
def zC108 : ZC := [(0, 3, [some (2, (0, 0), (0, 0)), some (0, (1, 0), (0, 0)), some (0, (2, 0), (0, 0)), some (0, (3, 0), (0, 0))])]
theorem zG108 : z_go zC108 (z_A zT108) [] 108 400 true 7 zP108_0 0 [some (2, (0, 0), (0, 0)), some (0, (1, 0), (0, 0)), some (0, (2, 0), (0, 0)), some (0, (3, 0), (0, 0))] [] 3 = true := by decide +kernel
noncomputable def f_x_canShow : ZFn := fun L S => match L with
  | [x1, x2, x3] => (e_bind (f_x_checkFilm [x1] S) (fun v1 S1 => (e_bind (f_x_checkScreen [x2] S1) (fun v2 S2 => (e_bind (f_x_checkHour [x3] S2) (fun v3 S3 => (e_bind (f_Grid_canRun [x1, x2, x3, (S3 r_Film_comes x1 0 0)] S3) (fun v4 S4 => ((0, [v4]), S4)))))))))
  | _ => ((0, []), S)
theorem zE108 {x1 x2 x3 : Int} {S : ZS} : z_ev (z_F zT108) 7 zP108_0 [x1, x2, x3] S = f_x_canShow [x1, x2, x3] S := id rfl
theorem zM108 : z_met 108 3 [(2, (0, 0), (0, 0)), (0, (1, 0), (0, 0)), (0, (2, 0), (0, 0)), (0, (3, 0), (0, 0))] f_x_canShow := z_met_ev zH108 (fun _ _ h => absurd h List.not_mem_nil) rfl zG108 (by decide +kernel) (fun L S hn => match L, hn with
  | [x1, x2, x3], _ => zE108)
def zW108 : List Nat := []
theorem zK108 : z_kp 3 zW108 f_x_canShow := z_kp_ev (KT := [(32, 4, zW32), (143, 1, zW143), (147, 1, zW147), (150, 1, zW150)]) (.c zF108_32 zK32 (.c zF108_143 zK143 (.c zF108_147 zK147 (.c zF108_150 zK150 .n)))) (z_h163 rfl) (by decide +kernel) (fun L S hn => match L, hn with
  | [x1, x2, x3], _ => zE108)

-- w_canShow (274)
noncomputable def zT274 : ZT := [(108, 3, [(2, (0, 0), (0, 0)), (0, (1, 0), (0, 0)), (0, (2, 0), (0, 0)), (0, (3, 0), (0, 0))], f_x_canShow)]
theorem zH274 : z_ok zT274 := .c zM108 .n
theorem zF274_108 : z_F zT274 108 = f_x_canShow := id rfl
def zP274_0 : List ZO := [(11, [(108, 0), (2, 0), (0, 5), (1, 6), (1, 0), (2, 0), (3, 0)]), (3, [(0, 0), (2, 0), (4, 0), (0, 0)]), (6, [(6976, 0), (0, 0), (0, 0), (0, 0), (0, 0), (0, 0)]), (0, [(0, 0)]), (6, [(6976, 0), (0, 0), (0, 0), (0, 0), (0, 0), (0, 1)]), (0, [(0, 0)]), (0, [(0, 1)]), (0, [(0, 2)])]
def zC274 : ZC := [(0, 3, [some (2, (0, 0), (0, 0)), some (0, (1, 0), (0, 0)), some (0, (2, 0), (0, 0)), some (0, (3, 0), (0, 0)), some (111, (0, 0), (0, 0)), none])]
theorem zG274 : z_go zC274 (z_A zT274) [] 274 400 true 9 zP274_0 0 [some (2, (0, 0), (0, 0)), some (0, (1, 0), (0, 0)), some (0, (2, 0), (0, 0)), some (0, (3, 0), (0, 0)), some (111, (0, 0), (0, 0)), none] [] 3 = true := by decide +kernel
noncomputable def f_w_canShow : ZFn := fun L S => match L with
  | [x1, x2, x3] => (e_try (f_x_canShow [x1, x2, x3] S) (fun v1 S1 => (bif decide (v1 = 0) then ((0, [0]), (e_upd S1 r_out 0 0 0 0)) else ((0, [0]), (e_upd S1 r_out 0 0 0 1)))) [(0, 1), (1, 2)])
  | _ => ((0, []), S)
theorem zE274 {x1 x2 x3 : Int} {S : ZS} : z_ev (z_F zT274) 9 zP274_0 [x1, x2, x3] S = f_w_canShow [x1, x2, x3] S := id rfl
theorem zM274 : z_met 274 3 [(2, (0, 0), (0, 0)), (0, (1, 0), (0, 0)), (0, (2, 0), (0, 0)), (0, (3, 0), (0, 0)), (111, (0, 0), (0, 0))] f_w_canShow := z_met_ev zH274 (fun _ _ h => absurd h List.not_mem_nil) rfl zG274 (by decide +kernel) (fun L S hn => match L, hn with
  | [x1, x2, x3], _ => zE274)
def zW274 : List Nat := [r_out]
theorem zK274 : z_kp 3 zW274 f_w_canShow := z_kp_ev (KT := [(108, 3, zW108)]) (.c zF274_108 zK108 .n) (z_h163 rfl) (by decide +kernel) (fun L S hn => match L, hn with
  | [x1, x2, x3], _ => zE274)

-- m_canShowNow (200)
def zT200 : ZT := [(164, 3, [(0, (1, 0), (0, 0)), (0, (2, 0), (0, 0)), (0, (3, 0), (0, 0))], f_m_isIn)]
theorem zH200 : z_ok zT200 := .c zM164 .n
theorem zF200_164 : z_F zT200 164 = f_m_isIn := id rfl
def zP200_0 : List ZO := [(5, [(3712, 0), (0, 0), (0, 0), (1, 0)]), (3, [(0, 0), (1, 0), (4, 0), (0, 0)]), (0, [(0, 0)]), (5, [(3776, 0), (0, 0), (0, 0), (1, 0)]), (3, [(5, 0), (7, 0), (5, 0), (3, 0)]), (5, [(3712, 0), (0, 0), (0, 0), (1, 0)]), (3, [(1, 0), (1, 0), (6, 0), (0, 114)]), (2, [(51, 0), (1, 0), (2, 0), (3, 0), (0, 0), (0, 0)]), (5, [(4736, 0), (0, 0), (0, 0), (2, 0)]), (3, [(0, 0), (1, 0), (7, 0), (0, 0)]), (2, [(51, 0), (1, 0), (2, 0), (3, 0), (0, 0), (0, 0)]), (2, [(51, 0), (1, 0), (2, 0), (3, 0), (0, 1), (0, 0)]), (0, [(0, 0)])]
def zP200_51 : List ZO := [(5, [(3248, 0), (0, 0), (0, 0), (0, 0)]), (3, [(3, 0), (1, 0), (5, 0), (6, 0)]), (0, [(4, 0)]), (5, [(3712, 0), (0, 0), (0, 0), (1, 0)]), (3, [(1, 0), (1, 0), (7, 0), (0, 100)]), (0, [(4, 0)]), (5, [(4864, 0), (5, 0), (0, 0), (0, 0)]), (3, [(1, 0), (3, 0), (8, 0), (1, 0)]), (4, [(6, 0), (4, 0), (0, 0)]), (4, [(0, 0), (5, 0), (0, 1)]), (2, [(51, 0), (1, 0), (2, 0), (3, 0), (9, 0), (10, 0)]), (5, [(4864, 0), (5, 0), (0, 0), (0, 1)]), (3, [(1, 0), (3, 0), (9, 0), (2, 0)]), (4, [(6, 0), (4, 0), (0, 0)]), (4, [(0, 0), (5, 0), (0, 1)]), (2, [(51, 0), (1, 0), (2, 0), (3, 0), (10, 0), (11, 0)]), (5, [(4864, 0), (5, 0), (0, 0), (0, 2)]), (5, [(4864, 0), (5, 0), (0, 0), (0, 3)]), (7, [(164, 0), (3, 0), (10, 0), (11, 0)]), (3, [(0, 0), (3, 0), (12, 0), (0, 0)]), (4, [(6, 0), (4, 0), (0, 0)]), (4, [(0, 0), (5, 0), (0, 1)]), (2, [(51, 0), (1, 0), (2, 0), (3, 0), (13, 0), (14, 0)]), (4, [(6, 0), (4, 0), (0, 1)]), (4, [(0, 0), (5, 0), (0, 1)]), (2, [(51, 0), (1, 0), (2, 0), (3, 0), (13, 0), (14, 0)])]
def zD200 : ZD := [(0, 3, [some (52, (0, 0), (0, 0)), some (0, (1, 0), (0, 0)), some (0, (2, 0), (0, 0)), some (0, (3, 0), (0, 0)), none, none], 14, zP200_0), (51, 5, [some (52, (0, 0), (0, 0)), some (0, (1, 0), (0, 0)), some (0, (2, 0), (0, 0)), some (0, (3, 0), (0, 0)), some (0, (4, 0), (0, 0)), some (0, (5, 0), (0, 0))], 27, zP200_51)]
theorem zG200 : z_chk zT200 [] 200 zD200 = true := by decide +kernel
noncomputable def g_m_canShowNow (R : ZR) : ZR := z_psi (z_st (z_F zT200) zD200) R
noncomputable def f_m_canShowNow : ZFn := fun L S => g_m_canShowNow ((1000, L), S)
theorem zM200 : z_met 200 3 [(52, (0, 0), (0, 0)), (0, (1, 0), (0, 0)), (0, (2, 0), (0, 0)), (0, (3, 0), (0, 0))] f_m_canShowNow := z_met_psi zH200 (fun _ _ h => absurd h List.not_mem_nil) rfl zG200
theorem zE200_0 {x1 x2 x3 : Int} {S : ZS} : z_st (z_F zT200) zD200 0 [x1, x2, x3] S = (bif decide ((S r_m_prints 0 0 x1) = 0) then ((0, [0]), S) else (bif decide ((S r_m_printHours 0 0 x1) ≤ x3) then (bif !decide ((S r_m_prints 0 0 x1) = 114) then ((1051, [x1, x2, x3, 0, 0]), S) else (bif decide ((S r_m_haveGear 0 0 x2) = 0) then ((1051, [x1, x2, x3, 0, 0]), S) else ((1051, [x1, x2, x3, 1, 0]), S))) else ((0, [0]), S))) := (id rfl : z_st (z_F zT200) zD200 0 [x1, x2, x3] S = z_ev (z_F zT200) 14 zP200_0 [x1, x2, x3] S).trans (by
  simp -implicitDefEqProofs only [zP200_0, zF200_164, pF_m_isIn, Nat.zero_add, Nat.reduceAdd, Nat.reduceBEq, Int.reduceToNat, z_e0, z_e1, z_e2, z_e3, z_e4, z_e5, z_e6, z_e7, z_e8, z_e11, z_e13, o_v0, o_v1, o_v2, List.cons_append, List.nil_append, List.map_cons, List.map_nil, List.drop_succ_cons, List.drop_zero, List.take_succ_cons, List.take_zero, e_c0, e_c1, e_c2, e_c3, e_c4, e_c5, e_b0, e_b1, e_b2, e_b3, e_b4, e_b5, e_b6, e_b7, e_b8, e_b9, e_b10, e_b11, e_b12, e_b13, e_b14, e_b15, e_b16, e_b17, e_n0, e_bnd, e_un]
  try rfl)
theorem g_m_canShowNow_0 {x1 x2 x3 : Int} {S : ZS} : g_m_canShowNow ((1000, [x1, x2, x3]), S) = (bif decide ((S r_m_prints 0 0 x1) = 0) then ((0, [0]), S) else (bif decide ((S r_m_printHours 0 0 x1) ≤ x3) then (bif !decide ((S r_m_prints 0 0 x1) = 114) then (g_m_canShowNow ((1051, [x1, x2, x3, 0, 0]), S)) else (bif decide ((S r_m_haveGear 0 0 x2) = 0) then (g_m_canShowNow ((1051, [x1, x2, x3, 0, 0]), S)) else (g_m_canShowNow ((1051, [x1, x2, x3, 1, 0]), S)))) else ((0, [0]), S))) := by
  unfold g_m_canShowNow
  refine ((z_psi_go (pc := 0)).trans (congrArg _ zE200_0)).trans ?_
  try simp only [z_psi_c, z_psi_b, z_psi_n, Nat.reduceLT, decide_true]
theorem zE200_51 {x1 x2 x3 x4 x5 : Int} {S : ZS} : z_st (z_F zT200) zD200 51 [x1, x2, x3, x4, x5] S = (bif decide ((S r_m_keyMany 0 0 0) ≤ x5) then ((0, [x4]), S) else (bif !decide ((S r_m_prints 0 0 x1) = 100) then ((0, [x4]), S) else (bif !decide ((S r_m_keys_r x5 0 0) = x1) then ((1051, [x1, x2, x3, (e_or x4 0), (e_wr (x5 + 1))]), S) else (bif !decide ((S r_m_keys_r x5 0 1) = x2) then ((1051, [x1, x2, x3, (e_or x4 0), (e_wr (x5 + 1))]), S) else (bif decide ((v_m_isIn x3 (S r_m_keys_r x5 0 2) (S r_m_keys_r x5 0 3) S) = 0) then ((1051, [x1, x2, x3, (e_or x4 0), (e_wr (x5 + 1))]), S) else ((1051, [x1, x2, x3, (e_or x4 1), (e_wr (x5 + 1))]), S)))))) := (id rfl : z_st (z_F zT200) zD200 51 [x1, x2, x3, x4, x5] S = z_ev (z_F zT200) 27 zP200_51 [x1, x2, x3, x4, x5] S).trans (by
  simp -implicitDefEqProofs only [zP200_51, zF200_164, pF_m_isIn, Nat.zero_add, Nat.reduceAdd, Nat.reduceBEq, Int.reduceToNat, z_e0, z_e1, z_e2, z_e3, z_e4, z_e5, z_e6, z_e7, z_e8, z_e11, z_e13, o_v0, o_v1, o_v2, List.cons_append, List.nil_append, List.map_cons, List.map_nil, List.drop_succ_cons, List.drop_zero, List.take_succ_cons, List.take_zero, e_c0, e_c1, e_c2, e_c3, e_c4, e_c5, e_b0, e_b1, e_b2, e_b3, e_b4, e_b5, e_b6, e_b7, e_b8, e_b9, e_b10, e_b11, e_b12, e_b13, e_b14, e_b15, e_b16, e_b17, e_n0, e_bnd, e_un]
  try rfl)
theorem g_m_canShowNow_51 {x1 x2 x3 x4 x5 : Int} {S : ZS} : g_m_canShowNow ((1051, [x1, x2, x3, x4, x5]), S) = (bif decide ((S r_m_keyMany 0 0 0) ≤ x5) then ((0, [x4]), S) else (bif !decide ((S r_m_prints 0 0 x1) = 100) then ((0, [x4]), S) else (bif !decide ((S r_m_keys_r x5 0 0) = x1) then (g_m_canShowNow ((1051, [x1, x2, x3, (e_or x4 0), (e_wr (x5 + 1))]), S)) else (bif !decide ((S r_m_keys_r x5 0 1) = x2) then (g_m_canShowNow ((1051, [x1, x2, x3, (e_or x4 0), (e_wr (x5 + 1))]), S)) else (bif decide ((v_m_isIn x3 (S r_m_keys_r x5 0 2) (S r_m_keys_r x5 0 3) S) = 0) then (g_m_canShowNow ((1051, [x1, x2, x3, (e_or x4 0), (e_wr (x5 + 1))]), S)) else (g_m_canShowNow ((1051, [x1, x2, x3, (e_or x4 1), (e_wr (x5 + 1))]), S))))))) := by
  unfold g_m_canShowNow
  refine ((z_psi_go (pc := 51)).trans (congrArg _ zE200_51)).trans ?_
  try simp only [z_psi_c, z_psi_b, z_psi_n, Nat.reduceLT, decide_true]
def zW200 : List Nat := []
theorem zK200 : z_kp 3 zW200 f_m_canShowNow := fun L S hL hc r i j k hr => z_psi_kp (KT := [(164, 3, zW164)]) (F := z_F zT200) (W := zW200) (D := zD200) (.c zF200_164 zK164 .n) (z_h163 rfl) (by decide +kernel) _ hc r i j k hr

-- m_canShow (201)
noncomputable def zT201 : ZT := [(163, 2, [(52, (0, 0), (0, 0)), (0, (1, 0), (0, 0)), (0, (2, 0), (0, 0))], f_m_isThrown), (166, 1, [(52, (0, 0), (0, 0)), (0, (1, 0), (0, 0))], f_m_isNoFilm), (196, 1, [(52, (0, 0), (0, 0)), (0, (1, 0), (0, 0))], f_m_isNoScreen), (197, 1, [(0, (1, 0), (0, 0))], f_m_isHour), (200, 3, [(52, (0, 0), (0, 0)), (0, (1, 0), (0, 0)), (0, (2, 0), (0, 0)), (0, (3, 0), (0, 0))], f_m_canShowNow)]
theorem zH201 : z_ok zT201 := .c zM163 (.c zM166 (.c zM196 (.c zM197 (.c zM200 .n))))
theorem zF201_163 : z_F zT201 163 = f_m_isThrown := id rfl
theorem zF201_166 : z_F zT201 166 = f_m_isNoFilm := id rfl
theorem zF201_196 : z_F zT201 196 = f_m_isNoScreen := id rfl
theorem zF201_197 : z_F zT201 197 = f_m_isHour := id rfl
theorem zF201_200 : z_F zT201 200 = f_m_canShowNow := id rfl
def zP201_0 : List ZO := [(7, [(166, 0), (1, 0)]), (3, [(1, 0), (2, 0), (4, 0), (0, 0)]), (13, [(163, 0), (0, 0), (0, 1), (0, 1)]), (0, [(0, 0)]), (7, [(196, 0), (2, 0)]), (3, [(0, 0), (10, 0), (5, 0), (0, 0)]), (13, [(163, 0), (0, 0), (0, 0), (0, 1)]), (7, [(197, 0), (3, 0)]), (3, [(1, 0), (5, 0), (6, 0), (0, 0)]), (13, [(163, 0), (0, 0), (0, 0), (0, 2)]), (7, [(200, 0), (1, 0), (2, 0), (3, 0)]), (3, [(0, 0), (1, 0), (7, 0), (0, 0)]), (0, [(0, 0)]), (0, [(0, 1)]), (13, [(163, 0), (0, 0), (0, 1), (0, 2)]), (0, [(0, 0)]), (13, [(163, 0), (0, 0), (0, 1), (0, 1)]), (0, [(0, 0)])]
def zC201 : ZC := [(0, 3, [some (52, (0, 0), (0, 0)), some (0, (1, 0), (0, 0)), some (0, (2, 0), (0, 0)), some (0, (3, 0), (0, 0))])]
theorem zG201 : z_go zC201 (z_A zT201) [(163, 0)] 201 400 true 19 zP201_0 0 [some (52, (0, 0), (0, 0)), some (0, (1, 0), (0, 0)), some (0, (2, 0), (0, 0)), some (0, (3, 0), (0, 0))] [] 3 = true := by decide +kernel
noncomputable def f_m_canShow : ZFn := fun L S => match L with
  | [x1, x2, x3] => (bif !decide ((v_m_isNoFilm x1 S) = 0) then ((0, [0]), (e_upd S r_m_thrown 0 0 0 1)) else (bif decide ((v_m_isNoScreen x2 S) = 0) then (bif !decide ((v_m_isHour x3 (e_upd S r_m_thrown 0 0 0 0)) = 0) then (e_bind (f_m_canShowNow [x1, x2, x3] (e_upd (e_upd S r_m_thrown 0 0 0 0) r_m_thrown 0 0 0 0)) (fun v1 S1 => (bif decide (v1 = 0) then ((0, [0]), S1) else ((0, [1]), S1)))) else ((0, [0]), (e_upd (e_upd S r_m_thrown 0 0 0 0) r_m_thrown 0 0 0 2))) else ((0, [0]), (e_upd S r_m_thrown 0 0 0 1))))
  | _ => ((0, []), S)
theorem zE201 {x1 x2 x3 : Int} {S : ZS} : z_ev (z_F zT201) 19 zP201_0 [x1, x2, x3] S = f_m_canShow [x1, x2, x3] S := by
  simp -implicitDefEqProofs only [zP201_0, zF201_163, zF201_166, zF201_196, zF201_197, zF201_200, zpI0, zpI1, zpIc, pF_m_isNoFilm, pF_m_isNoScreen, pF_m_isHour, Nat.zero_add, Nat.reduceAdd, Nat.reduceBEq, Int.reduceToNat, z_e0, z_e1, z_e2, z_e3, z_e4, z_e5, z_e6, z_e7, z_e8, z_e11, z_e13, o_v0, o_v1, o_v2, List.cons_append, List.nil_append, List.map_cons, List.map_nil, List.drop_succ_cons, List.drop_zero, List.take_succ_cons, List.take_zero, e_c0, e_c1, e_c2, e_c3, e_c4, e_c5, e_b0, e_b1, e_b2, e_b3, e_b4, e_b5, e_b6, e_b7, e_b8, e_b9, e_b10, e_b11, e_b12, e_b13, e_b14, e_b15, e_b16, e_b17, e_n0, e_bnd, e_un]
  try rfl
theorem zM201 : z_met 201 3 [(52, (0, 0), (0, 0)), (0, (1, 0), (0, 0)), (0, (2, 0), (0, 0)), (0, (3, 0), (0, 0))] f_m_canShow := z_met_ev zH201 (fun _ _ h => by rw [List.mem_singleton] at h; cases h; exact fun _ _ => rfl) rfl zG201 (by decide +kernel) (fun L S hn => match L, hn with
  | [x1, x2, x3], _ => zE201)
def zW201 : List Nat := [r_m_thrown]
theorem zK201 : z_kp 3 zW201 f_m_canShow := z_kp_ev (KT := [(163, 2, zW163), (166, 1, zW166), (196, 1, zW196), (197, 1, zW197), (200, 3, zW200)]) (.c zF201_163 zK163 (.c zF201_166 zK166 (.c zF201_196 zK196 (.c zF201_197 zK197 (.c zF201_200 zK200 .n))))) (fun _ _ => Or.inl rfl) (by decide +kernel) (fun L S hn => match L, hn with
  | [x1, x2, x3], _ => zE201)

-- Film_hoursLong (29)
def zT29 : ZT := []
theorem zH29 : z_ok zT29 := .n
def zP29_0 : List ZO := [(5, [(193, 0), (1, 0), (0, 0), (0, 0)]), (3, [(4, 0), (1, 0), (2, 0), (0, 150)]), (0, [(0, 2)]), (0, [(0, 1)])]
def zC29 : ZC := [(0, 1, [some (5, (1, 0), (0, 0))])]
theorem zG29 : z_go zC29 (z_A zT29) [] 29 400 true 5 zP29_0 0 [some (5, (1, 0), (0, 0))] [] 1 = true := by decide +kernel
def v_Film_hoursLong (x1 : Int) (S : ZS) : Int := (bif decide (150 < (S r_Film_minutes x1 0 0)) then 2 else 1)
def f_Film_hoursLong : ZFn := fun L S => match L with
  | [x1] => ((0, [v_Film_hoursLong x1 S]), S)
  | _ => ((0, []), S)
theorem pF_Film_hoursLong {x1 : Int} {S : ZS} : f_Film_hoursLong [x1] S = ((0, [v_Film_hoursLong x1 S]), S) := id rfl
theorem zE29a {x1 : Int} {S : ZS} : z_ev (z_F zT29) 5 zP29_0 [x1] S = (bif decide (150 < (S r_Film_minutes x1 0 0)) then ((0, [2]), S) else ((0, [1]), S)) := id rfl
theorem zE29 {x1 : Int} {S : ZS} : z_ev (z_F zT29) 5 zP29_0 [x1] S = f_Film_hoursLong [x1] S := zE29a.trans (by
  simp only [z_cv]
  rfl)
theorem zM29 : z_met 29 1 [(5, (1, 0), (0, 0))] f_Film_hoursLong := z_met_ev zH29 (fun _ _ h => absurd h List.not_mem_nil) rfl zG29 (by decide +kernel) (fun L S hn => match L, hn with
  | [x1], _ => zE29)
def zW29 : List Nat := []
theorem zK29 : z_kp 1 zW29 f_Film_hoursLong := z_kp_ev (KT := []) (.n) (z_h163 rfl) (by decide +kernel) (fun L S hn => match L, hn with
  | [x1], _ => zE29)

-- Grid_canRunThrough (33)
noncomputable def zT33 : ZT := [(29, 1, [(5, (1, 0), (0, 0))], f_Film_hoursLong), (32, 4, [(3, (0, 0), (0, 0)), (0, (1, 0), (0, 0)), (0, (2, 0), (0, 0)), (0, (3, 0), (0, 0)), (0, (4, 0), (0, 0))], f_Grid_canRun)]
theorem zH33 : z_ok zT33 := .c zM29 (.c zM32 .n)
theorem zF33_29 : z_F zT33 29 = f_Film_hoursLong := id rfl
theorem zF33_32 : z_F zT33 32 = f_Grid_canRun := id rfl
def zP33_0 : List ZO := [(7, [(29, 0), (1, 0)]), (4, [(0, 0), (3, 0), (5, 0)]), (2, [(16, 0), (1, 0), (2, 0), (4, 0), (6, 0), (3, 0)])]
def zP33_16 : List ZO := [(3, [(3, 0), (1, 0), (5, 0), (4, 0)]), (0, [(0, 1)]), (7, [(32, 0), (1, 0), (2, 0), (5, 0), (3, 0)]), (3, [(1, 0), (2, 0), (6, 0), (0, 0)]), (4, [(0, 0), (5, 0), (0, 1)]), (2, [(16, 0), (1, 0), (2, 0), (3, 0), (4, 0), (7, 0)]), (0, [(0, 0)])]
def zD33 : ZD := [(0, 4, [some (3, (0, 0), (0, 0)), some (0, (1, 0), (0, 0)), some (0, (2, 0), (0, 0)), some (0, (3, 0), (0, 0)), some (0, (4, 0), (0, 0)), none, none], 4, zP33_0), (16, 5, [some (3, (0, 0), (0, 0)), some (0, (1, 0), (0, 0)), some (0, (2, 0), (0, 0)), none, some (0, (3, 0), (0, 0)), some (0, (4, 0), (0, 0)), some (0, (5, 0), (0, 0))], 8, zP33_16)]
theorem zG33 : z_chk zT33 [] 33 zD33 = true := by decide +kernel
noncomputable def g_Grid_canRunThrough (R : ZR) : ZR := z_psi (z_st (z_F zT33) zD33) R
noncomputable def f_Grid_canRunThrough : ZFn := fun L S => g_Grid_canRunThrough ((1000, L), S)
theorem zM33 : z_met 33 4 [(3, (0, 0), (0, 0)), (0, (1, 0), (0, 0)), (0, (2, 0), (0, 0)), (0, (3, 0), (0, 0)), (0, (4, 0), (0, 0))] f_Grid_canRunThrough := z_met_psi zH33 (fun _ _ h => absurd h List.not_mem_nil) rfl zG33
theorem zE33_0 {x1 x2 x3 x4 : Int} {S : ZS} : z_st (z_F zT33) zD33 0 [x1, x2, x3, x4] S = ((1016, [x1, x2, x4, (e_wr (x3 + (v_Film_hoursLong x1 S))), x3]), S) := (id rfl : z_st (z_F zT33) zD33 0 [x1, x2, x3, x4] S = z_ev (z_F zT33) 4 zP33_0 [x1, x2, x3, x4] S).trans (id rfl)
theorem g_Grid_canRunThrough_0 {x1 x2 x3 x4 : Int} {S : ZS} : g_Grid_canRunThrough ((1000, [x1, x2, x3, x4]), S) = (g_Grid_canRunThrough ((1016, [x1, x2, x4, (e_wr (x3 + (v_Film_hoursLong x1 S))), x3]), S)) := by
  unfold g_Grid_canRunThrough
  refine ((z_psi_go (pc := 0)).trans (congrArg _ zE33_0)).trans ?_
  try simp only [z_psi_c, z_psi_b, z_psi_n, Nat.reduceLT, decide_true]
theorem zE33_16 {x1 x2 x3 x4 x5 : Int} {S : ZS} : z_st (z_F zT33) zD33 16 [x1, x2, x3, x4, x5] S = (bif decide (x4 ≤ x5) then ((0, [1]), S) else (e_bind (f_Grid_canRun [x1, x2, x5, x3] S) (fun v1 S1 => (bif !decide (v1 = 0) then ((1016, [x1, x2, x3, x4, (e_wr (x5 + 1))]), S1) else ((0, [0]), S1))))) := (id rfl : z_st (z_F zT33) zD33 16 [x1, x2, x3, x4, x5] S = z_ev (z_F zT33) 8 zP33_16 [x1, x2, x3, x4, x5] S).trans (id rfl)
theorem g_Grid_canRunThrough_16 {x1 x2 x3 x4 x5 : Int} {S : ZS} : g_Grid_canRunThrough ((1016, [x1, x2, x3, x4, x5]), S) = (bif decide (x4 ≤ x5) then ((0, [1]), S) else (e_bind (f_Grid_canRun [x1, x2, x5, x3] S) (fun v1 S1 => (bif !decide (v1 = 0) then (g_Grid_canRunThrough ((1016, [x1, x2, x3, x4, (e_wr (x5 + 1))]), S1)) else ((0, [0]), S1))))) := by
  unfold g_Grid_canRunThrough
  refine ((z_psi_go (pc := 16)).trans (congrArg _ zE33_16)).trans ?_
  try simp only [z_psi_c, z_psi_b, z_psi_n, Nat.reduceLT, decide_true]
def zW33 : List Nat := []
theorem zK33 : z_kp 4 zW33 f_Grid_canRunThrough := fun L S hL hc r i j k hr => z_psi_kp (KT := [(29, 1, zW29), (32, 4, zW32)]) (F := z_F zT33) (W := zW33) (D := zD33) (.c zF33_29 zK29 (.c zF33_32 zK32 .n)) (z_h163 rfl) (by decide +kernel) _ hc r i j k hr

-- Show_standsIn (81)
def zT81 : ZT := []
theorem zH81 : z_ok zT81 := .n
def zP81_0 : List ZO := [(5, [(964, 0), (1, 0), (0, 0), (0, 0)]), (3, [(1, 0), (1, 0), (4, 0), (0, 45)]), (0, [(0, 0)]), (5, [(962, 0), (1, 0), (0, 0), (0, 0)]), (4, [(0, 0), (2, 0), (3, 0)]), (3, [(3, 0), (1, 0), (5, 0), (6, 0)]), (0, [(0, 0)]), (5, [(962, 0), (1, 0), (0, 0), (0, 0)]), (5, [(963, 0), (1, 0), (0, 0), (0, 0)]), (4, [(0, 0), (7, 0), (8, 0)]), (3, [(3, 0), (1, 0), (2, 0), (9, 0)]), (0, [(0, 0)]), (0, [(0, 1)])]
def zC81 : ZC := [(0, 3, [some (17, (1, 0), (0, 0)), some (0, (2, 0), (0, 0)), some (0, (3, 0), (0, 0))])]
theorem zG81 : z_go zC81 (z_A zT81) [] 81 400 true 14 zP81_0 0 [some (17, (1, 0), (0, 0)), some (0, (2, 0), (0, 0)), some (0, (3, 0), (0, 0))] [] 3 = true := by decide +kernel
def v_Show_standsIn (x1 x2 x3 : Int) (S : ZS) : Int := (bif !decide ((S r_Show_cause x1 0 0) = 45) then 0 else (bif decide ((e_wr (x2 + x3)) ≤ (S r_Show_first x1 0 0)) then 0 else (bif decide ((e_wr ((S r_Show_first x1 0 0) + (S r_Show_length x1 0 0))) ≤ x2) then 0 else 1)))
def f_Show_standsIn : ZFn := fun L S => match L with
  | [x1, x2, x3] => ((0, [v_Show_standsIn x1 x2 x3 S]), S)
  | _ => ((0, []), S)
theorem pF_Show_standsIn {x1 x2 x3 : Int} {S : ZS} : f_Show_standsIn [x1, x2, x3] S = ((0, [v_Show_standsIn x1 x2 x3 S]), S) := id rfl
theorem zE81a {x1 x2 x3 : Int} {S : ZS} : z_ev (z_F zT81) 14 zP81_0 [x1, x2, x3] S = (bif !decide ((S r_Show_cause x1 0 0) = 45) then ((0, [0]), S) else (bif decide ((e_wr (x2 + x3)) ≤ (S r_Show_first x1 0 0)) then ((0, [0]), S) else (bif decide ((e_wr ((S r_Show_first x1 0 0) + (S r_Show_length x1 0 0))) ≤ x2) then ((0, [0]), S) else ((0, [1]), S)))) := by
  simp -implicitDefEqProofs only [zP81_0, Nat.zero_add, Nat.reduceAdd, Nat.reduceBEq, Int.reduceToNat, z_e0, z_e1, z_e2, z_e3, z_e4, z_e5, z_e6, z_e7, z_e8, z_e11, z_e13, o_v0, o_v1, o_v2, List.cons_append, List.nil_append, List.map_cons, List.map_nil, List.drop_succ_cons, List.drop_zero, List.take_succ_cons, List.take_zero, e_c0, e_c1, e_c2, e_c3, e_c4, e_c5, e_b0, e_b1, e_b2, e_b3, e_b4, e_b5, e_b6, e_b7, e_b8, e_b9, e_b10, e_b11, e_b12, e_b13, e_b14, e_b15, e_b16, e_b17, e_n0, e_bnd, e_un]
  try rfl
theorem zE81 {x1 x2 x3 : Int} {S : ZS} : z_ev (z_F zT81) 14 zP81_0 [x1, x2, x3] S = f_Show_standsIn [x1, x2, x3] S := zE81a.trans (by
  simp only [z_cv]
  rfl)
theorem zM81 : z_met 81 3 [(17, (1, 0), (0, 0)), (0, (2, 0), (0, 0)), (0, (3, 0), (0, 0))] f_Show_standsIn := z_met_ev zH81 (fun _ _ h => absurd h List.not_mem_nil) rfl zG81 (by decide +kernel) (fun L S hn => match L, hn with
  | [x1, x2, x3], _ => zE81)
def zW81 : List Nat := []
theorem zK81 : z_kp 3 zW81 f_Show_standsIn := z_kp_ev (KT := []) (.n) (z_h163 rfl) (by decide +kernel) (fun L S hn => match L, hn with
  | [x1, x2, x3], _ => zE81)

-- Grid_isFree (35)
def zT35 : ZT := [(29, 1, [(5, (1, 0), (0, 0))], f_Film_hoursLong), (81, 3, [(17, (1, 0), (0, 0)), (0, (2, 0), (0, 0)), (0, (3, 0), (0, 0))], f_Show_standsIn)]
theorem zH35 : z_ok zT35 := .c zM29 (.c zM81 .n)
theorem zF35_29 : z_F zT35 29 = f_Film_hoursLong := id rfl
theorem zF35_81 : z_F zT35 81 = f_Show_standsIn := id rfl
def zP35_0 : List ZO := [(7, [(29, 0), (1, 0)]), (5, [(195, 0), (1, 0), (0, 0), (0, 0)]), (2, [(25, 0), (1, 0), (2, 0), (3, 0), (4, 0), (5, 0), (0, 0)])]
def zP35_25 : List ZO := [(5, [(68, 0), (0, 0), (0, 0), (0, 0)]), (3, [(3, 0), (1, 0), (6, 0), (7, 0)]), (0, [(0, 1)]), (7, [(81, 0), (6, 0), (3, 0), (4, 0)]), (3, [(0, 0), (2, 0), (8, 0), (0, 0)]), (4, [(0, 0), (6, 0), (0, 1)]), (2, [(25, 0), (1, 0), (2, 0), (3, 0), (4, 0), (5, 0), (9, 0)]), (5, [(961, 0), (6, 0), (0, 0), (0, 0)]), (3, [(0, 0), (1, 0), (9, 0), (2, 0)]), (0, [(0, 0)]), (5, [(960, 0), (6, 0), (0, 0), (0, 0)]), (3, [(0, 0), (1, 0), (10, 0), (1, 0)]), (0, [(0, 0)]), (5, [(960, 0), (6, 0), (0, 0), (0, 0)]), (5, [(195, 0), (11, 0), (0, 0), (0, 0)]), (3, [(1, 0), (2, 0), (12, 0), (5, 0)]), (4, [(0, 0), (6, 0), (0, 1)]), (2, [(25, 0), (1, 0), (2, 0), (3, 0), (4, 0), (5, 0), (13, 0)]), (0, [(0, 0)])]
def zD35 : ZD := [(0, 3, [some (3, (0, 0), (0, 0)), some (0, (1, 0), (0, 0)), some (0, (2, 0), (0, 0)), some (0, (3, 0), (0, 0)), none, none, none, none], 4, zP35_0), (25, 6, [some (3, (0, 0), (0, 0)), some (0, (1, 0), (0, 0)), some (0, (2, 0), (0, 0)), some (0, (3, 0), (0, 0)), some (0, (4, 0), (0, 0)), some (0, (5, 0), (0, 0)), some (0, (6, 0), (0, 0)), none], 20, zP35_25)]
theorem zG35 : z_chk zT35 [] 35 zD35 = true := by decide +kernel
noncomputable def g_Grid_isFree (R : ZR) : ZR := z_psi (z_st (z_F zT35) zD35) R
noncomputable def f_Grid_isFree : ZFn := fun L S => g_Grid_isFree ((1000, L), S)
theorem zM35 : z_met 35 3 [(3, (0, 0), (0, 0)), (0, (1, 0), (0, 0)), (0, (2, 0), (0, 0)), (0, (3, 0), (0, 0))] f_Grid_isFree := z_met_psi zH35 (fun _ _ h => absurd h List.not_mem_nil) rfl zG35
theorem zE35_0 {x1 x2 x3 : Int} {S : ZS} : z_st (z_F zT35) zD35 0 [x1, x2, x3] S = ((1025, [x1, x2, x3, (v_Film_hoursLong x1 S), (S r_Film_section x1 0 0), 0]), S) := (id rfl : z_st (z_F zT35) zD35 0 [x1, x2, x3] S = z_ev (z_F zT35) 4 zP35_0 [x1, x2, x3] S).trans (id rfl)
theorem g_Grid_isFree_0 {x1 x2 x3 : Int} {S : ZS} : g_Grid_isFree ((1000, [x1, x2, x3]), S) = (g_Grid_isFree ((1025, [x1, x2, x3, (v_Film_hoursLong x1 S), (S r_Film_section x1 0 0), 0]), S)) := by
  unfold g_Grid_isFree
  refine ((z_psi_go (pc := 0)).trans (congrArg _ zE35_0)).trans ?_
  try simp only [z_psi_c, z_psi_b, z_psi_n, Nat.reduceLT, decide_true]
theorem zE35_25 {x1 x2 x3 x4 x5 x6 : Int} {S : ZS} : z_st (z_F zT35) zD35 25 [x1, x2, x3, x4, x5, x6] S = (bif decide ((S r_Grid_showCount 0 0 0) ≤ x6) then ((0, [1]), S) else (bif decide ((v_Show_standsIn x6 x3 x4 S) = 0) then ((1025, [x1, x2, x3, x4, x5, (e_wr (x6 + 1))]), S) else (bif decide ((S r_Show_screen x6 0 0) = x2) then ((0, [0]), S) else (bif decide ((S r_Show_film x6 0 0) = x1) then ((0, [0]), S) else (bif !decide ((S r_Film_section (S r_Show_film x6 0 0) 0 0) = x5) then ((1025, [x1, x2, x3, x4, x5, (e_wr (x6 + 1))]), S) else ((0, [0]), S)))))) := (id rfl : z_st (z_F zT35) zD35 25 [x1, x2, x3, x4, x5, x6] S = z_ev (z_F zT35) 20 zP35_25 [x1, x2, x3, x4, x5, x6] S).trans (by
  simp -implicitDefEqProofs only [zP35_25, zF35_29, zF35_81, pF_Film_hoursLong, pF_Show_standsIn, Nat.zero_add, Nat.reduceAdd, Nat.reduceBEq, Int.reduceToNat, z_e0, z_e1, z_e2, z_e3, z_e4, z_e5, z_e6, z_e7, z_e8, z_e11, z_e13, o_v0, o_v1, o_v2, List.cons_append, List.nil_append, List.map_cons, List.map_nil, List.drop_succ_cons, List.drop_zero, List.take_succ_cons, List.take_zero, e_c0, e_c1, e_c2, e_c3, e_c4, e_c5, e_b0, e_b1, e_b2, e_b3, e_b4, e_b5, e_b6, e_b7, e_b8, e_b9, e_b10, e_b11, e_b12, e_b13, e_b14, e_b15, e_b16, e_b17, e_n0, e_bnd, e_un]
  try rfl)
theorem g_Grid_isFree_25 {x1 x2 x3 x4 x5 x6 : Int} {S : ZS} : g_Grid_isFree ((1025, [x1, x2, x3, x4, x5, x6]), S) = (bif decide ((S r_Grid_showCount 0 0 0) ≤ x6) then ((0, [1]), S) else (bif decide ((v_Show_standsIn x6 x3 x4 S) = 0) then (g_Grid_isFree ((1025, [x1, x2, x3, x4, x5, (e_wr (x6 + 1))]), S)) else (bif decide ((S r_Show_screen x6 0 0) = x2) then ((0, [0]), S) else (bif decide ((S r_Show_film x6 0 0) = x1) then ((0, [0]), S) else (bif !decide ((S r_Film_section (S r_Show_film x6 0 0) 0 0) = x5) then (g_Grid_isFree ((1025, [x1, x2, x3, x4, x5, (e_wr (x6 + 1))]), S)) else ((0, [0]), S)))))) := by
  unfold g_Grid_isFree
  refine ((z_psi_go (pc := 25)).trans (congrArg _ zE35_25)).trans ?_
  try simp only [z_psi_c, z_psi_b, z_psi_n, Nat.reduceLT, decide_true]
def zW35 : List Nat := []
theorem zK35 : z_kp 3 zW35 f_Grid_isFree := fun L S hL hc r i j k hr => z_psi_kp (KT := [(29, 1, zW29), (81, 3, zW81)]) (F := z_F zT35) (W := zW35) (D := zD35) (.c zF35_29 zK29 (.c zF35_81 zK81 .n)) (z_h163 rfl) (by decide +kernel) _ hc r i j k hr

-- Grid_canBeSet (34)
noncomputable def zT34 : ZT := [(29, 1, [(5, (1, 0), (0, 0))], f_Film_hoursLong), (33, 4, [(3, (0, 0), (0, 0)), (0, (1, 0), (0, 0)), (0, (2, 0), (0, 0)), (0, (3, 0), (0, 0)), (0, (4, 0), (0, 0))], f_Grid_canRunThrough), (35, 3, [(3, (0, 0), (0, 0)), (0, (1, 0), (0, 0)), (0, (2, 0), (0, 0)), (0, (3, 0), (0, 0))], f_Grid_isFree)]
theorem zH34 : z_ok zT34 := .c zM29 (.c zM33 (.c zM35 .n))
theorem zF34_29 : z_F zT34 29 = f_Film_hoursLong := id rfl
theorem zF34_33 : z_F zT34 33 = f_Grid_canRunThrough := id rfl
theorem zF34_35 : z_F zT34 35 = f_Grid_isFree := id rfl
def zP34_0 : List ZO := [(7, [(29, 0), (1, 0)]), (5, [(69, 0), (0, 0), (0, 0), (0, 0)]), (3, [(2, 0), (1, 0), (3, 0), (5, 0)]), (0, [(0, 0)]), (3, [(3, 0), (1, 0), (3, 0), (0, 50)]), (0, [(0, 0)]), (4, [(4, 0), (3, 0), (0, 5)]), (4, [(0, 0), (6, 0), (4, 0)]), (3, [(5, 0), (12, 0), (7, 0), (0, 5)]), (4, [(3, 0), (3, 0), (0, 5)]), (5, [(1152, 0), (0, 0), (0, 0), (8, 0)]), (3, [(0, 0), (8, 0), (9, 0), (0, 0)]), (5, [(200, 0), (1, 0), (0, 0), (0, 0)]), (7, [(33, 0), (1, 0), (2, 0), (3, 0), (10, 0)]), (3, [(0, 0), (1, 0), (11, 0), (0, 0)]), (0, [(0, 0)]), (7, [(35, 0), (1, 0), (2, 0), (3, 0)]), (3, [(0, 0), (1, 0), (12, 0), (0, 0)]), (0, [(0, 0)]), (0, [(0, 1)]), (0, [(0, 0)]), (0, [(0, 0)])]
def zC34 : ZC := [(0, 3, [some (3, (0, 0), (0, 0)), some (0, (1, 0), (0, 0)), some (0, (2, 0), (0, 0)), some (0, (3, 0), (0, 0)), none])]
theorem zG34 : z_go zC34 (z_A zT34) [] 34 400 true 23 zP34_0 0 [some (3, (0, 0), (0, 0)), some (0, (1, 0), (0, 0)), some (0, (2, 0), (0, 0)), some (0, (3, 0), (0, 0)), none] [] 3 = true := by decide +kernel
noncomputable def f_Grid_canBeSet : ZFn := fun L S => match L with
  | [x1, x2, x3] => (bif decide (x3 < (S r_Grid_hour 0 0 0)) then ((0, [0]), S) else (bif decide (50 ≤ x3) then ((0, [0]), S) else (bif decide ((e_wr ((e_wr (x3 - e_wr (e_div x3 5 * 5))) + (v_Film_hoursLong x1 S))) ≤ 5) then (bif decide ((S r_Grid_isStormy 0 0 (e_div x3 5)) = 0) then (e_bind (f_Grid_canRunThrough [x1, x2, x3, (S r_Film_comes x1 0 0)] S) (fun v1 S1 => (bif decide (v1 = 0) then ((0, [0]), S1) else (e_bind (f_Grid_isFree [x1, x2, x3] S1) (fun v2 S2 => (bif decide (v2 = 0) then ((0, [0]), S2) else ((0, [1]), S2))))))) else ((0, [0]), S)) else ((0, [0]), S))))
  | _ => ((0, []), S)
theorem zE34 {x1 x2 x3 : Int} {S : ZS} : z_ev (z_F zT34) 23 zP34_0 [x1, x2, x3] S = f_Grid_canBeSet [x1, x2, x3] S := by
  simp -implicitDefEqProofs only [zP34_0, zF34_29, zF34_33, zF34_35, pF_Film_hoursLong, Nat.zero_add, Nat.reduceAdd, Nat.reduceBEq, Int.reduceToNat, z_e0, z_e1, z_e2, z_e3, z_e4, z_e5, z_e6, z_e7, z_e8, z_e11, z_e13, o_v0, o_v1, o_v2, List.cons_append, List.nil_append, List.map_cons, List.map_nil, List.drop_succ_cons, List.drop_zero, List.take_succ_cons, List.take_zero, e_c0, e_c1, e_c2, e_c3, e_c4, e_c5, e_b0, e_b1, e_b2, e_b3, e_b4, e_b5, e_b6, e_b7, e_b8, e_b9, e_b10, e_b11, e_b12, e_b13, e_b14, e_b15, e_b16, e_b17, e_n0, e_bnd, e_un]
  try rfl
theorem zM34 : z_met 34 3 [(3, (0, 0), (0, 0)), (0, (1, 0), (0, 0)), (0, (2, 0), (0, 0)), (0, (3, 0), (0, 0))] f_Grid_canBeSet := z_met_ev zH34 (fun _ _ h => absurd h List.not_mem_nil) rfl zG34 (by decide +kernel) (fun L S hn => match L, hn with
  | [x1, x2, x3], _ => zE34)
def zW34 : List Nat := []
theorem zK34 : z_kp 3 zW34 f_Grid_canBeSet := z_kp_ev (KT := [(29, 1, zW29), (33, 4, zW33), (35, 3, zW35)]) (.c zF34_29 zK29 (.c zF34_33 zK33 (.c zF34_35 zK35 .n))) (z_h163 rfl) (by decide +kernel) (fun L S hn => match L, hn with
  | [x1, x2, x3], _ => zE34)

-- Show_begin (80)
def zT80 : ZT := []
theorem zH80 : z_ok zT80 := .n
def zP80_0 : List ZO := [(6, [(960, 0), (0, 0), (1, 0), (0, 0), (0, 0), (2, 0)]), (6, [(961, 0), (0, 0), (1, 0), (0, 0), (0, 0), (3, 0)]), (6, [(962, 0), (0, 0), (1, 0), (0, 0), (0, 0), (4, 0)]), (6, [(963, 0), (0, 0), (1, 0), (0, 0), (0, 0), (5, 0)]), (0, [])]
def zC80 : ZC := [(0, 5, [some (17, (1, 0), (0, 0)), some (0, (2, 0), (0, 0)), some (0, (3, 0), (0, 0)), some (0, (4, 0), (0, 0)), some (0, (5, 0), (0, 0))])]
theorem zG80 : z_go zC80 (z_A zT80) [] 80 400 true 6 zP80_0 0 [some (17, (1, 0), (0, 0)), some (0, (2, 0), (0, 0)), some (0, (3, 0), (0, 0)), some (0, (4, 0), (0, 0)), some (0, (5, 0), (0, 0))] [] 5 = true := by decide +kernel
def f_Show_begin : ZFn := fun L S => match L with
  | [x1, x2, x3, x4, x5] => ((0, []), (e_upd (e_upd (e_upd (e_upd S r_Show_film x1 0 0 x2) r_Show_screen x1 0 0 x3) r_Show_first x1 0 0 x4) r_Show_length x1 0 0 x5))
  | _ => ((0, []), S)
theorem zE80 {x1 x2 x3 x4 x5 : Int} {S : ZS} : z_ev (z_F zT80) 6 zP80_0 [x1, x2, x3, x4, x5] S = f_Show_begin [x1, x2, x3, x4, x5] S := id rfl
theorem zM80 : z_met 80 5 [(17, (1, 0), (0, 0)), (0, (2, 0), (0, 0)), (0, (3, 0), (0, 0)), (0, (4, 0), (0, 0)), (0, (5, 0), (0, 0))] f_Show_begin := z_met_ev zH80 (fun _ _ h => absurd h List.not_mem_nil) rfl zG80 (by decide +kernel) (fun L S hn => match L, hn with
  | [x1, x2, x3, x4, x5], _ => zE80)
def zW80 : List Nat := [r_Show_film, r_Show_screen, r_Show_first, r_Show_length]
theorem zK80 : z_kp 5 zW80 f_Show_begin := z_kp_ev (KT := []) (.n) (z_h163 rfl) (by decide +kernel) (fun L S hn => match L, hn with
  | [x1, x2, x3, x4, x5], _ => zE80)

-- Grid_setShow (36)
def zT36 : ZT := [(1, 2, [(13, (0, 0), (0, 0)), (0, (1, 0), (0, 0)), (0, (2, 0), (0, 0))], f_Archive_add), (29, 1, [(5, (1, 0), (0, 0))], f_Film_hoursLong), (80, 5, [(17, (1, 0), (0, 0)), (0, (2, 0), (0, 0)), (0, (3, 0), (0, 0)), (0, (4, 0), (0, 0)), (0, (5, 0), (0, 0))], f_Show_begin)]
theorem zH36 : z_ok zT36 := .c zM1 (.c zM29 (.c zM80 .n))
theorem zF36_1 : z_F zT36 1 = f_Archive_add := id rfl
theorem zF36_29 : z_F zT36 29 = f_Film_hoursLong := id rfl
theorem zF36_80 : z_F zT36 80 = f_Show_begin := id rfl
def zP36_0 : List ZO := [(5, [(68, 0), (0, 0), (0, 0), (0, 0)]), (3, [(2, 0), (10, 0), (4, 0), (0, 60)]), (5, [(68, 0), (0, 0), (0, 0), (0, 0)]), (7, [(29, 0), (1, 0)]), (7, [(80, 0), (5, 0), (1, 0), (2, 0), (3, 0), (6, 0)]), (5, [(68, 0), (0, 0), (0, 0), (0, 0)]), (4, [(0, 0), (8, 0), (0, 1)]), (6, [(68, 0), (0, 0), (0, 0), (0, 0), (0, 0), (9, 0)]), (7, [(1, 0), (0, 115), (1, 0)]), (5, [(68, 0), (0, 0), (0, 0), (0, 0)]), (4, [(1, 0), (11, 0), (0, 1)]), (0, [(12, 0)]), (0, [(0, (-1))])]
def zC36 : ZC := [(0, 3, [some (3, (0, 0), (0, 0)), some (0, (1, 0), (0, 0)), some (0, (2, 0), (0, 0)), some (0, (3, 0), (0, 0))])]
theorem zG36 : z_go zC36 (z_A zT36) [] 36 400 true 14 zP36_0 0 [some (3, (0, 0), (0, 0)), some (0, (1, 0), (0, 0)), some (0, (2, 0), (0, 0)), some (0, (3, 0), (0, 0))] [] 3 = true := by decide +kernel
def f_Grid_setShow : ZFn := fun L S => match L with
  | [x1, x2, x3] => (bif decide ((S r_Grid_showCount 0 0 0) < 60) then (e_bind (f_Show_begin [(S r_Grid_showCount 0 0 0), x1, x2, x3, (v_Film_hoursLong x1 S)] S) (fun v1 S1 => (e_bind (f_Archive_add [115, x1] (e_upd S1 r_Grid_showCount 0 0 0 (e_wr ((S1 r_Grid_showCount 0 0 0) + 1)))) (fun v2 S2 => ((0, [(e_wr ((S2 r_Grid_showCount 0 0 0) - 1))]), S2))))) else ((0, [(-1)]), S))
  | _ => ((0, []), S)
theorem zE36 {x1 x2 x3 : Int} {S : ZS} : z_ev (z_F zT36) 14 zP36_0 [x1, x2, x3] S = f_Grid_setShow [x1, x2, x3] S := by
  simp -implicitDefEqProofs only [zP36_0, zF36_1, zF36_29, zF36_80, pF_Film_hoursLong, Nat.zero_add, Nat.reduceAdd, Nat.reduceBEq, Int.reduceToNat, z_e0, z_e1, z_e2, z_e3, z_e4, z_e5, z_e6, z_e7, z_e8, z_e11, z_e13, o_v0, o_v1, o_v2, List.cons_append, List.nil_append, List.map_cons, List.map_nil, List.drop_succ_cons, List.drop_zero, List.take_succ_cons, List.take_zero, e_c0, e_c1, e_c2, e_c3, e_c4, e_c5, e_b0, e_b1, e_b2, e_b3, e_b4, e_b5, e_b6, e_b7, e_b8, e_b9, e_b10, e_b11, e_b12, e_b13, e_b14, e_b15, e_b16, e_b17, e_n0, e_bnd, e_un]
  try rfl
theorem zM36 : z_met 36 3 [(3, (0, 0), (0, 0)), (0, (1, 0), (0, 0)), (0, (2, 0), (0, 0)), (0, (3, 0), (0, 0))] f_Grid_setShow := z_met_ev zH36 (fun _ _ h => absurd h List.not_mem_nil) rfl zG36 (by decide +kernel) (fun L S hn => match L, hn with
  | [x1, x2, x3], _ => zE36)
def zW36 : List Nat := [r_Grid_showCount, r_Archive_lineCount, r_Archive_next, r_Archive_letters, r_Archive_filmOf, r_Show_film, r_Show_screen, r_Show_first, r_Show_length]
theorem zK36 : z_kp 3 zW36 f_Grid_setShow := z_kp_ev (KT := [(1, 2, zW1), (29, 1, zW29), (80, 5, zW80)]) (.c zF36_1 zK1 (.c zF36_29 zK29 (.c zF36_80 zK80 .n))) (z_h163 rfl) (by decide +kernel) (fun L S hn => match L, hn with
  | [x1, x2, x3], _ => zE36)

-- x_show (109)
noncomputable def zT109 : ZT := [(34, 3, [(3, (0, 0), (0, 0)), (0, (1, 0), (0, 0)), (0, (2, 0), (0, 0)), (0, (3, 0), (0, 0))], f_Grid_canBeSet), (36, 3, [(3, (0, 0), (0, 0)), (0, (1, 0), (0, 0)), (0, (2, 0), (0, 0)), (0, (3, 0), (0, 0))], f_Grid_setShow), (143, 1, [(2, (0, 0), (0, 0)), (0, (1, 0), (0, 0))], f_x_checkFilm), (147, 1, [(2, (0, 0), (0, 0)), (0, (1, 0), (0, 0))], f_x_checkScreen), (150, 1, [(2, (0, 0), (0, 0)), (0, (1, 0), (0, 0))], f_x_checkHour)]
theorem zH109 : z_ok zT109 := .c zM34 (.c zM36 (.c zM143 (.c zM147 (.c zM150 .n))))
theorem zF109_34 : z_F zT109 34 = f_Grid_canBeSet := id rfl
theorem zF109_36 : z_F zT109 36 = f_Grid_setShow := id rfl
theorem zF109_143 : z_F zT109 143 = f_x_checkFilm := id rfl
theorem zF109_147 : z_F zT109 147 = f_x_checkScreen := id rfl
theorem zF109_150 : z_F zT109 150 = f_x_checkHour := id rfl
def zP109_0 : List ZO := [(7, [(143, 0), (1, 0)]), (7, [(147, 0), (2, 0)]), (7, [(150, 0), (3, 0)]), (5, [(195, 0), (1, 0), (0, 0), (0, 0)]), (3, [(0, 0), (1, 0), (7, 0), (0, (-1))]), (1, [(3, 0)]), (7, [(34, 0), (1, 0), (2, 0), (3, 0)]), (3, [(1, 0), (5, 0), (8, 0), (0, 0)]), (5, [(68, 0), (0, 0), (0, 0), (0, 0)]), (3, [(2, 0), (2, 0), (9, 0), (0, 60)]), (7, [(36, 0), (1, 0), (2, 0), (3, 0)]), (0, [(10, 0)]), (1, [(2, 0)]), (1, [(3, 0)])]
def zC109 : ZC := [(0, 3, [some (2, (0, 0), (0, 0)), some (0, (1, 0), (0, 0)), some (0, (2, 0), (0, 0)), some (0, (3, 0), (0, 0))])]
theorem zG109 : z_go zC109 (z_A zT109) [] 109 400 true 15 zP109_0 0 [some (2, (0, 0), (0, 0)), some (0, (1, 0), (0, 0)), some (0, (2, 0), (0, 0)), some (0, (3, 0), (0, 0))] [] 3 = true := by decide +kernel
noncomputable def f_x_show : ZFn := fun L S => match L with
  | [x1, x2, x3] => (e_bind (f_x_checkFilm [x1] S) (fun v1 S1 => (e_bind (f_x_checkScreen [x2] S1) (fun v2 S2 => (e_bind (f_x_checkHour [x3] S2) (fun v3 S3 => (bif decide ((S3 r_Film_section x1 0 0) = (-1)) then ((4, []), S3) else (e_bind (f_Grid_canBeSet [x1, x2, x3] S3) (fun v4 S4 => (bif !decide (v4 = 0) then (bif decide ((S4 r_Grid_showCount 0 0 0) < 60) then (e_bind (f_Grid_setShow [x1, x2, x3] S4) (fun v5 S5 => ((0, [v5]), S5))) else ((3, []), S4)) else ((4, []), S4)))))))))))
  | _ => ((0, []), S)
theorem zE109 {x1 x2 x3 : Int} {S : ZS} : z_ev (z_F zT109) 15 zP109_0 [x1, x2, x3] S = f_x_show [x1, x2, x3] S := by
  simp -implicitDefEqProofs only [zP109_0, zF109_34, zF109_36, zF109_143, zF109_147, zF109_150, Nat.zero_add, Nat.reduceAdd, Nat.reduceBEq, Int.reduceToNat, z_e0, z_e1, z_e2, z_e3, z_e4, z_e5, z_e6, z_e7, z_e8, z_e11, z_e13, o_v0, o_v1, o_v2, List.cons_append, List.nil_append, List.map_cons, List.map_nil, List.drop_succ_cons, List.drop_zero, List.take_succ_cons, List.take_zero, e_c0, e_c1, e_c2, e_c3, e_c4, e_c5, e_b0, e_b1, e_b2, e_b3, e_b4, e_b5, e_b6, e_b7, e_b8, e_b9, e_b10, e_b11, e_b12, e_b13, e_b14, e_b15, e_b16, e_b17, e_n0, e_bnd, e_un]
  try rfl
theorem zM109 : z_met 109 3 [(2, (0, 0), (0, 0)), (0, (1, 0), (0, 0)), (0, (2, 0), (0, 0)), (0, (3, 0), (0, 0))] f_x_show := z_met_ev zH109 (fun _ _ h => absurd h List.not_mem_nil) rfl zG109 (by decide +kernel) (fun L S hn => match L, hn with
  | [x1, x2, x3], _ => zE109)
def zW109 : List Nat := [r_Grid_showCount, r_Archive_lineCount, r_Archive_next, r_Archive_letters, r_Archive_filmOf, r_Show_film, r_Show_screen, r_Show_first, r_Show_length]
theorem zK109 : z_kp 3 zW109 f_x_show := z_kp_ev (KT := [(34, 3, zW34), (36, 3, zW36), (143, 1, zW143), (147, 1, zW147), (150, 1, zW150)]) (.c zF109_34 zK34 (.c zF109_36 zK36 (.c zF109_143 zK143 (.c zF109_147 zK147 (.c zF109_150 zK150 .n))))) (z_h163 rfl) (by decide +kernel) (fun L S hn => match L, hn with
  | [x1, x2, x3], _ => zE109)

-- w_show (275)
noncomputable def zT275 : ZT := [(109, 3, [(2, (0, 0), (0, 0)), (0, (1, 0), (0, 0)), (0, (2, 0), (0, 0)), (0, (3, 0), (0, 0))], f_x_show)]
theorem zH275 : z_ok zT275 := .c zM109 .n
theorem zF275_109 : z_F zT275 109 = f_x_show := id rfl
def zP275_0 : List ZO := [(11, [(109, 0), (4, 0), (0, 2), (1, 3), (3, 4), (2, 5), (1, 0), (2, 0), (3, 0)]), (6, [(6976, 0), (0, 0), (0, 0), (0, 0), (0, 0), (4, 0)]), (0, [(0, 0)]), (0, [(0, 1)]), (0, [(0, 2)]), (0, [(0, 3)]), (0, [(0, 4)])]
def zC275 : ZC := [(0, 3, [some (2, (0, 0), (0, 0)), some (0, (1, 0), (0, 0)), some (0, (2, 0), (0, 0)), some (0, (3, 0), (0, 0)), some (111, (0, 0), (0, 0)), none])]
theorem zG275 : z_go zC275 (z_A zT275) [] 275 400 true 8 zP275_0 0 [some (2, (0, 0), (0, 0)), some (0, (1, 0), (0, 0)), some (0, (2, 0), (0, 0)), some (0, (3, 0), (0, 0)), some (111, (0, 0), (0, 0)), none] [] 3 = true := by decide +kernel
noncomputable def f_w_show : ZFn := fun L S => match L with
  | [x1, x2, x3] => (e_try (f_x_show [x1, x2, x3] S) (fun v1 S1 => ((0, [0]), (e_upd S1 r_out 0 0 0 v1))) [(0, 1), (1, 2), (3, 3), (2, 4)])
  | _ => ((0, []), S)
theorem zE275 {x1 x2 x3 : Int} {S : ZS} : z_ev (z_F zT275) 8 zP275_0 [x1, x2, x3] S = f_w_show [x1, x2, x3] S := id rfl
theorem zM275 : z_met 275 3 [(2, (0, 0), (0, 0)), (0, (1, 0), (0, 0)), (0, (2, 0), (0, 0)), (0, (3, 0), (0, 0)), (111, (0, 0), (0, 0))] f_w_show := z_met_ev zH275 (fun _ _ h => absurd h List.not_mem_nil) rfl zG275 (by decide +kernel) (fun L S hn => match L, hn with
  | [x1, x2, x3], _ => zE275)
def zW275 : List Nat := [r_Grid_showCount, r_Archive_lineCount, r_Archive_next, r_Archive_letters, r_Archive_filmOf, r_Show_film, r_Show_screen, r_Show_first, r_Show_length, r_out]
theorem zK275 : z_kp 3 zW275 f_w_show := z_kp_ev (KT := [(109, 3, zW109)]) (.c zF275_109 zK109 .n) (z_h163 rfl) (by decide +kernel) (fun L S hn => match L, hn with
  | [x1, x2, x3], _ => zE275)

-- m_lengthOf (202)
def zT202 : ZT := []
theorem zH202 : z_ok zT202 := .n
def zP202_0 : List ZO := [(5, [(3328, 0), (0, 0), (0, 0), (1, 0)]), (3, [(4, 0), (1, 0), (2, 0), (0, 150)]), (0, [(0, 2)]), (0, [(0, 1)])]
def zC202 : ZC := [(0, 1, [some (52, (0, 0), (0, 0)), some (0, (1, 0), (0, 0))])]
theorem zG202 : z_go zC202 (z_A zT202) [] 202 400 true 5 zP202_0 0 [some (52, (0, 0), (0, 0)), some (0, (1, 0), (0, 0))] [] 1 = true := by decide +kernel
def v_m_lengthOf (x1 : Int) (S : ZS) : Int := (bif decide (150 < (S r_m_minutes 0 0 x1)) then 2 else 1)
def f_m_lengthOf : ZFn := fun L S => match L with
  | [x1] => ((0, [v_m_lengthOf x1 S]), S)
  | _ => ((0, []), S)
theorem pF_m_lengthOf {x1 : Int} {S : ZS} : f_m_lengthOf [x1] S = ((0, [v_m_lengthOf x1 S]), S) := id rfl
theorem zE202a {x1 : Int} {S : ZS} : z_ev (z_F zT202) 5 zP202_0 [x1] S = (bif decide (150 < (S r_m_minutes 0 0 x1)) then ((0, [2]), S) else ((0, [1]), S)) := id rfl
theorem zE202 {x1 : Int} {S : ZS} : z_ev (z_F zT202) 5 zP202_0 [x1] S = f_m_lengthOf [x1] S := zE202a.trans (by
  simp only [z_cv]
  rfl)
theorem zM202 : z_met 202 1 [(52, (0, 0), (0, 0)), (0, (1, 0), (0, 0))] f_m_lengthOf := z_met_ev zH202 (fun _ _ h => absurd h List.not_mem_nil) rfl zG202 (by decide +kernel) (fun L S hn => match L, hn with
  | [x1], _ => zE202)
def zW202 : List Nat := []
theorem zK202 : z_kp 1 zW202 f_m_lengthOf := z_kp_ev (KT := []) (.n) (z_h163 rfl) (by decide +kernel) (fun L S hn => match L, hn with
  | [x1], _ => zE202)

-- m_lastOf (203)
def zT203 : ZT := [(202, 1, [(52, (0, 0), (0, 0)), (0, (1, 0), (0, 0))], f_m_lengthOf)]
theorem zH203 : z_ok zT203 := .c zM202 .n
theorem zF203_202 : z_F zT203 202 = f_m_lengthOf := id rfl
def zP203_0 : List ZO := [(5, [(5056, 0), (0, 0), (0, 0), (1, 0)]), (5, [(4928, 0), (0, 0), (0, 0), (1, 0)]), (7, [(202, 0), (3, 0)]), (4, [(0, 0), (2, 0), (4, 0)]), (4, [(1, 0), (5, 0), (0, 1)]), (0, [(6, 0)])]
def zC203 : ZC := [(0, 1, [some (52, (0, 0), (0, 0)), some (0, (1, 0), (0, 0))])]
theorem zG203 : z_go zC203 (z_A zT203) [] 203 400 true 7 zP203_0 0 [some (52, (0, 0), (0, 0)), some (0, (1, 0), (0, 0))] [] 1 = true := by decide +kernel
def v_m_lastOf (x1 : Int) (S : ZS) : Int := (e_wr ((e_wr ((S r_m_showHours 0 0 x1) + (v_m_lengthOf (S r_m_showFilms 0 0 x1) S))) - 1))
def f_m_lastOf : ZFn := fun L S => match L with
  | [x1] => ((0, [v_m_lastOf x1 S]), S)
  | _ => ((0, []), S)
theorem pF_m_lastOf {x1 : Int} {S : ZS} : f_m_lastOf [x1] S = ((0, [v_m_lastOf x1 S]), S) := id rfl
theorem zE203 {x1 : Int} {S : ZS} : z_ev (z_F zT203) 7 zP203_0 [x1] S = f_m_lastOf [x1] S := id rfl
theorem zM203 : z_met 203 1 [(52, (0, 0), (0, 0)), (0, (1, 0), (0, 0))] f_m_lastOf := z_met_ev zH203 (fun _ _ h => absurd h List.not_mem_nil) rfl zG203 (by decide +kernel) (fun L S hn => match L, hn with
  | [x1], _ => zE203)
def zW203 : List Nat := []
theorem zK203 : z_kp 1 zW203 f_m_lastOf := z_kp_ev (KT := [(202, 1, zW202)]) (.c zF203_202 zK202 .n) (z_h163 rfl) (by decide +kernel) (fun L S hn => match L, hn with
  | [x1], _ => zE203)

-- m_hasHour (205)
def zT205 : ZT := [(164, 3, [(0, (1, 0), (0, 0)), (0, (2, 0), (0, 0)), (0, (3, 0), (0, 0))], f_m_isIn), (203, 1, [(52, (0, 0), (0, 0)), (0, (1, 0), (0, 0))], f_m_lastOf)]
theorem zH205 : z_ok zT205 := .c zM164 (.c zM203 .n)
theorem zF205_164 : z_F zT205 164 = f_m_isIn := id rfl
theorem zF205_203 : z_F zT205 203 = f_m_lastOf := id rfl
def zP205_0 : List ZO := [(5, [(5120, 0), (0, 0), (0, 0), (1, 0)]), (3, [(1, 0), (1, 0), (3, 0), (0, 0)]), (0, [(0, 0)]), (5, [(5056, 0), (0, 0), (0, 0), (1, 0)]), (7, [(203, 0), (1, 0)]), (7, [(164, 0), (2, 0), (4, 0), (5, 0)]), (3, [(0, 0), (1, 0), (6, 0), (0, 0)]), (0, [(0, 0)]), (0, [(0, 1)])]
def zC205 : ZC := [(0, 2, [some (52, (0, 0), (0, 0)), some (0, (1, 0), (0, 0)), some (0, (2, 0), (0, 0))])]
theorem zG205 : z_go zC205 (z_A zT205) [] 205 400 true 10 zP205_0 0 [some (52, (0, 0), (0, 0)), some (0, (1, 0), (0, 0)), some (0, (2, 0), (0, 0))] [] 2 = true := by decide +kernel
def v_m_hasHour (x1 x2 : Int) (S : ZS) : Int := (bif !decide ((S r_m_gone 0 0 x1) = 0) then 0 else (bif decide ((v_m_isIn x2 (S r_m_showHours 0 0 x1) (v_m_lastOf x1 S) S) = 0) then 0 else 1))
def f_m_hasHour : ZFn := fun L S => match L with
  | [x1, x2] => ((0, [v_m_hasHour x1 x2 S]), S)
  | _ => ((0, []), S)
theorem pF_m_hasHour {x1 x2 : Int} {S : ZS} : f_m_hasHour [x1, x2] S = ((0, [v_m_hasHour x1 x2 S]), S) := id rfl
theorem zE205a {x1 x2 : Int} {S : ZS} : z_ev (z_F zT205) 10 zP205_0 [x1, x2] S = (bif !decide ((S r_m_gone 0 0 x1) = 0) then ((0, [0]), S) else (bif decide ((v_m_isIn x2 (S r_m_showHours 0 0 x1) (v_m_lastOf x1 S) S) = 0) then ((0, [0]), S) else ((0, [1]), S))) := id rfl
theorem zE205 {x1 x2 : Int} {S : ZS} : z_ev (z_F zT205) 10 zP205_0 [x1, x2] S = f_m_hasHour [x1, x2] S := zE205a.trans (by
  simp only [z_cv]
  rfl)
theorem zM205 : z_met 205 2 [(52, (0, 0), (0, 0)), (0, (1, 0), (0, 0)), (0, (2, 0), (0, 0))] f_m_hasHour := z_met_ev zH205 (fun _ _ h => absurd h List.not_mem_nil) rfl zG205 (by decide +kernel) (fun L S hn => match L, hn with
  | [x1, x2], _ => zE205)
def zW205 : List Nat := []
theorem zK205 : z_kp 2 zW205 f_m_hasHour := z_kp_ev (KT := [(164, 3, zW164), (203, 1, zW203)]) (.c zF205_164 zK164 (.c zF205_203 zK203 .n)) (z_h163 rfl) (by decide +kernel) (fun L S hn => match L, hn with
  | [x1, x2], _ => zE205)

-- m_canSet (206)
noncomputable def zT206 : ZT := [(200, 3, [(52, (0, 0), (0, 0)), (0, (1, 0), (0, 0)), (0, (2, 0), (0, 0)), (0, (3, 0), (0, 0))], f_m_canShowNow), (202, 1, [(52, (0, 0), (0, 0)), (0, (1, 0), (0, 0))], f_m_lengthOf), (205, 2, [(52, (0, 0), (0, 0)), (0, (1, 0), (0, 0)), (0, (2, 0), (0, 0))], f_m_hasHour)]
theorem zH206 : z_ok zT206 := .c zM200 (.c zM202 (.c zM205 .n))
theorem zF206_200 : z_F zT206 200 = f_m_canShowNow := id rfl
theorem zF206_202 : z_F zT206 202 = f_m_lengthOf := id rfl
theorem zF206_205 : z_F zT206 205 = f_m_hasHour := id rfl
def zP206_0 : List ZO := [(7, [(202, 0), (1, 0)]), (5, [(3254, 0), (0, 0), (0, 0), (0, 0)]), (3, [(2, 0), (1, 0), (3, 0), (5, 0)]), (2, [(46, 0), (1, 0), (2, 0), (3, 0), (4, 0), (0, 0), (3, 0)]), (4, [(4, 0), (3, 0), (0, 5)]), (4, [(0, 0), (6, 0), (4, 0)]), (3, [(4, 0), (1, 0), (7, 0), (0, 5)]), (2, [(46, 0), (1, 0), (2, 0), (3, 0), (4, 0), (0, 0), (3, 0)]), (4, [(3, 0), (3, 0), (0, 5)]), (5, [(5568, 0), (0, 0), (0, 0), (8, 0)]), (3, [(1, 0), (1, 0), (9, 0), (0, 0)]), (2, [(46, 0), (1, 0), (2, 0), (3, 0), (4, 0), (0, 0), (3, 0)]), (2, [(46, 0), (1, 0), (2, 0), (3, 0), (4, 0), (0, 1), (3, 0)])]
def zP206_46 : List ZO := [(4, [(0, 0), (3, 0), (4, 0)]), (3, [(3, 0), (1, 0), (6, 0), (7, 0)]), (0, [(5, 0)]), (3, [(0, 0), (1, 0), (5, 0), (0, 0)]), (0, [(5, 0)]), (7, [(200, 0), (1, 0), (2, 0), (6, 0)]), (2, [(73, 0), (1, 0), (2, 0), (3, 0), (4, 0), (8, 0), (6, 0), (0, 0)])]
def zP206_73 : List ZO := [(5, [(3249, 0), (0, 0), (0, 0), (0, 0)]), (3, [(3, 0), (2, 0), (7, 0), (8, 0)]), (4, [(0, 0), (6, 0), (0, 1)]), (2, [(46, 0), (1, 0), (2, 0), (3, 0), (4, 0), (5, 0), (9, 0)]), (5, [(4992, 0), (0, 0), (0, 0), (7, 0)]), (3, [(0, 0), (8, 0), (9, 0), (2, 0)]), (7, [(205, 0), (7, 0), (6, 0)]), (3, [(0, 0), (3, 0), (10, 0), (0, 0)]), (4, [(5, 0), (5, 0), (0, 1)]), (4, [(0, 0), (7, 0), (0, 1)]), (2, [(73, 0), (1, 0), (2, 0), (3, 0), (4, 0), (11, 0), (6, 0), (12, 0)]), (4, [(5, 0), (5, 0), (0, 0)]), (4, [(0, 0), (7, 0), (0, 1)]), (2, [(73, 0), (1, 0), (2, 0), (3, 0), (4, 0), (11, 0), (6, 0), (12, 0)]), (5, [(4928, 0), (0, 0), (0, 0), (7, 0)]), (3, [(0, 0), (8, 0), (10, 0), (1, 0)]), (7, [(205, 0), (7, 0), (6, 0)]), (3, [(0, 0), (3, 0), (11, 0), (0, 0)]), (4, [(5, 0), (5, 0), (0, 1)]), (4, [(0, 0), (7, 0), (0, 1)]), (2, [(73, 0), (1, 0), (2, 0), (3, 0), (4, 0), (12, 0), (6, 0), (13, 0)]), (4, [(5, 0), (5, 0), (0, 0)]), (4, [(0, 0), (7, 0), (0, 1)]), (2, [(73, 0), (1, 0), (2, 0), (3, 0), (4, 0), (12, 0), (6, 0), (13, 0)]), (5, [(4928, 0), (0, 0), (0, 0), (7, 0)]), (5, [(3520, 0), (0, 0), (0, 0), (11, 0)]), (5, [(3520, 0), (0, 0), (0, 0), (1, 0)]), (3, [(1, 0), (8, 0), (12, 0), (13, 0)]), (7, [(205, 0), (7, 0), (6, 0)]), (3, [(0, 0), (3, 0), (14, 0), (0, 0)]), (4, [(5, 0), (5, 0), (0, 1)]), (4, [(0, 0), (7, 0), (0, 1)]), (2, [(73, 0), (1, 0), (2, 0), (3, 0), (4, 0), (15, 0), (6, 0), (16, 0)]), (4, [(5, 0), (5, 0), (0, 1)]), (4, [(0, 0), (7, 0), (0, 1)]), (2, [(73, 0), (1, 0), (2, 0), (3, 0), (4, 0), (15, 0), (6, 0), (16, 0)]), (5, [(3520, 0), (0, 0), (0, 0), (1, 0)]), (3, [(2, 0), (8, 0), (14, 0), (0, 0)]), (7, [(205, 0), (7, 0), (6, 0)]), (3, [(0, 0), (3, 0), (15, 0), (0, 0)]), (4, [(5, 0), (5, 0), (0, 1)]), (4, [(0, 0), (7, 0), (0, 1)]), (2, [(73, 0), (1, 0), (2, 0), (3, 0), (4, 0), (16, 0), (6, 0), (17, 0)]), (4, [(5, 0), (5, 0), (0, 1)]), (4, [(0, 0), (7, 0), (0, 1)]), (2, [(73, 0), (1, 0), (2, 0), (3, 0), (4, 0), (16, 0), (6, 0), (17, 0)]), (7, [(205, 0), (7, 0), (6, 0)]), (3, [(0, 0), (3, 0), (15, 0), (0, 0)]), (4, [(5, 0), (5, 0), (0, 1)]), (4, [(0, 0), (7, 0), (0, 1)]), (2, [(73, 0), (1, 0), (2, 0), (3, 0), (4, 0), (16, 0), (6, 0), (17, 0)]), (4, [(5, 0), (5, 0), (0, 0)]), (4, [(0, 0), (7, 0), (0, 1)]), (2, [(73, 0), (1, 0), (2, 0), (3, 0), (4, 0), (16, 0), (6, 0), (17, 0)])]
def zD206 : ZD := [(0, 3, [some (52, (0, 0), (0, 0)), some (0, (1, 0), (0, 0)), some (0, (2, 0), (0, 0)), some (0, (3, 0), (0, 0)), none, none, none, none, none], 14, zP206_0), (46, 6, [some (52, (0, 0), (0, 0)), some (0, (1, 0), (0, 0)), some (0, (2, 0), (0, 0)), some (0, (3, 0), (0, 0)), some (0, (4, 0), (0, 0)), some (0, (5, 0), (0, 0)), some (0, (6, 0), (0, 0)), none, none], 8, zP206_46), (73, 7, [some (52, (0, 0), (0, 0)), some (0, (1, 0), (0, 0)), some (0, (2, 0), (0, 0)), some (0, (3, 0), (0, 0)), some (0, (4, 0), (0, 0)), some (0, (5, 0), (0, 0)), some (0, (6, 0), (0, 0)), some (0, (7, 0), (0, 0)), none], 55, zP206_73)]
theorem zG206 : z_chk zT206 [] 206 zD206 = true := by decide +kernel
noncomputable def g_m_canSet (R : ZR) : ZR := z_psi (z_st (z_F zT206) zD206) R
noncomputable def f_m_canSet : ZFn := fun L S => g_m_canSet ((1000, L), S)
theorem zM206 : z_met 206 3 [(52, (0, 0), (0, 0)), (0, (1, 0), (0, 0)), (0, (2, 0), (0, 0)), (0, (3, 0), (0, 0))] f_m_canSet := z_met_psi zH206 (fun _ _ h => absurd h List.not_mem_nil) rfl zG206
theorem zE206_0 {x1 x2 x3 : Int} {S : ZS} : z_st (z_F zT206) zD206 0 [x1, x2, x3] S = (bif decide (x3 < (S r_m_hour 0 0 0)) then ((1046, [x1, x2, x3, (v_m_lengthOf x1 S), 0, x3]), S) else (bif decide (5 < (e_wr ((e_wr (x3 - e_wr (e_div x3 5 * 5))) + (v_m_lengthOf x1 S)))) then ((1046, [x1, x2, x3, (v_m_lengthOf x1 S), 0, x3]), S) else (bif !decide ((S r_m_storms 0 0 (e_div x3 5)) = 0) then ((1046, [x1, x2, x3, (v_m_lengthOf x1 S), 0, x3]), S) else ((1046, [x1, x2, x3, (v_m_lengthOf x1 S), 1, x3]), S)))) := (id rfl : z_st (z_F zT206) zD206 0 [x1, x2, x3] S = z_ev (z_F zT206) 14 zP206_0 [x1, x2, x3] S).trans (by
  simp -implicitDefEqProofs only [zP206_0, zF206_200, zF206_202, zF206_205, pF_m_lengthOf, pF_m_hasHour, Nat.zero_add, Nat.reduceAdd, Nat.reduceBEq, Int.reduceToNat, z_e0, z_e1, z_e2, z_e3, z_e4, z_e5, z_e6, z_e7, z_e8, z_e11, z_e13, o_v0, o_v1, o_v2, List.cons_append, List.nil_append, List.map_cons, List.map_nil, List.drop_succ_cons, List.drop_zero, List.take_succ_cons, List.take_zero, e_c0, e_c1, e_c2, e_c3, e_c4, e_c5, e_b0, e_b1, e_b2, e_b3, e_b4, e_b5, e_b6, e_b7, e_b8, e_b9, e_b10, e_b11, e_b12, e_b13, e_b14, e_b15, e_b16, e_b17, e_n0, e_bnd, e_un]
  try rfl)
theorem g_m_canSet_0 {x1 x2 x3 : Int} {S : ZS} : g_m_canSet ((1000, [x1, x2, x3]), S) = (bif decide (x3 < (S r_m_hour 0 0 0)) then (g_m_canSet ((1046, [x1, x2, x3, (v_m_lengthOf x1 S), 0, x3]), S)) else (bif decide (5 < (e_wr ((e_wr (x3 - e_wr (e_div x3 5 * 5))) + (v_m_lengthOf x1 S)))) then (g_m_canSet ((1046, [x1, x2, x3, (v_m_lengthOf x1 S), 0, x3]), S)) else (bif !decide ((S r_m_storms 0 0 (e_div x3 5)) = 0) then (g_m_canSet ((1046, [x1, x2, x3, (v_m_lengthOf x1 S), 0, x3]), S)) else (g_m_canSet ((1046, [x1, x2, x3, (v_m_lengthOf x1 S), 1, x3]), S))))) := by
  unfold g_m_canSet
  refine ((z_psi_go (pc := 0)).trans (congrArg _ zE206_0)).trans ?_
  try simp only [z_psi_c, z_psi_b, z_psi_n, Nat.reduceLT, decide_true]
theorem zE206_46 {x1 x2 x3 x4 x5 x6 : Int} {S : ZS} : z_st (z_F zT206) zD206 46 [x1, x2, x3, x4, x5, x6] S = (bif decide ((e_wr (x3 + x4)) ≤ x6) then ((0, [x5]), S) else (bif decide (x5 = 0) then ((0, [x5]), S) else (e_bind (f_m_canShowNow [x1, x2, x6] S) (fun v1 S1 => ((1073, [x1, x2, x3, x4, v1, x6, 0]), S1))))) := (id rfl : z_st (z_F zT206) zD206 46 [x1, x2, x3, x4, x5, x6] S = z_ev (z_F zT206) 8 zP206_46 [x1, x2, x3, x4, x5, x6] S).trans (id rfl)
theorem g_m_canSet_46 {x1 x2 x3 x4 x5 x6 : Int} {S : ZS} : g_m_canSet ((1046, [x1, x2, x3, x4, x5, x6]), S) = (bif decide ((e_wr (x3 + x4)) ≤ x6) then ((0, [x5]), S) else (bif decide (x5 = 0) then ((0, [x5]), S) else (e_bind (f_m_canShowNow [x1, x2, x6] S) (fun v1 S1 => (g_m_canSet ((1073, [x1, x2, x3, x4, v1, x6, 0]), S1)))))) := by
  unfold g_m_canSet
  refine ((z_psi_go (pc := 46)).trans (congrArg _ zE206_46)).trans ?_
  try simp only [z_psi_c, z_psi_b, z_psi_n, Nat.reduceLT, decide_true]
theorem zE206_73 {x1 x2 x3 x4 x5 x6 x7 : Int} {S : ZS} : z_st (z_F zT206) zD206 73 [x1, x2, x3, x4, x5, x6, x7] S = (bif decide ((S r_m_shows 0 0 0) ≤ x7) then ((1046, [x1, x2, x3, x4, x5, (e_wr (x6 + 1))]), S) else (bif decide ((S r_m_showScreens 0 0 x7) = x2) then (bif decide ((v_m_hasHour x7 x6 S) = 0) then ((1073, [x1, x2, x3, x4, (e_and x5 1), x6, (e_wr (x7 + 1))]), S) else ((1073, [x1, x2, x3, x4, (e_and x5 0), x6, (e_wr (x7 + 1))]), S)) else (bif decide ((S r_m_showFilms 0 0 x7) = x1) then (bif decide ((v_m_hasHour x7 x6 S) = 0) then ((1073, [x1, x2, x3, x4, (e_and x5 1), x6, (e_wr (x7 + 1))]), S) else ((1073, [x1, x2, x3, x4, (e_and x5 0), x6, (e_wr (x7 + 1))]), S)) else (bif !decide ((S r_m_sections 0 0 (S r_m_showFilms 0 0 x7)) = (S r_m_sections 0 0 x1)) then (bif decide ((v_m_hasHour x7 x6 S) = 0) then ((1073, [x1, x2, x3, x4, (e_and x5 1), x6, (e_wr (x7 + 1))]), S) else ((1073, [x1, x2, x3, x4, (e_and x5 1), x6, (e_wr (x7 + 1))]), S)) else (bif decide ((S r_m_sections 0 0 x1) < 0) then (bif decide ((v_m_hasHour x7 x6 S) = 0) then ((1073, [x1, x2, x3, x4, (e_and x5 1), x6, (e_wr (x7 + 1))]), S) else ((1073, [x1, x2, x3, x4, (e_and x5 1), x6, (e_wr (x7 + 1))]), S)) else (bif decide ((v_m_hasHour x7 x6 S) = 0) then ((1073, [x1, x2, x3, x4, (e_and x5 1), x6, (e_wr (x7 + 1))]), S) else ((1073, [x1, x2, x3, x4, (e_and x5 0), x6, (e_wr (x7 + 1))]), S))))))) := (id rfl : z_st (z_F zT206) zD206 73 [x1, x2, x3, x4, x5, x6, x7] S = z_ev (z_F zT206) 55 zP206_73 [x1, x2, x3, x4, x5, x6, x7] S).trans (by
  simp -implicitDefEqProofs only [zP206_73, zF206_200, zF206_202, zF206_205, pF_m_lengthOf, pF_m_hasHour, Nat.zero_add, Nat.reduceAdd, Nat.reduceBEq, Int.reduceToNat, z_e0, z_e1, z_e2, z_e3, z_e4, z_e5, z_e6, z_e7, z_e8, z_e11, z_e13, o_v0, o_v1, o_v2, List.cons_append, List.nil_append, List.map_cons, List.map_nil, List.drop_succ_cons, List.drop_zero, List.take_succ_cons, List.take_zero, e_c0, e_c1, e_c2, e_c3, e_c4, e_c5, e_b0, e_b1, e_b2, e_b3, e_b4, e_b5, e_b6, e_b7, e_b8, e_b9, e_b10, e_b11, e_b12, e_b13, e_b14, e_b15, e_b16, e_b17, e_n0, e_bnd, e_un]
  try rfl)
theorem g_m_canSet_73 {x1 x2 x3 x4 x5 x6 x7 : Int} {S : ZS} : g_m_canSet ((1073, [x1, x2, x3, x4, x5, x6, x7]), S) = (bif decide ((S r_m_shows 0 0 0) ≤ x7) then (g_m_canSet ((1046, [x1, x2, x3, x4, x5, (e_wr (x6 + 1))]), S)) else (bif decide ((S r_m_showScreens 0 0 x7) = x2) then (bif decide ((v_m_hasHour x7 x6 S) = 0) then (g_m_canSet ((1073, [x1, x2, x3, x4, (e_and x5 1), x6, (e_wr (x7 + 1))]), S)) else (g_m_canSet ((1073, [x1, x2, x3, x4, (e_and x5 0), x6, (e_wr (x7 + 1))]), S))) else (bif decide ((S r_m_showFilms 0 0 x7) = x1) then (bif decide ((v_m_hasHour x7 x6 S) = 0) then (g_m_canSet ((1073, [x1, x2, x3, x4, (e_and x5 1), x6, (e_wr (x7 + 1))]), S)) else (g_m_canSet ((1073, [x1, x2, x3, x4, (e_and x5 0), x6, (e_wr (x7 + 1))]), S))) else (bif !decide ((S r_m_sections 0 0 (S r_m_showFilms 0 0 x7)) = (S r_m_sections 0 0 x1)) then (bif decide ((v_m_hasHour x7 x6 S) = 0) then (g_m_canSet ((1073, [x1, x2, x3, x4, (e_and x5 1), x6, (e_wr (x7 + 1))]), S)) else (g_m_canSet ((1073, [x1, x2, x3, x4, (e_and x5 1), x6, (e_wr (x7 + 1))]), S))) else (bif decide ((S r_m_sections 0 0 x1) < 0) then (bif decide ((v_m_hasHour x7 x6 S) = 0) then (g_m_canSet ((1073, [x1, x2, x3, x4, (e_and x5 1), x6, (e_wr (x7 + 1))]), S)) else (g_m_canSet ((1073, [x1, x2, x3, x4, (e_and x5 1), x6, (e_wr (x7 + 1))]), S))) else (bif decide ((v_m_hasHour x7 x6 S) = 0) then (g_m_canSet ((1073, [x1, x2, x3, x4, (e_and x5 1), x6, (e_wr (x7 + 1))]), S)) else (g_m_canSet ((1073, [x1, x2, x3, x4, (e_and x5 0), x6, (e_wr (x7 + 1))]), S)))))))) := by
  unfold g_m_canSet
  refine ((z_psi_go (pc := 73)).trans (congrArg _ zE206_73)).trans ?_
  try simp only [z_psi_c, z_psi_b, z_psi_n, Nat.reduceLT, decide_true]
def zW206 : List Nat := []
theorem zK206 : z_kp 3 zW206 f_m_canSet := fun L S hL hc r i j k hr => z_psi_kp (KT := [(200, 3, zW200), (202, 1, zW202), (205, 2, zW205)]) (F := z_F zT206) (W := zW206) (D := zD206) (.c zF206_200 zK200 (.c zF206_202 zK202 (.c zF206_205 zK205 .n))) (z_h163 rfl) (by decide +kernel) _ hc r i j k hr

-- m_set (207)
def zT207 : ZT := [(167, 2, [(52, (0, 0), (0, 0)), (0, (1, 0), (0, 0)), (0, (2, 0), (0, 0))], f_m_writes)]
theorem zH207 : z_ok zT207 := .c zM167 .n
theorem zF207_167 : z_F zT207 167 = f_m_writes := id rfl
def zP207_0 : List ZO := [(5, [(3249, 0), (0, 0), (0, 0), (0, 0)]), (6, [(4928, 0), (0, 0), (0, 0), (0, 0), (4, 0), (1, 0)]), (5, [(3249, 0), (0, 0), (0, 0), (0, 0)]), (6, [(4992, 0), (0, 0), (0, 0), (0, 0), (5, 0), (2, 0)]), (5, [(3249, 0), (0, 0), (0, 0), (0, 0)]), (6, [(5056, 0), (0, 0), (0, 0), (0, 0), (6, 0), (3, 0)]), (7, [(167, 0), (0, 115), (1, 0)]), (5, [(3249, 0), (0, 0), (0, 0), (0, 0)]), (4, [(0, 0), (8, 0), (0, 1)]), (6, [(3249, 0), (0, 0), (0, 0), (0, 0), (0, 0), (9, 0)]), (5, [(3249, 0), (0, 0), (0, 0), (0, 0)]), (4, [(1, 0), (10, 0), (0, 1)]), (0, [(11, 0)])]
def zC207 : ZC := [(0, 3, [some (52, (0, 0), (0, 0)), some (0, (1, 0), (0, 0)), some (0, (2, 0), (0, 0)), some (0, (3, 0), (0, 0))])]
theorem zG207 : z_go zC207 (z_A zT207) [] 207 400 true 14 zP207_0 0 [some (52, (0, 0), (0, 0)), some (0, (1, 0), (0, 0)), some (0, (2, 0), (0, 0)), some (0, (3, 0), (0, 0))] [] 3 = true := by decide +kernel
def f_m_set : ZFn := fun L S => match L with
  | [x1, x2, x3] => (e_bind (f_m_writes [115, x1] (e_upd (e_upd (e_upd S r_m_showFilms 0 0 (S r_m_shows 0 0 0) x1) r_m_showScreens 0 0 (S r_m_shows 0 0 0) x2) r_m_showHours 0 0 (S r_m_shows 0 0 0) x3)) (fun v1 S1 => ((0, [(e_wr (((e_upd S1 r_m_shows 0 0 0 (e_wr ((S1 r_m_shows 0 0 0) + 1))) r_m_shows 0 0 0) - 1))]), (e_upd S1 r_m_shows 0 0 0 (e_wr ((S1 r_m_shows 0 0 0) + 1))))))
  | _ => ((0, []), S)
theorem zE207 {x1 x2 x3 : Int} {S : ZS} : z_ev (z_F zT207) 14 zP207_0 [x1, x2, x3] S = f_m_set [x1, x2, x3] S := by
  simp -implicitDefEqProofs only [zP207_0, zF207_167, Nat.zero_add, Nat.reduceAdd, Nat.reduceBEq, Int.reduceToNat, z_e0, z_e1, z_e2, z_e3, z_e4, z_e5, z_e6, z_e7, z_e8, z_e11, z_e13, o_v0, o_v1, o_v2, List.cons_append, List.nil_append, List.map_cons, List.map_nil, List.drop_succ_cons, List.drop_zero, List.take_succ_cons, List.take_zero, e_c0, e_c1, e_c2, e_c3, e_c4, e_c5, e_b0, e_b1, e_b2, e_b3, e_b4, e_b5, e_b6, e_b7, e_b8, e_b9, e_b10, e_b11, e_b12, e_b13, e_b14, e_b15, e_b16, e_b17, e_n0, e_bnd, e_un]
  try rfl
theorem zM207 : z_met 207 3 [(52, (0, 0), (0, 0)), (0, (1, 0), (0, 0)), (0, (2, 0), (0, 0)), (0, (3, 0), (0, 0))] f_m_set := z_met_ev zH207 (fun _ _ h => absurd h List.not_mem_nil) rfl zG207 (by decide +kernel) (fun L S hn => match L, hn with
  | [x1, x2, x3], _ => zE207)
def zW207 : List Nat := [r_m_shows, r_m_lineMany, r_m_showFilms, r_m_showScreens, r_m_showHours, r_m_letters, r_m_lineFilms]
theorem zK207 : z_kp 3 zW207 f_m_set := z_kp_ev (KT := [(167, 2, zW167)]) (.c zF207_167 zK167 .n) (z_h163 rfl) (by decide +kernel) (fun L S hn => match L, hn with
  | [x1, x2, x3], _ => zE207)

-- m_show (209)
noncomputable def zT209 : ZT := [(163, 2, [(52, (0, 0), (0, 0)), (0, (1, 0), (0, 0)), (0, (2, 0), (0, 0))], f_m_isThrown), (166, 1, [(52, (0, 0), (0, 0)), (0, (1, 0), (0, 0))], f_m_isNoFilm), (196, 1, [(52, (0, 0), (0, 0)), (0, (1, 0), (0, 0))], f_m_isNoScreen), (197, 1, [(0, (1, 0), (0, 0))], f_m_isHour), (206, 3, [(52, (0, 0), (0, 0)), (0, (1, 0), (0, 0)), (0, (2, 0), (0, 0)), (0, (3, 0), (0, 0))], f_m_canSet), (207, 3, [(52, (0, 0), (0, 0)), (0, (1, 0), (0, 0)), (0, (2, 0), (0, 0)), (0, (3, 0), (0, 0))], f_m_set)]
theorem zH209 : z_ok zT209 := .c zM163 (.c zM166 (.c zM196 (.c zM197 (.c zM206 (.c zM207 .n)))))
theorem zF209_163 : z_F zT209 163 = f_m_isThrown := id rfl
theorem zF209_166 : z_F zT209 166 = f_m_isNoFilm := id rfl
theorem zF209_196 : z_F zT209 196 = f_m_isNoScreen := id rfl
theorem zF209_197 : z_F zT209 197 = f_m_isHour := id rfl
theorem zF209_206 : z_F zT209 206 = f_m_canSet := id rfl
theorem zF209_207 : z_F zT209 207 = f_m_set := id rfl
def zP209_0 : List ZO := [(7, [(166, 0), (1, 0)]), (3, [(1, 0), (2, 0), (4, 0), (0, 0)]), (13, [(163, 0), (0, 0), (0, 1), (0, 1)]), (0, [(0, 0)]), (7, [(196, 0), (2, 0)]), (3, [(0, 0), (22, 0), (5, 0), (0, 0)]), (13, [(163, 0), (0, 0), (0, 0), (0, 1)]), (7, [(197, 0), (3, 0)]), (3, [(1, 0), (17, 0), (6, 0), (0, 0)]), (13, [(163, 0), (0, 0), (0, 0), (0, 2)]), (5, [(3520, 0), (0, 0), (0, 0), (1, 0)]), (3, [(2, 0), (2, 0), (7, 0), (0, 0)]), (13, [(163, 0), (0, 0), (0, 1), (0, 3)]), (0, [(0, 0)]), (7, [(206, 0), (1, 0), (2, 0), (3, 0)]), (3, [(1, 0), (8, 0), (8, 0), (0, 0)]), (13, [(163, 0), (0, 0), (0, 0), (0, 3)]), (5, [(3249, 0), (0, 0), (0, 0), (0, 0)]), (3, [(1, 0), (3, 0), (9, 0), (0, 60)]), (13, [(163, 0), (0, 0), (0, 0), (0, 4)]), (7, [(207, 0), (1, 0), (2, 0), (3, 0)]), (0, [(10, 0)]), (13, [(163, 0), (0, 0), (0, 1), (0, 4)]), (0, [(0, 0)]), (13, [(163, 0), (0, 0), (0, 1), (0, 3)]), (0, [(0, 0)]), (13, [(163, 0), (0, 0), (0, 1), (0, 2)]), (0, [(0, 0)]), (13, [(163, 0), (0, 0), (0, 1), (0, 1)]), (0, [(0, 0)])]
def zC209 : ZC := [(0, 3, [some (52, (0, 0), (0, 0)), some (0, (1, 0), (0, 0)), some (0, (2, 0), (0, 0)), some (0, (3, 0), (0, 0))])]
theorem zG209 : z_go zC209 (z_A zT209) [(163, 0)] 209 400 true 31 zP209_0 0 [some (52, (0, 0), (0, 0)), some (0, (1, 0), (0, 0)), some (0, (2, 0), (0, 0)), some (0, (3, 0), (0, 0))] [] 3 = true := by decide +kernel
noncomputable def f_m_show : ZFn := fun L S => match L with
  | [x1, x2, x3] => (bif !decide ((v_m_isNoFilm x1 S) = 0) then ((0, [0]), (e_upd S r_m_thrown 0 0 0 1)) else (bif decide ((v_m_isNoScreen x2 S) = 0) then (bif !decide ((v_m_isHour x3 (e_upd S r_m_thrown 0 0 0 0)) = 0) then (bif decide ((S r_m_sections 0 0 x1) < 0) then ((0, [0]), (e_upd (e_upd (e_upd S r_m_thrown 0 0 0 0) r_m_thrown 0 0 0 0) r_m_thrown 0 0 0 3)) else (e_bind (f_m_canSet [x1, x2, x3] (e_upd (e_upd S r_m_thrown 0 0 0 0) r_m_thrown 0 0 0 0)) (fun v1 S1 => (bif !decide (v1 = 0) then (bif !decide ((S1 r_m_shows 0 0 0) = 60) then (e_bind (f_m_set [x1, x2, x3] (e_upd (e_upd S1 r_m_thrown 0 0 0 0) r_m_thrown 0 0 0 0)) (fun v2 S2 => ((0, [v2]), S2))) else ((0, [0]), (e_upd (e_upd S1 r_m_thrown 0 0 0 0) r_m_thrown 0 0 0 4))) else ((0, [0]), (e_upd S1 r_m_thrown 0 0 0 3)))))) else ((0, [0]), (e_upd (e_upd S r_m_thrown 0 0 0 0) r_m_thrown 0 0 0 2))) else ((0, [0]), (e_upd S r_m_thrown 0 0 0 1))))
  | _ => ((0, []), S)
theorem zE209 {x1 x2 x3 : Int} {S : ZS} : z_ev (z_F zT209) 31 zP209_0 [x1, x2, x3] S = f_m_show [x1, x2, x3] S := by
  simp -implicitDefEqProofs only [zP209_0, zF209_163, zF209_166, zF209_196, zF209_197, zF209_206, zF209_207, zpI0, zpI1, zpIc, pF_m_isNoFilm, pF_m_isNoScreen, pF_m_isHour, Nat.zero_add, Nat.reduceAdd, Nat.reduceBEq, Int.reduceToNat, z_e0, z_e1, z_e2, z_e3, z_e4, z_e5, z_e6, z_e7, z_e8, z_e11, z_e13, o_v0, o_v1, o_v2, List.cons_append, List.nil_append, List.map_cons, List.map_nil, List.drop_succ_cons, List.drop_zero, List.take_succ_cons, List.take_zero, e_c0, e_c1, e_c2, e_c3, e_c4, e_c5, e_b0, e_b1, e_b2, e_b3, e_b4, e_b5, e_b6, e_b7, e_b8, e_b9, e_b10, e_b11, e_b12, e_b13, e_b14, e_b15, e_b16, e_b17, e_n0, e_bnd, e_un]
  try rfl
theorem zM209 : z_met 209 3 [(52, (0, 0), (0, 0)), (0, (1, 0), (0, 0)), (0, (2, 0), (0, 0)), (0, (3, 0), (0, 0))] f_m_show := z_met_ev zH209 (fun _ _ h => by rw [List.mem_singleton] at h; cases h; exact fun _ _ => rfl) rfl zG209 (by decide +kernel) (fun L S hn => match L, hn with
  | [x1, x2, x3], _ => zE209)
def zW209 : List Nat := [r_m_shows, r_m_lineMany, r_m_thrown, r_m_showFilms, r_m_showScreens, r_m_showHours, r_m_letters, r_m_lineFilms]
theorem zK209 : z_kp 3 zW209 f_m_show := z_kp_ev (KT := [(163, 2, zW163), (166, 1, zW166), (196, 1, zW196), (197, 1, zW197), (206, 3, zW206), (207, 3, zW207)]) (.c zF209_163 zK163 (.c zF209_166 zK166 (.c zF209_196 zK196 (.c zF209_197 zK197 (.c zF209_206 zK206 (.c zF209_207 zK207 .n)))))) (fun _ _ => Or.inl rfl) (by decide +kernel) (fun L S hn => match L, hn with
  | [x1, x2, x3], _ => zE209)

-- Grid_stateOf (31)
def zT31 : ZT := []
theorem zH31 : z_ok zT31 := .n
def zP31_0 : List ZO := [(5, [(964, 0), (1, 0), (0, 0), (0, 0)]), (3, [(0, 0), (11, 0), (2, 0), (0, 45)]), (5, [(69, 0), (0, 0), (0, 0), (0, 0)]), (5, [(962, 0), (1, 0), (0, 0), (0, 0)]), (3, [(3, 0), (7, 0), (3, 0), (4, 0)]), (5, [(69, 0), (0, 0), (0, 0), (0, 0)]), (5, [(962, 0), (1, 0), (0, 0), (0, 0)]), (5, [(963, 0), (1, 0), (0, 0), (0, 0)]), (4, [(0, 0), (6, 0), (7, 0)]), (3, [(3, 0), (1, 0), (5, 0), (8, 0)]), (0, [(0, 111)]), (0, [(0, 110)]), (0, [(0, 116)]), (5, [(964, 0), (1, 0), (0, 0), (0, 0)]), (0, [(3, 0)])]
def zC31 : ZC := [(0, 1, [some (3, (0, 0), (0, 0)), some (17, (1, 0), (0, 0))])]
theorem zG31 : z_go zC31 (z_A zT31) [] 31 400 true 16 zP31_0 0 [some (3, (0, 0), (0, 0)), some (17, (1, 0), (0, 0))] [] 1 = true := by decide +kernel
def v_Grid_stateOf (x1 : Int) (S : ZS) : Int := (bif decide ((S r_Show_cause x1 0 0) = 45) then (bif decide ((S r_Show_first x1 0 0) ≤ (S r_Grid_hour 0 0 0)) then (bif decide ((e_wr ((S r_Show_first x1 0 0) + (S r_Show_length x1 0 0))) ≤ (S r_Grid_hour 0 0 0)) then 111 else 110) else 116) else (S r_Show_cause x1 0 0))
def f_Grid_stateOf : ZFn := fun L S => match L with
  | [x1] => ((0, [v_Grid_stateOf x1 S]), S)
  | _ => ((0, []), S)
theorem pF_Grid_stateOf {x1 : Int} {S : ZS} : f_Grid_stateOf [x1] S = ((0, [v_Grid_stateOf x1 S]), S) := id rfl
theorem zE31a {x1 : Int} {S : ZS} : z_ev (z_F zT31) 16 zP31_0 [x1] S = (bif decide ((S r_Show_cause x1 0 0) = 45) then (bif decide ((S r_Show_first x1 0 0) ≤ (S r_Grid_hour 0 0 0)) then (bif decide ((e_wr ((S r_Show_first x1 0 0) + (S r_Show_length x1 0 0))) ≤ (S r_Grid_hour 0 0 0)) then ((0, [111]), S) else ((0, [110]), S)) else ((0, [116]), S)) else ((0, [(S r_Show_cause x1 0 0)]), S)) := by
  simp -implicitDefEqProofs only [zP31_0, Nat.zero_add, Nat.reduceAdd, Nat.reduceBEq, Int.reduceToNat, z_e0, z_e1, z_e2, z_e3, z_e4, z_e5, z_e6, z_e7, z_e8, z_e11, z_e13, o_v0, o_v1, o_v2, List.cons_append, List.nil_append, List.map_cons, List.map_nil, List.drop_succ_cons, List.drop_zero, List.take_succ_cons, List.take_zero, e_c0, e_c1, e_c2, e_c3, e_c4, e_c5, e_b0, e_b1, e_b2, e_b3, e_b4, e_b5, e_b6, e_b7, e_b8, e_b9, e_b10, e_b11, e_b12, e_b13, e_b14, e_b15, e_b16, e_b17, e_n0, e_bnd, e_un]
  try rfl
theorem zE31 {x1 : Int} {S : ZS} : z_ev (z_F zT31) 16 zP31_0 [x1] S = f_Grid_stateOf [x1] S := zE31a.trans (by
  simp only [z_cv]
  rfl)
theorem zM31 : z_met 31 1 [(3, (0, 0), (0, 0)), (17, (1, 0), (0, 0))] f_Grid_stateOf := z_met_ev zH31 (fun _ _ h => absurd h List.not_mem_nil) rfl zG31 (by decide +kernel) (fun L S hn => match L, hn with
  | [x1], _ => zE31)
def zW31 : List Nat := []
theorem zK31 : z_kp 1 zW31 f_Grid_stateOf := z_kp_ev (KT := []) (.n) (z_h163 rfl) (by decide +kernel) (fun L S hn => match L, hn with
  | [x1], _ => zE31)

-- Grid_hasToCome (39)
def zT39 : ZT := [(31, 1, [(3, (0, 0), (0, 0)), (17, (1, 0), (0, 0))], f_Grid_stateOf)]
theorem zH39 : z_ok zT39 := .c zM31 .n
theorem zF39_31 : z_F zT39 31 = f_Grid_stateOf := id rfl
def zP39_0 : List ZO := [(2, [(2, 0), (1, 0), (0, 0)])]
def zP39_2 : List ZO := [(5, [(68, 0), (0, 0), (0, 0), (0, 0)]), (3, [(3, 0), (1, 0), (2, 0), (3, 0)]), (0, [(0, 0)]), (5, [(960, 0), (2, 0), (0, 0), (0, 0)]), (3, [(1, 0), (2, 0), (4, 0), (1, 0)]), (4, [(0, 0), (2, 0), (0, 1)]), (2, [(2, 0), (1, 0), (5, 0)]), (7, [(31, 0), (2, 0)]), (3, [(1, 0), (2, 0), (5, 0), (0, 116)]), (4, [(0, 0), (2, 0), (0, 1)]), (2, [(2, 0), (1, 0), (6, 0)]), (0, [(0, 1)])]
def zD39 : ZD := [(0, 1, [some (3, (0, 0), (0, 0)), some (0, (1, 0), (0, 0)), none], 2, zP39_0), (2, 2, [some (3, (0, 0), (0, 0)), some (0, (1, 0), (0, 0)), some (0, (2, 0), (0, 0))], 13, zP39_2)]
theorem zG39 : z_chk zT39 [] 39 zD39 = true := by decide +kernel
noncomputable def g_Grid_hasToCome (R : ZR) : ZR := z_psi (z_st (z_F zT39) zD39) R
noncomputable def f_Grid_hasToCome : ZFn := fun L S => g_Grid_hasToCome ((1000, L), S)
theorem zM39 : z_met 39 1 [(3, (0, 0), (0, 0)), (0, (1, 0), (0, 0))] f_Grid_hasToCome := z_met_psi zH39 (fun _ _ h => absurd h List.not_mem_nil) rfl zG39
theorem zE39_0 {x1 : Int} {S : ZS} : z_st (z_F zT39) zD39 0 [x1] S = ((1002, [x1, 0]), S) := (id rfl : z_st (z_F zT39) zD39 0 [x1] S = z_ev (z_F zT39) 2 zP39_0 [x1] S).trans (id rfl)
theorem g_Grid_hasToCome_0 {x1 : Int} {S : ZS} : g_Grid_hasToCome ((1000, [x1]), S) = (g_Grid_hasToCome ((1002, [x1, 0]), S)) := by
  unfold g_Grid_hasToCome
  refine ((z_psi_go (pc := 0)).trans (congrArg _ zE39_0)).trans ?_
  try simp only [z_psi_c, z_psi_b, z_psi_n, Nat.reduceLT, decide_true]
theorem zE39_2 {x1 x2 : Int} {S : ZS} : z_st (z_F zT39) zD39 2 [x1, x2] S = (bif decide ((S r_Grid_showCount 0 0 0) ≤ x2) then ((0, [0]), S) else (bif !decide ((S r_Show_film x2 0 0) = x1) then ((1002, [x1, (e_wr (x2 + 1))]), S) else (bif !decide ((v_Grid_stateOf x2 S) = 116) then ((1002, [x1, (e_wr (x2 + 1))]), S) else ((0, [1]), S)))) := (id rfl : z_st (z_F zT39) zD39 2 [x1, x2] S = z_ev (z_F zT39) 13 zP39_2 [x1, x2] S).trans (id rfl)
theorem g_Grid_hasToCome_2 {x1 x2 : Int} {S : ZS} : g_Grid_hasToCome ((1002, [x1, x2]), S) = (bif decide ((S r_Grid_showCount 0 0 0) ≤ x2) then ((0, [0]), S) else (bif !decide ((S r_Show_film x2 0 0) = x1) then (g_Grid_hasToCome ((1002, [x1, (e_wr (x2 + 1))]), S)) else (bif !decide ((v_Grid_stateOf x2 S) = 116) then (g_Grid_hasToCome ((1002, [x1, (e_wr (x2 + 1))]), S)) else ((0, [1]), S)))) := by
  unfold g_Grid_hasToCome
  refine ((z_psi_go (pc := 2)).trans (congrArg _ zE39_2)).trans ?_
  try simp only [z_psi_c, z_psi_b, z_psi_n, Nat.reduceLT, decide_true]
def zW39 : List Nat := []
theorem zK39 : z_kp 1 zW39 f_Grid_hasToCome := fun L S hL hc r i j k hr => z_psi_kp (KT := [(31, 1, zW31)]) (F := z_F zT39) (W := zW39) (D := zD39) (.c zF39_31 zK31 .n) (z_h163 rfl) (by decide +kernel) _ hc r i j k hr

-- x_orderUnsetByMinutes (153)
noncomputable def zT153 : ZT := [(39, 1, [(3, (0, 0), (0, 0)), (0, (1, 0), (0, 0))], f_Grid_hasToCome), (151, 3, [(2, (0, 0), (0, 0)), (0, (1, 0), (0, 0)), (0, (2, 0), (0, 0)), (0, (3, 0), (0, 0))], f_x_putInOrder)]
theorem zH153 : z_ok zT153 := .c zM39 (.c zM151 .n)
theorem zF153_39 : z_F zT153 39 = f_Grid_hasToCome := id rfl
theorem zF153_151 : z_F zT153 151 = f_x_putInOrder := id rfl
def zP153_0 : List ZO := [(2, [(4, 0), (1, 0), (0, 0), (0, 0)])]
def zP153_4 : List ZO := [(5, [(4, 0), (0, 0), (0, 0), (0, 0)]), (3, [(3, 0), (1, 0), (3, 0), (4, 0)]), (0, [(2, 0)]), (5, [(195, 0), (3, 0), (0, 0), (0, 0)]), (3, [(1, 0), (2, 0), (5, 0), (1, 0)]), (4, [(0, 0), (3, 0), (0, 1)]), (2, [(4, 0), (1, 0), (2, 0), (6, 0)]), (7, [(39, 0), (3, 0)]), (3, [(1, 0), (2, 0), (6, 0), (0, 0)]), (4, [(0, 0), (3, 0), (0, 1)]), (2, [(4, 0), (1, 0), (2, 0), (7, 0)]), (5, [(193, 0), (3, 0), (0, 0), (0, 0)]), (7, [(151, 0), (2, 0), (3, 0), (7, 0)]), (4, [(0, 0), (2, 0), (0, 1)]), (4, [(0, 0), (3, 0), (0, 1)]), (2, [(4, 0), (1, 0), (9, 0), (10, 0)])]
def zD153 : ZD := [(0, 1, [some (2, (0, 0), (0, 0)), some (0, (1, 0), (0, 0)), none, none], 2, zP153_0), (4, 3, [some (2, (0, 0), (0, 0)), some (0, (1, 0), (0, 0)), some (0, (2, 0), (0, 0)), some (0, (3, 0), (0, 0))], 17, zP153_4)]
theorem zG153 : z_chk zT153 [] 153 zD153 = true := by decide +kernel
noncomputable def g_x_orderUnsetByMinutes (R : ZR) : ZR := z_psi (z_st (z_F zT153) zD153) R
noncomputable def f_x_orderUnsetByMinutes : ZFn := fun L S => g_x_orderUnsetByMinutes ((1000, L), S)
theorem zM153 : z_met 153 1 [(2, (0, 0), (0, 0)), (0, (1, 0), (0, 0))] f_x_orderUnsetByMinutes := z_met_psi zH153 (fun _ _ h => absurd h List.not_mem_nil) rfl zG153
theorem zE153_0 {x1 : Int} {S : ZS} : z_st (z_F zT153) zD153 0 [x1] S = ((1004, [x1, 0, 0]), S) := (id rfl : z_st (z_F zT153) zD153 0 [x1] S = z_ev (z_F zT153) 2 zP153_0 [x1] S).trans (id rfl)
theorem g_x_orderUnsetByMinutes_0 {x1 : Int} {S : ZS} : g_x_orderUnsetByMinutes ((1000, [x1]), S) = (g_x_orderUnsetByMinutes ((1004, [x1, 0, 0]), S)) := by
  unfold g_x_orderUnsetByMinutes
  refine ((z_psi_go (pc := 0)).trans (congrArg _ zE153_0)).trans ?_
  try simp only [z_psi_c, z_psi_b, z_psi_n, Nat.reduceLT, decide_true]
theorem zE153_4 {x1 x2 x3 : Int} {S : ZS} : z_st (z_F zT153) zD153 4 [x1, x2, x3] S = (bif decide ((S r_x_filmCount 0 0 0) ≤ x3) then ((0, [x2]), S) else (bif !decide ((S r_Film_section x3 0 0) = x1) then ((1004, [x1, x2, (e_wr (x3 + 1))]), S) else (e_bind (f_Grid_hasToCome [x3] S) (fun v1 S1 => (bif !decide (v1 = 0) then ((1004, [x1, x2, (e_wr (x3 + 1))]), S1) else (e_bind (f_x_putInOrder [x2, x3, (S1 r_Film_minutes x3 0 0)] S1) (fun v2 S2 => ((1004, [x1, (e_wr (x2 + 1)), (e_wr (x3 + 1))]), S2)))))))) := (id rfl : z_st (z_F zT153) zD153 4 [x1, x2, x3] S = z_ev (z_F zT153) 17 zP153_4 [x1, x2, x3] S).trans (by
  simp -implicitDefEqProofs only [zP153_4, zF153_39, zF153_151, Nat.zero_add, Nat.reduceAdd, Nat.reduceBEq, Int.reduceToNat, z_e0, z_e1, z_e2, z_e3, z_e4, z_e5, z_e6, z_e7, z_e8, z_e11, z_e13, o_v0, o_v1, o_v2, List.cons_append, List.nil_append, List.map_cons, List.map_nil, List.drop_succ_cons, List.drop_zero, List.take_succ_cons, List.take_zero, e_c0, e_c1, e_c2, e_c3, e_c4, e_c5, e_b0, e_b1, e_b2, e_b3, e_b4, e_b5, e_b6, e_b7, e_b8, e_b9, e_b10, e_b11, e_b12, e_b13, e_b14, e_b15, e_b16, e_b17, e_n0, e_bnd, e_un]
  try rfl)
theorem g_x_orderUnsetByMinutes_4 {x1 x2 x3 : Int} {S : ZS} : g_x_orderUnsetByMinutes ((1004, [x1, x2, x3]), S) = (bif decide ((S r_x_filmCount 0 0 0) ≤ x3) then ((0, [x2]), S) else (bif !decide ((S r_Film_section x3 0 0) = x1) then (g_x_orderUnsetByMinutes ((1004, [x1, x2, (e_wr (x3 + 1))]), S)) else (e_bind (f_Grid_hasToCome [x3] S) (fun v1 S1 => (bif !decide (v1 = 0) then (g_x_orderUnsetByMinutes ((1004, [x1, x2, (e_wr (x3 + 1))]), S1)) else (e_bind (f_x_putInOrder [x2, x3, (S1 r_Film_minutes x3 0 0)] S1) (fun v2 S2 => (g_x_orderUnsetByMinutes ((1004, [x1, (e_wr (x2 + 1)), (e_wr (x3 + 1))]), S2))))))))) := by
  unfold g_x_orderUnsetByMinutes
  refine ((z_psi_go (pc := 4)).trans (congrArg _ zE153_4)).trans ?_
  try simp only [z_psi_c, z_psi_b, z_psi_n, Nat.reduceLT, decide_true]
def zW153 : List Nat := [r_x_order, r_x_weights]
theorem zK153 : z_kp 1 zW153 f_x_orderUnsetByMinutes := fun L S hL hc r i j k hr => z_psi_kp (KT := [(39, 1, zW39), (151, 3, zW151)]) (F := z_F zT153) (W := zW153) (D := zD153) (.c zF153_39 zK39 (.c zF153_151 zK151 .n)) (z_h163 rfl) (by decide +kernel) _ hc r i j k hr

-- Grid_setAtFirstPlace (37)
noncomputable def zT37 : ZT := [(34, 3, [(3, (0, 0), (0, 0)), (0, (1, 0), (0, 0)), (0, (2, 0), (0, 0)), (0, (3, 0), (0, 0))], f_Grid_canBeSet), (36, 3, [(3, (0, 0), (0, 0)), (0, (1, 0), (0, 0)), (0, (2, 0), (0, 0)), (0, (3, 0), (0, 0))], f_Grid_setShow)]
theorem zH37 : z_ok zT37 := .c zM34 (.c zM36 .n)
theorem zF37_34 : z_F zT37 34 = f_Grid_canBeSet := id rfl
theorem zF37_36 : z_F zT37 36 = f_Grid_setShow := id rfl
def zP37_0 : List ZO := [(5, [(69, 0), (0, 0), (0, 0), (0, 0)]), (2, [(5, 0), (1, 0), (2, 0)])]
def zP37_5 : List ZO := [(3, [(3, 0), (1, 0), (2, 0), (0, 50)]), (0, [(0, (-1))]), (2, [(13, 0), (1, 0), (2, 0), (0, 0)])]
def zP37_13 : List ZO := [(5, [(258, 0), (0, 0), (0, 0), (0, 0)]), (3, [(3, 0), (2, 0), (3, 0), (4, 0)]), (4, [(0, 0), (2, 0), (0, 1)]), (2, [(5, 0), (1, 0), (5, 0)]), (7, [(34, 0), (1, 0), (3, 0), (2, 0)]), (3, [(0, 0), (2, 0), (5, 0), (0, 0)]), (4, [(0, 0), (3, 0), (0, 1)]), (2, [(13, 0), (1, 0), (2, 0), (6, 0)]), (7, [(36, 0), (1, 0), (3, 0), (2, 0)]), (0, [(6, 0)])]
def zD37 : ZD := [(0, 1, [some (3, (0, 0), (0, 0)), some (0, (1, 0), (0, 0)), none, none], 3, zP37_0), (5, 2, [some (3, (0, 0), (0, 0)), some (0, (1, 0), (0, 0)), some (0, (2, 0), (0, 0)), none], 4, zP37_5), (13, 3, [some (3, (0, 0), (0, 0)), some (0, (1, 0), (0, 0)), some (0, (2, 0), (0, 0)), some (0, (3, 0), (0, 0))], 11, zP37_13)]
theorem zG37 : z_chk zT37 [] 37 zD37 = true := by decide +kernel
noncomputable def g_Grid_setAtFirstPlace (R : ZR) : ZR := z_psi (z_st (z_F zT37) zD37) R
noncomputable def f_Grid_setAtFirstPlace : ZFn := fun L S => g_Grid_setAtFirstPlace ((1000, L), S)
theorem zM37 : z_met 37 1 [(3, (0, 0), (0, 0)), (0, (1, 0), (0, 0))] f_Grid_setAtFirstPlace := z_met_psi zH37 (fun _ _ h => absurd h List.not_mem_nil) rfl zG37
theorem zE37_0 {x1 : Int} {S : ZS} : z_st (z_F zT37) zD37 0 [x1] S = ((1005, [x1, (S r_Grid_hour 0 0 0)]), S) := (id rfl : z_st (z_F zT37) zD37 0 [x1] S = z_ev (z_F zT37) 3 zP37_0 [x1] S).trans (id rfl)
theorem g_Grid_setAtFirstPlace_0 {x1 : Int} {S : ZS} : g_Grid_setAtFirstPlace ((1000, [x1]), S) = (g_Grid_setAtFirstPlace ((1005, [x1, (S r_Grid_hour 0 0 0)]), S)) := by
  unfold g_Grid_setAtFirstPlace
  refine ((z_psi_go (pc := 0)).trans (congrArg _ zE37_0)).trans ?_
  try simp only [z_psi_c, z_psi_b, z_psi_n, Nat.reduceLT, decide_true]
theorem zE37_5 {x1 x2 : Int} {S : ZS} : z_st (z_F zT37) zD37 5 [x1, x2] S = (bif decide (50 ≤ x2) then ((0, [(-1)]), S) else ((1013, [x1, x2, 0]), S)) := (id rfl : z_st (z_F zT37) zD37 5 [x1, x2] S = z_ev (z_F zT37) 4 zP37_5 [x1, x2] S).trans (id rfl)
theorem g_Grid_setAtFirstPlace_5 {x1 x2 : Int} {S : ZS} : g_Grid_setAtFirstPlace ((1005, [x1, x2]), S) = (bif decide (50 ≤ x2) then ((0, [(-1)]), S) else (g_Grid_setAtFirstPlace ((1013, [x1, x2, 0]), S))) := by
  unfold g_Grid_setAtFirstPlace
  refine ((z_psi_go (pc := 5)).trans (congrArg _ zE37_5)).trans ?_
  try simp only [z_psi_c, z_psi_b, z_psi_n, Nat.reduceLT, decide_true]
theorem zE37_13 {x1 x2 x3 : Int} {S : ZS} : z_st (z_F zT37) zD37 13 [x1, x2, x3] S = (bif decide ((S r_Venue_screenCount 0 0 0) ≤ x3) then ((1005, [x1, (e_wr (x2 + 1))]), S) else (e_bind (f_Grid_canBeSet [x1, x3, x2] S) (fun v1 S1 => (bif decide (v1 = 0) then ((1013, [x1, x2, (e_wr (x3 + 1))]), S1) else (e_bind (f_Grid_setShow [x1, x3, x2] S1) (fun v2 S2 => ((0, [v2]), S2))))))) := (id rfl : z_st (z_F zT37) zD37 13 [x1, x2, x3] S = z_ev (z_F zT37) 11 zP37_13 [x1, x2, x3] S).trans (id rfl)
theorem g_Grid_setAtFirstPlace_13 {x1 x2 x3 : Int} {S : ZS} : g_Grid_setAtFirstPlace ((1013, [x1, x2, x3]), S) = (bif decide ((S r_Venue_screenCount 0 0 0) ≤ x3) then (g_Grid_setAtFirstPlace ((1005, [x1, (e_wr (x2 + 1))]), S)) else (e_bind (f_Grid_canBeSet [x1, x3, x2] S) (fun v1 S1 => (bif decide (v1 = 0) then (g_Grid_setAtFirstPlace ((1013, [x1, x2, (e_wr (x3 + 1))]), S1)) else (e_bind (f_Grid_setShow [x1, x3, x2] S1) (fun v2 S2 => ((0, [v2]), S2))))))) := by
  unfold g_Grid_setAtFirstPlace
  refine ((z_psi_go (pc := 13)).trans (congrArg _ zE37_13)).trans ?_
  try simp only [z_psi_c, z_psi_b, z_psi_n, Nat.reduceLT, decide_true]
def zW37 : List Nat := [r_Grid_showCount, r_Archive_lineCount, r_Archive_next, r_Archive_letters, r_Archive_filmOf, r_Show_film, r_Show_screen, r_Show_first, r_Show_length]
theorem zK37 : z_kp 1 zW37 f_Grid_setAtFirstPlace := fun L S hL hc r i j k hr => z_psi_kp (KT := [(34, 3, zW34), (36, 3, zW36)]) (F := z_F zT37) (W := zW37) (D := zD37) (.c zF37_34 zK34 (.c zF37_36 zK36 .n)) (z_h163 rfl) (by decide +kernel) _ hc r i j k hr

-- x_plan (110)
noncomputable def zT110 : ZT := [(37, 1, [(3, (0, 0), (0, 0)), (0, (1, 0), (0, 0))], f_Grid_setAtFirstPlace), (145, 1, [(2, (0, 0), (0, 0)), (0, (1, 0), (0, 0))], f_x_checkSection), (153, 1, [(2, (0, 0), (0, 0)), (0, (1, 0), (0, 0))], f_x_orderUnsetByMinutes)]
theorem zH110 : z_ok zT110 := .c zM37 (.c zM145 (.c zM153 .n))
theorem zF110_37 : z_F zT110 37 = f_Grid_setAtFirstPlace := id rfl
theorem zF110_145 : z_F zT110 145 = f_x_checkSection := id rfl
theorem zF110_153 : z_F zT110 153 = f_x_orderUnsetByMinutes := id rfl
def zP110_0 : List ZO := [(7, [(145, 0), (1, 0)]), (7, [(153, 0), (1, 0)]), (5, [(68, 0), (0, 0), (0, 0), (0, 0)]), (4, [(0, 0), (4, 0), (3, 0)]), (3, [(5, 0), (1, 0), (5, 0), (0, 60)]), (2, [(41, 0), (3, 0), (0, 0), (0, 0)]), (1, [(2, 0)])]
def zP110_41 : List ZO := [(3, [(3, 0), (1, 0), (3, 0), (1, 0)]), (0, [(2, 0)]), (5, [(3072, 0), (0, 0), (0, 0), (3, 0)]), (7, [(37, 0), (4, 0)]), (3, [(0, 0), (2, 0), (5, 0), (0, (-1))]), (4, [(0, 0), (3, 0), (0, 1)]), (2, [(41, 0), (1, 0), (2, 0), (6, 0)]), (4, [(0, 0), (2, 0), (0, 1)]), (4, [(0, 0), (3, 0), (0, 1)]), (2, [(41, 0), (1, 0), (6, 0), (7, 0)])]
def zD110 : ZD := [(0, 1, [some (2, (0, 0), (0, 0)), some (0, (1, 0), (0, 0)), none, none, none], 8, zP110_0), (41, 3, [some (2, (0, 0), (0, 0)), none, some (0, (1, 0), (0, 0)), some (0, (2, 0), (0, 0)), some (0, (3, 0), (0, 0))], 11, zP110_41)]
theorem zG110 : z_chk zT110 [] 110 zD110 = true := by decide +kernel
noncomputable def g_x_plan (R : ZR) : ZR := z_psi (z_st (z_F zT110) zD110) R
noncomputable def f_x_plan : ZFn := fun L S => g_x_plan ((1000, L), S)
theorem zM110 : z_met 110 1 [(2, (0, 0), (0, 0)), (0, (1, 0), (0, 0))] f_x_plan := z_met_psi zH110 (fun _ _ h => absurd h List.not_mem_nil) rfl zG110
theorem zE110_0 {x1 : Int} {S : ZS} : z_st (z_F zT110) zD110 0 [x1] S = (e_bind (f_x_checkSection [x1] S) (fun v1 S1 => (e_bind (f_x_orderUnsetByMinutes [x1] S1) (fun v2 S2 => (bif decide ((e_wr ((S2 r_Grid_showCount 0 0 0) + v2)) ≤ 60) then ((1041, [v2, 0, 0]), S2) else ((3, []), S2)))))) := (id rfl : z_st (z_F zT110) zD110 0 [x1] S = z_ev (z_F zT110) 8 zP110_0 [x1] S).trans (id rfl)
theorem g_x_plan_0 {x1 : Int} {S : ZS} : g_x_plan ((1000, [x1]), S) = (e_bind (f_x_checkSection [x1] S) (fun v1 S1 => (e_bind (f_x_orderUnsetByMinutes [x1] S1) (fun v2 S2 => (bif decide ((e_wr ((S2 r_Grid_showCount 0 0 0) + v2)) ≤ 60) then (g_x_plan ((1041, [v2, 0, 0]), S2)) else ((3, []), S2)))))) := by
  unfold g_x_plan
  refine ((z_psi_go (pc := 0)).trans (congrArg _ zE110_0)).trans ?_
  try simp only [z_psi_c, z_psi_b, z_psi_n, Nat.reduceLT, decide_true]
theorem zE110_41 {x1 x2 x3 : Int} {S : ZS} : z_st (z_F zT110) zD110 41 [x1, x2, x3] S = (bif decide (x1 ≤ x3) then ((0, [x2]), S) else (e_bind (f_Grid_setAtFirstPlace [(S r_x_order 0 0 x3)] S) (fun v1 S1 => (bif decide (v1 = (-1)) then ((1041, [x1, x2, (e_wr (x3 + 1))]), S1) else ((1041, [x1, (e_wr (x2 + 1)), (e_wr (x3 + 1))]), S1))))) := (id rfl : z_st (z_F zT110) zD110 41 [x1, x2, x3] S = z_ev (z_F zT110) 11 zP110_41 [x1, x2, x3] S).trans (id rfl)
theorem g_x_plan_41 {x1 x2 x3 : Int} {S : ZS} : g_x_plan ((1041, [x1, x2, x3]), S) = (bif decide (x1 ≤ x3) then ((0, [x2]), S) else (e_bind (f_Grid_setAtFirstPlace [(S r_x_order 0 0 x3)] S) (fun v1 S1 => (bif decide (v1 = (-1)) then (g_x_plan ((1041, [x1, x2, (e_wr (x3 + 1))]), S1)) else (g_x_plan ((1041, [x1, (e_wr (x2 + 1)), (e_wr (x3 + 1))]), S1)))))) := by
  unfold g_x_plan
  refine ((z_psi_go (pc := 41)).trans (congrArg _ zE110_41)).trans ?_
  try simp only [z_psi_c, z_psi_b, z_psi_n, Nat.reduceLT, decide_true]
def zW110 : List Nat := [r_Grid_showCount, r_Archive_lineCount, r_Archive_next, r_Archive_letters, r_Archive_filmOf, r_Show_film, r_Show_screen, r_Show_first, r_Show_length, r_x_order, r_x_weights]
theorem zK110 : z_kp 1 zW110 f_x_plan := fun L S hL hc r i j k hr => z_psi_kp (KT := [(37, 1, zW37), (145, 1, zW145), (153, 1, zW153)]) (F := z_F zT110) (W := zW110) (D := zD110) (.c zF110_37 zK37 (.c zF110_145 zK145 (.c zF110_153 zK153 .n))) (z_h163 rfl) (by decide +kernel) _ hc r i j k hr

-- w_plan (276)
noncomputable def zT276 : ZT := [(110, 1, [(2, (0, 0), (0, 0)), (0, (1, 0), (0, 0))], f_x_plan)]
theorem zH276 : z_ok zT276 := .c zM110 .n
theorem zF276_110 : z_F zT276 110 = f_x_plan := id rfl
def zP276_0 : List ZO := [(11, [(110, 0), (2, 0), (0, 2), (2, 3), (1, 0)]), (6, [(6976, 0), (0, 0), (0, 0), (0, 0), (0, 0), (2, 0)]), (0, [(0, 0)]), (0, [(0, 1)]), (0, [(0, 2)])]
def zC276 : ZC := [(0, 1, [some (2, (0, 0), (0, 0)), some (0, (1, 0), (0, 0)), some (111, (0, 0), (0, 0)), none])]
theorem zG276 : z_go zC276 (z_A zT276) [] 276 400 true 6 zP276_0 0 [some (2, (0, 0), (0, 0)), some (0, (1, 0), (0, 0)), some (111, (0, 0), (0, 0)), none] [] 1 = true := by decide +kernel
noncomputable def f_w_plan : ZFn := fun L S => match L with
  | [x1] => (e_try (f_x_plan [x1] S) (fun v1 S1 => ((0, [0]), (e_upd S1 r_out 0 0 0 v1))) [(0, 1), (2, 2)])
  | _ => ((0, []), S)
theorem zE276 {x1 : Int} {S : ZS} : z_ev (z_F zT276) 6 zP276_0 [x1] S = f_w_plan [x1] S := id rfl
theorem zM276 : z_met 276 1 [(2, (0, 0), (0, 0)), (0, (1, 0), (0, 0)), (111, (0, 0), (0, 0))] f_w_plan := z_met_ev zH276 (fun _ _ h => absurd h List.not_mem_nil) rfl zG276 (by decide +kernel) (fun L S hn => match L, hn with
  | [x1], _ => zE276)
def zW276 : List Nat := [r_Grid_showCount, r_Archive_lineCount, r_Archive_next, r_Archive_letters, r_Archive_filmOf, r_Show_film, r_Show_screen, r_Show_first, r_Show_length, r_x_order, r_x_weights, r_out]
theorem zK276 : z_kp 1 zW276 f_w_plan := z_kp_ev (KT := [(110, 1, zW110)]) (.c zF276_110 zK110 .n) (z_h163 rfl) (by decide +kernel) (fun L S hn => match L, hn with
  | [x1], _ => zE276)

-- m_stateOf (204)
def zT204 : ZT := [(203, 1, [(52, (0, 0), (0, 0)), (0, (1, 0), (0, 0))], f_m_lastOf)]
theorem zH204 : z_ok zT204 := .c zM203 .n
theorem zF204_203 : z_F zT204 203 = f_m_lastOf := id rfl
def zP204_0 : List ZO := [(5, [(5120, 0), (0, 0), (0, 0), (1, 0)]), (3, [(0, 0), (9, 0), (2, 0), (0, 0)]), (7, [(203, 0), (1, 0)]), (5, [(3254, 0), (0, 0), (0, 0), (0, 0)]), (3, [(3, 0), (5, 0), (3, 0), (4, 0)]), (5, [(5056, 0), (0, 0), (0, 0), (1, 0)]), (5, [(3254, 0), (0, 0), (0, 0), (0, 0)]), (3, [(4, 0), (1, 0), (5, 0), (6, 0)]), (0, [(0, 116)]), (0, [(0, 110)]), (0, [(0, 111)]), (5, [(5120, 0), (0, 0), (0, 0), (1, 0)]), (0, [(3, 0)])]
def zC204 : ZC := [(0, 1, [some (52, (0, 0), (0, 0)), some (0, (1, 0), (0, 0))])]
theorem zG204 : z_go zC204 (z_A zT204) [] 204 400 true 14 zP204_0 0 [some (52, (0, 0), (0, 0)), some (0, (1, 0), (0, 0))] [] 1 = true := by decide +kernel
def v_m_stateOf (x1 : Int) (S : ZS) : Int := (bif decide ((S r_m_gone 0 0 x1) = 0) then (bif decide ((S r_m_hour 0 0 0) ≤ (v_m_lastOf x1 S)) then (bif decide ((S r_m_hour 0 0 0) < (S r_m_showHours 0 0 x1)) then 116 else 110) else 111) else (S r_m_gone 0 0 x1))
def f_m_stateOf : ZFn := fun L S => match L with
  | [x1] => ((0, [v_m_stateOf x1 S]), S)
  | _ => ((0, []), S)
theorem pF_m_stateOf {x1 : Int} {S : ZS} : f_m_stateOf [x1] S = ((0, [v_m_stateOf x1 S]), S) := id rfl
theorem zE204a {x1 : Int} {S : ZS} : z_ev (z_F zT204) 14 zP204_0 [x1] S = (bif decide ((S r_m_gone 0 0 x1) = 0) then (bif decide ((S r_m_hour 0 0 0) ≤ (v_m_lastOf x1 S)) then (bif decide ((S r_m_hour 0 0 0) < (S r_m_showHours 0 0 x1)) then ((0, [116]), S) else ((0, [110]), S)) else ((0, [111]), S)) else ((0, [(S r_m_gone 0 0 x1)]), S)) := by
  simp -implicitDefEqProofs only [zP204_0, zF204_203, pF_m_lastOf, Nat.zero_add, Nat.reduceAdd, Nat.reduceBEq, Int.reduceToNat, z_e0, z_e1, z_e2, z_e3, z_e4, z_e5, z_e6, z_e7, z_e8, z_e11, z_e13, o_v0, o_v1, o_v2, List.cons_append, List.nil_append, List.map_cons, List.map_nil, List.drop_succ_cons, List.drop_zero, List.take_succ_cons, List.take_zero, e_c0, e_c1, e_c2, e_c3, e_c4, e_c5, e_b0, e_b1, e_b2, e_b3, e_b4, e_b5, e_b6, e_b7, e_b8, e_b9, e_b10, e_b11, e_b12, e_b13, e_b14, e_b15, e_b16, e_b17, e_n0, e_bnd, e_un]
  try rfl
theorem zE204 {x1 : Int} {S : ZS} : z_ev (z_F zT204) 14 zP204_0 [x1] S = f_m_stateOf [x1] S := zE204a.trans (by
  simp only [z_cv]
  rfl)
theorem zM204 : z_met 204 1 [(52, (0, 0), (0, 0)), (0, (1, 0), (0, 0))] f_m_stateOf := z_met_ev zH204 (fun _ _ h => absurd h List.not_mem_nil) rfl zG204 (by decide +kernel) (fun L S hn => match L, hn with
  | [x1], _ => zE204)
def zW204 : List Nat := []
theorem zK204 : z_kp 1 zW204 f_m_stateOf := z_kp_ev (KT := [(203, 1, zW203)]) (.c zF204_203 zK203 .n) (z_h163 rfl) (by decide +kernel) (fun L S hn => match L, hn with
  | [x1], _ => zE204)

-- m_hasToCome (210)
def zT210 : ZT := [(204, 1, [(52, (0, 0), (0, 0)), (0, (1, 0), (0, 0))], f_m_stateOf)]
theorem zH210 : z_ok zT210 := .c zM204 .n
theorem zF210_204 : z_F zT210 204 = f_m_stateOf := id rfl
def zP210_0 : List ZO := [(2, [(4, 0), (1, 0), (0, 0), (0, 0)])]
def zP210_4 : List ZO := [(5, [(3249, 0), (0, 0), (0, 0), (0, 0)]), (3, [(3, 0), (1, 0), (3, 0), (4, 0)]), (0, [(2, 0)]), (5, [(4928, 0), (0, 0), (0, 0), (3, 0)]), (3, [(1, 0), (3, 0), (5, 0), (1, 0)]), (4, [(6, 0), (2, 0), (0, 0)]), (4, [(0, 0), (3, 0), (0, 1)]), (2, [(4, 0), (1, 0), (6, 0), (7, 0)]), (7, [(204, 0), (3, 0)]), (3, [(1, 0), (3, 0), (6, 0), (0, 116)]), (4, [(6, 0), (2, 0), (0, 0)]), (4, [(0, 0), (3, 0), (0, 1)]), (2, [(4, 0), (1, 0), (7, 0), (8, 0)]), (4, [(6, 0), (2, 0), (0, 1)]), (4, [(0, 0), (3, 0), (0, 1)]), (2, [(4, 0), (1, 0), (7, 0), (8, 0)])]
def zD210 : ZD := [(0, 1, [some (52, (0, 0), (0, 0)), some (0, (1, 0), (0, 0)), none, none], 2, zP210_0), (4, 3, [some (52, (0, 0), (0, 0)), some (0, (1, 0), (0, 0)), some (0, (2, 0), (0, 0)), some (0, (3, 0), (0, 0))], 17, zP210_4)]
theorem zG210 : z_chk zT210 [] 210 zD210 = true := by decide +kernel
noncomputable def g_m_hasToCome (R : ZR) : ZR := z_psi (z_st (z_F zT210) zD210) R
noncomputable def f_m_hasToCome : ZFn := fun L S => g_m_hasToCome ((1000, L), S)
theorem zM210 : z_met 210 1 [(52, (0, 0), (0, 0)), (0, (1, 0), (0, 0))] f_m_hasToCome := z_met_psi zH210 (fun _ _ h => absurd h List.not_mem_nil) rfl zG210
theorem zE210_0 {x1 : Int} {S : ZS} : z_st (z_F zT210) zD210 0 [x1] S = ((1004, [x1, 0, 0]), S) := (id rfl : z_st (z_F zT210) zD210 0 [x1] S = z_ev (z_F zT210) 2 zP210_0 [x1] S).trans (id rfl)
theorem g_m_hasToCome_0 {x1 : Int} {S : ZS} : g_m_hasToCome ((1000, [x1]), S) = (g_m_hasToCome ((1004, [x1, 0, 0]), S)) := by
  unfold g_m_hasToCome
  refine ((z_psi_go (pc := 0)).trans (congrArg _ zE210_0)).trans ?_
  try simp only [z_psi_c, z_psi_b, z_psi_n, Nat.reduceLT, decide_true]
theorem zE210_4 {x1 x2 x3 : Int} {S : ZS} : z_st (z_F zT210) zD210 4 [x1, x2, x3] S = (bif decide ((S r_m_shows 0 0 0) ≤ x3) then ((0, [x2]), S) else (bif !decide ((S r_m_showFilms 0 0 x3) = x1) then ((1004, [x1, (e_or x2 0), (e_wr (x3 + 1))]), S) else (bif !decide ((v_m_stateOf x3 S) = 116) then ((1004, [x1, (e_or x2 0), (e_wr (x3 + 1))]), S) else ((1004, [x1, (e_or x2 1), (e_wr (x3 + 1))]), S)))) := (id rfl : z_st (z_F zT210) zD210 4 [x1, x2, x3] S = z_ev (z_F zT210) 17 zP210_4 [x1, x2, x3] S).trans (by
  simp -implicitDefEqProofs only [zP210_4, zF210_204, pF_m_stateOf, Nat.zero_add, Nat.reduceAdd, Nat.reduceBEq, Int.reduceToNat, z_e0, z_e1, z_e2, z_e3, z_e4, z_e5, z_e6, z_e7, z_e8, z_e11, z_e13, o_v0, o_v1, o_v2, List.cons_append, List.nil_append, List.map_cons, List.map_nil, List.drop_succ_cons, List.drop_zero, List.take_succ_cons, List.take_zero, e_c0, e_c1, e_c2, e_c3, e_c4, e_c5, e_b0, e_b1, e_b2, e_b3, e_b4, e_b5, e_b6, e_b7, e_b8, e_b9, e_b10, e_b11, e_b12, e_b13, e_b14, e_b15, e_b16, e_b17, e_n0, e_bnd, e_un]
  try rfl)
theorem g_m_hasToCome_4 {x1 x2 x3 : Int} {S : ZS} : g_m_hasToCome ((1004, [x1, x2, x3]), S) = (bif decide ((S r_m_shows 0 0 0) ≤ x3) then ((0, [x2]), S) else (bif !decide ((S r_m_showFilms 0 0 x3) = x1) then (g_m_hasToCome ((1004, [x1, (e_or x2 0), (e_wr (x3 + 1))]), S)) else (bif !decide ((v_m_stateOf x3 S) = 116) then (g_m_hasToCome ((1004, [x1, (e_or x2 0), (e_wr (x3 + 1))]), S)) else (g_m_hasToCome ((1004, [x1, (e_or x2 1), (e_wr (x3 + 1))]), S))))) := by
  unfold g_m_hasToCome
  refine ((z_psi_go (pc := 4)).trans (congrArg _ zE210_4)).trans ?_
  try simp only [z_psi_c, z_psi_b, z_psi_n, Nat.reduceLT, decide_true]
def zW210 : List Nat := []
theorem zK210 : z_kp 1 zW210 f_m_hasToCome := fun L S hL hc r i j k hr => z_psi_kp (KT := [(204, 1, zW204)]) (F := z_F zT210) (W := zW210) (D := zD210) (.c zF210_204 zK204 .n) (z_h163 rfl) (by decide +kernel) _ hc r i j k hr

-- m_setAnywhere (208)
noncomputable def zT208 : ZT := [(206, 3, [(52, (0, 0), (0, 0)), (0, (1, 0), (0, 0)), (0, (2, 0), (0, 0)), (0, (3, 0), (0, 0))], f_m_canSet), (207, 3, [(52, (0, 0), (0, 0)), (0, (1, 0), (0, 0)), (0, (2, 0), (0, 0)), (0, (3, 0), (0, 0))], f_m_set)]
theorem zH208 : z_ok zT208 := .c zM206 (.c zM207 .n)
theorem zF208_206 : z_F zT208 206 = f_m_canSet := id rfl
theorem zF208_207 : z_F zT208 207 = f_m_set := id rfl
def zP208_0 : List ZO := [(5, [(3254, 0), (0, 0), (0, 0), (0, 0)]), (2, [(5, 0), (1, 0), (2, 0)])]
def zP208_5 : List ZO := [(3, [(3, 0), (1, 0), (2, 0), (0, 50)]), (0, [(0, (-1))]), (2, [(13, 0), (1, 0), (2, 0), (0, 0)])]
def zP208_13 : List ZO := [(5, [(3247, 0), (0, 0), (0, 0), (0, 0)]), (3, [(3, 0), (2, 0), (3, 0), (4, 0)]), (4, [(0, 0), (2, 0), (0, 1)]), (2, [(5, 0), (1, 0), (5, 0)]), (7, [(206, 0), (1, 0), (3, 0), (2, 0)]), (3, [(0, 0), (2, 0), (5, 0), (0, 0)]), (4, [(0, 0), (3, 0), (0, 1)]), (2, [(13, 0), (1, 0), (2, 0), (6, 0)]), (7, [(207, 0), (1, 0), (3, 0), (2, 0)]), (0, [(6, 0)])]
def zD208 : ZD := [(0, 1, [some (52, (0, 0), (0, 0)), some (0, (1, 0), (0, 0)), none, none], 3, zP208_0), (5, 2, [some (52, (0, 0), (0, 0)), some (0, (1, 0), (0, 0)), some (0, (2, 0), (0, 0)), none], 4, zP208_5), (13, 3, [some (52, (0, 0), (0, 0)), some (0, (1, 0), (0, 0)), some (0, (2, 0), (0, 0)), some (0, (3, 0), (0, 0))], 11, zP208_13)]
theorem zG208 : z_chk zT208 [] 208 zD208 = true := by decide +kernel
noncomputable def g_m_setAnywhere (R : ZR) : ZR := z_psi (z_st (z_F zT208) zD208) R
noncomputable def f_m_setAnywhere : ZFn := fun L S => g_m_setAnywhere ((1000, L), S)
theorem zM208 : z_met 208 1 [(52, (0, 0), (0, 0)), (0, (1, 0), (0, 0))] f_m_setAnywhere := z_met_psi zH208 (fun _ _ h => absurd h List.not_mem_nil) rfl zG208
theorem zE208_0 {x1 : Int} {S : ZS} : z_st (z_F zT208) zD208 0 [x1] S = ((1005, [x1, (S r_m_hour 0 0 0)]), S) := (id rfl : z_st (z_F zT208) zD208 0 [x1] S = z_ev (z_F zT208) 3 zP208_0 [x1] S).trans (id rfl)
theorem g_m_setAnywhere_0 {x1 : Int} {S : ZS} : g_m_setAnywhere ((1000, [x1]), S) = (g_m_setAnywhere ((1005, [x1, (S r_m_hour 0 0 0)]), S)) := by
  unfold g_m_setAnywhere
  refine ((z_psi_go (pc := 0)).trans (congrArg _ zE208_0)).trans ?_
  try simp only [z_psi_c, z_psi_b, z_psi_n, Nat.reduceLT, decide_true]
theorem zE208_5 {x1 x2 : Int} {S : ZS} : z_st (z_F zT208) zD208 5 [x1, x2] S = (bif decide (50 ≤ x2) then ((0, [(-1)]), S) else ((1013, [x1, x2, 0]), S)) := (id rfl : z_st (z_F zT208) zD208 5 [x1, x2] S = z_ev (z_F zT208) 4 zP208_5 [x1, x2] S).trans (id rfl)
theorem g_m_setAnywhere_5 {x1 x2 : Int} {S : ZS} : g_m_setAnywhere ((1005, [x1, x2]), S) = (bif decide (50 ≤ x2) then ((0, [(-1)]), S) else (g_m_setAnywhere ((1013, [x1, x2, 0]), S))) := by
  unfold g_m_setAnywhere
  refine ((z_psi_go (pc := 5)).trans (congrArg _ zE208_5)).trans ?_
  try simp only [z_psi_c, z_psi_b, z_psi_n, Nat.reduceLT, decide_true]
theorem zE208_13 {x1 x2 x3 : Int} {S : ZS} : z_st (z_F zT208) zD208 13 [x1, x2, x3] S = (bif decide ((S r_m_screens 0 0 0) ≤ x3) then ((1005, [x1, (e_wr (x2 + 1))]), S) else (e_bind (f_m_canSet [x1, x3, x2] S) (fun v1 S1 => (bif decide (v1 = 0) then ((1013, [x1, x2, (e_wr (x3 + 1))]), S1) else (e_bind (f_m_set [x1, x3, x2] S1) (fun v2 S2 => ((0, [v2]), S2))))))) := (id rfl : z_st (z_F zT208) zD208 13 [x1, x2, x3] S = z_ev (z_F zT208) 11 zP208_13 [x1, x2, x3] S).trans (id rfl)
theorem g_m_setAnywhere_13 {x1 x2 x3 : Int} {S : ZS} : g_m_setAnywhere ((1013, [x1, x2, x3]), S) = (bif decide ((S r_m_screens 0 0 0) ≤ x3) then (g_m_setAnywhere ((1005, [x1, (e_wr (x2 + 1))]), S)) else (e_bind (f_m_canSet [x1, x3, x2] S) (fun v1 S1 => (bif decide (v1 = 0) then (g_m_setAnywhere ((1013, [x1, x2, (e_wr (x3 + 1))]), S1)) else (e_bind (f_m_set [x1, x3, x2] S1) (fun v2 S2 => ((0, [v2]), S2))))))) := by
  unfold g_m_setAnywhere
  refine ((z_psi_go (pc := 13)).trans (congrArg _ zE208_13)).trans ?_
  try simp only [z_psi_c, z_psi_b, z_psi_n, Nat.reduceLT, decide_true]
def zW208 : List Nat := [r_m_shows, r_m_lineMany, r_m_showFilms, r_m_showScreens, r_m_showHours, r_m_letters, r_m_lineFilms]
theorem zK208 : z_kp 1 zW208 f_m_setAnywhere := fun L S hL hc r i j k hr => z_psi_kp (KT := [(206, 3, zW206), (207, 3, zW207)]) (F := z_F zT208) (W := zW208) (D := zD208) (.c zF208_206 zK206 (.c zF208_207 zK207 .n)) (z_h163 rfl) (by decide +kernel) _ hc r i j k hr

-- m_plan (211)
noncomputable def zT211 : ZT := [(163, 2, [(52, (0, 0), (0, 0)), (0, (1, 0), (0, 0)), (0, (2, 0), (0, 0))], f_m_isThrown), (186, 1, [(52, (0, 0), (0, 0)), (0, (1, 0), (0, 0))], f_m_isNoSection), (208, 1, [(52, (0, 0), (0, 0)), (0, (1, 0), (0, 0))], f_m_setAnywhere), (210, 1, [(52, (0, 0), (0, 0)), (0, (1, 0), (0, 0))], f_m_hasToCome)]
theorem zH211 : z_ok zT211 := .c zM163 (.c zM186 (.c zM208 (.c zM210 .n)))
theorem zF211_163 : z_F zT211 163 = f_m_isThrown := id rfl
theorem zF211_186 : z_F zT211 186 = f_m_isNoSection := id rfl
theorem zF211_208 : z_F zT211 208 = f_m_setAnywhere := id rfl
theorem zF211_210 : z_F zT211 210 = f_m_hasToCome := id rfl
def zP211_0 : List ZO := [(7, [(186, 0), (1, 0)]), (13, [(163, 0), (0, 0), (2, 0), (0, 1)]), (3, [(0, 0), (1, 0), (2, 0), (0, 0)]), (2, [(19, 0), (1, 0), (0, 0), (0, 0)]), (0, [(0, 0)])]
def zP211_19 : List ZO := [(5, [(3244, 0), (0, 0), (0, 0), (0, 0)]), (3, [(3, 0), (7, 0), (3, 0), (4, 0)]), (5, [(3249, 0), (0, 0), (0, 0), (0, 0)]), (4, [(0, 0), (5, 0), (2, 0)]), (3, [(5, 0), (2, 0), (6, 0), (0, 60)]), (13, [(163, 0), (0, 0), (0, 0), (0, 2)]), (2, [(110, 0), (2, 0), (0, 0), (0, 0)]), (13, [(163, 0), (0, 0), (0, 1), (0, 2)]), (0, [(0, 0)]), (5, [(3520, 0), (0, 0), (0, 0), (3, 0)]), (3, [(1, 0), (9, 0), (5, 0), (1, 0)]), (6, [(6912, 0), (1, 0), (0, 0), (0, 0), (3, 0), (0, 0)]), (5, [(6912, 0), (0, 0), (0, 0), (3, 0)]), (3, [(0, 0), (3, 0), (6, 0), (0, 0)]), (4, [(0, 0), (2, 0), (0, 0)]), (4, [(0, 0), (3, 0), (0, 1)]), (2, [(19, 0), (1, 0), (7, 0), (8, 0)]), (4, [(0, 0), (2, 0), (0, 1)]), (4, [(0, 0), (3, 0), (0, 1)]), (2, [(19, 0), (1, 0), (7, 0), (8, 0)]), (7, [(210, 0), (3, 0)]), (3, [(1, 0), (9, 0), (6, 0), (0, 0)]), (6, [(6912, 0), (1, 0), (0, 0), (0, 0), (3, 0), (0, 0)]), (5, [(6912, 0), (0, 0), (0, 0), (3, 0)]), (3, [(0, 0), (3, 0), (7, 0), (0, 0)]), (4, [(0, 0), (2, 0), (0, 0)]), (4, [(0, 0), (3, 0), (0, 1)]), (2, [(19, 0), (1, 0), (8, 0), (9, 0)]), (4, [(0, 0), (2, 0), (0, 1)]), (4, [(0, 0), (3, 0), (0, 1)]), (2, [(19, 0), (1, 0), (8, 0), (9, 0)]), (6, [(6912, 0), (1, 0), (0, 0), (0, 0), (3, 0), (0, 1)]), (5, [(6912, 0), (0, 0), (0, 0), (3, 0)]), (3, [(0, 0), (3, 0), (7, 0), (0, 0)]), (4, [(0, 0), (2, 0), (0, 0)]), (4, [(0, 0), (3, 0), (0, 1)]), (2, [(19, 0), (1, 0), (8, 0), (9, 0)]), (4, [(0, 0), (2, 0), (0, 1)]), (4, [(0, 0), (3, 0), (0, 1)]), (2, [(19, 0), (1, 0), (8, 0), (9, 0)])]
def zP211_110 : List ZO := [(3, [(3, 0), (1, 0), (3, 0), (1, 0)]), (0, [(2, 0)]), (2, [(122, 0), (1, 0), (2, 0), (3, 0), (0, (-1)), (0, 0)])]
def zP211_122 : List ZO := [(5, [(3244, 0), (0, 0), (0, 0), (0, 0)]), (3, [(3, 0), (9, 0), (5, 0), (6, 0)]), (6, [(6912, 0), (1, 0), (0, 0), (0, 0), (4, 0), (0, 0)]), (7, [(208, 0), (4, 0)]), (3, [(3, 0), (3, 0), (7, 0), (0, 0)]), (4, [(0, 0), (2, 0), (0, 1)]), (4, [(0, 0), (3, 0), (0, 1)]), (2, [(110, 0), (1, 0), (8, 0), (9, 0)]), (4, [(0, 0), (2, 0), (0, 0)]), (4, [(0, 0), (3, 0), (0, 1)]), (2, [(110, 0), (1, 0), (8, 0), (9, 0)]), (5, [(6912, 0), (0, 0), (0, 0), (5, 0)]), (3, [(0, 0), (2, 0), (7, 0), (0, 0)]), (4, [(0, 0), (5, 0), (0, 1)]), (2, [(122, 0), (1, 0), (2, 0), (3, 0), (4, 0), (8, 0)]), (3, [(2, 0), (2, 0), (4, 0), (0, 0)]), (4, [(0, 0), (5, 0), (0, 1)]), (2, [(122, 0), (1, 0), (2, 0), (3, 0), (5, 0), (8, 0)]), (5, [(3328, 0), (0, 0), (0, 0), (5, 0)]), (5, [(3328, 0), (0, 0), (0, 0), (4, 0)]), (3, [(5, 0), (2, 0), (8, 0), (9, 0)]), (4, [(0, 0), (5, 0), (0, 1)]), (2, [(122, 0), (1, 0), (2, 0), (3, 0), (4, 0), (10, 0)]), (4, [(0, 0), (5, 0), (0, 1)]), (2, [(122, 0), (1, 0), (2, 0), (3, 0), (5, 0), (10, 0)])]
def zD211 : ZD := [(0, 1, [some (52, (0, 0), (0, 0)), some (0, (1, 0), (0, 0)), none, none, none, none, none], 6, zP211_0), (19, 3, [some (52, (0, 0), (0, 0)), some (0, (1, 0), (0, 0)), some (0, (2, 0), (0, 0)), some (0, (3, 0), (0, 0)), none, none, none], 41, zP211_19), (110, 3, [some (52, (0, 0), (0, 0)), none, some (0, (1, 0), (0, 0)), some (0, (2, 0), (0, 0)), some (0, (3, 0), (0, 0)), none, none], 4, zP211_110), (122, 5, [some (52, (0, 0), (0, 0)), none, some (0, (1, 0), (0, 0)), some (0, (2, 0), (0, 0)), some (0, (3, 0), (0, 0)), some (0, (4, 0), (0, 0)), some (0, (5, 0), (0, 0))], 26, zP211_122)]
theorem zG211 : z_chk zT211 [(163, 0)] 211 zD211 = true := by decide +kernel
noncomputable def g_m_plan (R : ZR) : ZR := z_psi (z_st (z_F zT211) zD211) R
noncomputable def f_m_plan : ZFn := fun L S => g_m_plan ((1000, L), S)
theorem zM211 : z_met 211 1 [(52, (0, 0), (0, 0)), (0, (1, 0), (0, 0))] f_m_plan := z_met_psi zH211 (fun _ _ h => by rw [List.mem_singleton] at h; cases h; exact fun _ _ => rfl) rfl zG211
theorem zE211_0 {x1 : Int} {S : ZS} : z_st (z_F zT211) zD211 0 [x1] S = (bif decide ((v_m_isNoSection x1 S) = 0) then ((1019, [x1, 0, 0]), (e_upd S r_m_thrown 0 0 0 (bif !decide ((v_m_isNoSection x1 S) = 0) then 1 else 0))) else ((0, [0]), (e_upd S r_m_thrown 0 0 0 (bif !decide ((v_m_isNoSection x1 S) = 0) then 1 else 0)))) := (id rfl : z_st (z_F zT211) zD211 0 [x1] S = z_ev (z_F zT211) 6 zP211_0 [x1] S).trans (id rfl)
theorem g_m_plan_0 {x1 : Int} {S : ZS} : g_m_plan ((1000, [x1]), S) = (bif decide ((v_m_isNoSection x1 S) = 0) then (g_m_plan ((1019, [x1, 0, 0]), (e_upd S r_m_thrown 0 0 0 (bif !decide ((v_m_isNoSection x1 S) = 0) then 1 else 0)))) else ((0, [0]), (e_upd S r_m_thrown 0 0 0 (bif !decide ((v_m_isNoSection x1 S) = 0) then 1 else 0)))) := by
  unfold g_m_plan
  refine ((z_psi_go (pc := 0)).trans (congrArg _ zE211_0)).trans ?_
  try simp only [z_psi_c, z_psi_b, z_psi_n, Nat.reduceLT, decide_true]
theorem zE211_19 {x1 x2 x3 : Int} {S : ZS} : z_st (z_F zT211) zD211 19 [x1, x2, x3] S = (bif decide ((S r_m_films 0 0 0) ≤ x3) then (bif decide ((e_wr ((S r_m_shows 0 0 0) + x2)) ≤ 60) then ((1110, [x2, 0, 0]), (e_upd S r_m_thrown 0 0 0 0)) else ((0, [0]), (e_upd S r_m_thrown 0 0 0 2))) else (bif !decide ((S r_m_sections 0 0 x3) = x1) then (bif decide (((e_upd S r_m_areLeft 0 0 x3 (e_nar 1 0)) r_m_areLeft 0 0 x3) = 0) then ((1019, [x1, (e_wr (x2 + 0)), (e_wr (x3 + 1))]), (e_upd S r_m_areLeft 0 0 x3 (e_nar 1 0))) else ((1019, [x1, (e_wr (x2 + 1)), (e_wr (x3 + 1))]), (e_upd S r_m_areLeft 0 0 x3 (e_nar 1 0)))) else (e_bind (f_m_hasToCome [x3] S) (fun v1 S1 => (bif !decide (v1 = 0) then (bif decide (((e_upd S1 r_m_areLeft 0 0 x3 (e_nar 1 0)) r_m_areLeft 0 0 x3) = 0) then ((1019, [x1, (e_wr (x2 + 0)), (e_wr (x3 + 1))]), (e_upd S1 r_m_areLeft 0 0 x3 (e_nar 1 0))) else ((1019, [x1, (e_wr (x2 + 1)), (e_wr (x3 + 1))]), (e_upd S1 r_m_areLeft 0 0 x3 (e_nar 1 0)))) else (bif decide (((e_upd S1 r_m_areLeft 0 0 x3 (e_nar 1 1)) r_m_areLeft 0 0 x3) = 0) then ((1019, [x1, (e_wr (x2 + 0)), (e_wr (x3 + 1))]), (e_upd S1 r_m_areLeft 0 0 x3 (e_nar 1 1))) else ((1019, [x1, (e_wr (x2 + 1)), (e_wr (x3 + 1))]), (e_upd S1 r_m_areLeft 0 0 x3 (e_nar 1 1))))))))) := (id rfl : z_st (z_F zT211) zD211 19 [x1, x2, x3] S = z_ev (z_F zT211) 41 zP211_19 [x1, x2, x3] S).trans (by
  simp -implicitDefEqProofs only [zP211_19, zF211_163, zF211_186, zF211_208, zF211_210, zpI0, zpI1, zpIc, pF_m_isNoSection, Nat.zero_add, Nat.reduceAdd, Nat.reduceBEq, Int.reduceToNat, z_e0, z_e1, z_e2, z_e3, z_e4, z_e5, z_e6, z_e7, z_e8, z_e11, z_e13, o_v0, o_v1, o_v2, List.cons_append, List.nil_append, List.map_cons, List.map_nil, List.drop_succ_cons, List.drop_zero, List.take_succ_cons, List.take_zero, e_c0, e_c1, e_c2, e_c3, e_c4, e_c5, e_b0, e_b1, e_b2, e_b3, e_b4, e_b5, e_b6, e_b7, e_b8, e_b9, e_b10, e_b11, e_b12, e_b13, e_b14, e_b15, e_b16, e_b17, e_n0, e_bnd, e_un]
  try rfl)
theorem g_m_plan_19 {x1 x2 x3 : Int} {S : ZS} : g_m_plan ((1019, [x1, x2, x3]), S) = (bif decide ((S r_m_films 0 0 0) ≤ x3) then (bif decide ((e_wr ((S r_m_shows 0 0 0) + x2)) ≤ 60) then (g_m_plan ((1110, [x2, 0, 0]), (e_upd S r_m_thrown 0 0 0 0))) else ((0, [0]), (e_upd S r_m_thrown 0 0 0 2))) else (bif !decide ((S r_m_sections 0 0 x3) = x1) then (bif decide (((e_upd S r_m_areLeft 0 0 x3 (e_nar 1 0)) r_m_areLeft 0 0 x3) = 0) then (g_m_plan ((1019, [x1, (e_wr (x2 + 0)), (e_wr (x3 + 1))]), (e_upd S r_m_areLeft 0 0 x3 (e_nar 1 0)))) else (g_m_plan ((1019, [x1, (e_wr (x2 + 1)), (e_wr (x3 + 1))]), (e_upd S r_m_areLeft 0 0 x3 (e_nar 1 0))))) else (e_bind (f_m_hasToCome [x3] S) (fun v1 S1 => (bif !decide (v1 = 0) then (bif decide (((e_upd S1 r_m_areLeft 0 0 x3 (e_nar 1 0)) r_m_areLeft 0 0 x3) = 0) then (g_m_plan ((1019, [x1, (e_wr (x2 + 0)), (e_wr (x3 + 1))]), (e_upd S1 r_m_areLeft 0 0 x3 (e_nar 1 0)))) else (g_m_plan ((1019, [x1, (e_wr (x2 + 1)), (e_wr (x3 + 1))]), (e_upd S1 r_m_areLeft 0 0 x3 (e_nar 1 0))))) else (bif decide (((e_upd S1 r_m_areLeft 0 0 x3 (e_nar 1 1)) r_m_areLeft 0 0 x3) = 0) then (g_m_plan ((1019, [x1, (e_wr (x2 + 0)), (e_wr (x3 + 1))]), (e_upd S1 r_m_areLeft 0 0 x3 (e_nar 1 1)))) else (g_m_plan ((1019, [x1, (e_wr (x2 + 1)), (e_wr (x3 + 1))]), (e_upd S1 r_m_areLeft 0 0 x3 (e_nar 1 1)))))))))) := by
  unfold g_m_plan
  refine ((z_psi_go (pc := 19)).trans (congrArg _ zE211_19)).trans ?_
  try simp only [z_psi_c, z_psi_b, z_psi_n, Nat.reduceLT, decide_true]
theorem zE211_110 {x1 x2 x3 : Int} {S : ZS} : z_st (z_F zT211) zD211 110 [x1, x2, x3] S = (bif decide (x1 ≤ x3) then ((0, [x2]), S) else ((1122, [x1, x2, x3, (-1), 0]), S)) := (id rfl : z_st (z_F zT211) zD211 110 [x1, x2, x3] S = z_ev (z_F zT211) 4 zP211_110 [x1, x2, x3] S).trans (id rfl)
theorem g_m_plan_110 {x1 x2 x3 : Int} {S : ZS} : g_m_plan ((1110, [x1, x2, x3]), S) = (bif decide (x1 ≤ x3) then ((0, [x2]), S) else (g_m_plan ((1122, [x1, x2, x3, (-1), 0]), S))) := by
  unfold g_m_plan
  refine ((z_psi_go (pc := 110)).trans (congrArg _ zE211_110)).trans ?_
  try simp only [z_psi_c, z_psi_b, z_psi_n, Nat.reduceLT, decide_true]
theorem zE211_122 {x1 x2 x3 x4 x5 : Int} {S : ZS} : z_st (z_F zT211) zD211 122 [x1, x2, x3, x4, x5] S = (bif decide ((S r_m_films 0 0 0) ≤ x5) then (e_bind (f_m_setAnywhere [x4] (e_upd S r_m_areLeft 0 0 x4 (e_nar 1 0))) (fun v1 S1 => (bif decide (0 ≤ v1) then ((1110, [x1, (e_wr (x2 + 1)), (e_wr (x3 + 1))]), S1) else ((1110, [x1, (e_wr (x2 + 0)), (e_wr (x3 + 1))]), S1)))) else (bif decide ((S r_m_areLeft 0 0 x5) = 0) then ((1122, [x1, x2, x3, x4, (e_wr (x5 + 1))]), S) else (bif decide (x4 < 0) then ((1122, [x1, x2, x3, x5, (e_wr (x5 + 1))]), S) else (bif decide ((S r_m_minutes 0 0 x5) ≤ (S r_m_minutes 0 0 x4)) then ((1122, [x1, x2, x3, x4, (e_wr (x5 + 1))]), S) else ((1122, [x1, x2, x3, x5, (e_wr (x5 + 1))]), S))))) := (id rfl : z_st (z_F zT211) zD211 122 [x1, x2, x3, x4, x5] S = z_ev (z_F zT211) 26 zP211_122 [x1, x2, x3, x4, x5] S).trans (by
  simp -implicitDefEqProofs only [zP211_122, zF211_163, zF211_186, zF211_208, zF211_210, zpI0, zpI1, zpIc, pF_m_isNoSection, Nat.zero_add, Nat.reduceAdd, Nat.reduceBEq, Int.reduceToNat, z_e0, z_e1, z_e2, z_e3, z_e4, z_e5, z_e6, z_e7, z_e8, z_e11, z_e13, o_v0, o_v1, o_v2, List.cons_append, List.nil_append, List.map_cons, List.map_nil, List.drop_succ_cons, List.drop_zero, List.take_succ_cons, List.take_zero, e_c0, e_c1, e_c2, e_c3, e_c4, e_c5, e_b0, e_b1, e_b2, e_b3, e_b4, e_b5, e_b6, e_b7, e_b8, e_b9, e_b10, e_b11, e_b12, e_b13, e_b14, e_b15, e_b16, e_b17, e_n0, e_bnd, e_un]
  try rfl)
theorem g_m_plan_122 {x1 x2 x3 x4 x5 : Int} {S : ZS} : g_m_plan ((1122, [x1, x2, x3, x4, x5]), S) = (bif decide ((S r_m_films 0 0 0) ≤ x5) then (e_bind (f_m_setAnywhere [x4] (e_upd S r_m_areLeft 0 0 x4 (e_nar 1 0))) (fun v1 S1 => (bif decide (0 ≤ v1) then (g_m_plan ((1110, [x1, (e_wr (x2 + 1)), (e_wr (x3 + 1))]), S1)) else (g_m_plan ((1110, [x1, (e_wr (x2 + 0)), (e_wr (x3 + 1))]), S1))))) else (bif decide ((S r_m_areLeft 0 0 x5) = 0) then (g_m_plan ((1122, [x1, x2, x3, x4, (e_wr (x5 + 1))]), S)) else (bif decide (x4 < 0) then (g_m_plan ((1122, [x1, x2, x3, x5, (e_wr (x5 + 1))]), S)) else (bif decide ((S r_m_minutes 0 0 x5) ≤ (S r_m_minutes 0 0 x4)) then (g_m_plan ((1122, [x1, x2, x3, x4, (e_wr (x5 + 1))]), S)) else (g_m_plan ((1122, [x1, x2, x3, x5, (e_wr (x5 + 1))]), S)))))) := by
  unfold g_m_plan
  refine ((z_psi_go (pc := 122)).trans (congrArg _ zE211_122)).trans ?_
  try simp only [z_psi_c, z_psi_b, z_psi_n, Nat.reduceLT, decide_true]
def zW211 : List Nat := [r_m_shows, r_m_lineMany, r_m_thrown, r_m_showFilms, r_m_showScreens, r_m_showHours, r_m_letters, r_m_lineFilms, r_m_areLeft]
theorem zK211 : z_kp 1 zW211 f_m_plan := fun L S hL hc r i j k hr => z_psi_kp (KT := [(163, 2, zW163), (186, 1, zW186), (208, 1, zW208), (210, 1, zW210)]) (F := z_F zT211) (W := zW211) (D := zD211) (.c zF211_163 zK163 (.c zF211_186 zK186 (.c zF211_208 zK208 (.c zF211_210 zK210 .n)))) (fun _ _ => Or.inl rfl) (by decide +kernel) _ hc r i j k hr

-- x_checkShow (148)
def zT148 : ZT := [(142, 2, [(0, (1, 0), (0, 0)), (0, (2, 0), (0, 0))], f_x_checkNumber)]
theorem zH148 : z_ok zT148 := .c zM142 .n
theorem zF148_142 : z_F zT148 142 = f_x_checkNumber := id rfl
def zP148_0 : List ZO := [(5, [(68, 0), (0, 0), (0, 0), (0, 0)]), (7, [(142, 0), (1, 0), (2, 0)]), (0, [])]
def zC148 : ZC := [(0, 1, [some (2, (0, 0), (0, 0)), some (0, (1, 0), (0, 0))])]
theorem zG148 : z_go zC148 (z_A zT148) [] 148 400 true 4 zP148_0 0 [some (2, (0, 0), (0, 0)), some (0, (1, 0), (0, 0))] [] 1 = true := by decide +kernel
def f_x_checkShow : ZFn := fun L S => match L with
  | [x1] => (e_bind (f_x_checkNumber [x1, (S r_Grid_showCount 0 0 0)] S) (fun v1 S1 => ((0, []), S1)))
  | _ => ((0, []), S)
theorem zE148 {x1 : Int} {S : ZS} : z_ev (z_F zT148) 4 zP148_0 [x1] S = f_x_checkShow [x1] S := id rfl
theorem zM148 : z_met 148 1 [(2, (0, 0), (0, 0)), (0, (1, 0), (0, 0))] f_x_checkShow := z_met_ev zH148 (fun _ _ h => absurd h List.not_mem_nil) rfl zG148 (by decide +kernel) (fun L S hn => match L, hn with
  | [x1], _ => zE148)
def zW148 : List Nat := []
theorem zK148 : z_kp 1 zW148 f_x_checkShow := z_kp_ev (KT := [(142, 2, zW142)]) (.c zF148_142 zK142 .n) (z_h163 rfl) (by decide +kernel) (fun L S hn => match L, hn with
  | [x1], _ => zE148)

-- x_of (111)
def zT111 : ZT := [(148, 1, [(2, (0, 0), (0, 0)), (0, (1, 0), (0, 0))], f_x_checkShow)]
theorem zH111 : z_ok zT111 := .c zM148 .n
theorem zF111_148 : z_F zT111 148 = f_x_checkShow := id rfl
def zP111_0 : List ZO := [(7, [(148, 0), (1, 0)]), (3, [(1, 0), (10, 0), (2, 0), (0, 102)]), (3, [(1, 0), (7, 0), (2, 0), (0, 115)]), (3, [(1, 0), (4, 0), (2, 0), (0, 104)]), (3, [(1, 0), (1, 0), (2, 0), (0, 108)]), (1, [(1, 0)]), (5, [(963, 0), (1, 0), (0, 0), (0, 0)]), (0, [(4, 0)]), (5, [(962, 0), (1, 0), (0, 0), (0, 0)]), (0, [(4, 0)]), (5, [(961, 0), (1, 0), (0, 0), (0, 0)]), (0, [(4, 0)]), (5, [(960, 0), (1, 0), (0, 0), (0, 0)]), (0, [(4, 0)])]
def zC111 : ZC := [(0, 2, [some (2, (0, 0), (0, 0)), some (0, (1, 0), (0, 0)), some (0, (2, 0), (0, 0)), none])]
theorem zG111 : z_go zC111 (z_A zT111) [] 111 400 true 15 zP111_0 0 [some (2, (0, 0), (0, 0)), some (0, (1, 0), (0, 0)), some (0, (2, 0), (0, 0)), none] [] 2 = true := by decide +kernel
def f_x_of : ZFn := fun L S => match L with
  | [x1, x2] => (e_bind (f_x_checkShow [x1] S) (fun v1 S1 => (bif !decide (x2 = 102) then (bif !decide (x2 = 115) then (bif !decide (x2 = 104) then (bif !decide (x2 = 108) then ((2, []), S1) else ((0, [(S1 r_Show_length x1 0 0)]), S1)) else ((0, [(S1 r_Show_first x1 0 0)]), S1)) else ((0, [(S1 r_Show_screen x1 0 0)]), S1)) else ((0, [(S1 r_Show_film x1 0 0)]), S1))))
  | _ => ((0, []), S)
theorem zE111 {x1 x2 : Int} {S : ZS} : z_ev (z_F zT111) 15 zP111_0 [x1, x2] S = f_x_of [x1, x2] S := by
  simp -implicitDefEqProofs only [zP111_0, zF111_148, Nat.zero_add, Nat.reduceAdd, Nat.reduceBEq, Int.reduceToNat, z_e0, z_e1, z_e2, z_e3, z_e4, z_e5, z_e6, z_e7, z_e8, z_e11, z_e13, o_v0, o_v1, o_v2, List.cons_append, List.nil_append, List.map_cons, List.map_nil, List.drop_succ_cons, List.drop_zero, List.take_succ_cons, List.take_zero, e_c0, e_c1, e_c2, e_c3, e_c4, e_c5, e_b0, e_b1, e_b2, e_b3, e_b4, e_b5, e_b6, e_b7, e_b8, e_b9, e_b10, e_b11, e_b12, e_b13, e_b14, e_b15, e_b16, e_b17, e_n0, e_bnd, e_un]
  try rfl
theorem zM111 : z_met 111 2 [(2, (0, 0), (0, 0)), (0, (1, 0), (0, 0)), (0, (2, 0), (0, 0))] f_x_of := z_met_ev zH111 (fun _ _ h => absurd h List.not_mem_nil) rfl zG111 (by decide +kernel) (fun L S hn => match L, hn with
  | [x1, x2], _ => zE111)
def zW111 : List Nat := []
theorem zK111 : z_kp 2 zW111 f_x_of := z_kp_ev (KT := [(148, 1, zW148)]) (.c zF111_148 zK148 .n) (z_h163 rfl) (by decide +kernel) (fun L S hn => match L, hn with
  | [x1, x2], _ => zE111)

-- w_of (277)
def zT277 : ZT := [(111, 2, [(2, (0, 0), (0, 0)), (0, (1, 0), (0, 0)), (0, (2, 0), (0, 0))], f_x_of)]
theorem zH277 : z_ok zT277 := .c zM111 .n
theorem zF277_111 : z_F zT277 111 = f_x_of := id rfl
def zP277_0 : List ZO := [(11, [(111, 0), (2, 0), (0, 2), (1, 3), (1, 0), (2, 0)]), (6, [(6976, 0), (0, 0), (0, 0), (0, 0), (0, 0), (3, 0)]), (0, [(0, 0)]), (0, [(0, 1)]), (0, [(0, 2)])]
def zC277 : ZC := [(0, 2, [some (2, (0, 0), (0, 0)), some (0, (1, 0), (0, 0)), some (0, (2, 0), (0, 0)), some (111, (0, 0), (0, 0)), none])]
theorem zG277 : z_go zC277 (z_A zT277) [] 277 400 true 6 zP277_0 0 [some (2, (0, 0), (0, 0)), some (0, (1, 0), (0, 0)), some (0, (2, 0), (0, 0)), some (111, (0, 0), (0, 0)), none] [] 2 = true := by decide +kernel
def f_w_of : ZFn := fun L S => match L with
  | [x1, x2] => (e_try (f_x_of [x1, x2] S) (fun v1 S1 => ((0, [0]), (e_upd S1 r_out 0 0 0 v1))) [(0, 1), (1, 2)])
  | _ => ((0, []), S)
theorem zE277 {x1 x2 : Int} {S : ZS} : z_ev (z_F zT277) 6 zP277_0 [x1, x2] S = f_w_of [x1, x2] S := id rfl
theorem zM277 : z_met 277 2 [(2, (0, 0), (0, 0)), (0, (1, 0), (0, 0)), (0, (2, 0), (0, 0)), (111, (0, 0), (0, 0))] f_w_of := z_met_ev zH277 (fun _ _ h => absurd h List.not_mem_nil) rfl zG277 (by decide +kernel) (fun L S hn => match L, hn with
  | [x1, x2], _ => zE277)
def zW277 : List Nat := [r_out]
theorem zK277 : z_kp 2 zW277 f_w_of := z_kp_ev (KT := [(111, 2, zW111)]) (.c zF277_111 zK111 .n) (z_h163 rfl) (by decide +kernel) (fun L S hn => match L, hn with
  | [x1, x2], _ => zE277)

-- m_isNoShow (212)
def zT212 : ZT := [(164, 3, [(0, (1, 0), (0, 0)), (0, (2, 0), (0, 0)), (0, (3, 0), (0, 0))], f_m_isIn)]
theorem zH212 : z_ok zT212 := .c zM164 .n
theorem zF212_164 : z_F zT212 164 = f_m_isIn := id rfl
def zP212_0 : List ZO := [(5, [(3249, 0), (0, 0), (0, 0), (0, 0)]), (4, [(1, 0), (2, 0), (0, 1)]), (7, [(164, 0), (1, 0), (0, 0), (3, 0)]), (3, [(1, 0), (1, 0), (4, 0), (0, 0)]), (0, [(0, 0)]), (0, [(0, 1)])]
def zC212 : ZC := [(0, 1, [some (52, (0, 0), (0, 0)), some (0, (1, 0), (0, 0))])]
theorem zG212 : z_go zC212 (z_A zT212) [] 212 400 true 7 zP212_0 0 [some (52, (0, 0), (0, 0)), some (0, (1, 0), (0, 0))] [] 1 = true := by decide +kernel
def v_m_isNoShow (x1 : Int) (S : ZS) : Int := (bif !decide ((v_m_isIn x1 0 (e_wr ((S r_m_shows 0 0 0) - 1)) S) = 0) then 0 else 1)
def f_m_isNoShow : ZFn := fun L S => match L with
  | [x1] => ((0, [v_m_isNoShow x1 S]), S)
  | _ => ((0, []), S)
theorem pF_m_isNoShow {x1 : Int} {S : ZS} : f_m_isNoShow [x1] S = ((0, [v_m_isNoShow x1 S]), S) := id rfl
theorem zE212a {x1 : Int} {S : ZS} : z_ev (z_F zT212) 7 zP212_0 [x1] S = (bif !decide ((v_m_isIn x1 0 (e_wr ((S r_m_shows 0 0 0) - 1)) S) = 0) then ((0, [0]), S) else ((0, [1]), S)) := id rfl
theorem zE212 {x1 : Int} {S : ZS} : z_ev (z_F zT212) 7 zP212_0 [x1] S = f_m_isNoShow [x1] S := zE212a.trans (by
  simp only [z_cv]
  rfl)
theorem zM212 : z_met 212 1 [(52, (0, 0), (0, 0)), (0, (1, 0), (0, 0))] f_m_isNoShow := z_met_ev zH212 (fun _ _ h => absurd h List.not_mem_nil) rfl zG212 (by decide +kernel) (fun L S hn => match L, hn with
  | [x1], _ => zE212)
def zW212 : List Nat := []
theorem zK212 : z_kp 1 zW212 f_m_isNoShow := z_kp_ev (KT := [(164, 3, zW164)]) (.c zF212_164 zK164 .n) (z_h163 rfl) (by decide +kernel) (fun L S hn => match L, hn with
  | [x1], _ => zE212)

-- m_of (213)
def zT213 : ZT := [(163, 2, [(52, (0, 0), (0, 0)), (0, (1, 0), (0, 0)), (0, (2, 0), (0, 0))], f_m_isThrown), (202, 1, [(52, (0, 0), (0, 0)), (0, (1, 0), (0, 0))], f_m_lengthOf), (212, 1, [(52, (0, 0), (0, 0)), (0, (1, 0), (0, 0))], f_m_isNoShow)]
theorem zH213 : z_ok zT213 := .c zM163 (.c zM202 (.c zM212 .n))
theorem zF213_163 : z_F zT213 163 = f_m_isThrown := id rfl
theorem zF213_202 : z_F zT213 202 = f_m_lengthOf := id rfl
theorem zF213_212 : z_F zT213 212 = f_m_isNoShow := id rfl
def zP213_0 : List ZO := [(7, [(212, 0), (1, 0)]), (13, [(163, 0), (0, 0), (3, 0), (0, 1)]), (3, [(1, 0), (1, 0), (3, 0), (0, 0)]), (0, [(0, 0)]), (3, [(0, 0), (13, 0), (2, 0), (0, 102)]), (13, [(163, 0), (0, 0), (0, 0), (0, 2)]), (3, [(1, 0), (9, 0), (2, 0), (0, 102)]), (3, [(1, 0), (6, 0), (2, 0), (0, 115)]), (3, [(1, 0), (3, 0), (2, 0), (0, 104)]), (5, [(4928, 0), (0, 0), (0, 0), (1, 0)]), (7, [(202, 0), (4, 0)]), (0, [(5, 0)]), (5, [(5056, 0), (0, 0), (0, 0), (1, 0)]), (0, [(4, 0)]), (5, [(4992, 0), (0, 0), (0, 0), (1, 0)]), (0, [(4, 0)]), (5, [(4928, 0), (0, 0), (0, 0), (1, 0)]), (0, [(4, 0)]), (3, [(0, 0), (13, 0), (2, 0), (0, 115)]), (13, [(163, 0), (0, 0), (0, 0), (0, 2)]), (3, [(1, 0), (9, 0), (2, 0), (0, 102)]), (3, [(1, 0), (6, 0), (2, 0), (0, 115)]), (3, [(1, 0), (3, 0), (2, 0), (0, 104)]), (5, [(4928, 0), (0, 0), (0, 0), (1, 0)]), (7, [(202, 0), (4, 0)]), (0, [(5, 0)]), (5, [(5056, 0), (0, 0), (0, 0), (1, 0)]), (0, [(4, 0)]), (5, [(4992, 0), (0, 0), (0, 0), (1, 0)]), (0, [(4, 0)]), (5, [(4928, 0), (0, 0), (0, 0), (1, 0)]), (0, [(4, 0)]), (3, [(0, 0), (13, 0), (2, 0), (0, 104)]), (13, [(163, 0), (0, 0), (0, 0), (0, 2)]), (3, [(1, 0), (9, 0), (2, 0), (0, 102)]), (3, [(1, 0), (6, 0), (2, 0), (0, 115)]), (3, [(1, 0), (3, 0), (2, 0), (0, 104)]), (5, [(4928, 0), (0, 0), (0, 0), (1, 0)]), (7, [(202, 0), (4, 0)]), (0, [(5, 0)]), (5, [(5056, 0), (0, 0), (0, 0), (1, 0)]), (0, [(4, 0)]), (5, [(4992, 0), (0, 0), (0, 0), (1, 0)]), (0, [(4, 0)]), (5, [(4928, 0), (0, 0), (0, 0), (1, 0)]), (0, [(4, 0)]), (3, [(0, 0), (13, 0), (2, 0), (0, 108)]), (13, [(163, 0), (0, 0), (0, 0), (0, 2)]), (3, [(1, 0), (9, 0), (2, 0), (0, 102)]), (3, [(1, 0), (6, 0), (2, 0), (0, 115)]), (3, [(1, 0), (3, 0), (2, 0), (0, 104)]), (5, [(4928, 0), (0, 0), (0, 0), (1, 0)]), (7, [(202, 0), (4, 0)]), (0, [(5, 0)]), (5, [(5056, 0), (0, 0), (0, 0), (1, 0)]), (0, [(4, 0)]), (5, [(4992, 0), (0, 0), (0, 0), (1, 0)]), (0, [(4, 0)]), (5, [(4928, 0), (0, 0), (0, 0), (1, 0)]), (0, [(4, 0)]), (13, [(163, 0), (0, 0), (0, 1), (0, 2)]), (0, [(0, 0)])]
def zC213 : ZC := [(0, 2, [some (52, (0, 0), (0, 0)), some (0, (1, 0), (0, 0)), some (0, (2, 0), (0, 0))])]
theorem zG213 : z_go zC213 (z_A zT213) [(163, 0)] 213 400 true 63 zP213_0 0 [some (52, (0, 0), (0, 0)), some (0, (1, 0), (0, 0)), some (0, (2, 0), (0, 0))] [] 2 = true := by decide +kernel
def f_m_of : ZFn := fun L S => match L with
  | [x1, x2] => (bif !decide ((v_m_isNoShow x1 S) = 0) then ((0, [0]), (e_upd S r_m_thrown 0 0 0 (bif !decide ((v_m_isNoShow x1 S) = 0) then 1 else 0))) else (bif decide (x2 = 102) then (bif !decide (x2 = 102) then (bif !decide (x2 = 115) then (bif !decide (x2 = 104) then ((0, [(v_m_lengthOf (S r_m_showFilms 0 0 x1) (e_upd (e_upd S r_m_thrown 0 0 0 (bif !decide ((v_m_isNoShow x1 S) = 0) then 1 else 0)) r_m_thrown 0 0 0 0))]), (e_upd (e_upd S r_m_thrown 0 0 0 (bif !decide ((v_m_isNoShow x1 S) = 0) then 1 else 0)) r_m_thrown 0 0 0 0)) else ((0, [(S r_m_showHours 0 0 x1)]), (e_upd (e_upd S r_m_thrown 0 0 0 (bif !decide ((v_m_isNoShow x1 S) = 0) then 1 else 0)) r_m_thrown 0 0 0 0))) else ((0, [(S r_m_showScreens 0 0 x1)]), (e_upd (e_upd S r_m_thrown 0 0 0 (bif !decide ((v_m_isNoShow x1 S) = 0) then 1 else 0)) r_m_thrown 0 0 0 0))) else ((0, [(S r_m_showFilms 0 0 x1)]), (e_upd (e_upd S r_m_thrown 0 0 0 (bif !decide ((v_m_isNoShow x1 S) = 0) then 1 else 0)) r_m_thrown 0 0 0 0))) else (bif decide (x2 = 115) then (bif !decide (x2 = 102) then (bif !decide (x2 = 115) then (bif !decide (x2 = 104) then ((0, [(v_m_lengthOf (S r_m_showFilms 0 0 x1) (e_upd (e_upd S r_m_thrown 0 0 0 (bif !decide ((v_m_isNoShow x1 S) = 0) then 1 else 0)) r_m_thrown 0 0 0 0))]), (e_upd (e_upd S r_m_thrown 0 0 0 (bif !decide ((v_m_isNoShow x1 S) = 0) then 1 else 0)) r_m_thrown 0 0 0 0)) else ((0, [(S r_m_showHours 0 0 x1)]), (e_upd (e_upd S r_m_thrown 0 0 0 (bif !decide ((v_m_isNoShow x1 S) = 0) then 1 else 0)) r_m_thrown 0 0 0 0))) else ((0, [(S r_m_showScreens 0 0 x1)]), (e_upd (e_upd S r_m_thrown 0 0 0 (bif !decide ((v_m_isNoShow x1 S) = 0) then 1 else 0)) r_m_thrown 0 0 0 0))) else ((0, [(S r_m_showFilms 0 0 x1)]), (e_upd (e_upd S r_m_thrown 0 0 0 (bif !decide ((v_m_isNoShow x1 S) = 0) then 1 else 0)) r_m_thrown 0 0 0 0))) else (bif decide (x2 = 104) then (bif !decide (x2 = 102) then (bif !decide (x2 = 115) then (bif !decide (x2 = 104) then ((0, [(v_m_lengthOf (S r_m_showFilms 0 0 x1) (e_upd (e_upd S r_m_thrown 0 0 0 (bif !decide ((v_m_isNoShow x1 S) = 0) then 1 else 0)) r_m_thrown 0 0 0 0))]), (e_upd (e_upd S r_m_thrown 0 0 0 (bif !decide ((v_m_isNoShow x1 S) = 0) then 1 else 0)) r_m_thrown 0 0 0 0)) else ((0, [(S r_m_showHours 0 0 x1)]), (e_upd (e_upd S r_m_thrown 0 0 0 (bif !decide ((v_m_isNoShow x1 S) = 0) then 1 else 0)) r_m_thrown 0 0 0 0))) else ((0, [(S r_m_showScreens 0 0 x1)]), (e_upd (e_upd S r_m_thrown 0 0 0 (bif !decide ((v_m_isNoShow x1 S) = 0) then 1 else 0)) r_m_thrown 0 0 0 0))) else ((0, [(S r_m_showFilms 0 0 x1)]), (e_upd (e_upd S r_m_thrown 0 0 0 (bif !decide ((v_m_isNoShow x1 S) = 0) then 1 else 0)) r_m_thrown 0 0 0 0))) else (bif decide (x2 = 108) then (bif !decide (x2 = 102) then (bif !decide (x2 = 115) then (bif !decide (x2 = 104) then ((0, [(v_m_lengthOf (S r_m_showFilms 0 0 x1) (e_upd (e_upd S r_m_thrown 0 0 0 (bif !decide ((v_m_isNoShow x1 S) = 0) then 1 else 0)) r_m_thrown 0 0 0 0))]), (e_upd (e_upd S r_m_thrown 0 0 0 (bif !decide ((v_m_isNoShow x1 S) = 0) then 1 else 0)) r_m_thrown 0 0 0 0)) else ((0, [(S r_m_showHours 0 0 x1)]), (e_upd (e_upd S r_m_thrown 0 0 0 (bif !decide ((v_m_isNoShow x1 S) = 0) then 1 else 0)) r_m_thrown 0 0 0 0))) else ((0, [(S r_m_showScreens 0 0 x1)]), (e_upd (e_upd S r_m_thrown 0 0 0 (bif !decide ((v_m_isNoShow x1 S) = 0) then 1 else 0)) r_m_thrown 0 0 0 0))) else ((0, [(S r_m_showFilms 0 0 x1)]), (e_upd (e_upd S r_m_thrown 0 0 0 (bif !decide ((v_m_isNoShow x1 S) = 0) then 1 else 0)) r_m_thrown 0 0 0 0))) else ((0, [0]), (e_upd (e_upd S r_m_thrown 0 0 0 (bif !decide ((v_m_isNoShow x1 S) = 0) then 1 else 0)) r_m_thrown 0 0 0 2)))))))
  | _ => ((0, []), S)
theorem zE213 {x1 x2 : Int} {S : ZS} : z_ev (z_F zT213) 63 zP213_0 [x1, x2] S = f_m_of [x1, x2] S := by
  simp -implicitDefEqProofs only [zP213_0, zF213_163, zF213_202, zF213_212, zpI0, zpI1, zpIc, pF_m_lengthOf, pF_m_isNoShow, Nat.zero_add, Nat.reduceAdd, Nat.reduceBEq, Int.reduceToNat, z_e0, z_e1, z_e2, z_e3, z_e4, z_e5, z_e6, z_e7, z_e8, z_e11, z_e13, o_v0, o_v1, o_v2, List.cons_append, List.nil_append, List.map_cons, List.map_nil, List.drop_succ_cons, List.drop_zero, List.take_succ_cons, List.take_zero, e_c0, e_c1, e_c2, e_c3, e_c4, e_c5, e_b0, e_b1, e_b2, e_b3, e_b4, e_b5, e_b6, e_b7, e_b8, e_b9, e_b10, e_b11, e_b12, e_b13, e_b14, e_b15, e_b16, e_b17, e_n0, e_bnd, e_un]
  try rfl
theorem zM213 : z_met 213 2 [(52, (0, 0), (0, 0)), (0, (1, 0), (0, 0)), (0, (2, 0), (0, 0))] f_m_of := z_met_ev zH213 (fun _ _ h => by rw [List.mem_singleton] at h; cases h; exact fun _ _ => rfl) rfl zG213 (by decide +kernel) (fun L S hn => match L, hn with
  | [x1, x2], _ => zE213)
def zW213 : List Nat := [r_m_thrown]
theorem zK213 : z_kp 2 zW213 f_m_of := z_kp_ev (KT := [(163, 2, zW163), (202, 1, zW202), (212, 1, zW212)]) (.c zF213_163 zK163 (.c zF213_202 zK202 (.c zF213_212 zK212 .n))) (fun _ _ => Or.inl rfl) (by decide +kernel) (fun L S hn => match L, hn with
  | [x1, x2], _ => zE213)

-- x_state (112)
def zT112 : ZT := [(31, 1, [(3, (0, 0), (0, 0)), (17, (1, 0), (0, 0))], f_Grid_stateOf), (148, 1, [(2, (0, 0), (0, 0)), (0, (1, 0), (0, 0))], f_x_checkShow)]
theorem zH112 : z_ok zT112 := .c zM31 (.c zM148 .n)
theorem zF112_31 : z_F zT112 31 = f_Grid_stateOf := id rfl
theorem zF112_148 : z_F zT112 148 = f_x_checkShow := id rfl
def zP112_0 : List ZO := [(7, [(148, 0), (1, 0)]), (7, [(31, 0), (1, 0)]), (0, [(3, 0)])]
def zC112 : ZC := [(0, 1, [some (2, (0, 0), (0, 0)), some (0, (1, 0), (0, 0))])]
theorem zG112 : z_go zC112 (z_A zT112) [] 112 400 true 4 zP112_0 0 [some (2, (0, 0), (0, 0)), some (0, (1, 0), (0, 0))] [] 1 = true := by decide +kernel
def f_x_state : ZFn := fun L S => match L with
  | [x1] => (e_bind (f_x_checkShow [x1] S) (fun v1 S1 => ((0, [(v_Grid_stateOf x1 S1)]), S1)))
  | _ => ((0, []), S)
theorem zE112 {x1 : Int} {S : ZS} : z_ev (z_F zT112) 4 zP112_0 [x1] S = f_x_state [x1] S := id rfl
theorem zM112 : z_met 112 1 [(2, (0, 0), (0, 0)), (0, (1, 0), (0, 0))] f_x_state := z_met_ev zH112 (fun _ _ h => absurd h List.not_mem_nil) rfl zG112 (by decide +kernel) (fun L S hn => match L, hn with
  | [x1], _ => zE112)
def zW112 : List Nat := []
theorem zK112 : z_kp 1 zW112 f_x_state := z_kp_ev (KT := [(31, 1, zW31), (148, 1, zW148)]) (.c zF112_31 zK31 (.c zF112_148 zK148 .n)) (z_h163 rfl) (by decide +kernel) (fun L S hn => match L, hn with
  | [x1], _ => zE112)

-- w_state (278)
def zT278 : ZT := [(112, 1, [(2, (0, 0), (0, 0)), (0, (1, 0), (0, 0))], f_x_state)]
theorem zH278 : z_ok zT278 := .c zM112 .n
theorem zF278_112 : z_F zT278 112 = f_x_state := id rfl
def zP278_0 : List ZO := [(11, [(112, 0), (1, 0), (0, 2), (1, 0)]), (6, [(6976, 0), (0, 0), (0, 0), (0, 0), (0, 0), (2, 0)]), (0, [(0, 0)]), (0, [(0, 1)])]
def zC278 : ZC := [(0, 1, [some (2, (0, 0), (0, 0)), some (0, (1, 0), (0, 0)), some (111, (0, 0), (0, 0)), none])]
theorem zG278 : z_go zC278 (z_A zT278) [] 278 400 true 5 zP278_0 0 [some (2, (0, 0), (0, 0)), some (0, (1, 0), (0, 0)), some (111, (0, 0), (0, 0)), none] [] 1 = true := by decide +kernel
def f_w_state : ZFn := fun L S => match L with
  | [x1] => (e_try (f_x_state [x1] S) (fun v1 S1 => ((0, [0]), (e_upd S1 r_out 0 0 0 v1))) [(0, 1)])
  | _ => ((0, []), S)
theorem zE278 {x1 : Int} {S : ZS} : z_ev (z_F zT278) 5 zP278_0 [x1] S = f_w_state [x1] S := id rfl
theorem zM278 : z_met 278 1 [(2, (0, 0), (0, 0)), (0, (1, 0), (0, 0)), (111, (0, 0), (0, 0))] f_w_state := z_met_ev zH278 (fun _ _ h => absurd h List.not_mem_nil) rfl zG278 (by decide +kernel) (fun L S hn => match L, hn with
  | [x1], _ => zE278)
def zW278 : List Nat := [r_out]
theorem zK278 : z_kp 1 zW278 f_w_state := z_kp_ev (KT := [(112, 1, zW112)]) (.c zF278_112 zK112 .n) (z_h163 rfl) (by decide +kernel) (fun L S hn => match L, hn with
  | [x1], _ => zE278)
