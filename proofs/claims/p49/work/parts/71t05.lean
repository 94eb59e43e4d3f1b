/-! What the methods do, by program (wip/s/sgen.py), 5 -/
-- m_state (214)
def zT214 : ZT := [(163, 2, [(52, (0, 0), (0, 0)), (0, (1, 0), (0, 0)), (0, (2, 0), (0, 0))], f_m_isThrown), (204, 1, [(52, (0, 0), (0, 0)), (0, (1, 0), (0, 0))], f_m_stateOf), (212, 1, [(52, (0, 0), (0, 0)), (0, (1, 0), (0, 0))], f_m_isNoShow)]
theorem zH214 : z_ok zT214 := .c zM163 (.c zM204 (.c zM212 .n))
theorem zF214_163 : z_F zT214 163 = f_m_isThrown := id rfl
theorem zF214_204 : z_F zT214 204 = f_m_stateOf := id rfl
theorem zF214_212 : z_F zT214 212 = f_m_isNoShow := id rfl
def zP214_0 : List ZO := [(7, [(212, 0), (1, 0)]), (13, [(163, 0), (0, 0), (2, 0), (0, 1)]), (3, [(0, 0), (2, 0), (2, 0), (0, 0)]), (7, [(204, 0), (1, 0)]), (0, [(3, 0)]), (0, [(0, 32)])]
def zC214 : ZC := [(0, 1, [some (52, (0, 0), (0, 0)), some (0, (1, 0), (0, 0))])]
theorem zG214 : z_go zC214 (z_A zT214) [(163, 0)] 214 400 true 7 zP214_0 0 [some (52, (0, 0), (0, 0)), some (0, (1, 0), (0, 0))] [] 1 = true := by decide +kernel
def f_m_state : ZFn := fun L S => match L with
  | [x1] => (bif decide ((v_m_isNoShow x1 S) = 0) then ((0, [(v_m_stateOf x1 (e_upd S r_m_thrown 0 0 0 (bif !decide ((v_m_isNoShow x1 S) = 0) then 1 else 0)))]), (e_upd S r_m_thrown 0 0 0 (bif !decide ((v_m_isNoShow x1 S) = 0) then 1 else 0))) else ((0, [32]), (e_upd S r_m_thrown 0 0 0 (bif !decide ((v_m_isNoShow x1 S) = 0) then 1 else 0))))
  | _ => ((0, []), S)
theorem zE214 {x1 : Int} {S : ZS} : z_ev (z_F zT214) 7 zP214_0 [x1] S = f_m_state [x1] S := id rfl
theorem zM214 : z_met 214 1 [(52, (0, 0), (0, 0)), (0, (1, 0), (0, 0))] f_m_state := z_met_ev zH214 (fun _ _ h => by rw [List.mem_singleton] at h; cases h; exact fun _ _ => rfl) rfl zG214 (by decide +kernel) (fun L S hn => match L, hn with
  | [x1], _ => zE214)
def zW214 : List Nat := [r_m_thrown]
theorem zK214 : z_kp 1 zW214 f_m_state := z_kp_ev (KT := [(163, 2, zW163), (204, 1, zW204), (212, 1, zW212)]) (.c zF214_163 zK163 (.c zF214_204 zK204 (.c zF214_212 zK212 .n))) (fun _ _ => Or.inl rfl) (by decide +kernel) (fun L S hn => match L, hn with
  | [x1], _ => zE214)

-- Grid_showOn (38)
def zT38 : ZT := [(81, 3, [(17, (1, 0), (0, 0)), (0, (2, 0), (0, 0)), (0, (3, 0), (0, 0))], f_Show_standsIn)]
theorem zH38 : z_ok zT38 := .c zM81 .n
theorem zF38_81 : z_F zT38 81 = f_Show_standsIn := id rfl
def zP38_0 : List ZO := [(2, [(2, 0), (1, 0), (2, 0), (0, 0)])]
def zP38_2 : List ZO := [(5, [(68, 0), (0, 0), (0, 0), (0, 0)]), (3, [(3, 0), (1, 0), (3, 0), (4, 0)]), (0, [(0, (-1))]), (5, [(961, 0), (3, 0), (0, 0), (0, 0)]), (3, [(1, 0), (2, 0), (5, 0), (1, 0)]), (4, [(0, 0), (3, 0), (0, 1)]), (2, [(2, 0), (1, 0), (2, 0), (6, 0)]), (7, [(81, 0), (3, 0), (2, 0), (0, 1)]), (3, [(0, 0), (2, 0), (6, 0), (0, 0)]), (4, [(0, 0), (3, 0), (0, 1)]), (2, [(2, 0), (1, 0), (2, 0), (7, 0)]), (0, [(3, 0)])]
def zD38 : ZD := [(0, 2, [some (3, (0, 0), (0, 0)), some (0, (1, 0), (0, 0)), some (0, (2, 0), (0, 0)), none], 2, zP38_0), (2, 3, [some (3, (0, 0), (0, 0)), some (0, (1, 0), (0, 0)), some (0, (2, 0), (0, 0)), some (0, (3, 0), (0, 0))], 13, zP38_2)]
theorem zG38 : z_chk zT38 [] 38 zD38 = true := by decide +kernel
noncomputable def g_Grid_showOn (R : ZR) : ZR := z_psi (z_st (z_F zT38) zD38) R
noncomputable def f_Grid_showOn : ZFn := fun L S => g_Grid_showOn ((1000, L), S)
theorem zM38 : z_met 38 2 [(3, (0, 0), (0, 0)), (0, (1, 0), (0, 0)), (0, (2, 0), (0, 0))] f_Grid_showOn := z_met_psi zH38 (fun _ _ h => absurd h List.not_mem_nil) rfl zG38
theorem zE38_0 {x1 x2 : Int} {S : ZS} : z_st (z_F zT38) zD38 0 [x1, x2] S = ((1002, [x1, x2, 0]), S) := (id rfl : z_st (z_F zT38) zD38 0 [x1, x2] S = z_ev (z_F zT38) 2 zP38_0 [x1, x2] S).trans (id rfl)
theorem g_Grid_showOn_0 {x1 x2 : Int} {S : ZS} : g_Grid_showOn ((1000, [x1, x2]), S) = (g_Grid_showOn ((1002, [x1, x2, 0]), S)) := by
  unfold g_Grid_showOn
  refine ((z_psi_go (pc := 0)).trans (congrArg _ zE38_0)).trans ?_
  try simp only [z_psi_c, z_psi_b, z_psi_n, Nat.reduceLT, decide_true]
theorem zE38_2 {x1 x2 x3 : Int} {S : ZS} : z_st (z_F zT38) zD38 2 [x1, x2, x3] S = (bif decide ((S r_Grid_showCount 0 0 0) ≤ x3) then ((0, [(-1)]), S) else (bif !decide ((S r_Show_screen x3 0 0) = x1) then ((1002, [x1, x2, (e_wr (x3 + 1))]), S) else (bif decide ((v_Show_standsIn x3 x2 1 S) = 0) then ((1002, [x1, x2, (e_wr (x3 + 1))]), S) else ((0, [x3]), S)))) := (id rfl : z_st (z_F zT38) zD38 2 [x1, x2, x3] S = z_ev (z_F zT38) 13 zP38_2 [x1, x2, x3] S).trans (id rfl)
theorem g_Grid_showOn_2 {x1 x2 x3 : Int} {S : ZS} : g_Grid_showOn ((1002, [x1, x2, x3]), S) = (bif decide ((S r_Grid_showCount 0 0 0) ≤ x3) then ((0, [(-1)]), S) else (bif !decide ((S r_Show_screen x3 0 0) = x1) then (g_Grid_showOn ((1002, [x1, x2, (e_wr (x3 + 1))]), S)) else (bif decide ((v_Show_standsIn x3 x2 1 S) = 0) then (g_Grid_showOn ((1002, [x1, x2, (e_wr (x3 + 1))]), S)) else ((0, [x3]), S)))) := by
  unfold g_Grid_showOn
  refine ((z_psi_go (pc := 2)).trans (congrArg _ zE38_2)).trans ?_
  try simp only [z_psi_c, z_psi_b, z_psi_n, Nat.reduceLT, decide_true]
def zW38 : List Nat := []
theorem zK38 : z_kp 2 zW38 f_Grid_showOn := fun L S hL hc r i j k hr => z_psi_kp (KT := [(81, 3, zW81)]) (F := z_F zT38) (W := zW38) (D := zD38) (.c zF38_81 zK81 .n) (z_h163 rfl) (by decide +kernel) _ hc r i j k hr

-- x_at (113)
noncomputable def zT113 : ZT := [(38, 2, [(3, (0, 0), (0, 0)), (0, (1, 0), (0, 0)), (0, (2, 0), (0, 0))], f_Grid_showOn), (147, 1, [(2, (0, 0), (0, 0)), (0, (1, 0), (0, 0))], f_x_checkScreen), (150, 1, [(2, (0, 0), (0, 0)), (0, (1, 0), (0, 0))], f_x_checkHour)]
theorem zH113 : z_ok zT113 := .c zM38 (.c zM147 (.c zM150 .n))
theorem zF113_38 : z_F zT113 38 = f_Grid_showOn := id rfl
theorem zF113_147 : z_F zT113 147 = f_x_checkScreen := id rfl
theorem zF113_150 : z_F zT113 150 = f_x_checkHour := id rfl
def zP113_0 : List ZO := [(7, [(147, 0), (1, 0)]), (7, [(150, 0), (2, 0)]), (7, [(38, 0), (1, 0), (2, 0)]), (3, [(1, 0), (1, 0), (5, 0), (0, (-1))]), (0, [(5, 0)]), (1, [(4, 0)])]
def zC113 : ZC := [(0, 2, [some (2, (0, 0), (0, 0)), some (0, (1, 0), (0, 0)), some (0, (2, 0), (0, 0)), none])]
theorem zG113 : z_go zC113 (z_A zT113) [] 113 400 true 7 zP113_0 0 [some (2, (0, 0), (0, 0)), some (0, (1, 0), (0, 0)), some (0, (2, 0), (0, 0)), none] [] 2 = true := by decide +kernel
noncomputable def f_x_at : ZFn := fun L S => match L with
  | [x1, x2] => (e_bind (f_x_checkScreen [x1] S) (fun v1 S1 => (e_bind (f_x_checkHour [x2] S1) (fun v2 S2 => (e_bind (f_Grid_showOn [x1, x2] S2) (fun v3 S3 => (bif !decide (v3 = (-1)) then ((0, [v3]), S3) else ((5, []), S3))))))))
  | _ => ((0, []), S)
theorem zE113 {x1 x2 : Int} {S : ZS} : z_ev (z_F zT113) 7 zP113_0 [x1, x2] S = f_x_at [x1, x2] S := id rfl
theorem zM113 : z_met 113 2 [(2, (0, 0), (0, 0)), (0, (1, 0), (0, 0)), (0, (2, 0), (0, 0))] f_x_at := z_met_ev zH113 (fun _ _ h => absurd h List.not_mem_nil) rfl zG113 (by decide +kernel) (fun L S hn => match L, hn with
  | [x1, x2], _ => zE113)
def zW113 : List Nat := []
theorem zK113 : z_kp 2 zW113 f_x_at := z_kp_ev (KT := [(38, 2, zW38), (147, 1, zW147), (150, 1, zW150)]) (.c zF113_38 zK38 (.c zF113_147 zK147 (.c zF113_150 zK150 .n))) (z_h163 rfl) (by decide +kernel) (fun L S hn => match L, hn with
  | [x1, x2], _ => zE113)

-- w_at (279)
noncomputable def zT279 : ZT := [(113, 2, [(2, (0, 0), (0, 0)), (0, (1, 0), (0, 0)), (0, (2, 0), (0, 0))], f_x_at)]
theorem zH279 : z_ok zT279 := .c zM113 .n
theorem zF279_113 : z_F zT279 113 = f_x_at := id rfl
def zP279_0 : List ZO := [(11, [(113, 0), (3, 0), (0, 2), (1, 3), (4, 4), (1, 0), (2, 0)]), (6, [(6976, 0), (0, 0), (0, 0), (0, 0), (0, 0), (3, 0)]), (0, [(0, 0)]), (0, [(0, 1)]), (0, [(0, 2)]), (0, [(0, 3)])]
def zC279 : ZC := [(0, 2, [some (2, (0, 0), (0, 0)), some (0, (1, 0), (0, 0)), some (0, (2, 0), (0, 0)), some (111, (0, 0), (0, 0)), none])]
theorem zG279 : z_go zC279 (z_A zT279) [] 279 400 true 7 zP279_0 0 [some (2, (0, 0), (0, 0)), some (0, (1, 0), (0, 0)), some (0, (2, 0), (0, 0)), some (111, (0, 0), (0, 0)), none] [] 2 = true := by decide +kernel
noncomputable def f_w_at : ZFn := fun L S => match L with
  | [x1, x2] => (e_try (f_x_at [x1, x2] S) (fun v1 S1 => ((0, [0]), (e_upd S1 r_out 0 0 0 v1))) [(0, 1), (1, 2), (4, 3)])
  | _ => ((0, []), S)
theorem zE279 {x1 x2 : Int} {S : ZS} : z_ev (z_F zT279) 7 zP279_0 [x1, x2] S = f_w_at [x1, x2] S := id rfl
theorem zM279 : z_met 279 2 [(2, (0, 0), (0, 0)), (0, (1, 0), (0, 0)), (0, (2, 0), (0, 0)), (111, (0, 0), (0, 0))] f_w_at := z_met_ev zH279 (fun _ _ h => absurd h List.not_mem_nil) rfl zG279 (by decide +kernel) (fun L S hn => match L, hn with
  | [x1, x2], _ => zE279)
def zW279 : List Nat := [r_out]
theorem zK279 : z_kp 2 zW279 f_w_at := z_kp_ev (KT := [(113, 2, zW113)]) (.c zF279_113 zK113 .n) (z_h163 rfl) (by decide +kernel) (fun L S hn => match L, hn with
  | [x1, x2], _ => zE279)

-- m_at (215)
def zT215 : ZT := [(163, 2, [(52, (0, 0), (0, 0)), (0, (1, 0), (0, 0)), (0, (2, 0), (0, 0))], f_m_isThrown), (196, 1, [(52, (0, 0), (0, 0)), (0, (1, 0), (0, 0))], f_m_isNoScreen), (197, 1, [(0, (1, 0), (0, 0))], f_m_isHour), (205, 2, [(52, (0, 0), (0, 0)), (0, (1, 0), (0, 0)), (0, (2, 0), (0, 0))], f_m_hasHour)]
theorem zH215 : z_ok zT215 := .c zM163 (.c zM196 (.c zM197 (.c zM205 .n)))
theorem zF215_163 : z_F zT215 163 = f_m_isThrown := id rfl
theorem zF215_196 : z_F zT215 196 = f_m_isNoScreen := id rfl
theorem zF215_197 : z_F zT215 197 = f_m_isHour := id rfl
theorem zF215_205 : z_F zT215 205 = f_m_hasHour := id rfl
def zP215_0 : List ZO := [(7, [(196, 0), (1, 0)]), (13, [(163, 0), (0, 0), (3, 0), (0, 1)]), (3, [(1, 0), (1, 0), (3, 0), (0, 0)]), (0, [(0, 0)]), (7, [(197, 0), (2, 0)]), (3, [(1, 0), (2, 0), (4, 0), (0, 0)]), (13, [(163, 0), (0, 0), (0, 0), (0, 2)]), (2, [(40, 0), (1, 0), (2, 0), (0, (-1)), (0, 0)]), (13, [(163, 0), (0, 0), (0, 1), (0, 2)]), (0, [(0, 0)])]
def zP215_40 : List ZO := [(5, [(3249, 0), (0, 0), (0, 0), (0, 0)]), (3, [(3, 0), (5, 0), (4, 0), (5, 0)]), (3, [(3, 0), (2, 0), (3, 0), (0, 0)]), (13, [(163, 0), (0, 0), (0, 0), (0, 3)]), (0, [(3, 0)]), (13, [(163, 0), (0, 0), (0, 1), (0, 3)]), (0, [(0, 0)]), (5, [(4992, 0), (0, 0), (0, 0), (4, 0)]), (3, [(1, 0), (2, 0), (6, 0), (1, 0)]), (4, [(0, 0), (4, 0), (0, 1)]), (2, [(40, 0), (1, 0), (2, 0), (3, 0), (7, 0)]), (7, [(205, 0), (4, 0), (2, 0)]), (3, [(0, 0), (2, 0), (7, 0), (0, 0)]), (4, [(0, 0), (4, 0), (0, 1)]), (2, [(40, 0), (1, 0), (2, 0), (3, 0), (8, 0)]), (4, [(0, 0), (4, 0), (0, 1)]), (2, [(40, 0), (1, 0), (2, 0), (4, 0), (8, 0)])]
def zD215 : ZD := [(0, 2, [some (52, (0, 0), (0, 0)), some (0, (1, 0), (0, 0)), some (0, (2, 0), (0, 0)), none, none], 11, zP215_0), (40, 4, [some (52, (0, 0), (0, 0)), some (0, (1, 0), (0, 0)), some (0, (2, 0), (0, 0)), some (0, (3, 0), (0, 0)), some (0, (4, 0), (0, 0))], 18, zP215_40)]
theorem zG215 : z_chk zT215 [(163, 0)] 215 zD215 = true := by decide +kernel
noncomputable def g_m_at (R : ZR) : ZR := z_psi (z_st (z_F zT215) zD215) R
noncomputable def f_m_at : ZFn := fun L S => g_m_at ((1000, L), S)
theorem zM215 : z_met 215 2 [(52, (0, 0), (0, 0)), (0, (1, 0), (0, 0)), (0, (2, 0), (0, 0))] f_m_at := z_met_psi zH215 (fun _ _ h => by rw [List.mem_singleton] at h; cases h; exact fun _ _ => rfl) rfl zG215
theorem zE215_0 {x1 x2 : Int} {S : ZS} : z_st (z_F zT215) zD215 0 [x1, x2] S = (bif !decide ((v_m_isNoScreen x1 S) = 0) then ((0, [0]), (e_upd S r_m_thrown 0 0 0 (bif !decide ((v_m_isNoScreen x1 S) = 0) then 1 else 0))) else (bif !decide ((v_m_isHour x2 (e_upd S r_m_thrown 0 0 0 (bif !decide ((v_m_isNoScreen x1 S) = 0) then 1 else 0))) = 0) then ((1040, [x1, x2, (-1), 0]), (e_upd (e_upd S r_m_thrown 0 0 0 (bif !decide ((v_m_isNoScreen x1 S) = 0) then 1 else 0)) r_m_thrown 0 0 0 0)) else ((0, [0]), (e_upd (e_upd S r_m_thrown 0 0 0 (bif !decide ((v_m_isNoScreen x1 S) = 0) then 1 else 0)) r_m_thrown 0 0 0 2)))) := (id rfl : z_st (z_F zT215) zD215 0 [x1, x2] S = z_ev (z_F zT215) 11 zP215_0 [x1, x2] S).trans (id rfl)
theorem g_m_at_0 {x1 x2 : Int} {S : ZS} : g_m_at ((1000, [x1, x2]), S) = (bif !decide ((v_m_isNoScreen x1 S) = 0) then ((0, [0]), (e_upd S r_m_thrown 0 0 0 (bif !decide ((v_m_isNoScreen x1 S) = 0) then 1 else 0))) else (bif !decide ((v_m_isHour x2 (e_upd S r_m_thrown 0 0 0 (bif !decide ((v_m_isNoScreen x1 S) = 0) then 1 else 0))) = 0) then (g_m_at ((1040, [x1, x2, (-1), 0]), (e_upd (e_upd S r_m_thrown 0 0 0 (bif !decide ((v_m_isNoScreen x1 S) = 0) then 1 else 0)) r_m_thrown 0 0 0 0))) else ((0, [0]), (e_upd (e_upd S r_m_thrown 0 0 0 (bif !decide ((v_m_isNoScreen x1 S) = 0) then 1 else 0)) r_m_thrown 0 0 0 2)))) := by
  unfold g_m_at
  refine ((z_psi_go (pc := 0)).trans (congrArg _ zE215_0)).trans ?_
  try simp only [z_psi_c, z_psi_b, z_psi_n, Nat.reduceLT, decide_true]
theorem zE215_40 {x1 x2 x3 x4 : Int} {S : ZS} : z_st (z_F zT215) zD215 40 [x1, x2, x3, x4] S = (bif decide ((S r_m_shows 0 0 0) ≤ x4) then (bif decide (0 ≤ x3) then ((0, [x3]), (e_upd S r_m_thrown 0 0 0 0)) else ((0, [0]), (e_upd S r_m_thrown 0 0 0 3))) else (bif !decide ((S r_m_showScreens 0 0 x4) = x1) then ((1040, [x1, x2, x3, (e_wr (x4 + 1))]), S) else (bif decide ((v_m_hasHour x4 x2 S) = 0) then ((1040, [x1, x2, x3, (e_wr (x4 + 1))]), S) else ((1040, [x1, x2, x4, (e_wr (x4 + 1))]), S)))) := (id rfl : z_st (z_F zT215) zD215 40 [x1, x2, x3, x4] S = z_ev (z_F zT215) 18 zP215_40 [x1, x2, x3, x4] S).trans (by
  simp -implicitDefEqProofs only [zP215_40, zF215_163, zF215_196, zF215_197, zF215_205, zpI0, zpI1, zpIc, pF_m_isNoScreen, pF_m_isHour, pF_m_hasHour, Nat.zero_add, Nat.reduceAdd, Nat.reduceBEq, Int.reduceToNat, z_e0, z_e1, z_e2, z_e3, z_e4, z_e5, z_e6, z_e7, z_e8, z_e11, z_e13, o_v0, o_v1, o_v2, List.cons_append, List.nil_append, List.map_cons, List.map_nil, List.drop_succ_cons, List.drop_zero, List.take_succ_cons, List.take_zero, e_c0, e_c1, e_c2, e_c3, e_c4, e_c5, e_b0, e_b1, e_b2, e_b3, e_b4, e_b5, e_b6, e_b7, e_b8, e_b9, e_b10, e_b11, e_b12, e_b13, e_b14, e_b15, e_b16, e_b17, e_n0, e_bnd, e_un]
  try rfl)
theorem g_m_at_40 {x1 x2 x3 x4 : Int} {S : ZS} : g_m_at ((1040, [x1, x2, x3, x4]), S) = (bif decide ((S r_m_shows 0 0 0) ≤ x4) then (bif decide (0 ≤ x3) then ((0, [x3]), (e_upd S r_m_thrown 0 0 0 0)) else ((0, [0]), (e_upd S r_m_thrown 0 0 0 3))) else (bif !decide ((S r_m_showScreens 0 0 x4) = x1) then (g_m_at ((1040, [x1, x2, x3, (e_wr (x4 + 1))]), S)) else (bif decide ((v_m_hasHour x4 x2 S) = 0) then (g_m_at ((1040, [x1, x2, x3, (e_wr (x4 + 1))]), S)) else (g_m_at ((1040, [x1, x2, x4, (e_wr (x4 + 1))]), S))))) := by
  unfold g_m_at
  refine ((z_psi_go (pc := 40)).trans (congrArg _ zE215_40)).trans ?_
  try simp only [z_psi_c, z_psi_b, z_psi_n, Nat.reduceLT, decide_true]
def zW215 : List Nat := [r_m_thrown]
theorem zK215 : z_kp 2 zW215 f_m_at := fun L S hL hc r i j k hr => z_psi_kp (KT := [(163, 2, zW163), (196, 1, zW196), (197, 1, zW197), (205, 2, zW205)]) (F := z_F zT215) (W := zW215) (D := zD215) (.c zF215_163 zK163 (.c zF215_196 zK196 (.c zF215_197 zK197 (.c zF215_205 zK205 .n)))) (fun _ _ => Or.inl rfl) (by decide +kernel) _ hc r i j k hr

-- x_go (114)
def zT114 : ZT := [(138, 3, [(0, (1, 0), (0, 0)), (0, (2, 0), (0, 0)), (0, (3, 0), (0, 0))], f_x_isWithin)]
theorem zH114 : z_ok zT114 := .c zM138 .n
theorem zF114_138 : z_F zT114 138 = f_x_isWithin := id rfl
def zP114_0 : List ZO := [(7, [(138, 0), (1, 0), (0, 1), (0, 50)]), (3, [(1, 0), (9, 0), (2, 0), (0, 0)]), (5, [(69, 0), (0, 0), (0, 0), (0, 0)]), (4, [(0, 0), (3, 0), (1, 0)]), (3, [(5, 0), (5, 0), (4, 0), (0, 50)]), (5, [(69, 0), (0, 0), (0, 0), (0, 0)]), (4, [(0, 0), (5, 0), (1, 0)]), (6, [(69, 0), (0, 0), (0, 0), (0, 0), (0, 0), (6, 0)]), (5, [(69, 0), (0, 0), (0, 0), (0, 0)]), (0, [(7, 0)]), (1, [(2, 0)]), (1, [(1, 0)])]
def zC114 : ZC := [(0, 1, [some (2, (0, 0), (0, 0)), some (0, (1, 0), (0, 0))])]
theorem zG114 : z_go zC114 (z_A zT114) [] 114 400 true 13 zP114_0 0 [some (2, (0, 0), (0, 0)), some (0, (1, 0), (0, 0))] [] 1 = true := by decide +kernel
def f_x_go : ZFn := fun L S => match L with
  | [x1] => (bif !decide ((v_x_isWithin x1 1 50 S) = 0) then (bif decide ((e_wr ((S r_Grid_hour 0 0 0) + x1)) ≤ 50) then ((0, [((e_upd S r_Grid_hour 0 0 0 (e_wr ((S r_Grid_hour 0 0 0) + x1))) r_Grid_hour 0 0 0)]), (e_upd S r_Grid_hour 0 0 0 (e_wr ((S r_Grid_hour 0 0 0) + x1)))) else ((3, []), S)) else ((2, []), S))
  | _ => ((0, []), S)
theorem zE114 {x1 : Int} {S : ZS} : z_ev (z_F zT114) 13 zP114_0 [x1] S = f_x_go [x1] S := id rfl
theorem zM114 : z_met 114 1 [(2, (0, 0), (0, 0)), (0, (1, 0), (0, 0))] f_x_go := z_met_ev zH114 (fun _ _ h => absurd h List.not_mem_nil) rfl zG114 (by decide +kernel) (fun L S hn => match L, hn with
  | [x1], _ => zE114)
def zW114 : List Nat := [r_Grid_hour]
theorem zK114 : z_kp 1 zW114 f_x_go := z_kp_ev (KT := [(138, 3, zW138)]) (.c zF114_138 zK138 .n) (z_h163 rfl) (by decide +kernel) (fun L S hn => match L, hn with
  | [x1], _ => zE114)

-- w_go (280)
def zT280 : ZT := [(114, 1, [(2, (0, 0), (0, 0)), (0, (1, 0), (0, 0))], f_x_go)]
theorem zH280 : z_ok zT280 := .c zM114 .n
theorem zF280_114 : z_F zT280 114 = f_x_go := id rfl
def zP280_0 : List ZO := [(11, [(114, 0), (2, 0), (1, 2), (2, 3), (1, 0)]), (6, [(6976, 0), (0, 0), (0, 0), (0, 0), (0, 0), (2, 0)]), (0, [(0, 0)]), (0, [(0, 1)]), (0, [(0, 2)])]
def zC280 : ZC := [(0, 1, [some (2, (0, 0), (0, 0)), some (0, (1, 0), (0, 0)), some (111, (0, 0), (0, 0)), none])]
theorem zG280 : z_go zC280 (z_A zT280) [] 280 400 true 6 zP280_0 0 [some (2, (0, 0), (0, 0)), some (0, (1, 0), (0, 0)), some (111, (0, 0), (0, 0)), none] [] 1 = true := by decide +kernel
def f_w_go : ZFn := fun L S => match L with
  | [x1] => (e_try (f_x_go [x1] S) (fun v1 S1 => ((0, [0]), (e_upd S1 r_out 0 0 0 v1))) [(1, 1), (2, 2)])
  | _ => ((0, []), S)
theorem zE280 {x1 : Int} {S : ZS} : z_ev (z_F zT280) 6 zP280_0 [x1] S = f_w_go [x1] S := id rfl
theorem zM280 : z_met 280 1 [(2, (0, 0), (0, 0)), (0, (1, 0), (0, 0)), (111, (0, 0), (0, 0))] f_w_go := z_met_ev zH280 (fun _ _ h => absurd h List.not_mem_nil) rfl zG280 (by decide +kernel) (fun L S hn => match L, hn with
  | [x1], _ => zE280)
def zW280 : List Nat := [r_Grid_hour, r_out]
theorem zK280 : z_kp 1 zW280 f_w_go := z_kp_ev (KT := [(114, 1, zW114)]) (.c zF280_114 zK114 .n) (z_h163 rfl) (by decide +kernel) (fun L S hn => match L, hn with
  | [x1], _ => zE280)

-- m_go (216)
def zT216 : ZT := [(163, 2, [(52, (0, 0), (0, 0)), (0, (1, 0), (0, 0)), (0, (2, 0), (0, 0))], f_m_isThrown), (164, 3, [(0, (1, 0), (0, 0)), (0, (2, 0), (0, 0)), (0, (3, 0), (0, 0))], f_m_isIn)]
theorem zH216 : z_ok zT216 := .c zM163 (.c zM164 .n)
theorem zF216_163 : z_F zT216 163 = f_m_isThrown := id rfl
theorem zF216_164 : z_F zT216 164 = f_m_isIn := id rfl
def zP216_0 : List ZO := [(7, [(164, 0), (1, 0), (0, 1), (0, 50)]), (3, [(1, 0), (12, 0), (2, 0), (0, 0)]), (13, [(163, 0), (0, 0), (0, 0), (0, 1)]), (5, [(3254, 0), (0, 0), (0, 0), (0, 0)]), (4, [(0, 0), (3, 0), (1, 0)]), (3, [(5, 0), (6, 0), (4, 0), (0, 50)]), (13, [(163, 0), (0, 0), (0, 0), (0, 2)]), (5, [(3254, 0), (0, 0), (0, 0), (0, 0)]), (4, [(0, 0), (5, 0), (1, 0)]), (6, [(3254, 0), (0, 0), (0, 0), (0, 0), (0, 0), (6, 0)]), (5, [(3254, 0), (0, 0), (0, 0), (0, 0)]), (0, [(7, 0)]), (13, [(163, 0), (0, 0), (0, 1), (0, 2)]), (0, [(0, 0)]), (13, [(163, 0), (0, 0), (0, 1), (0, 1)]), (0, [(0, 0)])]
def zC216 : ZC := [(0, 1, [some (52, (0, 0), (0, 0)), some (0, (1, 0), (0, 0))])]
theorem zG216 : z_go zC216 (z_A zT216) [(163, 0)] 216 400 true 17 zP216_0 0 [some (52, (0, 0), (0, 0)), some (0, (1, 0), (0, 0))] [] 1 = true := by decide +kernel
def f_m_go : ZFn := fun L S => match L with
  | [x1] => (bif !decide ((v_m_isIn x1 1 50 S) = 0) then (bif decide ((e_wr ((S r_m_hour 0 0 0) + x1)) ≤ 50) then ((0, [((e_upd (e_upd (e_upd S r_m_thrown 0 0 0 0) r_m_thrown 0 0 0 0) r_m_hour 0 0 0 (e_wr ((S r_m_hour 0 0 0) + x1))) r_m_hour 0 0 0)]), (e_upd (e_upd (e_upd S r_m_thrown 0 0 0 0) r_m_thrown 0 0 0 0) r_m_hour 0 0 0 (e_wr ((S r_m_hour 0 0 0) + x1)))) else ((0, [0]), (e_upd (e_upd S r_m_thrown 0 0 0 0) r_m_thrown 0 0 0 2))) else ((0, [0]), (e_upd S r_m_thrown 0 0 0 1)))
  | _ => ((0, []), S)
theorem zE216 {x1 : Int} {S : ZS} : z_ev (z_F zT216) 17 zP216_0 [x1] S = f_m_go [x1] S := by
  simp -implicitDefEqProofs only [zP216_0, zF216_163, zF216_164, zpI0, zpI1, zpIc, pF_m_isIn, Nat.zero_add, Nat.reduceAdd, Nat.reduceBEq, Int.reduceToNat, z_e0, z_e1, z_e2, z_e3, z_e4, z_e5, z_e6, z_e7, z_e8, z_e11, z_e13, o_v0, o_v1, o_v2, List.cons_append, List.nil_append, List.map_cons, List.map_nil, List.drop_succ_cons, List.drop_zero, List.take_succ_cons, List.take_zero, e_c0, e_c1, e_c2, e_c3, e_c4, e_c5, e_b0, e_b1, e_b2, e_b3, e_b4, e_b5, e_b6, e_b7, e_b8, e_b9, e_b10, e_b11, e_b12, e_b13, e_b14, e_b15, e_b16, e_b17, e_n0, e_bnd, e_un]
  try rfl
theorem zM216 : z_met 216 1 [(52, (0, 0), (0, 0)), (0, (1, 0), (0, 0))] f_m_go := z_met_ev zH216 (fun _ _ h => by rw [List.mem_singleton] at h; cases h; exact fun _ _ => rfl) rfl zG216 (by decide +kernel) (fun L S hn => match L, hn with
  | [x1], _ => zE216)
def zW216 : List Nat := [r_m_hour, r_m_thrown]
theorem zK216 : z_kp 1 zW216 f_m_go := z_kp_ev (KT := [(163, 2, zW163), (164, 3, zW164)]) (.c zF216_163 zK163 (.c zF216_164 zK164 .n)) (fun _ _ => Or.inl rfl) (by decide +kernel) (fun L S hn => match L, hn with
  | [x1], _ => zE216)

-- x_now (115)
def zT115 : ZT := []
theorem zH115 : z_ok zT115 := .n
def zP115_0 : List ZO := [(5, [(69, 0), (0, 0), (0, 0), (0, 0)]), (0, [(1, 0)])]
def zC115 : ZC := [(0, 0, [some (2, (0, 0), (0, 0))])]
theorem zG115 : z_go zC115 (z_A zT115) [] 115 400 true 3 zP115_0 0 [some (2, (0, 0), (0, 0))] [] 0 = true := by decide +kernel
def v_x_now (S : ZS) : Int := (S r_Grid_hour 0 0 0)
def f_x_now : ZFn := fun L S => match L with
  | [] => ((0, [v_x_now S]), S)
  | _ => ((0, []), S)
theorem pF_x_now {S : ZS} : f_x_now [] S = ((0, [v_x_now S]), S) := id rfl
theorem zE115 {S : ZS} : z_ev (z_F zT115) 3 zP115_0 [] S = f_x_now [] S := id rfl
theorem zM115 : z_met 115 0 [(2, (0, 0), (0, 0))] f_x_now := z_met_ev zH115 (fun _ _ h => absurd h List.not_mem_nil) rfl zG115 (by decide +kernel) (fun L S hn => match L, hn with
  | [], _ => zE115)
def zW115 : List Nat := []
theorem zK115 : z_kp 0 zW115 f_x_now := z_kp_ev (KT := []) (.n) (z_h163 rfl) (by decide +kernel) (fun L S hn => match L, hn with
  | [], _ => zE115)

-- m_now (217)
def zT217 : ZT := []
theorem zH217 : z_ok zT217 := .n
def zP217_0 : List ZO := [(6, [(3255, 0), (0, 0), (0, 0), (0, 0), (0, 0), (0, 0)]), (5, [(3254, 0), (0, 0), (0, 0), (0, 0)]), (0, [(1, 0)])]
def zC217 : ZC := [(0, 0, [some (52, (0, 0), (0, 0))])]
theorem zG217 : z_go zC217 (z_A zT217) [] 217 400 true 4 zP217_0 0 [some (52, (0, 0), (0, 0))] [] 0 = true := by decide +kernel
def f_m_now : ZFn := fun L S => match L with
  | [] => ((0, [(S r_m_hour 0 0 0)]), (e_upd S r_m_thrown 0 0 0 0))
  | _ => ((0, []), S)
theorem zE217 {S : ZS} : z_ev (z_F zT217) 4 zP217_0 [] S = f_m_now [] S := id rfl
theorem zM217 : z_met 217 0 [(52, (0, 0), (0, 0))] f_m_now := z_met_ev zH217 (fun _ _ h => absurd h List.not_mem_nil) rfl zG217 (by decide +kernel) (fun L S hn => match L, hn with
  | [], _ => zE217)
def zW217 : List Nat := [r_m_thrown]
theorem zK217 : z_kp 0 zW217 f_m_now := z_kp_ev (KT := []) (.n) (z_h163 rfl) (by decide +kernel) (fun L S hn => match L, hn with
  | [], _ => zE217)

-- Grid_addFound (44)
def zT44 : ZT := []
theorem zH44 : z_ok zT44 := .n
def zP44_0 : List ZO := [(5, [(72, 0), (0, 0), (0, 0), (0, 0)]), (3, [(3, 0), (1, 0), (2, 0), (0, 60)]), (0, []), (5, [(72, 0), (0, 0), (0, 0), (0, 0)]), (6, [(1216, 0), (0, 0), (0, 0), (0, 0), (3, 0), (1, 0)]), (5, [(72, 0), (0, 0), (0, 0), (0, 0)]), (4, [(0, 0), (4, 0), (0, 1)]), (6, [(72, 0), (0, 0), (0, 0), (0, 0), (0, 0), (5, 0)]), (0, [])]
def zC44 : ZC := [(0, 1, [some (3, (0, 0), (0, 0)), some (0, (1, 0), (0, 0))])]
theorem zG44 : z_go zC44 (z_A zT44) [] 44 400 true 10 zP44_0 0 [some (3, (0, 0), (0, 0)), some (0, (1, 0), (0, 0))] [] 1 = true := by decide +kernel
def f_Grid_addFound : ZFn := fun L S => match L with
  | [x1] => (bif decide (60 ≤ (S r_Grid_foundCount 0 0 0)) then ((0, []), S) else ((0, []), (e_upd (e_upd S r_Grid_found 0 0 (S r_Grid_foundCount 0 0 0) x1) r_Grid_foundCount 0 0 0 (e_wr ((S r_Grid_foundCount 0 0 0) + 1)))))
  | _ => ((0, []), S)
theorem zE44 {x1 : Int} {S : ZS} : z_ev (z_F zT44) 10 zP44_0 [x1] S = f_Grid_addFound [x1] S := id rfl
theorem zM44 : z_met 44 1 [(3, (0, 0), (0, 0)), (0, (1, 0), (0, 0))] f_Grid_addFound := z_met_ev zH44 (fun _ _ h => absurd h List.not_mem_nil) rfl zG44 (by decide +kernel) (fun L S hn => match L, hn with
  | [x1], _ => zE44)
def zW44 : List Nat := [r_Grid_foundCount, r_Grid_found]
theorem zK44 : z_kp 1 zW44 f_Grid_addFound := z_kp_ev (KT := []) (.n) (z_h163 rfl) (by decide +kernel) (fun L S hn => match L, hn with
  | [x1], _ => zE44)

-- Grid_findOnDay (41)
def zT41 : ZT := [(31, 1, [(3, (0, 0), (0, 0)), (17, (1, 0), (0, 0))], f_Grid_stateOf), (44, 1, [(3, (0, 0), (0, 0)), (0, (1, 0), (0, 0))], f_Grid_addFound)]
theorem zH41 : z_ok zT41 := .c zM31 (.c zM44 .n)
theorem zF41_31 : z_F zT41 31 = f_Grid_stateOf := id rfl
theorem zF41_44 : z_F zT41 44 = f_Grid_addFound := id rfl
def zP41_0 : List ZO := [(6, [(72, 0), (0, 0), (0, 0), (0, 0), (0, 0), (0, 0)]), (2, [(7, 0), (1, 0), (0, 0)])]
def zP41_7 : List ZO := [(5, [(68, 0), (0, 0), (0, 0), (0, 0)]), (3, [(3, 0), (2, 0), (2, 0), (3, 0)]), (5, [(72, 0), (0, 0), (0, 0), (0, 0)]), (0, [(4, 0)]), (7, [(31, 0), (2, 0)]), (3, [(1, 0), (2, 0), (4, 0), (0, 116)]), (4, [(0, 0), (2, 0), (0, 1)]), (2, [(7, 0), (1, 0), (5, 0)]), (5, [(962, 0), (2, 0), (0, 0), (0, 0)]), (4, [(3, 0), (5, 0), (0, 5)]), (3, [(1, 0), (2, 0), (6, 0), (1, 0)]), (4, [(0, 0), (2, 0), (0, 1)]), (2, [(7, 0), (1, 0), (7, 0)]), (7, [(44, 0), (2, 0)]), (4, [(0, 0), (2, 0), (0, 1)]), (2, [(7, 0), (1, 0), (8, 0)])]
def zD41 : ZD := [(0, 1, [some (3, (0, 0), (0, 0)), some (0, (1, 0), (0, 0)), none], 3, zP41_0), (7, 2, [some (3, (0, 0), (0, 0)), some (0, (1, 0), (0, 0)), some (0, (2, 0), (0, 0))], 17, zP41_7)]
theorem zG41 : z_chk zT41 [] 41 zD41 = true := by decide +kernel
noncomputable def g_Grid_findOnDay (R : ZR) : ZR := z_psi (z_st (z_F zT41) zD41) R
noncomputable def f_Grid_findOnDay : ZFn := fun L S => g_Grid_findOnDay ((1000, L), S)
theorem zM41 : z_met 41 1 [(3, (0, 0), (0, 0)), (0, (1, 0), (0, 0))] f_Grid_findOnDay := z_met_psi zH41 (fun _ _ h => absurd h List.not_mem_nil) rfl zG41
theorem zE41_0 {x1 : Int} {S : ZS} : z_st (z_F zT41) zD41 0 [x1] S = ((1007, [x1, 0]), (e_upd S r_Grid_foundCount 0 0 0 0)) := (id rfl : z_st (z_F zT41) zD41 0 [x1] S = z_ev (z_F zT41) 3 zP41_0 [x1] S).trans (id rfl)
theorem g_Grid_findOnDay_0 {x1 : Int} {S : ZS} : g_Grid_findOnDay ((1000, [x1]), S) = (g_Grid_findOnDay ((1007, [x1, 0]), (e_upd S r_Grid_foundCount 0 0 0 0))) := by
  unfold g_Grid_findOnDay
  refine ((z_psi_go (pc := 0)).trans (congrArg _ zE41_0)).trans ?_
  try simp only [z_psi_c, z_psi_b, z_psi_n, Nat.reduceLT, decide_true]
theorem zE41_7 {x1 x2 : Int} {S : ZS} : z_st (z_F zT41) zD41 7 [x1, x2] S = (bif decide ((S r_Grid_showCount 0 0 0) ≤ x2) then ((0, [(S r_Grid_foundCount 0 0 0)]), S) else (bif !decide ((v_Grid_stateOf x2 S) = 116) then ((1007, [x1, (e_wr (x2 + 1))]), S) else (bif !decide ((e_div (S r_Show_first x2 0 0) 5) = x1) then ((1007, [x1, (e_wr (x2 + 1))]), S) else (e_bind (f_Grid_addFound [x2] S) (fun v1 S1 => ((1007, [x1, (e_wr (x2 + 1))]), S1)))))) := (id rfl : z_st (z_F zT41) zD41 7 [x1, x2] S = z_ev (z_F zT41) 17 zP41_7 [x1, x2] S).trans (by
  simp -implicitDefEqProofs only [zP41_7, zF41_31, zF41_44, pF_Grid_stateOf, Nat.zero_add, Nat.reduceAdd, Nat.reduceBEq, Int.reduceToNat, z_e0, z_e1, z_e2, z_e3, z_e4, z_e5, z_e6, z_e7, z_e8, z_e11, z_e13, o_v0, o_v1, o_v2, List.cons_append, List.nil_append, List.map_cons, List.map_nil, List.drop_succ_cons, List.drop_zero, List.take_succ_cons, List.take_zero, e_c0, e_c1, e_c2, e_c3, e_c4, e_c5, e_b0, e_b1, e_b2, e_b3, e_b4, e_b5, e_b6, e_b7, e_b8, e_b9, e_b10, e_b11, e_b12, e_b13, e_b14, e_b15, e_b16, e_b17, e_n0, e_bnd, e_un]
  try rfl)
theorem g_Grid_findOnDay_7 {x1 x2 : Int} {S : ZS} : g_Grid_findOnDay ((1007, [x1, x2]), S) = (bif decide ((S r_Grid_showCount 0 0 0) ≤ x2) then ((0, [(S r_Grid_foundCount 0 0 0)]), S) else (bif !decide ((v_Grid_stateOf x2 S) = 116) then (g_Grid_findOnDay ((1007, [x1, (e_wr (x2 + 1))]), S)) else (bif !decide ((e_div (S r_Show_first x2 0 0) 5) = x1) then (g_Grid_findOnDay ((1007, [x1, (e_wr (x2 + 1))]), S)) else (e_bind (f_Grid_addFound [x2] S) (fun v1 S1 => (g_Grid_findOnDay ((1007, [x1, (e_wr (x2 + 1))]), S1))))))) := by
  unfold g_Grid_findOnDay
  refine ((z_psi_go (pc := 7)).trans (congrArg _ zE41_7)).trans ?_
  try simp only [z_psi_c, z_psi_b, z_psi_n, Nat.reduceLT, decide_true]
def zW41 : List Nat := [r_Grid_foundCount, r_Grid_found]
theorem zK41 : z_kp 1 zW41 f_Grid_findOnDay := fun L S hL hc r i j k hr => z_psi_kp (KT := [(31, 1, zW31), (44, 1, zW44)]) (F := z_F zT41) (W := zW41) (D := zD41) (.c zF41_31 zK31 (.c zF41_44 zK44 .n)) (z_h163 rfl) (by decide +kernel) _ hc r i j k hr

-- Grid_takeFound (45)
def zT45 : ZT := [(1, 2, [(13, (0, 0), (0, 0)), (0, (1, 0), (0, 0)), (0, (2, 0), (0, 0))], f_Archive_add)]
theorem zH45 : z_ok zT45 := .c zM1 .n
theorem zF45_1 : z_F zT45 1 = f_Archive_add := id rfl
def zP45_0 : List ZO := [(2, [(2, 0), (1, 0), (0, 0)])]
def zP45_2 : List ZO := [(5, [(72, 0), (0, 0), (0, 0), (0, 0)]), (3, [(3, 0), (1, 0), (2, 0), (3, 0)]), (0, []), (5, [(1216, 0), (0, 0), (0, 0), (2, 0)]), (6, [(964, 0), (0, 0), (4, 0), (0, 0), (0, 0), (1, 0)]), (5, [(960, 0), (4, 0), (0, 0), (0, 0)]), (7, [(1, 0), (0, 120), (5, 0)]), (4, [(0, 0), (2, 0), (0, 1)]), (2, [(2, 0), (1, 0), (7, 0)])]
def zD45 : ZD := [(0, 1, [some (3, (0, 0), (0, 0)), some (0, (1, 0), (0, 0)), none, none], 2, zP45_0), (2, 2, [some (3, (0, 0), (0, 0)), some (0, (1, 0), (0, 0)), some (0, (2, 0), (0, 0)), none], 10, zP45_2)]
theorem zG45 : z_chk zT45 [] 45 zD45 = true := by decide +kernel
noncomputable def g_Grid_takeFound (R : ZR) : ZR := z_psi (z_st (z_F zT45) zD45) R
noncomputable def f_Grid_takeFound : ZFn := fun L S => g_Grid_takeFound ((1000, L), S)
theorem zM45 : z_met 45 1 [(3, (0, 0), (0, 0)), (0, (1, 0), (0, 0))] f_Grid_takeFound := z_met_psi zH45 (fun _ _ h => absurd h List.not_mem_nil) rfl zG45
theorem zE45_0 {x1 : Int} {S : ZS} : z_st (z_F zT45) zD45 0 [x1] S = ((1002, [x1, 0]), S) := (id rfl : z_st (z_F zT45) zD45 0 [x1] S = z_ev (z_F zT45) 2 zP45_0 [x1] S).trans (id rfl)
theorem g_Grid_takeFound_0 {x1 : Int} {S : ZS} : g_Grid_takeFound ((1000, [x1]), S) = (g_Grid_takeFound ((1002, [x1, 0]), S)) := by
  unfold g_Grid_takeFound
  refine ((z_psi_go (pc := 0)).trans (congrArg _ zE45_0)).trans ?_
  try simp only [z_psi_c, z_psi_b, z_psi_n, Nat.reduceLT, decide_true]
theorem zE45_2 {x1 x2 : Int} {S : ZS} : z_st (z_F zT45) zD45 2 [x1, x2] S = (bif decide ((S r_Grid_foundCount 0 0 0) ≤ x2) then ((0, []), S) else (e_bind (f_Archive_add [120, (S r_Show_film (S r_Grid_found 0 0 x2) 0 0)] (e_upd S r_Show_cause (S r_Grid_found 0 0 x2) 0 0 x1)) (fun v1 S1 => ((1002, [x1, (e_wr (x2 + 1))]), S1)))) := (id rfl : z_st (z_F zT45) zD45 2 [x1, x2] S = z_ev (z_F zT45) 10 zP45_2 [x1, x2] S).trans (id rfl)
theorem g_Grid_takeFound_2 {x1 x2 : Int} {S : ZS} : g_Grid_takeFound ((1002, [x1, x2]), S) = (bif decide ((S r_Grid_foundCount 0 0 0) ≤ x2) then ((0, []), S) else (e_bind (f_Archive_add [120, (S r_Show_film (S r_Grid_found 0 0 x2) 0 0)] (e_upd S r_Show_cause (S r_Grid_found 0 0 x2) 0 0 x1)) (fun v1 S1 => (g_Grid_takeFound ((1002, [x1, (e_wr (x2 + 1))]), S1))))) := by
  unfold g_Grid_takeFound
  refine ((z_psi_go (pc := 2)).trans (congrArg _ zE45_2)).trans ?_
  try simp only [z_psi_c, z_psi_b, z_psi_n, Nat.reduceLT, decide_true]
def zW45 : List Nat := [r_Archive_lineCount, r_Archive_next, r_Archive_letters, r_Archive_filmOf, r_Show_cause]
theorem zK45 : z_kp 1 zW45 f_Grid_takeFound := fun L S hL hc r i j k hr => z_psi_kp (KT := [(1, 2, zW1)]) (F := z_F zT45) (W := zW45) (D := zD45) (.c zF45_1 zK1 .n) (z_h163 rfl) (by decide +kernel) _ hc r i j k hr

-- Show_addWaiting (83)
def zT83 : ZT := []
theorem zH83 : z_ok zT83 := .n
def zP83_0 : List ZO := [(5, [(967, 0), (1, 0), (0, 0), (0, 0)]), (3, [(3, 0), (1, 0), (3, 0), (0, 16)]), (0, []), (5, [(967, 0), (1, 0), (0, 0), (0, 0)]), (6, [(1024, 0), (0, 0), (1, 0), (0, 0), (4, 0), (2, 0)]), (5, [(967, 0), (1, 0), (0, 0), (0, 0)]), (4, [(0, 0), (5, 0), (0, 1)]), (6, [(967, 0), (0, 0), (1, 0), (0, 0), (0, 0), (6, 0)]), (0, [])]
def zC83 : ZC := [(0, 2, [some (17, (1, 0), (0, 0)), some (0, (2, 0), (0, 0))])]
theorem zG83 : z_go zC83 (z_A zT83) [] 83 400 true 10 zP83_0 0 [some (17, (1, 0), (0, 0)), some (0, (2, 0), (0, 0))] [] 2 = true := by decide +kernel
def f_Show_addWaiting : ZFn := fun L S => match L with
  | [x1, x2] => (bif decide (16 ≤ (S r_Show_waiting x1 0 0)) then ((0, []), S) else ((0, []), (e_upd (e_upd S r_Show_queue x1 0 (S r_Show_waiting x1 0 0) x2) r_Show_waiting x1 0 0 (e_wr ((S r_Show_waiting x1 0 0) + 1)))))
  | _ => ((0, []), S)
theorem zE83 {x1 x2 : Int} {S : ZS} : z_ev (z_F zT83) 10 zP83_0 [x1, x2] S = f_Show_addWaiting [x1, x2] S := id rfl
theorem zM83 : z_met 83 2 [(17, (1, 0), (0, 0)), (0, (2, 0), (0, 0))] f_Show_addWaiting := z_met_ev zH83 (fun _ _ h => absurd h List.not_mem_nil) rfl zG83 (by decide +kernel) (fun L S hn => match L, hn with
  | [x1, x2], _ => zE83)
def zW83 : List Nat := [r_Show_waiting, r_Show_queue]
theorem zK83 : z_kp 2 zW83 f_Show_addWaiting := z_kp_ev (KT := []) (.n) (z_h163 rfl) (by decide +kernel) (fun L S hn => match L, hn with
  | [x1, x2], _ => zE83)

-- Grid_setFoundAnew (46)
noncomputable def zT46 : ZT := [(37, 1, [(3, (0, 0), (0, 0)), (0, (1, 0), (0, 0))], f_Grid_setAtFirstPlace), (83, 2, [(17, (1, 0), (0, 0)), (0, (2, 0), (0, 0))], f_Show_addWaiting)]
theorem zH46 : z_ok zT46 := .c zM37 (.c zM83 .n)
theorem zF46_37 : z_F zT46 37 = f_Grid_setAtFirstPlace := id rfl
theorem zF46_83 : z_F zT46 83 = f_Show_addWaiting := id rfl
def zP46_0 : List ZO := [(2, [(2, 0), (0, 0)])]
def zP46_2 : List ZO := [(5, [(72, 0), (0, 0), (0, 0), (0, 0)]), (3, [(3, 0), (1, 0), (1, 0), (2, 0)]), (0, []), (5, [(1216, 0), (0, 0), (0, 0), (1, 0)]), (5, [(960, 0), (3, 0), (0, 0), (0, 0)]), (7, [(37, 0), (4, 0)]), (3, [(0, 0), (2, 0), (5, 0), (0, (-1))]), (4, [(0, 0), (1, 0), (0, 1)]), (2, [(2, 0), (6, 0)]), (2, [(39, 0), (1, 0), (3, 0), (5, 0), (0, 0)])]
def zP46_39 : List ZO := [(5, [(967, 0), (2, 0), (0, 0), (0, 0)]), (3, [(3, 0), (2, 0), (4, 0), (5, 0)]), (4, [(0, 0), (1, 0), (0, 1)]), (2, [(2, 0), (6, 0)]), (5, [(1024, 0), (2, 0), (0, 0), (4, 0)]), (7, [(83, 0), (3, 0), (6, 0)]), (4, [(0, 0), (4, 0), (0, 1)]), (2, [(39, 0), (1, 0), (2, 0), (3, 0), (8, 0)])]
def zD46 : ZD := [(0, 0, [some (3, (0, 0), (0, 0)), none, none, none, none], 2, zP46_0), (2, 1, [some (3, (0, 0), (0, 0)), some (0, (1, 0), (0, 0)), none, none, none], 11, zP46_2), (39, 4, [some (3, (0, 0), (0, 0)), some (0, (1, 0), (0, 0)), some (17, (2, 0), (0, 0)), some (0, (3, 0), (0, 0)), some (0, (4, 0), (0, 0))], 9, zP46_39)]
theorem zG46 : z_chk zT46 [] 46 zD46 = true := by decide +kernel
noncomputable def g_Grid_setFoundAnew (R : ZR) : ZR := z_psi (z_st (z_F zT46) zD46) R
noncomputable def f_Grid_setFoundAnew : ZFn := fun L S => g_Grid_setFoundAnew ((1000, L), S)
theorem zM46 : z_met 46 0 [(3, (0, 0), (0, 0))] f_Grid_setFoundAnew := z_met_psi zH46 (fun _ _ h => absurd h List.not_mem_nil) rfl zG46
theorem zE46_0 {S : ZS} : z_st (z_F zT46) zD46 0 [] S = ((1002, [0]), S) := (id rfl : z_st (z_F zT46) zD46 0 [] S = z_ev (z_F zT46) 2 zP46_0 [] S).trans (id rfl)
theorem g_Grid_setFoundAnew_0 {S : ZS} : g_Grid_setFoundAnew ((1000, []), S) = (g_Grid_setFoundAnew ((1002, [0]), S)) := by
  unfold g_Grid_setFoundAnew
  refine ((z_psi_go (pc := 0)).trans (congrArg _ zE46_0)).trans ?_
  try simp only [z_psi_c, z_psi_b, z_psi_n, Nat.reduceLT, decide_true]
theorem zE46_2 {x1 : Int} {S : ZS} : z_st (z_F zT46) zD46 2 [x1] S = (bif decide ((S r_Grid_foundCount 0 0 0) ≤ x1) then ((0, []), S) else (e_bind (f_Grid_setAtFirstPlace [(S r_Show_film (S r_Grid_found 0 0 x1) 0 0)] S) (fun v1 S1 => (bif decide (v1 = (-1)) then ((1002, [(e_wr (x1 + 1))]), S1) else ((1039, [x1, (S r_Grid_found 0 0 x1), v1, 0]), S1))))) := (id rfl : z_st (z_F zT46) zD46 2 [x1] S = z_ev (z_F zT46) 11 zP46_2 [x1] S).trans (id rfl)
theorem g_Grid_setFoundAnew_2 {x1 : Int} {S : ZS} : g_Grid_setFoundAnew ((1002, [x1]), S) = (bif decide ((S r_Grid_foundCount 0 0 0) ≤ x1) then ((0, []), S) else (e_bind (f_Grid_setAtFirstPlace [(S r_Show_film (S r_Grid_found 0 0 x1) 0 0)] S) (fun v1 S1 => (bif decide (v1 = (-1)) then (g_Grid_setFoundAnew ((1002, [(e_wr (x1 + 1))]), S1)) else (g_Grid_setFoundAnew ((1039, [x1, (S r_Grid_found 0 0 x1), v1, 0]), S1)))))) := by
  unfold g_Grid_setFoundAnew
  refine ((z_psi_go (pc := 2)).trans (congrArg _ zE46_2)).trans ?_
  try simp only [z_psi_c, z_psi_b, z_psi_n, Nat.reduceLT, decide_true]
theorem zE46_39 {x1 x2 x3 x4 : Int} {S : ZS} : z_st (z_F zT46) zD46 39 [x1, x2, x3, x4] S = (bif decide ((S r_Show_waiting x2 0 0) ≤ x4) then ((1002, [(e_wr (x1 + 1))]), S) else (e_bind (f_Show_addWaiting [x3, (S r_Show_queue x2 0 x4)] S) (fun v1 S1 => ((1039, [x1, x2, x3, (e_wr (x4 + 1))]), S1)))) := (id rfl : z_st (z_F zT46) zD46 39 [x1, x2, x3, x4] S = z_ev (z_F zT46) 9 zP46_39 [x1, x2, x3, x4] S).trans (id rfl)
theorem g_Grid_setFoundAnew_39 {x1 x2 x3 x4 : Int} {S : ZS} : g_Grid_setFoundAnew ((1039, [x1, x2, x3, x4]), S) = (bif decide ((S r_Show_waiting x2 0 0) ≤ x4) then (g_Grid_setFoundAnew ((1002, [(e_wr (x1 + 1))]), S)) else (e_bind (f_Show_addWaiting [x3, (S r_Show_queue x2 0 x4)] S) (fun v1 S1 => (g_Grid_setFoundAnew ((1039, [x1, x2, x3, (e_wr (x4 + 1))]), S1))))) := by
  unfold g_Grid_setFoundAnew
  refine ((z_psi_go (pc := 39)).trans (congrArg _ zE46_39)).trans ?_
  try simp only [z_psi_c, z_psi_b, z_psi_n, Nat.reduceLT, decide_true]
def zW46 : List Nat := [r_Grid_showCount, r_Archive_lineCount, r_Archive_next, r_Archive_letters, r_Archive_filmOf, r_Show_film, r_Show_screen, r_Show_first, r_Show_length, r_Show_waiting, r_Show_queue]
theorem zK46 : z_kp 0 zW46 f_Grid_setFoundAnew := fun L S hL hc r i j k hr => z_psi_kp (KT := [(37, 1, zW37), (83, 2, zW83)]) (F := z_F zT46) (W := zW46) (D := zD46) (.c zF46_37 zK37 (.c zF46_83 zK83 .n)) (z_h163 rfl) (by decide +kernel) _ hc r i j k hr

-- x_storm (116)
noncomputable def zT116 : ZT := [(41, 1, [(3, (0, 0), (0, 0)), (0, (1, 0), (0, 0))], f_Grid_findOnDay), (45, 1, [(3, (0, 0), (0, 0)), (0, (1, 0), (0, 0))], f_Grid_takeFound), (46, 0, [(3, (0, 0), (0, 0))], f_Grid_setFoundAnew), (138, 3, [(0, (1, 0), (0, 0)), (0, (2, 0), (0, 0)), (0, (3, 0), (0, 0))], f_x_isWithin)]
theorem zH116 : z_ok zT116 := .c zM41 (.c zM45 (.c zM46 (.c zM138 .n)))
theorem zF116_41 : z_F zT116 41 = f_Grid_findOnDay := id rfl
theorem zF116_45 : z_F zT116 45 = f_Grid_takeFound := id rfl
theorem zF116_46 : z_F zT116 46 = f_Grid_setFoundAnew := id rfl
theorem zF116_138 : z_F zT116 138 = f_x_isWithin := id rfl
def zP116_0 : List ZO := [(7, [(138, 0), (1, 0), (0, 0), (0, 9)]), (3, [(1, 0), (12, 0), (2, 0), (0, 0)]), (5, [(1152, 0), (0, 0), (0, 0), (1, 0)]), (3, [(0, 0), (9, 0), (3, 0), (0, 0)]), (7, [(41, 0), (1, 0)]), (5, [(68, 0), (0, 0), (0, 0), (0, 0)]), (4, [(0, 0), (5, 0), (4, 0)]), (3, [(5, 0), (4, 0), (6, 0), (0, 60)]), (6, [(1152, 0), (1, 0), (0, 0), (0, 0), (1, 0), (0, 1)]), (7, [(45, 0), (0, 115)]), (7, [(46, 0)]), (0, [(4, 0)]), (1, [(2, 0)]), (1, [(3, 0)]), (1, [(1, 0)])]
def zC116 : ZC := [(0, 1, [some (2, (0, 0), (0, 0)), some (0, (1, 0), (0, 0)), none])]
theorem zG116 : z_go zC116 (z_A zT116) [] 116 400 true 16 zP116_0 0 [some (2, (0, 0), (0, 0)), some (0, (1, 0), (0, 0)), none] [] 1 = true := by decide +kernel
noncomputable def f_x_storm : ZFn := fun L S => match L with
  | [x1] => (bif !decide ((v_x_isWithin x1 0 9 S) = 0) then (bif decide ((S r_Grid_isStormy 0 0 x1) = 0) then (e_bind (f_Grid_findOnDay [x1] S) (fun v1 S1 => (bif decide ((e_wr ((S1 r_Grid_showCount 0 0 0) + v1)) ≤ 60) then (e_bind (f_Grid_takeFound [115] (e_upd S1 r_Grid_isStormy 0 0 x1 (e_nar 1 1))) (fun v2 S2 => (e_bind (f_Grid_setFoundAnew [] S2) (fun v3 S3 => ((0, [v1]), S3))))) else ((3, []), S1)))) else ((4, []), S)) else ((2, []), S))
  | _ => ((0, []), S)
theorem zE116 {x1 : Int} {S : ZS} : z_ev (z_F zT116) 16 zP116_0 [x1] S = f_x_storm [x1] S := by
  simp -implicitDefEqProofs only [zP116_0, zF116_41, zF116_45, zF116_46, zF116_138, pF_x_isWithin, Nat.zero_add, Nat.reduceAdd, Nat.reduceBEq, Int.reduceToNat, z_e0, z_e1, z_e2, z_e3, z_e4, z_e5, z_e6, z_e7, z_e8, z_e11, z_e13, o_v0, o_v1, o_v2, List.cons_append, List.nil_append, List.map_cons, List.map_nil, List.drop_succ_cons, List.drop_zero, List.take_succ_cons, List.take_zero, e_c0, e_c1, e_c2, e_c3, e_c4, e_c5, e_b0, e_b1, e_b2, e_b3, e_b4, e_b5, e_b6, e_b7, e_b8, e_b9, e_b10, e_b11, e_b12, e_b13, e_b14, e_b15, e_b16, e_b17, e_n0, e_bnd, e_un]
  try rfl
theorem zM116 : z_met 116 1 [(2, (0, 0), (0, 0)), (0, (1, 0), (0, 0))] f_x_storm := z_met_ev zH116 (fun _ _ h => absurd h List.not_mem_nil) rfl zG116 (by decide +kernel) (fun L S hn => match L, hn with
  | [x1], _ => zE116)
def zW116 : List Nat := [r_Grid_showCount, r_Grid_foundCount, r_Archive_lineCount, r_Archive_next, r_Archive_letters, r_Archive_filmOf, r_Show_film, r_Show_screen, r_Show_first, r_Show_length, r_Show_cause, r_Show_waiting, r_Show_queue, r_Grid_isStormy, r_Grid_found]
theorem zK116 : z_kp 1 zW116 f_x_storm := z_kp_ev (KT := [(41, 1, zW41), (45, 1, zW45), (46, 0, zW46), (138, 3, zW138)]) (.c zF116_41 zK41 (.c zF116_45 zK45 (.c zF116_46 zK46 (.c zF116_138 zK138 .n)))) (z_h163 rfl) (by decide +kernel) (fun L S hn => match L, hn with
  | [x1], _ => zE116)

-- w_storm (281)
noncomputable def zT281 : ZT := [(116, 1, [(2, (0, 0), (0, 0)), (0, (1, 0), (0, 0))], f_x_storm)]
theorem zH281 : z_ok zT281 := .c zM116 .n
theorem zF281_116 : z_F zT281 116 = f_x_storm := id rfl
def zP281_0 : List ZO := [(11, [(116, 0), (3, 0), (1, 2), (3, 3), (2, 4), (1, 0)]), (6, [(6976, 0), (0, 0), (0, 0), (0, 0), (0, 0), (2, 0)]), (0, [(0, 0)]), (0, [(0, 1)]), (0, [(0, 2)]), (0, [(0, 3)])]
def zC281 : ZC := [(0, 1, [some (2, (0, 0), (0, 0)), some (0, (1, 0), (0, 0)), some (111, (0, 0), (0, 0)), none])]
theorem zG281 : z_go zC281 (z_A zT281) [] 281 400 true 7 zP281_0 0 [some (2, (0, 0), (0, 0)), some (0, (1, 0), (0, 0)), some (111, (0, 0), (0, 0)), none] [] 1 = true := by decide +kernel
noncomputable def f_w_storm : ZFn := fun L S => match L with
  | [x1] => (e_try (f_x_storm [x1] S) (fun v1 S1 => ((0, [0]), (e_upd S1 r_out 0 0 0 v1))) [(1, 1), (3, 2), (2, 3)])
  | _ => ((0, []), S)
theorem zE281 {x1 : Int} {S : ZS} : z_ev (z_F zT281) 7 zP281_0 [x1] S = f_w_storm [x1] S := id rfl
theorem zM281 : z_met 281 1 [(2, (0, 0), (0, 0)), (0, (1, 0), (0, 0)), (111, (0, 0), (0, 0))] f_w_storm := z_met_ev zH281 (fun _ _ h => absurd h List.not_mem_nil) rfl zG281 (by decide +kernel) (fun L S hn => match L, hn with
  | [x1], _ => zE281)
def zW281 : List Nat := [r_Grid_showCount, r_Grid_foundCount, r_Archive_lineCount, r_Archive_next, r_Archive_letters, r_Archive_filmOf, r_Show_film, r_Show_screen, r_Show_first, r_Show_length, r_Show_cause, r_Show_waiting, r_Show_queue, r_Grid_isStormy, r_Grid_found, r_out]
theorem zK281 : z_kp 1 zW281 f_w_storm := z_kp_ev (KT := [(116, 1, zW116)]) (.c zF281_116 zK116 .n) (z_h163 rfl) (by decide +kernel) (fun L S hn => match L, hn with
  | [x1], _ => zE281)

-- m_goesBy (218)
noncomputable def zT218 : ZT := [(200, 3, [(52, (0, 0), (0, 0)), (0, (1, 0), (0, 0)), (0, (2, 0), (0, 0)), (0, (3, 0), (0, 0))], f_m_canShowNow), (203, 1, [(52, (0, 0), (0, 0)), (0, (1, 0), (0, 0))], f_m_lastOf), (204, 1, [(52, (0, 0), (0, 0)), (0, (1, 0), (0, 0))], f_m_stateOf)]
theorem zH218 : z_ok zT218 := .c zM200 (.c zM203 (.c zM204 .n))
theorem zF218_200 : z_F zT218 200 = f_m_canShowNow := id rfl
theorem zF218_203 : z_F zT218 203 = f_m_lastOf := id rfl
theorem zF218_204 : z_F zT218 204 = f_m_stateOf := id rfl
def zP218_0 : List ZO := [(7, [(204, 0), (1, 0)]), (3, [(0, 0), (8, 0), (4, 0), (0, 116)]), (3, [(3, 0), (2, 0), (3, 0), (0, 0)]), (5, [(5056, 0), (0, 0), (0, 0), (1, 0)]), (2, [(45, 0), (1, 0), (3, 0), (0, 1), (5, 0)]), (5, [(5056, 0), (0, 0), (0, 0), (1, 0)]), (4, [(3, 0), (5, 0), (0, 5)]), (3, [(1, 0), (1, 0), (6, 0), (2, 0)]), (0, [(0, 0)]), (0, [(0, 1)]), (0, [(0, 0)])]
def zP218_45 : List ZO := [(7, [(203, 0), (1, 0)]), (3, [(4, 0), (6, 0), (4, 0), (5, 0)]), (5, [(4928, 0), (0, 0), (0, 0), (1, 0)]), (3, [(1, 0), (1, 0), (6, 0), (2, 0)]), (0, [(0, 0)]), (3, [(1, 0), (1, 0), (3, 0), (0, 0)]), (0, [(0, 0)]), (0, [(0, 1)]), (5, [(4992, 0), (0, 0), (0, 0), (1, 0)]), (7, [(200, 0), (2, 0), (6, 0), (4, 0)]), (4, [(5, 0), (3, 0), (7, 0)]), (4, [(0, 0), (4, 0), (0, 1)]), (2, [(45, 0), (1, 0), (2, 0), (8, 0), (9, 0)])]
def zD218 : ZD := [(0, 3, [some (52, (0, 0), (0, 0)), some (0, (1, 0), (0, 0)), some (0, (2, 0), (0, 0)), some (0, (3, 0), (0, 0)), none, none], 12, zP218_0), (45, 4, [some (52, (0, 0), (0, 0)), some (0, (1, 0), (0, 0)), none, some (0, (2, 0), (0, 0)), some (0, (3, 0), (0, 0)), some (0, (4, 0), (0, 0))], 14, zP218_45)]
theorem zG218 : z_chk zT218 [] 218 zD218 = true := by decide +kernel
noncomputable def g_m_goesBy (R : ZR) : ZR := z_psi (z_st (z_F zT218) zD218) R
noncomputable def f_m_goesBy : ZFn := fun L S => g_m_goesBy ((1000, L), S)
theorem zM218 : z_met 218 3 [(52, (0, 0), (0, 0)), (0, (1, 0), (0, 0)), (0, (2, 0), (0, 0)), (0, (3, 0), (0, 0))] f_m_goesBy := z_met_psi zH218 (fun _ _ h => absurd h List.not_mem_nil) rfl zG218
theorem zE218_0 {x1 x2 x3 : Int} {S : ZS} : z_st (z_F zT218) zD218 0 [x1, x2, x3] S = (bif decide ((v_m_stateOf x1 S) = 116) then (bif decide (0 ≤ x3) then ((1045, [x1, x3, 1, (S r_m_showHours 0 0 x1)]), S) else (bif !decide ((e_div (S r_m_showHours 0 0 x1) 5) = x2) then ((0, [0]), S) else ((0, [1]), S))) else ((0, [0]), S)) := (id rfl : z_st (z_F zT218) zD218 0 [x1, x2, x3] S = z_ev (z_F zT218) 12 zP218_0 [x1, x2, x3] S).trans (id rfl)
theorem g_m_goesBy_0 {x1 x2 x3 : Int} {S : ZS} : g_m_goesBy ((1000, [x1, x2, x3]), S) = (bif decide ((v_m_stateOf x1 S) = 116) then (bif decide (0 ≤ x3) then (g_m_goesBy ((1045, [x1, x3, 1, (S r_m_showHours 0 0 x1)]), S)) else (bif !decide ((e_div (S r_m_showHours 0 0 x1) 5) = x2) then ((0, [0]), S) else ((0, [1]), S))) else ((0, [0]), S)) := by
  unfold g_m_goesBy
  refine ((z_psi_go (pc := 0)).trans (congrArg _ zE218_0)).trans ?_
  try simp only [z_psi_c, z_psi_b, z_psi_n, Nat.reduceLT, decide_true]
theorem zE218_45 {x1 x2 x3 x4 : Int} {S : ZS} : z_st (z_F zT218) zD218 45 [x1, x2, x3, x4] S = (bif decide ((v_m_lastOf x1 S) < x4) then (bif !decide ((S r_m_showFilms 0 0 x1) = x2) then ((0, [0]), S) else (bif !decide (x3 = 0) then ((0, [0]), S) else ((0, [1]), S))) else (e_bind (f_m_canShowNow [x2, (S r_m_showScreens 0 0 x1), x4] S) (fun v1 S1 => ((1045, [x1, x2, (e_and x3 v1), (e_wr (x4 + 1))]), S1)))) := (id rfl : z_st (z_F zT218) zD218 45 [x1, x2, x3, x4] S = z_ev (z_F zT218) 14 zP218_45 [x1, x2, x3, x4] S).trans (by
  simp -implicitDefEqProofs only [zP218_45, zF218_200, zF218_203, zF218_204, pF_m_lastOf, pF_m_stateOf, Nat.zero_add, Nat.reduceAdd, Nat.reduceBEq, Int.reduceToNat, z_e0, z_e1, z_e2, z_e3, z_e4, z_e5, z_e6, z_e7, z_e8, z_e11, z_e13, o_v0, o_v1, o_v2, List.cons_append, List.nil_append, List.map_cons, List.map_nil, List.drop_succ_cons, List.drop_zero, List.take_succ_cons, List.take_zero, e_c0, e_c1, e_c2, e_c3, e_c4, e_c5, e_b0, e_b1, e_b2, e_b3, e_b4, e_b5, e_b6, e_b7, e_b8, e_b9, e_b10, e_b11, e_b12, e_b13, e_b14, e_b15, e_b16, e_b17, e_n0, e_bnd, e_un]
  try rfl)
theorem g_m_goesBy_45 {x1 x2 x3 x4 : Int} {S : ZS} : g_m_goesBy ((1045, [x1, x2, x3, x4]), S) = (bif decide ((v_m_lastOf x1 S) < x4) then (bif !decide ((S r_m_showFilms 0 0 x1) = x2) then ((0, [0]), S) else (bif !decide (x3 = 0) then ((0, [0]), S) else ((0, [1]), S))) else (e_bind (f_m_canShowNow [x2, (S r_m_showScreens 0 0 x1), x4] S) (fun v1 S1 => (g_m_goesBy ((1045, [x1, x2, (e_and x3 v1), (e_wr (x4 + 1))]), S1))))) := by
  unfold g_m_goesBy
  refine ((z_psi_go (pc := 45)).trans (congrArg _ zE218_45)).trans ?_
  try simp only [z_psi_c, z_psi_b, z_psi_n, Nat.reduceLT, decide_true]
def zW218 : List Nat := []
theorem zK218 : z_kp 3 zW218 f_m_goesBy := fun L S hL hc r i j k hr => z_psi_kp (KT := [(200, 3, zW200), (203, 1, zW203), (204, 1, zW204)]) (F := z_F zT218) (W := zW218) (D := zD218) (.c zF218_200 zK200 (.c zF218_203 zK203 (.c zF218_204 zK204 .n))) (z_h163 rfl) (by decide +kernel) _ hc r i j k hr

-- m_going (220)
noncomputable def zT220 : ZT := [(218, 3, [(52, (0, 0), (0, 0)), (0, (1, 0), (0, 0)), (0, (2, 0), (0, 0)), (0, (3, 0), (0, 0))], f_m_goesBy)]
theorem zH220 : z_ok zT220 := .c zM218 .n
theorem zF220_218 : z_F zT220 218 = f_m_goesBy := id rfl
def zP220_0 : List ZO := [(2, [(5, 0), (1, 0), (2, 0), (0, 0), (0, 0)])]
def zP220_5 : List ZO := [(5, [(3249, 0), (0, 0), (0, 0), (0, 0)]), (3, [(3, 0), (1, 0), (4, 0), (5, 0)]), (0, [(3, 0)]), (7, [(218, 0), (4, 0), (1, 0), (2, 0)]), (3, [(0, 0), (3, 0), (6, 0), (0, 0)]), (4, [(0, 0), (3, 0), (0, 0)]), (4, [(0, 0), (4, 0), (0, 1)]), (2, [(5, 0), (1, 0), (2, 0), (7, 0), (8, 0)]), (4, [(0, 0), (3, 0), (0, 1)]), (4, [(0, 0), (4, 0), (0, 1)]), (2, [(5, 0), (1, 0), (2, 0), (7, 0), (8, 0)])]
def zD220 : ZD := [(0, 2, [some (52, (0, 0), (0, 0)), some (0, (1, 0), (0, 0)), some (0, (2, 0), (0, 0)), none, none], 2, zP220_0), (5, 4, [some (52, (0, 0), (0, 0)), some (0, (1, 0), (0, 0)), some (0, (2, 0), (0, 0)), some (0, (3, 0), (0, 0)), some (0, (4, 0), (0, 0))], 12, zP220_5)]
theorem zG220 : z_chk zT220 [] 220 zD220 = true := by decide +kernel
noncomputable def g_m_going (R : ZR) : ZR := z_psi (z_st (z_F zT220) zD220) R
noncomputable def f_m_going : ZFn := fun L S => g_m_going ((1000, L), S)
theorem zM220 : z_met 220 2 [(52, (0, 0), (0, 0)), (0, (1, 0), (0, 0)), (0, (2, 0), (0, 0))] f_m_going := z_met_psi zH220 (fun _ _ h => absurd h List.not_mem_nil) rfl zG220
theorem zE220_0 {x1 x2 : Int} {S : ZS} : z_st (z_F zT220) zD220 0 [x1, x2] S = ((1005, [x1, x2, 0, 0]), S) := (id rfl : z_st (z_F zT220) zD220 0 [x1, x2] S = z_ev (z_F zT220) 2 zP220_0 [x1, x2] S).trans (id rfl)
theorem g_m_going_0 {x1 x2 : Int} {S : ZS} : g_m_going ((1000, [x1, x2]), S) = (g_m_going ((1005, [x1, x2, 0, 0]), S)) := by
  unfold g_m_going
  refine ((z_psi_go (pc := 0)).trans (congrArg _ zE220_0)).trans ?_
  try simp only [z_psi_c, z_psi_b, z_psi_n, Nat.reduceLT, decide_true]
theorem zE220_5 {x1 x2 x3 x4 : Int} {S : ZS} : z_st (z_F zT220) zD220 5 [x1, x2, x3, x4] S = (bif decide ((S r_m_shows 0 0 0) ≤ x4) then ((0, [x3]), S) else (e_bind (f_m_goesBy [x4, x1, x2] S) (fun v1 S1 => (bif decide (v1 = 0) then ((1005, [x1, x2, (e_wr (x3 + 0)), (e_wr (x4 + 1))]), S1) else ((1005, [x1, x2, (e_wr (x3 + 1)), (e_wr (x4 + 1))]), S1))))) := (id rfl : z_st (z_F zT220) zD220 5 [x1, x2, x3, x4] S = z_ev (z_F zT220) 12 zP220_5 [x1, x2, x3, x4] S).trans (id rfl)
theorem g_m_going_5 {x1 x2 x3 x4 : Int} {S : ZS} : g_m_going ((1005, [x1, x2, x3, x4]), S) = (bif decide ((S r_m_shows 0 0 0) ≤ x4) then ((0, [x3]), S) else (e_bind (f_m_goesBy [x4, x1, x2] S) (fun v1 S1 => (bif decide (v1 = 0) then (g_m_going ((1005, [x1, x2, (e_wr (x3 + 0)), (e_wr (x4 + 1))]), S1)) else (g_m_going ((1005, [x1, x2, (e_wr (x3 + 1)), (e_wr (x4 + 1))]), S1)))))) := by
  unfold g_m_going
  refine ((z_psi_go (pc := 5)).trans (congrArg _ zE220_5)).trans ?_
  try simp only [z_psi_c, z_psi_b, z_psi_n, Nat.reduceLT, decide_true]
def zW220 : List Nat := []
theorem zK220 : z_kp 2 zW220 f_m_going := fun L S hL hc r i j k hr => z_psi_kp (KT := [(218, 3, zW218)]) (F := z_F zT220) (W := zW220) (D := zD220) (.c zF220_218 zK218 .n) (z_h163 rfl) (by decide +kernel) _ hc r i j k hr

-- m_takes (219)
noncomputable def zT219 : ZT := [(167, 2, [(52, (0, 0), (0, 0)), (0, (1, 0), (0, 0)), (0, (2, 0), (0, 0))], f_m_writes), (208, 1, [(52, (0, 0), (0, 0)), (0, (1, 0), (0, 0))], f_m_setAnywhere), (218, 3, [(52, (0, 0), (0, 0)), (0, (1, 0), (0, 0)), (0, (2, 0), (0, 0)), (0, (3, 0), (0, 0))], f_m_goesBy)]
theorem zH219 : z_ok zT219 := .c zM167 (.c zM208 (.c zM218 .n))
theorem zF219_167 : z_F zT219 167 = f_m_writes := id rfl
theorem zF219_208 : z_F zT219 208 = f_m_setAnywhere := id rfl
theorem zF219_218 : z_F zT219 218 = f_m_goesBy := id rfl
def zP219_0 : List ZO := [(5, [(3249, 0), (0, 0), (0, 0), (0, 0)]), (8, []), (2, [(18, 0), (1, 0), (2, 0), (3, 0), (4, 0), (0, 0), (5, 0), (0, 0)])]
def zP219_18 : List ZO := [(3, [(3, 0), (1, 0), (7, 0), (4, 0)]), (2, [(47, 0), (1, 0), (4, 0), (5, 0), (6, 0), (0, 0)]), (7, [(218, 0), (7, 0), (2, 0), (3, 0)]), (6, [(7168, 0), (1, 0), (6, 0), (0, 0), (7, 0), (8, 0)]), (4, [(0, 0), (7, 0), (0, 1)]), (2, [(18, 0), (1, 0), (2, 0), (3, 0), (4, 0), (5, 0), (6, 0), (9, 0)])]
def zP219_47 : List ZO := [(3, [(3, 0), (1, 0), (5, 0), (2, 0)]), (2, [(95, 0), (2, 0), (3, 0), (4, 0), (0, 0)]), (5, [(7168, 0), (4, 0), (0, 0), (5, 0)]), (3, [(0, 0), (2, 0), (6, 0), (0, 0)]), (4, [(0, 0), (5, 0), (0, 1)]), (2, [(47, 0), (1, 0), (2, 0), (3, 0), (4, 0), (7, 0)]), (6, [(5120, 0), (2, 0), (0, 0), (0, 0), (5, 0), (1, 0)]), (5, [(4928, 0), (0, 0), (0, 0), (5, 0)]), (7, [(167, 0), (0, 120), (7, 0)]), (4, [(0, 0), (3, 0), (0, 1)]), (4, [(0, 0), (5, 0), (0, 1)]), (2, [(47, 0), (1, 0), (2, 0), (9, 0), (4, 0), (10, 0)])]
def zP219_95 : List ZO := [(3, [(3, 0), (1, 0), (4, 0), (1, 0)]), (0, [(2, 0)]), (5, [(7168, 0), (3, 0), (0, 0), (4, 0)]), (3, [(0, 0), (2, 0), (5, 0), (0, 0)]), (4, [(0, 0), (4, 0), (0, 1)]), (2, [(95, 0), (1, 0), (2, 0), (3, 0), (6, 0)]), (5, [(4928, 0), (0, 0), (0, 0), (4, 0)]), (7, [(208, 0), (6, 0)]), (3, [(2, 0), (2, 0), (7, 0), (0, 0)]), (4, [(0, 0), (4, 0), (0, 1)]), (2, [(95, 0), (1, 0), (2, 0), (3, 0), (8, 0)]), (9, [(5312, 0), (4, 0), (0, 0), (0, 0), (5312, 0), (7, 0), (0, 0), (0, 0), (0, 16)]), (5, [(5376, 0), (0, 0), (0, 0), (4, 0)]), (6, [(5376, 0), (0, 0), (0, 0), (0, 0), (7, 0), (8, 0)]), (4, [(0, 0), (4, 0), (0, 1)]), (2, [(95, 0), (1, 0), (2, 0), (3, 0), (9, 0)])]
def zD219 : ZD := [(0, 3, [some (52, (0, 0), (0, 0)), some (0, (1, 0), (0, 0)), some (0, (2, 0), (0, 0)), some (0, (3, 0), (0, 0)), none, none, none, none, none], 4, zP219_0), (18, 7, [some (52, (0, 0), (0, 0)), some (0, (1, 0), (0, 0)), some (0, (2, 0), (0, 0)), some (0, (3, 0), (0, 0)), some (0, (4, 0), (0, 0)), some (0, (5, 0), (0, 0)), some (114, (6, 0), (0, 0)), some (0, (7, 0), (0, 0)), none], 7, zP219_18), (47, 5, [some (52, (0, 0), (0, 0)), some (0, (1, 0), (0, 0)), none, none, some (0, (2, 0), (0, 0)), some (0, (3, 0), (0, 0)), some (114, (4, 0), (0, 0)), some (0, (5, 0), (0, 0)), none], 13, zP219_47), (95, 4, [some (52, (0, 0), (0, 0)), none, none, none, some (0, (1, 0), (0, 0)), some (0, (2, 0), (0, 0)), some (114, (3, 0), (0, 0)), some (0, (4, 0), (0, 0)), none], 17, zP219_95)]
theorem zG219 : z_chk zT219 [] 219 zD219 = true := by decide +kernel
noncomputable def g_m_takes (R : ZR) : ZR := z_psi (z_st (z_F zT219) zD219) R
noncomputable def f_m_takes : ZFn := fun L S => g_m_takes ((1000, L), S)
theorem zM219 : z_met 219 3 [(52, (0, 0), (0, 0)), (0, (1, 0), (0, 0)), (0, (2, 0), (0, 0)), (0, (3, 0), (0, 0))] f_m_takes := z_met_psi zH219 (fun _ _ h => absurd h List.not_mem_nil) rfl zG219
theorem zE219_0 {x1 x2 x3 : Int} {S : ZS} : z_st (z_F zT219) zD219 0 [x1, x2, x3] S = ((1018, [x1, x2, x3, (S r_m_shows 0 0 0), 0, (S z_rA 0 0 0), 0]), (e_upd S z_rA 0 0 0 ((S z_rA 0 0 0) + 1))) := (id rfl : z_st (z_F zT219) zD219 0 [x1, x2, x3] S = z_ev (z_F zT219) 4 zP219_0 [x1, x2, x3] S).trans (id rfl)
theorem g_m_takes_0 {x1 x2 x3 : Int} {S : ZS} : g_m_takes ((1000, [x1, x2, x3]), S) = (g_m_takes ((1018, [x1, x2, x3, (S r_m_shows 0 0 0), 0, (S z_rA 0 0 0), 0]), (e_upd S z_rA 0 0 0 ((S z_rA 0 0 0) + 1)))) := by
  unfold g_m_takes
  refine ((z_psi_go (pc := 0)).trans (congrArg _ zE219_0)).trans ?_
  try simp only [z_psi_c, z_psi_b, z_psi_n, Nat.reduceLT, decide_true]
theorem zE219_18 {x1 x2 x3 x4 x5 x6 x7 : Int} {S : ZS} : z_st (z_F zT219) zD219 18 [x1, x2, x3, x4, x5, x6, x7] S = (bif decide (x4 ≤ x7) then ((1047, [x1, x4, x5, x6, 0]), S) else (e_bind (f_m_goesBy [x7, x2, x3] S) (fun v1 S1 => ((1018, [x1, x2, x3, x4, x5, x6, (e_wr (x7 + 1))]), (e_upd S1 r_new x6 0 x7 (e_nar 1 v1)))))) := (id rfl : z_st (z_F zT219) zD219 18 [x1, x2, x3, x4, x5, x6, x7] S = z_ev (z_F zT219) 7 zP219_18 [x1, x2, x3, x4, x5, x6, x7] S).trans (id rfl)
theorem g_m_takes_18 {x1 x2 x3 x4 x5 x6 x7 : Int} {S : ZS} : g_m_takes ((1018, [x1, x2, x3, x4, x5, x6, x7]), S) = (bif decide (x4 ≤ x7) then (g_m_takes ((1047, [x1, x4, x5, x6, 0]), S)) else (e_bind (f_m_goesBy [x7, x2, x3] S) (fun v1 S1 => (g_m_takes ((1018, [x1, x2, x3, x4, x5, x6, (e_wr (x7 + 1))]), (e_upd S1 r_new x6 0 x7 (e_nar 1 v1))))))) := by
  unfold g_m_takes
  refine ((z_psi_go (pc := 18)).trans (congrArg _ zE219_18)).trans ?_
  try simp only [z_psi_c, z_psi_b, z_psi_n, Nat.reduceLT, decide_true]
theorem zE219_47 {x1 x2 x3 x4 x5 : Int} {S : ZS} : z_st (z_F zT219) zD219 47 [x1, x2, x3, x4, x5] S = (bif decide (x2 ≤ x5) then ((1095, [x2, x3, x4, 0]), S) else (bif decide ((S r_new x4 0 x5) = 0) then ((1047, [x1, x2, x3, x4, (e_wr (x5 + 1))]), S) else (e_bind (f_m_writes [120, (S r_m_showFilms 0 0 x5)] (e_upd S r_m_gone 0 0 x5 (e_nar 2 x1))) (fun v1 S1 => ((1047, [x1, x2, (e_wr (x3 + 1)), x4, (e_wr (x5 + 1))]), S1))))) := (id rfl : z_st (z_F zT219) zD219 47 [x1, x2, x3, x4, x5] S = z_ev (z_F zT219) 13 zP219_47 [x1, x2, x3, x4, x5] S).trans (id rfl)
theorem g_m_takes_47 {x1 x2 x3 x4 x5 : Int} {S : ZS} : g_m_takes ((1047, [x1, x2, x3, x4, x5]), S) = (bif decide (x2 ≤ x5) then (g_m_takes ((1095, [x2, x3, x4, 0]), S)) else (bif decide ((S r_new x4 0 x5) = 0) then (g_m_takes ((1047, [x1, x2, x3, x4, (e_wr (x5 + 1))]), S)) else (e_bind (f_m_writes [120, (S r_m_showFilms 0 0 x5)] (e_upd S r_m_gone 0 0 x5 (e_nar 2 x1))) (fun v1 S1 => (g_m_takes ((1047, [x1, x2, (e_wr (x3 + 1)), x4, (e_wr (x5 + 1))]), S1)))))) := by
  unfold g_m_takes
  refine ((z_psi_go (pc := 47)).trans (congrArg _ zE219_47)).trans ?_
  try simp only [z_psi_c, z_psi_b, z_psi_n, Nat.reduceLT, decide_true]
theorem zE219_95 {x1 x2 x3 x4 : Int} {S : ZS} : z_st (z_F zT219) zD219 95 [x1, x2, x3, x4] S = (bif decide (x1 ≤ x4) then ((0, [x2]), S) else (bif decide ((S r_new x3 0 x4) = 0) then ((1095, [x1, x2, x3, (e_wr (x4 + 1))]), S) else (e_bind (f_m_setAnywhere [(S r_m_showFilms 0 0 x4)] S) (fun v1 S1 => (bif decide (v1 < 0) then ((1095, [x1, x2, x3, (e_wr (x4 + 1))]), S1) else ((1095, [x1, x2, x3, (e_wr (x4 + 1))]), (e_upd (e_acp S1 r_m_waits_r x4 0 0 r_m_waits_r v1 0 0 16) r_m_waitMany 0 0 v1 ((e_acp S1 r_m_waits_r x4 0 0 r_m_waits_r v1 0 0 16) r_m_waitMany 0 0 x4)))))))) := (id rfl : z_st (z_F zT219) zD219 95 [x1, x2, x3, x4] S = z_ev (z_F zT219) 17 zP219_95 [x1, x2, x3, x4] S).trans (by
  simp -implicitDefEqProofs only [zP219_95, zF219_167, zF219_208, zF219_218, Nat.zero_add, Nat.reduceAdd, Nat.reduceBEq, Int.reduceToNat, z_e0, z_e1, z_e2, z_e3, z_e4, z_e5, z_e6, z_e7, z_e8, z_e11, z_e13, o_v0, o_v1, o_v2, List.cons_append, List.nil_append, List.map_cons, List.map_nil, List.drop_succ_cons, List.drop_zero, List.take_succ_cons, List.take_zero, e_c0, e_c1, e_c2, e_c3, e_c4, e_c5, e_b0, e_b1, e_b2, e_b3, e_b4, e_b5, e_b6, e_b7, e_b8, e_b9, e_b10, e_b11, e_b12, e_b13, e_b14, e_b15, e_b16, e_b17, e_n0, e_bnd, e_un]
  try rfl)
theorem g_m_takes_95 {x1 x2 x3 x4 : Int} {S : ZS} : g_m_takes ((1095, [x1, x2, x3, x4]), S) = (bif decide (x1 ≤ x4) then ((0, [x2]), S) else (bif decide ((S r_new x3 0 x4) = 0) then (g_m_takes ((1095, [x1, x2, x3, (e_wr (x4 + 1))]), S)) else (e_bind (f_m_setAnywhere [(S r_m_showFilms 0 0 x4)] S) (fun v1 S1 => (bif decide (v1 < 0) then (g_m_takes ((1095, [x1, x2, x3, (e_wr (x4 + 1))]), S1)) else (g_m_takes ((1095, [x1, x2, x3, (e_wr (x4 + 1))]), (e_upd (e_acp S1 r_m_waits_r x4 0 0 r_m_waits_r v1 0 0 16) r_m_waitMany 0 0 v1 ((e_acp S1 r_m_waits_r x4 0 0 r_m_waits_r v1 0 0 16) r_m_waitMany 0 0 x4))))))))) := by
  unfold g_m_takes
  refine ((z_psi_go (pc := 95)).trans (congrArg _ zE219_95)).trans ?_
  try simp only [z_psi_c, z_psi_b, z_psi_n, Nat.reduceLT, decide_true]
def zW219 : List Nat := [r_m_shows, r_m_lineMany, r_m_showFilms, r_m_showScreens, r_m_showHours, r_m_gone, r_m_waits_r, r_m_waitMany, r_m_letters, r_m_lineFilms, r_new, z_rA]
theorem zK219 : z_kp 3 zW219 f_m_takes := fun L S hL hc r i j k hr => z_psi_kp (KT := [(167, 2, zW167), (208, 1, zW208), (218, 3, zW218)]) (F := z_F zT219) (W := zW219) (D := zD219) (.c zF219_167 zK167 (.c zF219_208 zK208 (.c zF219_218 zK218 .n))) (z_h163 rfl) (by decide +kernel) _ hc r i j k hr

-- m_storm (221)
noncomputable def zT221 : ZT := [(163, 2, [(52, (0, 0), (0, 0)), (0, (1, 0), (0, 0)), (0, (2, 0), (0, 0))], f_m_isThrown), (164, 3, [(0, (1, 0), (0, 0)), (0, (2, 0), (0, 0)), (0, (3, 0), (0, 0))], f_m_isIn), (219, 3, [(52, (0, 0), (0, 0)), (0, (1, 0), (0, 0)), (0, (2, 0), (0, 0)), (0, (3, 0), (0, 0))], f_m_takes), (220, 2, [(52, (0, 0), (0, 0)), (0, (1, 0), (0, 0)), (0, (2, 0), (0, 0))], f_m_going)]
theorem zH221 : z_ok zT221 := .c zM163 (.c zM164 (.c zM219 (.c zM220 .n)))
theorem zF221_163 : z_F zT221 163 = f_m_isThrown := id rfl
theorem zF221_164 : z_F zT221 164 = f_m_isIn := id rfl
theorem zF221_219 : z_F zT221 219 = f_m_takes := id rfl
theorem zF221_220 : z_F zT221 220 = f_m_going := id rfl
def zP221_0 : List ZO := [(7, [(164, 0), (1, 0), (0, 0), (0, 9)]), (3, [(1, 0), (15, 0), (2, 0), (0, 0)]), (13, [(163, 0), (0, 0), (0, 0), (0, 1)]), (5, [(5568, 0), (0, 0), (0, 0), (1, 0)]), (13, [(163, 0), (0, 0), (3, 0), (0, 2)]), (3, [(1, 0), (1, 0), (3, 0), (0, 0)]), (0, [(0, 0)]), (5, [(3249, 0), (0, 0), (0, 0), (0, 0)]), (7, [(220, 0), (1, 0), (0, (-1))]), (4, [(0, 0), (4, 0), (5, 0)]), (3, [(5, 0), (4, 0), (6, 0), (0, 60)]), (13, [(163, 0), (0, 0), (0, 0), (0, 3)]), (6, [(5568, 0), (1, 0), (0, 0), (0, 0), (1, 0), (0, 1)]), (7, [(219, 0), (0, 115), (1, 0), (0, (-1))]), (0, [(7, 0)]), (13, [(163, 0), (0, 0), (0, 1), (0, 3)]), (0, [(0, 0)]), (13, [(163, 0), (0, 0), (0, 1), (0, 1)]), (0, [(0, 0)])]
def zC221 : ZC := [(0, 1, [some (52, (0, 0), (0, 0)), some (0, (1, 0), (0, 0))])]
theorem zG221 : z_go zC221 (z_A zT221) [(163, 0)] 221 400 true 20 zP221_0 0 [some (52, (0, 0), (0, 0)), some (0, (1, 0), (0, 0))] [] 1 = true := by decide +kernel
noncomputable def f_m_storm : ZFn := fun L S => match L with
  | [x1] => (bif !decide ((v_m_isIn x1 0 9 S) = 0) then (bif !decide ((S r_m_storms 0 0 x1) = 0) then ((0, [0]), (e_upd (e_upd S r_m_thrown 0 0 0 0) r_m_thrown 0 0 0 (bif !decide ((S r_m_storms 0 0 x1) = 0) then 2 else 0))) else (e_bind (f_m_going [x1, (-1)] (e_upd (e_upd S r_m_thrown 0 0 0 0) r_m_thrown 0 0 0 (bif !decide ((S r_m_storms 0 0 x1) = 0) then 2 else 0))) (fun v1 S1 => (bif decide ((e_wr ((S r_m_shows 0 0 0) + v1)) ≤ 60) then (e_bind (f_m_takes [115, x1, (-1)] (e_upd (e_upd S1 r_m_thrown 0 0 0 0) r_m_storms 0 0 x1 (e_nar 1 1))) (fun v2 S2 => ((0, [v2]), S2))) else ((0, [0]), (e_upd S1 r_m_thrown 0 0 0 3)))))) else ((0, [0]), (e_upd S r_m_thrown 0 0 0 1)))
  | _ => ((0, []), S)
theorem zE221 {x1 : Int} {S : ZS} : z_ev (z_F zT221) 20 zP221_0 [x1] S = f_m_storm [x1] S := by
  simp -implicitDefEqProofs only [zP221_0, zF221_163, zF221_164, zF221_219, zF221_220, zpI0, zpI1, zpIc, pF_m_isIn, Nat.zero_add, Nat.reduceAdd, Nat.reduceBEq, Int.reduceToNat, z_e0, z_e1, z_e2, z_e3, z_e4, z_e5, z_e6, z_e7, z_e8, z_e11, z_e13, o_v0, o_v1, o_v2, List.cons_append, List.nil_append, List.map_cons, List.map_nil, List.drop_succ_cons, List.drop_zero, List.take_succ_cons, List.take_zero, e_c0, e_c1, e_c2, e_c3, e_c4, e_c5, e_b0, e_b1, e_b2, e_b3, e_b4, e_b5, e_b6, e_b7, e_b8, e_b9, e_b10, e_b11, e_b12, e_b13, e_b14, e_b15, e_b16, e_b17, e_n0, e_bnd, e_un]
  try rfl
theorem zM221 : z_met 221 1 [(52, (0, 0), (0, 0)), (0, (1, 0), (0, 0))] f_m_storm := z_met_ev zH221 (fun _ _ h => by rw [List.mem_singleton] at h; cases h; exact fun _ _ => rfl) rfl zG221 (by decide +kernel) (fun L S hn => match L, hn with
  | [x1], _ => zE221)
def zW221 : List Nat := [r_m_shows, r_m_lineMany, r_m_thrown, r_m_showFilms, r_m_showScreens, r_m_showHours, r_m_gone, r_m_waits_r, r_m_waitMany, r_m_storms, r_m_letters, r_m_lineFilms, r_new, z_rA]
theorem zK221 : z_kp 1 zW221 f_m_storm := z_kp_ev (KT := [(163, 2, zW163), (164, 3, zW164), (219, 3, zW219), (220, 2, zW220)]) (.c zF221_163 zK163 (.c zF221_164 zK164 (.c zF221_219 zK219 (.c zF221_220 zK220 .n)))) (fun _ _ => Or.inl rfl) (by decide +kernel) (fun L S hn => match L, hn with
  | [x1], _ => zE221)

-- Grid_findWithoutPrint (42)
noncomputable def zT42 : ZT := [(31, 1, [(3, (0, 0), (0, 0)), (17, (1, 0), (0, 0))], f_Grid_stateOf), (33, 4, [(3, (0, 0), (0, 0)), (0, (1, 0), (0, 0)), (0, (2, 0), (0, 0)), (0, (3, 0), (0, 0)), (0, (4, 0), (0, 0))], f_Grid_canRunThrough), (44, 1, [(3, (0, 0), (0, 0)), (0, (1, 0), (0, 0))], f_Grid_addFound)]
theorem zH42 : z_ok zT42 := .c zM31 (.c zM33 (.c zM44 .n))
theorem zF42_31 : z_F zT42 31 = f_Grid_stateOf := id rfl
theorem zF42_33 : z_F zT42 33 = f_Grid_canRunThrough := id rfl
theorem zF42_44 : z_F zT42 44 = f_Grid_addFound := id rfl
def zP42_0 : List ZO := [(6, [(72, 0), (0, 0), (0, 0), (0, 0), (0, 0), (0, 0)]), (2, [(7, 0), (1, 0), (2, 0), (0, 0)])]
def zP42_7 : List ZO := [(5, [(68, 0), (0, 0), (0, 0), (0, 0)]), (3, [(3, 0), (2, 0), (3, 0), (4, 0)]), (5, [(72, 0), (0, 0), (0, 0), (0, 0)]), (0, [(5, 0)]), (5, [(960, 0), (3, 0), (0, 0), (0, 0)]), (3, [(1, 0), (2, 0), (5, 0), (1, 0)]), (4, [(0, 0), (3, 0), (0, 1)]), (2, [(7, 0), (1, 0), (2, 0), (6, 0)]), (7, [(31, 0), (3, 0)]), (3, [(1, 0), (2, 0), (6, 0), (0, 116)]), (4, [(0, 0), (3, 0), (0, 1)]), (2, [(7, 0), (1, 0), (2, 0), (7, 0)]), (5, [(961, 0), (3, 0), (0, 0), (0, 0)]), (5, [(962, 0), (3, 0), (0, 0), (0, 0)]), (7, [(33, 0), (1, 0), (7, 0), (8, 0), (2, 0)]), (3, [(1, 0), (2, 0), (9, 0), (0, 0)]), (4, [(0, 0), (3, 0), (0, 1)]), (2, [(7, 0), (1, 0), (2, 0), (10, 0)]), (7, [(44, 0), (3, 0)]), (4, [(0, 0), (3, 0), (0, 1)]), (2, [(7, 0), (1, 0), (2, 0), (11, 0)])]
def zD42 : ZD := [(0, 2, [some (3, (0, 0), (0, 0)), some (0, (1, 0), (0, 0)), some (0, (2, 0), (0, 0)), none, none], 3, zP42_0), (7, 3, [some (3, (0, 0), (0, 0)), some (0, (1, 0), (0, 0)), some (0, (2, 0), (0, 0)), some (0, (3, 0), (0, 0)), none], 22, zP42_7)]
theorem zG42 : z_chk zT42 [] 42 zD42 = true := by decide +kernel
noncomputable def g_Grid_findWithoutPrint (R : ZR) : ZR := z_psi (z_st (z_F zT42) zD42) R
noncomputable def f_Grid_findWithoutPrint : ZFn := fun L S => g_Grid_findWithoutPrint ((1000, L), S)
theorem zM42 : z_met 42 2 [(3, (0, 0), (0, 0)), (0, (1, 0), (0, 0)), (0, (2, 0), (0, 0))] f_Grid_findWithoutPrint := z_met_psi zH42 (fun _ _ h => absurd h List.not_mem_nil) rfl zG42
theorem zE42_0 {x1 x2 : Int} {S : ZS} : z_st (z_F zT42) zD42 0 [x1, x2] S = ((1007, [x1, x2, 0]), (e_upd S r_Grid_foundCount 0 0 0 0)) := (id rfl : z_st (z_F zT42) zD42 0 [x1, x2] S = z_ev (z_F zT42) 3 zP42_0 [x1, x2] S).trans (id rfl)
theorem g_Grid_findWithoutPrint_0 {x1 x2 : Int} {S : ZS} : g_Grid_findWithoutPrint ((1000, [x1, x2]), S) = (g_Grid_findWithoutPrint ((1007, [x1, x2, 0]), (e_upd S r_Grid_foundCount 0 0 0 0))) := by
  unfold g_Grid_findWithoutPrint
  refine ((z_psi_go (pc := 0)).trans (congrArg _ zE42_0)).trans ?_
  try simp only [z_psi_c, z_psi_b, z_psi_n, Nat.reduceLT, decide_true]
theorem zE42_7 {x1 x2 x3 : Int} {S : ZS} : z_st (z_F zT42) zD42 7 [x1, x2, x3] S = (bif decide ((S r_Grid_showCount 0 0 0) ≤ x3) then ((0, [(S r_Grid_foundCount 0 0 0)]), S) else (bif !decide ((S r_Show_film x3 0 0) = x1) then ((1007, [x1, x2, (e_wr (x3 + 1))]), S) else (bif !decide ((v_Grid_stateOf x3 S) = 116) then ((1007, [x1, x2, (e_wr (x3 + 1))]), S) else (e_bind (f_Grid_canRunThrough [x1, (S r_Show_screen x3 0 0), (S r_Show_first x3 0 0), x2] S) (fun v1 S1 => (bif !decide (v1 = 0) then ((1007, [x1, x2, (e_wr (x3 + 1))]), S1) else (e_bind (f_Grid_addFound [x3] S1) (fun v2 S2 => ((1007, [x1, x2, (e_wr (x3 + 1))]), S2))))))))) := (id rfl : z_st (z_F zT42) zD42 7 [x1, x2, x3] S = z_ev (z_F zT42) 22 zP42_7 [x1, x2, x3] S).trans (by
  simp -implicitDefEqProofs only [zP42_7, zF42_31, zF42_33, zF42_44, pF_Grid_stateOf, Nat.zero_add, Nat.reduceAdd, Nat.reduceBEq, Int.reduceToNat, z_e0, z_e1, z_e2, z_e3, z_e4, z_e5, z_e6, z_e7, z_e8, z_e11, z_e13, o_v0, o_v1, o_v2, List.cons_append, List.nil_append, List.map_cons, List.map_nil, List.drop_succ_cons, List.drop_zero, List.take_succ_cons, List.take_zero, e_c0, e_c1, e_c2, e_c3, e_c4, e_c5, e_b0, e_b1, e_b2, e_b3, e_b4, e_b5, e_b6, e_b7, e_b8, e_b9, e_b10, e_b11, e_b12, e_b13, e_b14, e_b15, e_b16, e_b17, e_n0, e_bnd, e_un]
  try rfl)
theorem g_Grid_findWithoutPrint_7 {x1 x2 x3 : Int} {S : ZS} : g_Grid_findWithoutPrint ((1007, [x1, x2, x3]), S) = (bif decide ((S r_Grid_showCount 0 0 0) ≤ x3) then ((0, [(S r_Grid_foundCount 0 0 0)]), S) else (bif !decide ((S r_Show_film x3 0 0) = x1) then (g_Grid_findWithoutPrint ((1007, [x1, x2, (e_wr (x3 + 1))]), S)) else (bif !decide ((v_Grid_stateOf x3 S) = 116) then (g_Grid_findWithoutPrint ((1007, [x1, x2, (e_wr (x3 + 1))]), S)) else (e_bind (f_Grid_canRunThrough [x1, (S r_Show_screen x3 0 0), (S r_Show_first x3 0 0), x2] S) (fun v1 S1 => (bif !decide (v1 = 0) then (g_Grid_findWithoutPrint ((1007, [x1, x2, (e_wr (x3 + 1))]), S1)) else (e_bind (f_Grid_addFound [x3] S1) (fun v2 S2 => (g_Grid_findWithoutPrint ((1007, [x1, x2, (e_wr (x3 + 1))]), S2)))))))))) := by
  unfold g_Grid_findWithoutPrint
  refine ((z_psi_go (pc := 7)).trans (congrArg _ zE42_7)).trans ?_
  try simp only [z_psi_c, z_psi_b, z_psi_n, Nat.reduceLT, decide_true]
def zW42 : List Nat := [r_Grid_foundCount, r_Grid_found]
theorem zK42 : z_kp 2 zW42 f_Grid_findWithoutPrint := fun L S hL hc r i j k hr => z_psi_kp (KT := [(31, 1, zW31), (33, 4, zW33), (44, 1, zW44)]) (F := z_F zT42) (W := zW42) (D := zD42) (.c zF42_31 zK31 (.c zF42_33 zK33 (.c zF42_44 zK44 .n))) (z_h163 rfl) (by decide +kernel) _ hc r i j k hr

-- x_late (117)
noncomputable def zT117 : ZT := [(42, 2, [(3, (0, 0), (0, 0)), (0, (1, 0), (0, 0)), (0, (2, 0), (0, 0))], f_Grid_findWithoutPrint), (45, 1, [(3, (0, 0), (0, 0)), (0, (1, 0), (0, 0))], f_Grid_takeFound), (46, 0, [(3, (0, 0), (0, 0))], f_Grid_setFoundAnew), (143, 1, [(2, (0, 0), (0, 0)), (0, (1, 0), (0, 0))], f_x_checkFilm)]
theorem zH117 : z_ok zT117 := .c zM42 (.c zM45 (.c zM46 (.c zM143 .n)))
theorem zF117_42 : z_F zT117 42 = f_Grid_findWithoutPrint := id rfl
theorem zF117_45 : z_F zT117 45 = f_Grid_takeFound := id rfl
theorem zF117_46 : z_F zT117 46 = f_Grid_setFoundAnew := id rfl
theorem zF117_143 : z_F zT117 143 = f_x_checkFilm := id rfl
def zP117_0 : List ZO := [(7, [(143, 0), (1, 0)]), (5, [(199, 0), (1, 0), (0, 0), (0, 0)]), (3, [(0, 0), (3, 0), (4, 0), (0, 45)]), (3, [(3, 0), (1, 0), (2, 0), (0, 50)]), (1, [(1, 0)]), (1, [(3, 0)]), (3, [(3, 0), (1, 0), (2, 0), (0, 50)]), (1, [(1, 0)]), (5, [(200, 0), (1, 0), (0, 0), (0, 0)]), (3, [(4, 0), (9, 0), (2, 0), (5, 0)]), (7, [(42, 0), (1, 0), (2, 0)]), (5, [(68, 0), (0, 0), (0, 0), (0, 0)]), (4, [(0, 0), (7, 0), (6, 0)]), (3, [(5, 0), (4, 0), (8, 0), (0, 60)]), (6, [(200, 0), (0, 0), (1, 0), (0, 0), (0, 0), (2, 0)]), (7, [(45, 0), (0, 108)]), (7, [(46, 0)]), (0, [(6, 0)]), (1, [(2, 0)]), (1, [(1, 0)])]
def zC117 : ZC := [(0, 2, [some (2, (0, 0), (0, 0)), some (0, (1, 0), (0, 0)), some (0, (2, 0), (0, 0)), none, none])]
theorem zG117 : z_go zC117 (z_A zT117) [] 117 400 true 21 zP117_0 0 [some (2, (0, 0), (0, 0)), some (0, (1, 0), (0, 0)), some (0, (2, 0), (0, 0)), none, none] [] 2 = true := by decide +kernel
noncomputable def f_x_late : ZFn := fun L S => match L with
  | [x1, x2] => (e_bind (f_x_checkFilm [x1] S) (fun v1 S1 => (bif decide ((S1 r_Film_kind x1 0 0) = 45) then (bif decide (50 ≤ x2) then ((2, []), S1) else ((4, []), S1)) else (bif decide (50 ≤ x2) then ((2, []), S1) else (bif decide ((S1 r_Film_comes x1 0 0) < x2) then (e_bind (f_Grid_findWithoutPrint [x1, x2] S1) (fun v2 S2 => (bif decide ((e_wr ((S2 r_Grid_showCount 0 0 0) + v2)) ≤ 60) then (e_bind (f_Grid_takeFound [108] (e_upd S2 r_Film_comes x1 0 0 x2)) (fun v3 S3 => (e_bind (f_Grid_setFoundAnew [] S3) (fun v4 S4 => ((0, [v2]), S4))))) else ((3, []), S2)))) else ((2, []), S1))))))
  | _ => ((0, []), S)
theorem zE117 {x1 x2 : Int} {S : ZS} : z_ev (z_F zT117) 21 zP117_0 [x1, x2] S = f_x_late [x1, x2] S := by
  simp -implicitDefEqProofs only [zP117_0, zF117_42, zF117_45, zF117_46, zF117_143, Nat.zero_add, Nat.reduceAdd, Nat.reduceBEq, Int.reduceToNat, z_e0, z_e1, z_e2, z_e3, z_e4, z_e5, z_e6, z_e7, z_e8, z_e11, z_e13, o_v0, o_v1, o_v2, List.cons_append, List.nil_append, List.map_cons, List.map_nil, List.drop_succ_cons, List.drop_zero, List.take_succ_cons, List.take_zero, e_c0, e_c1, e_c2, e_c3, e_c4, e_c5, e_b0, e_b1, e_b2, e_b3, e_b4, e_b5, e_b6, e_b7, e_b8, e_b9, e_b10, e_b11, e_b12, e_b13, e_b14, e_b15, e_b16, e_b17, e_n0, e_bnd, e_un]
  try rfl
theorem zM117 : z_met 117 2 [(2, (0, 0), (0, 0)), (0, (1, 0), (0, 0)), (0, (2, 0), (0, 0))] f_x_late := z_met_ev zH117 (fun _ _ h => absurd h List.not_mem_nil) rfl zG117 (by decide +kernel) (fun L S hn => match L, hn with
  | [x1, x2], _ => zE117)
def zW117 : List Nat := [r_Grid_showCount, r_Grid_foundCount, r_Film_comes, r_Archive_lineCount, r_Archive_next, r_Archive_letters, r_Archive_filmOf, r_Show_film, r_Show_screen, r_Show_first, r_Show_length, r_Show_cause, r_Show_waiting, r_Show_queue, r_Grid_found]
theorem zK117 : z_kp 2 zW117 f_x_late := z_kp_ev (KT := [(42, 2, zW42), (45, 1, zW45), (46, 0, zW46), (143, 1, zW143)]) (.c zF117_42 zK42 (.c zF117_45 zK45 (.c zF117_46 zK46 (.c zF117_143 zK143 .n)))) (z_h163 rfl) (by decide +kernel) (fun L S hn => match L, hn with
  | [x1, x2], _ => zE117)

-- w_late (282)
noncomputable def zT282 : ZT := [(117, 2, [(2, (0, 0), (0, 0)), (0, (1, 0), (0, 0)), (0, (2, 0), (0, 0))], f_x_late)]
theorem zH282 : z_ok zT282 := .c zM117 .n
theorem zF282_117 : z_F zT282 117 = f_x_late := id rfl
def zP282_0 : List ZO := [(11, [(117, 0), (4, 0), (0, 2), (1, 3), (3, 4), (2, 5), (1, 0), (2, 0)]), (6, [(6976, 0), (0, 0), (0, 0), (0, 0), (0, 0), (3, 0)]), (0, [(0, 0)]), (0, [(0, 1)]), (0, [(0, 2)]), (0, [(0, 3)]), (0, [(0, 4)])]
def zC282 : ZC := [(0, 2, [some (2, (0, 0), (0, 0)), some (0, (1, 0), (0, 0)), some (0, (2, 0), (0, 0)), some (111, (0, 0), (0, 0)), none])]
theorem zG282 : z_go zC282 (z_A zT282) [] 282 400 true 8 zP282_0 0 [some (2, (0, 0), (0, 0)), some (0, (1, 0), (0, 0)), some (0, (2, 0), (0, 0)), some (111, (0, 0), (0, 0)), none] [] 2 = true := by decide +kernel
noncomputable def f_w_late : ZFn := fun L S => match L with
  | [x1, x2] => (e_try (f_x_late [x1, x2] S) (fun v1 S1 => ((0, [0]), (e_upd S1 r_out 0 0 0 v1))) [(0, 1), (1, 2), (3, 3), (2, 4)])
  | _ => ((0, []), S)
theorem zE282 {x1 x2 : Int} {S : ZS} : z_ev (z_F zT282) 8 zP282_0 [x1, x2] S = f_w_late [x1, x2] S := id rfl
theorem zM282 : z_met 282 2 [(2, (0, 0), (0, 0)), (0, (1, 0), (0, 0)), (0, (2, 0), (0, 0)), (111, (0, 0), (0, 0))] f_w_late := z_met_ev zH282 (fun _ _ h => absurd h List.not_mem_nil) rfl zG282 (by decide +kernel) (fun L S hn => match L, hn with
  | [x1, x2], _ => zE282)
def zW282 : List Nat := [r_Grid_showCount, r_Grid_foundCount, r_Film_comes, r_Archive_lineCount, r_Archive_next, r_Archive_letters, r_Archive_filmOf, r_Show_film, r_Show_screen, r_Show_first, r_Show_length, r_Show_cause, r_Show_waiting, r_Show_queue, r_Grid_found, r_out]
theorem zK282 : z_kp 2 zW282 f_w_late := z_kp_ev (KT := [(117, 2, zW117)]) (.c zF282_117 zK117 .n) (z_h163 rfl) (by decide +kernel) (fun L S hn => match L, hn with
  | [x1, x2], _ => zE282)

-- m_late (222)
noncomputable def zT222 : ZT := [(163, 2, [(52, (0, 0), (0, 0)), (0, (1, 0), (0, 0)), (0, (2, 0), (0, 0))], f_m_isThrown), (166, 1, [(52, (0, 0), (0, 0)), (0, (1, 0), (0, 0))], f_m_isNoFilm), (219, 3, [(52, (0, 0), (0, 0)), (0, (1, 0), (0, 0)), (0, (2, 0), (0, 0)), (0, (3, 0), (0, 0))], f_m_takes), (220, 2, [(52, (0, 0), (0, 0)), (0, (1, 0), (0, 0)), (0, (2, 0), (0, 0))], f_m_going)]
theorem zH222 : z_ok zT222 := .c zM163 (.c zM166 (.c zM219 (.c zM220 .n)))
theorem zF222_163 : z_F zT222 163 = f_m_isThrown := id rfl
theorem zF222_166 : z_F zT222 166 = f_m_isNoFilm := id rfl
theorem zF222_219 : z_F zT222 219 = f_m_takes := id rfl
theorem zF222_220 : z_F zT222 220 = f_m_going := id rfl
def zP222_0 : List ZO := [(7, [(166, 0), (1, 0)]), (13, [(163, 0), (0, 0), (3, 0), (0, 1)]), (3, [(1, 0), (1, 0), (3, 0), (0, 0)]), (0, [(0, 0)]), (3, [(3, 0), (2, 0), (2, 0), (0, 50)]), (13, [(163, 0), (0, 0), (0, 1), (0, 2)]), (0, [(0, 0)]), (5, [(3712, 0), (0, 0), (0, 0), (1, 0)]), (3, [(0, 0), (18, 0), (4, 0), (0, 0)]), (13, [(163, 0), (0, 0), (0, 0), (0, 2)]), (5, [(3712, 0), (0, 0), (0, 0), (1, 0)]), (3, [(1, 0), (13, 0), (5, 0), (0, 0)]), (13, [(163, 0), (0, 0), (0, 0), (0, 3)]), (5, [(3776, 0), (0, 0), (0, 0), (1, 0)]), (6, [(3776, 0), (0, 0), (0, 0), (0, 0), (1, 0), (2, 0)]), (5, [(3249, 0), (0, 0), (0, 0), (0, 0)]), (7, [(220, 0), (0, (-1)), (1, 0)]), (4, [(0, 0), (7, 0), (8, 0)]), (3, [(5, 0), (3, 0), (9, 0), (0, 60)]), (13, [(163, 0), (0, 0), (0, 0), (0, 4)]), (7, [(219, 0), (0, 108), (0, (-1)), (1, 0)]), (0, [(10, 0)]), (13, [(163, 0), (0, 0), (0, 1), (0, 4)]), (6, [(3776, 0), (0, 0), (0, 0), (0, 0), (1, 0), (6, 0)]), (0, [(0, 0)]), (13, [(163, 0), (0, 0), (0, 1), (0, 3)]), (0, [(0, 0)]), (5, [(3776, 0), (0, 0), (0, 0), (1, 0)]), (3, [(4, 0), (18, 0), (2, 0), (5, 0)]), (13, [(163, 0), (0, 0), (0, 0), (0, 2)]), (5, [(3712, 0), (0, 0), (0, 0), (1, 0)]), (3, [(1, 0), (13, 0), (6, 0), (0, 0)]), (13, [(163, 0), (0, 0), (0, 0), (0, 3)]), (5, [(3776, 0), (0, 0), (0, 0), (1, 0)]), (6, [(3776, 0), (0, 0), (0, 0), (0, 0), (1, 0), (2, 0)]), (5, [(3249, 0), (0, 0), (0, 0), (0, 0)]), (7, [(220, 0), (0, (-1)), (1, 0)]), (4, [(0, 0), (8, 0), (9, 0)]), (3, [(5, 0), (3, 0), (10, 0), (0, 60)]), (13, [(163, 0), (0, 0), (0, 0), (0, 4)]), (7, [(219, 0), (0, 108), (0, (-1)), (1, 0)]), (0, [(11, 0)]), (13, [(163, 0), (0, 0), (0, 1), (0, 4)]), (6, [(3776, 0), (0, 0), (0, 0), (0, 0), (1, 0), (7, 0)]), (0, [(0, 0)]), (13, [(163, 0), (0, 0), (0, 1), (0, 3)]), (0, [(0, 0)]), (13, [(163, 0), (0, 0), (0, 1), (0, 2)]), (0, [(0, 0)])]
def zC222 : ZC := [(0, 2, [some (52, (0, 0), (0, 0)), some (0, (1, 0), (0, 0)), some (0, (2, 0), (0, 0)), none])]
theorem zG222 : z_go zC222 (z_A zT222) [(163, 0)] 222 400 true 50 zP222_0 0 [some (52, (0, 0), (0, 0)), some (0, (1, 0), (0, 0)), some (0, (2, 0), (0, 0)), none] [] 2 = true := by decide +kernel
noncomputable def f_m_late : ZFn := fun L S => match L with
  | [x1, x2] => (bif !decide ((v_m_isNoFilm x1 S) = 0) then ((0, [0]), (e_upd S r_m_thrown 0 0 0 (bif !decide ((v_m_isNoFilm x1 S) = 0) then 1 else 0))) else (bif decide (50 ≤ x2) then ((0, [0]), (e_upd (e_upd S r_m_thrown 0 0 0 (bif !decide ((v_m_isNoFilm x1 S) = 0) then 1 else 0)) r_m_thrown 0 0 0 2)) else (bif decide ((S r_m_prints 0 0 x1) = 0) then (bif !decide ((S r_m_prints 0 0 x1) = 0) then (e_bind (f_m_going [(-1), x1] (e_upd (e_upd (e_upd (e_upd S r_m_thrown 0 0 0 (bif !decide ((v_m_isNoFilm x1 S) = 0) then 1 else 0)) r_m_thrown 0 0 0 0) r_m_thrown 0 0 0 0) r_m_printHours 0 0 x1 x2)) (fun v1 S1 => (bif decide ((e_wr ((S r_m_shows 0 0 0) + v1)) ≤ 60) then (e_bind (f_m_takes [108, (-1), x1] (e_upd S1 r_m_thrown 0 0 0 0)) (fun v2 S2 => ((0, [v2]), S2))) else ((0, [0]), (e_upd (e_upd S1 r_m_thrown 0 0 0 4) r_m_printHours 0 0 x1 (S r_m_printHours 0 0 x1)))))) else ((0, [0]), (e_upd (e_upd (e_upd S r_m_thrown 0 0 0 (bif !decide ((v_m_isNoFilm x1 S) = 0) then 1 else 0)) r_m_thrown 0 0 0 0) r_m_thrown 0 0 0 3))) else (bif decide ((S r_m_printHours 0 0 x1) < x2) then (bif !decide ((S r_m_prints 0 0 x1) = 0) then (e_bind (f_m_going [(-1), x1] (e_upd (e_upd (e_upd (e_upd S r_m_thrown 0 0 0 (bif !decide ((v_m_isNoFilm x1 S) = 0) then 1 else 0)) r_m_thrown 0 0 0 0) r_m_thrown 0 0 0 0) r_m_printHours 0 0 x1 x2)) (fun v3 S3 => (bif decide ((e_wr ((S r_m_shows 0 0 0) + v3)) ≤ 60) then (e_bind (f_m_takes [108, (-1), x1] (e_upd S3 r_m_thrown 0 0 0 0)) (fun v4 S4 => ((0, [v4]), S4))) else ((0, [0]), (e_upd (e_upd S3 r_m_thrown 0 0 0 4) r_m_printHours 0 0 x1 (S r_m_printHours 0 0 x1)))))) else ((0, [0]), (e_upd (e_upd (e_upd S r_m_thrown 0 0 0 (bif !decide ((v_m_isNoFilm x1 S) = 0) then 1 else 0)) r_m_thrown 0 0 0 0) r_m_thrown 0 0 0 3))) else ((0, [0]), (e_upd (e_upd S r_m_thrown 0 0 0 (bif !decide ((v_m_isNoFilm x1 S) = 0) then 1 else 0)) r_m_thrown 0 0 0 2))))))
  | _ => ((0, []), S)
theorem zE222 {x1 x2 : Int} {S : ZS} : z_ev (z_F zT222) 50 zP222_0 [x1, x2] S = f_m_late [x1, x2] S := by
  simp -implicitDefEqProofs only [zP222_0, zF222_163, zF222_166, zF222_219, zF222_220, zpI0, zpI1, zpIc, pF_m_isNoFilm, Nat.zero_add, Nat.reduceAdd, Nat.reduceBEq, Int.reduceToNat, z_e0, z_e1, z_e2, z_e3, z_e4, z_e5, z_e6, z_e7, z_e8, z_e11, z_e13, o_v0, o_v1, o_v2, List.cons_append, List.nil_append, List.map_cons, List.map_nil, List.drop_succ_cons, List.drop_zero, List.take_succ_cons, List.take_zero, e_c0, e_c1, e_c2, e_c3, e_c4, e_c5, e_b0, e_b1, e_b2, e_b3, e_b4, e_b5, e_b6, e_b7, e_b8, e_b9, e_b10, e_b11, e_b12, e_b13, e_b14, e_b15, e_b16, e_b17, e_n0, e_bnd, e_un]
  try rfl
theorem zM222 : z_met 222 2 [(52, (0, 0), (0, 0)), (0, (1, 0), (0, 0)), (0, (2, 0), (0, 0))] f_m_late := z_met_ev zH222 (fun _ _ h => by rw [List.mem_singleton] at h; cases h; exact fun _ _ => rfl) rfl zG222 (by decide +kernel) (fun L S hn => match L, hn with
  | [x1, x2], _ => zE222)
def zW222 : List Nat := [r_m_shows, r_m_lineMany, r_m_thrown, r_m_printHours, r_m_showFilms, r_m_showScreens, r_m_showHours, r_m_gone, r_m_waits_r, r_m_waitMany, r_m_letters, r_m_lineFilms, r_new, z_rA]
theorem zK222 : z_kp 2 zW222 f_m_late := z_kp_ev (KT := [(163, 2, zW163), (166, 1, zW166), (219, 3, zW219), (220, 2, zW220)]) (.c zF222_163 zK163 (.c zF222_166 zK166 (.c zF222_219 zK219 (.c zF222_220 zK220 .n)))) (fun _ _ => Or.inl rfl) (by decide +kernel) (fun L S hn => match L, hn with
  | [x1, x2], _ => zE222)

-- Grid_findOfFilm (43)
def zT43 : ZT := [(31, 1, [(3, (0, 0), (0, 0)), (17, (1, 0), (0, 0))], f_Grid_stateOf), (44, 1, [(3, (0, 0), (0, 0)), (0, (1, 0), (0, 0))], f_Grid_addFound)]
theorem zH43 : z_ok zT43 := .c zM31 (.c zM44 .n)
theorem zF43_31 : z_F zT43 31 = f_Grid_stateOf := id rfl
theorem zF43_44 : z_F zT43 44 = f_Grid_addFound := id rfl
def zP43_0 : List ZO := [(6, [(72, 0), (0, 0), (0, 0), (0, 0), (0, 0), (0, 0)]), (2, [(7, 0), (1, 0), (0, 0)])]
def zP43_7 : List ZO := [(5, [(68, 0), (0, 0), (0, 0), (0, 0)]), (3, [(3, 0), (2, 0), (2, 0), (3, 0)]), (5, [(72, 0), (0, 0), (0, 0), (0, 0)]), (0, [(4, 0)]), (5, [(960, 0), (2, 0), (0, 0), (0, 0)]), (3, [(1, 0), (2, 0), (4, 0), (1, 0)]), (4, [(0, 0), (2, 0), (0, 1)]), (2, [(7, 0), (1, 0), (5, 0)]), (7, [(31, 0), (2, 0)]), (3, [(1, 0), (2, 0), (5, 0), (0, 116)]), (4, [(0, 0), (2, 0), (0, 1)]), (2, [(7, 0), (1, 0), (6, 0)]), (7, [(44, 0), (2, 0)]), (4, [(0, 0), (2, 0), (0, 1)]), (2, [(7, 0), (1, 0), (7, 0)])]
def zD43 : ZD := [(0, 1, [some (3, (0, 0), (0, 0)), some (0, (1, 0), (0, 0)), none], 3, zP43_0), (7, 2, [some (3, (0, 0), (0, 0)), some (0, (1, 0), (0, 0)), some (0, (2, 0), (0, 0))], 16, zP43_7)]
theorem zG43 : z_chk zT43 [] 43 zD43 = true := by decide +kernel
noncomputable def g_Grid_findOfFilm (R : ZR) : ZR := z_psi (z_st (z_F zT43) zD43) R
noncomputable def f_Grid_findOfFilm : ZFn := fun L S => g_Grid_findOfFilm ((1000, L), S)
theorem zM43 : z_met 43 1 [(3, (0, 0), (0, 0)), (0, (1, 0), (0, 0))] f_Grid_findOfFilm := z_met_psi zH43 (fun _ _ h => absurd h List.not_mem_nil) rfl zG43
theorem zE43_0 {x1 : Int} {S : ZS} : z_st (z_F zT43) zD43 0 [x1] S = ((1007, [x1, 0]), (e_upd S r_Grid_foundCount 0 0 0 0)) := (id rfl : z_st (z_F zT43) zD43 0 [x1] S = z_ev (z_F zT43) 3 zP43_0 [x1] S).trans (id rfl)
theorem g_Grid_findOfFilm_0 {x1 : Int} {S : ZS} : g_Grid_findOfFilm ((1000, [x1]), S) = (g_Grid_findOfFilm ((1007, [x1, 0]), (e_upd S r_Grid_foundCount 0 0 0 0))) := by
  unfold g_Grid_findOfFilm
  refine ((z_psi_go (pc := 0)).trans (congrArg _ zE43_0)).trans ?_
  try simp only [z_psi_c, z_psi_b, z_psi_n, Nat.reduceLT, decide_true]
theorem zE43_7 {x1 x2 : Int} {S : ZS} : z_st (z_F zT43) zD43 7 [x1, x2] S = (bif decide ((S r_Grid_showCount 0 0 0) ≤ x2) then ((0, [(S r_Grid_foundCount 0 0 0)]), S) else (bif !decide ((S r_Show_film x2 0 0) = x1) then ((1007, [x1, (e_wr (x2 + 1))]), S) else (bif !decide ((v_Grid_stateOf x2 S) = 116) then ((1007, [x1, (e_wr (x2 + 1))]), S) else (e_bind (f_Grid_addFound [x2] S) (fun v1 S1 => ((1007, [x1, (e_wr (x2 + 1))]), S1)))))) := (id rfl : z_st (z_F zT43) zD43 7 [x1, x2] S = z_ev (z_F zT43) 16 zP43_7 [x1, x2] S).trans (by
  simp -implicitDefEqProofs only [zP43_7, zF43_31, zF43_44, pF_Grid_stateOf, Nat.zero_add, Nat.reduceAdd, Nat.reduceBEq, Int.reduceToNat, z_e0, z_e1, z_e2, z_e3, z_e4, z_e5, z_e6, z_e7, z_e8, z_e11, z_e13, o_v0, o_v1, o_v2, List.cons_append, List.nil_append, List.map_cons, List.map_nil, List.drop_succ_cons, List.drop_zero, List.take_succ_cons, List.take_zero, e_c0, e_c1, e_c2, e_c3, e_c4, e_c5, e_b0, e_b1, e_b2, e_b3, e_b4, e_b5, e_b6, e_b7, e_b8, e_b9, e_b10, e_b11, e_b12, e_b13, e_b14, e_b15, e_b16, e_b17, e_n0, e_bnd, e_un]
  try rfl)
theorem g_Grid_findOfFilm_7 {x1 x2 : Int} {S : ZS} : g_Grid_findOfFilm ((1007, [x1, x2]), S) = (bif decide ((S r_Grid_showCount 0 0 0) ≤ x2) then ((0, [(S r_Grid_foundCount 0 0 0)]), S) else (bif !decide ((S r_Show_film x2 0 0) = x1) then (g_Grid_findOfFilm ((1007, [x1, (e_wr (x2 + 1))]), S)) else (bif !decide ((v_Grid_stateOf x2 S) = 116) then (g_Grid_findOfFilm ((1007, [x1, (e_wr (x2 + 1))]), S)) else (e_bind (f_Grid_addFound [x2] S) (fun v1 S1 => (g_Grid_findOfFilm ((1007, [x1, (e_wr (x2 + 1))]), S1))))))) := by
  unfold g_Grid_findOfFilm
  refine ((z_psi_go (pc := 7)).trans (congrArg _ zE43_7)).trans ?_
  try simp only [z_psi_c, z_psi_b, z_psi_n, Nat.reduceLT, decide_true]
def zW43 : List Nat := [r_Grid_foundCount, r_Grid_found]
theorem zK43 : z_kp 1 zW43 f_Grid_findOfFilm := fun L S hL hc r i j k hr => z_psi_kp (KT := [(31, 1, zW31), (44, 1, zW44)]) (F := z_F zT43) (W := zW43) (D := zD43) (.c zF43_31 zK31 (.c zF43_44 zK44 .n)) (z_h163 rfl) (by decide +kernel) _ hc r i j k hr

-- Film_leave (27)
def zT27 : ZT := []
theorem zH27 : z_ok zT27 := .n
def zP27_0 : List ZO := [(6, [(196, 0), (0, 0), (1, 0), (0, 0), (0, 0), (0, 1)]), (6, [(195, 0), (0, 0), (1, 0), (0, 0), (0, 0), (0, (-1))]), (6, [(198, 0), (0, 0), (1, 0), (0, 0), (0, 0), (0, 0)]), (0, [])]
def zC27 : ZC := [(0, 1, [some (5, (1, 0), (0, 0))])]
theorem zG27 : z_go zC27 (z_A zT27) [] 27 400 true 5 zP27_0 0 [some (5, (1, 0), (0, 0))] [] 1 = true := by decide +kernel
def f_Film_leave : ZFn := fun L S => match L with
  | [x1] => ((0, []), (e_upd (e_upd (e_upd S r_Film_isWithdrawn x1 0 0 1) r_Film_section x1 0 0 (-1)) r_Film_promise x1 0 0 0))
  | _ => ((0, []), S)
theorem zE27 {x1 : Int} {S : ZS} : z_ev (z_F zT27) 5 zP27_0 [x1] S = f_Film_leave [x1] S := id rfl
theorem zM27 : z_met 27 1 [(5, (1, 0), (0, 0))] f_Film_leave := z_met_ev zH27 (fun _ _ h => absurd h List.not_mem_nil) rfl zG27 (by decide +kernel) (fun L S hn => match L, hn with
  | [x1], _ => zE27)
def zW27 : List Nat := [r_Film_section, r_Film_isWithdrawn, r_Film_promise]
theorem zK27 : z_kp 1 zW27 f_Film_leave := z_kp_ev (KT := []) (.n) (z_h163 rfl) (by decide +kernel) (fun L S hn => match L, hn with
  | [x1], _ => zE27)

-- x_withdraw (118)
noncomputable def zT118 : ZT := [(27, 1, [(5, (1, 0), (0, 0))], f_Film_leave), (43, 1, [(3, (0, 0), (0, 0)), (0, (1, 0), (0, 0))], f_Grid_findOfFilm), (45, 1, [(3, (0, 0), (0, 0)), (0, (1, 0), (0, 0))], f_Grid_takeFound), (143, 1, [(2, (0, 0), (0, 0)), (0, (1, 0), (0, 0))], f_x_checkFilm)]
theorem zH118 : z_ok zT118 := .c zM27 (.c zM43 (.c zM45 (.c zM143 .n)))
theorem zF118_27 : z_F zT118 27 = f_Film_leave := id rfl
theorem zF118_43 : z_F zT118 43 = f_Grid_findOfFilm := id rfl
theorem zF118_45 : z_F zT118 45 = f_Grid_takeFound := id rfl
theorem zF118_143 : z_F zT118 143 = f_x_checkFilm := id rfl
def zP118_0 : List ZO := [(7, [(143, 0), (1, 0)]), (5, [(196, 0), (1, 0), (0, 0), (0, 0)]), (3, [(0, 0), (4, 0), (3, 0), (0, 0)]), (7, [(43, 0), (1, 0)]), (7, [(45, 0), (0, 119)]), (7, [(27, 0), (1, 0)]), (0, [(4, 0)]), (1, [(3, 0)])]
def zC118 : ZC := [(0, 1, [some (2, (0, 0), (0, 0)), some (0, (1, 0), (0, 0)), none])]
theorem zG118 : z_go zC118 (z_A zT118) [] 118 400 true 9 zP118_0 0 [some (2, (0, 0), (0, 0)), some (0, (1, 0), (0, 0)), none] [] 1 = true := by decide +kernel
noncomputable def f_x_withdraw : ZFn := fun L S => match L with
  | [x1] => (e_bind (f_x_checkFilm [x1] S) (fun v1 S1 => (bif decide ((S1 r_Film_isWithdrawn x1 0 0) = 0) then (e_bind (f_Grid_findOfFilm [x1] S1) (fun v2 S2 => (e_bind (f_Grid_takeFound [119] S2) (fun v3 S3 => (e_bind (f_Film_leave [x1] S3) (fun v4 S4 => ((0, [v2]), S4))))))) else ((4, []), S1))))
  | _ => ((0, []), S)
theorem zE118 {x1 : Int} {S : ZS} : z_ev (z_F zT118) 9 zP118_0 [x1] S = f_x_withdraw [x1] S := id rfl
theorem zM118 : z_met 118 1 [(2, (0, 0), (0, 0)), (0, (1, 0), (0, 0))] f_x_withdraw := z_met_ev zH118 (fun _ _ h => absurd h List.not_mem_nil) rfl zG118 (by decide +kernel) (fun L S hn => match L, hn with
  | [x1], _ => zE118)
def zW118 : List Nat := [r_Grid_foundCount, r_Film_section, r_Film_isWithdrawn, r_Film_promise, r_Archive_lineCount, r_Archive_next, r_Archive_letters, r_Archive_filmOf, r_Show_cause, r_Grid_found]
theorem zK118 : z_kp 1 zW118 f_x_withdraw := z_kp_ev (KT := [(27, 1, zW27), (43, 1, zW43), (45, 1, zW45), (143, 1, zW143)]) (.c zF118_27 zK27 (.c zF118_43 zK43 (.c zF118_45 zK45 (.c zF118_143 zK143 .n)))) (z_h163 rfl) (by decide +kernel) (fun L S hn => match L, hn with
  | [x1], _ => zE118)

-- w_withdraw (283)
noncomputable def zT283 : ZT := [(118, 1, [(2, (0, 0), (0, 0)), (0, (1, 0), (0, 0))], f_x_withdraw)]
theorem zH283 : z_ok zT283 := .c zM118 .n
theorem zF283_118 : z_F zT283 118 = f_x_withdraw := id rfl
def zP283_0 : List ZO := [(11, [(118, 0), (2, 0), (0, 2), (3, 3), (1, 0)]), (6, [(6976, 0), (0, 0), (0, 0), (0, 0), (0, 0), (2, 0)]), (0, [(0, 0)]), (0, [(0, 1)]), (0, [(0, 2)])]
def zC283 : ZC := [(0, 1, [some (2, (0, 0), (0, 0)), some (0, (1, 0), (0, 0)), some (111, (0, 0), (0, 0)), none])]
theorem zG283 : z_go zC283 (z_A zT283) [] 283 400 true 6 zP283_0 0 [some (2, (0, 0), (0, 0)), some (0, (1, 0), (0, 0)), some (111, (0, 0), (0, 0)), none] [] 1 = true := by decide +kernel
noncomputable def f_w_withdraw : ZFn := fun L S => match L with
  | [x1] => (e_try (f_x_withdraw [x1] S) (fun v1 S1 => ((0, [0]), (e_upd S1 r_out 0 0 0 v1))) [(0, 1), (3, 2)])
  | _ => ((0, []), S)
theorem zE283 {x1 : Int} {S : ZS} : z_ev (z_F zT283) 6 zP283_0 [x1] S = f_w_withdraw [x1] S := id rfl
theorem zM283 : z_met 283 1 [(2, (0, 0), (0, 0)), (0, (1, 0), (0, 0)), (111, (0, 0), (0, 0))] f_w_withdraw := z_met_ev zH283 (fun _ _ h => absurd h List.not_mem_nil) rfl zG283 (by decide +kernel) (fun L S hn => match L, hn with
  | [x1], _ => zE283)
def zW283 : List Nat := [r_Grid_foundCount, r_Film_section, r_Film_isWithdrawn, r_Film_promise, r_Archive_lineCount, r_Archive_next, r_Archive_letters, r_Archive_filmOf, r_Show_cause, r_Grid_found, r_out]
theorem zK283 : z_kp 1 zW283 f_w_withdraw := z_kp_ev (KT := [(118, 1, zW118)]) (.c zF283_118 zK118 .n) (z_h163 rfl) (by decide +kernel) (fun L S hn => match L, hn with
  | [x1], _ => zE283)

-- m_withdraw (223)
def zT223 : ZT := [(163, 2, [(52, (0, 0), (0, 0)), (0, (1, 0), (0, 0)), (0, (2, 0), (0, 0))], f_m_isThrown), (166, 1, [(52, (0, 0), (0, 0)), (0, (1, 0), (0, 0))], f_m_isNoFilm), (167, 2, [(52, (0, 0), (0, 0)), (0, (1, 0), (0, 0)), (0, (2, 0), (0, 0))], f_m_writes), (204, 1, [(52, (0, 0), (0, 0)), (0, (1, 0), (0, 0))], f_m_stateOf)]
theorem zH223 : z_ok zT223 := .c zM163 (.c zM166 (.c zM167 (.c zM204 .n)))
theorem zF223_163 : z_F zT223 163 = f_m_isThrown := id rfl
theorem zF223_166 : z_F zT223 166 = f_m_isNoFilm := id rfl
theorem zF223_167 : z_F zT223 167 = f_m_writes := id rfl
theorem zF223_204 : z_F zT223 204 = f_m_stateOf := id rfl
def zP223_0 : List ZO := [(7, [(166, 0), (1, 0)]), (13, [(163, 0), (0, 0), (2, 0), (0, 1)]), (3, [(1, 0), (1, 0), (2, 0), (0, 0)]), (0, [(0, 0)]), (5, [(3648, 0), (0, 0), (0, 0), (1, 0)]), (13, [(163, 0), (0, 0), (3, 0), (0, 2)]), (3, [(0, 0), (1, 0), (3, 0), (0, 0)]), (2, [(33, 0), (1, 0), (0, 0), (0, 0)]), (0, [(0, 0)])]
def zP223_33 : List ZO := [(5, [(3249, 0), (0, 0), (0, 0), (0, 0)]), (3, [(3, 0), (4, 0), (3, 0), (4, 0)]), (6, [(3648, 0), (1, 0), (0, 0), (0, 0), (1, 0), (0, 1)]), (6, [(3520, 0), (0, 0), (0, 0), (0, 0), (1, 0), (0, (-1))]), (6, [(3584, 0), (0, 0), (0, 0), (0, 0), (1, 0), (0, 0)]), (0, [(2, 0)]), (5, [(4928, 0), (0, 0), (0, 0), (3, 0)]), (3, [(1, 0), (2, 0), (5, 0), (1, 0)]), (4, [(0, 0), (3, 0), (0, 1)]), (2, [(33, 0), (1, 0), (2, 0), (6, 0)]), (7, [(204, 0), (3, 0)]), (3, [(1, 0), (2, 0), (6, 0), (0, 116)]), (4, [(0, 0), (3, 0), (0, 1)]), (2, [(33, 0), (1, 0), (2, 0), (7, 0)]), (6, [(5120, 0), (2, 0), (0, 0), (0, 0), (3, 0), (0, 119)]), (7, [(167, 0), (0, 120), (1, 0)]), (4, [(0, 0), (2, 0), (0, 1)]), (4, [(0, 0), (3, 0), (0, 1)]), (2, [(33, 0), (1, 0), (8, 0), (9, 0)])]
def zD223 : ZD := [(0, 1, [some (52, (0, 0), (0, 0)), some (0, (1, 0), (0, 0)), none, none], 10, zP223_0), (33, 3, [some (52, (0, 0), (0, 0)), some (0, (1, 0), (0, 0)), some (0, (2, 0), (0, 0)), some (0, (3, 0), (0, 0))], 20, zP223_33)]
theorem zG223 : z_chk zT223 [(163, 0)] 223 zD223 = true := by decide +kernel
noncomputable def g_m_withdraw (R : ZR) : ZR := z_psi (z_st (z_F zT223) zD223) R
noncomputable def f_m_withdraw : ZFn := fun L S => g_m_withdraw ((1000, L), S)
theorem zM223 : z_met 223 1 [(52, (0, 0), (0, 0)), (0, (1, 0), (0, 0))] f_m_withdraw := z_met_psi zH223 (fun _ _ h => by rw [List.mem_singleton] at h; cases h; exact fun _ _ => rfl) rfl zG223
theorem zE223_0 {x1 : Int} {S : ZS} : z_st (z_F zT223) zD223 0 [x1] S = (bif !decide ((v_m_isNoFilm x1 S) = 0) then ((0, [0]), (e_upd S r_m_thrown 0 0 0 (bif !decide ((v_m_isNoFilm x1 S) = 0) then 1 else 0))) else (bif decide ((S r_m_areWithdrawn 0 0 x1) = 0) then ((1033, [x1, 0, 0]), (e_upd (e_upd S r_m_thrown 0 0 0 (bif !decide ((v_m_isNoFilm x1 S) = 0) then 1 else 0)) r_m_thrown 0 0 0 (bif !decide ((S r_m_areWithdrawn 0 0 x1) = 0) then 2 else 0))) else ((0, [0]), (e_upd (e_upd S r_m_thrown 0 0 0 (bif !decide ((v_m_isNoFilm x1 S) = 0) then 1 else 0)) r_m_thrown 0 0 0 (bif !decide ((S r_m_areWithdrawn 0 0 x1) = 0) then 2 else 0))))) := (id rfl : z_st (z_F zT223) zD223 0 [x1] S = z_ev (z_F zT223) 10 zP223_0 [x1] S).trans (id rfl)
theorem g_m_withdraw_0 {x1 : Int} {S : ZS} : g_m_withdraw ((1000, [x1]), S) = (bif !decide ((v_m_isNoFilm x1 S) = 0) then ((0, [0]), (e_upd S r_m_thrown 0 0 0 (bif !decide ((v_m_isNoFilm x1 S) = 0) then 1 else 0))) else (bif decide ((S r_m_areWithdrawn 0 0 x1) = 0) then (g_m_withdraw ((1033, [x1, 0, 0]), (e_upd (e_upd S r_m_thrown 0 0 0 (bif !decide ((v_m_isNoFilm x1 S) = 0) then 1 else 0)) r_m_thrown 0 0 0 (bif !decide ((S r_m_areWithdrawn 0 0 x1) = 0) then 2 else 0)))) else ((0, [0]), (e_upd (e_upd S r_m_thrown 0 0 0 (bif !decide ((v_m_isNoFilm x1 S) = 0) then 1 else 0)) r_m_thrown 0 0 0 (bif !decide ((S r_m_areWithdrawn 0 0 x1) = 0) then 2 else 0))))) := by
  unfold g_m_withdraw
  refine ((z_psi_go (pc := 0)).trans (congrArg _ zE223_0)).trans ?_
  try simp only [z_psi_c, z_psi_b, z_psi_n, Nat.reduceLT, decide_true]
theorem zE223_33 {x1 x2 x3 : Int} {S : ZS} : z_st (z_F zT223) zD223 33 [x1, x2, x3] S = (bif decide ((S r_m_shows 0 0 0) ≤ x3) then ((0, [x2]), (e_upd (e_upd (e_upd S r_m_areWithdrawn 0 0 x1 (e_nar 1 1)) r_m_sections 0 0 x1 (-1)) r_m_promises 0 0 x1 0)) else (bif !decide ((S r_m_showFilms 0 0 x3) = x1) then ((1033, [x1, x2, (e_wr (x3 + 1))]), S) else (bif !decide ((v_m_stateOf x3 S) = 116) then ((1033, [x1, x2, (e_wr (x3 + 1))]), S) else (e_bind (f_m_writes [120, x1] (e_upd S r_m_gone 0 0 x3 (e_nar 2 119))) (fun v1 S1 => ((1033, [x1, (e_wr (x2 + 1)), (e_wr (x3 + 1))]), S1)))))) := (id rfl : z_st (z_F zT223) zD223 33 [x1, x2, x3] S = z_ev (z_F zT223) 20 zP223_33 [x1, x2, x3] S).trans (by
  simp -implicitDefEqProofs only [zP223_33, zF223_163, zF223_166, zF223_167, zF223_204, zpI0, zpI1, zpIc, pF_m_isNoFilm, pF_m_stateOf, Nat.zero_add, Nat.reduceAdd, Nat.reduceBEq, Int.reduceToNat, z_e0, z_e1, z_e2, z_e3, z_e4, z_e5, z_e6, z_e7, z_e8, z_e11, z_e13, o_v0, o_v1, o_v2, List.cons_append, List.nil_append, List.map_cons, List.map_nil, List.drop_succ_cons, List.drop_zero, List.take_succ_cons, List.take_zero, e_c0, e_c1, e_c2, e_c3, e_c4, e_c5, e_b0, e_b1, e_b2, e_b3, e_b4, e_b5, e_b6, e_b7, e_b8, e_b9, e_b10, e_b11, e_b12, e_b13, e_b14, e_b15, e_b16, e_b17, e_n0, e_bnd, e_un]
  try rfl)
theorem g_m_withdraw_33 {x1 x2 x3 : Int} {S : ZS} : g_m_withdraw ((1033, [x1, x2, x3]), S) = (bif decide ((S r_m_shows 0 0 0) ≤ x3) then ((0, [x2]), (e_upd (e_upd (e_upd S r_m_areWithdrawn 0 0 x1 (e_nar 1 1)) r_m_sections 0 0 x1 (-1)) r_m_promises 0 0 x1 0)) else (bif !decide ((S r_m_showFilms 0 0 x3) = x1) then (g_m_withdraw ((1033, [x1, x2, (e_wr (x3 + 1))]), S)) else (bif !decide ((v_m_stateOf x3 S) = 116) then (g_m_withdraw ((1033, [x1, x2, (e_wr (x3 + 1))]), S)) else (e_bind (f_m_writes [120, x1] (e_upd S r_m_gone 0 0 x3 (e_nar 2 119))) (fun v1 S1 => (g_m_withdraw ((1033, [x1, (e_wr (x2 + 1)), (e_wr (x3 + 1))]), S1))))))) := by
  unfold g_m_withdraw
  refine ((z_psi_go (pc := 33)).trans (congrArg _ zE223_33)).trans ?_
  try simp only [z_psi_c, z_psi_b, z_psi_n, Nat.reduceLT, decide_true]
def zW223 : List Nat := [r_m_lineMany, r_m_thrown, r_m_sections, r_m_promises, r_m_areWithdrawn, r_m_gone, r_m_letters, r_m_lineFilms]
theorem zK223 : z_kp 1 zW223 f_m_withdraw := fun L S hL hc r i j k hr => z_psi_kp (KT := [(163, 2, zW163), (166, 1, zW166), (167, 2, zW167), (204, 1, zW204)]) (F := z_F zT223) (W := zW223) (D := zD223) (.c zF223_163 zK163 (.c zF223_166 zK166 (.c zF223_167 zK167 (.c zF223_204 zK204 .n)))) (fun _ _ => Or.inl rfl) (by decide +kernel) _ hc r i j k hr

-- Passes_addPass (56)
def zT56 : ZT := []
theorem zH56 : z_ok zT56 := .n
def zP56_0 : List ZO := [(5, [(2113, 0), (0, 0), (0, 0), (0, 0)]), (6, [(2176, 0), (0, 0), (0, 0), (0, 0), (2, 0), (1, 0)]), (5, [(2113, 0), (0, 0), (0, 0), (0, 0)]), (4, [(0, 0), (3, 0), (0, 1)]), (6, [(2113, 0), (0, 0), (0, 0), (0, 0), (0, 0), (4, 0)]), (5, [(2113, 0), (0, 0), (0, 0), (0, 0)]), (4, [(1, 0), (5, 0), (0, 1)]), (0, [(6, 0)])]
def zC56 : ZC := [(0, 1, [some (35, (0, 0), (0, 0)), some (0, (1, 0), (0, 0))])]
theorem zG56 : z_go zC56 (z_A zT56) [] 56 400 true 9 zP56_0 0 [some (35, (0, 0), (0, 0)), some (0, (1, 0), (0, 0))] [] 1 = true := by decide +kernel
def f_Passes_addPass : ZFn := fun L S => match L with
  | [x1] => ((0, [(e_wr (((e_upd (e_upd S r_Passes_ranks 0 0 (S r_Passes_passCount 0 0 0) x1) r_Passes_passCount 0 0 0 (e_wr ((S r_Passes_passCount 0 0 0) + 1))) r_Passes_passCount 0 0 0) - 1))]), (e_upd (e_upd S r_Passes_ranks 0 0 (S r_Passes_passCount 0 0 0) x1) r_Passes_passCount 0 0 0 (e_wr ((S r_Passes_passCount 0 0 0) + 1))))
  | _ => ((0, []), S)
theorem zE56 {x1 : Int} {S : ZS} : z_ev (z_F zT56) 9 zP56_0 [x1] S = f_Passes_addPass [x1] S := id rfl
theorem zM56 : z_met 56 1 [(35, (0, 0), (0, 0)), (0, (1, 0), (0, 0))] f_Passes_addPass := z_met_ev zH56 (fun _ _ h => absurd h List.not_mem_nil) rfl zG56 (by decide +kernel) (fun L S hn => match L, hn with
  | [x1], _ => zE56)
def zW56 : List Nat := [r_Passes_passCount, r_Passes_ranks]
theorem zK56 : z_kp 1 zW56 f_Passes_addPass := z_kp_ev (KT := []) (.n) (z_h163 rfl) (by decide +kernel) (fun L S hn => match L, hn with
  | [x1], _ => zE56)

-- x_pass (119)
def zT119 : ZT := [(56, 1, [(35, (0, 0), (0, 0)), (0, (1, 0), (0, 0))], f_Passes_addPass), (138, 3, [(0, (1, 0), (0, 0)), (0, (2, 0), (0, 0)), (0, (3, 0), (0, 0))], f_x_isWithin)]
theorem zH119 : z_ok zT119 := .c zM56 (.c zM138 .n)
theorem zF119_56 : z_F zT119 56 = f_Passes_addPass := id rfl
theorem zF119_138 : z_F zT119 138 = f_x_isWithin := id rfl
def zP119_0 : List ZO := [(7, [(138, 0), (1, 0), (0, 0), (0, 3)]), (3, [(1, 0), (5, 0), (2, 0), (0, 0)]), (5, [(2113, 0), (0, 0), (0, 0), (0, 0)]), (3, [(2, 0), (2, 0), (3, 0), (0, 16)]), (7, [(56, 0), (1, 0)]), (0, [(4, 0)]), (1, [(2, 0)]), (1, [(1, 0)])]
def zC119 : ZC := [(0, 1, [some (2, (0, 0), (0, 0)), some (0, (1, 0), (0, 0))])]
theorem zG119 : z_go zC119 (z_A zT119) [] 119 400 true 9 zP119_0 0 [some (2, (0, 0), (0, 0)), some (0, (1, 0), (0, 0))] [] 1 = true := by decide +kernel
def f_x_pass : ZFn := fun L S => match L with
  | [x1] => (bif !decide ((v_x_isWithin x1 0 3 S) = 0) then (bif decide ((S r_Passes_passCount 0 0 0) < 16) then (e_bind (f_Passes_addPass [x1] S) (fun v1 S1 => ((0, [v1]), S1))) else ((3, []), S)) else ((2, []), S))
  | _ => ((0, []), S)
theorem zE119 {x1 : Int} {S : ZS} : z_ev (z_F zT119) 9 zP119_0 [x1] S = f_x_pass [x1] S := id rfl
theorem zM119 : z_met 119 1 [(2, (0, 0), (0, 0)), (0, (1, 0), (0, 0))] f_x_pass := z_met_ev zH119 (fun _ _ h => absurd h List.not_mem_nil) rfl zG119 (by decide +kernel) (fun L S hn => match L, hn with
  | [x1], _ => zE119)
def zW119 : List Nat := [r_Passes_passCount, r_Passes_ranks]
theorem zK119 : z_kp 1 zW119 f_x_pass := z_kp_ev (KT := [(56, 1, zW56), (138, 3, zW138)]) (.c zF119_56 zK56 (.c zF119_138 zK138 .n)) (z_h163 rfl) (by decide +kernel) (fun L S hn => match L, hn with
  | [x1], _ => zE119)

-- w_pass (284)
def zT284 : ZT := [(119, 1, [(2, (0, 0), (0, 0)), (0, (1, 0), (0, 0))], f_x_pass)]
theorem zH284 : z_ok zT284 := .c zM119 .n
theorem zF284_119 : z_F zT284 119 = f_x_pass := id rfl
def zP284_0 : List ZO := [(11, [(119, 0), (2, 0), (1, 2), (2, 3), (1, 0)]), (6, [(6976, 0), (0, 0), (0, 0), (0, 0), (0, 0), (2, 0)]), (0, [(0, 0)]), (0, [(0, 1)]), (0, [(0, 2)])]
def zC284 : ZC := [(0, 1, [some (2, (0, 0), (0, 0)), some (0, (1, 0), (0, 0)), some (111, (0, 0), (0, 0)), none])]
theorem zG284 : z_go zC284 (z_A zT284) [] 284 400 true 6 zP284_0 0 [some (2, (0, 0), (0, 0)), some (0, (1, 0), (0, 0)), some (111, (0, 0), (0, 0)), none] [] 1 = true := by decide +kernel
def f_w_pass : ZFn := fun L S => match L with
  | [x1] => (e_try (f_x_pass [x1] S) (fun v1 S1 => ((0, [0]), (e_upd S1 r_out 0 0 0 v1))) [(1, 1), (2, 2)])
  | _ => ((0, []), S)
theorem zE284 {x1 : Int} {S : ZS} : z_ev (z_F zT284) 6 zP284_0 [x1] S = f_w_pass [x1] S := id rfl
theorem zM284 : z_met 284 1 [(2, (0, 0), (0, 0)), (0, (1, 0), (0, 0)), (111, (0, 0), (0, 0))] f_w_pass := z_met_ev zH284 (fun _ _ h => absurd h List.not_mem_nil) rfl zG284 (by decide +kernel) (fun L S hn => match L, hn with
  | [x1], _ => zE284)
def zW284 : List Nat := [r_Passes_passCount, r_Passes_ranks, r_out]
theorem zK284 : z_kp 1 zW284 f_w_pass := z_kp_ev (KT := [(119, 1, zW119)]) (.c zF284_119 zK119 .n) (z_h163 rfl) (by decide +kernel) (fun L S hn => match L, hn with
  | [x1], _ => zE284)

-- m_pass (224)
def zT224 : ZT := [(163, 2, [(52, (0, 0), (0, 0)), (0, (1, 0), (0, 0)), (0, (2, 0), (0, 0))], f_m_isThrown), (164, 3, [(0, (1, 0), (0, 0)), (0, (2, 0), (0, 0)), (0, (3, 0), (0, 0))], f_m_isIn)]
theorem zH224 : z_ok zT224 := .c zM163 (.c zM164 .n)
theorem zF224_163 : z_F zT224 163 = f_m_isThrown := id rfl
theorem zF224_164 : z_F zT224 164 = f_m_isIn := id rfl
def zP224_0 : List ZO := [(7, [(164, 0), (1, 0), (0, 0), (0, 3)]), (3, [(1, 0), (14, 0), (2, 0), (0, 0)]), (13, [(163, 0), (0, 0), (0, 0), (0, 1)]), (5, [(3250, 0), (0, 0), (0, 0), (0, 0)]), (3, [(1, 0), (9, 0), (3, 0), (0, 16)]), (13, [(163, 0), (0, 0), (0, 0), (0, 2)]), (5, [(3250, 0), (0, 0), (0, 0), (0, 0)]), (6, [(5632, 0), (0, 0), (0, 0), (0, 0), (4, 0), (1, 0)]), (5, [(3250, 0), (0, 0), (0, 0), (0, 0)]), (4, [(0, 0), (5, 0), (0, 1)]), (6, [(3250, 0), (0, 0), (0, 0), (0, 0), (0, 0), (6, 0)]), (5, [(3250, 0), (0, 0), (0, 0), (0, 0)]), (4, [(1, 0), (7, 0), (0, 1)]), (0, [(8, 0)]), (13, [(163, 0), (0, 0), (0, 1), (0, 2)]), (0, [(0, 0)]), (13, [(163, 0), (0, 0), (0, 1), (0, 1)]), (0, [(0, 0)])]
def zC224 : ZC := [(0, 1, [some (52, (0, 0), (0, 0)), some (0, (1, 0), (0, 0))])]
theorem zG224 : z_go zC224 (z_A zT224) [(163, 0)] 224 400 true 19 zP224_0 0 [some (52, (0, 0), (0, 0)), some (0, (1, 0), (0, 0))] [] 1 = true := by decide +kernel
def f_m_pass : ZFn := fun L S => match L with
  | [x1] => (bif !decide ((v_m_isIn x1 0 3 S) = 0) then (bif !decide ((S r_m_passes 0 0 0) = 16) then ((0, [(e_wr (((e_upd (e_upd (e_upd (e_upd S r_m_thrown 0 0 0 0) r_m_thrown 0 0 0 0) r_m_ranks 0 0 (S r_m_passes 0 0 0) x1) r_m_passes 0 0 0 (e_wr ((S r_m_passes 0 0 0) + 1))) r_m_passes 0 0 0) - 1))]), (e_upd (e_upd (e_upd (e_upd S r_m_thrown 0 0 0 0) r_m_thrown 0 0 0 0) r_m_ranks 0 0 (S r_m_passes 0 0 0) x1) r_m_passes 0 0 0 (e_wr ((S r_m_passes 0 0 0) + 1)))) else ((0, [0]), (e_upd (e_upd S r_m_thrown 0 0 0 0) r_m_thrown 0 0 0 2))) else ((0, [0]), (e_upd S r_m_thrown 0 0 0 1)))
  | _ => ((0, []), S)
theorem zE224 {x1 : Int} {S : ZS} : z_ev (z_F zT224) 19 zP224_0 [x1] S = f_m_pass [x1] S := by
  simp -implicitDefEqProofs only [zP224_0, zF224_163, zF224_164, zpI0, zpI1, zpIc, pF_m_isIn, Nat.zero_add, Nat.reduceAdd, Nat.reduceBEq, Int.reduceToNat, z_e0, z_e1, z_e2, z_e3, z_e4, z_e5, z_e6, z_e7, z_e8, z_e11, z_e13, o_v0, o_v1, o_v2, List.cons_append, List.nil_append, List.map_cons, List.map_nil, List.drop_succ_cons, List.drop_zero, List.take_succ_cons, List.take_zero, e_c0, e_c1, e_c2, e_c3, e_c4, e_c5, e_b0, e_b1, e_b2, e_b3, e_b4, e_b5, e_b6, e_b7, e_b8, e_b9, e_b10, e_b11, e_b12, e_b13, e_b14, e_b15, e_b16, e_b17, e_n0, e_bnd, e_un]
  try rfl
theorem zM224 : z_met 224 1 [(52, (0, 0), (0, 0)), (0, (1, 0), (0, 0))] f_m_pass := z_met_ev zH224 (fun _ _ h => by rw [List.mem_singleton] at h; cases h; exact fun _ _ => rfl) rfl zG224 (by decide +kernel) (fun L S hn => match L, hn with
  | [x1], _ => zE224)
def zW224 : List Nat := [r_m_passes, r_m_thrown, r_m_ranks]
theorem zK224 : z_kp 1 zW224 f_m_pass := z_kp_ev (KT := [(163, 2, zW163), (164, 3, zW164)]) (.c zF224_163 zK163 (.c zF224_164 zK164 .n)) (fun _ _ => Or.inl rfl) (by decide +kernel) (fun L S hn => match L, hn with
  | [x1], _ => zE224)

-- x_checkPass (149)
def zT149 : ZT := [(142, 2, [(0, (1, 0), (0, 0)), (0, (2, 0), (0, 0))], f_x_checkNumber)]
theorem zH149 : z_ok zT149 := .c zM142 .n
theorem zF149_142 : z_F zT149 142 = f_x_checkNumber := id rfl
def zP149_0 : List ZO := [(5, [(2113, 0), (0, 0), (0, 0), (0, 0)]), (7, [(142, 0), (1, 0), (2, 0)]), (0, [])]
def zC149 : ZC := [(0, 1, [some (2, (0, 0), (0, 0)), some (0, (1, 0), (0, 0))])]
theorem zG149 : z_go zC149 (z_A zT149) [] 149 400 true 4 zP149_0 0 [some (2, (0, 0), (0, 0)), some (0, (1, 0), (0, 0))] [] 1 = true := by decide +kernel
def f_x_checkPass : ZFn := fun L S => match L with
  | [x1] => (e_bind (f_x_checkNumber [x1, (S r_Passes_passCount 0 0 0)] S) (fun v1 S1 => ((0, []), S1)))
  | _ => ((0, []), S)
theorem zE149 {x1 : Int} {S : ZS} : z_ev (z_F zT149) 4 zP149_0 [x1] S = f_x_checkPass [x1] S := id rfl
theorem zM149 : z_met 149 1 [(2, (0, 0), (0, 0)), (0, (1, 0), (0, 0))] f_x_checkPass := z_met_ev zH149 (fun _ _ h => absurd h List.not_mem_nil) rfl zG149 (by decide +kernel) (fun L S hn => match L, hn with
  | [x1], _ => zE149)
def zW149 : List Nat := []
theorem zK149 : z_kp 1 zW149 f_x_checkPass := z_kp_ev (KT := [(142, 2, zW142)]) (.c zF149_142 zK142 .n) (z_h163 rfl) (by decide +kernel) (fun L S hn => match L, hn with
  | [x1], _ => zE149)

-- Show_isAwaitedBy (82)
def zT82 : ZT := []
theorem zH82 : z_ok zT82 := .n
def zP82_0 : List ZO := [(2, [(2, 0), (1, 0), (2, 0), (0, 0)])]
def zP82_2 : List ZO := [(5, [(967, 0), (1, 0), (0, 0), (0, 0)]), (3, [(3, 0), (1, 0), (3, 0), (4, 0)]), (0, [(0, 0)]), (5, [(1024, 0), (1, 0), (0, 0), (3, 0)]), (3, [(1, 0), (2, 0), (5, 0), (2, 0)]), (4, [(0, 0), (3, 0), (0, 1)]), (2, [(2, 0), (1, 0), (2, 0), (6, 0)]), (0, [(0, 1)])]
def zD82 : ZD := [(0, 2, [some (17, (1, 0), (0, 0)), some (0, (2, 0), (0, 0)), none], 2, zP82_0), (2, 3, [some (17, (1, 0), (0, 0)), some (0, (2, 0), (0, 0)), some (0, (3, 0), (0, 0))], 9, zP82_2)]
theorem zG82 : z_chk zT82 [] 82 zD82 = true := by decide +kernel
noncomputable def g_Show_isAwaitedBy (R : ZR) : ZR := z_psi (z_st (z_F zT82) zD82) R
noncomputable def f_Show_isAwaitedBy : ZFn := fun L S => g_Show_isAwaitedBy ((1000, L), S)
theorem zM82 : z_met 82 2 [(17, (1, 0), (0, 0)), (0, (2, 0), (0, 0))] f_Show_isAwaitedBy := z_met_psi zH82 (fun _ _ h => absurd h List.not_mem_nil) rfl zG82
theorem zE82_0 {x1 x2 : Int} {S : ZS} : z_st (z_F zT82) zD82 0 [x1, x2] S = ((1002, [x1, x2, 0]), S) := (id rfl : z_st (z_F zT82) zD82 0 [x1, x2] S = z_ev (z_F zT82) 2 zP82_0 [x1, x2] S).trans (id rfl)
theorem g_Show_isAwaitedBy_0 {x1 x2 : Int} {S : ZS} : g_Show_isAwaitedBy ((1000, [x1, x2]), S) = (g_Show_isAwaitedBy ((1002, [x1, x2, 0]), S)) := by
  unfold g_Show_isAwaitedBy
  refine ((z_psi_go (pc := 0)).trans (congrArg _ zE82_0)).trans ?_
  try simp only [z_psi_c, z_psi_b, z_psi_n, Nat.reduceLT, decide_true]
theorem zE82_2 {x1 x2 x3 : Int} {S : ZS} : z_st (z_F zT82) zD82 2 [x1, x2, x3] S = (bif decide ((S r_Show_waiting x1 0 0) ≤ x3) then ((0, [0]), S) else (bif !decide ((S r_Show_queue x1 0 x3) = x2) then ((1002, [x1, x2, (e_wr (x3 + 1))]), S) else ((0, [1]), S))) := (id rfl : z_st (z_F zT82) zD82 2 [x1, x2, x3] S = z_ev (z_F zT82) 9 zP82_2 [x1, x2, x3] S).trans (id rfl)
theorem g_Show_isAwaitedBy_2 {x1 x2 x3 : Int} {S : ZS} : g_Show_isAwaitedBy ((1002, [x1, x2, x3]), S) = (bif decide ((S r_Show_waiting x1 0 0) ≤ x3) then ((0, [0]), S) else (bif !decide ((S r_Show_queue x1 0 x3) = x2) then (g_Show_isAwaitedBy ((1002, [x1, x2, (e_wr (x3 + 1))]), S)) else ((0, [1]), S))) := by
  unfold g_Show_isAwaitedBy
  refine ((z_psi_go (pc := 2)).trans (congrArg _ zE82_2)).trans ?_
  try simp only [z_psi_c, z_psi_b, z_psi_n, Nat.reduceLT, decide_true]
def zW82 : List Nat := []
theorem zK82 : z_kp 2 zW82 f_Show_isAwaitedBy := fun L S hL hc r i j k hr => z_psi_kp (KT := []) (F := z_F zT82) (W := zW82) (D := zD82) (.n) (z_h163 rfl) (by decide +kernel) _ hc r i j k hr
