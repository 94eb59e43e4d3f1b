/-! What the methods do, by program (wip/s/sgen.py), 8 -/
-- x_sell (131)
noncomputable def zT131 : ZT := [(1, 2, [(13, (0, 0), (0, 0)), (0, (1, 0), (0, 0)), (0, (2, 0), (0, 0))], f_Archive_add), (70, 5, [(43, (0, 0), (0, 0)), (0, (1, 0), (0, 0)), (0, (2, 0), (0, 0)), (0, (3, 0), (0, 0)), (0, (4, 0), (0, 0)), (0, (5, 0), (0, 0))], f_Rights_addDeal), (72, 4, [(43, (0, 0), (0, 0)), (0, (1, 0), (0, 0)), (0, (2, 0), (0, 0)), (0, (3, 0), (0, 0)), (0, (4, 0), (0, 0))], f_Rights_isSoldWithin), (138, 3, [(0, (1, 0), (0, 0)), (0, (2, 0), (0, 0)), (0, (3, 0), (0, 0))], f_x_isWithin), (143, 1, [(2, (0, 0), (0, 0)), (0, (1, 0), (0, 0))], f_x_checkFilm)]
theorem zH131 : z_ok zT131 := .c zM1 (.c zM70 (.c zM72 (.c zM138 (.c zM143 .n))))
theorem zF131_1 : z_F zT131 1 = f_Archive_add := id rfl
theorem zF131_70 : z_F zT131 70 = f_Rights_addDeal := id rfl
theorem zF131_72 : z_F zT131 72 = f_Rights_isSoldWithin := id rfl
theorem zF131_138 : z_F zT131 138 = f_x_isWithin := id rfl
theorem zF131_143 : z_F zT131 143 = f_x_checkFilm := id rfl
def zP131_0 : List ZO := [(7, [(143, 0), (1, 0)]), (7, [(138, 0), (2, 0), (0, 0), (0, 9)]), (3, [(0, 0), (1, 0), (7, 0), (0, 0)]), (1, [(1, 0)]), (7, [(138, 0), (5, 0), (0, 0), (0, 9)]), (3, [(1, 0), (18, 0), (8, 0), (0, 0)]), (7, [(138, 0), (3, 0), (0, 0), (0, 99)]), (3, [(0, 0), (1, 0), (9, 0), (0, 0)]), (1, [(1, 0)]), (7, [(138, 0), (4, 0), (3, 0), (0, 99)]), (3, [(1, 0), (12, 0), (10, 0), (0, 0)]), (5, [(196, 0), (1, 0), (0, 0), (0, 0)]), (3, [(1, 0), (1, 0), (11, 0), (0, 0)]), (1, [(3, 0)]), (7, [(72, 0), (1, 0), (2, 0), (3, 0), (4, 0)]), (3, [(0, 0), (6, 0), (12, 0), (0, 0)]), (5, [(2629, 0), (0, 0), (0, 0), (0, 0)]), (3, [(2, 0), (3, 0), (13, 0), (0, 40)]), (7, [(1, 0), (0, 100), (1, 0)]), (7, [(70, 0), (1, 0), (2, 0), (3, 0), (4, 0), (5, 0)]), (0, [(15, 0)]), (1, [(2, 0)]), (1, [(3, 0)]), (1, [(1, 0)]), (1, [(1, 0)])]
def zC131 : ZC := [(0, 5, [some (2, (0, 0), (0, 0)), some (0, (1, 0), (0, 0)), some (0, (2, 0), (0, 0)), some (0, (3, 0), (0, 0)), some (0, (4, 0), (0, 0)), some (0, (5, 0), (0, 0))])]
theorem zG131 : z_go zC131 (z_A zT131) [] 131 400 true 26 zP131_0 0 [some (2, (0, 0), (0, 0)), some (0, (1, 0), (0, 0)), some (0, (2, 0), (0, 0)), some (0, (3, 0), (0, 0)), some (0, (4, 0), (0, 0)), some (0, (5, 0), (0, 0))] [] 5 = true := by decide +kernel
noncomputable def f_x_sell : ZFn := fun L S => match L with
  | [x1, x2, x3, x4, x5] => (e_bind (f_x_checkFilm [x1] S) (fun v1 S1 => (bif decide ((v_x_isWithin x2 0 9 S1) = 0) then ((2, []), S1) else (bif !decide ((v_x_isWithin x5 0 9 S1) = 0) then (bif decide ((v_x_isWithin x3 0 99 S1) = 0) then ((2, []), S1) else (bif !decide ((v_x_isWithin x4 x3 99 S1) = 0) then (bif !decide ((S1 r_Film_isWithdrawn x1 0 0) = 0) then ((4, []), S1) else (e_bind (f_Rights_isSoldWithin [x1, x2, x3, x4] S1) (fun v2 S2 => (bif decide (v2 = 0) then (bif decide ((S2 r_Rights_dealCount 0 0 0) < 40) then (e_bind (f_Archive_add [100, x1] S2) (fun v3 S3 => (e_bind (f_Rights_addDeal [x1, x2, x3, x4, x5] S3) (fun v4 S4 => ((0, [v4]), S4))))) else ((3, []), S2)) else ((4, []), S2))))) else ((2, []), S1))) else ((2, []), S1)))))
  | _ => ((0, []), S)
theorem zE131 {x1 x2 x3 x4 x5 : Int} {S : ZS} : z_ev (z_F zT131) 26 zP131_0 [x1, x2, x3, x4, x5] S = f_x_sell [x1, x2, x3, x4, x5] S := by
  simp -implicitDefEqProofs only [zP131_0, zF131_1, zF131_70, zF131_72, zF131_138, zF131_143, pF_x_isWithin, Nat.zero_add, Nat.reduceAdd, Nat.reduceBEq, Int.reduceToNat, z_e0, z_e1, z_e2, z_e3, z_e4, z_e5, z_e6, z_e7, z_e8, z_e11, z_e13, o_v0, o_v1, o_v2, List.cons_append, List.nil_append, List.map_cons, List.map_nil, List.drop_succ_cons, List.drop_zero, List.take_succ_cons, List.take_zero, e_c0, e_c1, e_c2, e_c3, e_c4, e_c5, e_b0, e_b1, e_b2, e_b3, e_b4, e_b5, e_b6, e_b7, e_b8, e_b9, e_b10, e_b11, e_b12, e_b13, e_b14, e_b15, e_b16, e_b17, e_n0, e_bnd, e_un]
  try rfl
theorem zM131 : z_met 131 5 [(2, (0, 0), (0, 0)), (0, (1, 0), (0, 0)), (0, (2, 0), (0, 0)), (0, (3, 0), (0, 0)), (0, (4, 0), (0, 0)), (0, (5, 0), (0, 0))] f_x_sell := z_met_ev zH131 (fun _ _ h => absurd h List.not_mem_nil) rfl zG131 (by decide +kernel) (fun L S hn => match L, hn with
  | [x1, x2, x3, x4, x5], _ => zE131)
def zW131 : List Nat := [r_Archive_lineCount, r_Archive_next, r_Archive_letters, r_Archive_filmOf, r_Rights_dealCount, r_Rights_soldFilms, r_Rights_lands, r_Rights_firstMonths, r_Rights_lastMonths, r_Rights_buyers]
theorem zK131 : z_kp 5 zW131 f_x_sell := z_kp_ev (KT := [(1, 2, zW1), (70, 5, zW70), (72, 4, zW72), (138, 3, zW138), (143, 1, zW143)]) (.c zF131_1 zK1 (.c zF131_70 zK70 (.c zF131_72 zK72 (.c zF131_138 zK138 (.c zF131_143 zK143 .n))))) (z_h163 rfl) (by decide +kernel) (fun L S hn => match L, hn with
  | [x1, x2, x3, x4, x5], _ => zE131)

-- w_sell (295)
noncomputable def zT295 : ZT := [(131, 5, [(2, (0, 0), (0, 0)), (0, (1, 0), (0, 0)), (0, (2, 0), (0, 0)), (0, (3, 0), (0, 0)), (0, (4, 0), (0, 0)), (0, (5, 0), (0, 0))], f_x_sell)]
theorem zH295 : z_ok zT295 := .c zM131 .n
theorem zF295_131 : z_F zT295 131 = f_x_sell := id rfl
def zP295_0 : List ZO := [(11, [(131, 0), (4, 0), (0, 2), (1, 3), (3, 4), (2, 5), (1, 0), (2, 0), (3, 0), (4, 0), (5, 0)]), (6, [(6976, 0), (0, 0), (0, 0), (0, 0), (0, 0), (6, 0)]), (0, [(0, 0)]), (0, [(0, 1)]), (0, [(0, 2)]), (0, [(0, 3)]), (0, [(0, 4)])]
def zC295 : ZC := [(0, 5, [some (2, (0, 0), (0, 0)), some (0, (1, 0), (0, 0)), some (0, (2, 0), (0, 0)), some (0, (3, 0), (0, 0)), some (0, (4, 0), (0, 0)), some (0, (5, 0), (0, 0)), some (111, (0, 0), (0, 0)), none])]
theorem zG295 : z_go zC295 (z_A zT295) [] 295 400 true 8 zP295_0 0 [some (2, (0, 0), (0, 0)), some (0, (1, 0), (0, 0)), some (0, (2, 0), (0, 0)), some (0, (3, 0), (0, 0)), some (0, (4, 0), (0, 0)), some (0, (5, 0), (0, 0)), some (111, (0, 0), (0, 0)), none] [] 5 = true := by decide +kernel
noncomputable def f_w_sell : ZFn := fun L S => match L with
  | [x1, x2, x3, x4, x5] => (e_try (f_x_sell [x1, x2, x3, x4, x5] S) (fun v1 S1 => ((0, [0]), (e_upd S1 r_out 0 0 0 v1))) [(0, 1), (1, 2), (3, 3), (2, 4)])
  | _ => ((0, []), S)
theorem zE295 {x1 x2 x3 x4 x5 : Int} {S : ZS} : z_ev (z_F zT295) 8 zP295_0 [x1, x2, x3, x4, x5] S = f_w_sell [x1, x2, x3, x4, x5] S := id rfl
theorem zM295 : z_met 295 5 [(2, (0, 0), (0, 0)), (0, (1, 0), (0, 0)), (0, (2, 0), (0, 0)), (0, (3, 0), (0, 0)), (0, (4, 0), (0, 0)), (0, (5, 0), (0, 0)), (111, (0, 0), (0, 0))] f_w_sell := z_met_ev zH295 (fun _ _ h => absurd h List.not_mem_nil) rfl zG295 (by decide +kernel) (fun L S hn => match L, hn with
  | [x1, x2, x3, x4, x5], _ => zE295)
def zW295 : List Nat := [r_Archive_lineCount, r_Archive_next, r_Archive_letters, r_Archive_filmOf, r_Rights_dealCount, r_Rights_soldFilms, r_Rights_lands, r_Rights_firstMonths, r_Rights_lastMonths, r_Rights_buyers, r_out]
theorem zK295 : z_kp 5 zW295 f_w_sell := z_kp_ev (KT := [(131, 5, zW131)]) (.c zF295_131 zK131 .n) (z_h163 rfl) (by decide +kernel) (fun L S hn => match L, hn with
  | [x1, x2, x3, x4, x5], _ => zE295)

-- m_sell (249)
def zT249 : ZT := [(163, 2, [(52, (0, 0), (0, 0)), (0, (1, 0), (0, 0)), (0, (2, 0), (0, 0))], f_m_isThrown), (164, 3, [(0, (1, 0), (0, 0)), (0, (2, 0), (0, 0)), (0, (3, 0), (0, 0))], f_m_isIn), (166, 1, [(52, (0, 0), (0, 0)), (0, (1, 0), (0, 0))], f_m_isNoFilm), (167, 2, [(52, (0, 0), (0, 0)), (0, (1, 0), (0, 0)), (0, (2, 0), (0, 0))], f_m_writes)]
theorem zH249 : z_ok zT249 := .c zM163 (.c zM164 (.c zM166 (.c zM167 .n)))
theorem zF249_163 : z_F zT249 163 = f_m_isThrown := id rfl
theorem zF249_164 : z_F zT249 164 = f_m_isIn := id rfl
theorem zF249_166 : z_F zT249 166 = f_m_isNoFilm := id rfl
theorem zF249_167 : z_F zT249 167 = f_m_writes := id rfl
def zP249_0 : List ZO := [(7, [(164, 0), (2, 0), (0, 0), (0, 9)]), (3, [(0, 0), (6, 0), (6, 0), (0, 0)]), (7, [(166, 0), (1, 0)]), (13, [(163, 0), (0, 0), (7, 0), (0, 1)]), (3, [(1, 0), (1, 0), (7, 0), (0, 0)]), (0, [(0, 0)]), (13, [(163, 0), (0, 0), (0, 1), (0, 2)]), (0, [(0, 0)]), (7, [(164, 0), (3, 0), (0, 0), (0, 99)]), (3, [(0, 0), (6, 0), (7, 0), (0, 0)]), (7, [(166, 0), (1, 0)]), (13, [(163, 0), (0, 0), (8, 0), (0, 1)]), (3, [(1, 0), (1, 0), (8, 0), (0, 0)]), (0, [(0, 0)]), (13, [(163, 0), (0, 0), (0, 1), (0, 2)]), (0, [(0, 0)]), (7, [(164, 0), (4, 0), (3, 0), (0, 99)]), (3, [(0, 0), (6, 0), (8, 0), (0, 0)]), (7, [(166, 0), (1, 0)]), (13, [(163, 0), (0, 0), (9, 0), (0, 1)]), (3, [(1, 0), (1, 0), (9, 0), (0, 0)]), (0, [(0, 0)]), (13, [(163, 0), (0, 0), (0, 1), (0, 2)]), (0, [(0, 0)]), (7, [(164, 0), (5, 0), (0, 0), (0, 9)]), (3, [(0, 0), (6, 0), (9, 0), (0, 0)]), (7, [(166, 0), (1, 0)]), (13, [(163, 0), (0, 0), (10, 0), (0, 1)]), (3, [(1, 0), (1, 0), (10, 0), (0, 0)]), (0, [(0, 0)]), (13, [(163, 0), (0, 0), (0, 1), (0, 2)]), (0, [(0, 0)]), (7, [(166, 0), (1, 0)]), (13, [(163, 0), (0, 0), (10, 0), (0, 1)]), (3, [(1, 0), (1, 0), (10, 0), (0, 0)]), (0, [(0, 0)]), (13, [(163, 0), (0, 0), (0, 0), (0, 2)]), (5, [(3648, 0), (0, 0), (0, 0), (1, 0)]), (2, [(93, 0), (1, 0), (2, 0), (3, 0), (4, 0), (5, 0), (11, 0), (0, 0)])]
def zP249_93 : List ZO := [(5, [(3252, 0), (0, 0), (0, 0), (0, 0)]), (3, [(3, 0), (22, 0), (7, 0), (8, 0)]), (13, [(163, 0), (0, 0), (6, 0), (0, 3)]), (3, [(1, 0), (1, 0), (6, 0), (0, 0)]), (0, [(0, 0)]), (5, [(3252, 0), (0, 0), (0, 0), (0, 0)]), (3, [(1, 0), (15, 0), (9, 0), (0, 40)]), (13, [(163, 0), (0, 0), (0, 0), (0, 4)]), (8, []), (6, [(7168, 0), (0, 0), (10, 0), (0, 0), (0, 0), (1, 0)]), (6, [(7168, 0), (0, 0), (10, 0), (0, 0), (0, 1), (2, 0)]), (6, [(7168, 0), (0, 0), (10, 0), (0, 0), (0, 2), (3, 0)]), (6, [(7168, 0), (0, 0), (10, 0), (0, 0), (0, 3), (4, 0)]), (6, [(7168, 0), (0, 0), (10, 0), (0, 0), (0, 4), (5, 0)]), (5, [(3252, 0), (0, 0), (0, 0), (0, 0)]), (9, [(7168, 0), (10, 0), (0, 0), (0, 0), (6720, 0), (11, 0), (0, 0), (0, 0), (0, 5)]), (5, [(3252, 0), (0, 0), (0, 0), (0, 0)]), (4, [(0, 0), (12, 0), (0, 1)]), (6, [(3252, 0), (0, 0), (0, 0), (0, 0), (0, 0), (13, 0)]), (7, [(167, 0), (0, 100), (1, 0)]), (5, [(3252, 0), (0, 0), (0, 0), (0, 0)]), (0, [(15, 0)]), (13, [(163, 0), (0, 0), (0, 1), (0, 4)]), (0, [(0, 0)]), (5, [(6720, 0), (7, 0), (0, 0), (0, 0)]), (3, [(1, 0), (3, 0), (9, 0), (1, 0)]), (4, [(6, 0), (6, 0), (0, 0)]), (4, [(0, 0), (7, 0), (0, 1)]), (2, [(93, 0), (1, 0), (2, 0), (3, 0), (4, 0), (5, 0), (10, 0), (11, 0)]), (5, [(6720, 0), (7, 0), (0, 0), (0, 1)]), (3, [(1, 0), (3, 0), (10, 0), (2, 0)]), (4, [(6, 0), (6, 0), (0, 0)]), (4, [(0, 0), (7, 0), (0, 1)]), (2, [(93, 0), (1, 0), (2, 0), (3, 0), (4, 0), (5, 0), (11, 0), (12, 0)]), (5, [(6720, 0), (7, 0), (0, 0), (0, 2)]), (3, [(4, 0), (3, 0), (11, 0), (4, 0)]), (4, [(6, 0), (6, 0), (0, 0)]), (4, [(0, 0), (7, 0), (0, 1)]), (2, [(93, 0), (1, 0), (2, 0), (3, 0), (4, 0), (5, 0), (12, 0), (13, 0)]), (5, [(6720, 0), (7, 0), (0, 0), (0, 3)]), (3, [(4, 0), (3, 0), (3, 0), (12, 0)]), (4, [(6, 0), (6, 0), (0, 0)]), (4, [(0, 0), (7, 0), (0, 1)]), (2, [(93, 0), (1, 0), (2, 0), (3, 0), (4, 0), (5, 0), (13, 0), (14, 0)]), (4, [(6, 0), (6, 0), (0, 1)]), (4, [(0, 0), (7, 0), (0, 1)]), (2, [(93, 0), (1, 0), (2, 0), (3, 0), (4, 0), (5, 0), (13, 0), (14, 0)])]
def zD249 : ZD := [(0, 5, [some (52, (0, 0), (0, 0)), some (0, (1, 0), (0, 0)), some (0, (2, 0), (0, 0)), some (0, (3, 0), (0, 0)), some (0, (4, 0), (0, 0)), some (0, (5, 0), (0, 0)), none, none, none], 40, zP249_0), (93, 7, [some (52, (0, 0), (0, 0)), some (0, (1, 0), (0, 0)), some (0, (2, 0), (0, 0)), some (0, (3, 0), (0, 0)), some (0, (4, 0), (0, 0)), some (0, (5, 0), (0, 0)), none, some (0, (6, 0), (0, 0)), some (0, (7, 0), (0, 0))], 48, zP249_93)]
theorem zG249 : z_chk zT249 [(163, 0)] 249 zD249 = true := by decide +kernel
noncomputable def g_m_sell (R : ZR) : ZR := z_psi (z_st (z_F zT249) zD249) R
noncomputable def f_m_sell : ZFn := fun L S => g_m_sell ((1000, L), S)
theorem zM249 : z_met 249 5 [(52, (0, 0), (0, 0)), (0, (1, 0), (0, 0)), (0, (2, 0), (0, 0)), (0, (3, 0), (0, 0)), (0, (4, 0), (0, 0)), (0, (5, 0), (0, 0))] f_m_sell := z_met_psi zH249 (fun _ _ h => by rw [List.mem_singleton] at h; cases h; exact fun _ _ => rfl) rfl zG249
theorem zE249_0 {x1 x2 x3 x4 x5 : Int} {S : ZS} : z_st (z_F zT249) zD249 0 [x1, x2, x3, x4, x5] S = (bif decide ((v_m_isIn x2 0 9 S) = 0) then (bif !decide ((v_m_isNoFilm x1 S) = 0) then ((0, [0]), (e_upd S r_m_thrown 0 0 0 (bif !decide ((v_m_isNoFilm x1 S) = 0) then 1 else 0))) else ((0, [0]), (e_upd (e_upd S r_m_thrown 0 0 0 (bif !decide ((v_m_isNoFilm x1 S) = 0) then 1 else 0)) r_m_thrown 0 0 0 2))) else (bif decide ((v_m_isIn x3 0 99 S) = 0) then (bif !decide ((v_m_isNoFilm x1 S) = 0) then ((0, [0]), (e_upd S r_m_thrown 0 0 0 (bif !decide ((v_m_isNoFilm x1 S) = 0) then 1 else 0))) else ((0, [0]), (e_upd (e_upd S r_m_thrown 0 0 0 (bif !decide ((v_m_isNoFilm x1 S) = 0) then 1 else 0)) r_m_thrown 0 0 0 2))) else (bif decide ((v_m_isIn x4 x3 99 S) = 0) then (bif !decide ((v_m_isNoFilm x1 S) = 0) then ((0, [0]), (e_upd S r_m_thrown 0 0 0 (bif !decide ((v_m_isNoFilm x1 S) = 0) then 1 else 0))) else ((0, [0]), (e_upd (e_upd S r_m_thrown 0 0 0 (bif !decide ((v_m_isNoFilm x1 S) = 0) then 1 else 0)) r_m_thrown 0 0 0 2))) else (bif decide ((v_m_isIn x5 0 9 S) = 0) then (bif !decide ((v_m_isNoFilm x1 S) = 0) then ((0, [0]), (e_upd S r_m_thrown 0 0 0 (bif !decide ((v_m_isNoFilm x1 S) = 0) then 1 else 0))) else ((0, [0]), (e_upd (e_upd S r_m_thrown 0 0 0 (bif !decide ((v_m_isNoFilm x1 S) = 0) then 1 else 0)) r_m_thrown 0 0 0 2))) else (bif !decide ((v_m_isNoFilm x1 S) = 0) then ((0, [0]), (e_upd S r_m_thrown 0 0 0 (bif !decide ((v_m_isNoFilm x1 S) = 0) then 1 else 0))) else ((1093, [x1, x2, x3, x4, x5, (S r_m_areWithdrawn 0 0 x1), 0]), (e_upd (e_upd S r_m_thrown 0 0 0 (bif !decide ((v_m_isNoFilm x1 S) = 0) then 1 else 0)) r_m_thrown 0 0 0 0))))))) := (id rfl : z_st (z_F zT249) zD249 0 [x1, x2, x3, x4, x5] S = z_ev (z_F zT249) 40 zP249_0 [x1, x2, x3, x4, x5] S).trans (by
  simp -implicitDefEqProofs only [zP249_0, zF249_163, zF249_164, zF249_166, zF249_167, zpI0, zpI1, zpIc, pF_m_isIn, pF_m_isNoFilm, Nat.zero_add, Nat.reduceAdd, Nat.reduceBEq, Int.reduceToNat, z_e0, z_e1, z_e2, z_e3, z_e4, z_e5, z_e6, z_e7, z_e8, z_e11, z_e13, o_v0, o_v1, o_v2, List.cons_append, List.nil_append, List.map_cons, List.map_nil, List.drop_succ_cons, List.drop_zero, List.take_succ_cons, List.take_zero, e_c0, e_c1, e_c2, e_c3, e_c4, e_c5, e_b0, e_b1, e_b2, e_b3, e_b4, e_b5, e_b6, e_b7, e_b8, e_b9, e_b10, e_b11, e_b12, e_b13, e_b14, e_b15, e_b16, e_b17, e_n0, e_bnd, e_un]
  try rfl)
theorem g_m_sell_0 {x1 x2 x3 x4 x5 : Int} {S : ZS} : g_m_sell ((1000, [x1, x2, x3, x4, x5]), S) = (bif decide ((v_m_isIn x2 0 9 S) = 0) then (bif !decide ((v_m_isNoFilm x1 S) = 0) then ((0, [0]), (e_upd S r_m_thrown 0 0 0 (bif !decide ((v_m_isNoFilm x1 S) = 0) then 1 else 0))) else ((0, [0]), (e_upd (e_upd S r_m_thrown 0 0 0 (bif !decide ((v_m_isNoFilm x1 S) = 0) then 1 else 0)) r_m_thrown 0 0 0 2))) else (bif decide ((v_m_isIn x3 0 99 S) = 0) then (bif !decide ((v_m_isNoFilm x1 S) = 0) then ((0, [0]), (e_upd S r_m_thrown 0 0 0 (bif !decide ((v_m_isNoFilm x1 S) = 0) then 1 else 0))) else ((0, [0]), (e_upd (e_upd S r_m_thrown 0 0 0 (bif !decide ((v_m_isNoFilm x1 S) = 0) then 1 else 0)) r_m_thrown 0 0 0 2))) else (bif decide ((v_m_isIn x4 x3 99 S) = 0) then (bif !decide ((v_m_isNoFilm x1 S) = 0) then ((0, [0]), (e_upd S r_m_thrown 0 0 0 (bif !decide ((v_m_isNoFilm x1 S) = 0) then 1 else 0))) else ((0, [0]), (e_upd (e_upd S r_m_thrown 0 0 0 (bif !decide ((v_m_isNoFilm x1 S) = 0) then 1 else 0)) r_m_thrown 0 0 0 2))) else (bif decide ((v_m_isIn x5 0 9 S) = 0) then (bif !decide ((v_m_isNoFilm x1 S) = 0) then ((0, [0]), (e_upd S r_m_thrown 0 0 0 (bif !decide ((v_m_isNoFilm x1 S) = 0) then 1 else 0))) else ((0, [0]), (e_upd (e_upd S r_m_thrown 0 0 0 (bif !decide ((v_m_isNoFilm x1 S) = 0) then 1 else 0)) r_m_thrown 0 0 0 2))) else (bif !decide ((v_m_isNoFilm x1 S) = 0) then ((0, [0]), (e_upd S r_m_thrown 0 0 0 (bif !decide ((v_m_isNoFilm x1 S) = 0) then 1 else 0))) else (g_m_sell ((1093, [x1, x2, x3, x4, x5, (S r_m_areWithdrawn 0 0 x1), 0]), (e_upd (e_upd S r_m_thrown 0 0 0 (bif !decide ((v_m_isNoFilm x1 S) = 0) then 1 else 0)) r_m_thrown 0 0 0 0)))))))) := by
  unfold g_m_sell
  refine ((z_psi_go (pc := 0)).trans (congrArg _ zE249_0)).trans ?_
  try simp only [z_psi_c, z_psi_b, z_psi_n, Nat.reduceLT, decide_true]
theorem zE249_93 {x1 x2 x3 x4 x5 x6 x7 : Int} {S : ZS} : z_st (z_F zT249) zD249 93 [x1, x2, x3, x4, x5, x6, x7] S = (bif decide ((S r_m_dealMany 0 0 0) ≤ x7) then (bif !decide (x6 = 0) then ((0, [0]), (e_upd S r_m_thrown 0 0 0 (bif !decide (x6 = 0) then 3 else 0))) else (bif !decide ((S r_m_dealMany 0 0 0) = 40) then (e_bind (f_m_writes [100, x1] (e_upd (e_acp (e_upd (e_upd (e_upd (e_upd (e_upd (e_upd (e_upd (e_upd S r_m_thrown 0 0 0 (bif !decide (x6 = 0) then 3 else 0)) r_m_thrown 0 0 0 0) z_rA 0 0 0 ((S z_rA 0 0 0) + 1)) r_new (S z_rA 0 0 0) 0 0 x1) r_new (S z_rA 0 0 0) 0 1 x2) r_new (S z_rA 0 0 0) 0 2 x3) r_new (S z_rA 0 0 0) 0 3 x4) r_new (S z_rA 0 0 0) 0 4 x5) r_new (S z_rA 0 0 0) 0 0 r_m_deals_r (S r_m_dealMany 0 0 0) 0 0 5) r_m_dealMany 0 0 0 (e_wr (((e_acp (e_upd (e_upd (e_upd (e_upd (e_upd (e_upd (e_upd (e_upd S r_m_thrown 0 0 0 (bif !decide (x6 = 0) then 3 else 0)) r_m_thrown 0 0 0 0) z_rA 0 0 0 ((S z_rA 0 0 0) + 1)) r_new (S z_rA 0 0 0) 0 0 x1) r_new (S z_rA 0 0 0) 0 1 x2) r_new (S z_rA 0 0 0) 0 2 x3) r_new (S z_rA 0 0 0) 0 3 x4) r_new (S z_rA 0 0 0) 0 4 x5) r_new (S z_rA 0 0 0) 0 0 r_m_deals_r (S r_m_dealMany 0 0 0) 0 0 5) r_m_dealMany 0 0 0) + 1)))) (fun v1 S1 => ((0, [(S1 r_m_dealMany 0 0 0)]), S1))) else ((0, [0]), (e_upd (e_upd S r_m_thrown 0 0 0 (bif !decide (x6 = 0) then 3 else 0)) r_m_thrown 0 0 0 4)))) else (bif !decide ((S r_m_deals_r x7 0 0) = x1) then ((1093, [x1, x2, x3, x4, x5, (e_or x6 0), (e_wr (x7 + 1))]), S) else (bif !decide ((S r_m_deals_r x7 0 1) = x2) then ((1093, [x1, x2, x3, x4, x5, (e_or x6 0), (e_wr (x7 + 1))]), S) else (bif decide (x4 < (S r_m_deals_r x7 0 2)) then ((1093, [x1, x2, x3, x4, x5, (e_or x6 0), (e_wr (x7 + 1))]), S) else (bif decide ((S r_m_deals_r x7 0 3) < x3) then ((1093, [x1, x2, x3, x4, x5, (e_or x6 0), (e_wr (x7 + 1))]), S) else ((1093, [x1, x2, x3, x4, x5, (e_or x6 1), (e_wr (x7 + 1))]), S)))))) := (id rfl : z_st (z_F zT249) zD249 93 [x1, x2, x3, x4, x5, x6, x7] S = z_ev (z_F zT249) 48 zP249_93 [x1, x2, x3, x4, x5, x6, x7] S).trans (by
  simp -implicitDefEqProofs only [zP249_93, zF249_163, zF249_164, zF249_166, zF249_167, zpI0, zpI1, zpIc, pF_m_isIn, pF_m_isNoFilm, Nat.zero_add, Nat.reduceAdd, Nat.reduceBEq, Int.reduceToNat, z_e0, z_e1, z_e2, z_e3, z_e4, z_e5, z_e6, z_e7, z_e8, z_e11, z_e13, o_v0, o_v1, o_v2, List.cons_append, List.nil_append, List.map_cons, List.map_nil, List.drop_succ_cons, List.drop_zero, List.take_succ_cons, List.take_zero, e_c0, e_c1, e_c2, e_c3, e_c4, e_c5, e_b0, e_b1, e_b2, e_b3, e_b4, e_b5, e_b6, e_b7, e_b8, e_b9, e_b10, e_b11, e_b12, e_b13, e_b14, e_b15, e_b16, e_b17, e_n0, e_bnd, e_un]
  try rfl)
theorem g_m_sell_93 {x1 x2 x3 x4 x5 x6 x7 : Int} {S : ZS} : g_m_sell ((1093, [x1, x2, x3, x4, x5, x6, x7]), S) = (bif decide ((S r_m_dealMany 0 0 0) ≤ x7) then (bif !decide (x6 = 0) then ((0, [0]), (e_upd S r_m_thrown 0 0 0 (bif !decide (x6 = 0) then 3 else 0))) else (bif !decide ((S r_m_dealMany 0 0 0) = 40) then (e_bind (f_m_writes [100, x1] (e_upd (e_acp (e_upd (e_upd (e_upd (e_upd (e_upd (e_upd (e_upd (e_upd S r_m_thrown 0 0 0 (bif !decide (x6 = 0) then 3 else 0)) r_m_thrown 0 0 0 0) z_rA 0 0 0 ((S z_rA 0 0 0) + 1)) r_new (S z_rA 0 0 0) 0 0 x1) r_new (S z_rA 0 0 0) 0 1 x2) r_new (S z_rA 0 0 0) 0 2 x3) r_new (S z_rA 0 0 0) 0 3 x4) r_new (S z_rA 0 0 0) 0 4 x5) r_new (S z_rA 0 0 0) 0 0 r_m_deals_r (S r_m_dealMany 0 0 0) 0 0 5) r_m_dealMany 0 0 0 (e_wr (((e_acp (e_upd (e_upd (e_upd (e_upd (e_upd (e_upd (e_upd (e_upd S r_m_thrown 0 0 0 (bif !decide (x6 = 0) then 3 else 0)) r_m_thrown 0 0 0 0) z_rA 0 0 0 ((S z_rA 0 0 0) + 1)) r_new (S z_rA 0 0 0) 0 0 x1) r_new (S z_rA 0 0 0) 0 1 x2) r_new (S z_rA 0 0 0) 0 2 x3) r_new (S z_rA 0 0 0) 0 3 x4) r_new (S z_rA 0 0 0) 0 4 x5) r_new (S z_rA 0 0 0) 0 0 r_m_deals_r (S r_m_dealMany 0 0 0) 0 0 5) r_m_dealMany 0 0 0) + 1)))) (fun v1 S1 => ((0, [(S1 r_m_dealMany 0 0 0)]), S1))) else ((0, [0]), (e_upd (e_upd S r_m_thrown 0 0 0 (bif !decide (x6 = 0) then 3 else 0)) r_m_thrown 0 0 0 4)))) else (bif !decide ((S r_m_deals_r x7 0 0) = x1) then (g_m_sell ((1093, [x1, x2, x3, x4, x5, (e_or x6 0), (e_wr (x7 + 1))]), S)) else (bif !decide ((S r_m_deals_r x7 0 1) = x2) then (g_m_sell ((1093, [x1, x2, x3, x4, x5, (e_or x6 0), (e_wr (x7 + 1))]), S)) else (bif decide (x4 < (S r_m_deals_r x7 0 2)) then (g_m_sell ((1093, [x1, x2, x3, x4, x5, (e_or x6 0), (e_wr (x7 + 1))]), S)) else (bif decide ((S r_m_deals_r x7 0 3) < x3) then (g_m_sell ((1093, [x1, x2, x3, x4, x5, (e_or x6 0), (e_wr (x7 + 1))]), S)) else (g_m_sell ((1093, [x1, x2, x3, x4, x5, (e_or x6 1), (e_wr (x7 + 1))]), S))))))) := by
  unfold g_m_sell
  refine ((z_psi_go (pc := 93)).trans (congrArg _ zE249_93)).trans ?_
  try simp only [z_psi_c, z_psi_b, z_psi_n, Nat.reduceLT, decide_true]
def zW249 : List Nat := [r_m_dealMany, r_m_lineMany, r_m_thrown, r_m_deals_r, r_m_letters, r_m_lineFilms, r_new, z_rA]
theorem zK249 : z_kp 5 zW249 f_m_sell := fun L S hL hc r i j k hr => z_psi_kp (KT := [(163, 2, zW163), (164, 3, zW164), (166, 1, zW166), (167, 2, zW167)]) (F := z_F zT249) (W := zW249) (D := zD249) (.c zF249_163 zK163 (.c zF249_164 zK164 (.c zF249_166 zK166 (.c zF249_167 zK167 .n)))) (fun _ _ => Or.inl rfl) (by decide +kernel) _ hc r i j k hr

-- Rights_buyerIn (73)
def zT73 : ZT := [(71, 5, [(43, (0, 0), (0, 0)), (0, (1, 0), (0, 0)), (0, (2, 0), (0, 0)), (0, (3, 0), (0, 0)), (0, (4, 0), (0, 0)), (0, (5, 0), (0, 0))], f_Rights_isOver)]
theorem zH73 : z_ok zT73 := .c zM71 .n
theorem zF73_71 : z_F zT73 71 = f_Rights_isOver := id rfl
def zP73_0 : List ZO := [(2, [(3, 0), (1, 0), (2, 0), (3, 0), (0, 0)])]
def zP73_3 : List ZO := [(5, [(2629, 0), (0, 0), (0, 0), (0, 0)]), (3, [(3, 0), (1, 0), (4, 0), (5, 0)]), (0, [(0, (-1))]), (7, [(71, 0), (4, 0), (1, 0), (2, 0), (3, 0), (3, 0)]), (3, [(0, 0), (2, 0), (6, 0), (0, 0)]), (4, [(0, 0), (4, 0), (0, 1)]), (2, [(3, 0), (1, 0), (2, 0), (3, 0), (7, 0)]), (5, [(2944, 0), (0, 0), (0, 0), (4, 0)]), (0, [(7, 0)])]
def zD73 : ZD := [(0, 3, [some (43, (0, 0), (0, 0)), some (0, (1, 0), (0, 0)), some (0, (2, 0), (0, 0)), some (0, (3, 0), (0, 0)), none], 2, zP73_0), (3, 4, [some (43, (0, 0), (0, 0)), some (0, (1, 0), (0, 0)), some (0, (2, 0), (0, 0)), some (0, (3, 0), (0, 0)), some (0, (4, 0), (0, 0))], 10, zP73_3)]
theorem zG73 : z_chk zT73 [] 73 zD73 = true := by decide +kernel
noncomputable def g_Rights_buyerIn (R : ZR) : ZR := z_psi (z_st (z_F zT73) zD73) R
noncomputable def f_Rights_buyerIn : ZFn := fun L S => g_Rights_buyerIn ((1000, L), S)
theorem zM73 : z_met 73 3 [(43, (0, 0), (0, 0)), (0, (1, 0), (0, 0)), (0, (2, 0), (0, 0)), (0, (3, 0), (0, 0))] f_Rights_buyerIn := z_met_psi zH73 (fun _ _ h => absurd h List.not_mem_nil) rfl zG73
theorem zE73_0 {x1 x2 x3 : Int} {S : ZS} : z_st (z_F zT73) zD73 0 [x1, x2, x3] S = ((1003, [x1, x2, x3, 0]), S) := (id rfl : z_st (z_F zT73) zD73 0 [x1, x2, x3] S = z_ev (z_F zT73) 2 zP73_0 [x1, x2, x3] S).trans (id rfl)
theorem g_Rights_buyerIn_0 {x1 x2 x3 : Int} {S : ZS} : g_Rights_buyerIn ((1000, [x1, x2, x3]), S) = (g_Rights_buyerIn ((1003, [x1, x2, x3, 0]), S)) := by
  unfold g_Rights_buyerIn
  refine ((z_psi_go (pc := 0)).trans (congrArg _ zE73_0)).trans ?_
  try simp only [z_psi_c, z_psi_b, z_psi_n, Nat.reduceLT, decide_true]
theorem zE73_3 {x1 x2 x3 x4 : Int} {S : ZS} : z_st (z_F zT73) zD73 3 [x1, x2, x3, x4] S = (bif decide ((S r_Rights_dealCount 0 0 0) ≤ x4) then ((0, [(-1)]), S) else (bif decide ((v_Rights_isOver x4 x1 x2 x3 x3 S) = 0) then ((1003, [x1, x2, x3, (e_wr (x4 + 1))]), S) else ((0, [(S r_Rights_buyers 0 0 x4)]), S))) := (id rfl : z_st (z_F zT73) zD73 3 [x1, x2, x3, x4] S = z_ev (z_F zT73) 10 zP73_3 [x1, x2, x3, x4] S).trans (id rfl)
theorem g_Rights_buyerIn_3 {x1 x2 x3 x4 : Int} {S : ZS} : g_Rights_buyerIn ((1003, [x1, x2, x3, x4]), S) = (bif decide ((S r_Rights_dealCount 0 0 0) ≤ x4) then ((0, [(-1)]), S) else (bif decide ((v_Rights_isOver x4 x1 x2 x3 x3 S) = 0) then (g_Rights_buyerIn ((1003, [x1, x2, x3, (e_wr (x4 + 1))]), S)) else ((0, [(S r_Rights_buyers 0 0 x4)]), S))) := by
  unfold g_Rights_buyerIn
  refine ((z_psi_go (pc := 3)).trans (congrArg _ zE73_3)).trans ?_
  try simp only [z_psi_c, z_psi_b, z_psi_n, Nat.reduceLT, decide_true]
def zW73 : List Nat := []
theorem zK73 : z_kp 3 zW73 f_Rights_buyerIn := fun L S hL hc r i j k hr => z_psi_kp (KT := [(71, 5, zW71)]) (F := z_F zT73) (W := zW73) (D := zD73) (.c zF73_71 zK71 .n) (z_h163 rfl) (by decide +kernel) _ hc r i j k hr

-- x_owner (132)
noncomputable def zT132 : ZT := [(73, 3, [(43, (0, 0), (0, 0)), (0, (1, 0), (0, 0)), (0, (2, 0), (0, 0)), (0, (3, 0), (0, 0))], f_Rights_buyerIn), (138, 3, [(0, (1, 0), (0, 0)), (0, (2, 0), (0, 0)), (0, (3, 0), (0, 0))], f_x_isWithin), (143, 1, [(2, (0, 0), (0, 0)), (0, (1, 0), (0, 0))], f_x_checkFilm)]
theorem zH132 : z_ok zT132 := .c zM73 (.c zM138 (.c zM143 .n))
theorem zF132_73 : z_F zT132 73 = f_Rights_buyerIn := id rfl
theorem zF132_138 : z_F zT132 138 = f_x_isWithin := id rfl
theorem zF132_143 : z_F zT132 143 = f_x_checkFilm := id rfl
def zP132_0 : List ZO := [(7, [(143, 0), (1, 0)]), (7, [(138, 0), (2, 0), (0, 0), (0, 9)]), (3, [(0, 0), (1, 0), (5, 0), (0, 0)]), (1, [(1, 0)]), (7, [(138, 0), (3, 0), (0, 0), (0, 99)]), (3, [(1, 0), (4, 0), (6, 0), (0, 0)]), (7, [(73, 0), (1, 0), (2, 0), (3, 0)]), (3, [(1, 0), (1, 0), (7, 0), (0, (-1))]), (0, [(7, 0)]), (1, [(4, 0)]), (1, [(1, 0)])]
def zC132 : ZC := [(0, 3, [some (2, (0, 0), (0, 0)), some (0, (1, 0), (0, 0)), some (0, (2, 0), (0, 0)), some (0, (3, 0), (0, 0)), none])]
theorem zG132 : z_go zC132 (z_A zT132) [] 132 400 true 12 zP132_0 0 [some (2, (0, 0), (0, 0)), some (0, (1, 0), (0, 0)), some (0, (2, 0), (0, 0)), some (0, (3, 0), (0, 0)), none] [] 3 = true := by decide +kernel
noncomputable def f_x_owner : ZFn := fun L S => match L with
  | [x1, x2, x3] => (e_bind (f_x_checkFilm [x1] S) (fun v1 S1 => (bif decide ((v_x_isWithin x2 0 9 S1) = 0) then ((2, []), S1) else (bif !decide ((v_x_isWithin x3 0 99 S1) = 0) then (e_bind (f_Rights_buyerIn [x1, x2, x3] S1) (fun v2 S2 => (bif !decide (v2 = (-1)) then ((0, [v2]), S2) else ((5, []), S2)))) else ((2, []), S1)))))
  | _ => ((0, []), S)
theorem zE132 {x1 x2 x3 : Int} {S : ZS} : z_ev (z_F zT132) 12 zP132_0 [x1, x2, x3] S = f_x_owner [x1, x2, x3] S := id rfl
theorem zM132 : z_met 132 3 [(2, (0, 0), (0, 0)), (0, (1, 0), (0, 0)), (0, (2, 0), (0, 0)), (0, (3, 0), (0, 0))] f_x_owner := z_met_ev zH132 (fun _ _ h => absurd h List.not_mem_nil) rfl zG132 (by decide +kernel) (fun L S hn => match L, hn with
  | [x1, x2, x3], _ => zE132)
def zW132 : List Nat := []
theorem zK132 : z_kp 3 zW132 f_x_owner := z_kp_ev (KT := [(73, 3, zW73), (138, 3, zW138), (143, 1, zW143)]) (.c zF132_73 zK73 (.c zF132_138 zK138 (.c zF132_143 zK143 .n))) (z_h163 rfl) (by decide +kernel) (fun L S hn => match L, hn with
  | [x1, x2, x3], _ => zE132)

-- w_owner (296)
noncomputable def zT296 : ZT := [(132, 3, [(2, (0, 0), (0, 0)), (0, (1, 0), (0, 0)), (0, (2, 0), (0, 0)), (0, (3, 0), (0, 0))], f_x_owner)]
theorem zH296 : z_ok zT296 := .c zM132 .n
theorem zF296_132 : z_F zT296 132 = f_x_owner := id rfl
def zP296_0 : List ZO := [(11, [(132, 0), (3, 0), (0, 2), (1, 3), (4, 4), (1, 0), (2, 0), (3, 0)]), (6, [(6976, 0), (0, 0), (0, 0), (0, 0), (0, 0), (4, 0)]), (0, [(0, 0)]), (0, [(0, 1)]), (0, [(0, 2)]), (0, [(0, 3)])]
def zC296 : ZC := [(0, 3, [some (2, (0, 0), (0, 0)), some (0, (1, 0), (0, 0)), some (0, (2, 0), (0, 0)), some (0, (3, 0), (0, 0)), some (111, (0, 0), (0, 0)), none])]
theorem zG296 : z_go zC296 (z_A zT296) [] 296 400 true 7 zP296_0 0 [some (2, (0, 0), (0, 0)), some (0, (1, 0), (0, 0)), some (0, (2, 0), (0, 0)), some (0, (3, 0), (0, 0)), some (111, (0, 0), (0, 0)), none] [] 3 = true := by decide +kernel
noncomputable def f_w_owner : ZFn := fun L S => match L with
  | [x1, x2, x3] => (e_try (f_x_owner [x1, x2, x3] S) (fun v1 S1 => ((0, [0]), (e_upd S1 r_out 0 0 0 v1))) [(0, 1), (1, 2), (4, 3)])
  | _ => ((0, []), S)
theorem zE296 {x1 x2 x3 : Int} {S : ZS} : z_ev (z_F zT296) 7 zP296_0 [x1, x2, x3] S = f_w_owner [x1, x2, x3] S := id rfl
theorem zM296 : z_met 296 3 [(2, (0, 0), (0, 0)), (0, (1, 0), (0, 0)), (0, (2, 0), (0, 0)), (0, (3, 0), (0, 0)), (111, (0, 0), (0, 0))] f_w_owner := z_met_ev zH296 (fun _ _ h => absurd h List.not_mem_nil) rfl zG296 (by decide +kernel) (fun L S hn => match L, hn with
  | [x1, x2, x3], _ => zE296)
def zW296 : List Nat := [r_out]
theorem zK296 : z_kp 3 zW296 f_w_owner := z_kp_ev (KT := [(132, 3, zW132)]) (.c zF296_132 zK132 .n) (z_h163 rfl) (by decide +kernel) (fun L S hn => match L, hn with
  | [x1, x2, x3], _ => zE296)

-- m_owner (250)
def zT250 : ZT := [(163, 2, [(52, (0, 0), (0, 0)), (0, (1, 0), (0, 0)), (0, (2, 0), (0, 0))], f_m_isThrown), (164, 3, [(0, (1, 0), (0, 0)), (0, (2, 0), (0, 0)), (0, (3, 0), (0, 0))], f_m_isIn), (166, 1, [(52, (0, 0), (0, 0)), (0, (1, 0), (0, 0))], f_m_isNoFilm)]
theorem zH250 : z_ok zT250 := .c zM163 (.c zM164 (.c zM166 .n))
theorem zF250_163 : z_F zT250 163 = f_m_isThrown := id rfl
theorem zF250_164 : z_F zT250 164 = f_m_isIn := id rfl
theorem zF250_166 : z_F zT250 166 = f_m_isNoFilm := id rfl
def zP250_0 : List ZO := [(7, [(166, 0), (1, 0)]), (13, [(163, 0), (0, 0), (4, 0), (0, 1)]), (3, [(1, 0), (1, 0), (4, 0), (0, 0)]), (0, [(0, 0)]), (7, [(164, 0), (2, 0), (0, 0), (0, 9)]), (3, [(0, 0), (2, 0), (5, 0), (0, 0)]), (13, [(163, 0), (0, 0), (0, 1), (0, 2)]), (0, [(0, 0)]), (7, [(164, 0), (3, 0), (0, 0), (0, 99)]), (3, [(1, 0), (2, 0), (6, 0), (0, 0)]), (13, [(163, 0), (0, 0), (0, 0), (0, 2)]), (2, [(54, 0), (1, 0), (2, 0), (3, 0), (0, (-1)), (0, 0)]), (13, [(163, 0), (0, 0), (0, 1), (0, 2)]), (0, [(0, 0)])]
def zP250_54 : List ZO := [(5, [(3252, 0), (0, 0), (0, 0), (0, 0)]), (3, [(3, 0), (5, 0), (5, 0), (6, 0)]), (3, [(3, 0), (2, 0), (4, 0), (0, 0)]), (13, [(163, 0), (0, 0), (0, 0), (0, 3)]), (0, [(4, 0)]), (13, [(163, 0), (0, 0), (0, 1), (0, 3)]), (0, [(0, 0)]), (5, [(6720, 0), (5, 0), (0, 0), (0, 0)]), (3, [(1, 0), (2, 0), (7, 0), (1, 0)]), (4, [(0, 0), (5, 0), (0, 1)]), (2, [(54, 0), (1, 0), (2, 0), (3, 0), (4, 0), (8, 0)]), (5, [(6720, 0), (5, 0), (0, 0), (0, 1)]), (3, [(1, 0), (2, 0), (8, 0), (2, 0)]), (4, [(0, 0), (5, 0), (0, 1)]), (2, [(54, 0), (1, 0), (2, 0), (3, 0), (4, 0), (9, 0)]), (5, [(6720, 0), (5, 0), (0, 0), (0, 2)]), (5, [(6720, 0), (5, 0), (0, 0), (0, 3)]), (7, [(164, 0), (3, 0), (9, 0), (10, 0)]), (3, [(0, 0), (2, 0), (11, 0), (0, 0)]), (4, [(0, 0), (5, 0), (0, 1)]), (2, [(54, 0), (1, 0), (2, 0), (3, 0), (4, 0), (12, 0)]), (5, [(6720, 0), (5, 0), (0, 0), (0, 4)]), (4, [(0, 0), (5, 0), (0, 1)]), (2, [(54, 0), (1, 0), (2, 0), (3, 0), (12, 0), (13, 0)])]
def zD250 : ZD := [(0, 3, [some (52, (0, 0), (0, 0)), some (0, (1, 0), (0, 0)), some (0, (2, 0), (0, 0)), some (0, (3, 0), (0, 0)), none, none, none], 15, zP250_0), (54, 5, [some (52, (0, 0), (0, 0)), some (0, (1, 0), (0, 0)), some (0, (2, 0), (0, 0)), some (0, (3, 0), (0, 0)), some (0, (4, 0), (0, 0)), some (0, (5, 0), (0, 0)), none], 25, zP250_54)]
theorem zG250 : z_chk zT250 [(163, 0)] 250 zD250 = true := by decide +kernel
noncomputable def g_m_owner (R : ZR) : ZR := z_psi (z_st (z_F zT250) zD250) R
noncomputable def f_m_owner : ZFn := fun L S => g_m_owner ((1000, L), S)
theorem zM250 : z_met 250 3 [(52, (0, 0), (0, 0)), (0, (1, 0), (0, 0)), (0, (2, 0), (0, 0)), (0, (3, 0), (0, 0))] f_m_owner := z_met_psi zH250 (fun _ _ h => by rw [List.mem_singleton] at h; cases h; exact fun _ _ => rfl) rfl zG250
theorem zE250_0 {x1 x2 x3 : Int} {S : ZS} : z_st (z_F zT250) zD250 0 [x1, x2, x3] S = (bif !decide ((v_m_isNoFilm x1 S) = 0) then ((0, [0]), (e_upd S r_m_thrown 0 0 0 (bif !decide ((v_m_isNoFilm x1 S) = 0) then 1 else 0))) else (bif decide ((v_m_isIn x2 0 9 (e_upd S r_m_thrown 0 0 0 (bif !decide ((v_m_isNoFilm x1 S) = 0) then 1 else 0))) = 0) then ((0, [0]), (e_upd (e_upd S r_m_thrown 0 0 0 (bif !decide ((v_m_isNoFilm x1 S) = 0) then 1 else 0)) r_m_thrown 0 0 0 2)) else (bif !decide ((v_m_isIn x3 0 99 (e_upd S r_m_thrown 0 0 0 (bif !decide ((v_m_isNoFilm x1 S) = 0) then 1 else 0))) = 0) then ((1054, [x1, x2, x3, (-1), 0]), (e_upd (e_upd S r_m_thrown 0 0 0 (bif !decide ((v_m_isNoFilm x1 S) = 0) then 1 else 0)) r_m_thrown 0 0 0 0)) else ((0, [0]), (e_upd (e_upd S r_m_thrown 0 0 0 (bif !decide ((v_m_isNoFilm x1 S) = 0) then 1 else 0)) r_m_thrown 0 0 0 2))))) := (id rfl : z_st (z_F zT250) zD250 0 [x1, x2, x3] S = z_ev (z_F zT250) 15 zP250_0 [x1, x2, x3] S).trans (by
  simp -implicitDefEqProofs only [zP250_0, zF250_163, zF250_164, zF250_166, zpI0, zpI1, zpIc, pF_m_isIn, pF_m_isNoFilm, Nat.zero_add, Nat.reduceAdd, Nat.reduceBEq, Int.reduceToNat, z_e0, z_e1, z_e2, z_e3, z_e4, z_e5, z_e6, z_e7, z_e8, z_e11, z_e13, o_v0, o_v1, o_v2, List.cons_append, List.nil_append, List.map_cons, List.map_nil, List.drop_succ_cons, List.drop_zero, List.take_succ_cons, List.take_zero, e_c0, e_c1, e_c2, e_c3, e_c4, e_c5, e_b0, e_b1, e_b2, e_b3, e_b4, e_b5, e_b6, e_b7, e_b8, e_b9, e_b10, e_b11, e_b12, e_b13, e_b14, e_b15, e_b16, e_b17, e_n0, e_bnd, e_un]
  try rfl)
theorem g_m_owner_0 {x1 x2 x3 : Int} {S : ZS} : g_m_owner ((1000, [x1, x2, x3]), S) = (bif !decide ((v_m_isNoFilm x1 S) = 0) then ((0, [0]), (e_upd S r_m_thrown 0 0 0 (bif !decide ((v_m_isNoFilm x1 S) = 0) then 1 else 0))) else (bif decide ((v_m_isIn x2 0 9 (e_upd S r_m_thrown 0 0 0 (bif !decide ((v_m_isNoFilm x1 S) = 0) then 1 else 0))) = 0) then ((0, [0]), (e_upd (e_upd S r_m_thrown 0 0 0 (bif !decide ((v_m_isNoFilm x1 S) = 0) then 1 else 0)) r_m_thrown 0 0 0 2)) else (bif !decide ((v_m_isIn x3 0 99 (e_upd S r_m_thrown 0 0 0 (bif !decide ((v_m_isNoFilm x1 S) = 0) then 1 else 0))) = 0) then (g_m_owner ((1054, [x1, x2, x3, (-1), 0]), (e_upd (e_upd S r_m_thrown 0 0 0 (bif !decide ((v_m_isNoFilm x1 S) = 0) then 1 else 0)) r_m_thrown 0 0 0 0))) else ((0, [0]), (e_upd (e_upd S r_m_thrown 0 0 0 (bif !decide ((v_m_isNoFilm x1 S) = 0) then 1 else 0)) r_m_thrown 0 0 0 2))))) := by
  unfold g_m_owner
  refine ((z_psi_go (pc := 0)).trans (congrArg _ zE250_0)).trans ?_
  try simp only [z_psi_c, z_psi_b, z_psi_n, Nat.reduceLT, decide_true]
theorem zE250_54 {x1 x2 x3 x4 x5 : Int} {S : ZS} : z_st (z_F zT250) zD250 54 [x1, x2, x3, x4, x5] S = (bif decide ((S r_m_dealMany 0 0 0) ≤ x5) then (bif decide (0 ≤ x4) then ((0, [x4]), (e_upd S r_m_thrown 0 0 0 0)) else ((0, [0]), (e_upd S r_m_thrown 0 0 0 3))) else (bif !decide ((S r_m_deals_r x5 0 0) = x1) then ((1054, [x1, x2, x3, x4, (e_wr (x5 + 1))]), S) else (bif !decide ((S r_m_deals_r x5 0 1) = x2) then ((1054, [x1, x2, x3, x4, (e_wr (x5 + 1))]), S) else (bif decide ((v_m_isIn x3 (S r_m_deals_r x5 0 2) (S r_m_deals_r x5 0 3) S) = 0) then ((1054, [x1, x2, x3, x4, (e_wr (x5 + 1))]), S) else ((1054, [x1, x2, x3, (S r_m_deals_r x5 0 4), (e_wr (x5 + 1))]), S))))) := (id rfl : z_st (z_F zT250) zD250 54 [x1, x2, x3, x4, x5] S = z_ev (z_F zT250) 25 zP250_54 [x1, x2, x3, x4, x5] S).trans (by
  simp -implicitDefEqProofs only [zP250_54, zF250_163, zF250_164, zF250_166, zpI0, zpI1, zpIc, pF_m_isIn, pF_m_isNoFilm, Nat.zero_add, Nat.reduceAdd, Nat.reduceBEq, Int.reduceToNat, z_e0, z_e1, z_e2, z_e3, z_e4, z_e5, z_e6, z_e7, z_e8, z_e11, z_e13, o_v0, o_v1, o_v2, List.cons_append, List.nil_append, List.map_cons, List.map_nil, List.drop_succ_cons, List.drop_zero, List.take_succ_cons, List.take_zero, e_c0, e_c1, e_c2, e_c3, e_c4, e_c5, e_b0, e_b1, e_b2, e_b3, e_b4, e_b5, e_b6, e_b7, e_b8, e_b9, e_b10, e_b11, e_b12, e_b13, e_b14, e_b15, e_b16, e_b17, e_n0, e_bnd, e_un]
  try rfl)
theorem g_m_owner_54 {x1 x2 x3 x4 x5 : Int} {S : ZS} : g_m_owner ((1054, [x1, x2, x3, x4, x5]), S) = (bif decide ((S r_m_dealMany 0 0 0) ≤ x5) then (bif decide (0 ≤ x4) then ((0, [x4]), (e_upd S r_m_thrown 0 0 0 0)) else ((0, [0]), (e_upd S r_m_thrown 0 0 0 3))) else (bif !decide ((S r_m_deals_r x5 0 0) = x1) then (g_m_owner ((1054, [x1, x2, x3, x4, (e_wr (x5 + 1))]), S)) else (bif !decide ((S r_m_deals_r x5 0 1) = x2) then (g_m_owner ((1054, [x1, x2, x3, x4, (e_wr (x5 + 1))]), S)) else (bif decide ((v_m_isIn x3 (S r_m_deals_r x5 0 2) (S r_m_deals_r x5 0 3) S) = 0) then (g_m_owner ((1054, [x1, x2, x3, x4, (e_wr (x5 + 1))]), S)) else (g_m_owner ((1054, [x1, x2, x3, (S r_m_deals_r x5 0 4), (e_wr (x5 + 1))]), S)))))) := by
  unfold g_m_owner
  refine ((z_psi_go (pc := 54)).trans (congrArg _ zE250_54)).trans ?_
  try simp only [z_psi_c, z_psi_b, z_psi_n, Nat.reduceLT, decide_true]
def zW250 : List Nat := [r_m_thrown]
theorem zK250 : z_kp 3 zW250 f_m_owner := fun L S hL hc r i j k hr => z_psi_kp (KT := [(163, 2, zW163), (164, 3, zW164), (166, 1, zW166)]) (F := z_F zT250) (W := zW250) (D := zD250) (.c zF250_163 zK163 (.c zF250_164 zK164 (.c zF250_166 zK166 .n))) (fun _ _ => Or.inl rfl) (by decide +kernel) _ hc r i j k hr

-- Archive_placeOf (2)
def zT2 : ZT := []
theorem zH2 : z_ok zT2 := .n
def zP2_0 : List ZO := [(5, [(707, 0), (0, 0), (0, 0), (0, 0)]), (4, [(1, 0), (2, 0), (0, 1)]), (4, [(1, 0), (3, 0), (1, 0)]), (4, [(0, 0), (4, 0), (0, 800)]), (4, [(4, 0), (5, 0), (0, 400)]), (0, [(6, 0)])]
def zC2 : ZC := [(0, 1, [some (13, (0, 0), (0, 0)), some (0, (1, 0), (0, 0))])]
theorem zG2 : z_go zC2 (z_A zT2) [] 2 400 true 7 zP2_0 0 [some (13, (0, 0), (0, 0)), some (0, (1, 0), (0, 0))] [] 1 = true := by decide +kernel
def v_Archive_placeOf (x1 : Int) (S : ZS) : Int := (e_wr ((e_wr ((e_wr ((e_wr ((S r_Archive_next 0 0 0) - 1)) - x1)) + 800)) - e_wr (e_div (e_wr ((e_wr ((e_wr ((S r_Archive_next 0 0 0) - 1)) - x1)) + 800)) 400 * 400)))
def f_Archive_placeOf : ZFn := fun L S => match L with
  | [x1] => ((0, [v_Archive_placeOf x1 S]), S)
  | _ => ((0, []), S)
theorem pF_Archive_placeOf {x1 : Int} {S : ZS} : f_Archive_placeOf [x1] S = ((0, [v_Archive_placeOf x1 S]), S) := id rfl
theorem zE2 {x1 : Int} {S : ZS} : z_ev (z_F zT2) 7 zP2_0 [x1] S = f_Archive_placeOf [x1] S := id rfl
theorem zM2 : z_met 2 1 [(13, (0, 0), (0, 0)), (0, (1, 0), (0, 0))] f_Archive_placeOf := z_met_ev zH2 (fun _ _ h => absurd h List.not_mem_nil) rfl zG2 (by decide +kernel) (fun L S hn => match L, hn with
  | [x1], _ => zE2)
def zW2 : List Nat := []
theorem zK2 : z_kp 1 zW2 f_Archive_placeOf := z_kp_ev (KT := []) (.n) (z_h163 rfl) (by decide +kernel) (fun L S hn => match L, hn with
  | [x1], _ => zE2)

-- x_line (133)
def zT133 : ZT := [(2, 1, [(13, (0, 0), (0, 0)), (0, (1, 0), (0, 0))], f_Archive_placeOf), (138, 3, [(0, (1, 0), (0, 0)), (0, (2, 0), (0, 0)), (0, (3, 0), (0, 0))], f_x_isWithin)]
theorem zH133 : z_ok zT133 := .c zM2 (.c zM138 .n)
theorem zF133_2 : z_F zT133 2 = f_Archive_placeOf := id rfl
theorem zF133_138 : z_F zT133 138 = f_x_isWithin := id rfl
def zP133_0 : List ZO := [(5, [(706, 0), (0, 0), (0, 0), (0, 0)]), (4, [(1, 0), (3, 0), (0, 1)]), (7, [(138, 0), (1, 0), (0, 0), (4, 0)]), (3, [(1, 0), (6, 0), (5, 0), (0, 0)]), (7, [(2, 0), (1, 0)]), (3, [(0, 0), (2, 0), (2, 0), (0, 0)]), (5, [(768, 0), (0, 0), (0, 0), (6, 0)]), (0, [(7, 0)]), (5, [(832, 0), (0, 0), (0, 0), (6, 0)]), (0, [(7, 0)]), (1, [(4, 0)])]
def zC133 : ZC := [(0, 2, [some (2, (0, 0), (0, 0)), some (0, (1, 0), (0, 0)), some (0, (2, 0), (0, 0)), none])]
theorem zG133 : z_go zC133 (z_A zT133) [] 133 400 true 12 zP133_0 0 [some (2, (0, 0), (0, 0)), some (0, (1, 0), (0, 0)), some (0, (2, 0), (0, 0)), none] [] 2 = true := by decide +kernel
def f_x_line : ZFn := fun L S => match L with
  | [x1, x2] => (bif !decide ((v_x_isWithin x1 0 (e_wr ((S r_Archive_lineCount 0 0 0) - 1)) S) = 0) then (bif decide (x2 = 0) then ((0, [(S r_Archive_letters 0 0 (v_Archive_placeOf x1 S))]), S) else ((0, [(S r_Archive_filmOf 0 0 (v_Archive_placeOf x1 S))]), S)) else ((5, []), S))
  | _ => ((0, []), S)
theorem zE133 {x1 x2 : Int} {S : ZS} : z_ev (z_F zT133) 12 zP133_0 [x1, x2] S = f_x_line [x1, x2] S := id rfl
theorem zM133 : z_met 133 2 [(2, (0, 0), (0, 0)), (0, (1, 0), (0, 0)), (0, (2, 0), (0, 0))] f_x_line := z_met_ev zH133 (fun _ _ h => absurd h List.not_mem_nil) rfl zG133 (by decide +kernel) (fun L S hn => match L, hn with
  | [x1, x2], _ => zE133)
def zW133 : List Nat := []
theorem zK133 : z_kp 2 zW133 f_x_line := z_kp_ev (KT := [(2, 1, zW2), (138, 3, zW138)]) (.c zF133_2 zK2 (.c zF133_138 zK138 .n)) (z_h163 rfl) (by decide +kernel) (fun L S hn => match L, hn with
  | [x1, x2], _ => zE133)

-- w_line (297)
def zT297 : ZT := [(133, 2, [(2, (0, 0), (0, 0)), (0, (1, 0), (0, 0)), (0, (2, 0), (0, 0))], f_x_line)]
theorem zH297 : z_ok zT297 := .c zM133 .n
theorem zF297_133 : z_F zT297 133 = f_x_line := id rfl
def zP297_0 : List ZO := [(11, [(133, 0), (1, 0), (4, 2), (1, 0), (2, 0)]), (6, [(6976, 0), (0, 0), (0, 0), (0, 0), (0, 0), (3, 0)]), (0, [(0, 0)]), (0, [(0, 1)])]
def zC297 : ZC := [(0, 2, [some (2, (0, 0), (0, 0)), some (0, (1, 0), (0, 0)), some (0, (2, 0), (0, 0)), some (111, (0, 0), (0, 0)), none])]
theorem zG297 : z_go zC297 (z_A zT297) [] 297 400 true 5 zP297_0 0 [some (2, (0, 0), (0, 0)), some (0, (1, 0), (0, 0)), some (0, (2, 0), (0, 0)), some (111, (0, 0), (0, 0)), none] [] 2 = true := by decide +kernel
def f_w_line : ZFn := fun L S => match L with
  | [x1, x2] => (e_try (f_x_line [x1, x2] S) (fun v1 S1 => ((0, [0]), (e_upd S1 r_out 0 0 0 v1))) [(4, 1)])
  | _ => ((0, []), S)
theorem zE297 {x1 x2 : Int} {S : ZS} : z_ev (z_F zT297) 5 zP297_0 [x1, x2] S = f_w_line [x1, x2] S := id rfl
theorem zM297 : z_met 297 2 [(2, (0, 0), (0, 0)), (0, (1, 0), (0, 0)), (0, (2, 0), (0, 0)), (111, (0, 0), (0, 0))] f_w_line := z_met_ev zH297 (fun _ _ h => absurd h List.not_mem_nil) rfl zG297 (by decide +kernel) (fun L S hn => match L, hn with
  | [x1, x2], _ => zE297)
def zW297 : List Nat := [r_out]
theorem zK297 : z_kp 2 zW297 f_w_line := z_kp_ev (KT := [(133, 2, zW133)]) (.c zF297_133 zK133 .n) (z_h163 rfl) (by decide +kernel) (fun L S hn => match L, hn with
  | [x1, x2], _ => zE297)

-- m_line (251)
def zT251 : ZT := [(163, 2, [(52, (0, 0), (0, 0)), (0, (1, 0), (0, 0)), (0, (2, 0), (0, 0))], f_m_isThrown), (164, 3, [(0, (1, 0), (0, 0)), (0, (2, 0), (0, 0)), (0, (3, 0), (0, 0))], f_m_isIn)]
theorem zH251 : z_ok zT251 := .c zM163 (.c zM164 .n)
theorem zF251_163 : z_F zT251 163 = f_m_isThrown := id rfl
theorem zF251_164 : z_F zT251 164 = f_m_isIn := id rfl
def zP251_0 : List ZO := [(5, [(3253, 0), (0, 0), (0, 0), (0, 0)]), (4, [(1, 0), (3, 0), (0, 1)]), (7, [(164, 0), (1, 0), (0, 0), (4, 0)]), (3, [(1, 0), (9, 0), (5, 0), (0, 0)]), (13, [(163, 0), (0, 0), (0, 0), (0, 1)]), (5, [(3253, 0), (0, 0), (0, 0), (0, 0)]), (4, [(1, 0), (6, 0), (0, 1)]), (4, [(1, 0), (7, 0), (1, 0)]), (3, [(0, 0), (2, 0), (2, 0), (0, 0)]), (5, [(6784, 0), (0, 0), (0, 0), (8, 0)]), (0, [(9, 0)]), (5, [(6848, 0), (0, 0), (0, 0), (8, 0)]), (0, [(9, 0)]), (13, [(163, 0), (0, 0), (0, 1), (0, 1)]), (0, [(0, 0)])]
def zC251 : ZC := [(0, 2, [some (52, (0, 0), (0, 0)), some (0, (1, 0), (0, 0)), some (0, (2, 0), (0, 0)), none])]
theorem zG251 : z_go zC251 (z_A zT251) [(163, 0)] 251 400 true 16 zP251_0 0 [some (52, (0, 0), (0, 0)), some (0, (1, 0), (0, 0)), some (0, (2, 0), (0, 0)), none] [] 2 = true := by decide +kernel
def f_m_line : ZFn := fun L S => match L with
  | [x1, x2] => (bif !decide ((v_m_isIn x1 0 (e_wr ((S r_m_lineMany 0 0 0) - 1)) S) = 0) then (bif decide (x2 = 0) then ((0, [(S r_m_letters 0 0 (e_wr ((e_wr ((S r_m_lineMany 0 0 0) - 1)) - x1)))]), (e_upd S r_m_thrown 0 0 0 0)) else ((0, [(S r_m_lineFilms 0 0 (e_wr ((e_wr ((S r_m_lineMany 0 0 0) - 1)) - x1)))]), (e_upd S r_m_thrown 0 0 0 0))) else ((0, [0]), (e_upd S r_m_thrown 0 0 0 1)))
  | _ => ((0, []), S)
theorem zE251 {x1 x2 : Int} {S : ZS} : z_ev (z_F zT251) 16 zP251_0 [x1, x2] S = f_m_line [x1, x2] S := by
  simp -implicitDefEqProofs only [zP251_0, zF251_163, zF251_164, zpI0, zpI1, zpIc, pF_m_isIn, Nat.zero_add, Nat.reduceAdd, Nat.reduceBEq, Int.reduceToNat, z_e0, z_e1, z_e2, z_e3, z_e4, z_e5, z_e6, z_e7, z_e8, z_e11, z_e13, o_v0, o_v1, o_v2, List.cons_append, List.nil_append, List.map_cons, List.map_nil, List.drop_succ_cons, List.drop_zero, List.take_succ_cons, List.take_zero, e_c0, e_c1, e_c2, e_c3, e_c4, e_c5, e_b0, e_b1, e_b2, e_b3, e_b4, e_b5, e_b6, e_b7, e_b8, e_b9, e_b10, e_b11, e_b12, e_b13, e_b14, e_b15, e_b16, e_b17, e_n0, e_bnd, e_un]
  try rfl
theorem zM251 : z_met 251 2 [(52, (0, 0), (0, 0)), (0, (1, 0), (0, 0)), (0, (2, 0), (0, 0))] f_m_line := z_met_ev zH251 (fun _ _ h => by rw [List.mem_singleton] at h; cases h; exact fun _ _ => rfl) rfl zG251 (by decide +kernel) (fun L S hn => match L, hn with
  | [x1, x2], _ => zE251)
def zW251 : List Nat := [r_m_thrown]
theorem zK251 : z_kp 2 zW251 f_m_line := z_kp_ev (KT := [(163, 2, zW163), (164, 3, zW164)]) (.c zF251_163 zK163 (.c zF251_164 zK164 .n)) (fun _ _ => Or.inl rfl) (by decide +kernel) (fun L S hn => match L, hn with
  | [x1, x2], _ => zE251)

-- x_checksum (134)
def zT134 : ZT := [(31, 1, [(3, (0, 0), (0, 0)), (17, (1, 0), (0, 0))], f_Grid_stateOf)]
theorem zH134 : z_ok zT134 := .c zM31 .n
theorem zF134_31 : z_F zT134 31 = f_Grid_stateOf := id rfl
def zP134_0 : List ZO := [(2, [(6, 0), (0, 7), (0, 0)])]
def zP134_6 : List ZO := [(5, [(68, 0), (0, 0), (0, 0), (0, 0)]), (3, [(3, 0), (1, 0), (2, 0), (3, 0)]), (0, [(1, 0)]), (4, [(11, 0), (0, 31), (1, 0)]), (5, [(960, 0), (2, 0), (0, 0), (0, 0)]), (4, [(10, 0), (4, 0), (5, 0)]), (4, [(11, 0), (0, 31), (6, 0)]), (5, [(961, 0), (2, 0), (0, 0), (0, 0)]), (4, [(10, 0), (7, 0), (8, 0)]), (5, [(962, 0), (2, 0), (0, 0), (0, 0)]), (4, [(2, 0), (0, 10), (10, 0)]), (4, [(10, 0), (9, 0), (11, 0)]), (4, [(11, 0), (0, 31), (12, 0)]), (7, [(31, 0), (2, 0)]), (4, [(10, 0), (13, 0), (14, 0)]), (4, [(0, 0), (2, 0), (0, 1)]), (2, [(6, 0), (15, 0), (16, 0)])]
def zD134 : ZD := [(0, 0, [some (2, (0, 0), (0, 0)), none, none, none, none], 2, zP134_0), (6, 2, [some (2, (0, 0), (0, 0)), some (1, (1, 0), (0, 0)), none, some (0, (2, 0), (0, 0)), none], 18, zP134_6)]
theorem zG134 : z_chk zT134 [] 134 zD134 = true := by decide +kernel
noncomputable def g_x_checksum (R : ZR) : ZR := z_psi (z_st (z_F zT134) zD134) R
noncomputable def f_x_checksum : ZFn := fun L S => g_x_checksum ((1000, L), S)
theorem zM134 : z_met 134 0 [(2, (0, 0), (0, 0))] f_x_checksum := z_met_psi zH134 (fun _ _ h => absurd h List.not_mem_nil) rfl zG134
theorem zE134_0 {S : ZS} : z_st (z_F zT134) zD134 0 [] S = ((1006, [7, 0]), S) := (id rfl : z_st (z_F zT134) zD134 0 [] S = z_ev (z_F zT134) 2 zP134_0 [] S).trans (id rfl)
theorem g_x_checksum_0 {S : ZS} : g_x_checksum ((1000, []), S) = (g_x_checksum ((1006, [7, 0]), S)) := by
  unfold g_x_checksum
  refine ((z_psi_go (pc := 0)).trans (congrArg _ zE134_0)).trans ?_
  try simp only [z_psi_c, z_psi_b, z_psi_n, Nat.reduceLT, decide_true]
theorem zE134_6 {x1 x2 : Int} {S : ZS} : z_st (z_F zT134) zD134 6 [x1, x2] S = (bif decide ((S r_Grid_showCount 0 0 0) ≤ x2) then ((0, [x1]), S) else ((1006, [(e_wl ((e_wl (31 * (e_wl ((e_wl ((e_wl (31 * (e_wl ((e_wl (31 * x1)) + (S r_Show_film x2 0 0))))) + (S r_Show_screen x2 0 0))) + (e_wr (10 * (S r_Show_first x2 0 0))))))) + (v_Grid_stateOf x2 S))), (e_wr (x2 + 1))]), S)) := (id rfl : z_st (z_F zT134) zD134 6 [x1, x2] S = z_ev (z_F zT134) 18 zP134_6 [x1, x2] S).trans (by
  simp -implicitDefEqProofs only [zP134_6, zF134_31, pF_Grid_stateOf, Nat.zero_add, Nat.reduceAdd, Nat.reduceBEq, Int.reduceToNat, z_e0, z_e1, z_e2, z_e3, z_e4, z_e5, z_e6, z_e7, z_e8, z_e11, z_e13, o_v0, o_v1, o_v2, List.cons_append, List.nil_append, List.map_cons, List.map_nil, List.drop_succ_cons, List.drop_zero, List.take_succ_cons, List.take_zero, e_c0, e_c1, e_c2, e_c3, e_c4, e_c5, e_b0, e_b1, e_b2, e_b3, e_b4, e_b5, e_b6, e_b7, e_b8, e_b9, e_b10, e_b11, e_b12, e_b13, e_b14, e_b15, e_b16, e_b17, e_n0, e_bnd, e_un]
  try rfl)
theorem g_x_checksum_6 {x1 x2 : Int} {S : ZS} : g_x_checksum ((1006, [x1, x2]), S) = (bif decide ((S r_Grid_showCount 0 0 0) ≤ x2) then ((0, [x1]), S) else (g_x_checksum ((1006, [(e_wl ((e_wl (31 * (e_wl ((e_wl ((e_wl (31 * (e_wl ((e_wl (31 * x1)) + (S r_Show_film x2 0 0))))) + (S r_Show_screen x2 0 0))) + (e_wr (10 * (S r_Show_first x2 0 0))))))) + (v_Grid_stateOf x2 S))), (e_wr (x2 + 1))]), S))) := by
  unfold g_x_checksum
  refine ((z_psi_go (pc := 6)).trans (congrArg _ zE134_6)).trans ?_
  try simp only [z_psi_c, z_psi_b, z_psi_n, Nat.reduceLT, decide_true]
def zW134 : List Nat := []
theorem zK134 : z_kp 0 zW134 f_x_checksum := fun L S hL hc r i j k hr => z_psi_kp (KT := [(31, 1, zW31)]) (F := z_F zT134) (W := zW134) (D := zD134) (.c zF134_31 zK31 .n) (z_h163 rfl) (by decide +kernel) _ hc r i j k hr

-- m_checksum (252)
def zT252 : ZT := [(204, 1, [(52, (0, 0), (0, 0)), (0, (1, 0), (0, 0))], f_m_stateOf)]
theorem zH252 : z_ok zT252 := .c zM204 .n
theorem zF252_204 : z_F zT252 204 = f_m_stateOf := id rfl
def zP252_0 : List ZO := [(6, [(3255, 0), (0, 0), (0, 0), (0, 0), (0, 0), (0, 0)]), (2, [(11, 0), (0, 7), (0, 0)])]
def zP252_11 : List ZO := [(5, [(3249, 0), (0, 0), (0, 0), (0, 0)]), (3, [(3, 0), (1, 0), (2, 0), (3, 0)]), (0, [(1, 0)]), (4, [(11, 0), (0, 31), (1, 0)]), (5, [(4928, 0), (0, 0), (0, 0), (2, 0)]), (4, [(10, 0), (4, 0), (5, 0)]), (4, [(11, 0), (0, 31), (6, 0)]), (5, [(4992, 0), (0, 0), (0, 0), (2, 0)]), (5, [(5056, 0), (0, 0), (0, 0), (2, 0)]), (4, [(2, 0), (0, 10), (9, 0)]), (4, [(0, 0), (8, 0), (10, 0)]), (4, [(10, 0), (7, 0), (11, 0)]), (4, [(11, 0), (0, 31), (12, 0)]), (7, [(204, 0), (2, 0)]), (4, [(10, 0), (13, 0), (14, 0)]), (4, [(0, 0), (2, 0), (0, 1)]), (2, [(11, 0), (15, 0), (16, 0)])]
def zD252 : ZD := [(0, 0, [some (52, (0, 0), (0, 0)), none, none, none], 3, zP252_0), (11, 2, [some (52, (0, 0), (0, 0)), some (1, (1, 0), (0, 0)), none, some (0, (2, 0), (0, 0))], 18, zP252_11)]
theorem zG252 : z_chk zT252 [] 252 zD252 = true := by decide +kernel
noncomputable def g_m_checksum (R : ZR) : ZR := z_psi (z_st (z_F zT252) zD252) R
noncomputable def f_m_checksum : ZFn := fun L S => g_m_checksum ((1000, L), S)
theorem zM252 : z_met 252 0 [(52, (0, 0), (0, 0))] f_m_checksum := z_met_psi zH252 (fun _ _ h => absurd h List.not_mem_nil) rfl zG252
theorem zE252_0 {S : ZS} : z_st (z_F zT252) zD252 0 [] S = ((1011, [7, 0]), (e_upd S r_m_thrown 0 0 0 0)) := (id rfl : z_st (z_F zT252) zD252 0 [] S = z_ev (z_F zT252) 3 zP252_0 [] S).trans (id rfl)
theorem g_m_checksum_0 {S : ZS} : g_m_checksum ((1000, []), S) = (g_m_checksum ((1011, [7, 0]), (e_upd S r_m_thrown 0 0 0 0))) := by
  unfold g_m_checksum
  refine ((z_psi_go (pc := 0)).trans (congrArg _ zE252_0)).trans ?_
  try simp only [z_psi_c, z_psi_b, z_psi_n, Nat.reduceLT, decide_true]
theorem zE252_11 {x1 x2 : Int} {S : ZS} : z_st (z_F zT252) zD252 11 [x1, x2] S = (bif decide ((S r_m_shows 0 0 0) ≤ x2) then ((0, [x1]), S) else ((1011, [(e_wl ((e_wl (31 * (e_wl ((e_wl (31 * (e_wl ((e_wl (31 * x1)) + (S r_m_showFilms 0 0 x2))))) + (e_wr ((S r_m_showScreens 0 0 x2) + (e_wr (10 * (S r_m_showHours 0 0 x2))))))))) + (v_m_stateOf x2 S))), (e_wr (x2 + 1))]), S)) := (id rfl : z_st (z_F zT252) zD252 11 [x1, x2] S = z_ev (z_F zT252) 18 zP252_11 [x1, x2] S).trans (by
  simp -implicitDefEqProofs only [zP252_11, zF252_204, pF_m_stateOf, Nat.zero_add, Nat.reduceAdd, Nat.reduceBEq, Int.reduceToNat, z_e0, z_e1, z_e2, z_e3, z_e4, z_e5, z_e6, z_e7, z_e8, z_e11, z_e13, o_v0, o_v1, o_v2, List.cons_append, List.nil_append, List.map_cons, List.map_nil, List.drop_succ_cons, List.drop_zero, List.take_succ_cons, List.take_zero, e_c0, e_c1, e_c2, e_c3, e_c4, e_c5, e_b0, e_b1, e_b2, e_b3, e_b4, e_b5, e_b6, e_b7, e_b8, e_b9, e_b10, e_b11, e_b12, e_b13, e_b14, e_b15, e_b16, e_b17, e_n0, e_bnd, e_un]
  try rfl)
theorem g_m_checksum_11 {x1 x2 : Int} {S : ZS} : g_m_checksum ((1011, [x1, x2]), S) = (bif decide ((S r_m_shows 0 0 0) ≤ x2) then ((0, [x1]), S) else (g_m_checksum ((1011, [(e_wl ((e_wl (31 * (e_wl ((e_wl (31 * (e_wl ((e_wl (31 * x1)) + (S r_m_showFilms 0 0 x2))))) + (e_wr ((S r_m_showScreens 0 0 x2) + (e_wr (10 * (S r_m_showHours 0 0 x2))))))))) + (v_m_stateOf x2 S))), (e_wr (x2 + 1))]), S))) := by
  unfold g_m_checksum
  refine ((z_psi_go (pc := 11)).trans (congrArg _ zE252_11)).trans ?_
  try simp only [z_psi_c, z_psi_b, z_psi_n, Nat.reduceLT, decide_true]
def zW252 : List Nat := [r_m_thrown]
theorem zK252 : z_kp 0 zW252 f_m_checksum := fun L S hL hc r i j k hr => z_psi_kp (KT := [(204, 1, zW204)]) (F := z_F zT252) (W := zW252) (D := zD252) (.c zF252_204 zK204 .n) (z_h163 rfl) (by decide +kernel) _ hc r i j k hr

-- Grid_hasStanding (40)
def zT40 : ZT := []
theorem zH40 : z_ok zT40 := .n
def zP40_0 : List ZO := [(2, [(2, 0), (1, 0), (0, 0)])]
def zP40_2 : List ZO := [(5, [(68, 0), (0, 0), (0, 0), (0, 0)]), (3, [(3, 0), (1, 0), (2, 0), (3, 0)]), (0, [(0, 0)]), (5, [(960, 0), (2, 0), (0, 0), (0, 0)]), (3, [(1, 0), (2, 0), (4, 0), (1, 0)]), (4, [(0, 0), (2, 0), (0, 1)]), (2, [(2, 0), (1, 0), (5, 0)]), (5, [(964, 0), (2, 0), (0, 0), (0, 0)]), (3, [(1, 0), (2, 0), (5, 0), (0, 45)]), (4, [(0, 0), (2, 0), (0, 1)]), (2, [(2, 0), (1, 0), (6, 0)]), (0, [(0, 1)])]
def zD40 : ZD := [(0, 1, [some (3, (0, 0), (0, 0)), some (0, (1, 0), (0, 0)), none], 2, zP40_0), (2, 2, [some (3, (0, 0), (0, 0)), some (0, (1, 0), (0, 0)), some (0, (2, 0), (0, 0))], 13, zP40_2)]
theorem zG40 : z_chk zT40 [] 40 zD40 = true := by decide +kernel
noncomputable def g_Grid_hasStanding (R : ZR) : ZR := z_psi (z_st (z_F zT40) zD40) R
noncomputable def f_Grid_hasStanding : ZFn := fun L S => g_Grid_hasStanding ((1000, L), S)
theorem zM40 : z_met 40 1 [(3, (0, 0), (0, 0)), (0, (1, 0), (0, 0))] f_Grid_hasStanding := z_met_psi zH40 (fun _ _ h => absurd h List.not_mem_nil) rfl zG40
theorem zE40_0 {x1 : Int} {S : ZS} : z_st (z_F zT40) zD40 0 [x1] S = ((1002, [x1, 0]), S) := (id rfl : z_st (z_F zT40) zD40 0 [x1] S = z_ev (z_F zT40) 2 zP40_0 [x1] S).trans (id rfl)
theorem g_Grid_hasStanding_0 {x1 : Int} {S : ZS} : g_Grid_hasStanding ((1000, [x1]), S) = (g_Grid_hasStanding ((1002, [x1, 0]), S)) := by
  unfold g_Grid_hasStanding
  refine ((z_psi_go (pc := 0)).trans (congrArg _ zE40_0)).trans ?_
  try simp only [z_psi_c, z_psi_b, z_psi_n, Nat.reduceLT, decide_true]
theorem zE40_2 {x1 x2 : Int} {S : ZS} : z_st (z_F zT40) zD40 2 [x1, x2] S = (bif decide ((S r_Grid_showCount 0 0 0) ≤ x2) then ((0, [0]), S) else (bif !decide ((S r_Show_film x2 0 0) = x1) then ((1002, [x1, (e_wr (x2 + 1))]), S) else (bif !decide ((S r_Show_cause x2 0 0) = 45) then ((1002, [x1, (e_wr (x2 + 1))]), S) else ((0, [1]), S)))) := (id rfl : z_st (z_F zT40) zD40 2 [x1, x2] S = z_ev (z_F zT40) 13 zP40_2 [x1, x2] S).trans (id rfl)
theorem g_Grid_hasStanding_2 {x1 x2 : Int} {S : ZS} : g_Grid_hasStanding ((1002, [x1, x2]), S) = (bif decide ((S r_Grid_showCount 0 0 0) ≤ x2) then ((0, [0]), S) else (bif !decide ((S r_Show_film x2 0 0) = x1) then (g_Grid_hasStanding ((1002, [x1, (e_wr (x2 + 1))]), S)) else (bif !decide ((S r_Show_cause x2 0 0) = 45) then (g_Grid_hasStanding ((1002, [x1, (e_wr (x2 + 1))]), S)) else ((0, [1]), S)))) := by
  unfold g_Grid_hasStanding
  refine ((z_psi_go (pc := 2)).trans (congrArg _ zE40_2)).trans ?_
  try simp only [z_psi_c, z_psi_b, z_psi_n, Nat.reduceLT, decide_true]
def zW40 : List Nat := []
theorem zK40 : z_kp 1 zW40 f_Grid_hasStanding := fun L S hL hc r i j k hr => z_psi_kp (KT := []) (F := z_F zT40) (W := zW40) (D := zD40) (.n) (z_h163 rfl) (by decide +kernel) _ hc r i j k hr

-- x_shownShare (135)
noncomputable def zT135 : ZT := [(40, 1, [(3, (0, 0), (0, 0)), (0, (1, 0), (0, 0))], f_Grid_hasStanding)]
theorem zH135 : z_ok zT135 := .c zM40 .n
theorem zF135_40 : z_F zT135 40 = f_Grid_hasStanding := id rfl
def zP135_0 : List ZO := [(2, [(6, 0), (0, 0), (0, 0), (0, 0)])]
def zP135_6 : List ZO := [(5, [(4, 0), (0, 0), (0, 0), (0, 0)]), (3, [(3, 0), (6, 0), (3, 0), (4, 0)]), (3, [(1, 0), (4, 0), (1, 0), (0, 0)]), (4, [(13, 0), (2, 0), (0, 0)]), (4, [(13, 0), (1, 0), (0, 0)]), (4, [(16, 0), (5, 0), (6, 0)]), (0, [(7, 0)]), (1, [(5, 0)]), (5, [(195, 0), (3, 0), (0, 0), (0, 0)]), (3, [(0, 0), (2, 0), (5, 0), (0, (-1))]), (4, [(0, 0), (3, 0), (0, 1)]), (2, [(6, 0), (1, 0), (2, 0), (6, 0)]), (4, [(0, 0), (1, 0), (0, 1)]), (7, [(40, 0), (3, 0)]), (3, [(0, 0), (2, 0), (7, 0), (0, 0)]), (4, [(0, 0), (3, 0), (0, 1)]), (2, [(6, 0), (6, 0), (2, 0), (8, 0)]), (4, [(0, 0), (2, 0), (0, 1)]), (4, [(0, 0), (3, 0), (0, 1)]), (2, [(6, 0), (6, 0), (8, 0), (9, 0)])]
def zD135 : ZD := [(0, 0, [some (2, (0, 0), (0, 0)), none, none, none], 2, zP135_0), (6, 3, [some (2, (0, 0), (0, 0)), some (0, (1, 0), (0, 0)), some (0, (2, 0), (0, 0)), some (0, (3, 0), (0, 0))], 21, zP135_6)]
theorem zG135 : z_chk zT135 [] 135 zD135 = true := by decide +kernel
noncomputable def g_x_shownShare (R : ZR) : ZR := z_psi (z_st (z_F zT135) zD135) R
noncomputable def f_x_shownShare : ZFn := fun L S => g_x_shownShare ((1000, L), S)
theorem zM135 : z_met 135 0 [(2, (0, 0), (0, 0))] f_x_shownShare := z_met_psi zH135 (fun _ _ h => absurd h List.not_mem_nil) rfl zG135
theorem zE135_0 {S : ZS} : z_st (z_F zT135) zD135 0 [] S = ((1006, [0, 0, 0]), S) := (id rfl : z_st (z_F zT135) zD135 0 [] S = z_ev (z_F zT135) 2 zP135_0 [] S).trans (id rfl)
theorem g_x_shownShare_0 {S : ZS} : g_x_shownShare ((1000, []), S) = (g_x_shownShare ((1006, [0, 0, 0]), S)) := by
  unfold g_x_shownShare
  refine ((z_psi_go (pc := 0)).trans (congrArg _ zE135_0)).trans ?_
  try simp only [z_psi_c, z_psi_b, z_psi_n, Nat.reduceLT, decide_true]
theorem zE135_6 {x1 x2 x3 : Int} {S : ZS} : z_st (z_F zT135) zD135 6 [x1, x2, x3] S = (bif decide ((S r_x_filmCount 0 0 0) ≤ x3) then (bif !decide (x1 = 0) then ((0, [(e_fdiv (e_i2f x2) (e_i2f x1))]), S) else ((6, []), S)) else (bif decide ((S r_Film_section x3 0 0) = (-1)) then ((1006, [x1, x2, (e_wr (x3 + 1))]), S) else (e_bind (f_Grid_hasStanding [x3] S) (fun v1 S1 => (bif decide (v1 = 0) then ((1006, [(e_wr (x1 + 1)), x2, (e_wr (x3 + 1))]), S1) else ((1006, [(e_wr (x1 + 1)), (e_wr (x2 + 1)), (e_wr (x3 + 1))]), S1)))))) := (id rfl : z_st (z_F zT135) zD135 6 [x1, x2, x3] S = z_ev (z_F zT135) 21 zP135_6 [x1, x2, x3] S).trans (by
  simp -implicitDefEqProofs only [zP135_6, zF135_40, Nat.zero_add, Nat.reduceAdd, Nat.reduceBEq, Int.reduceToNat, z_e0, z_e1, z_e2, z_e3, z_e4, z_e5, z_e6, z_e7, z_e8, z_e11, z_e13, o_v0, o_v1, o_v2, List.cons_append, List.nil_append, List.map_cons, List.map_nil, List.drop_succ_cons, List.drop_zero, List.take_succ_cons, List.take_zero, e_c0, e_c1, e_c2, e_c3, e_c4, e_c5, e_b0, e_b1, e_b2, e_b3, e_b4, e_b5, e_b6, e_b7, e_b8, e_b9, e_b10, e_b11, e_b12, e_b13, e_b14, e_b15, e_b16, e_b17, e_n0, e_bnd, e_un]
  try rfl)
theorem g_x_shownShare_6 {x1 x2 x3 : Int} {S : ZS} : g_x_shownShare ((1006, [x1, x2, x3]), S) = (bif decide ((S r_x_filmCount 0 0 0) ≤ x3) then (bif !decide (x1 = 0) then ((0, [(e_fdiv (e_i2f x2) (e_i2f x1))]), S) else ((6, []), S)) else (bif decide ((S r_Film_section x3 0 0) = (-1)) then (g_x_shownShare ((1006, [x1, x2, (e_wr (x3 + 1))]), S)) else (e_bind (f_Grid_hasStanding [x3] S) (fun v1 S1 => (bif decide (v1 = 0) then (g_x_shownShare ((1006, [(e_wr (x1 + 1)), x2, (e_wr (x3 + 1))]), S1)) else (g_x_shownShare ((1006, [(e_wr (x1 + 1)), (e_wr (x2 + 1)), (e_wr (x3 + 1))]), S1))))))) := by
  unfold g_x_shownShare
  refine ((z_psi_go (pc := 6)).trans (congrArg _ zE135_6)).trans ?_
  try simp only [z_psi_c, z_psi_b, z_psi_n, Nat.reduceLT, decide_true]
def zW135 : List Nat := []
theorem zK135 : z_kp 0 zW135 f_x_shownShare := fun L S hL hc r i j k hr => z_psi_kp (KT := [(40, 1, zW40)]) (F := z_F zT135) (W := zW135) (D := zD135) (.c zF135_40 zK40 .n) (z_h163 rfl) (by decide +kernel) _ hc r i j k hr

-- w_shownShare (298)
noncomputable def zT298 : ZT := [(135, 0, [(2, (0, 0), (0, 0))], f_x_shownShare)]
theorem zH298 : z_ok zT298 := .c zM135 .n
theorem zF298_135 : z_F zT298 135 = f_x_shownShare := id rfl
def zP298_0 : List ZO := [(11, [(135, 0), (1, 0), (5, 3)]), (4, [(15, 0), (1, 0), (0, 0)]), (6, [(7040, 0), (0, 0), (0, 0), (0, 0), (0, 0), (2, 0)]), (0, [(0, 0)]), (0, [(0, 1)])]
def zC298 : ZC := [(0, 0, [some (2, (0, 0), (0, 0)), some (112, (0, 0), (0, 0)), none])]
theorem zG298 : z_go zC298 (z_A zT298) [] 298 400 true 6 zP298_0 0 [some (2, (0, 0), (0, 0)), some (112, (0, 0), (0, 0)), none] [] 0 = true := by decide +kernel
noncomputable def f_w_shownShare : ZFn := fun L S => match L with
  | [] => (e_try (f_x_shownShare [] S) (fun v1 S1 => ((0, [0]), (e_upd S1 r_outD 0 0 0 (e_f2d v1)))) [(5, 1)])
  | _ => ((0, []), S)
theorem zE298 {S : ZS} : z_ev (z_F zT298) 6 zP298_0 [] S = f_w_shownShare [] S := id rfl
theorem zM298 : z_met 298 0 [(2, (0, 0), (0, 0)), (112, (0, 0), (0, 0))] f_w_shownShare := z_met_ev zH298 (fun _ _ h => absurd h List.not_mem_nil) rfl zG298 (by decide +kernel) (fun L S hn => match L, hn with
  | [], _ => zE298)
def zW298 : List Nat := [r_outD]
theorem zK298 : z_kp 0 zW298 f_w_shownShare := z_kp_ev (KT := [(135, 0, zW135)]) (.c zF298_135 zK135 .n) (z_h163 rfl) (by decide +kernel) (fun L S hn => match L, hn with
  | [], _ => zE298)

-- m_shownShare (253)
def zT253 : ZT := [(163, 2, [(52, (0, 0), (0, 0)), (0, (1, 0), (0, 0)), (0, (2, 0), (0, 0))], f_m_isThrown)]
theorem zH253 : z_ok zT253 := .c zM163 .n
theorem zF253_163 : z_F zT253 163 = f_m_isThrown := id rfl
def zP253_0 : List ZO := [(2, [(6, 0), (0, 0), (0, 0), (0, 0)])]
def zP253_6 : List ZO := [(5, [(3244, 0), (0, 0), (0, 0), (0, 0)]), (3, [(3, 0), (8, 0), (3, 0), (4, 0)]), (3, [(1, 0), (5, 0), (1, 0), (0, 0)]), (13, [(163, 0), (0, 0), (0, 0), (0, 1)]), (4, [(13, 0), (2, 0), (0, 0)]), (4, [(13, 0), (1, 0), (0, 0)]), (4, [(16, 0), (5, 0), (6, 0)]), (0, [(7, 0)]), (13, [(163, 0), (0, 0), (0, 1), (0, 1)]), (0, [(0, 0)]), (2, [(20, 0), (1, 0), (2, 0), (3, 0), (0, 0), (0, 0)])]
def zP253_20 : List ZO := [(5, [(3249, 0), (0, 0), (0, 0), (0, 0)]), (3, [(3, 0), (28, 0), (5, 0), (6, 0)]), (5, [(3520, 0), (0, 0), (0, 0), (3, 0)]), (3, [(2, 0), (13, 0), (7, 0), (0, 0)]), (4, [(0, 0), (1, 0), (0, 0)]), (5, [(3520, 0), (0, 0), (0, 0), (3, 0)]), (3, [(2, 0), (3, 0), (9, 0), (0, 0)]), (4, [(0, 0), (2, 0), (0, 0)]), (4, [(0, 0), (3, 0), (0, 1)]), (2, [(6, 0), (8, 0), (10, 0), (11, 0)]), (3, [(0, 0), (3, 0), (4, 0), (0, 0)]), (4, [(0, 0), (2, 0), (0, 0)]), (4, [(0, 0), (3, 0), (0, 1)]), (2, [(6, 0), (8, 0), (10, 0), (11, 0)]), (4, [(0, 0), (2, 0), (0, 1)]), (4, [(0, 0), (3, 0), (0, 1)]), (2, [(6, 0), (8, 0), (10, 0), (11, 0)]), (4, [(0, 0), (1, 0), (0, 1)]), (5, [(3520, 0), (0, 0), (0, 0), (3, 0)]), (3, [(2, 0), (3, 0), (9, 0), (0, 0)]), (4, [(0, 0), (2, 0), (0, 0)]), (4, [(0, 0), (3, 0), (0, 1)]), (2, [(6, 0), (8, 0), (10, 0), (11, 0)]), (3, [(0, 0), (3, 0), (4, 0), (0, 0)]), (4, [(0, 0), (2, 0), (0, 0)]), (4, [(0, 0), (3, 0), (0, 1)]), (2, [(6, 0), (8, 0), (10, 0), (11, 0)]), (4, [(0, 0), (2, 0), (0, 1)]), (4, [(0, 0), (3, 0), (0, 1)]), (2, [(6, 0), (8, 0), (10, 0), (11, 0)]), (5, [(4928, 0), (0, 0), (0, 0), (5, 0)]), (3, [(1, 0), (3, 0), (7, 0), (3, 0)]), (4, [(6, 0), (4, 0), (0, 0)]), (4, [(0, 0), (5, 0), (0, 1)]), (2, [(20, 0), (1, 0), (2, 0), (3, 0), (8, 0), (9, 0)]), (5, [(5120, 0), (0, 0), (0, 0), (5, 0)]), (3, [(1, 0), (3, 0), (8, 0), (0, 0)]), (4, [(6, 0), (4, 0), (0, 0)]), (4, [(0, 0), (5, 0), (0, 1)]), (2, [(20, 0), (1, 0), (2, 0), (3, 0), (9, 0), (10, 0)]), (4, [(6, 0), (4, 0), (0, 1)]), (4, [(0, 0), (5, 0), (0, 1)]), (2, [(20, 0), (1, 0), (2, 0), (3, 0), (9, 0), (10, 0)])]
def zD253 : ZD := [(0, 0, [some (52, (0, 0), (0, 0)), none, none, none, none, none], 2, zP253_0), (6, 3, [some (52, (0, 0), (0, 0)), some (0, (1, 0), (0, 0)), some (0, (2, 0), (0, 0)), some (0, (3, 0), (0, 0)), none, none], 12, zP253_6), (20, 5, [some (52, (0, 0), (0, 0)), some (0, (1, 0), (0, 0)), some (0, (2, 0), (0, 0)), some (0, (3, 0), (0, 0)), some (0, (4, 0), (0, 0)), some (0, (5, 0), (0, 0))], 44, zP253_20)]
theorem zG253 : z_chk zT253 [(163, 0)] 253 zD253 = true := by decide +kernel
noncomputable def g_m_shownShare (R : ZR) : ZR := z_psi (z_st (z_F zT253) zD253) R
noncomputable def f_m_shownShare : ZFn := fun L S => g_m_shownShare ((1000, L), S)
theorem zM253 : z_met 253 0 [(52, (0, 0), (0, 0))] f_m_shownShare := z_met_psi zH253 (fun _ _ h => by rw [List.mem_singleton] at h; cases h; exact fun _ _ => rfl) rfl zG253
theorem zE253_0 {S : ZS} : z_st (z_F zT253) zD253 0 [] S = ((1006, [0, 0, 0]), S) := (id rfl : z_st (z_F zT253) zD253 0 [] S = z_ev (z_F zT253) 2 zP253_0 [] S).trans (id rfl)
theorem g_m_shownShare_0 {S : ZS} : g_m_shownShare ((1000, []), S) = (g_m_shownShare ((1006, [0, 0, 0]), S)) := by
  unfold g_m_shownShare
  refine ((z_psi_go (pc := 0)).trans (congrArg _ zE253_0)).trans ?_
  try simp only [z_psi_c, z_psi_b, z_psi_n, Nat.reduceLT, decide_true]
theorem zE253_6 {x1 x2 x3 : Int} {S : ZS} : z_st (z_F zT253) zD253 6 [x1, x2, x3] S = (bif decide ((S r_m_films 0 0 0) ≤ x3) then (bif !decide (x1 = 0) then ((0, [(e_fdiv (e_i2f x2) (e_i2f x1))]), (e_upd S r_m_thrown 0 0 0 0)) else ((0, [0]), (e_upd S r_m_thrown 0 0 0 1))) else ((1020, [x1, x2, x3, 0, 0]), S)) := (id rfl : z_st (z_F zT253) zD253 6 [x1, x2, x3] S = z_ev (z_F zT253) 12 zP253_6 [x1, x2, x3] S).trans (id rfl)
theorem g_m_shownShare_6 {x1 x2 x3 : Int} {S : ZS} : g_m_shownShare ((1006, [x1, x2, x3]), S) = (bif decide ((S r_m_films 0 0 0) ≤ x3) then (bif !decide (x1 = 0) then ((0, [(e_fdiv (e_i2f x2) (e_i2f x1))]), (e_upd S r_m_thrown 0 0 0 0)) else ((0, [0]), (e_upd S r_m_thrown 0 0 0 1))) else (g_m_shownShare ((1020, [x1, x2, x3, 0, 0]), S))) := by
  unfold g_m_shownShare
  refine ((z_psi_go (pc := 6)).trans (congrArg _ zE253_6)).trans ?_
  try simp only [z_psi_c, z_psi_b, z_psi_n, Nat.reduceLT, decide_true]
theorem zE253_20 {x1 x2 x3 x4 x5 : Int} {S : ZS} : z_st (z_F zT253) zD253 20 [x1, x2, x3, x4, x5] S = (bif decide ((S r_m_shows 0 0 0) ≤ x5) then (bif decide ((S r_m_sections 0 0 x3) < 0) then (bif decide ((S r_m_sections 0 0 x3) < 0) then ((1006, [(e_wr (x1 + 0)), (e_wr (x2 + 0)), (e_wr (x3 + 1))]), S) else (bif decide (x4 = 0) then ((1006, [(e_wr (x1 + 0)), (e_wr (x2 + 0)), (e_wr (x3 + 1))]), S) else ((1006, [(e_wr (x1 + 0)), (e_wr (x2 + 1)), (e_wr (x3 + 1))]), S))) else (bif decide ((S r_m_sections 0 0 x3) < 0) then ((1006, [(e_wr (x1 + 1)), (e_wr (x2 + 0)), (e_wr (x3 + 1))]), S) else (bif decide (x4 = 0) then ((1006, [(e_wr (x1 + 1)), (e_wr (x2 + 0)), (e_wr (x3 + 1))]), S) else ((1006, [(e_wr (x1 + 1)), (e_wr (x2 + 1)), (e_wr (x3 + 1))]), S)))) else (bif !decide ((S r_m_showFilms 0 0 x5) = x3) then ((1020, [x1, x2, x3, (e_or x4 0), (e_wr (x5 + 1))]), S) else (bif !decide ((S r_m_gone 0 0 x5) = 0) then ((1020, [x1, x2, x3, (e_or x4 0), (e_wr (x5 + 1))]), S) else ((1020, [x1, x2, x3, (e_or x4 1), (e_wr (x5 + 1))]), S)))) := (id rfl : z_st (z_F zT253) zD253 20 [x1, x2, x3, x4, x5] S = z_ev (z_F zT253) 44 zP253_20 [x1, x2, x3, x4, x5] S).trans (by
  simp -implicitDefEqProofs only [zP253_20, zF253_163, zpI0, zpI1, zpIc, Nat.zero_add, Nat.reduceAdd, Nat.reduceBEq, Int.reduceToNat, z_e0, z_e1, z_e2, z_e3, z_e4, z_e5, z_e6, z_e7, z_e8, z_e11, z_e13, o_v0, o_v1, o_v2, List.cons_append, List.nil_append, List.map_cons, List.map_nil, List.drop_succ_cons, List.drop_zero, List.take_succ_cons, List.take_zero, e_c0, e_c1, e_c2, e_c3, e_c4, e_c5, e_b0, e_b1, e_b2, e_b3, e_b4, e_b5, e_b6, e_b7, e_b8, e_b9, e_b10, e_b11, e_b12, e_b13, e_b14, e_b15, e_b16, e_b17, e_n0, e_bnd, e_un]
  try rfl)
theorem g_m_shownShare_20 {x1 x2 x3 x4 x5 : Int} {S : ZS} : g_m_shownShare ((1020, [x1, x2, x3, x4, x5]), S) = (bif decide ((S r_m_shows 0 0 0) ≤ x5) then (bif decide ((S r_m_sections 0 0 x3) < 0) then (bif decide ((S r_m_sections 0 0 x3) < 0) then (g_m_shownShare ((1006, [(e_wr (x1 + 0)), (e_wr (x2 + 0)), (e_wr (x3 + 1))]), S)) else (bif decide (x4 = 0) then (g_m_shownShare ((1006, [(e_wr (x1 + 0)), (e_wr (x2 + 0)), (e_wr (x3 + 1))]), S)) else (g_m_shownShare ((1006, [(e_wr (x1 + 0)), (e_wr (x2 + 1)), (e_wr (x3 + 1))]), S)))) else (bif decide ((S r_m_sections 0 0 x3) < 0) then (g_m_shownShare ((1006, [(e_wr (x1 + 1)), (e_wr (x2 + 0)), (e_wr (x3 + 1))]), S)) else (bif decide (x4 = 0) then (g_m_shownShare ((1006, [(e_wr (x1 + 1)), (e_wr (x2 + 0)), (e_wr (x3 + 1))]), S)) else (g_m_shownShare ((1006, [(e_wr (x1 + 1)), (e_wr (x2 + 1)), (e_wr (x3 + 1))]), S))))) else (bif !decide ((S r_m_showFilms 0 0 x5) = x3) then (g_m_shownShare ((1020, [x1, x2, x3, (e_or x4 0), (e_wr (x5 + 1))]), S)) else (bif !decide ((S r_m_gone 0 0 x5) = 0) then (g_m_shownShare ((1020, [x1, x2, x3, (e_or x4 0), (e_wr (x5 + 1))]), S)) else (g_m_shownShare ((1020, [x1, x2, x3, (e_or x4 1), (e_wr (x5 + 1))]), S))))) := by
  unfold g_m_shownShare
  refine ((z_psi_go (pc := 20)).trans (congrArg _ zE253_20)).trans ?_
  try simp only [z_psi_c, z_psi_b, z_psi_n, Nat.reduceLT, decide_true]
def zW253 : List Nat := [r_m_thrown]
theorem zK253 : z_kp 0 zW253 f_m_shownShare := fun L S hL hc r i j k hr => z_psi_kp (KT := [(163, 2, zW163)]) (F := z_F zT253) (W := zW253) (D := zD253) (.c zF253_163 zK163 .n) (fun _ _ => Or.inl rfl) (by decide +kernel) _ hc r i j k hr

-- x_meanScore (136)
noncomputable def zT136 : ZT := [(65, 1, [(28, (0, 0), (0, 0)), (0, (1, 0), (0, 0))], f_Readings_countTold), (67, 1, [(28, (0, 0), (0, 0)), (0, (1, 0), (0, 0))], f_Readings_meanOfEven)]
theorem zH136 : z_ok zT136 := .c zM65 (.c zM67 .n)
theorem zF136_65 : z_F zT136 65 = f_Readings_countTold := id rfl
theorem zF136_67 : z_F zT136 67 = f_Readings_meanOfEven := id rfl
def zP136_0 : List ZO := [(2, [(6, 0), (0, 0), (0, 0), (0, 0)])]
def zP136_6 : List ZO := [(5, [(4, 0), (0, 0), (0, 0), (0, 0)]), (3, [(3, 0), (6, 0), (3, 0), (4, 0)]), (3, [(1, 0), (4, 0), (1, 0), (0, 0)]), (4, [(14, 0), (2, 0), (0, 0)]), (4, [(14, 0), (1, 0), (0, 0)]), (4, [(17, 0), (5, 0), (6, 0)]), (0, [(7, 0)]), (1, [(5, 0)]), (7, [(65, 0), (3, 0)]), (3, [(5, 0), (2, 0), (5, 0), (0, 0)]), (4, [(0, 0), (3, 0), (0, 1)]), (2, [(6, 0), (1, 0), (2, 0), (6, 0)]), (4, [(0, 0), (1, 0), (0, 1)]), (7, [(67, 0), (3, 0)]), (4, [(0, 0), (2, 0), (7, 0)]), (4, [(0, 0), (3, 0), (0, 1)]), (2, [(6, 0), (6, 0), (8, 0), (9, 0)])]
def zD136 : ZD := [(0, 0, [some (2, (0, 0), (0, 0)), none, none, none], 2, zP136_0), (6, 3, [some (2, (0, 0), (0, 0)), some (0, (1, 0), (0, 0)), some (0, (2, 0), (0, 0)), some (0, (3, 0), (0, 0))], 18, zP136_6)]
theorem zG136 : z_chk zT136 [] 136 zD136 = true := by decide +kernel
noncomputable def g_x_meanScore (R : ZR) : ZR := z_psi (z_st (z_F zT136) zD136) R
noncomputable def f_x_meanScore : ZFn := fun L S => g_x_meanScore ((1000, L), S)
theorem zM136 : z_met 136 0 [(2, (0, 0), (0, 0))] f_x_meanScore := z_met_psi zH136 (fun _ _ h => absurd h List.not_mem_nil) rfl zG136
theorem zE136_0 {S : ZS} : z_st (z_F zT136) zD136 0 [] S = ((1006, [0, 0, 0]), S) := (id rfl : z_st (z_F zT136) zD136 0 [] S = z_ev (z_F zT136) 2 zP136_0 [] S).trans (id rfl)
theorem g_x_meanScore_0 {S : ZS} : g_x_meanScore ((1000, []), S) = (g_x_meanScore ((1006, [0, 0, 0]), S)) := by
  unfold g_x_meanScore
  refine ((z_psi_go (pc := 0)).trans (congrArg _ zE136_0)).trans ?_
  try simp only [z_psi_c, z_psi_b, z_psi_n, Nat.reduceLT, decide_true]
theorem zE136_6 {x1 x2 x3 : Int} {S : ZS} : z_st (z_F zT136) zD136 6 [x1, x2, x3] S = (bif decide ((S r_x_filmCount 0 0 0) ≤ x3) then (bif !decide (x1 = 0) then ((0, [(e_ddiv (e_i2d x2) (e_i2d x1))]), S) else ((6, []), S)) else (e_bind (f_Readings_countTold [x3] S) (fun v1 S1 => (bif decide (v1 ≤ 0) then ((1006, [x1, x2, (e_wr (x3 + 1))]), S1) else (e_bind (f_Readings_meanOfEven [x3] S1) (fun v2 S2 => ((1006, [(e_wr (x1 + 1)), (e_wr (x2 + v2)), (e_wr (x3 + 1))]), S2))))))) := (id rfl : z_st (z_F zT136) zD136 6 [x1, x2, x3] S = z_ev (z_F zT136) 18 zP136_6 [x1, x2, x3] S).trans (by
  simp -implicitDefEqProofs only [zP136_6, zF136_65, zF136_67, Nat.zero_add, Nat.reduceAdd, Nat.reduceBEq, Int.reduceToNat, z_e0, z_e1, z_e2, z_e3, z_e4, z_e5, z_e6, z_e7, z_e8, z_e11, z_e13, o_v0, o_v1, o_v2, List.cons_append, List.nil_append, List.map_cons, List.map_nil, List.drop_succ_cons, List.drop_zero, List.take_succ_cons, List.take_zero, e_c0, e_c1, e_c2, e_c3, e_c4, e_c5, e_b0, e_b1, e_b2, e_b3, e_b4, e_b5, e_b6, e_b7, e_b8, e_b9, e_b10, e_b11, e_b12, e_b13, e_b14, e_b15, e_b16, e_b17, e_n0, e_bnd, e_un]
  try rfl)
theorem g_x_meanScore_6 {x1 x2 x3 : Int} {S : ZS} : g_x_meanScore ((1006, [x1, x2, x3]), S) = (bif decide ((S r_x_filmCount 0 0 0) ≤ x3) then (bif !decide (x1 = 0) then ((0, [(e_ddiv (e_i2d x2) (e_i2d x1))]), S) else ((6, []), S)) else (e_bind (f_Readings_countTold [x3] S) (fun v1 S1 => (bif decide (v1 ≤ 0) then (g_x_meanScore ((1006, [x1, x2, (e_wr (x3 + 1))]), S1)) else (e_bind (f_Readings_meanOfEven [x3] S1) (fun v2 S2 => (g_x_meanScore ((1006, [(e_wr (x1 + 1)), (e_wr (x2 + v2)), (e_wr (x3 + 1))]), S2)))))))) := by
  unfold g_x_meanScore
  refine ((z_psi_go (pc := 6)).trans (congrArg _ zE136_6)).trans ?_
  try simp only [z_psi_c, z_psi_b, z_psi_n, Nat.reduceLT, decide_true]
def zW136 : List Nat := []
theorem zK136 : z_kp 0 zW136 f_x_meanScore := fun L S hL hc r i j k hr => z_psi_kp (KT := [(65, 1, zW65), (67, 1, zW67)]) (F := z_F zT136) (W := zW136) (D := zD136) (.c zF136_65 zK65 (.c zF136_67 zK67 .n)) (z_h163 rfl) (by decide +kernel) _ hc r i j k hr

-- w_meanScore (299)
noncomputable def zT299 : ZT := [(136, 0, [(2, (0, 0), (0, 0))], f_x_meanScore)]
theorem zH299 : z_ok zT299 := .c zM136 .n
theorem zF299_136 : z_F zT299 136 = f_x_meanScore := id rfl
def zP299_0 : List ZO := [(11, [(136, 0), (1, 0), (5, 2)]), (6, [(7040, 0), (0, 0), (0, 0), (0, 0), (0, 0), (1, 0)]), (0, [(0, 0)]), (0, [(0, 1)])]
def zC299 : ZC := [(0, 0, [some (2, (0, 0), (0, 0)), some (112, (0, 0), (0, 0)), none])]
theorem zG299 : z_go zC299 (z_A zT299) [] 299 400 true 5 zP299_0 0 [some (2, (0, 0), (0, 0)), some (112, (0, 0), (0, 0)), none] [] 0 = true := by decide +kernel
noncomputable def f_w_meanScore : ZFn := fun L S => match L with
  | [] => (e_try (f_x_meanScore [] S) (fun v1 S1 => ((0, [0]), (e_upd S1 r_outD 0 0 0 v1))) [(5, 1)])
  | _ => ((0, []), S)
theorem zE299 {S : ZS} : z_ev (z_F zT299) 5 zP299_0 [] S = f_w_meanScore [] S := id rfl
theorem zM299 : z_met 299 0 [(2, (0, 0), (0, 0)), (112, (0, 0), (0, 0))] f_w_meanScore := z_met_ev zH299 (fun _ _ h => absurd h List.not_mem_nil) rfl zG299 (by decide +kernel) (fun L S hn => match L, hn with
  | [], _ => zE299)
def zW299 : List Nat := [r_outD]
theorem zK299 : z_kp 0 zW299 f_w_meanScore := z_kp_ev (KT := [(136, 0, zW136)]) (.c zF299_136 zK136 .n) (z_h163 rfl) (by decide +kernel) (fun L S hn => match L, hn with
  | [], _ => zE299)

-- m_meanScore (254)
noncomputable def zT254 : ZT := [(163, 2, [(52, (0, 0), (0, 0)), (0, (1, 0), (0, 0)), (0, (2, 0), (0, 0))], f_m_isThrown), (174, 1, [(52, (0, 0), (0, 0)), (0, (1, 0), (0, 0))], f_m_scoreMany), (178, 1, [(52, (0, 0), (0, 0)), (0, (1, 0), (0, 0))], f_m_scoreOf)]
theorem zH254 : z_ok zT254 := .c zM163 (.c zM174 (.c zM178 .n))
theorem zF254_163 : z_F zT254 163 = f_m_isThrown := id rfl
theorem zF254_174 : z_F zT254 174 = f_m_scoreMany := id rfl
theorem zF254_178 : z_F zT254 178 = f_m_scoreOf := id rfl
def zP254_0 : List ZO := [(2, [(6, 0), (0, 0), (0, 0), (0, 0)])]
def zP254_6 : List ZO := [(5, [(3244, 0), (0, 0), (0, 0), (0, 0)]), (3, [(3, 0), (8, 0), (3, 0), (4, 0)]), (3, [(1, 0), (5, 0), (2, 0), (0, 0)]), (13, [(163, 0), (0, 0), (0, 0), (0, 1)]), (4, [(14, 0), (1, 0), (0, 0)]), (4, [(14, 0), (2, 0), (0, 0)]), (4, [(17, 0), (5, 0), (6, 0)]), (0, [(7, 0)]), (13, [(163, 0), (0, 0), (0, 1), (0, 1)]), (0, [(0, 0)]), (7, [(174, 0), (3, 0)]), (3, [(5, 0), (2, 0), (5, 0), (0, 0)]), (4, [(0, 0), (3, 0), (0, 1)]), (2, [(6, 0), (1, 0), (2, 0), (6, 0)]), (7, [(178, 0), (3, 0)]), (4, [(0, 0), (1, 0), (6, 0)]), (4, [(0, 0), (2, 0), (0, 1)]), (4, [(0, 0), (3, 0), (0, 1)]), (2, [(6, 0), (7, 0), (8, 0), (9, 0)])]
def zD254 : ZD := [(0, 0, [some (52, (0, 0), (0, 0)), none, none, none], 2, zP254_0), (6, 3, [some (52, (0, 0), (0, 0)), some (0, (1, 0), (0, 0)), some (0, (2, 0), (0, 0)), some (0, (3, 0), (0, 0))], 20, zP254_6)]
theorem zG254 : z_chk zT254 [(163, 0)] 254 zD254 = true := by decide +kernel
noncomputable def g_m_meanScore (R : ZR) : ZR := z_psi (z_st (z_F zT254) zD254) R
noncomputable def f_m_meanScore : ZFn := fun L S => g_m_meanScore ((1000, L), S)
theorem zM254 : z_met 254 0 [(52, (0, 0), (0, 0))] f_m_meanScore := z_met_psi zH254 (fun _ _ h => by rw [List.mem_singleton] at h; cases h; exact fun _ _ => rfl) rfl zG254
theorem zE254_0 {S : ZS} : z_st (z_F zT254) zD254 0 [] S = ((1006, [0, 0, 0]), S) := (id rfl : z_st (z_F zT254) zD254 0 [] S = z_ev (z_F zT254) 2 zP254_0 [] S).trans (id rfl)
theorem g_m_meanScore_0 {S : ZS} : g_m_meanScore ((1000, []), S) = (g_m_meanScore ((1006, [0, 0, 0]), S)) := by
  unfold g_m_meanScore
  refine ((z_psi_go (pc := 0)).trans (congrArg _ zE254_0)).trans ?_
  try simp only [z_psi_c, z_psi_b, z_psi_n, Nat.reduceLT, decide_true]
theorem zE254_6 {x1 x2 x3 : Int} {S : ZS} : z_st (z_F zT254) zD254 6 [x1, x2, x3] S = (bif decide ((S r_m_films 0 0 0) ≤ x3) then (bif !decide (x2 = 0) then ((0, [(e_ddiv (e_i2d x1) (e_i2d x2))]), (e_upd S r_m_thrown 0 0 0 0)) else ((0, [0]), (e_upd S r_m_thrown 0 0 0 1))) else (e_bind (f_m_scoreMany [x3] S) (fun v1 S1 => (bif decide (v1 ≤ 0) then ((1006, [x1, x2, (e_wr (x3 + 1))]), S1) else (e_bind (f_m_scoreOf [x3] S1) (fun v2 S2 => ((1006, [(e_wr (x1 + v2)), (e_wr (x2 + 1)), (e_wr (x3 + 1))]), S2))))))) := (id rfl : z_st (z_F zT254) zD254 6 [x1, x2, x3] S = z_ev (z_F zT254) 20 zP254_6 [x1, x2, x3] S).trans (by
  simp -implicitDefEqProofs only [zP254_6, zF254_163, zF254_174, zF254_178, zpI0, zpI1, zpIc, Nat.zero_add, Nat.reduceAdd, Nat.reduceBEq, Int.reduceToNat, z_e0, z_e1, z_e2, z_e3, z_e4, z_e5, z_e6, z_e7, z_e8, z_e11, z_e13, o_v0, o_v1, o_v2, List.cons_append, List.nil_append, List.map_cons, List.map_nil, List.drop_succ_cons, List.drop_zero, List.take_succ_cons, List.take_zero, e_c0, e_c1, e_c2, e_c3, e_c4, e_c5, e_b0, e_b1, e_b2, e_b3, e_b4, e_b5, e_b6, e_b7, e_b8, e_b9, e_b10, e_b11, e_b12, e_b13, e_b14, e_b15, e_b16, e_b17, e_n0, e_bnd, e_un]
  try rfl)
theorem g_m_meanScore_6 {x1 x2 x3 : Int} {S : ZS} : g_m_meanScore ((1006, [x1, x2, x3]), S) = (bif decide ((S r_m_films 0 0 0) ≤ x3) then (bif !decide (x2 = 0) then ((0, [(e_ddiv (e_i2d x1) (e_i2d x2))]), (e_upd S r_m_thrown 0 0 0 0)) else ((0, [0]), (e_upd S r_m_thrown 0 0 0 1))) else (e_bind (f_m_scoreMany [x3] S) (fun v1 S1 => (bif decide (v1 ≤ 0) then (g_m_meanScore ((1006, [x1, x2, (e_wr (x3 + 1))]), S1)) else (e_bind (f_m_scoreOf [x3] S1) (fun v2 S2 => (g_m_meanScore ((1006, [(e_wr (x1 + v2)), (e_wr (x2 + 1)), (e_wr (x3 + 1))]), S2)))))))) := by
  unfold g_m_meanScore
  refine ((z_psi_go (pc := 6)).trans (congrArg _ zE254_6)).trans ?_
  try simp only [z_psi_c, z_psi_b, z_psi_n, Nat.reduceLT, decide_true]
def zW254 : List Nat := [r_m_thrown]
theorem zK254 : z_kp 0 zW254 f_m_meanScore := fun L S hL hc r i j k hr => z_psi_kp (KT := [(163, 2, zW163), (174, 1, zW174), (178, 1, zW178)]) (F := z_F zT254) (W := zW254) (D := zD254) (.c zF254_163 zK163 (.c zF254_174 zK174 (.c zF254_178 zK178 .n))) (fun _ _ => Or.inl rfl) (by decide +kernel) _ hc r i j k hr

-- Grid_areOfOneSection (49)
def zT49 : ZT := []
theorem zH49 : z_ok zT49 := .n
def zP49_0 : List ZO := [(5, [(960, 0), (1, 0), (0, 0), (0, 0)]), (5, [(195, 0), (3, 0), (0, 0), (0, 0)]), (3, [(0, 0), (1, 0), (4, 0), (0, (-1))]), (0, [(0, 0)]), (5, [(960, 0), (2, 0), (0, 0), (0, 0)]), (5, [(195, 0), (5, 0), (0, 0), (0, 0)]), (3, [(1, 0), (1, 0), (6, 0), (4, 0)]), (0, [(0, 0)]), (0, [(0, 1)])]
def zC49 : ZC := [(0, 2, [some (3, (0, 0), (0, 0)), some (17, (1, 0), (0, 0)), some (17, (2, 0), (0, 0)), none])]
theorem zG49 : z_go zC49 (z_A zT49) [] 49 400 true 10 zP49_0 0 [some (3, (0, 0), (0, 0)), some (17, (1, 0), (0, 0)), some (17, (2, 0), (0, 0)), none] [] 2 = true := by decide +kernel
def v_Grid_areOfOneSection (x1 x2 : Int) (S : ZS) : Int := (bif decide ((S r_Film_section (S r_Show_film x1 0 0) 0 0) = (-1)) then 0 else (bif !decide ((S r_Film_section (S r_Show_film x2 0 0) 0 0) = (S r_Film_section (S r_Show_film x1 0 0) 0 0)) then 0 else 1))
def f_Grid_areOfOneSection : ZFn := fun L S => match L with
  | [x1, x2] => ((0, [v_Grid_areOfOneSection x1 x2 S]), S)
  | _ => ((0, []), S)
theorem pF_Grid_areOfOneSection {x1 x2 : Int} {S : ZS} : f_Grid_areOfOneSection [x1, x2] S = ((0, [v_Grid_areOfOneSection x1 x2 S]), S) := id rfl
theorem zE49a {x1 x2 : Int} {S : ZS} : z_ev (z_F zT49) 10 zP49_0 [x1, x2] S = (bif decide ((S r_Film_section (S r_Show_film x1 0 0) 0 0) = (-1)) then ((0, [0]), S) else (bif !decide ((S r_Film_section (S r_Show_film x2 0 0) 0 0) = (S r_Film_section (S r_Show_film x1 0 0) 0 0)) then ((0, [0]), S) else ((0, [1]), S))) := id rfl
theorem zE49 {x1 x2 : Int} {S : ZS} : z_ev (z_F zT49) 10 zP49_0 [x1, x2] S = f_Grid_areOfOneSection [x1, x2] S := zE49a.trans (by
  simp only [z_cv]
  rfl)
theorem zM49 : z_met 49 2 [(3, (0, 0), (0, 0)), (17, (1, 0), (0, 0)), (17, (2, 0), (0, 0))] f_Grid_areOfOneSection := z_met_ev zH49 (fun _ _ h => absurd h List.not_mem_nil) rfl zG49 (by decide +kernel) (fun L S hn => match L, hn with
  | [x1, x2], _ => zE49)
def zW49 : List Nat := []
theorem zK49 : z_kp 2 zW49 f_Grid_areOfOneSection := z_kp_ev (KT := []) (.n) (z_h163 rfl) (by decide +kernel) (fun L S hn => match L, hn with
  | [x1, x2], _ => zE49)

-- Grid_keepsApart (48)
def zT48 : ZT := [(49, 2, [(3, (0, 0), (0, 0)), (17, (1, 0), (0, 0)), (17, (2, 0), (0, 0))], f_Grid_areOfOneSection), (81, 3, [(17, (1, 0), (0, 0)), (0, (2, 0), (0, 0)), (0, (3, 0), (0, 0))], f_Show_standsIn)]
theorem zH48 : z_ok zT48 := .c zM49 (.c zM81 .n)
theorem zF48_49 : z_F zT48 49 = f_Grid_areOfOneSection := id rfl
theorem zF48_81 : z_F zT48 81 = f_Show_standsIn := id rfl
def zP48_0 : List ZO := [(2, [(2, 0), (0, 0)])]
def zP48_2 : List ZO := [(5, [(68, 0), (0, 0), (0, 0), (0, 0)]), (3, [(3, 0), (1, 0), (1, 0), (2, 0)]), (0, [(0, 1)]), (2, [(12, 0), (1, 0), (0, 0)])]
def zP48_12 : List ZO := [(3, [(3, 0), (2, 0), (2, 0), (1, 0)]), (4, [(0, 0), (1, 0), (0, 1)]), (2, [(2, 0), (3, 0)]), (5, [(964, 0), (1, 0), (0, 0), (0, 0)]), (3, [(1, 0), (2, 0), (3, 0), (0, 45)]), (4, [(0, 0), (2, 0), (0, 1)]), (2, [(12, 0), (1, 0), (4, 0)]), (5, [(962, 0), (1, 0), (0, 0), (0, 0)]), (5, [(963, 0), (1, 0), (0, 0), (0, 0)]), (7, [(81, 0), (2, 0), (4, 0), (5, 0)]), (3, [(0, 0), (2, 0), (6, 0), (0, 0)]), (4, [(0, 0), (2, 0), (0, 1)]), (2, [(12, 0), (1, 0), (7, 0)]), (5, [(961, 0), (1, 0), (0, 0), (0, 0)]), (5, [(961, 0), (2, 0), (0, 0), (0, 0)]), (3, [(0, 0), (1, 0), (7, 0), (8, 0)]), (0, [(0, 0)]), (7, [(49, 0), (1, 0), (2, 0)]), (3, [(0, 0), (2, 0), (9, 0), (0, 0)]), (4, [(0, 0), (2, 0), (0, 1)]), (2, [(12, 0), (1, 0), (10, 0)]), (0, [(0, 0)])]
def zD48 : ZD := [(0, 0, [some (3, (0, 0), (0, 0)), none, none], 2, zP48_0), (2, 1, [some (3, (0, 0), (0, 0)), some (0, (1, 0), (0, 0)), none], 5, zP48_2), (12, 2, [some (3, (0, 0), (0, 0)), some (0, (1, 0), (0, 0)), some (0, (2, 0), (0, 0))], 23, zP48_12)]
theorem zG48 : z_chk zT48 [] 48 zD48 = true := by decide +kernel
noncomputable def g_Grid_keepsApart (R : ZR) : ZR := z_psi (z_st (z_F zT48) zD48) R
noncomputable def f_Grid_keepsApart : ZFn := fun L S => g_Grid_keepsApart ((1000, L), S)
theorem zM48 : z_met 48 0 [(3, (0, 0), (0, 0))] f_Grid_keepsApart := z_met_psi zH48 (fun _ _ h => absurd h List.not_mem_nil) rfl zG48
theorem zE48_0 {S : ZS} : z_st (z_F zT48) zD48 0 [] S = ((1002, [0]), S) := (id rfl : z_st (z_F zT48) zD48 0 [] S = z_ev (z_F zT48) 2 zP48_0 [] S).trans (id rfl)
theorem g_Grid_keepsApart_0 {S : ZS} : g_Grid_keepsApart ((1000, []), S) = (g_Grid_keepsApart ((1002, [0]), S)) := by
  unfold g_Grid_keepsApart
  refine ((z_psi_go (pc := 0)).trans (congrArg _ zE48_0)).trans ?_
  try simp only [z_psi_c, z_psi_b, z_psi_n, Nat.reduceLT, decide_true]
theorem zE48_2 {x1 : Int} {S : ZS} : z_st (z_F zT48) zD48 2 [x1] S = (bif decide ((S r_Grid_showCount 0 0 0) ≤ x1) then ((0, [1]), S) else ((1012, [x1, 0]), S)) := (id rfl : z_st (z_F zT48) zD48 2 [x1] S = z_ev (z_F zT48) 5 zP48_2 [x1] S).trans (id rfl)
theorem g_Grid_keepsApart_2 {x1 : Int} {S : ZS} : g_Grid_keepsApart ((1002, [x1]), S) = (bif decide ((S r_Grid_showCount 0 0 0) ≤ x1) then ((0, [1]), S) else (g_Grid_keepsApart ((1012, [x1, 0]), S))) := by
  unfold g_Grid_keepsApart
  refine ((z_psi_go (pc := 2)).trans (congrArg _ zE48_2)).trans ?_
  try simp only [z_psi_c, z_psi_b, z_psi_n, Nat.reduceLT, decide_true]
theorem zE48_12 {x1 x2 : Int} {S : ZS} : z_st (z_F zT48) zD48 12 [x1, x2] S = (bif decide (x1 ≤ x2) then ((1002, [(e_wr (x1 + 1))]), S) else (bif !decide ((S r_Show_cause x1 0 0) = 45) then ((1012, [x1, (e_wr (x2 + 1))]), S) else (bif decide ((v_Show_standsIn x2 (S r_Show_first x1 0 0) (S r_Show_length x1 0 0) S) = 0) then ((1012, [x1, (e_wr (x2 + 1))]), S) else (bif decide ((S r_Show_screen x1 0 0) = (S r_Show_screen x2 0 0)) then ((0, [0]), S) else (bif decide ((v_Grid_areOfOneSection x1 x2 S) = 0) then ((1012, [x1, (e_wr (x2 + 1))]), S) else ((0, [0]), S)))))) := (id rfl : z_st (z_F zT48) zD48 12 [x1, x2] S = z_ev (z_F zT48) 23 zP48_12 [x1, x2] S).trans (by
  simp -implicitDefEqProofs only [zP48_12, zF48_49, zF48_81, pF_Grid_areOfOneSection, pF_Show_standsIn, Nat.zero_add, Nat.reduceAdd, Nat.reduceBEq, Int.reduceToNat, z_e0, z_e1, z_e2, z_e3, z_e4, z_e5, z_e6, z_e7, z_e8, z_e11, z_e13, o_v0, o_v1, o_v2, List.cons_append, List.nil_append, List.map_cons, List.map_nil, List.drop_succ_cons, List.drop_zero, List.take_succ_cons, List.take_zero, e_c0, e_c1, e_c2, e_c3, e_c4, e_c5, e_b0, e_b1, e_b2, e_b3, e_b4, e_b5, e_b6, e_b7, e_b8, e_b9, e_b10, e_b11, e_b12, e_b13, e_b14, e_b15, e_b16, e_b17, e_n0, e_bnd, e_un]
  try rfl)
theorem g_Grid_keepsApart_12 {x1 x2 : Int} {S : ZS} : g_Grid_keepsApart ((1012, [x1, x2]), S) = (bif decide (x1 ≤ x2) then (g_Grid_keepsApart ((1002, [(e_wr (x1 + 1))]), S)) else (bif !decide ((S r_Show_cause x1 0 0) = 45) then (g_Grid_keepsApart ((1012, [x1, (e_wr (x2 + 1))]), S)) else (bif decide ((v_Show_standsIn x2 (S r_Show_first x1 0 0) (S r_Show_length x1 0 0) S) = 0) then (g_Grid_keepsApart ((1012, [x1, (e_wr (x2 + 1))]), S)) else (bif decide ((S r_Show_screen x1 0 0) = (S r_Show_screen x2 0 0)) then ((0, [0]), S) else (bif decide ((v_Grid_areOfOneSection x1 x2 S) = 0) then (g_Grid_keepsApart ((1012, [x1, (e_wr (x2 + 1))]), S)) else ((0, [0]), S)))))) := by
  unfold g_Grid_keepsApart
  refine ((z_psi_go (pc := 12)).trans (congrArg _ zE48_12)).trans ?_
  try simp only [z_psi_c, z_psi_b, z_psi_n, Nat.reduceLT, decide_true]
def zW48 : List Nat := []
theorem zK48 : z_kp 0 zW48 f_Grid_keepsApart := fun L S hL hc r i j k hr => z_psi_kp (KT := [(49, 2, zW49), (81, 3, zW81)]) (F := z_F zT48) (W := zW48) (D := zD48) (.c zF48_49 zK49 (.c zF48_81 zK81 .n)) (z_h163 rfl) (by decide +kernel) _ hc r i j k hr

-- Show_countSeats (84)
def zT84 : ZT := []
theorem zH84 : z_ok zT84 := .n
def zP84_0 : List ZO := [(2, [(4, 0), (1, 0), (0, 0), (0, 0)])]
def zP84_4 : List ZO := [(3, [(3, 0), (1, 0), (3, 0), (0, 16)]), (0, [(2, 0)]), (5, [(1088, 0), (1, 0), (0, 0), (3, 0)]), (3, [(0, 0), (2, 0), (4, 0), (0, 0)]), (4, [(0, 0), (3, 0), (0, 1)]), (2, [(4, 0), (1, 0), (2, 0), (5, 0)]), (4, [(0, 0), (2, 0), (0, 1)]), (4, [(0, 0), (3, 0), (0, 1)]), (2, [(4, 0), (1, 0), (5, 0), (6, 0)])]
def zD84 : ZD := [(0, 1, [some (17, (1, 0), (0, 0)), none, none], 2, zP84_0), (4, 3, [some (17, (1, 0), (0, 0)), some (0, (2, 0), (0, 0)), some (0, (3, 0), (0, 0))], 10, zP84_4)]
theorem zG84 : z_chk zT84 [] 84 zD84 = true := by decide +kernel
noncomputable def g_Show_countSeats (R : ZR) : ZR := z_psi (z_st (z_F zT84) zD84) R
noncomputable def f_Show_countSeats : ZFn := fun L S => g_Show_countSeats ((1000, L), S)
theorem zM84 : z_met 84 1 [(17, (1, 0), (0, 0))] f_Show_countSeats := z_met_psi zH84 (fun _ _ h => absurd h List.not_mem_nil) rfl zG84
theorem zE84_0 {x1 : Int} {S : ZS} : z_st (z_F zT84) zD84 0 [x1] S = ((1004, [x1, 0, 0]), S) := (id rfl : z_st (z_F zT84) zD84 0 [x1] S = z_ev (z_F zT84) 2 zP84_0 [x1] S).trans (id rfl)
theorem g_Show_countSeats_0 {x1 : Int} {S : ZS} : g_Show_countSeats ((1000, [x1]), S) = (g_Show_countSeats ((1004, [x1, 0, 0]), S)) := by
  unfold g_Show_countSeats
  refine ((z_psi_go (pc := 0)).trans (congrArg _ zE84_0)).trans ?_
  try simp only [z_psi_c, z_psi_b, z_psi_n, Nat.reduceLT, decide_true]
theorem zE84_4 {x1 x2 x3 : Int} {S : ZS} : z_st (z_F zT84) zD84 4 [x1, x2, x3] S = (bif decide (16 ≤ x3) then ((0, [x2]), S) else (bif decide ((S r_Show_isSeated x1 0 x3) = 0) then ((1004, [x1, x2, (e_wr (x3 + 1))]), S) else ((1004, [x1, (e_wr (x2 + 1)), (e_wr (x3 + 1))]), S))) := (id rfl : z_st (z_F zT84) zD84 4 [x1, x2, x3] S = z_ev (z_F zT84) 10 zP84_4 [x1, x2, x3] S).trans (id rfl)
theorem g_Show_countSeats_4 {x1 x2 x3 : Int} {S : ZS} : g_Show_countSeats ((1004, [x1, x2, x3]), S) = (bif decide (16 ≤ x3) then ((0, [x2]), S) else (bif decide ((S r_Show_isSeated x1 0 x3) = 0) then (g_Show_countSeats ((1004, [x1, x2, (e_wr (x3 + 1))]), S)) else (g_Show_countSeats ((1004, [x1, (e_wr (x2 + 1)), (e_wr (x3 + 1))]), S)))) := by
  unfold g_Show_countSeats
  refine ((z_psi_go (pc := 4)).trans (congrArg _ zE84_4)).trans ?_
  try simp only [z_psi_c, z_psi_b, z_psi_n, Nat.reduceLT, decide_true]
def zW84 : List Nat := []
theorem zK84 : z_kp 1 zW84 f_Show_countSeats := fun L S hL hc r i j k hr => z_psi_kp (KT := []) (F := z_F zT84) (W := zW84) (D := zD84) (.n) (z_h163 rfl) (by decide +kernel) _ hc r i j k hr

-- Grid_keepsSeats (50)
noncomputable def zT50 : ZT := [(47, 2, [(3, (0, 0), (0, 0)), (0, (1, 0), (0, 0)), (17, (2, 0), (0, 0))], f_Grid_isSeatedElsewhere), (84, 1, [(17, (1, 0), (0, 0))], f_Show_countSeats)]
theorem zH50 : z_ok zT50 := .c zM47 (.c zM84 .n)
theorem zF50_47 : z_F zT50 47 = f_Grid_isSeatedElsewhere := id rfl
theorem zF50_84 : z_F zT50 84 = f_Show_countSeats := id rfl
def zP50_0 : List ZO := [(2, [(2, 0), (1, 0), (0, 0)])]
def zP50_2 : List ZO := [(5, [(68, 0), (0, 0), (0, 0), (0, 0)]), (3, [(3, 0), (1, 0), (2, 0), (3, 0)]), (0, [(0, 1)]), (7, [(84, 0), (2, 0)]), (5, [(961, 0), (2, 0), (0, 0), (0, 0)]), (5, [(320, 0), (0, 0), (0, 0), (5, 0)]), (3, [(5, 0), (1, 0), (4, 0), (6, 0)]), (2, [(43, 0), (1, 0), (2, 0), (0, 0)]), (0, [(0, 0)])]
def zP50_43 : List ZO := [(3, [(3, 0), (2, 0), (3, 0), (1, 0)]), (4, [(0, 0), (2, 0), (0, 1)]), (2, [(2, 0), (1, 0), (4, 0)]), (5, [(964, 0), (2, 0), (0, 0), (0, 0)]), (3, [(1, 0), (2, 0), (4, 0), (0, 45)]), (4, [(0, 0), (3, 0), (0, 1)]), (2, [(43, 0), (1, 0), (2, 0), (5, 0)]), (5, [(1088, 0), (2, 0), (0, 0), (3, 0)]), (3, [(0, 0), (2, 0), (5, 0), (0, 0)]), (4, [(0, 0), (3, 0), (0, 1)]), (2, [(43, 0), (1, 0), (2, 0), (6, 0)]), (7, [(47, 0), (3, 0), (2, 0)]), (3, [(0, 0), (2, 0), (6, 0), (0, 0)]), (4, [(0, 0), (3, 0), (0, 1)]), (2, [(43, 0), (1, 0), (2, 0), (7, 0)]), (0, [(0, 0)])]
def zD50 : ZD := [(0, 1, [some (3, (0, 0), (0, 0)), some (0, (1, 0), (0, 0)), none, none], 2, zP50_0), (2, 2, [some (3, (0, 0), (0, 0)), some (0, (1, 0), (0, 0)), some (0, (2, 0), (0, 0)), none], 10, zP50_2), (43, 3, [some (3, (0, 0), (0, 0)), some (0, (1, 0), (0, 0)), some (0, (2, 0), (0, 0)), some (0, (3, 0), (0, 0))], 17, zP50_43)]
theorem zG50 : z_chk zT50 [] 50 zD50 = true := by decide +kernel
noncomputable def g_Grid_keepsSeats (R : ZR) : ZR := z_psi (z_st (z_F zT50) zD50) R
noncomputable def f_Grid_keepsSeats : ZFn := fun L S => g_Grid_keepsSeats ((1000, L), S)
theorem zM50 : z_met 50 1 [(3, (0, 0), (0, 0)), (0, (1, 0), (0, 0))] f_Grid_keepsSeats := z_met_psi zH50 (fun _ _ h => absurd h List.not_mem_nil) rfl zG50
theorem zE50_0 {x1 : Int} {S : ZS} : z_st (z_F zT50) zD50 0 [x1] S = ((1002, [x1, 0]), S) := (id rfl : z_st (z_F zT50) zD50 0 [x1] S = z_ev (z_F zT50) 2 zP50_0 [x1] S).trans (id rfl)
theorem g_Grid_keepsSeats_0 {x1 : Int} {S : ZS} : g_Grid_keepsSeats ((1000, [x1]), S) = (g_Grid_keepsSeats ((1002, [x1, 0]), S)) := by
  unfold g_Grid_keepsSeats
  refine ((z_psi_go (pc := 0)).trans (congrArg _ zE50_0)).trans ?_
  try simp only [z_psi_c, z_psi_b, z_psi_n, Nat.reduceLT, decide_true]
theorem zE50_2 {x1 x2 : Int} {S : ZS} : z_st (z_F zT50) zD50 2 [x1, x2] S = (bif decide ((S r_Grid_showCount 0 0 0) ≤ x2) then ((0, [1]), S) else (e_bind (f_Show_countSeats [x2] S) (fun v1 S1 => (bif decide (v1 ≤ (S1 r_Venue_seats 0 0 (S1 r_Show_screen x2 0 0))) then ((1043, [x1, x2, 0]), S1) else ((0, [0]), S1))))) := (id rfl : z_st (z_F zT50) zD50 2 [x1, x2] S = z_ev (z_F zT50) 10 zP50_2 [x1, x2] S).trans (id rfl)
theorem g_Grid_keepsSeats_2 {x1 x2 : Int} {S : ZS} : g_Grid_keepsSeats ((1002, [x1, x2]), S) = (bif decide ((S r_Grid_showCount 0 0 0) ≤ x2) then ((0, [1]), S) else (e_bind (f_Show_countSeats [x2] S) (fun v1 S1 => (bif decide (v1 ≤ (S1 r_Venue_seats 0 0 (S1 r_Show_screen x2 0 0))) then (g_Grid_keepsSeats ((1043, [x1, x2, 0]), S1)) else ((0, [0]), S1))))) := by
  unfold g_Grid_keepsSeats
  refine ((z_psi_go (pc := 2)).trans (congrArg _ zE50_2)).trans ?_
  try simp only [z_psi_c, z_psi_b, z_psi_n, Nat.reduceLT, decide_true]
theorem zE50_43 {x1 x2 x3 : Int} {S : ZS} : z_st (z_F zT50) zD50 43 [x1, x2, x3] S = (bif decide (x1 ≤ x3) then ((1002, [x1, (e_wr (x2 + 1))]), S) else (bif !decide ((S r_Show_cause x2 0 0) = 45) then ((1043, [x1, x2, (e_wr (x3 + 1))]), S) else (bif decide ((S r_Show_isSeated x2 0 x3) = 0) then ((1043, [x1, x2, (e_wr (x3 + 1))]), S) else (e_bind (f_Grid_isSeatedElsewhere [x3, x2] S) (fun v1 S1 => (bif decide (v1 = 0) then ((1043, [x1, x2, (e_wr (x3 + 1))]), S1) else ((0, [0]), S1))))))) := (id rfl : z_st (z_F zT50) zD50 43 [x1, x2, x3] S = z_ev (z_F zT50) 17 zP50_43 [x1, x2, x3] S).trans (by
  simp -implicitDefEqProofs only [zP50_43, zF50_47, zF50_84, Nat.zero_add, Nat.reduceAdd, Nat.reduceBEq, Int.reduceToNat, z_e0, z_e1, z_e2, z_e3, z_e4, z_e5, z_e6, z_e7, z_e8, z_e11, z_e13, o_v0, o_v1, o_v2, List.cons_append, List.nil_append, List.map_cons, List.map_nil, List.drop_succ_cons, List.drop_zero, List.take_succ_cons, List.take_zero, e_c0, e_c1, e_c2, e_c3, e_c4, e_c5, e_b0, e_b1, e_b2, e_b3, e_b4, e_b5, e_b6, e_b7, e_b8, e_b9, e_b10, e_b11, e_b12, e_b13, e_b14, e_b15, e_b16, e_b17, e_n0, e_bnd, e_un]
  try rfl)
theorem g_Grid_keepsSeats_43 {x1 x2 x3 : Int} {S : ZS} : g_Grid_keepsSeats ((1043, [x1, x2, x3]), S) = (bif decide (x1 ≤ x3) then (g_Grid_keepsSeats ((1002, [x1, (e_wr (x2 + 1))]), S)) else (bif !decide ((S r_Show_cause x2 0 0) = 45) then (g_Grid_keepsSeats ((1043, [x1, x2, (e_wr (x3 + 1))]), S)) else (bif decide ((S r_Show_isSeated x2 0 x3) = 0) then (g_Grid_keepsSeats ((1043, [x1, x2, (e_wr (x3 + 1))]), S)) else (e_bind (f_Grid_isSeatedElsewhere [x3, x2] S) (fun v1 S1 => (bif decide (v1 = 0) then (g_Grid_keepsSeats ((1043, [x1, x2, (e_wr (x3 + 1))]), S1)) else ((0, [0]), S1))))))) := by
  unfold g_Grid_keepsSeats
  refine ((z_psi_go (pc := 43)).trans (congrArg _ zE50_43)).trans ?_
  try simp only [z_psi_c, z_psi_b, z_psi_n, Nat.reduceLT, decide_true]
def zW50 : List Nat := []
theorem zK50 : z_kp 1 zW50 f_Grid_keepsSeats := fun L S hL hc r i j k hr => z_psi_kp (KT := [(47, 2, zW47), (84, 1, zW84)]) (F := z_F zT50) (W := zW50) (D := zD50) (.c zF50_47 zK47 (.c zF50_84 zK84 .n)) (z_h163 rfl) (by decide +kernel) _ hc r i j k hr

-- x_areSectionsKept (160)
noncomputable def zT160 : ZT := [(155, 1, [(2, (0, 0), (0, 0)), (0, (1, 0), (0, 0))], f_x_filmsIn), (156, 1, [(2, (0, 0), (0, 0)), (0, (1, 0), (0, 0))], f_x_minutesIn)]
theorem zH160 : z_ok zT160 := .c zM155 (.c zM156 .n)
theorem zF160_155 : z_F zT160 155 = f_x_filmsIn := id rfl
theorem zF160_156 : z_F zT160 156 = f_x_minutesIn := id rfl
def zP160_0 : List ZO := [(2, [(2, 0), (0, 0)])]
def zP160_2 : List ZO := [(5, [(6, 0), (0, 0), (0, 0), (0, 0)]), (3, [(3, 0), (1, 0), (1, 0), (2, 0)]), (0, [(0, 1)]), (7, [(155, 0), (1, 0)]), (5, [(1344, 0), (1, 0), (0, 0), (0, 0)]), (3, [(4, 0), (1, 0), (3, 0), (4, 0)]), (0, [(0, 0)]), (7, [(156, 0), (1, 0)]), (5, [(1345, 0), (1, 0), (0, 0), (0, 0)]), (3, [(5, 0), (2, 0), (5, 0), (6, 0)]), (4, [(0, 0), (1, 0), (0, 1)]), (2, [(2, 0), (7, 0)]), (0, [(0, 0)])]
def zD160 : ZD := [(0, 0, [some (2, (0, 0), (0, 0)), none], 2, zP160_0), (2, 1, [some (2, (0, 0), (0, 0)), some (0, (1, 0), (0, 0))], 14, zP160_2)]
theorem zG160 : z_chk zT160 [] 160 zD160 = true := by decide +kernel
noncomputable def g_x_areSectionsKept (R : ZR) : ZR := z_psi (z_st (z_F zT160) zD160) R
noncomputable def f_x_areSectionsKept : ZFn := fun L S => g_x_areSectionsKept ((1000, L), S)
theorem zM160 : z_met 160 0 [(2, (0, 0), (0, 0))] f_x_areSectionsKept := z_met_psi zH160 (fun _ _ h => absurd h List.not_mem_nil) rfl zG160
theorem zE160_0 {S : ZS} : z_st (z_F zT160) zD160 0 [] S = ((1002, [0]), S) := (id rfl : z_st (z_F zT160) zD160 0 [] S = z_ev (z_F zT160) 2 zP160_0 [] S).trans (id rfl)
theorem g_x_areSectionsKept_0 {S : ZS} : g_x_areSectionsKept ((1000, []), S) = (g_x_areSectionsKept ((1002, [0]), S)) := by
  unfold g_x_areSectionsKept
  refine ((z_psi_go (pc := 0)).trans (congrArg _ zE160_0)).trans ?_
  try simp only [z_psi_c, z_psi_b, z_psi_n, Nat.reduceLT, decide_true]
theorem zE160_2 {x1 : Int} {S : ZS} : z_st (z_F zT160) zD160 2 [x1] S = (bif decide ((S r_x_sectionCount 0 0 0) ≤ x1) then ((0, [1]), S) else (e_bind (f_x_filmsIn [x1] S) (fun v1 S1 => (bif decide ((S1 r_Section_quota x1 0 0) < v1) then ((0, [0]), S1) else (e_bind (f_x_minutesIn [x1] S1) (fun v2 S2 => (bif decide (v2 ≤ (S2 r_Section_budget x1 0 0)) then ((1002, [(e_wr (x1 + 1))]), S2) else ((0, [0]), S2)))))))) := (id rfl : z_st (z_F zT160) zD160 2 [x1] S = z_ev (z_F zT160) 14 zP160_2 [x1] S).trans (by
  simp -implicitDefEqProofs only [zP160_2, zF160_155, zF160_156, Nat.zero_add, Nat.reduceAdd, Nat.reduceBEq, Int.reduceToNat, z_e0, z_e1, z_e2, z_e3, z_e4, z_e5, z_e6, z_e7, z_e8, z_e11, z_e13, o_v0, o_v1, o_v2, List.cons_append, List.nil_append, List.map_cons, List.map_nil, List.drop_succ_cons, List.drop_zero, List.take_succ_cons, List.take_zero, e_c0, e_c1, e_c2, e_c3, e_c4, e_c5, e_b0, e_b1, e_b2, e_b3, e_b4, e_b5, e_b6, e_b7, e_b8, e_b9, e_b10, e_b11, e_b12, e_b13, e_b14, e_b15, e_b16, e_b17, e_n0, e_bnd, e_un]
  try rfl)
theorem g_x_areSectionsKept_2 {x1 : Int} {S : ZS} : g_x_areSectionsKept ((1002, [x1]), S) = (bif decide ((S r_x_sectionCount 0 0 0) ≤ x1) then ((0, [1]), S) else (e_bind (f_x_filmsIn [x1] S) (fun v1 S1 => (bif decide ((S1 r_Section_quota x1 0 0) < v1) then ((0, [0]), S1) else (e_bind (f_x_minutesIn [x1] S1) (fun v2 S2 => (bif decide (v2 ≤ (S2 r_Section_budget x1 0 0)) then (g_x_areSectionsKept ((1002, [(e_wr (x1 + 1))]), S2)) else ((0, [0]), S2)))))))) := by
  unfold g_x_areSectionsKept
  refine ((z_psi_go (pc := 2)).trans (congrArg _ zE160_2)).trans ?_
  try simp only [z_psi_c, z_psi_b, z_psi_n, Nat.reduceLT, decide_true]
def zW160 : List Nat := []
theorem zK160 : z_kp 0 zW160 f_x_areSectionsKept := fun L S hL hc r i j k hr => z_psi_kp (KT := [(155, 1, zW155), (156, 1, zW156)]) (F := z_F zT160) (W := zW160) (D := zD160) (.c zF160_155 zK155 (.c zF160_156 zK156 .n)) (z_h163 rfl) (by decide +kernel) _ hc r i j k hr

-- Count_tallyBallot (19)
def zT19 : ZT := []
theorem zH19 : z_ok zT19 := .n
def zP19_0 : List ZO := [(5, [(1477, 0), (1, 0), (2, 0), (0, 0)]), (4, [(1, 0), (4, 0), (0, 1)]), (2, [(13, 0), (1, 0), (2, 0), (3, 0), (0, 0), (0, (-1)), (5, 0)])]
def zP19_13 : List ZO := [(3, [(2, 0), (14, 0), (6, 0), (0, 0)]), (3, [(0, 0), (3, 0), (5, 0), (0, (-1))]), (3, [(0, 0), (1, 0), (5, 0), (0, (-1))]), (0, [(0, 0)]), (0, [(0, 1)]), (3, [(1, 0), (3, 0), (3, 0), (0, 0)]), (3, [(0, 0), (1, 0), (5, 0), (0, (-1))]), (0, [(0, 0)]), (0, [(0, 1)]), (5, [(2432, 0), (0, 0), (0, 0), (5, 0)]), (4, [(0, 0), (7, 0), (0, 1)]), (6, [(2432, 0), (0, 0), (0, 0), (0, 0), (5, 0), (8, 0)]), (3, [(0, 0), (1, 0), (5, 0), (0, (-1))]), (0, [(0, 0)]), (0, [(0, 1)]), (5, [(1600, 0), (1, 0), (2, 0), (6, 0)]), (5, [(2304, 0), (0, 0), (0, 0), (7, 0)]), (3, [(1, 0), (2, 0), (8, 0), (0, 0)]), (4, [(0, 0), (6, 0), (0, (-1))]), (2, [(13, 0), (1, 0), (2, 0), (3, 0), (4, 0), (5, 0), (9, 0)]), (6, [(2368, 0), (1, 0), (0, 0), (0, 0), (7, 0), (0, 1)]), (5, [(2432, 0), (0, 0), (0, 0), (7, 0)]), (3, [(0, 0), (4, 0), (3, 0), (0, 0)]), (4, [(0, 0), (9, 0), (0, 0)]), (6, [(2432, 0), (0, 0), (0, 0), (0, 0), (7, 0), (10, 0)]), (4, [(0, 0), (4, 0), (0, 1)]), (2, [(74, 0), (1, 0), (2, 0), (3, 0), (11, 0), (7, 0), (6, 0), (7, 0), (0, 0)]), (4, [(0, 0), (9, 0), (4, 0)]), (6, [(2432, 0), (0, 0), (0, 0), (0, 0), (7, 0), (10, 0)]), (4, [(0, 0), (4, 0), (0, 1)]), (2, [(74, 0), (1, 0), (2, 0), (3, 0), (11, 0), (7, 0), (6, 0), (7, 0), (0, 0)])]
def zP19_74 : List ZO := [(3, [(3, 0), (2, 0), (8, 0), (6, 0)]), (4, [(0, 0), (6, 0), (0, (-1))]), (2, [(13, 0), (1, 0), (2, 0), (3, 0), (4, 0), (5, 0), (9, 0)]), (5, [(1600, 0), (1, 0), (2, 0), (8, 0)]), (5, [(2560, 0), (9, 0), (0, 0), (7, 0)]), (4, [(0, 0), (10, 0), (0, 1)]), (6, [(2560, 0), (0, 0), (9, 0), (0, 0), (7, 0), (11, 0)]), (5, [(1600, 0), (1, 0), (2, 0), (8, 0)]), (5, [(2560, 0), (7, 0), (0, 0), (12, 0)]), (4, [(1, 0), (13, 0), (0, 1)]), (6, [(2560, 0), (0, 0), (7, 0), (0, 0), (12, 0), (14, 0)]), (4, [(0, 0), (8, 0), (0, 1)]), (2, [(74, 0), (1, 0), (2, 0), (3, 0), (4, 0), (5, 0), (6, 0), (7, 0), (15, 0)])]
def zD19 : ZD := [(0, 3, [some (37, (0, 0), (0, 0)), some (25, (1, 0), (2, 0)), some (0, (3, 0), (0, 0)), none, none, none, none, none], 4, zP19_0), (13, 6, [some (37, (0, 0), (0, 0)), some (25, (1, 0), (2, 0)), some (0, (3, 0), (0, 0)), some (0, (4, 0), (0, 0)), some (0, (5, 0), (0, 0)), some (0, (6, 0), (0, 0)), none, none], 32, zP19_13), (74, 8, [some (37, (0, 0), (0, 0)), some (25, (1, 0), (2, 0)), some (0, (3, 0), (0, 0)), some (0, (4, 0), (0, 0)), some (0, (5, 0), (0, 0)), some (0, (6, 0), (0, 0)), some (0, (7, 0), (0, 0)), some (0, (8, 0), (0, 0))], 14, zP19_74)]
theorem zG19 : z_chk zT19 [] 19 zD19 = true := by decide +kernel
noncomputable def g_Count_tallyBallot (R : ZR) : ZR := z_psi (z_st (z_F zT19) zD19) R
noncomputable def f_Count_tallyBallot : ZFn := fun L S => g_Count_tallyBallot ((1000, L), S)
theorem zM19 : z_met 19 3 [(37, (0, 0), (0, 0)), (25, (1, 0), (2, 0)), (0, (3, 0), (0, 0))] f_Count_tallyBallot := z_met_psi zH19 (fun _ _ h => absurd h List.not_mem_nil) rfl zG19
theorem zE19_0 {x1 x2 x3 : Int} {S : ZS} : z_st (z_F zT19) zD19 0 [x1, x2, x3] S = ((1013, [x1, x2, x3, 0, (-1), (e_wr ((S r_Juror_ballotSize x1 x2 0) - 1))]), S) := (id rfl : z_st (z_F zT19) zD19 0 [x1, x2, x3] S = z_ev (z_F zT19) 4 zP19_0 [x1, x2, x3] S).trans (id rfl)
theorem g_Count_tallyBallot_0 {x1 x2 x3 : Int} {S : ZS} : g_Count_tallyBallot ((1000, [x1, x2, x3]), S) = (g_Count_tallyBallot ((1013, [x1, x2, x3, 0, (-1), (e_wr ((S r_Juror_ballotSize x1 x2 0) - 1))]), S)) := by
  unfold g_Count_tallyBallot
  refine ((z_psi_go (pc := 0)).trans (congrArg _ zE19_0)).trans ?_
  try simp only [z_psi_c, z_psi_b, z_psi_n, Nat.reduceLT, decide_true]
theorem zE19_13 {x1 x2 x3 x4 x5 x6 : Int} {S : ZS} : z_st (z_F zT19) zD19 13 [x1, x2, x3, x4, x5, x6] S = (bif decide (x6 < 0) then (bif decide (x5 = (-1)) then (bif decide (x5 = (-1)) then ((0, [0]), S) else ((0, [1]), S)) else (bif !decide (x3 = 0) then (bif decide (x5 = (-1)) then ((0, [0]), S) else ((0, [1]), S)) else (bif decide (x5 = (-1)) then ((0, [0]), (e_upd S r_Count_tally 0 0 x5 (e_wr ((S r_Count_tally 0 0 x5) + 1)))) else ((0, [1]), (e_upd S r_Count_tally 0 0 x5 (e_wr ((S r_Count_tally 0 0 x5) + 1))))))) else (bif !decide ((S r_Count_isOut 0 0 (S r_Juror_ballot x1 x2 x6)) = 0) then ((1013, [x1, x2, x3, x4, x5, (e_wr (x6 + (-1)))]), S) else (bif decide (x3 = 0) then ((1074, [x1, x2, x3, (e_wr (x4 + 1)), (S r_Juror_ballot x1 x2 x6), x6, (S r_Juror_ballot x1 x2 x6), 0]), (e_upd (e_upd S r_Count_isOnBallot 0 0 (S r_Juror_ballot x1 x2 x6) (e_nar 1 1)) r_Count_tally 0 0 (S r_Juror_ballot x1 x2 x6) (e_wr ((S r_Count_tally 0 0 (S r_Juror_ballot x1 x2 x6)) + 0)))) else ((1074, [x1, x2, x3, (e_wr (x4 + 1)), (S r_Juror_ballot x1 x2 x6), x6, (S r_Juror_ballot x1 x2 x6), 0]), (e_upd (e_upd S r_Count_isOnBallot 0 0 (S r_Juror_ballot x1 x2 x6) (e_nar 1 1)) r_Count_tally 0 0 (S r_Juror_ballot x1 x2 x6) (e_wr ((S r_Count_tally 0 0 (S r_Juror_ballot x1 x2 x6)) + x4))))))) := (id rfl : z_st (z_F zT19) zD19 13 [x1, x2, x3, x4, x5, x6] S = z_ev (z_F zT19) 32 zP19_13 [x1, x2, x3, x4, x5, x6] S).trans (by
  simp -implicitDefEqProofs only [zP19_13, Nat.zero_add, Nat.reduceAdd, Nat.reduceBEq, Int.reduceToNat, z_e0, z_e1, z_e2, z_e3, z_e4, z_e5, z_e6, z_e7, z_e8, z_e11, z_e13, o_v0, o_v1, o_v2, List.cons_append, List.nil_append, List.map_cons, List.map_nil, List.drop_succ_cons, List.drop_zero, List.take_succ_cons, List.take_zero, e_c0, e_c1, e_c2, e_c3, e_c4, e_c5, e_b0, e_b1, e_b2, e_b3, e_b4, e_b5, e_b6, e_b7, e_b8, e_b9, e_b10, e_b11, e_b12, e_b13, e_b14, e_b15, e_b16, e_b17, e_n0, e_bnd, e_un]
  try rfl)
theorem g_Count_tallyBallot_13 {x1 x2 x3 x4 x5 x6 : Int} {S : ZS} : g_Count_tallyBallot ((1013, [x1, x2, x3, x4, x5, x6]), S) = (bif decide (x6 < 0) then (bif decide (x5 = (-1)) then (bif decide (x5 = (-1)) then ((0, [0]), S) else ((0, [1]), S)) else (bif !decide (x3 = 0) then (bif decide (x5 = (-1)) then ((0, [0]), S) else ((0, [1]), S)) else (bif decide (x5 = (-1)) then ((0, [0]), (e_upd S r_Count_tally 0 0 x5 (e_wr ((S r_Count_tally 0 0 x5) + 1)))) else ((0, [1]), (e_upd S r_Count_tally 0 0 x5 (e_wr ((S r_Count_tally 0 0 x5) + 1))))))) else (bif !decide ((S r_Count_isOut 0 0 (S r_Juror_ballot x1 x2 x6)) = 0) then (g_Count_tallyBallot ((1013, [x1, x2, x3, x4, x5, (e_wr (x6 + (-1)))]), S)) else (bif decide (x3 = 0) then (g_Count_tallyBallot ((1074, [x1, x2, x3, (e_wr (x4 + 1)), (S r_Juror_ballot x1 x2 x6), x6, (S r_Juror_ballot x1 x2 x6), 0]), (e_upd (e_upd S r_Count_isOnBallot 0 0 (S r_Juror_ballot x1 x2 x6) (e_nar 1 1)) r_Count_tally 0 0 (S r_Juror_ballot x1 x2 x6) (e_wr ((S r_Count_tally 0 0 (S r_Juror_ballot x1 x2 x6)) + 0))))) else (g_Count_tallyBallot ((1074, [x1, x2, x3, (e_wr (x4 + 1)), (S r_Juror_ballot x1 x2 x6), x6, (S r_Juror_ballot x1 x2 x6), 0]), (e_upd (e_upd S r_Count_isOnBallot 0 0 (S r_Juror_ballot x1 x2 x6) (e_nar 1 1)) r_Count_tally 0 0 (S r_Juror_ballot x1 x2 x6) (e_wr ((S r_Count_tally 0 0 (S r_Juror_ballot x1 x2 x6)) + x4)))))))) := by
  unfold g_Count_tallyBallot
  refine ((z_psi_go (pc := 13)).trans (congrArg _ zE19_13)).trans ?_
  try simp only [z_psi_c, z_psi_b, z_psi_n, Nat.reduceLT, decide_true]
theorem zE19_74 {x1 x2 x3 x4 x5 x6 x7 x8 : Int} {S : ZS} : z_st (z_F zT19) zD19 74 [x1, x2, x3, x4, x5, x6, x7, x8] S = (bif decide (x6 ≤ x8) then ((1013, [x1, x2, x3, x4, x5, (e_wr (x6 + (-1)))]), S) else ((1074, [x1, x2, x3, x4, x5, x6, x7, (e_wr (x8 + 1))]), (e_upd (e_upd S r_Count_leads_r (S r_Juror_ballot x1 x2 x8) 0 x7 (e_wr ((S r_Count_leads_r (S r_Juror_ballot x1 x2 x8) 0 x7) + 1))) r_Count_leads_r x7 0 (S r_Juror_ballot x1 x2 x8) (e_wr (((e_upd S r_Count_leads_r (S r_Juror_ballot x1 x2 x8) 0 x7 (e_wr ((S r_Count_leads_r (S r_Juror_ballot x1 x2 x8) 0 x7) + 1))) r_Count_leads_r x7 0 (S r_Juror_ballot x1 x2 x8)) - 1))))) := (id rfl : z_st (z_F zT19) zD19 74 [x1, x2, x3, x4, x5, x6, x7, x8] S = z_ev (z_F zT19) 14 zP19_74 [x1, x2, x3, x4, x5, x6, x7, x8] S).trans (by
  simp -implicitDefEqProofs only [zP19_74, Nat.zero_add, Nat.reduceAdd, Nat.reduceBEq, Int.reduceToNat, z_e0, z_e1, z_e2, z_e3, z_e4, z_e5, z_e6, z_e7, z_e8, z_e11, z_e13, o_v0, o_v1, o_v2, List.cons_append, List.nil_append, List.map_cons, List.map_nil, List.drop_succ_cons, List.drop_zero, List.take_succ_cons, List.take_zero, e_c0, e_c1, e_c2, e_c3, e_c4, e_c5, e_b0, e_b1, e_b2, e_b3, e_b4, e_b5, e_b6, e_b7, e_b8, e_b9, e_b10, e_b11, e_b12, e_b13, e_b14, e_b15, e_b16, e_b17, e_n0, e_bnd, e_un]
  try rfl)
theorem g_Count_tallyBallot_74 {x1 x2 x3 x4 x5 x6 x7 x8 : Int} {S : ZS} : g_Count_tallyBallot ((1074, [x1, x2, x3, x4, x5, x6, x7, x8]), S) = (bif decide (x6 ≤ x8) then (g_Count_tallyBallot ((1013, [x1, x2, x3, x4, x5, (e_wr (x6 + (-1)))]), S)) else (g_Count_tallyBallot ((1074, [x1, x2, x3, x4, x5, x6, x7, (e_wr (x8 + 1))]), (e_upd (e_upd S r_Count_leads_r (S r_Juror_ballot x1 x2 x8) 0 x7 (e_wr ((S r_Count_leads_r (S r_Juror_ballot x1 x2 x8) 0 x7) + 1))) r_Count_leads_r x7 0 (S r_Juror_ballot x1 x2 x8) (e_wr (((e_upd S r_Count_leads_r (S r_Juror_ballot x1 x2 x8) 0 x7 (e_wr ((S r_Count_leads_r (S r_Juror_ballot x1 x2 x8) 0 x7) + 1))) r_Count_leads_r x7 0 (S r_Juror_ballot x1 x2 x8)) - 1)))))) := by
  unfold g_Count_tallyBallot
  refine ((z_psi_go (pc := 74)).trans (congrArg _ zE19_74)).trans ?_
  try simp only [z_psi_c, z_psi_b, z_psi_n, Nat.reduceLT, decide_true]
def zW19 : List Nat := [r_Count_isOnBallot, r_Count_tally, r_Count_leads_r]
theorem zK19 : z_kp 3 zW19 f_Count_tallyBallot := fun L S hL hc r i j k hr => z_psi_kp (KT := []) (F := z_F zT19) (W := zW19) (D := zD19) (.n) (z_h163 rfl) (by decide +kernel) _ hc r i j k hr

-- Count_tallyBallots (18)
noncomputable def zT18 : ZT := [(19, 3, [(37, (0, 0), (0, 0)), (25, (1, 0), (2, 0)), (0, (3, 0), (0, 0))], f_Count_tallyBallot)]
theorem zH18 : z_ok zT18 := .c zM19 .n
theorem zF18_19 : z_F zT18 19 = f_Count_tallyBallot := id rfl
def zP18_0 : List ZO := [(2, [(5, 0), (1, 0), (2, 0), (0, 0), (0, 0)])]
def zP18_5 : List ZO := [(3, [(3, 0), (1, 0), (4, 0), (0, 20)]), (2, [(64, 0), (1, 0), (2, 0), (3, 0), (0, 0)]), (6, [(2432, 0), (0, 0), (0, 0), (0, 0), (4, 0), (0, 0)]), (6, [(2368, 0), (1, 0), (0, 0), (0, 0), (4, 0), (0, 0)]), (2, [(31, 0), (1, 0), (2, 0), (3, 0), (4, 0), (0, 0)])]
def zP18_31 : List ZO := [(3, [(3, 0), (2, 0), (5, 0), (0, 20)]), (4, [(0, 0), (4, 0), (0, 1)]), (2, [(5, 0), (1, 0), (2, 0), (3, 0), (6, 0)]), (6, [(2560, 0), (0, 0), (4, 0), (0, 0), (5, 0), (0, 0)]), (4, [(0, 0), (5, 0), (0, 1)]), (2, [(31, 0), (1, 0), (2, 0), (3, 0), (4, 0), (6, 0)])]
def zP18_64 : List ZO := [(5, [(1352, 0), (1, 0), (0, 0), (0, 0)]), (3, [(3, 0), (1, 0), (4, 0), (5, 0)]), (0, [(3, 0)]), (7, [(19, 0), (1, 0), (4, 0), (2, 0)]), (3, [(0, 0), (2, 0), (6, 0), (0, 0)]), (4, [(0, 0), (4, 0), (0, 1)]), (2, [(64, 0), (1, 0), (2, 0), (3, 0), (7, 0)]), (4, [(0, 0), (3, 0), (0, 1)]), (4, [(0, 0), (4, 0), (0, 1)]), (2, [(64, 0), (1, 0), (2, 0), (7, 0), (8, 0)])]
def zD18 : ZD := [(0, 2, [some (37, (0, 0), (0, 0)), some (23, (1, 0), (0, 0)), some (0, (2, 0), (0, 0)), none, none, none], 2, zP18_0), (5, 4, [some (37, (0, 0), (0, 0)), some (23, (1, 0), (0, 0)), some (0, (2, 0), (0, 0)), some (0, (3, 0), (0, 0)), some (0, (4, 0), (0, 0)), none], 6, zP18_5), (31, 5, [some (37, (0, 0), (0, 0)), some (23, (1, 0), (0, 0)), some (0, (2, 0), (0, 0)), some (0, (3, 0), (0, 0)), some (0, (4, 0), (0, 0)), some (0, (5, 0), (0, 0))], 7, zP18_31), (64, 4, [some (37, (0, 0), (0, 0)), some (23, (1, 0), (0, 0)), some (0, (2, 0), (0, 0)), some (0, (3, 0), (0, 0)), some (0, (4, 0), (0, 0)), none], 11, zP18_64)]
theorem zG18 : z_chk zT18 [] 18 zD18 = true := by decide +kernel
noncomputable def g_Count_tallyBallots (R : ZR) : ZR := z_psi (z_st (z_F zT18) zD18) R
noncomputable def f_Count_tallyBallots : ZFn := fun L S => g_Count_tallyBallots ((1000, L), S)
theorem zM18 : z_met 18 2 [(37, (0, 0), (0, 0)), (23, (1, 0), (0, 0)), (0, (2, 0), (0, 0))] f_Count_tallyBallots := z_met_psi zH18 (fun _ _ h => absurd h List.not_mem_nil) rfl zG18
theorem zE18_0 {x1 x2 : Int} {S : ZS} : z_st (z_F zT18) zD18 0 [x1, x2] S = ((1005, [x1, x2, 0, 0]), S) := (id rfl : z_st (z_F zT18) zD18 0 [x1, x2] S = z_ev (z_F zT18) 2 zP18_0 [x1, x2] S).trans (id rfl)
theorem g_Count_tallyBallots_0 {x1 x2 : Int} {S : ZS} : g_Count_tallyBallots ((1000, [x1, x2]), S) = (g_Count_tallyBallots ((1005, [x1, x2, 0, 0]), S)) := by
  unfold g_Count_tallyBallots
  refine ((z_psi_go (pc := 0)).trans (congrArg _ zE18_0)).trans ?_
  try simp only [z_psi_c, z_psi_b, z_psi_n, Nat.reduceLT, decide_true]
theorem zE18_5 {x1 x2 x3 x4 : Int} {S : ZS} : z_st (z_F zT18) zD18 5 [x1, x2, x3, x4] S = (bif decide (20 ≤ x4) then ((1064, [x1, x2, x3, 0]), S) else ((1031, [x1, x2, x3, x4, 0]), (e_upd (e_upd S r_Count_tally 0 0 x4 0) r_Count_isOnBallot 0 0 x4 (e_nar 1 0)))) := (id rfl : z_st (z_F zT18) zD18 5 [x1, x2, x3, x4] S = z_ev (z_F zT18) 6 zP18_5 [x1, x2, x3, x4] S).trans (id rfl)
theorem g_Count_tallyBallots_5 {x1 x2 x3 x4 : Int} {S : ZS} : g_Count_tallyBallots ((1005, [x1, x2, x3, x4]), S) = (bif decide (20 ≤ x4) then (g_Count_tallyBallots ((1064, [x1, x2, x3, 0]), S)) else (g_Count_tallyBallots ((1031, [x1, x2, x3, x4, 0]), (e_upd (e_upd S r_Count_tally 0 0 x4 0) r_Count_isOnBallot 0 0 x4 (e_nar 1 0))))) := by
  unfold g_Count_tallyBallots
  refine ((z_psi_go (pc := 5)).trans (congrArg _ zE18_5)).trans ?_
  try simp only [z_psi_c, z_psi_b, z_psi_n, Nat.reduceLT, decide_true]
theorem zE18_31 {x1 x2 x3 x4 x5 : Int} {S : ZS} : z_st (z_F zT18) zD18 31 [x1, x2, x3, x4, x5] S = (bif decide (20 ≤ x5) then ((1005, [x1, x2, x3, (e_wr (x4 + 1))]), S) else ((1031, [x1, x2, x3, x4, (e_wr (x5 + 1))]), (e_upd S r_Count_leads_r x4 0 x5 0))) := (id rfl : z_st (z_F zT18) zD18 31 [x1, x2, x3, x4, x5] S = z_ev (z_F zT18) 7 zP18_31 [x1, x2, x3, x4, x5] S).trans (id rfl)
theorem g_Count_tallyBallots_31 {x1 x2 x3 x4 x5 : Int} {S : ZS} : g_Count_tallyBallots ((1031, [x1, x2, x3, x4, x5]), S) = (bif decide (20 ≤ x5) then (g_Count_tallyBallots ((1005, [x1, x2, x3, (e_wr (x4 + 1))]), S)) else (g_Count_tallyBallots ((1031, [x1, x2, x3, x4, (e_wr (x5 + 1))]), (e_upd S r_Count_leads_r x4 0 x5 0)))) := by
  unfold g_Count_tallyBallots
  refine ((z_psi_go (pc := 31)).trans (congrArg _ zE18_31)).trans ?_
  try simp only [z_psi_c, z_psi_b, z_psi_n, Nat.reduceLT, decide_true]
theorem zE18_64 {x1 x2 x3 x4 : Int} {S : ZS} : z_st (z_F zT18) zD18 64 [x1, x2, x3, x4] S = (bif decide ((S r_Section_jurorCount x1 0 0) ≤ x4) then ((0, [x3]), S) else (e_bind (f_Count_tallyBallot [x1, x4, x2] S) (fun v1 S1 => (bif decide (v1 = 0) then ((1064, [x1, x2, x3, (e_wr (x4 + 1))]), S1) else ((1064, [x1, x2, (e_wr (x3 + 1)), (e_wr (x4 + 1))]), S1))))) := (id rfl : z_st (z_F zT18) zD18 64 [x1, x2, x3, x4] S = z_ev (z_F zT18) 11 zP18_64 [x1, x2, x3, x4] S).trans (id rfl)
theorem g_Count_tallyBallots_64 {x1 x2 x3 x4 : Int} {S : ZS} : g_Count_tallyBallots ((1064, [x1, x2, x3, x4]), S) = (bif decide ((S r_Section_jurorCount x1 0 0) ≤ x4) then ((0, [x3]), S) else (e_bind (f_Count_tallyBallot [x1, x4, x2] S) (fun v1 S1 => (bif decide (v1 = 0) then (g_Count_tallyBallots ((1064, [x1, x2, x3, (e_wr (x4 + 1))]), S1)) else (g_Count_tallyBallots ((1064, [x1, x2, (e_wr (x3 + 1)), (e_wr (x4 + 1))]), S1)))))) := by
  unfold g_Count_tallyBallots
  refine ((z_psi_go (pc := 64)).trans (congrArg _ zE18_64)).trans ?_
  try simp only [z_psi_c, z_psi_b, z_psi_n, Nat.reduceLT, decide_true]
def zW18 : List Nat := [r_Count_isOnBallot, r_Count_tally, r_Count_leads_r]
theorem zK18 : z_kp 2 zW18 f_Count_tallyBallots := fun L S hL hc r i j k hr => z_psi_kp (KT := [(19, 3, zW19)]) (F := z_F zT18) (W := zW18) (D := zD18) (.c zF18_19 zK19 .n) (z_h163 rfl) (by decide +kernel) _ hc r i j k hr

-- Count_tallied (20)
def zT20 : ZT := []
theorem zH20 : z_ok zT20 := .n
def zP20_0 : List ZO := [(2, [(5, 0), (0, (-1)), (0, 19)])]
def zP20_5 : List ZO := [(3, [(2, 0), (1, 0), (2, 0), (0, 0)]), (0, [(1, 0)]), (5, [(2368, 0), (0, 0), (0, 0), (2, 0)]), (3, [(0, 0), (2, 0), (3, 0), (0, 0)]), (4, [(0, 0), (2, 0), (0, (-1))]), (2, [(5, 0), (1, 0), (4, 0)]), (3, [(0, 0), (2, 0), (1, 0), (0, (-1))]), (4, [(0, 0), (2, 0), (0, (-1))]), (2, [(5, 0), (2, 0), (4, 0)]), (5, [(2432, 0), (0, 0), (0, 0), (2, 0)]), (5, [(2432, 0), (0, 0), (0, 0), (1, 0)]), (3, [(2, 0), (2, 0), (4, 0), (5, 0)]), (4, [(0, 0), (2, 0), (0, (-1))]), (2, [(5, 0), (1, 0), (6, 0)]), (4, [(0, 0), (2, 0), (0, (-1))]), (2, [(5, 0), (2, 0), (6, 0)])]
def zD20 : ZD := [(0, 0, [some (37, (0, 0), (0, 0)), none, none], 2, zP20_0), (5, 2, [some (37, (0, 0), (0, 0)), some (0, (1, 0), (0, 0)), some (0, (2, 0), (0, 0))], 17, zP20_5)]
theorem zG20 : z_chk zT20 [] 20 zD20 = true := by decide +kernel
noncomputable def g_Count_tallied (R : ZR) : ZR := z_psi (z_st (z_F zT20) zD20) R
noncomputable def f_Count_tallied : ZFn := fun L S => g_Count_tallied ((1000, L), S)
theorem zM20 : z_met 20 0 [(37, (0, 0), (0, 0))] f_Count_tallied := z_met_psi zH20 (fun _ _ h => absurd h List.not_mem_nil) rfl zG20
theorem zE20_0 {S : ZS} : z_st (z_F zT20) zD20 0 [] S = ((1005, [(-1), 19]), S) := (id rfl : z_st (z_F zT20) zD20 0 [] S = z_ev (z_F zT20) 2 zP20_0 [] S).trans (id rfl)
theorem g_Count_tallied_0 {S : ZS} : g_Count_tallied ((1000, []), S) = (g_Count_tallied ((1005, [(-1), 19]), S)) := by
  unfold g_Count_tallied
  refine ((z_psi_go (pc := 0)).trans (congrArg _ zE20_0)).trans ?_
  try simp only [z_psi_c, z_psi_b, z_psi_n, Nat.reduceLT, decide_true]
theorem zE20_5 {x1 x2 : Int} {S : ZS} : z_st (z_F zT20) zD20 5 [x1, x2] S = (bif decide (x2 < 0) then ((0, [x1]), S) else (bif decide ((S r_Count_isOnBallot 0 0 x2) = 0) then ((1005, [x1, (e_wr (x2 + (-1)))]), S) else (bif decide (x1 = (-1)) then ((1005, [x2, (e_wr (x2 + (-1)))]), S) else (bif decide ((S r_Count_tally 0 0 x2) < (S r_Count_tally 0 0 x1)) then ((1005, [x1, (e_wr (x2 + (-1)))]), S) else ((1005, [x2, (e_wr (x2 + (-1)))]), S))))) := (id rfl : z_st (z_F zT20) zD20 5 [x1, x2] S = z_ev (z_F zT20) 17 zP20_5 [x1, x2] S).trans (by
  simp -implicitDefEqProofs only [zP20_5, Nat.zero_add, Nat.reduceAdd, Nat.reduceBEq, Int.reduceToNat, z_e0, z_e1, z_e2, z_e3, z_e4, z_e5, z_e6, z_e7, z_e8, z_e11, z_e13, o_v0, o_v1, o_v2, List.cons_append, List.nil_append, List.map_cons, List.map_nil, List.drop_succ_cons, List.drop_zero, List.take_succ_cons, List.take_zero, e_c0, e_c1, e_c2, e_c3, e_c4, e_c5, e_b0, e_b1, e_b2, e_b3, e_b4, e_b5, e_b6, e_b7, e_b8, e_b9, e_b10, e_b11, e_b12, e_b13, e_b14, e_b15, e_b16, e_b17, e_n0, e_bnd, e_un]
  try rfl)
theorem g_Count_tallied_5 {x1 x2 : Int} {S : ZS} : g_Count_tallied ((1005, [x1, x2]), S) = (bif decide (x2 < 0) then ((0, [x1]), S) else (bif decide ((S r_Count_isOnBallot 0 0 x2) = 0) then (g_Count_tallied ((1005, [x1, (e_wr (x2 + (-1)))]), S)) else (bif decide (x1 = (-1)) then (g_Count_tallied ((1005, [x2, (e_wr (x2 + (-1)))]), S)) else (bif decide ((S r_Count_tally 0 0 x2) < (S r_Count_tally 0 0 x1)) then (g_Count_tallied ((1005, [x1, (e_wr (x2 + (-1)))]), S)) else (g_Count_tallied ((1005, [x2, (e_wr (x2 + (-1)))]), S)))))) := by
  unfold g_Count_tallied
  refine ((z_psi_go (pc := 5)).trans (congrArg _ zE20_5)).trans ?_
  try simp only [z_psi_c, z_psi_b, z_psi_n, Nat.reduceLT, decide_true]
def zW20 : List Nat := []
theorem zK20 : z_kp 0 zW20 f_Count_tallied := fun L S hL hc r i j k hr => z_psi_kp (KT := []) (F := z_F zT20) (W := zW20) (D := zD20) (.n) (z_h163 rfl) (by decide +kernel) _ hc r i j k hr

-- Count_recountDuels (21)
def zT21 : ZT := []
theorem zH21 : z_ok zT21 := .n
def zP21_0 : List ZO := [(2, [(2, 0), (0, 0)])]
def zP21_2 : List ZO := [(3, [(3, 0), (1, 0), (1, 0), (0, 20)]), (0, [(0, (-1))]), (5, [(2368, 0), (0, 0), (0, 0), (1, 0)]), (2, [(17, 0), (1, 0), (2, 0), (0, 0)])]
def zP21_17 : List ZO := [(3, [(3, 0), (4, 0), (3, 0), (0, 20)]), (3, [(0, 0), (2, 0), (2, 0), (0, 0)]), (4, [(0, 0), (1, 0), (0, 1)]), (2, [(2, 0), (4, 0)]), (0, [(1, 0)]), (3, [(0, 0), (2, 0), (3, 0), (1, 0)]), (4, [(0, 0), (3, 0), (0, 1)]), (2, [(17, 0), (1, 0), (2, 0), (4, 0)]), (5, [(2368, 0), (0, 0), (0, 0), (3, 0)]), (3, [(0, 0), (2, 0), (4, 0), (0, 0)]), (4, [(0, 0), (3, 0), (0, 1)]), (2, [(17, 0), (1, 0), (2, 0), (5, 0)]), (5, [(2560, 0), (1, 0), (0, 0), (3, 0)]), (3, [(4, 0), (2, 0), (5, 0), (0, 0)]), (4, [(0, 0), (3, 0), (0, 1)]), (2, [(17, 0), (1, 0), (2, 0), (6, 0)]), (4, [(0, 0), (3, 0), (0, 1)]), (2, [(17, 0), (1, 0), (0, 0), (6, 0)])]
def zD21 : ZD := [(0, 0, [some (37, (0, 0), (0, 0)), none, none, none], 2, zP21_0), (2, 1, [some (37, (0, 0), (0, 0)), some (0, (1, 0), (0, 0)), none, none], 5, zP21_2), (17, 3, [some (37, (0, 0), (0, 0)), some (0, (1, 0), (0, 0)), some (0, (2, 0), (0, 0)), some (0, (3, 0), (0, 0))], 19, zP21_17)]
theorem zG21 : z_chk zT21 [] 21 zD21 = true := by decide +kernel
noncomputable def g_Count_recountDuels (R : ZR) : ZR := z_psi (z_st (z_F zT21) zD21) R
noncomputable def f_Count_recountDuels : ZFn := fun L S => g_Count_recountDuels ((1000, L), S)
theorem zM21 : z_met 21 0 [(37, (0, 0), (0, 0))] f_Count_recountDuels := z_met_psi zH21 (fun _ _ h => absurd h List.not_mem_nil) rfl zG21
theorem zE21_0 {S : ZS} : z_st (z_F zT21) zD21 0 [] S = ((1002, [0]), S) := (id rfl : z_st (z_F zT21) zD21 0 [] S = z_ev (z_F zT21) 2 zP21_0 [] S).trans (id rfl)
theorem g_Count_recountDuels_0 {S : ZS} : g_Count_recountDuels ((1000, []), S) = (g_Count_recountDuels ((1002, [0]), S)) := by
  unfold g_Count_recountDuels
  refine ((z_psi_go (pc := 0)).trans (congrArg _ zE21_0)).trans ?_
  try simp only [z_psi_c, z_psi_b, z_psi_n, Nat.reduceLT, decide_true]
theorem zE21_2 {x1 : Int} {S : ZS} : z_st (z_F zT21) zD21 2 [x1] S = (bif decide (20 ≤ x1) then ((0, [(-1)]), S) else ((1017, [x1, (S r_Count_isOnBallot 0 0 x1), 0]), S)) := (id rfl : z_st (z_F zT21) zD21 2 [x1] S = z_ev (z_F zT21) 5 zP21_2 [x1] S).trans (id rfl)
theorem g_Count_recountDuels_2 {x1 : Int} {S : ZS} : g_Count_recountDuels ((1002, [x1]), S) = (bif decide (20 ≤ x1) then ((0, [(-1)]), S) else (g_Count_recountDuels ((1017, [x1, (S r_Count_isOnBallot 0 0 x1), 0]), S))) := by
  unfold g_Count_recountDuels
  refine ((z_psi_go (pc := 2)).trans (congrArg _ zE21_2)).trans ?_
  try simp only [z_psi_c, z_psi_b, z_psi_n, Nat.reduceLT, decide_true]
theorem zE21_17 {x1 x2 x3 : Int} {S : ZS} : z_st (z_F zT21) zD21 17 [x1, x2, x3] S = (bif decide (20 ≤ x3) then (bif decide (x2 = 0) then ((1002, [(e_wr (x1 + 1))]), S) else ((0, [x1]), S)) else (bif decide (x3 = x1) then ((1017, [x1, x2, (e_wr (x3 + 1))]), S) else (bif decide ((S r_Count_isOnBallot 0 0 x3) = 0) then ((1017, [x1, x2, (e_wr (x3 + 1))]), S) else (bif decide (0 < (S r_Count_leads_r x1 0 x3)) then ((1017, [x1, x2, (e_wr (x3 + 1))]), S) else ((1017, [x1, 0, (e_wr (x3 + 1))]), S))))) := (id rfl : z_st (z_F zT21) zD21 17 [x1, x2, x3] S = z_ev (z_F zT21) 19 zP21_17 [x1, x2, x3] S).trans (by
  simp -implicitDefEqProofs only [zP21_17, Nat.zero_add, Nat.reduceAdd, Nat.reduceBEq, Int.reduceToNat, z_e0, z_e1, z_e2, z_e3, z_e4, z_e5, z_e6, z_e7, z_e8, z_e11, z_e13, o_v0, o_v1, o_v2, List.cons_append, List.nil_append, List.map_cons, List.map_nil, List.drop_succ_cons, List.drop_zero, List.take_succ_cons, List.take_zero, e_c0, e_c1, e_c2, e_c3, e_c4, e_c5, e_b0, e_b1, e_b2, e_b3, e_b4, e_b5, e_b6, e_b7, e_b8, e_b9, e_b10, e_b11, e_b12, e_b13, e_b14, e_b15, e_b16, e_b17, e_n0, e_bnd, e_un]
  try rfl)
theorem g_Count_recountDuels_17 {x1 x2 x3 : Int} {S : ZS} : g_Count_recountDuels ((1017, [x1, x2, x3]), S) = (bif decide (20 ≤ x3) then (bif decide (x2 = 0) then (g_Count_recountDuels ((1002, [(e_wr (x1 + 1))]), S)) else ((0, [x1]), S)) else (bif decide (x3 = x1) then (g_Count_recountDuels ((1017, [x1, x2, (e_wr (x3 + 1))]), S)) else (bif decide ((S r_Count_isOnBallot 0 0 x3) = 0) then (g_Count_recountDuels ((1017, [x1, x2, (e_wr (x3 + 1))]), S)) else (bif decide (0 < (S r_Count_leads_r x1 0 x3)) then (g_Count_recountDuels ((1017, [x1, x2, (e_wr (x3 + 1))]), S)) else (g_Count_recountDuels ((1017, [x1, 0, (e_wr (x3 + 1))]), S)))))) := by
  unfold g_Count_recountDuels
  refine ((z_psi_go (pc := 17)).trans (congrArg _ zE21_17)).trans ?_
  try simp only [z_psi_c, z_psi_b, z_psi_n, Nat.reduceLT, decide_true]
def zW21 : List Nat := []
theorem zK21 : z_kp 0 zW21 f_Count_recountDuels := fun L S hL hc r i j k hr => z_psi_kp (KT := []) (F := z_F zT21) (W := zW21) (D := zD21) (.n) (z_h163 rfl) (by decide +kernel) _ hc r i j k hr

-- Count_recountRounds (22)
noncomputable def zT22 : ZT := [(18, 2, [(37, (0, 0), (0, 0)), (23, (1, 0), (0, 0)), (0, (2, 0), (0, 0))], f_Count_tallyBallots), (20, 0, [(37, (0, 0), (0, 0))], f_Count_tallied)]
theorem zH22 : z_ok zT22 := .c zM18 (.c zM20 .n)
theorem zF22_18 : z_F zT22 18 = f_Count_tallyBallots := id rfl
theorem zF22_20 : z_F zT22 20 = f_Count_tallied := id rfl
def zP22_0 : List ZO := [(2, [(2, 0), (1, 0), (0, 0)])]
def zP22_2 : List ZO := [(3, [(3, 0), (1, 0), (2, 0), (0, 20)]), (0, [(0, (-1))]), (7, [(18, 0), (1, 0), (0, 0)]), (7, [(20, 0)]), (3, [(0, 0), (1, 0), (4, 0), (0, (-1))]), (0, [(4, 0)]), (5, [(2432, 0), (0, 0), (0, 0), (4, 0)]), (4, [(2, 0), (0, 2), (5, 0)]), (3, [(5, 0), (1, 0), (6, 0), (3, 0)]), (2, [(50, 0), (1, 0), (2, 0), (4, 0), (0, 0)]), (0, [(4, 0)])]
def zP22_50 : List ZO := [(3, [(3, 0), (3, 0), (4, 0), (0, 20)]), (6, [(2304, 0), (1, 0), (0, 0), (0, 0), (3, 0), (0, 1)]), (4, [(0, 0), (2, 0), (0, 1)]), (2, [(2, 0), (1, 0), (5, 0)]), (5, [(2368, 0), (0, 0), (0, 0), (4, 0)]), (3, [(0, 0), (2, 0), (5, 0), (0, 0)]), (4, [(0, 0), (4, 0), (0, 1)]), (2, [(50, 0), (1, 0), (2, 0), (3, 0), (6, 0)]), (5, [(2432, 0), (0, 0), (0, 0), (4, 0)]), (5, [(2432, 0), (0, 0), (0, 0), (3, 0)]), (3, [(2, 0), (2, 0), (6, 0), (7, 0)]), (4, [(0, 0), (4, 0), (0, 1)]), (2, [(50, 0), (1, 0), (2, 0), (4, 0), (8, 0)]), (5, [(2432, 0), (0, 0), (0, 0), (4, 0)]), (5, [(2432, 0), (0, 0), (0, 0), (3, 0)]), (3, [(1, 0), (2, 0), (8, 0), (9, 0)]), (4, [(0, 0), (4, 0), (0, 1)]), (2, [(50, 0), (1, 0), (2, 0), (3, 0), (10, 0)]), (3, [(5, 0), (2, 0), (4, 0), (3, 0)]), (4, [(0, 0), (4, 0), (0, 1)]), (2, [(50, 0), (1, 0), (2, 0), (3, 0), (10, 0)]), (4, [(0, 0), (4, 0), (0, 1)]), (2, [(50, 0), (1, 0), (2, 0), (4, 0), (10, 0)])]
def zD22 : ZD := [(0, 1, [some (37, (0, 0), (0, 0)), some (23, (1, 0), (0, 0)), none, none, none, none, none], 2, zP22_0), (2, 2, [some (37, (0, 0), (0, 0)), some (23, (1, 0), (0, 0)), some (0, (2, 0), (0, 0)), none, none, none, none], 12, zP22_2), (50, 4, [some (37, (0, 0), (0, 0)), some (23, (1, 0), (0, 0)), some (0, (2, 0), (0, 0)), none, none, some (0, (3, 0), (0, 0)), some (0, (4, 0), (0, 0))], 24, zP22_50)]
theorem zG22 : z_chk zT22 [] 22 zD22 = true := by decide +kernel
noncomputable def g_Count_recountRounds (R : ZR) : ZR := z_psi (z_st (z_F zT22) zD22) R
noncomputable def f_Count_recountRounds : ZFn := fun L S => g_Count_recountRounds ((1000, L), S)
theorem zM22 : z_met 22 1 [(37, (0, 0), (0, 0)), (23, (1, 0), (0, 0))] f_Count_recountRounds := z_met_psi zH22 (fun _ _ h => absurd h List.not_mem_nil) rfl zG22
theorem zE22_0 {x1 : Int} {S : ZS} : z_st (z_F zT22) zD22 0 [x1] S = ((1002, [x1, 0]), S) := (id rfl : z_st (z_F zT22) zD22 0 [x1] S = z_ev (z_F zT22) 2 zP22_0 [x1] S).trans (id rfl)
theorem g_Count_recountRounds_0 {x1 : Int} {S : ZS} : g_Count_recountRounds ((1000, [x1]), S) = (g_Count_recountRounds ((1002, [x1, 0]), S)) := by
  unfold g_Count_recountRounds
  refine ((z_psi_go (pc := 0)).trans (congrArg _ zE22_0)).trans ?_
  try simp only [z_psi_c, z_psi_b, z_psi_n, Nat.reduceLT, decide_true]
theorem zE22_2 {x1 x2 : Int} {S : ZS} : z_st (z_F zT22) zD22 2 [x1, x2] S = (bif decide (20 ≤ x2) then ((0, [(-1)]), S) else (e_bind (f_Count_tallyBallots [x1, 0] S) (fun v1 S1 => (e_bind (f_Count_tallied [] S1) (fun v2 S2 => (bif decide (v2 = (-1)) then ((0, [v2]), S2) else (bif decide ((e_wr (2 * (S2 r_Count_tally 0 0 v2))) ≤ v1) then ((1050, [x1, x2, v2, 0]), S2) else ((0, [v2]), S2)))))))) := (id rfl : z_st (z_F zT22) zD22 2 [x1, x2] S = z_ev (z_F zT22) 12 zP22_2 [x1, x2] S).trans (id rfl)
theorem g_Count_recountRounds_2 {x1 x2 : Int} {S : ZS} : g_Count_recountRounds ((1002, [x1, x2]), S) = (bif decide (20 ≤ x2) then ((0, [(-1)]), S) else (e_bind (f_Count_tallyBallots [x1, 0] S) (fun v1 S1 => (e_bind (f_Count_tallied [] S1) (fun v2 S2 => (bif decide (v2 = (-1)) then ((0, [v2]), S2) else (bif decide ((e_wr (2 * (S2 r_Count_tally 0 0 v2))) ≤ v1) then (g_Count_recountRounds ((1050, [x1, x2, v2, 0]), S2)) else ((0, [v2]), S2)))))))) := by
  unfold g_Count_recountRounds
  refine ((z_psi_go (pc := 2)).trans (congrArg _ zE22_2)).trans ?_
  try simp only [z_psi_c, z_psi_b, z_psi_n, Nat.reduceLT, decide_true]
theorem zE22_50 {x1 x2 x3 x4 : Int} {S : ZS} : z_st (z_F zT22) zD22 50 [x1, x2, x3, x4] S = (bif decide (20 ≤ x4) then ((1002, [x1, (e_wr (x2 + 1))]), (e_upd S r_Count_isOut 0 0 x3 (e_nar 1 1))) else (bif decide ((S r_Count_isOnBallot 0 0 x4) = 0) then ((1050, [x1, x2, x3, (e_wr (x4 + 1))]), S) else (bif decide ((S r_Count_tally 0 0 x4) < (S r_Count_tally 0 0 x3)) then ((1050, [x1, x2, x4, (e_wr (x4 + 1))]), S) else (bif !decide ((S r_Count_tally 0 0 x4) = (S r_Count_tally 0 0 x3)) then ((1050, [x1, x2, x3, (e_wr (x4 + 1))]), S) else (bif decide (x4 ≤ x3) then ((1050, [x1, x2, x3, (e_wr (x4 + 1))]), S) else ((1050, [x1, x2, x4, (e_wr (x4 + 1))]), S)))))) := (id rfl : z_st (z_F zT22) zD22 50 [x1, x2, x3, x4] S = z_ev (z_F zT22) 24 zP22_50 [x1, x2, x3, x4] S).trans (by
  simp -implicitDefEqProofs only [zP22_50, zF22_18, zF22_20, Nat.zero_add, Nat.reduceAdd, Nat.reduceBEq, Int.reduceToNat, z_e0, z_e1, z_e2, z_e3, z_e4, z_e5, z_e6, z_e7, z_e8, z_e11, z_e13, o_v0, o_v1, o_v2, List.cons_append, List.nil_append, List.map_cons, List.map_nil, List.drop_succ_cons, List.drop_zero, List.take_succ_cons, List.take_zero, e_c0, e_c1, e_c2, e_c3, e_c4, e_c5, e_b0, e_b1, e_b2, e_b3, e_b4, e_b5, e_b6, e_b7, e_b8, e_b9, e_b10, e_b11, e_b12, e_b13, e_b14, e_b15, e_b16, e_b17, e_n0, e_bnd, e_un]
  try rfl)
theorem g_Count_recountRounds_50 {x1 x2 x3 x4 : Int} {S : ZS} : g_Count_recountRounds ((1050, [x1, x2, x3, x4]), S) = (bif decide (20 ≤ x4) then (g_Count_recountRounds ((1002, [x1, (e_wr (x2 + 1))]), (e_upd S r_Count_isOut 0 0 x3 (e_nar 1 1)))) else (bif decide ((S r_Count_isOnBallot 0 0 x4) = 0) then (g_Count_recountRounds ((1050, [x1, x2, x3, (e_wr (x4 + 1))]), S)) else (bif decide ((S r_Count_tally 0 0 x4) < (S r_Count_tally 0 0 x3)) then (g_Count_recountRounds ((1050, [x1, x2, x4, (e_wr (x4 + 1))]), S)) else (bif !decide ((S r_Count_tally 0 0 x4) = (S r_Count_tally 0 0 x3)) then (g_Count_recountRounds ((1050, [x1, x2, x3, (e_wr (x4 + 1))]), S)) else (bif decide (x4 ≤ x3) then (g_Count_recountRounds ((1050, [x1, x2, x3, (e_wr (x4 + 1))]), S)) else (g_Count_recountRounds ((1050, [x1, x2, x4, (e_wr (x4 + 1))]), S))))))) := by
  unfold g_Count_recountRounds
  refine ((z_psi_go (pc := 50)).trans (congrArg _ zE22_50)).trans ?_
  try simp only [z_psi_c, z_psi_b, z_psi_n, Nat.reduceLT, decide_true]
def zW22 : List Nat := [r_Count_isOut, r_Count_isOnBallot, r_Count_tally, r_Count_leads_r]
theorem zK22 : z_kp 1 zW22 f_Count_recountRounds := fun L S hL hc r i j k hr => z_psi_kp (KT := [(18, 2, zW18), (20, 0, zW20)]) (F := z_F zT22) (W := zW22) (D := zD22) (.c zF22_18 zK18 (.c zF22_20 zK20 .n)) (z_h163 rfl) (by decide +kernel) _ hc r i j k hr

-- Count_recount (17)
noncomputable def zT17 : ZT := [(5, 0, [(37, (0, 0), (0, 0)), (4, (0, 0), (0, 0))], f_Count_dropWithdrawn), (18, 2, [(37, (0, 0), (0, 0)), (23, (1, 0), (0, 0)), (0, (2, 0), (0, 0))], f_Count_tallyBallots), (20, 0, [(37, (0, 0), (0, 0))], f_Count_tallied), (21, 0, [(37, (0, 0), (0, 0))], f_Count_recountDuels), (22, 1, [(37, (0, 0), (0, 0)), (23, (1, 0), (0, 0))], f_Count_recountRounds)]
theorem zH17 : z_ok zT17 := .c zM5 (.c zM18 (.c zM20 (.c zM21 (.c zM22 .n))))
theorem zF17_5 : z_F zT17 5 = f_Count_dropWithdrawn := id rfl
theorem zF17_18 : z_F zT17 18 = f_Count_tallyBallots := id rfl
theorem zF17_20 : z_F zT17 20 = f_Count_tallied := id rfl
theorem zF17_21 : z_F zT17 21 = f_Count_recountDuels := id rfl
theorem zF17_22 : z_F zT17 22 = f_Count_recountRounds := id rfl
def zP17_0 : List ZO := [(7, [(5, 0)]), (5, [(1349, 0), (1, 0), (0, 0), (0, 0)]), (3, [(1, 0), (22, 0), (3, 0), (0, 114)]), (5, [(1349, 0), (1, 0), (0, 0), (0, 0)]), (3, [(0, 0), (10, 0), (4, 0), (0, 109)]), (7, [(18, 0), (1, 0), (0, 0)]), (5, [(1349, 0), (1, 0), (0, 0), (0, 0)]), (3, [(1, 0), (2, 0), (6, 0), (0, 99)]), (7, [(20, 0)]), (0, [(7, 0)]), (7, [(21, 0)]), (3, [(1, 0), (1, 0), (7, 0), (0, (-1))]), (0, [(7, 0)]), (7, [(20, 0)]), (0, [(8, 0)]), (7, [(18, 0), (1, 0), (0, 1)]), (5, [(1349, 0), (1, 0), (0, 0), (0, 0)]), (3, [(1, 0), (2, 0), (6, 0), (0, 99)]), (7, [(20, 0)]), (0, [(7, 0)]), (7, [(21, 0)]), (3, [(1, 0), (1, 0), (7, 0), (0, (-1))]), (0, [(7, 0)]), (7, [(20, 0)]), (0, [(8, 0)]), (7, [(22, 0), (1, 0)]), (0, [(4, 0)])]
def zC17 : ZC := [(0, 1, [some (37, (0, 0), (0, 0)), some (4, (0, 0), (0, 0)), some (23, (1, 0), (0, 0)), none])]
theorem zG17 : z_go zC17 (z_A zT17) [] 17 400 true 28 zP17_0 0 [some (37, (0, 0), (0, 0)), some (4, (0, 0), (0, 0)), some (23, (1, 0), (0, 0)), none] [] 1 = true := by decide +kernel
noncomputable def f_Count_recount : ZFn := fun L S => match L with
  | [x1] => (e_bind (f_Count_dropWithdrawn [] S) (fun v1 S1 => (bif !decide ((S1 r_Section_rule x1 0 0) = 114) then (bif decide ((S1 r_Section_rule x1 0 0) = 109) then (e_bind (f_Count_tallyBallots [x1, 0] S1) (fun v2 S2 => (bif !decide ((S2 r_Section_rule x1 0 0) = 99) then (e_bind (f_Count_tallied [] S2) (fun v3 S3 => ((0, [v3]), S3))) else (e_bind (f_Count_recountDuels [] S2) (fun v4 S4 => (bif !decide (v4 = (-1)) then ((0, [v4]), S4) else (e_bind (f_Count_tallied [] S4) (fun v5 S5 => ((0, [v5]), S5))))))))) else (e_bind (f_Count_tallyBallots [x1, 1] S1) (fun v6 S6 => (bif !decide ((S6 r_Section_rule x1 0 0) = 99) then (e_bind (f_Count_tallied [] S6) (fun v7 S7 => ((0, [v7]), S7))) else (e_bind (f_Count_recountDuels [] S6) (fun v8 S8 => (bif !decide (v8 = (-1)) then ((0, [v8]), S8) else (e_bind (f_Count_tallied [] S8) (fun v9 S9 => ((0, [v9]), S9)))))))))) else (e_bind (f_Count_recountRounds [x1] S1) (fun v10 S10 => ((0, [v10]), S10))))))
  | _ => ((0, []), S)
theorem zE17 {x1 : Int} {S : ZS} : z_ev (z_F zT17) 28 zP17_0 [x1] S = f_Count_recount [x1] S := by
  simp -implicitDefEqProofs only [zP17_0, zF17_5, zF17_18, zF17_20, zF17_21, zF17_22, Nat.zero_add, Nat.reduceAdd, Nat.reduceBEq, Int.reduceToNat, z_e0, z_e1, z_e2, z_e3, z_e4, z_e5, z_e6, z_e7, z_e8, z_e11, z_e13, o_v0, o_v1, o_v2, List.cons_append, List.nil_append, List.map_cons, List.map_nil, List.drop_succ_cons, List.drop_zero, List.take_succ_cons, List.take_zero, e_c0, e_c1, e_c2, e_c3, e_c4, e_c5, e_b0, e_b1, e_b2, e_b3, e_b4, e_b5, e_b6, e_b7, e_b8, e_b9, e_b10, e_b11, e_b12, e_b13, e_b14, e_b15, e_b16, e_b17, e_n0, e_bnd, e_un]
  try rfl
theorem zM17 : z_met 17 1 [(37, (0, 0), (0, 0)), (4, (0, 0), (0, 0)), (23, (1, 0), (0, 0))] f_Count_recount := z_met_ev zH17 (fun _ _ h => absurd h List.not_mem_nil) rfl zG17 (by decide +kernel) (fun L S hn => match L, hn with
  | [x1], _ => zE17)
def zW17 : List Nat := [r_Count_isOut, r_Count_isOnBallot, r_Count_tally, r_Count_leads_r]
theorem zK17 : z_kp 1 zW17 f_Count_recount := z_kp_ev (KT := [(5, 0, zW5), (18, 2, zW18), (20, 0, zW20), (21, 0, zW21), (22, 1, zW22)]) (.c zF17_5 zK5 (.c zF17_18 zK18 (.c zF17_20 zK20 (.c zF17_21 zK21 (.c zF17_22 zK22 .n))))) (z_h163 rfl) (by decide +kernel) (fun L S hn => match L, hn with
  | [x1], _ => zE17)

-- x_areWinnersRight (161)
noncomputable def zT161 : ZT := [(4, 1, [(37, (0, 0), (0, 0)), (4, (0, 0), (0, 0)), (23, (1, 0), (0, 0))], f_Count_findWinner), (17, 1, [(37, (0, 0), (0, 0)), (4, (0, 0), (0, 0)), (23, (1, 0), (0, 0))], f_Count_recount)]
theorem zH161 : z_ok zT161 := .c zM4 (.c zM17 .n)
theorem zF161_4 : z_F zT161 4 = f_Count_findWinner := id rfl
theorem zF161_17 : z_F zT161 17 = f_Count_recount := id rfl
def zP161_0 : List ZO := [(2, [(2, 0), (0, 0)])]
def zP161_2 : List ZO := [(5, [(6, 0), (0, 0), (0, 0), (0, 0)]), (3, [(3, 0), (1, 0), (1, 0), (2, 0)]), (0, [(0, 1)]), (7, [(4, 0), (1, 0)]), (7, [(17, 0), (1, 0)]), (3, [(0, 0), (2, 0), (3, 0), (4, 0)]), (4, [(0, 0), (1, 0), (0, 1)]), (2, [(2, 0), (5, 0)]), (0, [(0, 0)])]
def zD161 : ZD := [(0, 0, [some (2, (0, 0), (0, 0)), none], 2, zP161_0), (2, 1, [some (2, (0, 0), (0, 0)), some (0, (1, 0), (0, 0))], 10, zP161_2)]
theorem zG161 : z_chk zT161 [] 161 zD161 = true := by decide +kernel
noncomputable def g_x_areWinnersRight (R : ZR) : ZR := z_psi (z_st (z_F zT161) zD161) R
noncomputable def f_x_areWinnersRight : ZFn := fun L S => g_x_areWinnersRight ((1000, L), S)
theorem zM161 : z_met 161 0 [(2, (0, 0), (0, 0))] f_x_areWinnersRight := z_met_psi zH161 (fun _ _ h => absurd h List.not_mem_nil) rfl zG161
theorem zE161_0 {S : ZS} : z_st (z_F zT161) zD161 0 [] S = ((1002, [0]), S) := (id rfl : z_st (z_F zT161) zD161 0 [] S = z_ev (z_F zT161) 2 zP161_0 [] S).trans (id rfl)
theorem g_x_areWinnersRight_0 {S : ZS} : g_x_areWinnersRight ((1000, []), S) = (g_x_areWinnersRight ((1002, [0]), S)) := by
  unfold g_x_areWinnersRight
  refine ((z_psi_go (pc := 0)).trans (congrArg _ zE161_0)).trans ?_
  try simp only [z_psi_c, z_psi_b, z_psi_n, Nat.reduceLT, decide_true]
theorem zE161_2 {x1 : Int} {S : ZS} : z_st (z_F zT161) zD161 2 [x1] S = (bif decide ((S r_x_sectionCount 0 0 0) ≤ x1) then ((0, [1]), S) else (e_bind (f_Count_findWinner [x1] S) (fun v1 S1 => (e_bind (f_Count_recount [x1] S1) (fun v2 S2 => (bif decide (v1 = v2) then ((1002, [(e_wr (x1 + 1))]), S2) else ((0, [0]), S2))))))) := (id rfl : z_st (z_F zT161) zD161 2 [x1] S = z_ev (z_F zT161) 10 zP161_2 [x1] S).trans (id rfl)
theorem g_x_areWinnersRight_2 {x1 : Int} {S : ZS} : g_x_areWinnersRight ((1002, [x1]), S) = (bif decide ((S r_x_sectionCount 0 0 0) ≤ x1) then ((0, [1]), S) else (e_bind (f_Count_findWinner [x1] S) (fun v1 S1 => (e_bind (f_Count_recount [x1] S1) (fun v2 S2 => (bif decide (v1 = v2) then (g_x_areWinnersRight ((1002, [(e_wr (x1 + 1))]), S2)) else ((0, [0]), S2))))))) := by
  unfold g_x_areWinnersRight
  refine ((z_psi_go (pc := 2)).trans (congrArg _ zE161_2)).trans ?_
  try simp only [z_psi_c, z_psi_b, z_psi_n, Nat.reduceLT, decide_true]
def zW161 : List Nat := [r_Count_isOut, r_Count_isOnBallot, r_Count_tally, r_Count_leads_r]
theorem zK161 : z_kp 0 zW161 f_x_areWinnersRight := fun L S hL hc r i j k hr => z_psi_kp (KT := [(4, 1, zW4), (17, 1, zW17)]) (F := z_F zT161) (W := zW161) (D := zD161) (.c zF161_4 zK4 (.c zF161_17 zK17 .n)) (z_h163 rfl) (by decide +kernel) _ hc r i j k hr

-- Rights_keepApart (74)
def zT74 : ZT := [(71, 5, [(43, (0, 0), (0, 0)), (0, (1, 0), (0, 0)), (0, (2, 0), (0, 0)), (0, (3, 0), (0, 0)), (0, (4, 0), (0, 0)), (0, (5, 0), (0, 0))], f_Rights_isOver)]
theorem zH74 : z_ok zT74 := .c zM71 .n
theorem zF74_71 : z_F zT74 71 = f_Rights_isOver := id rfl
def zP74_0 : List ZO := [(2, [(2, 0), (0, 0)])]
def zP74_2 : List ZO := [(5, [(2629, 0), (0, 0), (0, 0), (0, 0)]), (3, [(3, 0), (1, 0), (1, 0), (2, 0)]), (0, [(0, 1)]), (2, [(12, 0), (1, 0), (0, 0)])]
def zP74_12 : List ZO := [(3, [(3, 0), (2, 0), (2, 0), (1, 0)]), (4, [(0, 0), (1, 0), (0, 1)]), (2, [(2, 0), (3, 0)]), (5, [(2688, 0), (0, 0), (0, 0), (1, 0)]), (5, [(2752, 0), (0, 0), (0, 0), (1, 0)]), (5, [(2816, 0), (0, 0), (0, 0), (1, 0)]), (5, [(2880, 0), (0, 0), (0, 0), (1, 0)]), (7, [(71, 0), (2, 0), (3, 0), (4, 0), (5, 0), (6, 0)]), (3, [(0, 0), (2, 0), (7, 0), (0, 0)]), (4, [(0, 0), (2, 0), (0, 1)]), (2, [(12, 0), (1, 0), (8, 0)]), (0, [(0, 0)])]
def zD74 : ZD := [(0, 0, [some (43, (0, 0), (0, 0)), none, none], 2, zP74_0), (2, 1, [some (43, (0, 0), (0, 0)), some (0, (1, 0), (0, 0)), none], 5, zP74_2), (12, 2, [some (43, (0, 0), (0, 0)), some (0, (1, 0), (0, 0)), some (0, (2, 0), (0, 0))], 13, zP74_12)]
theorem zG74 : z_chk zT74 [] 74 zD74 = true := by decide +kernel
noncomputable def g_Rights_keepApart (R : ZR) : ZR := z_psi (z_st (z_F zT74) zD74) R
noncomputable def f_Rights_keepApart : ZFn := fun L S => g_Rights_keepApart ((1000, L), S)
theorem zM74 : z_met 74 0 [(43, (0, 0), (0, 0))] f_Rights_keepApart := z_met_psi zH74 (fun _ _ h => absurd h List.not_mem_nil) rfl zG74
theorem zE74_0 {S : ZS} : z_st (z_F zT74) zD74 0 [] S = ((1002, [0]), S) := (id rfl : z_st (z_F zT74) zD74 0 [] S = z_ev (z_F zT74) 2 zP74_0 [] S).trans (id rfl)
theorem g_Rights_keepApart_0 {S : ZS} : g_Rights_keepApart ((1000, []), S) = (g_Rights_keepApart ((1002, [0]), S)) := by
  unfold g_Rights_keepApart
  refine ((z_psi_go (pc := 0)).trans (congrArg _ zE74_0)).trans ?_
  try simp only [z_psi_c, z_psi_b, z_psi_n, Nat.reduceLT, decide_true]
theorem zE74_2 {x1 : Int} {S : ZS} : z_st (z_F zT74) zD74 2 [x1] S = (bif decide ((S r_Rights_dealCount 0 0 0) ≤ x1) then ((0, [1]), S) else ((1012, [x1, 0]), S)) := (id rfl : z_st (z_F zT74) zD74 2 [x1] S = z_ev (z_F zT74) 5 zP74_2 [x1] S).trans (id rfl)
theorem g_Rights_keepApart_2 {x1 : Int} {S : ZS} : g_Rights_keepApart ((1002, [x1]), S) = (bif decide ((S r_Rights_dealCount 0 0 0) ≤ x1) then ((0, [1]), S) else (g_Rights_keepApart ((1012, [x1, 0]), S))) := by
  unfold g_Rights_keepApart
  refine ((z_psi_go (pc := 2)).trans (congrArg _ zE74_2)).trans ?_
  try simp only [z_psi_c, z_psi_b, z_psi_n, Nat.reduceLT, decide_true]
theorem zE74_12 {x1 x2 : Int} {S : ZS} : z_st (z_F zT74) zD74 12 [x1, x2] S = (bif decide (x1 ≤ x2) then ((1002, [(e_wr (x1 + 1))]), S) else (bif decide ((v_Rights_isOver x2 (S r_Rights_soldFilms 0 0 x1) (S r_Rights_lands 0 0 x1) (S r_Rights_firstMonths 0 0 x1) (S r_Rights_lastMonths 0 0 x1) S) = 0) then ((1012, [x1, (e_wr (x2 + 1))]), S) else ((0, [0]), S))) := (id rfl : z_st (z_F zT74) zD74 12 [x1, x2] S = z_ev (z_F zT74) 13 zP74_12 [x1, x2] S).trans (id rfl)
theorem g_Rights_keepApart_12 {x1 x2 : Int} {S : ZS} : g_Rights_keepApart ((1012, [x1, x2]), S) = (bif decide (x1 ≤ x2) then (g_Rights_keepApart ((1002, [(e_wr (x1 + 1))]), S)) else (bif decide ((v_Rights_isOver x2 (S r_Rights_soldFilms 0 0 x1) (S r_Rights_lands 0 0 x1) (S r_Rights_firstMonths 0 0 x1) (S r_Rights_lastMonths 0 0 x1) S) = 0) then (g_Rights_keepApart ((1012, [x1, (e_wr (x2 + 1))]), S)) else ((0, [0]), S))) := by
  unfold g_Rights_keepApart
  refine ((z_psi_go (pc := 12)).trans (congrArg _ zE74_12)).trans ?_
  try simp only [z_psi_c, z_psi_b, z_psi_n, Nat.reduceLT, decide_true]
def zW74 : List Nat := []
theorem zK74 : z_kp 0 zW74 f_Rights_keepApart := fun L S hL hc r i j k hr => z_psi_kp (KT := [(71, 5, zW71)]) (F := z_F zT74) (W := zW74) (D := zD74) (.c zF74_71 zK71 .n) (z_h163 rfl) (by decide +kernel) _ hc r i j k hr

-- x_isSound (137)
noncomputable def zT137 : ZT := [(48, 0, [(3, (0, 0), (0, 0))], f_Grid_keepsApart), (50, 1, [(3, (0, 0), (0, 0)), (0, (1, 0), (0, 0))], f_Grid_keepsSeats), (74, 0, [(43, (0, 0), (0, 0))], f_Rights_keepApart), (160, 0, [(2, (0, 0), (0, 0))], f_x_areSectionsKept), (161, 0, [(2, (0, 0), (0, 0))], f_x_areWinnersRight)]
theorem zH137 : z_ok zT137 := .c zM48 (.c zM50 (.c zM74 (.c zM160 (.c zM161 .n))))
theorem zF137_48 : z_F zT137 48 = f_Grid_keepsApart := id rfl
theorem zF137_50 : z_F zT137 50 = f_Grid_keepsSeats := id rfl
theorem zF137_74 : z_F zT137 74 = f_Rights_keepApart := id rfl
theorem zF137_160 : z_F zT137 160 = f_x_areSectionsKept := id rfl
theorem zF137_161 : z_F zT137 161 = f_x_areWinnersRight := id rfl
def zP137_0 : List ZO := [(7, [(48, 0)]), (3, [(0, 0), (1, 0), (1, 0), (0, 0)]), (0, [(0, 0)]), (5, [(2113, 0), (0, 0), (0, 0), (0, 0)]), (7, [(50, 0), (2, 0)]), (3, [(0, 0), (1, 0), (3, 0), (0, 0)]), (0, [(0, 0)]), (7, [(160, 0)]), (3, [(0, 0), (1, 0), (4, 0), (0, 0)]), (0, [(0, 0)]), (7, [(161, 0)]), (3, [(0, 0), (1, 0), (5, 0), (0, 0)]), (0, [(0, 0)]), (7, [(74, 0)]), (3, [(0, 0), (1, 0), (6, 0), (0, 0)]), (0, [(0, 0)]), (0, [(0, 1)])]
def zC137 : ZC := [(0, 0, [some (2, (0, 0), (0, 0))])]
theorem zG137 : z_go zC137 (z_A zT137) [] 137 400 true 18 zP137_0 0 [some (2, (0, 0), (0, 0))] [] 0 = true := by decide +kernel
noncomputable def f_x_isSound : ZFn := fun L S => match L with
  | [] => (e_bind (f_Grid_keepsApart [] S) (fun v1 S1 => (bif decide (v1 = 0) then ((0, [0]), S1) else (e_bind (f_Grid_keepsSeats [(S1 r_Passes_passCount 0 0 0)] S1) (fun v2 S2 => (bif decide (v2 = 0) then ((0, [0]), S2) else (e_bind (f_x_areSectionsKept [] S2) (fun v3 S3 => (bif decide (v3 = 0) then ((0, [0]), S3) else (e_bind (f_x_areWinnersRight [] S3) (fun v4 S4 => (bif decide (v4 = 0) then ((0, [0]), S4) else (e_bind (f_Rights_keepApart [] S4) (fun v5 S5 => (bif decide (v5 = 0) then ((0, [0]), S5) else ((0, [1]), S5))))))))))))))))
  | _ => ((0, []), S)
theorem zE137 {S : ZS} : z_ev (z_F zT137) 18 zP137_0 [] S = f_x_isSound [] S := by
  simp -implicitDefEqProofs only [zP137_0, zF137_48, zF137_50, zF137_74, zF137_160, zF137_161, Nat.zero_add, Nat.reduceAdd, Nat.reduceBEq, Int.reduceToNat, z_e0, z_e1, z_e2, z_e3, z_e4, z_e5, z_e6, z_e7, z_e8, z_e11, z_e13, o_v0, o_v1, o_v2, List.cons_append, List.nil_append, List.map_cons, List.map_nil, List.drop_succ_cons, List.drop_zero, List.take_succ_cons, List.take_zero, e_c0, e_c1, e_c2, e_c3, e_c4, e_c5, e_b0, e_b1, e_b2, e_b3, e_b4, e_b5, e_b6, e_b7, e_b8, e_b9, e_b10, e_b11, e_b12, e_b13, e_b14, e_b15, e_b16, e_b17, e_n0, e_bnd, e_un]
  try rfl
theorem zM137 : z_met 137 0 [(2, (0, 0), (0, 0))] f_x_isSound := z_met_ev zH137 (fun _ _ h => absurd h List.not_mem_nil) rfl zG137 (by decide +kernel) (fun L S hn => match L, hn with
  | [], _ => zE137)
def zW137 : List Nat := [r_Count_isOut, r_Count_isOnBallot, r_Count_tally, r_Count_leads_r]
theorem zK137 : z_kp 0 zW137 f_x_isSound := z_kp_ev (KT := [(48, 0, zW48), (50, 1, zW50), (74, 0, zW74), (160, 0, zW160), (161, 0, zW161)]) (.c zF137_48 zK48 (.c zF137_50 zK50 (.c zF137_74 zK74 (.c zF137_160 zK160 (.c zF137_161 zK161 .n))))) (z_h163 rfl) (by decide +kernel) (fun L S hn => match L, hn with
  | [], _ => zE137)

-- m_isSound (255)
def zT255 : ZT := []
theorem zH255 : z_ok zT255 := .n
def zP255_0 : List ZO := [(6, [(3255, 0), (0, 0), (0, 0), (0, 0), (0, 0), (0, 0)]), (0, [(0, 1)])]
def zC255 : ZC := [(0, 0, [some (52, (0, 0), (0, 0))])]
theorem zG255 : z_go zC255 (z_A zT255) [] 255 400 true 3 zP255_0 0 [some (52, (0, 0), (0, 0))] [] 0 = true := by decide +kernel
def f_m_isSound : ZFn := fun L S => match L with
  | [] => ((0, [1]), (e_upd S r_m_thrown 0 0 0 0))
  | _ => ((0, []), S)
theorem zE255 {S : ZS} : z_ev (z_F zT255) 3 zP255_0 [] S = f_m_isSound [] S := id rfl
theorem zM255 : z_met 255 0 [(52, (0, 0), (0, 0))] f_m_isSound := z_met_ev zH255 (fun _ _ h => absurd h List.not_mem_nil) rfl zG255 (by decide +kernel) (fun L S hn => match L, hn with
  | [], _ => zE255)
def zW255 : List Nat := [r_m_thrown]
theorem zK255 : z_kp 0 zW255 f_m_isSound := z_kp_ev (KT := []) (.n) (z_h163 rfl) (by decide +kernel) (fun L S hn => match L, hn with
  | [], _ => zE255)
