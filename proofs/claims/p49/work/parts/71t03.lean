/-! What the methods do, by program (wip/s/sgen.py), 3 -/
-- m_isNoSection (186)
def zT186 : ZT := [(164, 3, [(0, (1, 0), (0, 0)), (0, (2, 0), (0, 0)), (0, (3, 0), (0, 0))], f_m_isIn)]
theorem zH186 : z_ok zT186 := .c zM164 .n
theorem zF186_164 : z_F zT186 164 = f_m_isIn := id rfl
def zP186_0 : List ZO := [(5, [(3246, 0), (0, 0), (0, 0), (0, 0)]), (4, [(1, 0), (2, 0), (0, 1)]), (7, [(164, 0), (1, 0), (0, 0), (3, 0)]), (3, [(1, 0), (1, 0), (4, 0), (0, 0)]), (0, [(0, 0)]), (0, [(0, 1)])]
def zC186 : ZC := [(0, 1, [some (52, (0, 0), (0, 0)), some (0, (1, 0), (0, 0))])]
theorem zG186 : z_go zC186 (z_A zT186) [] 186 400 true 7 zP186_0 0 [some (52, (0, 0), (0, 0)), some (0, (1, 0), (0, 0))] [] 1 = true := by decide +kernel
def v_m_isNoSection (x1 : Int) (S : ZS) : Int := (bif !decide ((v_m_isIn x1 0 (e_wr ((S r_m_sectionMany 0 0 0) - 1)) S) = 0) then 0 else 1)
def f_m_isNoSection : ZFn := fun L S => match L with
  | [x1] => ((0, [v_m_isNoSection x1 S]), S)
  | _ => ((0, []), S)
theorem pF_m_isNoSection {x1 : Int} {S : ZS} : f_m_isNoSection [x1] S = ((0, [v_m_isNoSection x1 S]), S) := id rfl
theorem zE186a {x1 : Int} {S : ZS} : z_ev (z_F zT186) 7 zP186_0 [x1] S = (bif !decide ((v_m_isIn x1 0 (e_wr ((S r_m_sectionMany 0 0 0) - 1)) S) = 0) then ((0, [0]), S) else ((0, [1]), S)) := id rfl
theorem zE186 {x1 : Int} {S : ZS} : z_ev (z_F zT186) 7 zP186_0 [x1] S = f_m_isNoSection [x1] S := zE186a.trans (by
  simp only [z_cv]
  rfl)
theorem zM186 : z_met 186 1 [(52, (0, 0), (0, 0)), (0, (1, 0), (0, 0))] f_m_isNoSection := z_met_ev zH186 (fun _ _ h => absurd h List.not_mem_nil) rfl zG186 (by decide +kernel) (fun L S hn => match L, hn with
  | [x1], _ => zE186)
def zW186 : List Nat := []
theorem zK186 : z_kp 1 zW186 f_m_isNoSection := z_kp_ev (KT := [(164, 3, zW164)]) (.c zF186_164 zK164 .n) (z_h163 rfl) (by decide +kernel) (fun L S hn => match L, hn with
  | [x1], _ => zE186)

-- m_filmsOf (188)
def zT188 : ZT := []
theorem zH188 : z_ok zT188 := .n
def zP188_0 : List ZO := [(2, [(4, 0), (1, 0), (0, 0), (0, 0)])]
def zP188_4 : List ZO := [(5, [(3244, 0), (0, 0), (0, 0), (0, 0)]), (3, [(3, 0), (1, 0), (3, 0), (4, 0)]), (0, [(2, 0)]), (5, [(3520, 0), (0, 0), (0, 0), (3, 0)]), (3, [(1, 0), (3, 0), (5, 0), (1, 0)]), (4, [(0, 0), (2, 0), (0, 0)]), (4, [(0, 0), (3, 0), (0, 1)]), (2, [(4, 0), (1, 0), (6, 0), (7, 0)]), (4, [(0, 0), (2, 0), (0, 1)]), (4, [(0, 0), (3, 0), (0, 1)]), (2, [(4, 0), (1, 0), (6, 0), (7, 0)])]
def zD188 : ZD := [(0, 1, [some (52, (0, 0), (0, 0)), some (0, (1, 0), (0, 0)), none, none], 2, zP188_0), (4, 3, [some (52, (0, 0), (0, 0)), some (0, (1, 0), (0, 0)), some (0, (2, 0), (0, 0)), some (0, (3, 0), (0, 0))], 12, zP188_4)]
theorem zG188 : z_chk zT188 [] 188 zD188 = true := by decide +kernel
noncomputable def g_m_filmsOf (R : ZR) : ZR := z_psi (z_st (z_F zT188) zD188) R
noncomputable def f_m_filmsOf : ZFn := fun L S => g_m_filmsOf ((1000, L), S)
theorem zM188 : z_met 188 1 [(52, (0, 0), (0, 0)), (0, (1, 0), (0, 0))] f_m_filmsOf := z_met_psi zH188 (fun _ _ h => absurd h List.not_mem_nil) rfl zG188
theorem zE188_0 {x1 : Int} {S : ZS} : z_st (z_F zT188) zD188 0 [x1] S = ((1004, [x1, 0, 0]), S) := (id rfl : z_st (z_F zT188) zD188 0 [x1] S = z_ev (z_F zT188) 2 zP188_0 [x1] S).trans (id rfl)
theorem g_m_filmsOf_0 {x1 : Int} {S : ZS} : g_m_filmsOf ((1000, [x1]), S) = (g_m_filmsOf ((1004, [x1, 0, 0]), S)) := by
  unfold g_m_filmsOf
  refine ((z_psi_go (pc := 0)).trans (congrArg _ zE188_0)).trans ?_
  try simp only [z_psi_c, z_psi_b, z_psi_n, Nat.reduceLT, decide_true]
theorem zE188_4 {x1 x2 x3 : Int} {S : ZS} : z_st (z_F zT188) zD188 4 [x1, x2, x3] S = (bif decide ((S r_m_films 0 0 0) ≤ x3) then ((0, [x2]), S) else (bif !decide ((S r_m_sections 0 0 x3) = x1) then ((1004, [x1, (e_wr (x2 + 0)), (e_wr (x3 + 1))]), S) else ((1004, [x1, (e_wr (x2 + 1)), (e_wr (x3 + 1))]), S))) := (id rfl : z_st (z_F zT188) zD188 4 [x1, x2, x3] S = z_ev (z_F zT188) 12 zP188_4 [x1, x2, x3] S).trans (id rfl)
theorem g_m_filmsOf_4 {x1 x2 x3 : Int} {S : ZS} : g_m_filmsOf ((1004, [x1, x2, x3]), S) = (bif decide ((S r_m_films 0 0 0) ≤ x3) then ((0, [x2]), S) else (bif !decide ((S r_m_sections 0 0 x3) = x1) then (g_m_filmsOf ((1004, [x1, (e_wr (x2 + 0)), (e_wr (x3 + 1))]), S)) else (g_m_filmsOf ((1004, [x1, (e_wr (x2 + 1)), (e_wr (x3 + 1))]), S)))) := by
  unfold g_m_filmsOf
  refine ((z_psi_go (pc := 4)).trans (congrArg _ zE188_4)).trans ?_
  try simp only [z_psi_c, z_psi_b, z_psi_n, Nat.reduceLT, decide_true]
def zW188 : List Nat := []
theorem zK188 : z_kp 1 zW188 f_m_filmsOf := fun L S hL hc r i j k hr => z_psi_kp (KT := []) (F := z_F zT188) (W := zW188) (D := zD188) (.n) (z_h163 rfl) (by decide +kernel) _ hc r i j k hr

-- m_minutesOf (187)
def zT187 : ZT := []
theorem zH187 : z_ok zT187 := .n
def zP187_0 : List ZO := [(2, [(4, 0), (1, 0), (0, 0), (0, 0)])]
def zP187_4 : List ZO := [(5, [(3244, 0), (0, 0), (0, 0), (0, 0)]), (3, [(3, 0), (1, 0), (3, 0), (4, 0)]), (0, [(2, 0)]), (5, [(3520, 0), (0, 0), (0, 0), (3, 0)]), (3, [(1, 0), (3, 0), (5, 0), (1, 0)]), (4, [(0, 0), (2, 0), (0, 0)]), (4, [(0, 0), (3, 0), (0, 1)]), (2, [(4, 0), (1, 0), (6, 0), (7, 0)]), (5, [(3328, 0), (0, 0), (0, 0), (3, 0)]), (4, [(0, 0), (2, 0), (6, 0)]), (4, [(0, 0), (3, 0), (0, 1)]), (2, [(4, 0), (1, 0), (7, 0), (8, 0)])]
def zD187 : ZD := [(0, 1, [some (52, (0, 0), (0, 0)), some (0, (1, 0), (0, 0)), none, none], 2, zP187_0), (4, 3, [some (52, (0, 0), (0, 0)), some (0, (1, 0), (0, 0)), some (0, (2, 0), (0, 0)), some (0, (3, 0), (0, 0))], 13, zP187_4)]
theorem zG187 : z_chk zT187 [] 187 zD187 = true := by decide +kernel
noncomputable def g_m_minutesOf (R : ZR) : ZR := z_psi (z_st (z_F zT187) zD187) R
noncomputable def f_m_minutesOf : ZFn := fun L S => g_m_minutesOf ((1000, L), S)
theorem zM187 : z_met 187 1 [(52, (0, 0), (0, 0)), (0, (1, 0), (0, 0))] f_m_minutesOf := z_met_psi zH187 (fun _ _ h => absurd h List.not_mem_nil) rfl zG187
theorem zE187_0 {x1 : Int} {S : ZS} : z_st (z_F zT187) zD187 0 [x1] S = ((1004, [x1, 0, 0]), S) := (id rfl : z_st (z_F zT187) zD187 0 [x1] S = z_ev (z_F zT187) 2 zP187_0 [x1] S).trans (id rfl)
theorem g_m_minutesOf_0 {x1 : Int} {S : ZS} : g_m_minutesOf ((1000, [x1]), S) = (g_m_minutesOf ((1004, [x1, 0, 0]), S)) := by
  unfold g_m_minutesOf
  refine ((z_psi_go (pc := 0)).trans (congrArg _ zE187_0)).trans ?_
  try simp only [z_psi_c, z_psi_b, z_psi_n, Nat.reduceLT, decide_true]
theorem zE187_4 {x1 x2 x3 : Int} {S : ZS} : z_st (z_F zT187) zD187 4 [x1, x2, x3] S = (bif decide ((S r_m_films 0 0 0) ≤ x3) then ((0, [x2]), S) else (bif !decide ((S r_m_sections 0 0 x3) = x1) then ((1004, [x1, (e_wr (x2 + 0)), (e_wr (x3 + 1))]), S) else ((1004, [x1, (e_wr (x2 + (S r_m_minutes 0 0 x3))), (e_wr (x3 + 1))]), S))) := (id rfl : z_st (z_F zT187) zD187 4 [x1, x2, x3] S = z_ev (z_F zT187) 13 zP187_4 [x1, x2, x3] S).trans (id rfl)
theorem g_m_minutesOf_4 {x1 x2 x3 : Int} {S : ZS} : g_m_minutesOf ((1004, [x1, x2, x3]), S) = (bif decide ((S r_m_films 0 0 0) ≤ x3) then ((0, [x2]), S) else (bif !decide ((S r_m_sections 0 0 x3) = x1) then (g_m_minutesOf ((1004, [x1, (e_wr (x2 + 0)), (e_wr (x3 + 1))]), S)) else (g_m_minutesOf ((1004, [x1, (e_wr (x2 + (S r_m_minutes 0 0 x3))), (e_wr (x3 + 1))]), S)))) := by
  unfold g_m_minutesOf
  refine ((z_psi_go (pc := 4)).trans (congrArg _ zE187_4)).trans ?_
  try simp only [z_psi_c, z_psi_b, z_psi_n, Nat.reduceLT, decide_true]
def zW187 : List Nat := []
theorem zK187 : z_kp 1 zW187 f_m_minutesOf := fun L S hL hc r i j k hr => z_psi_kp (KT := []) (F := z_F zT187) (W := zW187) (D := zD187) (.n) (z_h163 rfl) (by decide +kernel) _ hc r i j k hr

-- m_mayChoose (189)
noncomputable def zT189 : ZT := [(178, 1, [(52, (0, 0), (0, 0)), (0, (1, 0), (0, 0))], f_m_scoreOf), (180, 1, [(52, (0, 0), (0, 0)), (0, (1, 0), (0, 0))], f_m_isQuarrel), (187, 1, [(52, (0, 0), (0, 0)), (0, (1, 0), (0, 0))], f_m_minutesOf), (188, 1, [(52, (0, 0), (0, 0)), (0, (1, 0), (0, 0))], f_m_filmsOf)]
theorem zH189 : z_ok zT189 := .c zM178 (.c zM180 (.c zM187 (.c zM188 .n)))
theorem zF189_178 : z_F zT189 178 = f_m_scoreOf := id rfl
theorem zF189_180 : z_F zT189 180 = f_m_isQuarrel := id rfl
theorem zF189_187 : z_F zT189 187 = f_m_minutesOf := id rfl
theorem zF189_188 : z_F zT189 188 = f_m_filmsOf := id rfl
def zP189_0 : List ZO := [(5, [(4416, 0), (0, 0), (0, 0), (1, 0)]), (3, [(0, 0), (28, 0), (3, 0), (0, 45)]), (5, [(3520, 0), (0, 0), (0, 0), (2, 0)]), (3, [(3, 0), (1, 0), (4, 0), (0, 0)]), (0, [(0, 0)]), (5, [(3648, 0), (0, 0), (0, 0), (2, 0)]), (3, [(1, 0), (1, 0), (5, 0), (0, 0)]), (0, [(0, 0)]), (7, [(180, 0), (2, 0)]), (3, [(1, 0), (1, 0), (6, 0), (0, 0)]), (0, [(0, 0)]), (7, [(178, 0), (2, 0)]), (5, [(4352, 0), (0, 0), (0, 0), (1, 0)]), (3, [(2, 0), (1, 0), (7, 0), (8, 0)]), (0, [(0, 0)]), (5, [(3456, 0), (0, 0), (0, 0), (2, 0)]), (5, [(4480, 0), (0, 0), (0, 0), (1, 0)]), (3, [(2, 0), (1, 0), (9, 0), (10, 0)]), (0, [(0, 0)]), (7, [(188, 0), (1, 0)]), (5, [(4224, 0), (0, 0), (0, 0), (1, 0)]), (3, [(3, 0), (1, 0), (11, 0), (12, 0)]), (0, [(0, 0)]), (7, [(187, 0), (1, 0)]), (5, [(3328, 0), (0, 0), (0, 0), (2, 0)]), (4, [(0, 0), (13, 0), (14, 0)]), (5, [(4288, 0), (0, 0), (0, 0), (1, 0)]), (3, [(4, 0), (1, 0), (15, 0), (16, 0)]), (0, [(0, 0)]), (0, [(0, 1)]), (5, [(4416, 0), (0, 0), (0, 0), (1, 0)]), (5, [(3264, 0), (0, 0), (0, 0), (2, 0)]), (3, [(1, 0), (10, 0), (4, 0), (5, 0)]), (5, [(3520, 0), (0, 0), (0, 0), (2, 0)]), (3, [(3, 0), (1, 0), (6, 0), (0, 0)]), (0, [(0, 0)]), (5, [(3648, 0), (0, 0), (0, 0), (2, 0)]), (3, [(1, 0), (1, 0), (7, 0), (0, 0)]), (0, [(0, 0)]), (7, [(180, 0), (2, 0)]), (3, [(1, 0), (1, 0), (8, 0), (0, 0)]), (0, [(0, 0)]), (0, [(0, 0)]), (5, [(3520, 0), (0, 0), (0, 0), (2, 0)]), (3, [(3, 0), (1, 0), (6, 0), (0, 0)]), (0, [(0, 0)]), (5, [(3648, 0), (0, 0), (0, 0), (2, 0)]), (3, [(1, 0), (1, 0), (7, 0), (0, 0)]), (0, [(0, 0)]), (7, [(180, 0), (2, 0)]), (3, [(1, 0), (1, 0), (8, 0), (0, 0)]), (0, [(0, 0)]), (7, [(178, 0), (2, 0)]), (5, [(4352, 0), (0, 0), (0, 0), (1, 0)]), (3, [(2, 0), (1, 0), (9, 0), (10, 0)]), (0, [(0, 0)]), (5, [(3456, 0), (0, 0), (0, 0), (2, 0)]), (5, [(4480, 0), (0, 0), (0, 0), (1, 0)]), (3, [(2, 0), (1, 0), (11, 0), (12, 0)]), (0, [(0, 0)]), (7, [(188, 0), (1, 0)]), (5, [(4224, 0), (0, 0), (0, 0), (1, 0)]), (3, [(3, 0), (1, 0), (13, 0), (14, 0)]), (0, [(0, 0)]), (7, [(187, 0), (1, 0)]), (5, [(3328, 0), (0, 0), (0, 0), (2, 0)]), (4, [(0, 0), (15, 0), (16, 0)]), (5, [(4288, 0), (0, 0), (0, 0), (1, 0)]), (3, [(4, 0), (1, 0), (17, 0), (18, 0)]), (0, [(0, 0)]), (0, [(0, 1)])]
def zC189 : ZC := [(0, 2, [some (52, (0, 0), (0, 0)), some (0, (1, 0), (0, 0)), some (0, (2, 0), (0, 0)), none, none])]
theorem zG189 : z_go zC189 (z_A zT189) [] 189 400 true 72 zP189_0 0 [some (52, (0, 0), (0, 0)), some (0, (1, 0), (0, 0)), some (0, (2, 0), (0, 0)), none, none] [] 2 = true := by decide +kernel
noncomputable def f_m_mayChoose : ZFn := fun L S => match L with
  | [x1, x2] => (bif decide ((S r_m_sectionForms 0 0 x1) = 45) then (bif decide (0 ≤ (S r_m_sections 0 0 x2)) then ((0, [0]), S) else (bif !decide ((S r_m_areWithdrawn 0 0 x2) = 0) then ((0, [0]), S) else (e_bind (f_m_isQuarrel [x2] S) (fun v1 S1 => (bif !decide (v1 = 0) then ((0, [0]), S1) else (e_bind (f_m_scoreOf [x2] S1) (fun v2 S2 => (bif decide (v2 < (S2 r_m_leasts 0 0 x1)) then ((0, [0]), S2) else (bif decide ((S2 r_m_still 0 0 x2) < (S2 r_m_premieres 0 0 x1)) then ((0, [0]), S2) else (e_bind (f_m_filmsOf [x1] S2) (fun v3 S3 => (bif decide ((S3 r_m_quotas 0 0 x1) ≤ v3) then ((0, [0]), S3) else (e_bind (f_m_minutesOf [x1] S3) (fun v4 S4 => (bif decide ((S4 r_m_budgets 0 0 x1) < (e_wr (v4 + (S4 r_m_minutes 0 0 x2)))) then ((0, [0]), S4) else ((0, [1]), S4)))))))))))))))) else (bif !decide ((S r_m_sectionForms 0 0 x1) = (S r_m_forms 0 0 x2)) then (bif decide (0 ≤ (S r_m_sections 0 0 x2)) then ((0, [0]), S) else (bif !decide ((S r_m_areWithdrawn 0 0 x2) = 0) then ((0, [0]), S) else (e_bind (f_m_isQuarrel [x2] S) (fun v5 S5 => (bif !decide (v5 = 0) then ((0, [0]), S5) else ((0, [0]), S5)))))) else (bif decide (0 ≤ (S r_m_sections 0 0 x2)) then ((0, [0]), S) else (bif !decide ((S r_m_areWithdrawn 0 0 x2) = 0) then ((0, [0]), S) else (e_bind (f_m_isQuarrel [x2] S) (fun v6 S6 => (bif !decide (v6 = 0) then ((0, [0]), S6) else (e_bind (f_m_scoreOf [x2] S6) (fun v7 S7 => (bif decide (v7 < (S7 r_m_leasts 0 0 x1)) then ((0, [0]), S7) else (bif decide ((S7 r_m_still 0 0 x2) < (S7 r_m_premieres 0 0 x1)) then ((0, [0]), S7) else (e_bind (f_m_filmsOf [x1] S7) (fun v8 S8 => (bif decide ((S8 r_m_quotas 0 0 x1) ≤ v8) then ((0, [0]), S8) else (e_bind (f_m_minutesOf [x1] S8) (fun v9 S9 => (bif decide ((S9 r_m_budgets 0 0 x1) < (e_wr (v9 + (S9 r_m_minutes 0 0 x2)))) then ((0, [0]), S9) else ((0, [1]), S9))))))))))))))))))
  | _ => ((0, []), S)
theorem zE189 {x1 x2 : Int} {S : ZS} : z_ev (z_F zT189) 72 zP189_0 [x1, x2] S = f_m_mayChoose [x1, x2] S := by
  simp -implicitDefEqProofs only [zP189_0, zF189_178, zF189_180, zF189_187, zF189_188, Nat.zero_add, Nat.reduceAdd, Nat.reduceBEq, Int.reduceToNat, z_e0, z_e1, z_e2, z_e3, z_e4, z_e5, z_e6, z_e7, z_e8, z_e11, z_e13, o_v0, o_v1, o_v2, List.cons_append, List.nil_append, List.map_cons, List.map_nil, List.drop_succ_cons, List.drop_zero, List.take_succ_cons, List.take_zero, e_c0, e_c1, e_c2, e_c3, e_c4, e_c5, e_b0, e_b1, e_b2, e_b3, e_b4, e_b5, e_b6, e_b7, e_b8, e_b9, e_b10, e_b11, e_b12, e_b13, e_b14, e_b15, e_b16, e_b17, e_n0, e_bnd, e_un]
  try rfl
theorem zM189 : z_met 189 2 [(52, (0, 0), (0, 0)), (0, (1, 0), (0, 0)), (0, (2, 0), (0, 0))] f_m_mayChoose := z_met_ev zH189 (fun _ _ h => absurd h List.not_mem_nil) rfl zG189 (by decide +kernel) (fun L S hn => match L, hn with
  | [x1, x2], _ => zE189)
def zW189 : List Nat := []
theorem zK189 : z_kp 2 zW189 f_m_mayChoose := z_kp_ev (KT := [(178, 1, zW178), (180, 1, zW180), (187, 1, zW187), (188, 1, zW188)]) (.c zF189_178 zK178 (.c zF189_180 zK180 (.c zF189_187 zK187 (.c zF189_188 zK188 .n)))) (z_h163 rfl) (by decide +kernel) (fun L S hn => match L, hn with
  | [x1, x2], _ => zE189)

-- m_writes (167)
def zT167 : ZT := []
theorem zH167 : z_ok zT167 := .n
def zP167_0 : List ZO := [(5, [(3253, 0), (0, 0), (0, 0), (0, 0)]), (3, [(1, 0), (8, 0), (3, 0), (0, 400)]), (5, [(3253, 0), (0, 0), (0, 0), (0, 0)]), (6, [(6784, 0), (2, 0), (0, 0), (0, 0), (4, 0), (1, 0)]), (5, [(3253, 0), (0, 0), (0, 0), (0, 0)]), (6, [(6848, 0), (0, 0), (0, 0), (0, 0), (5, 0), (2, 0)]), (5, [(3253, 0), (0, 0), (0, 0), (0, 0)]), (4, [(0, 0), (6, 0), (0, 1)]), (6, [(3253, 0), (0, 0), (0, 0), (0, 0), (0, 0), (7, 0)]), (0, []), (9, [(6784, 0), (0, 0), (0, 0), (0, 1), (6784, 0), (0, 0), (0, 0), (0, 0), (0, 399)]), (9, [(6848, 0), (0, 0), (0, 0), (0, 1), (6848, 0), (0, 0), (0, 0), (0, 0), (0, 399)]), (5, [(3253, 0), (0, 0), (0, 0), (0, 0)]), (4, [(1, 0), (4, 0), (0, 1)]), (6, [(3253, 0), (0, 0), (0, 0), (0, 0), (0, 0), (5, 0)]), (5, [(3253, 0), (0, 0), (0, 0), (0, 0)]), (6, [(6784, 0), (2, 0), (0, 0), (0, 0), (6, 0), (1, 0)]), (5, [(3253, 0), (0, 0), (0, 0), (0, 0)]), (6, [(6848, 0), (0, 0), (0, 0), (0, 0), (7, 0), (2, 0)]), (5, [(3253, 0), (0, 0), (0, 0), (0, 0)]), (4, [(0, 0), (8, 0), (0, 1)]), (6, [(3253, 0), (0, 0), (0, 0), (0, 0), (0, 0), (9, 0)]), (0, [])]
def zC167 : ZC := [(0, 2, [some (52, (0, 0), (0, 0)), some (0, (1, 0), (0, 0)), some (0, (2, 0), (0, 0))])]
theorem zG167 : z_go zC167 (z_A zT167) [] 167 400 true 24 zP167_0 0 [some (52, (0, 0), (0, 0)), some (0, (1, 0), (0, 0)), some (0, (2, 0), (0, 0))] [] 2 = true := by decide +kernel
def f_m_writes : ZFn := fun L S => match L with
  | [x1, x2] => (bif !decide ((S r_m_lineMany 0 0 0) = 400) then ((0, []), (e_upd (e_upd (e_upd S r_m_letters 0 0 (S r_m_lineMany 0 0 0) (e_nar 2 x1)) r_m_lineFilms 0 0 (S r_m_lineMany 0 0 0) x2) r_m_lineMany 0 0 0 (e_wr ((S r_m_lineMany 0 0 0) + 1)))) else ((0, []), (e_upd (e_upd (e_upd (e_upd (e_acp (e_acp S r_m_letters 0 0 1 r_m_letters 0 0 0 399) r_m_lineFilms 0 0 1 r_m_lineFilms 0 0 0 399) r_m_lineMany 0 0 0 (e_wr (((e_acp (e_acp S r_m_letters 0 0 1 r_m_letters 0 0 0 399) r_m_lineFilms 0 0 1 r_m_lineFilms 0 0 0 399) r_m_lineMany 0 0 0) - 1))) r_m_letters 0 0 ((e_upd (e_acp (e_acp S r_m_letters 0 0 1 r_m_letters 0 0 0 399) r_m_lineFilms 0 0 1 r_m_lineFilms 0 0 0 399) r_m_lineMany 0 0 0 (e_wr (((e_acp (e_acp S r_m_letters 0 0 1 r_m_letters 0 0 0 399) r_m_lineFilms 0 0 1 r_m_lineFilms 0 0 0 399) r_m_lineMany 0 0 0) - 1))) r_m_lineMany 0 0 0) (e_nar 2 x1)) r_m_lineFilms 0 0 ((e_upd (e_acp (e_acp S r_m_letters 0 0 1 r_m_letters 0 0 0 399) r_m_lineFilms 0 0 1 r_m_lineFilms 0 0 0 399) r_m_lineMany 0 0 0 (e_wr (((e_acp (e_acp S r_m_letters 0 0 1 r_m_letters 0 0 0 399) r_m_lineFilms 0 0 1 r_m_lineFilms 0 0 0 399) r_m_lineMany 0 0 0) - 1))) r_m_lineMany 0 0 0) x2) r_m_lineMany 0 0 0 (e_wr (((e_upd (e_acp (e_acp S r_m_letters 0 0 1 r_m_letters 0 0 0 399) r_m_lineFilms 0 0 1 r_m_lineFilms 0 0 0 399) r_m_lineMany 0 0 0 (e_wr (((e_acp (e_acp S r_m_letters 0 0 1 r_m_letters 0 0 0 399) r_m_lineFilms 0 0 1 r_m_lineFilms 0 0 0 399) r_m_lineMany 0 0 0) - 1))) r_m_lineMany 0 0 0) + 1)))))
  | _ => ((0, []), S)
theorem zE167 {x1 x2 : Int} {S : ZS} : z_ev (z_F zT167) 24 zP167_0 [x1, x2] S = f_m_writes [x1, x2] S := by
  simp -implicitDefEqProofs only [zP167_0, Nat.zero_add, Nat.reduceAdd, Nat.reduceBEq, Int.reduceToNat, z_e0, z_e1, z_e2, z_e3, z_e4, z_e5, z_e6, z_e7, z_e8, z_e11, z_e13, o_v0, o_v1, o_v2, List.cons_append, List.nil_append, List.map_cons, List.map_nil, List.drop_succ_cons, List.drop_zero, List.take_succ_cons, List.take_zero, e_c0, e_c1, e_c2, e_c3, e_c4, e_c5, e_b0, e_b1, e_b2, e_b3, e_b4, e_b5, e_b6, e_b7, e_b8, e_b9, e_b10, e_b11, e_b12, e_b13, e_b14, e_b15, e_b16, e_b17, e_n0, e_bnd, e_un]
  try rfl
theorem zM167 : z_met 167 2 [(52, (0, 0), (0, 0)), (0, (1, 0), (0, 0)), (0, (2, 0), (0, 0))] f_m_writes := z_met_ev zH167 (fun _ _ h => absurd h List.not_mem_nil) rfl zG167 (by decide +kernel) (fun L S hn => match L, hn with
  | [x1, x2], _ => zE167)
def zW167 : List Nat := [r_m_lineMany, r_m_letters, r_m_lineFilms]
theorem zK167 : z_kp 2 zW167 f_m_writes := z_kp_ev (KT := []) (.n) (z_h163 rfl) (by decide +kernel) (fun L S hn => match L, hn with
  | [x1, x2], _ => zE167)

-- m_choose (190)
noncomputable def zT190 : ZT := [(163, 2, [(52, (0, 0), (0, 0)), (0, (1, 0), (0, 0)), (0, (2, 0), (0, 0))], f_m_isThrown), (167, 2, [(52, (0, 0), (0, 0)), (0, (1, 0), (0, 0)), (0, (2, 0), (0, 0))], f_m_writes), (174, 1, [(52, (0, 0), (0, 0)), (0, (1, 0), (0, 0))], f_m_scoreMany), (178, 1, [(52, (0, 0), (0, 0)), (0, (1, 0), (0, 0))], f_m_scoreOf), (186, 1, [(52, (0, 0), (0, 0)), (0, (1, 0), (0, 0))], f_m_isNoSection), (189, 2, [(52, (0, 0), (0, 0)), (0, (1, 0), (0, 0)), (0, (2, 0), (0, 0))], f_m_mayChoose)]
theorem zH190 : z_ok zT190 := .c zM163 (.c zM167 (.c zM174 (.c zM178 (.c zM186 (.c zM189 .n)))))
theorem zF190_163 : z_F zT190 163 = f_m_isThrown := id rfl
theorem zF190_167 : z_F zT190 167 = f_m_writes := id rfl
theorem zF190_174 : z_F zT190 174 = f_m_scoreMany := id rfl
theorem zF190_178 : z_F zT190 178 = f_m_scoreOf := id rfl
theorem zF190_186 : z_F zT190 186 = f_m_isNoSection := id rfl
theorem zF190_189 : z_F zT190 189 = f_m_mayChoose := id rfl
def zP190_0 : List ZO := [(7, [(186, 0), (1, 0)]), (13, [(163, 0), (0, 0), (2, 0), (0, 1)]), (3, [(0, 0), (1, 0), (2, 0), (0, 0)]), (2, [(17, 0), (1, 0), (0, 0)]), (0, [(0, 0)])]
def zP190_17 : List ZO := [(5, [(3244, 0), (0, 0), (0, 0), (0, 0)]), (3, [(3, 0), (1, 0), (2, 0), (3, 0)]), (2, [(54, 0), (1, 0), (0, 0), (0, 0)]), (7, [(174, 0), (2, 0)]), (3, [(5, 0), (3, 0), (4, 0), (0, 0)]), (6, [(6912, 0), (1, 0), (0, 0), (0, 0), (2, 0), (0, 0)]), (4, [(0, 0), (2, 0), (0, 1)]), (2, [(17, 0), (1, 0), (5, 0)]), (6, [(6912, 0), (1, 0), (0, 0), (0, 0), (2, 0), (0, 1)]), (4, [(0, 0), (2, 0), (0, 1)]), (2, [(17, 0), (1, 0), (5, 0)])]
def zP190_54 : List ZO := [(3, [(2, 0), (1, 0), (3, 0), (0, 0)]), (0, [(2, 0)]), (2, [(63, 0), (1, 0), (2, 0), (0, (-1)), (0, 0)])]
def zP190_63 : List ZO := [(5, [(3244, 0), (0, 0), (0, 0), (0, 0)]), (3, [(3, 0), (12, 0), (4, 0), (5, 0)]), (3, [(2, 0), (1, 0), (3, 0), (0, 0)]), (2, [(54, 0), (1, 0), (2, 0), (3, 0)]), (6, [(6912, 0), (1, 0), (0, 0), (0, 0), (3, 0), (0, 0)]), (7, [(189, 0), (1, 0), (3, 0)]), (3, [(0, 0), (1, 0), (6, 0), (0, 0)]), (2, [(54, 0), (1, 0), (2, 0), (3, 0)]), (6, [(3520, 0), (0, 0), (0, 0), (0, 0), (3, 0), (1, 0)]), (5, [(4480, 0), (0, 0), (0, 0), (1, 0)]), (6, [(3584, 0), (0, 0), (0, 0), (0, 0), (3, 0), (7, 0)]), (7, [(167, 0), (0, 99), (3, 0)]), (4, [(0, 0), (2, 0), (0, 1)]), (2, [(54, 0), (1, 0), (9, 0), (3, 0)]), (5, [(6912, 0), (0, 0), (0, 0), (4, 0)]), (3, [(0, 0), (2, 0), (6, 0), (0, 0)]), (4, [(0, 0), (4, 0), (0, 1)]), (2, [(63, 0), (1, 0), (2, 0), (3, 0), (7, 0)]), (3, [(2, 0), (2, 0), (3, 0), (0, 0)]), (4, [(0, 0), (4, 0), (0, 1)]), (2, [(63, 0), (1, 0), (2, 0), (4, 0), (7, 0)]), (7, [(178, 0), (4, 0)]), (7, [(178, 0), (3, 0)]), (3, [(5, 0), (2, 0), (7, 0), (8, 0)]), (4, [(0, 0), (4, 0), (0, 1)]), (2, [(63, 0), (1, 0), (2, 0), (3, 0), (9, 0)]), (4, [(0, 0), (4, 0), (0, 1)]), (2, [(63, 0), (1, 0), (2, 0), (4, 0), (9, 0)])]
def zD190 : ZD := [(0, 1, [some (52, (0, 0), (0, 0)), some (0, (1, 0), (0, 0)), none, none, none], 6, zP190_0), (17, 2, [some (52, (0, 0), (0, 0)), some (0, (1, 0), (0, 0)), some (0, (2, 0), (0, 0)), none, none], 12, zP190_17), (54, 3, [some (52, (0, 0), (0, 0)), some (0, (1, 0), (0, 0)), some (0, (2, 0), (0, 0)), some (0, (3, 0), (0, 0)), none], 4, zP190_54), (63, 4, [some (52, (0, 0), (0, 0)), some (0, (1, 0), (0, 0)), some (0, (2, 0), (0, 0)), some (0, (3, 0), (0, 0)), some (0, (4, 0), (0, 0))], 29, zP190_63)]
theorem zG190 : z_chk zT190 [(163, 0)] 190 zD190 = true := by decide +kernel
noncomputable def g_m_choose (R : ZR) : ZR := z_psi (z_st (z_F zT190) zD190) R
noncomputable def f_m_choose : ZFn := fun L S => g_m_choose ((1000, L), S)
theorem zM190 : z_met 190 1 [(52, (0, 0), (0, 0)), (0, (1, 0), (0, 0))] f_m_choose := z_met_psi zH190 (fun _ _ h => by rw [List.mem_singleton] at h; cases h; exact fun _ _ => rfl) rfl zG190
theorem zE190_0 {x1 : Int} {S : ZS} : z_st (z_F zT190) zD190 0 [x1] S = (bif decide ((v_m_isNoSection x1 S) = 0) then ((1017, [x1, 0]), (e_upd S r_m_thrown 0 0 0 (bif !decide ((v_m_isNoSection x1 S) = 0) then 1 else 0))) else ((0, [0]), (e_upd S r_m_thrown 0 0 0 (bif !decide ((v_m_isNoSection x1 S) = 0) then 1 else 0)))) := (id rfl : z_st (z_F zT190) zD190 0 [x1] S = z_ev (z_F zT190) 6 zP190_0 [x1] S).trans (id rfl)
theorem g_m_choose_0 {x1 : Int} {S : ZS} : g_m_choose ((1000, [x1]), S) = (bif decide ((v_m_isNoSection x1 S) = 0) then (g_m_choose ((1017, [x1, 0]), (e_upd S r_m_thrown 0 0 0 (bif !decide ((v_m_isNoSection x1 S) = 0) then 1 else 0)))) else ((0, [0]), (e_upd S r_m_thrown 0 0 0 (bif !decide ((v_m_isNoSection x1 S) = 0) then 1 else 0)))) := by
  unfold g_m_choose
  refine ((z_psi_go (pc := 0)).trans (congrArg _ zE190_0)).trans ?_
  try simp only [z_psi_c, z_psi_b, z_psi_n, Nat.reduceLT, decide_true]
theorem zE190_17 {x1 x2 : Int} {S : ZS} : z_st (z_F zT190) zD190 17 [x1, x2] S = (bif decide ((S r_m_films 0 0 0) ≤ x2) then ((1054, [x1, 0, 0]), S) else (e_bind (f_m_scoreMany [x2] S) (fun v1 S1 => (bif decide (v1 ≤ 0) then ((1017, [x1, (e_wr (x2 + 1))]), (e_upd S1 r_m_areLeft 0 0 x2 (e_nar 1 0))) else ((1017, [x1, (e_wr (x2 + 1))]), (e_upd S1 r_m_areLeft 0 0 x2 (e_nar 1 1))))))) := (id rfl : z_st (z_F zT190) zD190 17 [x1, x2] S = z_ev (z_F zT190) 12 zP190_17 [x1, x2] S).trans (id rfl)
theorem g_m_choose_17 {x1 x2 : Int} {S : ZS} : g_m_choose ((1017, [x1, x2]), S) = (bif decide ((S r_m_films 0 0 0) ≤ x2) then (g_m_choose ((1054, [x1, 0, 0]), S)) else (e_bind (f_m_scoreMany [x2] S) (fun v1 S1 => (bif decide (v1 ≤ 0) then (g_m_choose ((1017, [x1, (e_wr (x2 + 1))]), (e_upd S1 r_m_areLeft 0 0 x2 (e_nar 1 0)))) else (g_m_choose ((1017, [x1, (e_wr (x2 + 1))]), (e_upd S1 r_m_areLeft 0 0 x2 (e_nar 1 1)))))))) := by
  unfold g_m_choose
  refine ((z_psi_go (pc := 17)).trans (congrArg _ zE190_17)).trans ?_
  try simp only [z_psi_c, z_psi_b, z_psi_n, Nat.reduceLT, decide_true]
theorem zE190_54 {x1 x2 x3 : Int} {S : ZS} : z_st (z_F zT190) zD190 54 [x1, x2, x3] S = (bif decide (x3 < 0) then ((0, [x2]), S) else ((1063, [x1, x2, (-1), 0]), S)) := (id rfl : z_st (z_F zT190) zD190 54 [x1, x2, x3] S = z_ev (z_F zT190) 4 zP190_54 [x1, x2, x3] S).trans (id rfl)
theorem g_m_choose_54 {x1 x2 x3 : Int} {S : ZS} : g_m_choose ((1054, [x1, x2, x3]), S) = (bif decide (x3 < 0) then ((0, [x2]), S) else (g_m_choose ((1063, [x1, x2, (-1), 0]), S))) := by
  unfold g_m_choose
  refine ((z_psi_go (pc := 54)).trans (congrArg _ zE190_54)).trans ?_
  try simp only [z_psi_c, z_psi_b, z_psi_n, Nat.reduceLT, decide_true]
theorem zE190_63 {x1 x2 x3 x4 : Int} {S : ZS} : z_st (z_F zT190) zD190 63 [x1, x2, x3, x4] S = (bif decide ((S r_m_films 0 0 0) ≤ x4) then (bif decide (x3 < 0) then ((1054, [x1, x2, x3]), S) else (e_bind (f_m_mayChoose [x1, x3] (e_upd S r_m_areLeft 0 0 x3 (e_nar 1 0))) (fun v1 S1 => (bif decide (v1 = 0) then ((1054, [x1, x2, x3]), S1) else (e_bind (f_m_writes [99, x3] (e_upd (e_upd S1 r_m_sections 0 0 x3 x1) r_m_promises 0 0 x3 (S1 r_m_premieres 0 0 x1))) (fun v2 S2 => ((1054, [x1, (e_wr (x2 + 1)), x3]), S2))))))) else (bif decide ((S r_m_areLeft 0 0 x4) = 0) then ((1063, [x1, x2, x3, (e_wr (x4 + 1))]), S) else (bif decide (x3 < 0) then ((1063, [x1, x2, x4, (e_wr (x4 + 1))]), S) else (e_bind (f_m_scoreOf [x4] S) (fun v3 S3 => (e_bind (f_m_scoreOf [x3] S3) (fun v4 S4 => (bif decide (v3 ≤ v4) then ((1063, [x1, x2, x3, (e_wr (x4 + 1))]), S4) else ((1063, [x1, x2, x4, (e_wr (x4 + 1))]), S4))))))))) := (id rfl : z_st (z_F zT190) zD190 63 [x1, x2, x3, x4] S = z_ev (z_F zT190) 29 zP190_63 [x1, x2, x3, x4] S).trans (by
  simp -implicitDefEqProofs only [zP190_63, zF190_163, zF190_167, zF190_174, zF190_178, zF190_186, zF190_189, zpI0, zpI1, zpIc, pF_m_isNoSection, Nat.zero_add, Nat.reduceAdd, Nat.reduceBEq, Int.reduceToNat, z_e0, z_e1, z_e2, z_e3, z_e4, z_e5, z_e6, z_e7, z_e8, z_e11, z_e13, o_v0, o_v1, o_v2, List.cons_append, List.nil_append, List.map_cons, List.map_nil, List.drop_succ_cons, List.drop_zero, List.take_succ_cons, List.take_zero, e_c0, e_c1, e_c2, e_c3, e_c4, e_c5, e_b0, e_b1, e_b2, e_b3, e_b4, e_b5, e_b6, e_b7, e_b8, e_b9, e_b10, e_b11, e_b12, e_b13, e_b14, e_b15, e_b16, e_b17, e_n0, e_bnd, e_un]
  try rfl)
theorem g_m_choose_63 {x1 x2 x3 x4 : Int} {S : ZS} : g_m_choose ((1063, [x1, x2, x3, x4]), S) = (bif decide ((S r_m_films 0 0 0) ≤ x4) then (bif decide (x3 < 0) then (g_m_choose ((1054, [x1, x2, x3]), S)) else (e_bind (f_m_mayChoose [x1, x3] (e_upd S r_m_areLeft 0 0 x3 (e_nar 1 0))) (fun v1 S1 => (bif decide (v1 = 0) then (g_m_choose ((1054, [x1, x2, x3]), S1)) else (e_bind (f_m_writes [99, x3] (e_upd (e_upd S1 r_m_sections 0 0 x3 x1) r_m_promises 0 0 x3 (S1 r_m_premieres 0 0 x1))) (fun v2 S2 => (g_m_choose ((1054, [x1, (e_wr (x2 + 1)), x3]), S2)))))))) else (bif decide ((S r_m_areLeft 0 0 x4) = 0) then (g_m_choose ((1063, [x1, x2, x3, (e_wr (x4 + 1))]), S)) else (bif decide (x3 < 0) then (g_m_choose ((1063, [x1, x2, x4, (e_wr (x4 + 1))]), S)) else (e_bind (f_m_scoreOf [x4] S) (fun v3 S3 => (e_bind (f_m_scoreOf [x3] S3) (fun v4 S4 => (bif decide (v3 ≤ v4) then (g_m_choose ((1063, [x1, x2, x3, (e_wr (x4 + 1))]), S4)) else (g_m_choose ((1063, [x1, x2, x4, (e_wr (x4 + 1))]), S4)))))))))) := by
  unfold g_m_choose
  refine ((z_psi_go (pc := 63)).trans (congrArg _ zE190_63)).trans ?_
  try simp only [z_psi_c, z_psi_b, z_psi_n, Nat.reduceLT, decide_true]
def zW190 : List Nat := [r_m_lineMany, r_m_thrown, r_m_sections, r_m_promises, r_m_letters, r_m_lineFilms, r_m_areLeft]
theorem zK190 : z_kp 1 zW190 f_m_choose := fun L S hL hc r i j k hr => z_psi_kp (KT := [(163, 2, zW163), (167, 2, zW167), (174, 1, zW174), (178, 1, zW178), (186, 1, zW186), (189, 2, zW189)]) (F := z_F zT190) (W := zW190) (D := zD190) (.c zF190_163 zK163 (.c zF190_167 zK167 (.c zF190_174 zK174 (.c zF190_178 zK178 (.c zF190_186 zK186 (.c zF190_189 zK189 .n)))))) (fun _ _ => Or.inl rfl) (by decide +kernel) _ hc r i j k hr

-- x_sectionOf (101)
def zT101 : ZT := [(143, 1, [(2, (0, 0), (0, 0)), (0, (1, 0), (0, 0))], f_x_checkFilm)]
theorem zH101 : z_ok zT101 := .c zM143 .n
theorem zF101_143 : z_F zT101 143 = f_x_checkFilm := id rfl
def zP101_0 : List ZO := [(7, [(143, 0), (1, 0)]), (5, [(195, 0), (1, 0), (0, 0), (0, 0)]), (3, [(1, 0), (2, 0), (3, 0), (0, (-1))]), (5, [(195, 0), (1, 0), (0, 0), (0, 0)]), (0, [(4, 0)]), (1, [(4, 0)])]
def zC101 : ZC := [(0, 1, [some (2, (0, 0), (0, 0)), some (0, (1, 0), (0, 0))])]
theorem zG101 : z_go zC101 (z_A zT101) [] 101 400 true 7 zP101_0 0 [some (2, (0, 0), (0, 0)), some (0, (1, 0), (0, 0))] [] 1 = true := by decide +kernel
def f_x_sectionOf : ZFn := fun L S => match L with
  | [x1] => (e_bind (f_x_checkFilm [x1] S) (fun v1 S1 => (bif !decide ((S1 r_Film_section x1 0 0) = (-1)) then ((0, [(S1 r_Film_section x1 0 0)]), S1) else ((5, []), S1))))
  | _ => ((0, []), S)
theorem zE101 {x1 : Int} {S : ZS} : z_ev (z_F zT101) 7 zP101_0 [x1] S = f_x_sectionOf [x1] S := id rfl
theorem zM101 : z_met 101 1 [(2, (0, 0), (0, 0)), (0, (1, 0), (0, 0))] f_x_sectionOf := z_met_ev zH101 (fun _ _ h => absurd h List.not_mem_nil) rfl zG101 (by decide +kernel) (fun L S hn => match L, hn with
  | [x1], _ => zE101)
def zW101 : List Nat := []
theorem zK101 : z_kp 1 zW101 f_x_sectionOf := z_kp_ev (KT := [(143, 1, zW143)]) (.c zF101_143 zK143 .n) (z_h163 rfl) (by decide +kernel) (fun L S hn => match L, hn with
  | [x1], _ => zE101)

-- w_sectionOf (267)
def zT267 : ZT := [(101, 1, [(2, (0, 0), (0, 0)), (0, (1, 0), (0, 0))], f_x_sectionOf)]
theorem zH267 : z_ok zT267 := .c zM101 .n
theorem zF267_101 : z_F zT267 101 = f_x_sectionOf := id rfl
def zP267_0 : List ZO := [(11, [(101, 0), (2, 0), (0, 2), (4, 3), (1, 0)]), (6, [(6976, 0), (0, 0), (0, 0), (0, 0), (0, 0), (2, 0)]), (0, [(0, 0)]), (0, [(0, 1)]), (0, [(0, 2)])]
def zC267 : ZC := [(0, 1, [some (2, (0, 0), (0, 0)), some (0, (1, 0), (0, 0)), some (111, (0, 0), (0, 0)), none])]
theorem zG267 : z_go zC267 (z_A zT267) [] 267 400 true 6 zP267_0 0 [some (2, (0, 0), (0, 0)), some (0, (1, 0), (0, 0)), some (111, (0, 0), (0, 0)), none] [] 1 = true := by decide +kernel
def f_w_sectionOf : ZFn := fun L S => match L with
  | [x1] => (e_try (f_x_sectionOf [x1] S) (fun v1 S1 => ((0, [0]), (e_upd S1 r_out 0 0 0 v1))) [(0, 1), (4, 2)])
  | _ => ((0, []), S)
theorem zE267 {x1 : Int} {S : ZS} : z_ev (z_F zT267) 6 zP267_0 [x1] S = f_w_sectionOf [x1] S := id rfl
theorem zM267 : z_met 267 1 [(2, (0, 0), (0, 0)), (0, (1, 0), (0, 0)), (111, (0, 0), (0, 0))] f_w_sectionOf := z_met_ev zH267 (fun _ _ h => absurd h List.not_mem_nil) rfl zG267 (by decide +kernel) (fun L S hn => match L, hn with
  | [x1], _ => zE267)
def zW267 : List Nat := [r_out]
theorem zK267 : z_kp 1 zW267 f_w_sectionOf := z_kp_ev (KT := [(101, 1, zW101)]) (.c zF267_101 zK101 .n) (z_h163 rfl) (by decide +kernel) (fun L S hn => match L, hn with
  | [x1], _ => zE267)

-- m_sectionOf (191)
def zT191 : ZT := [(163, 2, [(52, (0, 0), (0, 0)), (0, (1, 0), (0, 0)), (0, (2, 0), (0, 0))], f_m_isThrown), (166, 1, [(52, (0, 0), (0, 0)), (0, (1, 0), (0, 0))], f_m_isNoFilm)]
theorem zH191 : z_ok zT191 := .c zM163 (.c zM166 .n)
theorem zF191_163 : z_F zT191 163 = f_m_isThrown := id rfl
theorem zF191_166 : z_F zT191 166 = f_m_isNoFilm := id rfl
def zP191_0 : List ZO := [(7, [(166, 0), (1, 0)]), (13, [(163, 0), (0, 0), (2, 0), (0, 1)]), (3, [(1, 0), (1, 0), (2, 0), (0, 0)]), (0, [(0, 0)]), (5, [(3520, 0), (0, 0), (0, 0), (1, 0)]), (3, [(3, 0), (3, 0), (3, 0), (0, 0)]), (13, [(163, 0), (0, 0), (0, 0), (0, 2)]), (5, [(3520, 0), (0, 0), (0, 0), (1, 0)]), (0, [(4, 0)]), (13, [(163, 0), (0, 0), (0, 1), (0, 2)]), (0, [(0, 0)])]
def zC191 : ZC := [(0, 1, [some (52, (0, 0), (0, 0)), some (0, (1, 0), (0, 0))])]
theorem zG191 : z_go zC191 (z_A zT191) [(163, 0)] 191 400 true 12 zP191_0 0 [some (52, (0, 0), (0, 0)), some (0, (1, 0), (0, 0))] [] 1 = true := by decide +kernel
def f_m_sectionOf : ZFn := fun L S => match L with
  | [x1] => (bif !decide ((v_m_isNoFilm x1 S) = 0) then ((0, [0]), (e_upd S r_m_thrown 0 0 0 (bif !decide ((v_m_isNoFilm x1 S) = 0) then 1 else 0))) else (bif decide (0 ≤ (S r_m_sections 0 0 x1)) then ((0, [(S r_m_sections 0 0 x1)]), (e_upd (e_upd S r_m_thrown 0 0 0 (bif !decide ((v_m_isNoFilm x1 S) = 0) then 1 else 0)) r_m_thrown 0 0 0 0)) else ((0, [0]), (e_upd (e_upd S r_m_thrown 0 0 0 (bif !decide ((v_m_isNoFilm x1 S) = 0) then 1 else 0)) r_m_thrown 0 0 0 2))))
  | _ => ((0, []), S)
theorem zE191 {x1 : Int} {S : ZS} : z_ev (z_F zT191) 12 zP191_0 [x1] S = f_m_sectionOf [x1] S := id rfl
theorem zM191 : z_met 191 1 [(52, (0, 0), (0, 0)), (0, (1, 0), (0, 0))] f_m_sectionOf := z_met_ev zH191 (fun _ _ h => by rw [List.mem_singleton] at h; cases h; exact fun _ _ => rfl) rfl zG191 (by decide +kernel) (fun L S hn => match L, hn with
  | [x1], _ => zE191)
def zW191 : List Nat := [r_m_thrown]
theorem zK191 : z_kp 1 zW191 f_m_sectionOf := z_kp_ev (KT := [(163, 2, zW163), (166, 1, zW166)]) (.c zF191_163 zK163 (.c zF191_166 zK166 .n)) (fun _ _ => Or.inl rfl) (by decide +kernel) (fun L S hn => match L, hn with
  | [x1], _ => zE191)

-- x_minutes (102)
noncomputable def zT102 : ZT := [(145, 1, [(2, (0, 0), (0, 0)), (0, (1, 0), (0, 0))], f_x_checkSection), (156, 1, [(2, (0, 0), (0, 0)), (0, (1, 0), (0, 0))], f_x_minutesIn)]
theorem zH102 : z_ok zT102 := .c zM145 (.c zM156 .n)
theorem zF102_145 : z_F zT102 145 = f_x_checkSection := id rfl
theorem zF102_156 : z_F zT102 156 = f_x_minutesIn := id rfl
def zP102_0 : List ZO := [(7, [(145, 0), (1, 0)]), (7, [(156, 0), (1, 0)]), (0, [(3, 0)])]
def zC102 : ZC := [(0, 1, [some (2, (0, 0), (0, 0)), some (0, (1, 0), (0, 0))])]
theorem zG102 : z_go zC102 (z_A zT102) [] 102 400 true 4 zP102_0 0 [some (2, (0, 0), (0, 0)), some (0, (1, 0), (0, 0))] [] 1 = true := by decide +kernel
noncomputable def f_x_minutes : ZFn := fun L S => match L with
  | [x1] => (e_bind (f_x_checkSection [x1] S) (fun v1 S1 => (e_bind (f_x_minutesIn [x1] S1) (fun v2 S2 => ((0, [v2]), S2)))))
  | _ => ((0, []), S)
theorem zE102 {x1 : Int} {S : ZS} : z_ev (z_F zT102) 4 zP102_0 [x1] S = f_x_minutes [x1] S := id rfl
theorem zM102 : z_met 102 1 [(2, (0, 0), (0, 0)), (0, (1, 0), (0, 0))] f_x_minutes := z_met_ev zH102 (fun _ _ h => absurd h List.not_mem_nil) rfl zG102 (by decide +kernel) (fun L S hn => match L, hn with
  | [x1], _ => zE102)
def zW102 : List Nat := []
theorem zK102 : z_kp 1 zW102 f_x_minutes := z_kp_ev (KT := [(145, 1, zW145), (156, 1, zW156)]) (.c zF102_145 zK145 (.c zF102_156 zK156 .n)) (z_h163 rfl) (by decide +kernel) (fun L S hn => match L, hn with
  | [x1], _ => zE102)

-- w_minutes (268)
noncomputable def zT268 : ZT := [(102, 1, [(2, (0, 0), (0, 0)), (0, (1, 0), (0, 0))], f_x_minutes)]
theorem zH268 : z_ok zT268 := .c zM102 .n
theorem zF268_102 : z_F zT268 102 = f_x_minutes := id rfl
def zP268_0 : List ZO := [(11, [(102, 0), (1, 0), (0, 2), (1, 0)]), (6, [(6976, 0), (0, 0), (0, 0), (0, 0), (0, 0), (2, 0)]), (0, [(0, 0)]), (0, [(0, 1)])]
def zC268 : ZC := [(0, 1, [some (2, (0, 0), (0, 0)), some (0, (1, 0), (0, 0)), some (111, (0, 0), (0, 0)), none])]
theorem zG268 : z_go zC268 (z_A zT268) [] 268 400 true 5 zP268_0 0 [some (2, (0, 0), (0, 0)), some (0, (1, 0), (0, 0)), some (111, (0, 0), (0, 0)), none] [] 1 = true := by decide +kernel
noncomputable def f_w_minutes : ZFn := fun L S => match L with
  | [x1] => (e_try (f_x_minutes [x1] S) (fun v1 S1 => ((0, [0]), (e_upd S1 r_out 0 0 0 v1))) [(0, 1)])
  | _ => ((0, []), S)
theorem zE268 {x1 : Int} {S : ZS} : z_ev (z_F zT268) 5 zP268_0 [x1] S = f_w_minutes [x1] S := id rfl
theorem zM268 : z_met 268 1 [(2, (0, 0), (0, 0)), (0, (1, 0), (0, 0)), (111, (0, 0), (0, 0))] f_w_minutes := z_met_ev zH268 (fun _ _ h => absurd h List.not_mem_nil) rfl zG268 (by decide +kernel) (fun L S hn => match L, hn with
  | [x1], _ => zE268)
def zW268 : List Nat := [r_out]
theorem zK268 : z_kp 1 zW268 f_w_minutes := z_kp_ev (KT := [(102, 1, zW102)]) (.c zF268_102 zK102 .n) (z_h163 rfl) (by decide +kernel) (fun L S hn => match L, hn with
  | [x1], _ => zE268)

-- m_minutes (192)
noncomputable def zT192 : ZT := [(163, 2, [(52, (0, 0), (0, 0)), (0, (1, 0), (0, 0)), (0, (2, 0), (0, 0))], f_m_isThrown), (186, 1, [(52, (0, 0), (0, 0)), (0, (1, 0), (0, 0))], f_m_isNoSection), (187, 1, [(52, (0, 0), (0, 0)), (0, (1, 0), (0, 0))], f_m_minutesOf)]
theorem zH192 : z_ok zT192 := .c zM163 (.c zM186 (.c zM187 .n))
theorem zF192_163 : z_F zT192 163 = f_m_isThrown := id rfl
theorem zF192_186 : z_F zT192 186 = f_m_isNoSection := id rfl
theorem zF192_187 : z_F zT192 187 = f_m_minutesOf := id rfl
def zP192_0 : List ZO := [(7, [(186, 0), (1, 0)]), (13, [(163, 0), (0, 0), (2, 0), (0, 1)]), (3, [(0, 0), (2, 0), (2, 0), (0, 0)]), (7, [(187, 0), (1, 0)]), (0, [(3, 0)]), (0, [(0, 0)])]
def zC192 : ZC := [(0, 1, [some (52, (0, 0), (0, 0)), some (0, (1, 0), (0, 0))])]
theorem zG192 : z_go zC192 (z_A zT192) [(163, 0)] 192 400 true 7 zP192_0 0 [some (52, (0, 0), (0, 0)), some (0, (1, 0), (0, 0))] [] 1 = true := by decide +kernel
noncomputable def f_m_minutes : ZFn := fun L S => match L with
  | [x1] => (bif decide ((v_m_isNoSection x1 S) = 0) then (e_bind (f_m_minutesOf [x1] (e_upd S r_m_thrown 0 0 0 (bif !decide ((v_m_isNoSection x1 S) = 0) then 1 else 0))) (fun v1 S1 => ((0, [v1]), S1))) else ((0, [0]), (e_upd S r_m_thrown 0 0 0 (bif !decide ((v_m_isNoSection x1 S) = 0) then 1 else 0))))
  | _ => ((0, []), S)
theorem zE192 {x1 : Int} {S : ZS} : z_ev (z_F zT192) 7 zP192_0 [x1] S = f_m_minutes [x1] S := id rfl
theorem zM192 : z_met 192 1 [(52, (0, 0), (0, 0)), (0, (1, 0), (0, 0))] f_m_minutes := z_met_ev zH192 (fun _ _ h => by rw [List.mem_singleton] at h; cases h; exact fun _ _ => rfl) rfl zG192 (by decide +kernel) (fun L S hn => match L, hn with
  | [x1], _ => zE192)
def zW192 : List Nat := [r_m_thrown]
theorem zK192 : z_kp 1 zW192 f_m_minutes := z_kp_ev (KT := [(163, 2, zW163), (186, 1, zW186), (187, 1, zW187)]) (.c zF192_163 zK163 (.c zF192_186 zK186 (.c zF192_187 zK187 .n))) (fun _ _ => Or.inl rfl) (by decide +kernel) (fun L S hn => match L, hn with
  | [x1], _ => zE192)

-- x_giveUp (103)
def zT103 : ZT := [(1, 2, [(13, (0, 0), (0, 0)), (0, (1, 0), (0, 0)), (0, (2, 0), (0, 0))], f_Archive_add), (141, 1, [(0, (1, 0), (0, 0))], f_x_premiereOf), (143, 1, [(2, (0, 0), (0, 0)), (0, (1, 0), (0, 0))], f_x_checkFilm)]
theorem zH103 : z_ok zT103 := .c zM1 (.c zM141 (.c zM143 .n))
theorem zF103_1 : z_F zT103 1 = f_Archive_add := id rfl
theorem zF103_141 : z_F zT103 141 = f_x_premiereOf := id rfl
theorem zF103_143 : z_F zT103 143 = f_x_checkFilm := id rfl
def zP103_0 : List ZO := [(7, [(143, 0), (1, 0)]), (5, [(198, 0), (1, 0), (0, 0), (0, 0)]), (3, [(1, 0), (4, 0), (3, 0), (0, 0)]), (6, [(198, 0), (0, 0), (1, 0), (0, 0), (0, 0), (0, 0)]), (7, [(1, 0), (0, 103), (1, 0)]), (7, [(141, 0), (3, 0)]), (0, [(5, 0)]), (1, [(3, 0)])]
def zC103 : ZC := [(0, 1, [some (2, (0, 0), (0, 0)), some (0, (1, 0), (0, 0)), none])]
theorem zG103 : z_go zC103 (z_A zT103) [] 103 400 true 9 zP103_0 0 [some (2, (0, 0), (0, 0)), some (0, (1, 0), (0, 0)), none] [] 1 = true := by decide +kernel
def f_x_giveUp : ZFn := fun L S => match L with
  | [x1] => (e_bind (f_x_checkFilm [x1] S) (fun v1 S1 => (bif !decide ((S1 r_Film_promise x1 0 0) = 0) then (e_bind (f_Archive_add [103, x1] (e_upd S1 r_Film_promise x1 0 0 0)) (fun v2 S2 => ((0, [(v_x_premiereOf (S1 r_Film_promise x1 0 0) S2)]), S2))) else ((4, []), S1))))
  | _ => ((0, []), S)
theorem zE103 {x1 : Int} {S : ZS} : z_ev (z_F zT103) 9 zP103_0 [x1] S = f_x_giveUp [x1] S := id rfl
theorem zM103 : z_met 103 1 [(2, (0, 0), (0, 0)), (0, (1, 0), (0, 0))] f_x_giveUp := z_met_ev zH103 (fun _ _ h => absurd h List.not_mem_nil) rfl zG103 (by decide +kernel) (fun L S hn => match L, hn with
  | [x1], _ => zE103)
def zW103 : List Nat := [r_Film_promise, r_Archive_lineCount, r_Archive_next, r_Archive_letters, r_Archive_filmOf]
theorem zK103 : z_kp 1 zW103 f_x_giveUp := z_kp_ev (KT := [(1, 2, zW1), (141, 1, zW141), (143, 1, zW143)]) (.c zF103_1 zK1 (.c zF103_141 zK141 (.c zF103_143 zK143 .n))) (z_h163 rfl) (by decide +kernel) (fun L S hn => match L, hn with
  | [x1], _ => zE103)

-- w_giveUp (269)
def zT269 : ZT := [(103, 1, [(2, (0, 0), (0, 0)), (0, (1, 0), (0, 0))], f_x_giveUp)]
theorem zH269 : z_ok zT269 := .c zM103 .n
theorem zF269_103 : z_F zT269 103 = f_x_giveUp := id rfl
def zP269_0 : List ZO := [(11, [(103, 0), (2, 0), (0, 2), (3, 3), (1, 0)]), (6, [(6976, 0), (0, 0), (0, 0), (0, 0), (0, 0), (2, 0)]), (0, [(0, 0)]), (0, [(0, 1)]), (0, [(0, 2)])]
def zC269 : ZC := [(0, 1, [some (2, (0, 0), (0, 0)), some (0, (1, 0), (0, 0)), some (111, (0, 0), (0, 0)), none])]
theorem zG269 : z_go zC269 (z_A zT269) [] 269 400 true 6 zP269_0 0 [some (2, (0, 0), (0, 0)), some (0, (1, 0), (0, 0)), some (111, (0, 0), (0, 0)), none] [] 1 = true := by decide +kernel
def f_w_giveUp : ZFn := fun L S => match L with
  | [x1] => (e_try (f_x_giveUp [x1] S) (fun v1 S1 => ((0, [0]), (e_upd S1 r_out 0 0 0 v1))) [(0, 1), (3, 2)])
  | _ => ((0, []), S)
theorem zE269 {x1 : Int} {S : ZS} : z_ev (z_F zT269) 6 zP269_0 [x1] S = f_w_giveUp [x1] S := id rfl
theorem zM269 : z_met 269 1 [(2, (0, 0), (0, 0)), (0, (1, 0), (0, 0)), (111, (0, 0), (0, 0))] f_w_giveUp := z_met_ev zH269 (fun _ _ h => absurd h List.not_mem_nil) rfl zG269 (by decide +kernel) (fun L S hn => match L, hn with
  | [x1], _ => zE269)
def zW269 : List Nat := [r_Film_promise, r_Archive_lineCount, r_Archive_next, r_Archive_letters, r_Archive_filmOf, r_out]
theorem zK269 : z_kp 1 zW269 f_w_giveUp := z_kp_ev (KT := [(103, 1, zW103)]) (.c zF269_103 zK103 .n) (z_h163 rfl) (by decide +kernel) (fun L S hn => match L, hn with
  | [x1], _ => zE269)

-- m_giveUp (193)
def zT193 : ZT := [(163, 2, [(52, (0, 0), (0, 0)), (0, (1, 0), (0, 0)), (0, (2, 0), (0, 0))], f_m_isThrown), (166, 1, [(52, (0, 0), (0, 0)), (0, (1, 0), (0, 0))], f_m_isNoFilm), (167, 2, [(52, (0, 0), (0, 0)), (0, (1, 0), (0, 0)), (0, (2, 0), (0, 0))], f_m_writes), (182, 1, [(0, (1, 0), (0, 0))], f_m_letterOf)]
theorem zH193 : z_ok zT193 := .c zM163 (.c zM166 (.c zM167 (.c zM182 .n)))
theorem zF193_163 : z_F zT193 163 = f_m_isThrown := id rfl
theorem zF193_166 : z_F zT193 166 = f_m_isNoFilm := id rfl
theorem zF193_167 : z_F zT193 167 = f_m_writes := id rfl
theorem zF193_182 : z_F zT193 182 = f_m_letterOf := id rfl
def zP193_0 : List ZO := [(7, [(166, 0), (1, 0)]), (13, [(163, 0), (0, 0), (2, 0), (0, 1)]), (3, [(1, 0), (1, 0), (2, 0), (0, 0)]), (0, [(0, 32)]), (5, [(3584, 0), (0, 0), (0, 0), (1, 0)]), (3, [(1, 0), (6, 0), (3, 0), (0, 0)]), (13, [(163, 0), (0, 0), (0, 0), (0, 2)]), (5, [(3584, 0), (0, 0), (0, 0), (1, 0)]), (7, [(182, 0), (4, 0)]), (6, [(3584, 0), (0, 0), (0, 0), (0, 0), (1, 0), (0, 0)]), (7, [(167, 0), (0, 103), (1, 0)]), (0, [(5, 0)]), (13, [(163, 0), (0, 0), (0, 1), (0, 2)]), (0, [(0, 32)])]
def zC193 : ZC := [(0, 1, [some (52, (0, 0), (0, 0)), some (0, (1, 0), (0, 0)), none])]
theorem zG193 : z_go zC193 (z_A zT193) [(163, 0)] 193 400 true 15 zP193_0 0 [some (52, (0, 0), (0, 0)), some (0, (1, 0), (0, 0)), none] [] 1 = true := by decide +kernel
def f_m_giveUp : ZFn := fun L S => match L with
  | [x1] => (bif !decide ((v_m_isNoFilm x1 S) = 0) then ((0, [32]), (e_upd S r_m_thrown 0 0 0 (bif !decide ((v_m_isNoFilm x1 S) = 0) then 1 else 0))) else (bif !decide ((S r_m_promises 0 0 x1) = 0) then (e_bind (f_m_writes [103, x1] (e_upd (e_upd (e_upd S r_m_thrown 0 0 0 (bif !decide ((v_m_isNoFilm x1 S) = 0) then 1 else 0)) r_m_thrown 0 0 0 0) r_m_promises 0 0 x1 0)) (fun v1 S1 => ((0, [(v_m_letterOf (S r_m_promises 0 0 x1) (e_upd (e_upd S r_m_thrown 0 0 0 (bif !decide ((v_m_isNoFilm x1 S) = 0) then 1 else 0)) r_m_thrown 0 0 0 0))]), S1))) else ((0, [32]), (e_upd (e_upd S r_m_thrown 0 0 0 (bif !decide ((v_m_isNoFilm x1 S) = 0) then 1 else 0)) r_m_thrown 0 0 0 2))))
  | _ => ((0, []), S)
theorem zE193 {x1 : Int} {S : ZS} : z_ev (z_F zT193) 15 zP193_0 [x1] S = f_m_giveUp [x1] S := by
  simp -implicitDefEqProofs only [zP193_0, zF193_163, zF193_166, zF193_167, zF193_182, zpI0, zpI1, zpIc, pF_m_isNoFilm, pF_m_letterOf, Nat.zero_add, Nat.reduceAdd, Nat.reduceBEq, Int.reduceToNat, z_e0, z_e1, z_e2, z_e3, z_e4, z_e5, z_e6, z_e7, z_e8, z_e11, z_e13, o_v0, o_v1, o_v2, List.cons_append, List.nil_append, List.map_cons, List.map_nil, List.drop_succ_cons, List.drop_zero, List.take_succ_cons, List.take_zero, e_c0, e_c1, e_c2, e_c3, e_c4, e_c5, e_b0, e_b1, e_b2, e_b3, e_b4, e_b5, e_b6, e_b7, e_b8, e_b9, e_b10, e_b11, e_b12, e_b13, e_b14, e_b15, e_b16, e_b17, e_n0, e_bnd, e_un]
  try rfl
theorem zM193 : z_met 193 1 [(52, (0, 0), (0, 0)), (0, (1, 0), (0, 0))] f_m_giveUp := z_met_ev zH193 (fun _ _ h => by rw [List.mem_singleton] at h; cases h; exact fun _ _ => rfl) rfl zG193 (by decide +kernel) (fun L S hn => match L, hn with
  | [x1], _ => zE193)
def zW193 : List Nat := [r_m_lineMany, r_m_thrown, r_m_promises, r_m_letters, r_m_lineFilms]
theorem zK193 : z_kp 1 zW193 f_m_giveUp := z_kp_ev (KT := [(163, 2, zW163), (166, 1, zW166), (167, 2, zW167), (182, 1, zW182)]) (.c zF193_163 zK163 (.c zF193_166 zK166 (.c zF193_167 zK167 (.c zF193_182 zK182 .n)))) (fun _ _ => Or.inl rfl) (by decide +kernel) (fun L S hn => match L, hn with
  | [x1], _ => zE193)

-- Film_breaksPromise (28)
def zT28 : ZT := []
theorem zH28 : z_ok zT28 := .n
def zP28_0 : List ZO := [(5, [(197, 0), (1, 0), (0, 0), (0, 0)]), (5, [(198, 0), (1, 0), (0, 0), (0, 0)]), (3, [(3, 0), (1, 0), (2, 0), (3, 0)]), (0, [(0, 0)]), (0, [(0, 1)])]
def zC28 : ZC := [(0, 1, [some (5, (1, 0), (0, 0))])]
theorem zG28 : z_go zC28 (z_A zT28) [] 28 400 true 6 zP28_0 0 [some (5, (1, 0), (0, 0))] [] 1 = true := by decide +kernel
def v_Film_breaksPromise (x1 : Int) (S : ZS) : Int := (bif decide ((S r_Film_promise x1 0 0) ≤ (S r_Film_stillIs x1 0 0)) then 0 else 1)
def f_Film_breaksPromise : ZFn := fun L S => match L with
  | [x1] => ((0, [v_Film_breaksPromise x1 S]), S)
  | _ => ((0, []), S)
theorem pF_Film_breaksPromise {x1 : Int} {S : ZS} : f_Film_breaksPromise [x1] S = ((0, [v_Film_breaksPromise x1 S]), S) := id rfl
theorem zE28a {x1 : Int} {S : ZS} : z_ev (z_F zT28) 6 zP28_0 [x1] S = (bif decide ((S r_Film_promise x1 0 0) ≤ (S r_Film_stillIs x1 0 0)) then ((0, [0]), S) else ((0, [1]), S)) := id rfl
theorem zE28 {x1 : Int} {S : ZS} : z_ev (z_F zT28) 6 zP28_0 [x1] S = f_Film_breaksPromise [x1] S := zE28a.trans (by
  simp only [z_cv]
  rfl)
theorem zM28 : z_met 28 1 [(5, (1, 0), (0, 0))] f_Film_breaksPromise := z_met_ev zH28 (fun _ _ h => absurd h List.not_mem_nil) rfl zG28 (by decide +kernel) (fun L S hn => match L, hn with
  | [x1], _ => zE28)
def zW28 : List Nat := []
theorem zK28 : z_kp 1 zW28 f_Film_breaksPromise := z_kp_ev (KT := []) (.n) (z_h163 rfl) (by decide +kernel) (fun L S hn => match L, hn with
  | [x1], _ => zE28)

-- x_isBroken (104)
def zT104 : ZT := [(28, 1, [(5, (1, 0), (0, 0))], f_Film_breaksPromise), (143, 1, [(2, (0, 0), (0, 0)), (0, (1, 0), (0, 0))], f_x_checkFilm)]
theorem zH104 : z_ok zT104 := .c zM28 (.c zM143 .n)
theorem zF104_28 : z_F zT104 28 = f_Film_breaksPromise := id rfl
theorem zF104_143 : z_F zT104 143 = f_x_checkFilm := id rfl
def zP104_0 : List ZO := [(7, [(143, 0), (1, 0)]), (7, [(28, 0), (1, 0)]), (0, [(3, 0)])]
def zC104 : ZC := [(0, 1, [some (2, (0, 0), (0, 0)), some (0, (1, 0), (0, 0))])]
theorem zG104 : z_go zC104 (z_A zT104) [] 104 400 true 4 zP104_0 0 [some (2, (0, 0), (0, 0)), some (0, (1, 0), (0, 0))] [] 1 = true := by decide +kernel
def f_x_isBroken : ZFn := fun L S => match L with
  | [x1] => (e_bind (f_x_checkFilm [x1] S) (fun v1 S1 => ((0, [(v_Film_breaksPromise x1 S1)]), S1)))
  | _ => ((0, []), S)
theorem zE104 {x1 : Int} {S : ZS} : z_ev (z_F zT104) 4 zP104_0 [x1] S = f_x_isBroken [x1] S := id rfl
theorem zM104 : z_met 104 1 [(2, (0, 0), (0, 0)), (0, (1, 0), (0, 0))] f_x_isBroken := z_met_ev zH104 (fun _ _ h => absurd h List.not_mem_nil) rfl zG104 (by decide +kernel) (fun L S hn => match L, hn with
  | [x1], _ => zE104)
def zW104 : List Nat := []
theorem zK104 : z_kp 1 zW104 f_x_isBroken := z_kp_ev (KT := [(28, 1, zW28), (143, 1, zW143)]) (.c zF104_28 zK28 (.c zF104_143 zK143 .n)) (z_h163 rfl) (by decide +kernel) (fun L S hn => match L, hn with
  | [x1], _ => zE104)

-- w_isBroken (270)
def zT270 : ZT := [(104, 1, [(2, (0, 0), (0, 0)), (0, (1, 0), (0, 0))], f_x_isBroken)]
theorem zH270 : z_ok zT270 := .c zM104 .n
theorem zF270_104 : z_F zT270 104 = f_x_isBroken := id rfl
def zP270_0 : List ZO := [(11, [(104, 0), (1, 0), (0, 5), (1, 0)]), (3, [(0, 0), (2, 0), (2, 0), (0, 0)]), (6, [(6976, 0), (0, 0), (0, 0), (0, 0), (0, 0), (0, 0)]), (0, [(0, 0)]), (6, [(6976, 0), (0, 0), (0, 0), (0, 0), (0, 0), (0, 1)]), (0, [(0, 0)]), (0, [(0, 1)])]
def zC270 : ZC := [(0, 1, [some (2, (0, 0), (0, 0)), some (0, (1, 0), (0, 0)), some (111, (0, 0), (0, 0)), none])]
theorem zG270 : z_go zC270 (z_A zT270) [] 270 400 true 8 zP270_0 0 [some (2, (0, 0), (0, 0)), some (0, (1, 0), (0, 0)), some (111, (0, 0), (0, 0)), none] [] 1 = true := by decide +kernel
def f_w_isBroken : ZFn := fun L S => match L with
  | [x1] => (e_try (f_x_isBroken [x1] S) (fun v1 S1 => (bif decide (v1 = 0) then ((0, [0]), (e_upd S1 r_out 0 0 0 0)) else ((0, [0]), (e_upd S1 r_out 0 0 0 1)))) [(0, 1)])
  | _ => ((0, []), S)
theorem zE270 {x1 : Int} {S : ZS} : z_ev (z_F zT270) 8 zP270_0 [x1] S = f_w_isBroken [x1] S := id rfl
theorem zM270 : z_met 270 1 [(2, (0, 0), (0, 0)), (0, (1, 0), (0, 0)), (111, (0, 0), (0, 0))] f_w_isBroken := z_met_ev zH270 (fun _ _ h => absurd h List.not_mem_nil) rfl zG270 (by decide +kernel) (fun L S hn => match L, hn with
  | [x1], _ => zE270)
def zW270 : List Nat := [r_out]
theorem zK270 : z_kp 1 zW270 f_w_isBroken := z_kp_ev (KT := [(104, 1, zW104)]) (.c zF270_104 zK104 .n) (z_h163 rfl) (by decide +kernel) (fun L S hn => match L, hn with
  | [x1], _ => zE270)

-- m_isBroken (194)
def zT194 : ZT := [(163, 2, [(52, (0, 0), (0, 0)), (0, (1, 0), (0, 0)), (0, (2, 0), (0, 0))], f_m_isThrown), (166, 1, [(52, (0, 0), (0, 0)), (0, (1, 0), (0, 0))], f_m_isNoFilm)]
theorem zH194 : z_ok zT194 := .c zM163 (.c zM166 .n)
theorem zF194_163 : z_F zT194 163 = f_m_isThrown := id rfl
theorem zF194_166 : z_F zT194 166 = f_m_isNoFilm := id rfl
def zP194_0 : List ZO := [(7, [(166, 0), (1, 0)]), (13, [(163, 0), (0, 0), (2, 0), (0, 1)]), (3, [(1, 0), (1, 0), (2, 0), (0, 0)]), (0, [(0, 0)]), (5, [(3456, 0), (0, 0), (0, 0), (1, 0)]), (5, [(3584, 0), (0, 0), (0, 0), (1, 0)]), (3, [(3, 0), (1, 0), (3, 0), (4, 0)]), (0, [(0, 0)]), (0, [(0, 1)])]
def zC194 : ZC := [(0, 1, [some (52, (0, 0), (0, 0)), some (0, (1, 0), (0, 0))])]
theorem zG194 : z_go zC194 (z_A zT194) [(163, 0)] 194 400 true 10 zP194_0 0 [some (52, (0, 0), (0, 0)), some (0, (1, 0), (0, 0))] [] 1 = true := by decide +kernel
def f_m_isBroken : ZFn := fun L S => match L with
  | [x1] => (bif !decide ((v_m_isNoFilm x1 S) = 0) then ((0, [0]), (e_upd S r_m_thrown 0 0 0 (bif !decide ((v_m_isNoFilm x1 S) = 0) then 1 else 0))) else (bif decide ((S r_m_promises 0 0 x1) ≤ (S r_m_still 0 0 x1)) then ((0, [0]), (e_upd S r_m_thrown 0 0 0 (bif !decide ((v_m_isNoFilm x1 S) = 0) then 1 else 0))) else ((0, [1]), (e_upd S r_m_thrown 0 0 0 (bif !decide ((v_m_isNoFilm x1 S) = 0) then 1 else 0)))))
  | _ => ((0, []), S)
theorem zE194 {x1 : Int} {S : ZS} : z_ev (z_F zT194) 10 zP194_0 [x1] S = f_m_isBroken [x1] S := id rfl
theorem zM194 : z_met 194 1 [(52, (0, 0), (0, 0)), (0, (1, 0), (0, 0))] f_m_isBroken := z_met_ev zH194 (fun _ _ h => by rw [List.mem_singleton] at h; cases h; exact fun _ _ => rfl) rfl zG194 (by decide +kernel) (fun L S hn => match L, hn with
  | [x1], _ => zE194)
def zW194 : List Nat := [r_m_thrown]
theorem zK194 : z_kp 1 zW194 f_m_isBroken := z_kp_ev (KT := [(163, 2, zW163), (166, 1, zW166)]) (.c zF194_163 zK163 (.c zF194_166 zK166 .n)) (fun _ _ => Or.inl rfl) (by decide +kernel) (fun L S hn => match L, hn with
  | [x1], _ => zE194)

-- Venue_addScreen (86)
def zT86 : ZT := []
theorem zH86 : z_ok zT86 := .n
def zP86_0 : List ZO := [(5, [(258, 0), (0, 0), (0, 0), (0, 0)]), (6, [(320, 0), (0, 0), (0, 0), (0, 0), (3, 0), (1, 0)]), (5, [(258, 0), (0, 0), (0, 0), (0, 0)]), (6, [(384, 0), (1, 0), (0, 0), (0, 0), (4, 0), (2, 0)]), (5, [(258, 0), (0, 0), (0, 0), (0, 0)]), (4, [(0, 0), (5, 0), (0, 1)]), (6, [(258, 0), (0, 0), (0, 0), (0, 0), (0, 0), (6, 0)]), (5, [(258, 0), (0, 0), (0, 0), (0, 0)]), (4, [(1, 0), (7, 0), (0, 1)]), (0, [(8, 0)])]
def zC86 : ZC := [(0, 2, [some (6, (0, 0), (0, 0)), some (0, (1, 0), (0, 0)), some (0, (2, 0), (0, 0))])]
theorem zG86 : z_go zC86 (z_A zT86) [] 86 400 true 11 zP86_0 0 [some (6, (0, 0), (0, 0)), some (0, (1, 0), (0, 0)), some (0, (2, 0), (0, 0))] [] 2 = true := by decide +kernel
def f_Venue_addScreen : ZFn := fun L S => match L with
  | [x1, x2] => ((0, [(e_wr (((e_upd (e_upd (e_upd S r_Venue_seats 0 0 (S r_Venue_screenCount 0 0 0) x1) r_Venue_hasGear 0 0 (S r_Venue_screenCount 0 0 0) (e_nar 1 x2)) r_Venue_screenCount 0 0 0 (e_wr ((S r_Venue_screenCount 0 0 0) + 1))) r_Venue_screenCount 0 0 0) - 1))]), (e_upd (e_upd (e_upd S r_Venue_seats 0 0 (S r_Venue_screenCount 0 0 0) x1) r_Venue_hasGear 0 0 (S r_Venue_screenCount 0 0 0) (e_nar 1 x2)) r_Venue_screenCount 0 0 0 (e_wr ((S r_Venue_screenCount 0 0 0) + 1))))
  | _ => ((0, []), S)
theorem zE86 {x1 x2 : Int} {S : ZS} : z_ev (z_F zT86) 11 zP86_0 [x1, x2] S = f_Venue_addScreen [x1, x2] S := id rfl
theorem zM86 : z_met 86 2 [(6, (0, 0), (0, 0)), (0, (1, 0), (0, 0)), (0, (2, 0), (0, 0))] f_Venue_addScreen := z_met_ev zH86 (fun _ _ h => absurd h List.not_mem_nil) rfl zG86 (by decide +kernel) (fun L S hn => match L, hn with
  | [x1, x2], _ => zE86)
def zW86 : List Nat := [r_Venue_screenCount, r_Venue_seats, r_Venue_hasGear]
theorem zK86 : z_kp 2 zW86 f_Venue_addScreen := z_kp_ev (KT := []) (.n) (z_h163 rfl) (by decide +kernel) (fun L S hn => match L, hn with
  | [x1, x2], _ => zE86)

-- x_screen (105)
def zT105 : ZT := [(86, 2, [(6, (0, 0), (0, 0)), (0, (1, 0), (0, 0)), (0, (2, 0), (0, 0))], f_Venue_addScreen), (138, 3, [(0, (1, 0), (0, 0)), (0, (2, 0), (0, 0)), (0, (3, 0), (0, 0))], f_x_isWithin)]
theorem zH105 : z_ok zT105 := .c zM86 (.c zM138 .n)
theorem zF105_86 : z_F zT105 86 = f_Venue_addScreen := id rfl
theorem zF105_138 : z_F zT105 138 = f_x_isWithin := id rfl
def zP105_0 : List ZO := [(7, [(138, 0), (1, 0), (0, 1), (0, 9)]), (3, [(1, 0), (5, 0), (3, 0), (0, 0)]), (5, [(258, 0), (0, 0), (0, 0), (0, 0)]), (3, [(2, 0), (2, 0), (4, 0), (0, 4)]), (7, [(86, 0), (1, 0), (2, 0)]), (0, [(5, 0)]), (1, [(2, 0)]), (1, [(1, 0)])]
def zC105 : ZC := [(0, 2, [some (2, (0, 0), (0, 0)), some (0, (1, 0), (0, 0)), some (0, (2, 0), (0, 0))])]
theorem zG105 : z_go zC105 (z_A zT105) [] 105 400 true 9 zP105_0 0 [some (2, (0, 0), (0, 0)), some (0, (1, 0), (0, 0)), some (0, (2, 0), (0, 0))] [] 2 = true := by decide +kernel
def f_x_screen : ZFn := fun L S => match L with
  | [x1, x2] => (bif !decide ((v_x_isWithin x1 1 9 S) = 0) then (bif decide ((S r_Venue_screenCount 0 0 0) < 4) then (e_bind (f_Venue_addScreen [x1, x2] S) (fun v1 S1 => ((0, [v1]), S1))) else ((3, []), S)) else ((2, []), S))
  | _ => ((0, []), S)
theorem zE105 {x1 x2 : Int} {S : ZS} : z_ev (z_F zT105) 9 zP105_0 [x1, x2] S = f_x_screen [x1, x2] S := id rfl
theorem zM105 : z_met 105 2 [(2, (0, 0), (0, 0)), (0, (1, 0), (0, 0)), (0, (2, 0), (0, 0))] f_x_screen := z_met_ev zH105 (fun _ _ h => absurd h List.not_mem_nil) rfl zG105 (by decide +kernel) (fun L S hn => match L, hn with
  | [x1, x2], _ => zE105)
def zW105 : List Nat := [r_Venue_screenCount, r_Venue_seats, r_Venue_hasGear]
theorem zK105 : z_kp 2 zW105 f_x_screen := z_kp_ev (KT := [(86, 2, zW86), (138, 3, zW138)]) (.c zF105_86 zK86 (.c zF105_138 zK138 .n)) (z_h163 rfl) (by decide +kernel) (fun L S hn => match L, hn with
  | [x1, x2], _ => zE105)

-- w_screen (271)
def zT271 : ZT := [(105, 2, [(2, (0, 0), (0, 0)), (0, (1, 0), (0, 0)), (0, (2, 0), (0, 0))], f_x_screen)]
theorem zH271 : z_ok zT271 := .c zM105 .n
theorem zF271_105 : z_F zT271 105 = f_x_screen := id rfl
def zP271_0 : List ZO := [(11, [(105, 0), (2, 0), (1, 2), (2, 3), (1, 0), (2, 0)]), (6, [(6976, 0), (0, 0), (0, 0), (0, 0), (0, 0), (3, 0)]), (0, [(0, 0)]), (0, [(0, 1)]), (0, [(0, 2)])]
def zC271 : ZC := [(0, 2, [some (2, (0, 0), (0, 0)), some (0, (1, 0), (0, 0)), some (0, (2, 0), (0, 0)), some (111, (0, 0), (0, 0)), none])]
theorem zG271 : z_go zC271 (z_A zT271) [] 271 400 true 6 zP271_0 0 [some (2, (0, 0), (0, 0)), some (0, (1, 0), (0, 0)), some (0, (2, 0), (0, 0)), some (111, (0, 0), (0, 0)), none] [] 2 = true := by decide +kernel
def f_w_screen : ZFn := fun L S => match L with
  | [x1, x2] => (e_try (f_x_screen [x1, x2] S) (fun v1 S1 => ((0, [0]), (e_upd S1 r_out 0 0 0 v1))) [(1, 1), (2, 2)])
  | _ => ((0, []), S)
theorem zE271 {x1 x2 : Int} {S : ZS} : z_ev (z_F zT271) 6 zP271_0 [x1, x2] S = f_w_screen [x1, x2] S := id rfl
theorem zM271 : z_met 271 2 [(2, (0, 0), (0, 0)), (0, (1, 0), (0, 0)), (0, (2, 0), (0, 0)), (111, (0, 0), (0, 0))] f_w_screen := z_met_ev zH271 (fun _ _ h => absurd h List.not_mem_nil) rfl zG271 (by decide +kernel) (fun L S hn => match L, hn with
  | [x1, x2], _ => zE271)
def zW271 : List Nat := [r_Venue_screenCount, r_Venue_seats, r_Venue_hasGear, r_out]
theorem zK271 : z_kp 2 zW271 f_w_screen := z_kp_ev (KT := [(105, 2, zW105)]) (.c zF271_105 zK105 .n) (z_h163 rfl) (by decide +kernel) (fun L S hn => match L, hn with
  | [x1, x2], _ => zE271)

-- m_screen (195)
def zT195 : ZT := [(163, 2, [(52, (0, 0), (0, 0)), (0, (1, 0), (0, 0)), (0, (2, 0), (0, 0))], f_m_isThrown), (164, 3, [(0, (1, 0), (0, 0)), (0, (2, 0), (0, 0)), (0, (3, 0), (0, 0))], f_m_isIn)]
theorem zH195 : z_ok zT195 := .c zM163 (.c zM164 .n)
theorem zF195_163 : z_F zT195 163 = f_m_isThrown := id rfl
theorem zF195_164 : z_F zT195 164 = f_m_isIn := id rfl
def zP195_0 : List ZO := [(7, [(164, 0), (1, 0), (0, 1), (0, 9)]), (3, [(1, 0), (16, 0), (3, 0), (0, 0)]), (13, [(163, 0), (0, 0), (0, 0), (0, 1)]), (5, [(3247, 0), (0, 0), (0, 0), (0, 0)]), (3, [(1, 0), (11, 0), (4, 0), (0, 4)]), (13, [(163, 0), (0, 0), (0, 0), (0, 2)]), (5, [(3247, 0), (0, 0), (0, 0), (0, 0)]), (6, [(4672, 0), (0, 0), (0, 0), (0, 0), (5, 0), (1, 0)]), (5, [(3247, 0), (0, 0), (0, 0), (0, 0)]), (6, [(4736, 0), (1, 0), (0, 0), (0, 0), (6, 0), (2, 0)]), (5, [(3247, 0), (0, 0), (0, 0), (0, 0)]), (4, [(0, 0), (7, 0), (0, 1)]), (6, [(3247, 0), (0, 0), (0, 0), (0, 0), (0, 0), (8, 0)]), (5, [(3247, 0), (0, 0), (0, 0), (0, 0)]), (4, [(1, 0), (9, 0), (0, 1)]), (0, [(10, 0)]), (13, [(163, 0), (0, 0), (0, 1), (0, 2)]), (0, [(0, 0)]), (13, [(163, 0), (0, 0), (0, 1), (0, 1)]), (0, [(0, 0)])]
def zC195 : ZC := [(0, 2, [some (52, (0, 0), (0, 0)), some (0, (1, 0), (0, 0)), some (0, (2, 0), (0, 0))])]
theorem zG195 : z_go zC195 (z_A zT195) [(163, 0)] 195 400 true 21 zP195_0 0 [some (52, (0, 0), (0, 0)), some (0, (1, 0), (0, 0)), some (0, (2, 0), (0, 0))] [] 2 = true := by decide +kernel
def f_m_screen : ZFn := fun L S => match L with
  | [x1, x2] => (bif !decide ((v_m_isIn x1 1 9 S) = 0) then (bif !decide ((S r_m_screens 0 0 0) = 4) then ((0, [(e_wr (((e_upd (e_upd (e_upd (e_upd (e_upd S r_m_thrown 0 0 0 0) r_m_thrown 0 0 0 0) r_m_seats 0 0 (S r_m_screens 0 0 0) x1) r_m_haveGear 0 0 (S r_m_screens 0 0 0) (e_nar 1 x2)) r_m_screens 0 0 0 (e_wr ((S r_m_screens 0 0 0) + 1))) r_m_screens 0 0 0) - 1))]), (e_upd (e_upd (e_upd (e_upd (e_upd S r_m_thrown 0 0 0 0) r_m_thrown 0 0 0 0) r_m_seats 0 0 (S r_m_screens 0 0 0) x1) r_m_haveGear 0 0 (S r_m_screens 0 0 0) (e_nar 1 x2)) r_m_screens 0 0 0 (e_wr ((S r_m_screens 0 0 0) + 1)))) else ((0, [0]), (e_upd (e_upd S r_m_thrown 0 0 0 0) r_m_thrown 0 0 0 2))) else ((0, [0]), (e_upd S r_m_thrown 0 0 0 1)))
  | _ => ((0, []), S)
theorem zE195 {x1 x2 : Int} {S : ZS} : z_ev (z_F zT195) 21 zP195_0 [x1, x2] S = f_m_screen [x1, x2] S := by
  simp -implicitDefEqProofs only [zP195_0, zF195_163, zF195_164, zpI0, zpI1, zpIc, pF_m_isIn, Nat.zero_add, Nat.reduceAdd, Nat.reduceBEq, Int.reduceToNat, z_e0, z_e1, z_e2, z_e3, z_e4, z_e5, z_e6, z_e7, z_e8, z_e11, z_e13, o_v0, o_v1, o_v2, List.cons_append, List.nil_append, List.map_cons, List.map_nil, List.drop_succ_cons, List.drop_zero, List.take_succ_cons, List.take_zero, e_c0, e_c1, e_c2, e_c3, e_c4, e_c5, e_b0, e_b1, e_b2, e_b3, e_b4, e_b5, e_b6, e_b7, e_b8, e_b9, e_b10, e_b11, e_b12, e_b13, e_b14, e_b15, e_b16, e_b17, e_n0, e_bnd, e_un]
  try rfl
theorem zM195 : z_met 195 2 [(52, (0, 0), (0, 0)), (0, (1, 0), (0, 0)), (0, (2, 0), (0, 0))] f_m_screen := z_met_ev zH195 (fun _ _ h => by rw [List.mem_singleton] at h; cases h; exact fun _ _ => rfl) rfl zG195 (by decide +kernel) (fun L S hn => match L, hn with
  | [x1, x2], _ => zE195)
def zW195 : List Nat := [r_m_screens, r_m_thrown, r_m_seats, r_m_haveGear]
theorem zK195 : z_kp 2 zW195 f_m_screen := z_kp_ev (KT := [(163, 2, zW163), (164, 3, zW164)]) (.c zF195_163 zK163 (.c zF195_164 zK164 .n)) (fun _ _ => Or.inl rfl) (by decide +kernel) (fun L S hn => match L, hn with
  | [x1, x2], _ => zE195)

-- x_checkHour (150)
def zT150 : ZT := [(138, 3, [(0, (1, 0), (0, 0)), (0, (2, 0), (0, 0)), (0, (3, 0), (0, 0))], f_x_isWithin)]
theorem zH150 : z_ok zT150 := .c zM138 .n
theorem zF150_138 : z_F zT150 138 = f_x_isWithin := id rfl
def zP150_0 : List ZO := [(7, [(138, 0), (1, 0), (0, 0), (0, 49)]), (3, [(1, 0), (1, 0), (2, 0), (0, 0)]), (0, []), (1, [(1, 0)])]
def zC150 : ZC := [(0, 1, [some (2, (0, 0), (0, 0)), some (0, (1, 0), (0, 0))])]
theorem zG150 : z_go zC150 (z_A zT150) [] 150 400 true 5 zP150_0 0 [some (2, (0, 0), (0, 0)), some (0, (1, 0), (0, 0))] [] 1 = true := by decide +kernel
def f_x_checkHour : ZFn := fun L S => match L with
  | [x1] => (bif !decide ((v_x_isWithin x1 0 49 S) = 0) then ((0, []), S) else ((2, []), S))
  | _ => ((0, []), S)
theorem zE150 {x1 : Int} {S : ZS} : z_ev (z_F zT150) 5 zP150_0 [x1] S = f_x_checkHour [x1] S := id rfl
theorem zM150 : z_met 150 1 [(2, (0, 0), (0, 0)), (0, (1, 0), (0, 0))] f_x_checkHour := z_met_ev zH150 (fun _ _ h => absurd h List.not_mem_nil) rfl zG150 (by decide +kernel) (fun L S hn => match L, hn with
  | [x1], _ => zE150)
def zW150 : List Nat := []
theorem zK150 : z_kp 1 zW150 f_x_checkHour := z_kp_ev (KT := [(138, 3, zW138)]) (.c zF150_138 zK138 .n) (z_h163 rfl) (by decide +kernel) (fun L S hn => match L, hn with
  | [x1], _ => zE150)

-- x_print (106)
def zT106 : ZT := [(143, 1, [(2, (0, 0), (0, 0)), (0, (1, 0), (0, 0))], f_x_checkFilm), (150, 1, [(2, (0, 0), (0, 0)), (0, (1, 0), (0, 0))], f_x_checkHour)]
theorem zH106 : z_ok zT106 := .c zM143 (.c zM150 .n)
theorem zF106_143 : z_F zT106 143 = f_x_checkFilm := id rfl
theorem zF106_150 : z_F zT106 150 = f_x_checkHour := id rfl
def zP106_0 : List ZO := [(7, [(143, 0), (1, 0)]), (3, [(0, 0), (9, 0), (2, 0), (0, 114)]), (7, [(150, 0), (3, 0)]), (5, [(199, 0), (1, 0), (0, 0), (0, 0)]), (3, [(0, 0), (3, 0), (6, 0), (0, 45)]), (6, [(199, 0), (0, 0), (1, 0), (0, 0), (0, 0), (2, 0)]), (6, [(200, 0), (0, 0), (1, 0), (0, 0), (0, 0), (3, 0)]), (0, [(0, 0)]), (6, [(199, 0), (0, 0), (1, 0), (0, 0), (0, 0), (2, 0)]), (6, [(200, 0), (0, 0), (1, 0), (0, 0), (0, 0), (3, 0)]), (0, [(0, 1)]), (3, [(0, 0), (9, 0), (2, 0), (0, 100)]), (7, [(150, 0), (3, 0)]), (5, [(199, 0), (1, 0), (0, 0), (0, 0)]), (3, [(0, 0), (3, 0), (6, 0), (0, 45)]), (6, [(199, 0), (0, 0), (1, 0), (0, 0), (0, 0), (2, 0)]), (6, [(200, 0), (0, 0), (1, 0), (0, 0), (0, 0), (3, 0)]), (0, [(0, 0)]), (6, [(199, 0), (0, 0), (1, 0), (0, 0), (0, 0), (2, 0)]), (6, [(200, 0), (0, 0), (1, 0), (0, 0), (0, 0), (3, 0)]), (0, [(0, 1)]), (1, [(1, 0)])]
def zC106 : ZC := [(0, 3, [some (2, (0, 0), (0, 0)), some (0, (1, 0), (0, 0)), some (0, (2, 0), (0, 0)), some (0, (3, 0), (0, 0)), none])]
theorem zG106 : z_go zC106 (z_A zT106) [] 106 400 true 23 zP106_0 0 [some (2, (0, 0), (0, 0)), some (0, (1, 0), (0, 0)), some (0, (2, 0), (0, 0)), some (0, (3, 0), (0, 0)), none] [] 3 = true := by decide +kernel
def f_x_print : ZFn := fun L S => match L with
  | [x1, x2, x3] => (e_bind (f_x_checkFilm [x1] S) (fun v1 S1 => (bif decide (x2 = 114) then (e_bind (f_x_checkHour [x3] S1) (fun v2 S2 => (bif decide ((S2 r_Film_kind x1 0 0) = 45) then ((0, [0]), (e_upd (e_upd S2 r_Film_kind x1 0 0 x2) r_Film_comes x1 0 0 x3)) else ((0, [1]), (e_upd (e_upd S2 r_Film_kind x1 0 0 x2) r_Film_comes x1 0 0 x3))))) else (bif decide (x2 = 100) then (e_bind (f_x_checkHour [x3] S1) (fun v3 S3 => (bif decide ((S3 r_Film_kind x1 0 0) = 45) then ((0, [0]), (e_upd (e_upd S3 r_Film_kind x1 0 0 x2) r_Film_comes x1 0 0 x3)) else ((0, [1]), (e_upd (e_upd S3 r_Film_kind x1 0 0 x2) r_Film_comes x1 0 0 x3))))) else ((2, []), S1)))))
  | _ => ((0, []), S)
theorem zE106 {x1 x2 x3 : Int} {S : ZS} : z_ev (z_F zT106) 23 zP106_0 [x1, x2, x3] S = f_x_print [x1, x2, x3] S := by
  simp -implicitDefEqProofs only [zP106_0, zF106_143, zF106_150, Nat.zero_add, Nat.reduceAdd, Nat.reduceBEq, Int.reduceToNat, z_e0, z_e1, z_e2, z_e3, z_e4, z_e5, z_e6, z_e7, z_e8, z_e11, z_e13, o_v0, o_v1, o_v2, List.cons_append, List.nil_append, List.map_cons, List.map_nil, List.drop_succ_cons, List.drop_zero, List.take_succ_cons, List.take_zero, e_c0, e_c1, e_c2, e_c3, e_c4, e_c5, e_b0, e_b1, e_b2, e_b3, e_b4, e_b5, e_b6, e_b7, e_b8, e_b9, e_b10, e_b11, e_b12, e_b13, e_b14, e_b15, e_b16, e_b17, e_n0, e_bnd, e_un]
  try rfl
theorem zM106 : z_met 106 3 [(2, (0, 0), (0, 0)), (0, (1, 0), (0, 0)), (0, (2, 0), (0, 0)), (0, (3, 0), (0, 0))] f_x_print := z_met_ev zH106 (fun _ _ h => absurd h List.not_mem_nil) rfl zG106 (by decide +kernel) (fun L S hn => match L, hn with
  | [x1, x2, x3], _ => zE106)
def zW106 : List Nat := [r_Film_kind, r_Film_comes]
theorem zK106 : z_kp 3 zW106 f_x_print := z_kp_ev (KT := [(143, 1, zW143), (150, 1, zW150)]) (.c zF106_143 zK143 (.c zF106_150 zK150 .n)) (z_h163 rfl) (by decide +kernel) (fun L S hn => match L, hn with
  | [x1, x2, x3], _ => zE106)

-- w_print (272)
def zT272 : ZT := [(106, 3, [(2, (0, 0), (0, 0)), (0, (1, 0), (0, 0)), (0, (2, 0), (0, 0)), (0, (3, 0), (0, 0))], f_x_print)]
theorem zH272 : z_ok zT272 := .c zM106 .n
theorem zF272_106 : z_F zT272 106 = f_x_print := id rfl
def zP272_0 : List ZO := [(11, [(106, 0), (2, 0), (0, 5), (1, 6), (1, 0), (2, 0), (3, 0)]), (3, [(0, 0), (2, 0), (4, 0), (0, 0)]), (6, [(6976, 0), (0, 0), (0, 0), (0, 0), (0, 0), (0, 0)]), (0, [(0, 0)]), (6, [(6976, 0), (0, 0), (0, 0), (0, 0), (0, 0), (0, 1)]), (0, [(0, 0)]), (0, [(0, 1)]), (0, [(0, 2)])]
def zC272 : ZC := [(0, 3, [some (2, (0, 0), (0, 0)), some (0, (1, 0), (0, 0)), some (0, (2, 0), (0, 0)), some (0, (3, 0), (0, 0)), some (111, (0, 0), (0, 0)), none])]
theorem zG272 : z_go zC272 (z_A zT272) [] 272 400 true 9 zP272_0 0 [some (2, (0, 0), (0, 0)), some (0, (1, 0), (0, 0)), some (0, (2, 0), (0, 0)), some (0, (3, 0), (0, 0)), some (111, (0, 0), (0, 0)), none] [] 3 = true := by decide +kernel
def f_w_print : ZFn := fun L S => match L with
  | [x1, x2, x3] => (e_try (f_x_print [x1, x2, x3] S) (fun v1 S1 => (bif decide (v1 = 0) then ((0, [0]), (e_upd S1 r_out 0 0 0 0)) else ((0, [0]), (e_upd S1 r_out 0 0 0 1)))) [(0, 1), (1, 2)])
  | _ => ((0, []), S)
theorem zE272 {x1 x2 x3 : Int} {S : ZS} : z_ev (z_F zT272) 9 zP272_0 [x1, x2, x3] S = f_w_print [x1, x2, x3] S := id rfl
theorem zM272 : z_met 272 3 [(2, (0, 0), (0, 0)), (0, (1, 0), (0, 0)), (0, (2, 0), (0, 0)), (0, (3, 0), (0, 0)), (111, (0, 0), (0, 0))] f_w_print := z_met_ev zH272 (fun _ _ h => absurd h List.not_mem_nil) rfl zG272 (by decide +kernel) (fun L S hn => match L, hn with
  | [x1, x2, x3], _ => zE272)
def zW272 : List Nat := [r_Film_kind, r_Film_comes, r_out]
theorem zK272 : z_kp 3 zW272 f_w_print := z_kp_ev (KT := [(106, 3, zW106)]) (.c zF272_106 zK106 .n) (z_h163 rfl) (by decide +kernel) (fun L S hn => match L, hn with
  | [x1, x2, x3], _ => zE272)

-- m_isHour (197)
def zT197 : ZT := [(164, 3, [(0, (1, 0), (0, 0)), (0, (2, 0), (0, 0)), (0, (3, 0), (0, 0))], f_m_isIn)]
theorem zH197 : z_ok zT197 := .c zM164 .n
theorem zF197_164 : z_F zT197 164 = f_m_isIn := id rfl
def zP197_0 : List ZO := [(7, [(164, 0), (1, 0), (0, 0), (0, 49)]), (0, [(2, 0)])]
def zC197 : ZC := [(0, 1, [some (0, (1, 0), (0, 0))])]
theorem zG197 : z_go zC197 (z_A zT197) [] 197 400 true 3 zP197_0 0 [some (0, (1, 0), (0, 0))] [] 1 = true := by decide +kernel
def v_m_isHour (x1 : Int) (S : ZS) : Int := (v_m_isIn x1 0 49 S)
def f_m_isHour : ZFn := fun L S => match L with
  | [x1] => ((0, [v_m_isHour x1 S]), S)
  | _ => ((0, []), S)
theorem pF_m_isHour {x1 : Int} {S : ZS} : f_m_isHour [x1] S = ((0, [v_m_isHour x1 S]), S) := id rfl
theorem zE197 {x1 : Int} {S : ZS} : z_ev (z_F zT197) 3 zP197_0 [x1] S = f_m_isHour [x1] S := id rfl
theorem zM197 : z_met 197 1 [(0, (1, 0), (0, 0))] f_m_isHour := z_met_ev zH197 (fun _ _ h => absurd h List.not_mem_nil) rfl zG197 (by decide +kernel) (fun L S hn => match L, hn with
  | [x1], _ => zE197)
def zW197 : List Nat := []
theorem zK197 : z_kp 1 zW197 f_m_isHour := z_kp_ev (KT := [(164, 3, zW164)]) (.c zF197_164 zK164 .n) (z_h163 rfl) (by decide +kernel) (fun L S hn => match L, hn with
  | [x1], _ => zE197)

-- m_print (198)
def zT198 : ZT := [(163, 2, [(52, (0, 0), (0, 0)), (0, (1, 0), (0, 0)), (0, (2, 0), (0, 0))], f_m_isThrown), (166, 1, [(52, (0, 0), (0, 0)), (0, (1, 0), (0, 0))], f_m_isNoFilm), (197, 1, [(0, (1, 0), (0, 0))], f_m_isHour)]
theorem zH198 : z_ok zT198 := .c zM163 (.c zM166 (.c zM197 .n))
theorem zF198_163 : z_F zT198 163 = f_m_isThrown := id rfl
theorem zF198_166 : z_F zT198 166 = f_m_isNoFilm := id rfl
theorem zF198_197 : z_F zT198 197 = f_m_isHour := id rfl
def zP198_0 : List ZO := [(7, [(166, 0), (1, 0)]), (13, [(163, 0), (0, 0), (4, 0), (0, 1)]), (3, [(1, 0), (1, 0), (4, 0), (0, 0)]), (0, [(0, 0)]), (3, [(0, 0), (13, 0), (2, 0), (0, 114)]), (7, [(197, 0), (3, 0)]), (3, [(1, 0), (9, 0), (5, 0), (0, 0)]), (13, [(163, 0), (0, 0), (0, 0), (0, 2)]), (5, [(3712, 0), (0, 0), (0, 0), (1, 0)]), (3, [(0, 0), (3, 0), (6, 0), (0, 0)]), (6, [(3712, 0), (2, 0), (0, 0), (0, 0), (1, 0), (2, 0)]), (6, [(3776, 0), (0, 0), (0, 0), (0, 0), (1, 0), (3, 0)]), (0, [(0, 0)]), (6, [(3712, 0), (2, 0), (0, 0), (0, 0), (1, 0), (2, 0)]), (6, [(3776, 0), (0, 0), (0, 0), (0, 0), (1, 0), (3, 0)]), (0, [(0, 1)]), (13, [(163, 0), (0, 0), (0, 1), (0, 2)]), (0, [(0, 0)]), (3, [(1, 0), (2, 0), (2, 0), (0, 100)]), (13, [(163, 0), (0, 0), (0, 1), (0, 2)]), (0, [(0, 0)]), (7, [(197, 0), (3, 0)]), (3, [(1, 0), (9, 0), (5, 0), (0, 0)]), (13, [(163, 0), (0, 0), (0, 0), (0, 2)]), (5, [(3712, 0), (0, 0), (0, 0), (1, 0)]), (3, [(0, 0), (3, 0), (6, 0), (0, 0)]), (6, [(3712, 0), (2, 0), (0, 0), (0, 0), (1, 0), (2, 0)]), (6, [(3776, 0), (0, 0), (0, 0), (0, 0), (1, 0), (3, 0)]), (0, [(0, 0)]), (6, [(3712, 0), (2, 0), (0, 0), (0, 0), (1, 0), (2, 0)]), (6, [(3776, 0), (0, 0), (0, 0), (0, 0), (1, 0), (3, 0)]), (0, [(0, 1)]), (13, [(163, 0), (0, 0), (0, 1), (0, 2)]), (0, [(0, 0)])]
def zC198 : ZC := [(0, 3, [some (52, (0, 0), (0, 0)), some (0, (1, 0), (0, 0)), some (0, (2, 0), (0, 0)), some (0, (3, 0), (0, 0)), none])]
theorem zG198 : z_go zC198 (z_A zT198) [(163, 0)] 198 400 true 35 zP198_0 0 [some (52, (0, 0), (0, 0)), some (0, (1, 0), (0, 0)), some (0, (2, 0), (0, 0)), some (0, (3, 0), (0, 0)), none] [] 3 = true := by decide +kernel
def f_m_print : ZFn := fun L S => match L with
  | [x1, x2, x3] => (bif !decide ((v_m_isNoFilm x1 S) = 0) then ((0, [0]), (e_upd S r_m_thrown 0 0 0 (bif !decide ((v_m_isNoFilm x1 S) = 0) then 1 else 0))) else (bif decide (x2 = 114) then (bif !decide ((v_m_isHour x3 (e_upd S r_m_thrown 0 0 0 (bif !decide ((v_m_isNoFilm x1 S) = 0) then 1 else 0))) = 0) then (bif decide ((S r_m_prints 0 0 x1) = 0) then ((0, [0]), (e_upd (e_upd (e_upd (e_upd S r_m_thrown 0 0 0 (bif !decide ((v_m_isNoFilm x1 S) = 0) then 1 else 0)) r_m_thrown 0 0 0 0) r_m_prints 0 0 x1 (e_nar 2 x2)) r_m_printHours 0 0 x1 x3)) else ((0, [1]), (e_upd (e_upd (e_upd (e_upd S r_m_thrown 0 0 0 (bif !decide ((v_m_isNoFilm x1 S) = 0) then 1 else 0)) r_m_thrown 0 0 0 0) r_m_prints 0 0 x1 (e_nar 2 x2)) r_m_printHours 0 0 x1 x3))) else ((0, [0]), (e_upd (e_upd S r_m_thrown 0 0 0 (bif !decide ((v_m_isNoFilm x1 S) = 0) then 1 else 0)) r_m_thrown 0 0 0 2))) else (bif !decide (x2 = 100) then ((0, [0]), (e_upd (e_upd S r_m_thrown 0 0 0 (bif !decide ((v_m_isNoFilm x1 S) = 0) then 1 else 0)) r_m_thrown 0 0 0 2)) else (bif !decide ((v_m_isHour x3 (e_upd S r_m_thrown 0 0 0 (bif !decide ((v_m_isNoFilm x1 S) = 0) then 1 else 0))) = 0) then (bif decide ((S r_m_prints 0 0 x1) = 0) then ((0, [0]), (e_upd (e_upd (e_upd (e_upd S r_m_thrown 0 0 0 (bif !decide ((v_m_isNoFilm x1 S) = 0) then 1 else 0)) r_m_thrown 0 0 0 0) r_m_prints 0 0 x1 (e_nar 2 x2)) r_m_printHours 0 0 x1 x3)) else ((0, [1]), (e_upd (e_upd (e_upd (e_upd S r_m_thrown 0 0 0 (bif !decide ((v_m_isNoFilm x1 S) = 0) then 1 else 0)) r_m_thrown 0 0 0 0) r_m_prints 0 0 x1 (e_nar 2 x2)) r_m_printHours 0 0 x1 x3))) else ((0, [0]), (e_upd (e_upd S r_m_thrown 0 0 0 (bif !decide ((v_m_isNoFilm x1 S) = 0) then 1 else 0)) r_m_thrown 0 0 0 2))))))
  | _ => ((0, []), S)
theorem zE198 {x1 x2 x3 : Int} {S : ZS} : z_ev (z_F zT198) 35 zP198_0 [x1, x2, x3] S = f_m_print [x1, x2, x3] S := by
  simp -implicitDefEqProofs only [zP198_0, zF198_163, zF198_166, zF198_197, zpI0, zpI1, zpIc, pF_m_isNoFilm, pF_m_isHour, Nat.zero_add, Nat.reduceAdd, Nat.reduceBEq, Int.reduceToNat, z_e0, z_e1, z_e2, z_e3, z_e4, z_e5, z_e6, z_e7, z_e8, z_e11, z_e13, o_v0, o_v1, o_v2, List.cons_append, List.nil_append, List.map_cons, List.map_nil, List.drop_succ_cons, List.drop_zero, List.take_succ_cons, List.take_zero, e_c0, e_c1, e_c2, e_c3, e_c4, e_c5, e_b0, e_b1, e_b2, e_b3, e_b4, e_b5, e_b6, e_b7, e_b8, e_b9, e_b10, e_b11, e_b12, e_b13, e_b14, e_b15, e_b16, e_b17, e_n0, e_bnd, e_un]
  try rfl
theorem zM198 : z_met 198 3 [(52, (0, 0), (0, 0)), (0, (1, 0), (0, 0)), (0, (2, 0), (0, 0)), (0, (3, 0), (0, 0))] f_m_print := z_met_ev zH198 (fun _ _ h => by rw [List.mem_singleton] at h; cases h; exact fun _ _ => rfl) rfl zG198 (by decide +kernel) (fun L S hn => match L, hn with
  | [x1, x2, x3], _ => zE198)
def zW198 : List Nat := [r_m_thrown, r_m_prints, r_m_printHours]
theorem zK198 : z_kp 3 zW198 f_m_print := z_kp_ev (KT := [(163, 2, zW163), (166, 1, zW166), (197, 1, zW197)]) (.c zF198_163 zK163 (.c zF198_166 zK166 (.c zF198_197 zK197 .n))) (fun _ _ => Or.inl rfl) (by decide +kernel) (fun L S hn => match L, hn with
  | [x1, x2, x3], _ => zE198)

-- x_checkScreen (147)
def zT147 : ZT := [(142, 2, [(0, (1, 0), (0, 0)), (0, (2, 0), (0, 0))], f_x_checkNumber)]
theorem zH147 : z_ok zT147 := .c zM142 .n
theorem zF147_142 : z_F zT147 142 = f_x_checkNumber := id rfl
def zP147_0 : List ZO := [(5, [(258, 0), (0, 0), (0, 0), (0, 0)]), (7, [(142, 0), (1, 0), (2, 0)]), (0, [])]
def zC147 : ZC := [(0, 1, [some (2, (0, 0), (0, 0)), some (0, (1, 0), (0, 0))])]
theorem zG147 : z_go zC147 (z_A zT147) [] 147 400 true 4 zP147_0 0 [some (2, (0, 0), (0, 0)), some (0, (1, 0), (0, 0))] [] 1 = true := by decide +kernel
def f_x_checkScreen : ZFn := fun L S => match L with
  | [x1] => (e_bind (f_x_checkNumber [x1, (S r_Venue_screenCount 0 0 0)] S) (fun v1 S1 => ((0, []), S1)))
  | _ => ((0, []), S)
theorem zE147 {x1 : Int} {S : ZS} : z_ev (z_F zT147) 4 zP147_0 [x1] S = f_x_checkScreen [x1] S := id rfl
theorem zM147 : z_met 147 1 [(2, (0, 0), (0, 0)), (0, (1, 0), (0, 0))] f_x_checkScreen := z_met_ev zH147 (fun _ _ h => absurd h List.not_mem_nil) rfl zG147 (by decide +kernel) (fun L S hn => match L, hn with
  | [x1], _ => zE147)
def zW147 : List Nat := []
theorem zK147 : z_kp 1 zW147 f_x_checkScreen := z_kp_ev (KT := [(142, 2, zW142)]) (.c zF147_142 zK142 .n) (z_h163 rfl) (by decide +kernel) (fun L S hn => match L, hn with
  | [x1], _ => zE147)

-- Venue_addKey (87)
def zT87 : ZT := []
theorem zH87 : z_ok zT87 := .n
def zP87_0 : List ZO := [(5, [(263, 0), (0, 0), (0, 0), (0, 0)]), (6, [(448, 0), (0, 0), (0, 0), (0, 0), (5, 0), (1, 0)]), (5, [(263, 0), (0, 0), (0, 0), (0, 0)]), (6, [(512, 0), (0, 0), (0, 0), (0, 0), (6, 0), (2, 0)]), (5, [(263, 0), (0, 0), (0, 0), (0, 0)]), (6, [(576, 0), (0, 0), (0, 0), (0, 0), (7, 0), (3, 0)]), (5, [(263, 0), (0, 0), (0, 0), (0, 0)]), (6, [(640, 0), (0, 0), (0, 0), (0, 0), (8, 0), (4, 0)]), (5, [(263, 0), (0, 0), (0, 0), (0, 0)]), (4, [(0, 0), (9, 0), (0, 1)]), (6, [(263, 0), (0, 0), (0, 0), (0, 0), (0, 0), (10, 0)]), (5, [(263, 0), (0, 0), (0, 0), (0, 0)]), (0, [(11, 0)])]
def zC87 : ZC := [(0, 4, [some (6, (0, 0), (0, 0)), some (0, (1, 0), (0, 0)), some (0, (2, 0), (0, 0)), some (0, (3, 0), (0, 0)), some (0, (4, 0), (0, 0))])]
theorem zG87 : z_go zC87 (z_A zT87) [] 87 400 true 14 zP87_0 0 [some (6, (0, 0), (0, 0)), some (0, (1, 0), (0, 0)), some (0, (2, 0), (0, 0)), some (0, (3, 0), (0, 0)), some (0, (4, 0), (0, 0))] [] 4 = true := by decide +kernel
def f_Venue_addKey : ZFn := fun L S => match L with
  | [x1, x2, x3, x4] => ((0, [((e_upd (e_upd (e_upd (e_upd (e_upd S r_Venue_keyFilms 0 0 (S r_Venue_keyCount 0 0 0) x1) r_Venue_keyScreens 0 0 (S r_Venue_keyCount 0 0 0) x2) r_Venue_keyFrom 0 0 (S r_Venue_keyCount 0 0 0) x3) r_Venue_keyTo 0 0 (S r_Venue_keyCount 0 0 0) x4) r_Venue_keyCount 0 0 0 (e_wr ((S r_Venue_keyCount 0 0 0) + 1))) r_Venue_keyCount 0 0 0)]), (e_upd (e_upd (e_upd (e_upd (e_upd S r_Venue_keyFilms 0 0 (S r_Venue_keyCount 0 0 0) x1) r_Venue_keyScreens 0 0 (S r_Venue_keyCount 0 0 0) x2) r_Venue_keyFrom 0 0 (S r_Venue_keyCount 0 0 0) x3) r_Venue_keyTo 0 0 (S r_Venue_keyCount 0 0 0) x4) r_Venue_keyCount 0 0 0 (e_wr ((S r_Venue_keyCount 0 0 0) + 1))))
  | _ => ((0, []), S)
theorem zE87 {x1 x2 x3 x4 : Int} {S : ZS} : z_ev (z_F zT87) 14 zP87_0 [x1, x2, x3, x4] S = f_Venue_addKey [x1, x2, x3, x4] S := by
  simp -implicitDefEqProofs only [zP87_0, Nat.zero_add, Nat.reduceAdd, Nat.reduceBEq, Int.reduceToNat, z_e0, z_e1, z_e2, z_e3, z_e4, z_e5, z_e6, z_e7, z_e8, z_e11, z_e13, o_v0, o_v1, o_v2, List.cons_append, List.nil_append, List.map_cons, List.map_nil, List.drop_succ_cons, List.drop_zero, List.take_succ_cons, List.take_zero, e_c0, e_c1, e_c2, e_c3, e_c4, e_c5, e_b0, e_b1, e_b2, e_b3, e_b4, e_b5, e_b6, e_b7, e_b8, e_b9, e_b10, e_b11, e_b12, e_b13, e_b14, e_b15, e_b16, e_b17, e_n0, e_bnd, e_un]
  try rfl
theorem zM87 : z_met 87 4 [(6, (0, 0), (0, 0)), (0, (1, 0), (0, 0)), (0, (2, 0), (0, 0)), (0, (3, 0), (0, 0)), (0, (4, 0), (0, 0))] f_Venue_addKey := z_met_ev zH87 (fun _ _ h => absurd h List.not_mem_nil) rfl zG87 (by decide +kernel) (fun L S hn => match L, hn with
  | [x1, x2, x3, x4], _ => zE87)
def zW87 : List Nat := [r_Venue_keyCount, r_Venue_keyFilms, r_Venue_keyScreens, r_Venue_keyFrom, r_Venue_keyTo]
theorem zK87 : z_kp 4 zW87 f_Venue_addKey := z_kp_ev (KT := []) (.n) (z_h163 rfl) (by decide +kernel) (fun L S hn => match L, hn with
  | [x1, x2, x3, x4], _ => zE87)

-- x_key (107)
def zT107 : ZT := [(87, 4, [(6, (0, 0), (0, 0)), (0, (1, 0), (0, 0)), (0, (2, 0), (0, 0)), (0, (3, 0), (0, 0)), (0, (4, 0), (0, 0))], f_Venue_addKey), (143, 1, [(2, (0, 0), (0, 0)), (0, (1, 0), (0, 0))], f_x_checkFilm), (147, 1, [(2, (0, 0), (0, 0)), (0, (1, 0), (0, 0))], f_x_checkScreen), (150, 1, [(2, (0, 0), (0, 0)), (0, (1, 0), (0, 0))], f_x_checkHour)]
theorem zH107 : z_ok zT107 := .c zM87 (.c zM143 (.c zM147 (.c zM150 .n)))
theorem zF107_87 : z_F zT107 87 = f_Venue_addKey := id rfl
theorem zF107_143 : z_F zT107 143 = f_x_checkFilm := id rfl
theorem zF107_147 : z_F zT107 147 = f_x_checkScreen := id rfl
theorem zF107_150 : z_F zT107 150 = f_x_checkHour := id rfl
def zP107_0 : List ZO := [(7, [(143, 0), (1, 0)]), (7, [(147, 0), (2, 0)]), (7, [(150, 0), (3, 0)]), (7, [(150, 0), (4, 0)]), (3, [(3, 0), (5, 0), (4, 0), (3, 0)]), (5, [(263, 0), (0, 0), (0, 0), (0, 0)]), (3, [(2, 0), (2, 0), (9, 0), (0, 60)]), (7, [(87, 0), (1, 0), (2, 0), (3, 0), (4, 0)]), (0, [(10, 0)]), (1, [(2, 0)]), (1, [(1, 0)])]
def zC107 : ZC := [(0, 4, [some (2, (0, 0), (0, 0)), some (0, (1, 0), (0, 0)), some (0, (2, 0), (0, 0)), some (0, (3, 0), (0, 0)), some (0, (4, 0), (0, 0))])]
theorem zG107 : z_go zC107 (z_A zT107) [] 107 400 true 12 zP107_0 0 [some (2, (0, 0), (0, 0)), some (0, (1, 0), (0, 0)), some (0, (2, 0), (0, 0)), some (0, (3, 0), (0, 0)), some (0, (4, 0), (0, 0))] [] 4 = true := by decide +kernel
def f_x_key : ZFn := fun L S => match L with
  | [x1, x2, x3, x4] => (e_bind (f_x_checkFilm [x1] S) (fun v1 S1 => (e_bind (f_x_checkScreen [x2] S1) (fun v2 S2 => (e_bind (f_x_checkHour [x3] S2) (fun v3 S3 => (e_bind (f_x_checkHour [x4] S3) (fun v4 S4 => (bif decide (x3 ≤ x4) then (bif decide ((S4 r_Venue_keyCount 0 0 0) < 60) then (e_bind (f_Venue_addKey [x1, x2, x3, x4] S4) (fun v5 S5 => ((0, [v5]), S5))) else ((3, []), S4)) else ((2, []), S4))))))))))
  | _ => ((0, []), S)
theorem zE107 {x1 x2 x3 x4 : Int} {S : ZS} : z_ev (z_F zT107) 12 zP107_0 [x1, x2, x3, x4] S = f_x_key [x1, x2, x3, x4] S := id rfl
theorem zM107 : z_met 107 4 [(2, (0, 0), (0, 0)), (0, (1, 0), (0, 0)), (0, (2, 0), (0, 0)), (0, (3, 0), (0, 0)), (0, (4, 0), (0, 0))] f_x_key := z_met_ev zH107 (fun _ _ h => absurd h List.not_mem_nil) rfl zG107 (by decide +kernel) (fun L S hn => match L, hn with
  | [x1, x2, x3, x4], _ => zE107)
def zW107 : List Nat := [r_Venue_keyCount, r_Venue_keyFilms, r_Venue_keyScreens, r_Venue_keyFrom, r_Venue_keyTo]
theorem zK107 : z_kp 4 zW107 f_x_key := z_kp_ev (KT := [(87, 4, zW87), (143, 1, zW143), (147, 1, zW147), (150, 1, zW150)]) (.c zF107_87 zK87 (.c zF107_143 zK143 (.c zF107_147 zK147 (.c zF107_150 zK150 .n)))) (z_h163 rfl) (by decide +kernel) (fun L S hn => match L, hn with
  | [x1, x2, x3, x4], _ => zE107)

-- w_key (273)
def zT273 : ZT := [(107, 4, [(2, (0, 0), (0, 0)), (0, (1, 0), (0, 0)), (0, (2, 0), (0, 0)), (0, (3, 0), (0, 0)), (0, (4, 0), (0, 0))], f_x_key)]
theorem zH273 : z_ok zT273 := .c zM107 .n
theorem zF273_107 : z_F zT273 107 = f_x_key := id rfl
def zP273_0 : List ZO := [(11, [(107, 0), (3, 0), (0, 2), (1, 3), (2, 4), (1, 0), (2, 0), (3, 0), (4, 0)]), (6, [(6976, 0), (0, 0), (0, 0), (0, 0), (0, 0), (5, 0)]), (0, [(0, 0)]), (0, [(0, 1)]), (0, [(0, 2)]), (0, [(0, 3)])]
def zC273 : ZC := [(0, 4, [some (2, (0, 0), (0, 0)), some (0, (1, 0), (0, 0)), some (0, (2, 0), (0, 0)), some (0, (3, 0), (0, 0)), some (0, (4, 0), (0, 0)), some (111, (0, 0), (0, 0)), none])]
theorem zG273 : z_go zC273 (z_A zT273) [] 273 400 true 7 zP273_0 0 [some (2, (0, 0), (0, 0)), some (0, (1, 0), (0, 0)), some (0, (2, 0), (0, 0)), some (0, (3, 0), (0, 0)), some (0, (4, 0), (0, 0)), some (111, (0, 0), (0, 0)), none] [] 4 = true := by decide +kernel
def f_w_key : ZFn := fun L S => match L with
  | [x1, x2, x3, x4] => (e_try (f_x_key [x1, x2, x3, x4] S) (fun v1 S1 => ((0, [0]), (e_upd S1 r_out 0 0 0 v1))) [(0, 1), (1, 2), (2, 3)])
  | _ => ((0, []), S)
theorem zE273 {x1 x2 x3 x4 : Int} {S : ZS} : z_ev (z_F zT273) 7 zP273_0 [x1, x2, x3, x4] S = f_w_key [x1, x2, x3, x4] S := id rfl
theorem zM273 : z_met 273 4 [(2, (0, 0), (0, 0)), (0, (1, 0), (0, 0)), (0, (2, 0), (0, 0)), (0, (3, 0), (0, 0)), (0, (4, 0), (0, 0)), (111, (0, 0), (0, 0))] f_w_key := z_met_ev zH273 (fun _ _ h => absurd h List.not_mem_nil) rfl zG273 (by decide +kernel) (fun L S hn => match L, hn with
  | [x1, x2, x3, x4], _ => zE273)
def zW273 : List Nat := [r_Venue_keyCount, r_Venue_keyFilms, r_Venue_keyScreens, r_Venue_keyFrom, r_Venue_keyTo, r_out]
theorem zK273 : z_kp 4 zW273 f_w_key := z_kp_ev (KT := [(107, 4, zW107)]) (.c zF273_107 zK107 .n) (z_h163 rfl) (by decide +kernel) (fun L S hn => match L, hn with
  | [x1, x2, x3, x4], _ => zE273)

-- m_isNoScreen (196)
def zT196 : ZT := [(164, 3, [(0, (1, 0), (0, 0)), (0, (2, 0), (0, 0)), (0, (3, 0), (0, 0))], f_m_isIn)]
theorem zH196 : z_ok zT196 := .c zM164 .n
theorem zF196_164 : z_F zT196 164 = f_m_isIn := id rfl
def zP196_0 : List ZO := [(5, [(3247, 0), (0, 0), (0, 0), (0, 0)]), (4, [(1, 0), (2, 0), (0, 1)]), (7, [(164, 0), (1, 0), (0, 0), (3, 0)]), (3, [(1, 0), (1, 0), (4, 0), (0, 0)]), (0, [(0, 0)]), (0, [(0, 1)])]
def zC196 : ZC := [(0, 1, [some (52, (0, 0), (0, 0)), some (0, (1, 0), (0, 0))])]
theorem zG196 : z_go zC196 (z_A zT196) [] 196 400 true 7 zP196_0 0 [some (52, (0, 0), (0, 0)), some (0, (1, 0), (0, 0))] [] 1 = true := by decide +kernel
def v_m_isNoScreen (x1 : Int) (S : ZS) : Int := (bif !decide ((v_m_isIn x1 0 (e_wr ((S r_m_screens 0 0 0) - 1)) S) = 0) then 0 else 1)
def f_m_isNoScreen : ZFn := fun L S => match L with
  | [x1] => ((0, [v_m_isNoScreen x1 S]), S)
  | _ => ((0, []), S)
theorem pF_m_isNoScreen {x1 : Int} {S : ZS} : f_m_isNoScreen [x1] S = ((0, [v_m_isNoScreen x1 S]), S) := id rfl
theorem zE196a {x1 : Int} {S : ZS} : z_ev (z_F zT196) 7 zP196_0 [x1] S = (bif !decide ((v_m_isIn x1 0 (e_wr ((S r_m_screens 0 0 0) - 1)) S) = 0) then ((0, [0]), S) else ((0, [1]), S)) := id rfl
theorem zE196 {x1 : Int} {S : ZS} : z_ev (z_F zT196) 7 zP196_0 [x1] S = f_m_isNoScreen [x1] S := zE196a.trans (by
  simp only [z_cv]
  rfl)
theorem zM196 : z_met 196 1 [(52, (0, 0), (0, 0)), (0, (1, 0), (0, 0))] f_m_isNoScreen := z_met_ev zH196 (fun _ _ h => absurd h List.not_mem_nil) rfl zG196 (by decide +kernel) (fun L S hn => match L, hn with
  | [x1], _ => zE196)
def zW196 : List Nat := []
theorem zK196 : z_kp 1 zW196 f_m_isNoScreen := z_kp_ev (KT := [(164, 3, zW164)]) (.c zF196_164 zK164 .n) (z_h163 rfl) (by decide +kernel) (fun L S hn => match L, hn with
  | [x1], _ => zE196)

-- m_key (199)
def zT199 : ZT := [(163, 2, [(52, (0, 0), (0, 0)), (0, (1, 0), (0, 0)), (0, (2, 0), (0, 0))], f_m_isThrown), (164, 3, [(0, (1, 0), (0, 0)), (0, (2, 0), (0, 0)), (0, (3, 0), (0, 0))], f_m_isIn), (166, 1, [(52, (0, 0), (0, 0)), (0, (1, 0), (0, 0))], f_m_isNoFilm), (196, 1, [(52, (0, 0), (0, 0)), (0, (1, 0), (0, 0))], f_m_isNoScreen), (197, 1, [(0, (1, 0), (0, 0))], f_m_isHour)]
theorem zH199 : z_ok zT199 := .c zM163 (.c zM164 (.c zM166 (.c zM196 (.c zM197 .n))))
theorem zF199_163 : z_F zT199 163 = f_m_isThrown := id rfl
theorem zF199_164 : z_F zT199 164 = f_m_isIn := id rfl
theorem zF199_166 : z_F zT199 166 = f_m_isNoFilm := id rfl
theorem zF199_196 : z_F zT199 196 = f_m_isNoScreen := id rfl
theorem zF199_197 : z_F zT199 197 = f_m_isHour := id rfl
def zP199_0 : List ZO := [(7, [(166, 0), (1, 0)]), (3, [(1, 0), (2, 0), (5, 0), (0, 0)]), (13, [(163, 0), (0, 0), (0, 1), (0, 1)]), (0, [(0, 0)]), (7, [(196, 0), (2, 0)]), (3, [(0, 0), (27, 0), (6, 0), (0, 0)]), (13, [(163, 0), (0, 0), (0, 0), (0, 1)]), (7, [(197, 0), (3, 0)]), (3, [(0, 0), (2, 0), (7, 0), (0, 0)]), (13, [(163, 0), (0, 0), (0, 1), (0, 2)]), (0, [(0, 0)]), (7, [(164, 0), (4, 0), (3, 0), (0, 49)]), (3, [(1, 0), (18, 0), (8, 0), (0, 0)]), (13, [(163, 0), (0, 0), (0, 0), (0, 2)]), (5, [(3248, 0), (0, 0), (0, 0), (0, 0)]), (3, [(1, 0), (13, 0), (9, 0), (0, 60)]), (13, [(163, 0), (0, 0), (0, 0), (0, 3)]), (8, []), (6, [(7168, 0), (0, 0), (10, 0), (0, 0), (0, 0), (1, 0)]), (6, [(7168, 0), (0, 0), (10, 0), (0, 0), (0, 1), (2, 0)]), (6, [(7168, 0), (0, 0), (10, 0), (0, 0), (0, 2), (3, 0)]), (6, [(7168, 0), (0, 0), (10, 0), (0, 0), (0, 3), (4, 0)]), (5, [(3248, 0), (0, 0), (0, 0), (0, 0)]), (9, [(7168, 0), (10, 0), (0, 0), (0, 0), (4864, 0), (11, 0), (0, 0), (0, 0), (0, 4)]), (5, [(3248, 0), (0, 0), (0, 0), (0, 0)]), (4, [(0, 0), (12, 0), (0, 1)]), (6, [(3248, 0), (0, 0), (0, 0), (0, 0), (0, 0), (13, 0)]), (5, [(3248, 0), (0, 0), (0, 0), (0, 0)]), (0, [(14, 0)]), (13, [(163, 0), (0, 0), (0, 1), (0, 3)]), (0, [(0, 0)]), (13, [(163, 0), (0, 0), (0, 1), (0, 2)]), (0, [(0, 0)]), (13, [(163, 0), (0, 0), (0, 1), (0, 1)]), (0, [(0, 0)])]
def zC199 : ZC := [(0, 4, [some (52, (0, 0), (0, 0)), some (0, (1, 0), (0, 0)), some (0, (2, 0), (0, 0)), some (0, (3, 0), (0, 0)), some (0, (4, 0), (0, 0)), none])]
theorem zG199 : z_go zC199 (z_A zT199) [(163, 0)] 199 400 true 36 zP199_0 0 [some (52, (0, 0), (0, 0)), some (0, (1, 0), (0, 0)), some (0, (2, 0), (0, 0)), some (0, (3, 0), (0, 0)), some (0, (4, 0), (0, 0)), none] [] 4 = true := by decide +kernel
def f_m_key : ZFn := fun L S => match L with
  | [x1, x2, x3, x4] => (bif !decide ((v_m_isNoFilm x1 S) = 0) then ((0, [0]), (e_upd S r_m_thrown 0 0 0 1)) else (bif decide ((v_m_isNoScreen x2 S) = 0) then (bif decide ((v_m_isHour x3 (e_upd S r_m_thrown 0 0 0 0)) = 0) then ((0, [0]), (e_upd (e_upd S r_m_thrown 0 0 0 0) r_m_thrown 0 0 0 2)) else (bif !decide ((v_m_isIn x4 x3 49 (e_upd S r_m_thrown 0 0 0 0)) = 0) then (bif !decide ((S r_m_keyMany 0 0 0) = 60) then ((0, [((e_upd (e_acp (e_upd (e_upd (e_upd (e_upd (e_upd (e_upd (e_upd (e_upd S r_m_thrown 0 0 0 0) r_m_thrown 0 0 0 0) r_m_thrown 0 0 0 0) z_rA 0 0 0 ((S z_rA 0 0 0) + 1)) r_new (S z_rA 0 0 0) 0 0 x1) r_new (S z_rA 0 0 0) 0 1 x2) r_new (S z_rA 0 0 0) 0 2 x3) r_new (S z_rA 0 0 0) 0 3 x4) r_new (S z_rA 0 0 0) 0 0 r_m_keys_r (S r_m_keyMany 0 0 0) 0 0 4) r_m_keyMany 0 0 0 (e_wr (((e_acp (e_upd (e_upd (e_upd (e_upd (e_upd (e_upd (e_upd (e_upd S r_m_thrown 0 0 0 0) r_m_thrown 0 0 0 0) r_m_thrown 0 0 0 0) z_rA 0 0 0 ((S z_rA 0 0 0) + 1)) r_new (S z_rA 0 0 0) 0 0 x1) r_new (S z_rA 0 0 0) 0 1 x2) r_new (S z_rA 0 0 0) 0 2 x3) r_new (S z_rA 0 0 0) 0 3 x4) r_new (S z_rA 0 0 0) 0 0 r_m_keys_r (S r_m_keyMany 0 0 0) 0 0 4) r_m_keyMany 0 0 0) + 1))) r_m_keyMany 0 0 0)]), (e_upd (e_acp (e_upd (e_upd (e_upd (e_upd (e_upd (e_upd (e_upd (e_upd S r_m_thrown 0 0 0 0) r_m_thrown 0 0 0 0) r_m_thrown 0 0 0 0) z_rA 0 0 0 ((S z_rA 0 0 0) + 1)) r_new (S z_rA 0 0 0) 0 0 x1) r_new (S z_rA 0 0 0) 0 1 x2) r_new (S z_rA 0 0 0) 0 2 x3) r_new (S z_rA 0 0 0) 0 3 x4) r_new (S z_rA 0 0 0) 0 0 r_m_keys_r (S r_m_keyMany 0 0 0) 0 0 4) r_m_keyMany 0 0 0 (e_wr (((e_acp (e_upd (e_upd (e_upd (e_upd (e_upd (e_upd (e_upd (e_upd S r_m_thrown 0 0 0 0) r_m_thrown 0 0 0 0) r_m_thrown 0 0 0 0) z_rA 0 0 0 ((S z_rA 0 0 0) + 1)) r_new (S z_rA 0 0 0) 0 0 x1) r_new (S z_rA 0 0 0) 0 1 x2) r_new (S z_rA 0 0 0) 0 2 x3) r_new (S z_rA 0 0 0) 0 3 x4) r_new (S z_rA 0 0 0) 0 0 r_m_keys_r (S r_m_keyMany 0 0 0) 0 0 4) r_m_keyMany 0 0 0) + 1)))) else ((0, [0]), (e_upd (e_upd (e_upd S r_m_thrown 0 0 0 0) r_m_thrown 0 0 0 0) r_m_thrown 0 0 0 3))) else ((0, [0]), (e_upd (e_upd S r_m_thrown 0 0 0 0) r_m_thrown 0 0 0 2)))) else ((0, [0]), (e_upd S r_m_thrown 0 0 0 1))))
  | _ => ((0, []), S)
theorem zE199 {x1 x2 x3 x4 : Int} {S : ZS} : z_ev (z_F zT199) 36 zP199_0 [x1, x2, x3, x4] S = f_m_key [x1, x2, x3, x4] S := by
  simp -implicitDefEqProofs only [zP199_0, zF199_163, zF199_164, zF199_166, zF199_196, zF199_197, zpI0, zpI1, zpIc, pF_m_isIn, pF_m_isNoFilm, pF_m_isNoScreen, pF_m_isHour, Nat.zero_add, Nat.reduceAdd, Nat.reduceBEq, Int.reduceToNat, z_e0, z_e1, z_e2, z_e3, z_e4, z_e5, z_e6, z_e7, z_e8, z_e11, z_e13, o_v0, o_v1, o_v2, List.cons_append, List.nil_append, List.map_cons, List.map_nil, List.drop_succ_cons, List.drop_zero, List.take_succ_cons, List.take_zero, e_c0, e_c1, e_c2, e_c3, e_c4, e_c5, e_b0, e_b1, e_b2, e_b3, e_b4, e_b5, e_b6, e_b7, e_b8, e_b9, e_b10, e_b11, e_b12, e_b13, e_b14, e_b15, e_b16, e_b17, e_n0, e_bnd, e_un]
  try rfl
theorem zM199 : z_met 199 4 [(52, (0, 0), (0, 0)), (0, (1, 0), (0, 0)), (0, (2, 0), (0, 0)), (0, (3, 0), (0, 0)), (0, (4, 0), (0, 0))] f_m_key := z_met_ev zH199 (fun _ _ h => by rw [List.mem_singleton] at h; cases h; exact fun _ _ => rfl) rfl zG199 (by decide +kernel) (fun L S hn => match L, hn with
  | [x1, x2, x3, x4], _ => zE199)
def zW199 : List Nat := [r_m_keyMany, r_m_thrown, r_m_keys_r, r_new, z_rA]
theorem zK199 : z_kp 4 zW199 f_m_key := z_kp_ev (KT := [(163, 2, zW163), (164, 3, zW164), (166, 1, zW166), (196, 1, zW196), (197, 1, zW197)]) (.c zF199_163 zK163 (.c zF199_164 zK164 (.c zF199_166 zK166 (.c zF199_196 zK196 (.c zF199_197 zK197 .n))))) (fun _ _ => Or.inl rfl) (by decide +kernel) (fun L S hn => match L, hn with
  | [x1, x2, x3, x4], _ => zE199)

-- Venue_isOpenedByKey (88)
def zT88 : ZT := []
theorem zH88 : z_ok zT88 := .n
def zP88_0 : List ZO := [(2, [(3, 0), (1, 0), (2, 0), (3, 0), (0, 0)])]
def zP88_3 : List ZO := [(5, [(263, 0), (0, 0), (0, 0), (0, 0)]), (3, [(3, 0), (1, 0), (4, 0), (5, 0)]), (0, [(0, 0)]), (5, [(448, 0), (0, 0), (0, 0), (4, 0)]), (3, [(1, 0), (2, 0), (6, 0), (1, 0)]), (4, [(0, 0), (4, 0), (0, 1)]), (2, [(3, 0), (1, 0), (2, 0), (3, 0), (7, 0)]), (5, [(512, 0), (0, 0), (0, 0), (4, 0)]), (3, [(1, 0), (2, 0), (7, 0), (2, 0)]), (4, [(0, 0), (4, 0), (0, 1)]), (2, [(3, 0), (1, 0), (2, 0), (3, 0), (8, 0)]), (5, [(576, 0), (0, 0), (0, 0), (4, 0)]), (3, [(2, 0), (2, 0), (3, 0), (8, 0)]), (4, [(0, 0), (4, 0), (0, 1)]), (2, [(3, 0), (1, 0), (2, 0), (3, 0), (9, 0)]), (5, [(640, 0), (0, 0), (0, 0), (4, 0)]), (3, [(4, 0), (2, 0), (3, 0), (9, 0)]), (4, [(0, 0), (4, 0), (0, 1)]), (2, [(3, 0), (1, 0), (2, 0), (3, 0), (10, 0)]), (0, [(0, 1)])]
def zD88 : ZD := [(0, 3, [some (6, (0, 0), (0, 0)), some (0, (1, 0), (0, 0)), some (0, (2, 0), (0, 0)), some (0, (3, 0), (0, 0)), none], 2, zP88_0), (3, 4, [some (6, (0, 0), (0, 0)), some (0, (1, 0), (0, 0)), some (0, (2, 0), (0, 0)), some (0, (3, 0), (0, 0)), some (0, (4, 0), (0, 0))], 21, zP88_3)]
theorem zG88 : z_chk zT88 [] 88 zD88 = true := by decide +kernel
noncomputable def g_Venue_isOpenedByKey (R : ZR) : ZR := z_psi (z_st (z_F zT88) zD88) R
noncomputable def f_Venue_isOpenedByKey : ZFn := fun L S => g_Venue_isOpenedByKey ((1000, L), S)
theorem zM88 : z_met 88 3 [(6, (0, 0), (0, 0)), (0, (1, 0), (0, 0)), (0, (2, 0), (0, 0)), (0, (3, 0), (0, 0))] f_Venue_isOpenedByKey := z_met_psi zH88 (fun _ _ h => absurd h List.not_mem_nil) rfl zG88
theorem zE88_0 {x1 x2 x3 : Int} {S : ZS} : z_st (z_F zT88) zD88 0 [x1, x2, x3] S = ((1003, [x1, x2, x3, 0]), S) := (id rfl : z_st (z_F zT88) zD88 0 [x1, x2, x3] S = z_ev (z_F zT88) 2 zP88_0 [x1, x2, x3] S).trans (id rfl)
theorem g_Venue_isOpenedByKey_0 {x1 x2 x3 : Int} {S : ZS} : g_Venue_isOpenedByKey ((1000, [x1, x2, x3]), S) = (g_Venue_isOpenedByKey ((1003, [x1, x2, x3, 0]), S)) := by
  unfold g_Venue_isOpenedByKey
  refine ((z_psi_go (pc := 0)).trans (congrArg _ zE88_0)).trans ?_
  try simp only [z_psi_c, z_psi_b, z_psi_n, Nat.reduceLT, decide_true]
theorem zE88_3 {x1 x2 x3 x4 : Int} {S : ZS} : z_st (z_F zT88) zD88 3 [x1, x2, x3, x4] S = (bif decide ((S r_Venue_keyCount 0 0 0) ≤ x4) then ((0, [0]), S) else (bif !decide ((S r_Venue_keyFilms 0 0 x4) = x1) then ((1003, [x1, x2, x3, (e_wr (x4 + 1))]), S) else (bif !decide ((S r_Venue_keyScreens 0 0 x4) = x2) then ((1003, [x1, x2, x3, (e_wr (x4 + 1))]), S) else (bif decide (x3 < (S r_Venue_keyFrom 0 0 x4)) then ((1003, [x1, x2, x3, (e_wr (x4 + 1))]), S) else (bif decide ((S r_Venue_keyTo 0 0 x4) < x3) then ((1003, [x1, x2, x3, (e_wr (x4 + 1))]), S) else ((0, [1]), S)))))) := (id rfl : z_st (z_F zT88) zD88 3 [x1, x2, x3, x4] S = z_ev (z_F zT88) 21 zP88_3 [x1, x2, x3, x4] S).trans (by
  simp -implicitDefEqProofs only [zP88_3, Nat.zero_add, Nat.reduceAdd, Nat.reduceBEq, Int.reduceToNat, z_e0, z_e1, z_e2, z_e3, z_e4, z_e5, z_e6, z_e7, z_e8, z_e11, z_e13, o_v0, o_v1, o_v2, List.cons_append, List.nil_append, List.map_cons, List.map_nil, List.drop_succ_cons, List.drop_zero, List.take_succ_cons, List.take_zero, e_c0, e_c1, e_c2, e_c3, e_c4, e_c5, e_b0, e_b1, e_b2, e_b3, e_b4, e_b5, e_b6, e_b7, e_b8, e_b9, e_b10, e_b11, e_b12, e_b13, e_b14, e_b15, e_b16, e_b17, e_n0, e_bnd, e_un]
  try rfl)
theorem g_Venue_isOpenedByKey_3 {x1 x2 x3 x4 : Int} {S : ZS} : g_Venue_isOpenedByKey ((1003, [x1, x2, x3, x4]), S) = (bif decide ((S r_Venue_keyCount 0 0 0) ≤ x4) then ((0, [0]), S) else (bif !decide ((S r_Venue_keyFilms 0 0 x4) = x1) then (g_Venue_isOpenedByKey ((1003, [x1, x2, x3, (e_wr (x4 + 1))]), S)) else (bif !decide ((S r_Venue_keyScreens 0 0 x4) = x2) then (g_Venue_isOpenedByKey ((1003, [x1, x2, x3, (e_wr (x4 + 1))]), S)) else (bif decide (x3 < (S r_Venue_keyFrom 0 0 x4)) then (g_Venue_isOpenedByKey ((1003, [x1, x2, x3, (e_wr (x4 + 1))]), S)) else (bif decide ((S r_Venue_keyTo 0 0 x4) < x3) then (g_Venue_isOpenedByKey ((1003, [x1, x2, x3, (e_wr (x4 + 1))]), S)) else ((0, [1]), S)))))) := by
  unfold g_Venue_isOpenedByKey
  refine ((z_psi_go (pc := 3)).trans (congrArg _ zE88_3)).trans ?_
  try simp only [z_psi_c, z_psi_b, z_psi_n, Nat.reduceLT, decide_true]
def zW88 : List Nat := []
theorem zK88 : z_kp 3 zW88 f_Venue_isOpenedByKey := fun L S hL hc r i j k hr => z_psi_kp (KT := []) (F := z_F zT88) (W := zW88) (D := zD88) (.n) (z_h163 rfl) (by decide +kernel) _ hc r i j k hr

-- Grid_canRun (32)
noncomputable def zT32 : ZT := [(88, 3, [(6, (0, 0), (0, 0)), (0, (1, 0), (0, 0)), (0, (2, 0), (0, 0)), (0, (3, 0), (0, 0))], f_Venue_isOpenedByKey)]
theorem zH32 : z_ok zT32 := .c zM88 .n
theorem zF32_88 : z_F zT32 88 = f_Venue_isOpenedByKey := id rfl
def zP32_0 : List ZO := [(5, [(199, 0), (1, 0), (0, 0), (0, 0)]), (3, [(0, 0), (1, 0), (5, 0), (0, 45)]), (0, [(0, 0)]), (3, [(3, 0), (5, 0), (3, 0), (4, 0)]), (3, [(1, 0), (2, 0), (5, 0), (0, 114)]), (7, [(88, 0), (1, 0), (2, 0), (3, 0)]), (0, [(6, 0)]), (5, [(384, 0), (0, 0), (0, 0), (2, 0)]), (0, [(6, 0)]), (0, [(0, 0)])]
def zC32 : ZC := [(0, 4, [some (3, (0, 0), (0, 0)), some (0, (1, 0), (0, 0)), some (0, (2, 0), (0, 0)), some (0, (3, 0), (0, 0)), some (0, (4, 0), (0, 0)), none])]
theorem zG32 : z_go zC32 (z_A zT32) [] 32 400 true 11 zP32_0 0 [some (3, (0, 0), (0, 0)), some (0, (1, 0), (0, 0)), some (0, (2, 0), (0, 0)), some (0, (3, 0), (0, 0)), some (0, (4, 0), (0, 0)), none] [] 4 = true := by decide +kernel
noncomputable def f_Grid_canRun : ZFn := fun L S => match L with
  | [x1, x2, x3, x4] => (bif decide ((S r_Film_kind x1 0 0) = 45) then ((0, [0]), S) else (bif decide (x4 ≤ x3) then (bif !decide ((S r_Film_kind x1 0 0) = 114) then (e_bind (f_Venue_isOpenedByKey [x1, x2, x3] S) (fun v1 S1 => ((0, [v1]), S1))) else ((0, [(S r_Venue_hasGear 0 0 x2)]), S)) else ((0, [0]), S)))
  | _ => ((0, []), S)
theorem zE32 {x1 x2 x3 x4 : Int} {S : ZS} : z_ev (z_F zT32) 11 zP32_0 [x1, x2, x3, x4] S = f_Grid_canRun [x1, x2, x3, x4] S := id rfl
theorem zM32 : z_met 32 4 [(3, (0, 0), (0, 0)), (0, (1, 0), (0, 0)), (0, (2, 0), (0, 0)), (0, (3, 0), (0, 0)), (0, (4, 0), (0, 0))] f_Grid_canRun := z_met_ev zH32 (fun _ _ h => absurd h List.not_mem_nil) rfl zG32 (by decide +kernel) (fun L S hn => match L, hn with
  | [x1, x2, x3, x4], _ => zE32)
def zW32 : List Nat := []
theorem zK32 : z_kp 4 zW32 f_Grid_canRun := z_kp_ev (KT := [(88, 3, zW88)]) (.c zF32_88 zK88 .n) (z_h163 rfl) (by decide +kernel) (fun L S hn => match L, hn with
  | [x1, x2, x3, x4], _ => zE32)
