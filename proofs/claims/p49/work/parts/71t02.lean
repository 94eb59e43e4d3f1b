/-! What the methods do, by program (wip/s/sgen.py), 2 -/
-- x_even (95)
def zT95 : ZT := [(66, 2, [(28, (0, 0), (0, 0)), (0, (1, 0), (0, 0)), (0, (2, 0), (0, 0))], f_Readings_evenScore), (143, 1, [(2, (0, 0), (0, 0)), (0, (1, 0), (0, 0))], f_x_checkFilm), (144, 1, [(2, (0, 0), (0, 0)), (0, (1, 0), (0, 0))], f_x_checkReader)]
theorem zH95 : z_ok zT95 := .c zM66 (.c zM143 (.c zM144 .n))
theorem zF95_66 : z_F zT95 66 = f_Readings_evenScore := id rfl
theorem zF95_143 : z_F zT95 143 = f_x_checkFilm := id rfl
theorem zF95_144 : z_F zT95 144 = f_x_checkReader := id rfl
def zP95_0 : List ZO := [(7, [(143, 0), (1, 0)]), (7, [(144, 0), (2, 0)]), (5, [(2048, 0), (1, 0), (0, 0), (2, 0)]), (3, [(3, 0), (2, 0), (5, 0), (0, 0)]), (7, [(66, 0), (1, 0), (2, 0)]), (0, [(6, 0)]), (1, [(4, 0)])]
def zC95 : ZC := [(0, 2, [some (2, (0, 0), (0, 0)), some (0, (1, 0), (0, 0)), some (0, (2, 0), (0, 0))])]
theorem zG95 : z_go zC95 (z_A zT95) [] 95 400 true 8 zP95_0 0 [some (2, (0, 0), (0, 0)), some (0, (1, 0), (0, 0)), some (0, (2, 0), (0, 0))] [] 2 = true := by decide +kernel
def f_x_even : ZFn := fun L S => match L with
  | [x1, x2] => (e_bind (f_x_checkFilm [x1] S) (fun v1 S1 => (e_bind (f_x_checkReader [x2] S1) (fun v2 S2 => (bif decide (0 ≤ (S2 r_Readings_marks_r x1 0 x2)) then ((0, [(v_Readings_evenScore x1 x2 S2)]), S2) else ((5, []), S2))))))
  | _ => ((0, []), S)
theorem zE95 {x1 x2 : Int} {S : ZS} : z_ev (z_F zT95) 8 zP95_0 [x1, x2] S = f_x_even [x1, x2] S := id rfl
theorem zM95 : z_met 95 2 [(2, (0, 0), (0, 0)), (0, (1, 0), (0, 0)), (0, (2, 0), (0, 0))] f_x_even := z_met_ev zH95 (fun _ _ h => absurd h List.not_mem_nil) rfl zG95 (by decide +kernel) (fun L S hn => match L, hn with
  | [x1, x2], _ => zE95)
def zW95 : List Nat := []
theorem zK95 : z_kp 2 zW95 f_x_even := z_kp_ev (KT := [(66, 2, zW66), (143, 1, zW143), (144, 1, zW144)]) (.c zF95_66 zK66 (.c zF95_143 zK143 (.c zF95_144 zK144 .n))) (z_h163 rfl) (by decide +kernel) (fun L S hn => match L, hn with
  | [x1, x2], _ => zE95)

-- w_even (261)
def zT261 : ZT := [(95, 2, [(2, (0, 0), (0, 0)), (0, (1, 0), (0, 0)), (0, (2, 0), (0, 0))], f_x_even)]
theorem zH261 : z_ok zT261 := .c zM95 .n
theorem zF261_95 : z_F zT261 95 = f_x_even := id rfl
def zP261_0 : List ZO := [(11, [(95, 0), (2, 0), (0, 2), (4, 3), (1, 0), (2, 0)]), (6, [(6976, 0), (0, 0), (0, 0), (0, 0), (0, 0), (3, 0)]), (0, [(0, 0)]), (0, [(0, 1)]), (0, [(0, 2)])]
def zC261 : ZC := [(0, 2, [some (2, (0, 0), (0, 0)), some (0, (1, 0), (0, 0)), some (0, (2, 0), (0, 0)), some (111, (0, 0), (0, 0)), none])]
theorem zG261 : z_go zC261 (z_A zT261) [] 261 400 true 6 zP261_0 0 [some (2, (0, 0), (0, 0)), some (0, (1, 0), (0, 0)), some (0, (2, 0), (0, 0)), some (111, (0, 0), (0, 0)), none] [] 2 = true := by decide +kernel
def f_w_even : ZFn := fun L S => match L with
  | [x1, x2] => (e_try (f_x_even [x1, x2] S) (fun v1 S1 => ((0, [0]), (e_upd S1 r_out 0 0 0 v1))) [(0, 1), (4, 2)])
  | _ => ((0, []), S)
theorem zE261 {x1 x2 : Int} {S : ZS} : z_ev (z_F zT261) 6 zP261_0 [x1, x2] S = f_w_even [x1, x2] S := id rfl
theorem zM261 : z_met 261 2 [(2, (0, 0), (0, 0)), (0, (1, 0), (0, 0)), (0, (2, 0), (0, 0)), (111, (0, 0), (0, 0))] f_w_even := z_met_ev zH261 (fun _ _ h => absurd h List.not_mem_nil) rfl zG261 (by decide +kernel) (fun L S hn => match L, hn with
  | [x1, x2], _ => zE261)
def zW261 : List Nat := [r_out]
theorem zK261 : z_kp 2 zW261 f_w_even := z_kp_ev (KT := [(95, 2, zW95)]) (.c zF261_95 zK95 .n) (z_h163 rfl) (by decide +kernel) (fun L S hn => match L, hn with
  | [x1, x2], _ => zE261)

-- m_evenOf (176)
def zT176 : ZT := []
theorem zH176 : z_ok zT176 := .n
def zP176_0 : List ZO := [(2, [(8, 0), (1, 0), (2, 0), (0, 0), (0, 0), (0, 0)])]
def zP176_8 : List ZO := [(5, [(3244, 0), (0, 0), (0, 0), (0, 0)]), (3, [(3, 0), (5, 0), (5, 0), (6, 0)]), (5, [(4160, 0), (1, 0), (0, 0), (2, 0)]), (4, [(3, 0), (3, 0), (4, 0)]), (4, [(1, 0), (7, 0), (8, 0)]), (4, [(0, 0), (9, 0), (0, 50)]), (0, [(10, 0)]), (5, [(4160, 0), (5, 0), (0, 0), (2, 0)]), (4, [(8, 0), (0, 0), (7, 0)]), (4, [(0, 0), (3, 0), (8, 0)]), (5, [(4160, 0), (5, 0), (0, 0), (2, 0)]), (3, [(2, 0), (3, 0), (10, 0), (0, 0)]), (4, [(0, 0), (4, 0), (0, 0)]), (4, [(0, 0), (5, 0), (0, 1)]), (2, [(8, 0), (1, 0), (2, 0), (9, 0), (11, 0), (12, 0)]), (4, [(0, 0), (4, 0), (0, 1)]), (4, [(0, 0), (5, 0), (0, 1)]), (2, [(8, 0), (1, 0), (2, 0), (9, 0), (11, 0), (12, 0)])]
def zD176 : ZD := [(0, 2, [some (52, (0, 0), (0, 0)), some (0, (1, 0), (0, 0)), some (0, (2, 0), (0, 0)), none, none, none], 2, zP176_0), (8, 5, [some (52, (0, 0), (0, 0)), some (0, (1, 0), (0, 0)), some (0, (2, 0), (0, 0)), some (0, (3, 0), (0, 0)), some (0, (4, 0), (0, 0)), some (0, (5, 0), (0, 0))], 19, zP176_8)]
theorem zG176 : z_chk zT176 [] 176 zD176 = true := by decide +kernel
noncomputable def g_m_evenOf (R : ZR) : ZR := z_psi (z_st (z_F zT176) zD176) R
noncomputable def f_m_evenOf : ZFn := fun L S => g_m_evenOf ((1000, L), S)
theorem zM176 : z_met 176 2 [(52, (0, 0), (0, 0)), (0, (1, 0), (0, 0)), (0, (2, 0), (0, 0))] f_m_evenOf := z_met_psi zH176 (fun _ _ h => absurd h List.not_mem_nil) rfl zG176
theorem zE176_0 {x1 x2 : Int} {S : ZS} : z_st (z_F zT176) zD176 0 [x1, x2] S = ((1008, [x1, x2, 0, 0, 0]), S) := (id rfl : z_st (z_F zT176) zD176 0 [x1, x2] S = z_ev (z_F zT176) 2 zP176_0 [x1, x2] S).trans (id rfl)
theorem g_m_evenOf_0 {x1 x2 : Int} {S : ZS} : g_m_evenOf ((1000, [x1, x2]), S) = (g_m_evenOf ((1008, [x1, x2, 0, 0, 0]), S)) := by
  unfold g_m_evenOf
  refine ((z_psi_go (pc := 0)).trans (congrArg _ zE176_0)).trans ?_
  try simp only [z_psi_c, z_psi_b, z_psi_n, Nat.reduceLT, decide_true]
theorem zE176_8 {x1 x2 x3 x4 x5 : Int} {S : ZS} : z_st (z_F zT176) zD176 8 [x1, x2, x3, x4, x5] S = (bif decide ((S r_m_films 0 0 0) ≤ x5) then ((0, [(e_wr ((e_wr ((S r_m_scores_r x1 0 x2) - (e_div x3 x4))) + 50))]), S) else (bif decide ((S r_m_scores_r x5 0 x2) < 0) then ((1008, [x1, x2, (e_wr (x3 + (if 0 < (S r_m_scores_r x5 0 x2) then (S r_m_scores_r x5 0 x2) else 0))), (e_wr (x4 + 0)), (e_wr (x5 + 1))]), S) else ((1008, [x1, x2, (e_wr (x3 + (if 0 < (S r_m_scores_r x5 0 x2) then (S r_m_scores_r x5 0 x2) else 0))), (e_wr (x4 + 1)), (e_wr (x5 + 1))]), S))) := (id rfl : z_st (z_F zT176) zD176 8 [x1, x2, x3, x4, x5] S = z_ev (z_F zT176) 19 zP176_8 [x1, x2, x3, x4, x5] S).trans (by
  simp -implicitDefEqProofs only [zP176_8, Nat.zero_add, Nat.reduceAdd, Nat.reduceBEq, Int.reduceToNat, z_e0, z_e1, z_e2, z_e3, z_e4, z_e5, z_e6, z_e7, z_e8, z_e11, z_e13, o_v0, o_v1, o_v2, List.cons_append, List.nil_append, List.map_cons, List.map_nil, List.drop_succ_cons, List.drop_zero, List.take_succ_cons, List.take_zero, e_c0, e_c1, e_c2, e_c3, e_c4, e_c5, e_b0, e_b1, e_b2, e_b3, e_b4, e_b5, e_b6, e_b7, e_b8, e_b9, e_b10, e_b11, e_b12, e_b13, e_b14, e_b15, e_b16, e_b17, e_n0, e_bnd, e_un]
  try rfl)
theorem g_m_evenOf_8 {x1 x2 x3 x4 x5 : Int} {S : ZS} : g_m_evenOf ((1008, [x1, x2, x3, x4, x5]), S) = (bif decide ((S r_m_films 0 0 0) ≤ x5) then ((0, [(e_wr ((e_wr ((S r_m_scores_r x1 0 x2) - (e_div x3 x4))) + 50))]), S) else (bif decide ((S r_m_scores_r x5 0 x2) < 0) then (g_m_evenOf ((1008, [x1, x2, (e_wr (x3 + (if 0 < (S r_m_scores_r x5 0 x2) then (S r_m_scores_r x5 0 x2) else 0))), (e_wr (x4 + 0)), (e_wr (x5 + 1))]), S)) else (g_m_evenOf ((1008, [x1, x2, (e_wr (x3 + (if 0 < (S r_m_scores_r x5 0 x2) then (S r_m_scores_r x5 0 x2) else 0))), (e_wr (x4 + 1)), (e_wr (x5 + 1))]), S)))) := by
  unfold g_m_evenOf
  refine ((z_psi_go (pc := 8)).trans (congrArg _ zE176_8)).trans ?_
  try simp only [z_psi_c, z_psi_b, z_psi_n, Nat.reduceLT, decide_true]
def zW176 : List Nat := []
theorem zK176 : z_kp 2 zW176 f_m_evenOf := fun L S hL hc r i j k hr => z_psi_kp (KT := []) (F := z_F zT176) (W := zW176) (D := zD176) (.n) (z_h163 rfl) (by decide +kernel) _ hc r i j k hr

-- m_even (177)
noncomputable def zT177 : ZT := [(163, 2, [(52, (0, 0), (0, 0)), (0, (1, 0), (0, 0)), (0, (2, 0), (0, 0))], f_m_isThrown), (172, 2, [(52, (0, 0), (0, 0)), (0, (1, 0), (0, 0)), (0, (2, 0), (0, 0))], f_m_isNoReader), (176, 2, [(52, (0, 0), (0, 0)), (0, (1, 0), (0, 0)), (0, (2, 0), (0, 0))], f_m_evenOf)]
theorem zH177 : z_ok zT177 := .c zM163 (.c zM172 (.c zM176 .n))
theorem zF177_163 : z_F zT177 163 = f_m_isThrown := id rfl
theorem zF177_172 : z_F zT177 172 = f_m_isNoReader := id rfl
theorem zF177_176 : z_F zT177 176 = f_m_evenOf := id rfl
def zP177_0 : List ZO := [(7, [(172, 0), (1, 0), (2, 0)]), (3, [(1, 0), (1, 0), (3, 0), (0, 0)]), (0, [(0, 0)]), (5, [(4160, 0), (1, 0), (0, 0), (2, 0)]), (3, [(3, 0), (3, 0), (4, 0), (0, 0)]), (13, [(163, 0), (0, 0), (0, 0), (0, 2)]), (7, [(176, 0), (1, 0), (2, 0)]), (0, [(5, 0)]), (13, [(163, 0), (0, 0), (0, 1), (0, 2)]), (0, [(0, 0)])]
def zC177 : ZC := [(0, 2, [some (52, (0, 0), (0, 0)), some (0, (1, 0), (0, 0)), some (0, (2, 0), (0, 0))])]
theorem zG177 : z_go zC177 (z_A zT177) [(163, 0)] 177 400 true 11 zP177_0 0 [some (52, (0, 0), (0, 0)), some (0, (1, 0), (0, 0)), some (0, (2, 0), (0, 0))] [] 2 = true := by decide +kernel
noncomputable def f_m_even : ZFn := fun L S => match L with
  | [x1, x2] => (e_bind (f_m_isNoReader [x1, x2] S) (fun v1 S1 => (bif !decide (v1 = 0) then ((0, [0]), S1) else (bif decide (0 ≤ (S1 r_m_scores_r x1 0 x2)) then (e_bind (f_m_evenOf [x1, x2] (e_upd S1 r_m_thrown 0 0 0 0)) (fun v2 S2 => ((0, [v2]), S2))) else ((0, [0]), (e_upd S1 r_m_thrown 0 0 0 2))))))
  | _ => ((0, []), S)
theorem zE177 {x1 x2 : Int} {S : ZS} : z_ev (z_F zT177) 11 zP177_0 [x1, x2] S = f_m_even [x1, x2] S := id rfl
theorem zM177 : z_met 177 2 [(52, (0, 0), (0, 0)), (0, (1, 0), (0, 0)), (0, (2, 0), (0, 0))] f_m_even := z_met_ev zH177 (fun _ _ h => by rw [List.mem_singleton] at h; cases h; exact fun _ _ => rfl) rfl zG177 (by decide +kernel) (fun L S hn => match L, hn with
  | [x1, x2], _ => zE177)
def zW177 : List Nat := [r_m_thrown]
theorem zK177 : z_kp 2 zW177 f_m_even := z_kp_ev (KT := [(163, 2, zW163), (172, 2, zW172), (176, 2, zW176)]) (.c zF177_163 zK163 (.c zF177_172 zK172 (.c zF177_176 zK176 .n))) (fun _ _ => Or.inl rfl) (by decide +kernel) (fun L S hn => match L, hn with
  | [x1, x2], _ => zE177)

-- Readings_meanOfEven (67)
def zT67 : ZT := [(66, 2, [(28, (0, 0), (0, 0)), (0, (1, 0), (0, 0)), (0, (2, 0), (0, 0))], f_Readings_evenScore)]
theorem zH67 : z_ok zT67 := .c zM66 .n
theorem zF67_66 : z_F zT67 66 = f_Readings_evenScore := id rfl
def zP67_0 : List ZO := [(2, [(7, 0), (1, 0), (0, 0), (0, 0), (0, 0)])]
def zP67_7 : List ZO := [(5, [(1669, 0), (0, 0), (0, 0), (0, 0)]), (3, [(3, 0), (4, 0), (4, 0), (5, 0)]), (3, [(1, 0), (2, 0), (3, 0), (0, 0)]), (4, [(3, 0), (2, 0), (3, 0)]), (0, [(6, 0)]), (0, [(0, 0)]), (5, [(2048, 0), (1, 0), (0, 0), (4, 0)]), (3, [(2, 0), (2, 0), (6, 0), (0, 0)]), (4, [(0, 0), (4, 0), (0, 1)]), (2, [(7, 0), (1, 0), (2, 0), (3, 0), (7, 0)]), (7, [(66, 0), (1, 0), (4, 0)]), (4, [(0, 0), (2, 0), (7, 0)]), (4, [(0, 0), (3, 0), (0, 1)]), (4, [(0, 0), (4, 0), (0, 1)]), (2, [(7, 0), (1, 0), (8, 0), (9, 0), (10, 0)])]
def zD67 : ZD := [(0, 1, [some (28, (0, 0), (0, 0)), some (0, (1, 0), (0, 0)), none, none, none], 2, zP67_0), (7, 4, [some (28, (0, 0), (0, 0)), some (0, (1, 0), (0, 0)), some (0, (2, 0), (0, 0)), some (0, (3, 0), (0, 0)), some (0, (4, 0), (0, 0))], 16, zP67_7)]
theorem zG67 : z_chk zT67 [] 67 zD67 = true := by decide +kernel
noncomputable def g_Readings_meanOfEven (R : ZR) : ZR := z_psi (z_st (z_F zT67) zD67) R
noncomputable def f_Readings_meanOfEven : ZFn := fun L S => g_Readings_meanOfEven ((1000, L), S)
theorem zM67 : z_met 67 1 [(28, (0, 0), (0, 0)), (0, (1, 0), (0, 0))] f_Readings_meanOfEven := z_met_psi zH67 (fun _ _ h => absurd h List.not_mem_nil) rfl zG67
theorem zE67_0 {x1 : Int} {S : ZS} : z_st (z_F zT67) zD67 0 [x1] S = ((1007, [x1, 0, 0, 0]), S) := (id rfl : z_st (z_F zT67) zD67 0 [x1] S = z_ev (z_F zT67) 2 zP67_0 [x1] S).trans (id rfl)
theorem g_Readings_meanOfEven_0 {x1 : Int} {S : ZS} : g_Readings_meanOfEven ((1000, [x1]), S) = (g_Readings_meanOfEven ((1007, [x1, 0, 0, 0]), S)) := by
  unfold g_Readings_meanOfEven
  refine ((z_psi_go (pc := 0)).trans (congrArg _ zE67_0)).trans ?_
  try simp only [z_psi_c, z_psi_b, z_psi_n, Nat.reduceLT, decide_true]
theorem zE67_7 {x1 x2 x3 x4 : Int} {S : ZS} : z_st (z_F zT67) zD67 7 [x1, x2, x3, x4] S = (bif decide ((S r_Readings_readerCount 0 0 0) ≤ x4) then (bif !decide (x3 = 0) then ((0, [(e_div x2 x3)]), S) else ((0, [0]), S)) else (bif decide ((S r_Readings_marks_r x1 0 x4) < 0) then ((1007, [x1, x2, x3, (e_wr (x4 + 1))]), S) else ((1007, [x1, (e_wr (x2 + (v_Readings_evenScore x1 x4 S))), (e_wr (x3 + 1)), (e_wr (x4 + 1))]), S))) := (id rfl : z_st (z_F zT67) zD67 7 [x1, x2, x3, x4] S = z_ev (z_F zT67) 16 zP67_7 [x1, x2, x3, x4] S).trans (by
  simp -implicitDefEqProofs only [zP67_7, zF67_66, pF_Readings_evenScore, Nat.zero_add, Nat.reduceAdd, Nat.reduceBEq, Int.reduceToNat, z_e0, z_e1, z_e2, z_e3, z_e4, z_e5, z_e6, z_e7, z_e8, z_e11, z_e13, o_v0, o_v1, o_v2, List.cons_append, List.nil_append, List.map_cons, List.map_nil, List.drop_succ_cons, List.drop_zero, List.take_succ_cons, List.take_zero, e_c0, e_c1, e_c2, e_c3, e_c4, e_c5, e_b0, e_b1, e_b2, e_b3, e_b4, e_b5, e_b6, e_b7, e_b8, e_b9, e_b10, e_b11, e_b12, e_b13, e_b14, e_b15, e_b16, e_b17, e_n0, e_bnd, e_un]
  try rfl)
theorem g_Readings_meanOfEven_7 {x1 x2 x3 x4 : Int} {S : ZS} : g_Readings_meanOfEven ((1007, [x1, x2, x3, x4]), S) = (bif decide ((S r_Readings_readerCount 0 0 0) ≤ x4) then (bif !decide (x3 = 0) then ((0, [(e_div x2 x3)]), S) else ((0, [0]), S)) else (bif decide ((S r_Readings_marks_r x1 0 x4) < 0) then (g_Readings_meanOfEven ((1007, [x1, x2, x3, (e_wr (x4 + 1))]), S)) else (g_Readings_meanOfEven ((1007, [x1, (e_wr (x2 + (v_Readings_evenScore x1 x4 S))), (e_wr (x3 + 1)), (e_wr (x4 + 1))]), S)))) := by
  unfold g_Readings_meanOfEven
  refine ((z_psi_go (pc := 7)).trans (congrArg _ zE67_7)).trans ?_
  try simp only [z_psi_c, z_psi_b, z_psi_n, Nat.reduceLT, decide_true]
def zW67 : List Nat := []
theorem zK67 : z_kp 1 zW67 f_Readings_meanOfEven := fun L S hL hc r i j k hr => z_psi_kp (KT := [(66, 2, zW66)]) (F := z_F zT67) (W := zW67) (D := zD67) (.c zF67_66 zK66 .n) (z_h163 rfl) (by decide +kernel) _ hc r i j k hr

-- x_score (96)
noncomputable def zT96 : ZT := [(65, 1, [(28, (0, 0), (0, 0)), (0, (1, 0), (0, 0))], f_Readings_countTold), (67, 1, [(28, (0, 0), (0, 0)), (0, (1, 0), (0, 0))], f_Readings_meanOfEven), (143, 1, [(2, (0, 0), (0, 0)), (0, (1, 0), (0, 0))], f_x_checkFilm)]
theorem zH96 : z_ok zT96 := .c zM65 (.c zM67 (.c zM143 .n))
theorem zF96_65 : z_F zT96 65 = f_Readings_countTold := id rfl
theorem zF96_67 : z_F zT96 67 = f_Readings_meanOfEven := id rfl
theorem zF96_143 : z_F zT96 143 = f_x_checkFilm := id rfl
def zP96_0 : List ZO := [(7, [(143, 0), (1, 0)]), (7, [(65, 0), (1, 0)]), (3, [(1, 0), (2, 0), (3, 0), (0, 0)]), (7, [(67, 0), (1, 0)]), (0, [(4, 0)]), (1, [(4, 0)])]
def zC96 : ZC := [(0, 1, [some (2, (0, 0), (0, 0)), some (0, (1, 0), (0, 0))])]
theorem zG96 : z_go zC96 (z_A zT96) [] 96 400 true 7 zP96_0 0 [some (2, (0, 0), (0, 0)), some (0, (1, 0), (0, 0))] [] 1 = true := by decide +kernel
noncomputable def f_x_score : ZFn := fun L S => match L with
  | [x1] => (e_bind (f_x_checkFilm [x1] S) (fun v1 S1 => (e_bind (f_Readings_countTold [x1] S1) (fun v2 S2 => (bif !decide (v2 = 0) then (e_bind (f_Readings_meanOfEven [x1] S2) (fun v3 S3 => ((0, [v3]), S3))) else ((5, []), S2))))))
  | _ => ((0, []), S)
theorem zE96 {x1 : Int} {S : ZS} : z_ev (z_F zT96) 7 zP96_0 [x1] S = f_x_score [x1] S := id rfl
theorem zM96 : z_met 96 1 [(2, (0, 0), (0, 0)), (0, (1, 0), (0, 0))] f_x_score := z_met_ev zH96 (fun _ _ h => absurd h List.not_mem_nil) rfl zG96 (by decide +kernel) (fun L S hn => match L, hn with
  | [x1], _ => zE96)
def zW96 : List Nat := []
theorem zK96 : z_kp 1 zW96 f_x_score := z_kp_ev (KT := [(65, 1, zW65), (67, 1, zW67), (143, 1, zW143)]) (.c zF96_65 zK65 (.c zF96_67 zK67 (.c zF96_143 zK143 .n))) (z_h163 rfl) (by decide +kernel) (fun L S hn => match L, hn with
  | [x1], _ => zE96)

-- w_score (262)
noncomputable def zT262 : ZT := [(96, 1, [(2, (0, 0), (0, 0)), (0, (1, 0), (0, 0))], f_x_score)]
theorem zH262 : z_ok zT262 := .c zM96 .n
theorem zF262_96 : z_F zT262 96 = f_x_score := id rfl
def zP262_0 : List ZO := [(11, [(96, 0), (2, 0), (0, 2), (4, 3), (1, 0)]), (6, [(6976, 0), (0, 0), (0, 0), (0, 0), (0, 0), (2, 0)]), (0, [(0, 0)]), (0, [(0, 1)]), (0, [(0, 2)])]
def zC262 : ZC := [(0, 1, [some (2, (0, 0), (0, 0)), some (0, (1, 0), (0, 0)), some (111, (0, 0), (0, 0)), none])]
theorem zG262 : z_go zC262 (z_A zT262) [] 262 400 true 6 zP262_0 0 [some (2, (0, 0), (0, 0)), some (0, (1, 0), (0, 0)), some (111, (0, 0), (0, 0)), none] [] 1 = true := by decide +kernel
noncomputable def f_w_score : ZFn := fun L S => match L with
  | [x1] => (e_try (f_x_score [x1] S) (fun v1 S1 => ((0, [0]), (e_upd S1 r_out 0 0 0 v1))) [(0, 1), (4, 2)])
  | _ => ((0, []), S)
theorem zE262 {x1 : Int} {S : ZS} : z_ev (z_F zT262) 6 zP262_0 [x1] S = f_w_score [x1] S := id rfl
theorem zM262 : z_met 262 1 [(2, (0, 0), (0, 0)), (0, (1, 0), (0, 0)), (111, (0, 0), (0, 0))] f_w_score := z_met_ev zH262 (fun _ _ h => absurd h List.not_mem_nil) rfl zG262 (by decide +kernel) (fun L S hn => match L, hn with
  | [x1], _ => zE262)
def zW262 : List Nat := [r_out]
theorem zK262 : z_kp 1 zW262 f_w_score := z_kp_ev (KT := [(96, 1, zW96)]) (.c zF262_96 zK96 .n) (z_h163 rfl) (by decide +kernel) (fun L S hn => match L, hn with
  | [x1], _ => zE262)

-- m_scoreOf (178)
noncomputable def zT178 : ZT := [(174, 1, [(52, (0, 0), (0, 0)), (0, (1, 0), (0, 0))], f_m_scoreMany), (176, 2, [(52, (0, 0), (0, 0)), (0, (1, 0), (0, 0)), (0, (2, 0), (0, 0))], f_m_evenOf)]
theorem zH178 : z_ok zT178 := .c zM174 (.c zM176 .n)
theorem zF178_174 : z_F zT178 174 = f_m_scoreMany := id rfl
theorem zF178_176 : z_F zT178 176 = f_m_evenOf := id rfl
def zP178_0 : List ZO := [(2, [(4, 0), (1, 0), (0, 0), (0, 0)])]
def zP178_4 : List ZO := [(5, [(3245, 0), (0, 0), (0, 0), (0, 0)]), (3, [(3, 0), (3, 0), (3, 0), (4, 0)]), (7, [(174, 0), (1, 0)]), (4, [(3, 0), (2, 0), (5, 0)]), (0, [(6, 0)]), (5, [(4160, 0), (1, 0), (0, 0), (3, 0)]), (3, [(2, 0), (3, 0), (5, 0), (0, 0)]), (4, [(0, 0), (2, 0), (0, 0)]), (4, [(0, 0), (3, 0), (0, 1)]), (2, [(4, 0), (1, 0), (6, 0), (7, 0)]), (7, [(176, 0), (1, 0), (3, 0)]), (4, [(0, 0), (2, 0), (6, 0)]), (4, [(0, 0), (3, 0), (0, 1)]), (2, [(4, 0), (1, 0), (7, 0), (8, 0)])]
def zD178 : ZD := [(0, 1, [some (52, (0, 0), (0, 0)), some (0, (1, 0), (0, 0)), none, none], 2, zP178_0), (4, 3, [some (52, (0, 0), (0, 0)), some (0, (1, 0), (0, 0)), some (0, (2, 0), (0, 0)), some (0, (3, 0), (0, 0))], 15, zP178_4)]
theorem zG178 : z_chk zT178 [] 178 zD178 = true := by decide +kernel
noncomputable def g_m_scoreOf (R : ZR) : ZR := z_psi (z_st (z_F zT178) zD178) R
noncomputable def f_m_scoreOf : ZFn := fun L S => g_m_scoreOf ((1000, L), S)
theorem zM178 : z_met 178 1 [(52, (0, 0), (0, 0)), (0, (1, 0), (0, 0))] f_m_scoreOf := z_met_psi zH178 (fun _ _ h => absurd h List.not_mem_nil) rfl zG178
theorem zE178_0 {x1 : Int} {S : ZS} : z_st (z_F zT178) zD178 0 [x1] S = ((1004, [x1, 0, 0]), S) := (id rfl : z_st (z_F zT178) zD178 0 [x1] S = z_ev (z_F zT178) 2 zP178_0 [x1] S).trans (id rfl)
theorem g_m_scoreOf_0 {x1 : Int} {S : ZS} : g_m_scoreOf ((1000, [x1]), S) = (g_m_scoreOf ((1004, [x1, 0, 0]), S)) := by
  unfold g_m_scoreOf
  refine ((z_psi_go (pc := 0)).trans (congrArg _ zE178_0)).trans ?_
  try simp only [z_psi_c, z_psi_b, z_psi_n, Nat.reduceLT, decide_true]
theorem zE178_4 {x1 x2 x3 : Int} {S : ZS} : z_st (z_F zT178) zD178 4 [x1, x2, x3] S = (bif decide ((S r_m_readers 0 0 0) ≤ x3) then (e_bind (f_m_scoreMany [x1] S) (fun v1 S1 => ((0, [(e_div x2 v1)]), S1))) else (bif decide ((S r_m_scores_r x1 0 x3) < 0) then ((1004, [x1, (e_wr (x2 + 0)), (e_wr (x3 + 1))]), S) else (e_bind (f_m_evenOf [x1, x3] S) (fun v2 S2 => ((1004, [x1, (e_wr (x2 + v2)), (e_wr (x3 + 1))]), S2))))) := (id rfl : z_st (z_F zT178) zD178 4 [x1, x2, x3] S = z_ev (z_F zT178) 15 zP178_4 [x1, x2, x3] S).trans (by
  simp -implicitDefEqProofs only [zP178_4, zF178_174, zF178_176, Nat.zero_add, Nat.reduceAdd, Nat.reduceBEq, Int.reduceToNat, z_e0, z_e1, z_e2, z_e3, z_e4, z_e5, z_e6, z_e7, z_e8, z_e11, z_e13, o_v0, o_v1, o_v2, List.cons_append, List.nil_append, List.map_cons, List.map_nil, List.drop_succ_cons, List.drop_zero, List.take_succ_cons, List.take_zero, e_c0, e_c1, e_c2, e_c3, e_c4, e_c5, e_b0, e_b1, e_b2, e_b3, e_b4, e_b5, e_b6, e_b7, e_b8, e_b9, e_b10, e_b11, e_b12, e_b13, e_b14, e_b15, e_b16, e_b17, e_n0, e_bnd, e_un]
  try rfl)
theorem g_m_scoreOf_4 {x1 x2 x3 : Int} {S : ZS} : g_m_scoreOf ((1004, [x1, x2, x3]), S) = (bif decide ((S r_m_readers 0 0 0) ≤ x3) then (e_bind (f_m_scoreMany [x1] S) (fun v1 S1 => ((0, [(e_div x2 v1)]), S1))) else (bif decide ((S r_m_scores_r x1 0 x3) < 0) then (g_m_scoreOf ((1004, [x1, (e_wr (x2 + 0)), (e_wr (x3 + 1))]), S)) else (e_bind (f_m_evenOf [x1, x3] S) (fun v2 S2 => (g_m_scoreOf ((1004, [x1, (e_wr (x2 + v2)), (e_wr (x3 + 1))]), S2)))))) := by
  unfold g_m_scoreOf
  refine ((z_psi_go (pc := 4)).trans (congrArg _ zE178_4)).trans ?_
  try simp only [z_psi_c, z_psi_b, z_psi_n, Nat.reduceLT, decide_true]
def zW178 : List Nat := []
theorem zK178 : z_kp 1 zW178 f_m_scoreOf := fun L S hL hc r i j k hr => z_psi_kp (KT := [(174, 1, zW174), (176, 2, zW176)]) (F := z_F zT178) (W := zW178) (D := zD178) (.c zF178_174 zK174 (.c zF178_176 zK176 .n)) (z_h163 rfl) (by decide +kernel) _ hc r i j k hr

-- m_score (179)
noncomputable def zT179 : ZT := [(163, 2, [(52, (0, 0), (0, 0)), (0, (1, 0), (0, 0)), (0, (2, 0), (0, 0))], f_m_isThrown), (166, 1, [(52, (0, 0), (0, 0)), (0, (1, 0), (0, 0))], f_m_isNoFilm), (174, 1, [(52, (0, 0), (0, 0)), (0, (1, 0), (0, 0))], f_m_scoreMany), (178, 1, [(52, (0, 0), (0, 0)), (0, (1, 0), (0, 0))], f_m_scoreOf)]
theorem zH179 : z_ok zT179 := .c zM163 (.c zM166 (.c zM174 (.c zM178 .n)))
theorem zF179_163 : z_F zT179 163 = f_m_isThrown := id rfl
theorem zF179_166 : z_F zT179 166 = f_m_isNoFilm := id rfl
theorem zF179_174 : z_F zT179 174 = f_m_scoreMany := id rfl
theorem zF179_178 : z_F zT179 178 = f_m_scoreOf := id rfl
def zP179_0 : List ZO := [(7, [(166, 0), (1, 0)]), (13, [(163, 0), (0, 0), (2, 0), (0, 1)]), (3, [(1, 0), (1, 0), (2, 0), (0, 0)]), (0, [(0, 0)]), (7, [(174, 0), (1, 0)]), (3, [(1, 0), (3, 0), (3, 0), (0, 0)]), (13, [(163, 0), (0, 0), (0, 0), (0, 2)]), (7, [(178, 0), (1, 0)]), (0, [(4, 0)]), (13, [(163, 0), (0, 0), (0, 1), (0, 2)]), (0, [(0, 0)])]
def zC179 : ZC := [(0, 1, [some (52, (0, 0), (0, 0)), some (0, (1, 0), (0, 0))])]
theorem zG179 : z_go zC179 (z_A zT179) [(163, 0)] 179 400 true 12 zP179_0 0 [some (52, (0, 0), (0, 0)), some (0, (1, 0), (0, 0))] [] 1 = true := by decide +kernel
noncomputable def f_m_score : ZFn := fun L S => match L with
  | [x1] => (bif !decide ((v_m_isNoFilm x1 S) = 0) then ((0, [0]), (e_upd S r_m_thrown 0 0 0 (bif !decide ((v_m_isNoFilm x1 S) = 0) then 1 else 0))) else (e_bind (f_m_scoreMany [x1] (e_upd S r_m_thrown 0 0 0 (bif !decide ((v_m_isNoFilm x1 S) = 0) then 1 else 0))) (fun v1 S1 => (bif !decide (v1 = 0) then (e_bind (f_m_scoreOf [x1] (e_upd S1 r_m_thrown 0 0 0 0)) (fun v2 S2 => ((0, [v2]), S2))) else ((0, [0]), (e_upd S1 r_m_thrown 0 0 0 2))))))
  | _ => ((0, []), S)
theorem zE179 {x1 : Int} {S : ZS} : z_ev (z_F zT179) 12 zP179_0 [x1] S = f_m_score [x1] S := id rfl
theorem zM179 : z_met 179 1 [(52, (0, 0), (0, 0)), (0, (1, 0), (0, 0))] f_m_score := z_met_ev zH179 (fun _ _ h => by rw [List.mem_singleton] at h; cases h; exact fun _ _ => rfl) rfl zG179 (by decide +kernel) (fun L S hn => match L, hn with
  | [x1], _ => zE179)
def zW179 : List Nat := [r_m_thrown]
theorem zK179 : z_kp 1 zW179 f_m_score := z_kp_ev (KT := [(163, 2, zW163), (166, 1, zW166), (174, 1, zW174), (178, 1, zW178)]) (.c zF179_163 zK163 (.c zF179_166 zK166 (.c zF179_174 zK174 (.c zF179_178 zK178 .n)))) (fun _ _ => Or.inl rfl) (by decide +kernel) (fun L S hn => match L, hn with
  | [x1], _ => zE179)

-- Readings_spread (68)
def zT68 : ZT := [(66, 2, [(28, (0, 0), (0, 0)), (0, (1, 0), (0, 0)), (0, (2, 0), (0, 0))], f_Readings_evenScore)]
theorem zH68 : z_ok zT68 := .c zM66 .n
theorem zF68_66 : z_F zT68 66 = f_Readings_evenScore := id rfl
def zP68_0 : List ZO := [(2, [(10, 0), (1, 0), (0, 0), (0, 0), (0, 0), (0, 0)])]
def zP68_10 : List ZO := [(5, [(1669, 0), (0, 0), (0, 0), (0, 0)]), (3, [(3, 0), (2, 0), (5, 0), (6, 0)]), (4, [(1, 0), (3, 0), (2, 0)]), (0, [(7, 0)]), (5, [(2048, 0), (1, 0), (0, 0), (5, 0)]), (3, [(2, 0), (2, 0), (7, 0), (0, 0)]), (4, [(0, 0), (5, 0), (0, 1)]), (2, [(10, 0), (1, 0), (2, 0), (3, 0), (4, 0), (8, 0)]), (7, [(66, 0), (1, 0), (5, 0)]), (3, [(0, 0), (6, 0), (4, 0), (0, 0)]), (3, [(0, 0), (2, 0), (4, 0), (0, 0)]), (4, [(0, 0), (5, 0), (0, 1)]), (2, [(10, 0), (1, 0), (8, 0), (8, 0), (0, 1), (9, 0)]), (4, [(8, 0), (3, 0), (8, 0)]), (4, [(0, 0), (5, 0), (0, 1)]), (2, [(10, 0), (1, 0), (8, 0), (9, 0), (0, 1), (10, 0)]), (4, [(7, 0), (2, 0), (8, 0)]), (3, [(0, 0), (2, 0), (4, 0), (0, 0)]), (4, [(0, 0), (5, 0), (0, 1)]), (2, [(10, 0), (1, 0), (9, 0), (8, 0), (0, 1), (10, 0)]), (4, [(8, 0), (3, 0), (8, 0)]), (4, [(0, 0), (5, 0), (0, 1)]), (2, [(10, 0), (1, 0), (9, 0), (10, 0), (0, 1), (11, 0)])]
def zD68 : ZD := [(0, 1, [some (28, (0, 0), (0, 0)), some (0, (1, 0), (0, 0)), none, none, none, none, none], 2, zP68_0), (10, 5, [some (28, (0, 0), (0, 0)), some (0, (1, 0), (0, 0)), some (0, (2, 0), (0, 0)), some (0, (3, 0), (0, 0)), some (0, (4, 0), (0, 0)), some (0, (5, 0), (0, 0)), none], 24, zP68_10)]
theorem zG68 : z_chk zT68 [] 68 zD68 = true := by decide +kernel
noncomputable def g_Readings_spread (R : ZR) : ZR := z_psi (z_st (z_F zT68) zD68) R
noncomputable def f_Readings_spread : ZFn := fun L S => g_Readings_spread ((1000, L), S)
theorem zM68 : z_met 68 1 [(28, (0, 0), (0, 0)), (0, (1, 0), (0, 0))] f_Readings_spread := z_met_psi zH68 (fun _ _ h => absurd h List.not_mem_nil) rfl zG68
theorem zE68_0 {x1 : Int} {S : ZS} : z_st (z_F zT68) zD68 0 [x1] S = ((1010, [x1, 0, 0, 0, 0]), S) := (id rfl : z_st (z_F zT68) zD68 0 [x1] S = z_ev (z_F zT68) 2 zP68_0 [x1] S).trans (id rfl)
theorem g_Readings_spread_0 {x1 : Int} {S : ZS} : g_Readings_spread ((1000, [x1]), S) = (g_Readings_spread ((1010, [x1, 0, 0, 0, 0]), S)) := by
  unfold g_Readings_spread
  refine ((z_psi_go (pc := 0)).trans (congrArg _ zE68_0)).trans ?_
  try simp only [z_psi_c, z_psi_b, z_psi_n, Nat.reduceLT, decide_true]
theorem zE68_10 {x1 x2 x3 x4 x5 : Int} {S : ZS} : z_st (z_F zT68) zD68 10 [x1, x2, x3, x4, x5] S = (bif decide ((S r_Readings_readerCount 0 0 0) ≤ x5) then ((0, [(e_wr (x3 - x2))]), S) else (bif decide ((S r_Readings_marks_r x1 0 x5) < 0) then ((1010, [x1, x2, x3, x4, (e_wr (x5 + 1))]), S) else (bif decide (x4 = 0) then (bif decide (x4 = 0) then ((1010, [x1, (v_Readings_evenScore x1 x5 S), (v_Readings_evenScore x1 x5 S), 1, (e_wr (x5 + 1))]), S) else ((1010, [x1, (v_Readings_evenScore x1 x5 S), (if x3 < (v_Readings_evenScore x1 x5 S) then (v_Readings_evenScore x1 x5 S) else x3), 1, (e_wr (x5 + 1))]), S)) else (bif decide (x4 = 0) then ((1010, [x1, (if (v_Readings_evenScore x1 x5 S) < x2 then (v_Readings_evenScore x1 x5 S) else x2), (v_Readings_evenScore x1 x5 S), 1, (e_wr (x5 + 1))]), S) else ((1010, [x1, (if (v_Readings_evenScore x1 x5 S) < x2 then (v_Readings_evenScore x1 x5 S) else x2), (if x3 < (v_Readings_evenScore x1 x5 S) then (v_Readings_evenScore x1 x5 S) else x3), 1, (e_wr (x5 + 1))]), S))))) := (id rfl : z_st (z_F zT68) zD68 10 [x1, x2, x3, x4, x5] S = z_ev (z_F zT68) 24 zP68_10 [x1, x2, x3, x4, x5] S).trans (by
  simp -implicitDefEqProofs only [zP68_10, zF68_66, pF_Readings_evenScore, Nat.zero_add, Nat.reduceAdd, Nat.reduceBEq, Int.reduceToNat, z_e0, z_e1, z_e2, z_e3, z_e4, z_e5, z_e6, z_e7, z_e8, z_e11, z_e13, o_v0, o_v1, o_v2, List.cons_append, List.nil_append, List.map_cons, List.map_nil, List.drop_succ_cons, List.drop_zero, List.take_succ_cons, List.take_zero, e_c0, e_c1, e_c2, e_c3, e_c4, e_c5, e_b0, e_b1, e_b2, e_b3, e_b4, e_b5, e_b6, e_b7, e_b8, e_b9, e_b10, e_b11, e_b12, e_b13, e_b14, e_b15, e_b16, e_b17, e_n0, e_bnd, e_un]
  try rfl)
theorem g_Readings_spread_10 {x1 x2 x3 x4 x5 : Int} {S : ZS} : g_Readings_spread ((1010, [x1, x2, x3, x4, x5]), S) = (bif decide ((S r_Readings_readerCount 0 0 0) ≤ x5) then ((0, [(e_wr (x3 - x2))]), S) else (bif decide ((S r_Readings_marks_r x1 0 x5) < 0) then (g_Readings_spread ((1010, [x1, x2, x3, x4, (e_wr (x5 + 1))]), S)) else (bif decide (x4 = 0) then (bif decide (x4 = 0) then (g_Readings_spread ((1010, [x1, (v_Readings_evenScore x1 x5 S), (v_Readings_evenScore x1 x5 S), 1, (e_wr (x5 + 1))]), S)) else (g_Readings_spread ((1010, [x1, (v_Readings_evenScore x1 x5 S), (if x3 < (v_Readings_evenScore x1 x5 S) then (v_Readings_evenScore x1 x5 S) else x3), 1, (e_wr (x5 + 1))]), S))) else (bif decide (x4 = 0) then (g_Readings_spread ((1010, [x1, (if (v_Readings_evenScore x1 x5 S) < x2 then (v_Readings_evenScore x1 x5 S) else x2), (v_Readings_evenScore x1 x5 S), 1, (e_wr (x5 + 1))]), S)) else (g_Readings_spread ((1010, [x1, (if (v_Readings_evenScore x1 x5 S) < x2 then (v_Readings_evenScore x1 x5 S) else x2), (if x3 < (v_Readings_evenScore x1 x5 S) then (v_Readings_evenScore x1 x5 S) else x3), 1, (e_wr (x5 + 1))]), S)))))) := by
  unfold g_Readings_spread
  refine ((z_psi_go (pc := 10)).trans (congrArg _ zE68_10)).trans ?_
  try simp only [z_psi_c, z_psi_b, z_psi_n, Nat.reduceLT, decide_true]
def zW68 : List Nat := []
theorem zK68 : z_kp 1 zW68 f_Readings_spread := fun L S hL hc r i j k hr => z_psi_kp (KT := [(66, 2, zW66)]) (F := z_F zT68) (W := zW68) (D := zD68) (.c zF68_66 zK66 .n) (z_h163 rfl) (by decide +kernel) _ hc r i j k hr

-- x_isInQuarrel (97)
noncomputable def zT97 : ZT := [(68, 1, [(28, (0, 0), (0, 0)), (0, (1, 0), (0, 0))], f_Readings_spread), (143, 1, [(2, (0, 0), (0, 0)), (0, (1, 0), (0, 0))], f_x_checkFilm)]
theorem zH97 : z_ok zT97 := .c zM68 (.c zM143 .n)
theorem zF97_68 : z_F zT97 68 = f_Readings_spread := id rfl
theorem zF97_143 : z_F zT97 143 = f_x_checkFilm := id rfl
def zP97_0 : List ZO := [(7, [(143, 0), (1, 0)]), (7, [(68, 0), (1, 0)]), (3, [(5, 0), (1, 0), (3, 0), (0, 30)]), (0, [(0, 0)]), (0, [(0, 1)])]
def zC97 : ZC := [(0, 1, [some (2, (0, 0), (0, 0)), some (0, (1, 0), (0, 0))])]
theorem zG97 : z_go zC97 (z_A zT97) [] 97 400 true 6 zP97_0 0 [some (2, (0, 0), (0, 0)), some (0, (1, 0), (0, 0))] [] 1 = true := by decide +kernel
noncomputable def f_x_isInQuarrel : ZFn := fun L S => match L with
  | [x1] => (e_bind (f_x_checkFilm [x1] S) (fun v1 S1 => (e_bind (f_Readings_spread [x1] S1) (fun v2 S2 => (bif decide (v2 ≤ 30) then ((0, [0]), S2) else ((0, [1]), S2))))))
  | _ => ((0, []), S)
theorem zE97 {x1 : Int} {S : ZS} : z_ev (z_F zT97) 6 zP97_0 [x1] S = f_x_isInQuarrel [x1] S := id rfl
theorem zM97 : z_met 97 1 [(2, (0, 0), (0, 0)), (0, (1, 0), (0, 0))] f_x_isInQuarrel := z_met_ev zH97 (fun _ _ h => absurd h List.not_mem_nil) rfl zG97 (by decide +kernel) (fun L S hn => match L, hn with
  | [x1], _ => zE97)
def zW97 : List Nat := []
theorem zK97 : z_kp 1 zW97 f_x_isInQuarrel := z_kp_ev (KT := [(68, 1, zW68), (143, 1, zW143)]) (.c zF97_68 zK68 (.c zF97_143 zK143 .n)) (z_h163 rfl) (by decide +kernel) (fun L S hn => match L, hn with
  | [x1], _ => zE97)

-- w_isInQuarrel (263)
noncomputable def zT263 : ZT := [(97, 1, [(2, (0, 0), (0, 0)), (0, (1, 0), (0, 0))], f_x_isInQuarrel)]
theorem zH263 : z_ok zT263 := .c zM97 .n
theorem zF263_97 : z_F zT263 97 = f_x_isInQuarrel := id rfl
def zP263_0 : List ZO := [(11, [(97, 0), (1, 0), (0, 5), (1, 0)]), (3, [(0, 0), (2, 0), (2, 0), (0, 0)]), (6, [(6976, 0), (0, 0), (0, 0), (0, 0), (0, 0), (0, 0)]), (0, [(0, 0)]), (6, [(6976, 0), (0, 0), (0, 0), (0, 0), (0, 0), (0, 1)]), (0, [(0, 0)]), (0, [(0, 1)])]
def zC263 : ZC := [(0, 1, [some (2, (0, 0), (0, 0)), some (0, (1, 0), (0, 0)), some (111, (0, 0), (0, 0)), none])]
theorem zG263 : z_go zC263 (z_A zT263) [] 263 400 true 8 zP263_0 0 [some (2, (0, 0), (0, 0)), some (0, (1, 0), (0, 0)), some (111, (0, 0), (0, 0)), none] [] 1 = true := by decide +kernel
noncomputable def f_w_isInQuarrel : ZFn := fun L S => match L with
  | [x1] => (e_try (f_x_isInQuarrel [x1] S) (fun v1 S1 => (bif decide (v1 = 0) then ((0, [0]), (e_upd S1 r_out 0 0 0 0)) else ((0, [0]), (e_upd S1 r_out 0 0 0 1)))) [(0, 1)])
  | _ => ((0, []), S)
theorem zE263 {x1 : Int} {S : ZS} : z_ev (z_F zT263) 8 zP263_0 [x1] S = f_w_isInQuarrel [x1] S := id rfl
theorem zM263 : z_met 263 1 [(2, (0, 0), (0, 0)), (0, (1, 0), (0, 0)), (111, (0, 0), (0, 0))] f_w_isInQuarrel := z_met_ev zH263 (fun _ _ h => absurd h List.not_mem_nil) rfl zG263 (by decide +kernel) (fun L S hn => match L, hn with
  | [x1], _ => zE263)
def zW263 : List Nat := [r_out]
theorem zK263 : z_kp 1 zW263 f_w_isInQuarrel := z_kp_ev (KT := [(97, 1, zW97)]) (.c zF263_97 zK97 .n) (z_h163 rfl) (by decide +kernel) (fun L S hn => match L, hn with
  | [x1], _ => zE263)

-- m_isQuarrel (180)
noncomputable def zT180 : ZT := [(174, 1, [(52, (0, 0), (0, 0)), (0, (1, 0), (0, 0))], f_m_scoreMany), (176, 2, [(52, (0, 0), (0, 0)), (0, (1, 0), (0, 0)), (0, (2, 0), (0, 0))], f_m_evenOf)]
theorem zH180 : z_ok zT180 := .c zM174 (.c zM176 .n)
theorem zF180_174 : z_F zT180 174 = f_m_scoreMany := id rfl
theorem zF180_176 : z_F zT180 176 = f_m_evenOf := id rfl
def zP180_0 : List ZO := [(2, [(9, 0), (1, 0), (0, 2147483647), (0, (-2147483648)), (0, 0)])]
def zP180_9 : List ZO := [(5, [(3245, 0), (0, 0), (0, 0), (0, 0)]), (3, [(3, 0), (7, 0), (4, 0), (5, 0)]), (7, [(174, 0), (1, 0)]), (3, [(5, 0), (1, 0), (6, 0), (0, 0)]), (0, [(0, 0)]), (4, [(1, 0), (3, 0), (2, 0)]), (3, [(5, 0), (1, 0), (7, 0), (0, 30)]), (0, [(0, 0)]), (0, [(0, 1)]), (5, [(4160, 0), (1, 0), (0, 0), (4, 0)]), (3, [(2, 0), (2, 0), (6, 0), (0, 0)]), (4, [(0, 0), (4, 0), (0, 1)]), (2, [(9, 0), (1, 0), (2, 0), (3, 0), (7, 0)]), (7, [(176, 0), (1, 0), (4, 0)]), (4, [(7, 0), (2, 0), (7, 0)]), (7, [(176, 0), (1, 0), (4, 0)]), (4, [(8, 0), (3, 0), (9, 0)]), (4, [(0, 0), (4, 0), (0, 1)]), (2, [(9, 0), (1, 0), (8, 0), (10, 0), (11, 0)])]
def zD180 : ZD := [(0, 1, [some (52, (0, 0), (0, 0)), some (0, (1, 0), (0, 0)), none, none, none], 2, zP180_0), (9, 4, [some (52, (0, 0), (0, 0)), some (0, (1, 0), (0, 0)), some (0, (2, 0), (0, 0)), some (0, (3, 0), (0, 0)), some (0, (4, 0), (0, 0))], 20, zP180_9)]
theorem zG180 : z_chk zT180 [] 180 zD180 = true := by decide +kernel
noncomputable def g_m_isQuarrel (R : ZR) : ZR := z_psi (z_st (z_F zT180) zD180) R
noncomputable def f_m_isQuarrel : ZFn := fun L S => g_m_isQuarrel ((1000, L), S)
theorem zM180 : z_met 180 1 [(52, (0, 0), (0, 0)), (0, (1, 0), (0, 0))] f_m_isQuarrel := z_met_psi zH180 (fun _ _ h => absurd h List.not_mem_nil) rfl zG180
theorem zE180_0 {x1 : Int} {S : ZS} : z_st (z_F zT180) zD180 0 [x1] S = ((1009, [x1, 2147483647, (-2147483648), 0]), S) := (id rfl : z_st (z_F zT180) zD180 0 [x1] S = z_ev (z_F zT180) 2 zP180_0 [x1] S).trans (id rfl)
theorem g_m_isQuarrel_0 {x1 : Int} {S : ZS} : g_m_isQuarrel ((1000, [x1]), S) = (g_m_isQuarrel ((1009, [x1, 2147483647, (-2147483648), 0]), S)) := by
  unfold g_m_isQuarrel
  refine ((z_psi_go (pc := 0)).trans (congrArg _ zE180_0)).trans ?_
  try simp only [z_psi_c, z_psi_b, z_psi_n, Nat.reduceLT, decide_true]
theorem zE180_9 {x1 x2 x3 x4 : Int} {S : ZS} : z_st (z_F zT180) zD180 9 [x1, x2, x3, x4] S = (bif decide ((S r_m_readers 0 0 0) ≤ x4) then (e_bind (f_m_scoreMany [x1] S) (fun v1 S1 => (bif decide (v1 ≤ 0) then ((0, [0]), S1) else (bif decide ((e_wr (x3 - x2)) ≤ 30) then ((0, [0]), S1) else ((0, [1]), S1))))) else (bif decide ((S r_m_scores_r x1 0 x4) < 0) then ((1009, [x1, x2, x3, (e_wr (x4 + 1))]), S) else (e_bind (f_m_evenOf [x1, x4] S) (fun v2 S2 => (e_bind (f_m_evenOf [x1, x4] S2) (fun v3 S3 => ((1009, [x1, (if v2 < x2 then v2 else x2), (if x3 < v3 then v3 else x3), (e_wr (x4 + 1))]), S3))))))) := (id rfl : z_st (z_F zT180) zD180 9 [x1, x2, x3, x4] S = z_ev (z_F zT180) 20 zP180_9 [x1, x2, x3, x4] S).trans (by
  simp -implicitDefEqProofs only [zP180_9, zF180_174, zF180_176, Nat.zero_add, Nat.reduceAdd, Nat.reduceBEq, Int.reduceToNat, z_e0, z_e1, z_e2, z_e3, z_e4, z_e5, z_e6, z_e7, z_e8, z_e11, z_e13, o_v0, o_v1, o_v2, List.cons_append, List.nil_append, List.map_cons, List.map_nil, List.drop_succ_cons, List.drop_zero, List.take_succ_cons, List.take_zero, e_c0, e_c1, e_c2, e_c3, e_c4, e_c5, e_b0, e_b1, e_b2, e_b3, e_b4, e_b5, e_b6, e_b7, e_b8, e_b9, e_b10, e_b11, e_b12, e_b13, e_b14, e_b15, e_b16, e_b17, e_n0, e_bnd, e_un]
  try rfl)
theorem g_m_isQuarrel_9 {x1 x2 x3 x4 : Int} {S : ZS} : g_m_isQuarrel ((1009, [x1, x2, x3, x4]), S) = (bif decide ((S r_m_readers 0 0 0) ≤ x4) then (e_bind (f_m_scoreMany [x1] S) (fun v1 S1 => (bif decide (v1 ≤ 0) then ((0, [0]), S1) else (bif decide ((e_wr (x3 - x2)) ≤ 30) then ((0, [0]), S1) else ((0, [1]), S1))))) else (bif decide ((S r_m_scores_r x1 0 x4) < 0) then (g_m_isQuarrel ((1009, [x1, x2, x3, (e_wr (x4 + 1))]), S)) else (e_bind (f_m_evenOf [x1, x4] S) (fun v2 S2 => (e_bind (f_m_evenOf [x1, x4] S2) (fun v3 S3 => (g_m_isQuarrel ((1009, [x1, (if v2 < x2 then v2 else x2), (if x3 < v3 then v3 else x3), (e_wr (x4 + 1))]), S3)))))))) := by
  unfold g_m_isQuarrel
  refine ((z_psi_go (pc := 9)).trans (congrArg _ zE180_9)).trans ?_
  try simp only [z_psi_c, z_psi_b, z_psi_n, Nat.reduceLT, decide_true]
def zW180 : List Nat := []
theorem zK180 : z_kp 1 zW180 f_m_isQuarrel := fun L S hL hc r i j k hr => z_psi_kp (KT := [(174, 1, zW174), (176, 2, zW176)]) (F := z_F zT180) (W := zW180) (D := zD180) (.c zF180_174 zK174 (.c zF180_176 zK176 .n)) (z_h163 rfl) (by decide +kernel) _ hc r i j k hr

-- m_isInQuarrel (181)
noncomputable def zT181 : ZT := [(163, 2, [(52, (0, 0), (0, 0)), (0, (1, 0), (0, 0)), (0, (2, 0), (0, 0))], f_m_isThrown), (166, 1, [(52, (0, 0), (0, 0)), (0, (1, 0), (0, 0))], f_m_isNoFilm), (180, 1, [(52, (0, 0), (0, 0)), (0, (1, 0), (0, 0))], f_m_isQuarrel)]
theorem zH181 : z_ok zT181 := .c zM163 (.c zM166 (.c zM180 .n))
theorem zF181_163 : z_F zT181 163 = f_m_isThrown := id rfl
theorem zF181_166 : z_F zT181 166 = f_m_isNoFilm := id rfl
theorem zF181_180 : z_F zT181 180 = f_m_isQuarrel := id rfl
def zP181_0 : List ZO := [(7, [(166, 0), (1, 0)]), (13, [(163, 0), (0, 0), (2, 0), (0, 1)]), (3, [(1, 0), (1, 0), (2, 0), (0, 0)]), (0, [(0, 0)]), (7, [(180, 0), (1, 0)]), (3, [(0, 0), (1, 0), (3, 0), (0, 0)]), (0, [(0, 0)]), (0, [(0, 1)])]
def zC181 : ZC := [(0, 1, [some (52, (0, 0), (0, 0)), some (0, (1, 0), (0, 0))])]
theorem zG181 : z_go zC181 (z_A zT181) [(163, 0)] 181 400 true 9 zP181_0 0 [some (52, (0, 0), (0, 0)), some (0, (1, 0), (0, 0))] [] 1 = true := by decide +kernel
noncomputable def f_m_isInQuarrel : ZFn := fun L S => match L with
  | [x1] => (bif !decide ((v_m_isNoFilm x1 S) = 0) then ((0, [0]), (e_upd S r_m_thrown 0 0 0 (bif !decide ((v_m_isNoFilm x1 S) = 0) then 1 else 0))) else (e_bind (f_m_isQuarrel [x1] (e_upd S r_m_thrown 0 0 0 (bif !decide ((v_m_isNoFilm x1 S) = 0) then 1 else 0))) (fun v1 S1 => (bif decide (v1 = 0) then ((0, [0]), S1) else ((0, [1]), S1)))))
  | _ => ((0, []), S)
theorem zE181 {x1 : Int} {S : ZS} : z_ev (z_F zT181) 9 zP181_0 [x1] S = f_m_isInQuarrel [x1] S := id rfl
theorem zM181 : z_met 181 1 [(52, (0, 0), (0, 0)), (0, (1, 0), (0, 0))] f_m_isInQuarrel := z_met_ev zH181 (fun _ _ h => by rw [List.mem_singleton] at h; cases h; exact fun _ _ => rfl) rfl zG181 (by decide +kernel) (fun L S hn => match L, hn with
  | [x1], _ => zE181)
def zW181 : List Nat := [r_m_thrown]
theorem zK181 : z_kp 1 zW181 f_m_isInQuarrel := z_kp_ev (KT := [(163, 2, zW163), (166, 1, zW166), (180, 1, zW180)]) (.c zF181_163 zK163 (.c zF181_166 zK166 (.c zF181_180 zK180 .n))) (fun _ _ => Or.inl rfl) (by decide +kernel) (fun L S hn => match L, hn with
  | [x1], _ => zE181)

-- Film_showElsewhere (25)
def zT25 : ZT := []
theorem zH25 : z_ok zT25 := .n
def zP25_0 : List ZO := [(3, [(1, 0), (9, 0), (2, 0), (0, 97)]), (3, [(1, 0), (4, 0), (2, 0), (0, 108)]), (5, [(197, 0), (1, 0), (0, 0), (0, 0)]), (4, [(7, 0), (3, 0), (0, 0)]), (6, [(197, 0), (0, 0), (1, 0), (0, 0), (0, 0), (4, 0)]), (0, []), (5, [(197, 0), (1, 0), (0, 0), (0, 0)]), (4, [(7, 0), (3, 0), (0, 1)]), (6, [(197, 0), (0, 0), (1, 0), (0, 0), (0, 0), (4, 0)]), (0, []), (5, [(197, 0), (1, 0), (0, 0), (0, 0)]), (4, [(7, 0), (3, 0), (0, 2)]), (6, [(197, 0), (0, 0), (1, 0), (0, 0), (0, 0), (4, 0)]), (0, [])]
def zC25 : ZC := [(0, 2, [some (5, (1, 0), (0, 0)), some (0, (2, 0), (0, 0)), none])]
theorem zG25 : z_go zC25 (z_A zT25) [] 25 400 true 15 zP25_0 0 [some (5, (1, 0), (0, 0)), some (0, (2, 0), (0, 0)), none] [] 2 = true := by decide +kernel
def f_Film_showElsewhere : ZFn := fun L S => match L with
  | [x1, x2] => (bif !decide (x2 = 97) then (bif !decide (x2 = 108) then ((0, []), (e_upd S r_Film_stillIs x1 0 0 (if 0 < (S r_Film_stillIs x1 0 0) then 0 else (S r_Film_stillIs x1 0 0)))) else ((0, []), (e_upd S r_Film_stillIs x1 0 0 (if 1 < (S r_Film_stillIs x1 0 0) then 1 else (S r_Film_stillIs x1 0 0))))) else ((0, []), (e_upd S r_Film_stillIs x1 0 0 (if 2 < (S r_Film_stillIs x1 0 0) then 2 else (S r_Film_stillIs x1 0 0)))))
  | _ => ((0, []), S)
theorem zE25 {x1 x2 : Int} {S : ZS} : z_ev (z_F zT25) 15 zP25_0 [x1, x2] S = f_Film_showElsewhere [x1, x2] S := by
  simp -implicitDefEqProofs only [zP25_0, Nat.zero_add, Nat.reduceAdd, Nat.reduceBEq, Int.reduceToNat, z_e0, z_e1, z_e2, z_e3, z_e4, z_e5, z_e6, z_e7, z_e8, z_e11, z_e13, o_v0, o_v1, o_v2, List.cons_append, List.nil_append, List.map_cons, List.map_nil, List.drop_succ_cons, List.drop_zero, List.take_succ_cons, List.take_zero, e_c0, e_c1, e_c2, e_c3, e_c4, e_c5, e_b0, e_b1, e_b2, e_b3, e_b4, e_b5, e_b6, e_b7, e_b8, e_b9, e_b10, e_b11, e_b12, e_b13, e_b14, e_b15, e_b16, e_b17, e_n0, e_bnd, e_un]
  try rfl
theorem zM25 : z_met 25 2 [(5, (1, 0), (0, 0)), (0, (2, 0), (0, 0))] f_Film_showElsewhere := z_met_ev zH25 (fun _ _ h => absurd h List.not_mem_nil) rfl zG25 (by decide +kernel) (fun L S hn => match L, hn with
  | [x1, x2], _ => zE25)
def zW25 : List Nat := [r_Film_stillIs]
theorem zK25 : z_kp 2 zW25 f_Film_showElsewhere := z_kp_ev (KT := []) (.n) (z_h163 rfl) (by decide +kernel) (fun L S hn => match L, hn with
  | [x1, x2], _ => zE25)

-- x_premiereOf (141)
def zT141 : ZT := []
theorem zH141 : z_ok zT141 := .n
def zP141_0 : List ZO := [(3, [(1, 0), (5, 0), (1, 0), (0, 3)]), (3, [(1, 0), (3, 0), (1, 0), (0, 2)]), (3, [(1, 0), (1, 0), (1, 0), (0, 1)]), (0, [(0, 45)]), (0, [(0, 116)]), (0, [(0, 108)]), (0, [(0, 119)])]
def zC141 : ZC := [(0, 1, [some (0, (1, 0), (0, 0))])]
theorem zG141 : z_go zC141 (z_A zT141) [] 141 400 true 8 zP141_0 0 [some (0, (1, 0), (0, 0))] [] 1 = true := by decide +kernel
def v_x_premiereOf (x1 : Int) (S : ZS) : Int := (bif !decide (x1 = 3) then (bif !decide (x1 = 2) then (bif !decide (x1 = 1) then 45 else 116) else 108) else 119)
def f_x_premiereOf : ZFn := fun L S => match L with
  | [x1] => ((0, [v_x_premiereOf x1 S]), S)
  | _ => ((0, []), S)
theorem pF_x_premiereOf {x1 : Int} {S : ZS} : f_x_premiereOf [x1] S = ((0, [v_x_premiereOf x1 S]), S) := id rfl
theorem zE141a {x1 : Int} {S : ZS} : z_ev (z_F zT141) 8 zP141_0 [x1] S = (bif !decide (x1 = 3) then (bif !decide (x1 = 2) then (bif !decide (x1 = 1) then ((0, [45]), S) else ((0, [116]), S)) else ((0, [108]), S)) else ((0, [119]), S)) := id rfl
theorem zE141 {x1 : Int} {S : ZS} : z_ev (z_F zT141) 8 zP141_0 [x1] S = f_x_premiereOf [x1] S := zE141a.trans (by
  simp only [z_cv]
  rfl)
theorem zM141 : z_met 141 1 [(0, (1, 0), (0, 0))] f_x_premiereOf := z_met_ev zH141 (fun _ _ h => absurd h List.not_mem_nil) rfl zG141 (by decide +kernel) (fun L S hn => match L, hn with
  | [x1], _ => zE141)
def zW141 : List Nat := []
theorem zK141 : z_kp 1 zW141 f_x_premiereOf := z_kp_ev (KT := []) (.n) (z_h163 rfl) (by decide +kernel) (fun L S hn => match L, hn with
  | [x1], _ => zE141)

-- x_rival (98)
def zT98 : ZT := [(25, 2, [(5, (1, 0), (0, 0)), (0, (2, 0), (0, 0))], f_Film_showElsewhere), (141, 1, [(0, (1, 0), (0, 0))], f_x_premiereOf), (143, 1, [(2, (0, 0), (0, 0)), (0, (1, 0), (0, 0))], f_x_checkFilm)]
theorem zH98 : z_ok zT98 := .c zM25 (.c zM141 (.c zM143 .n))
theorem zF98_25 : z_F zT98 25 = f_Film_showElsewhere := id rfl
theorem zF98_141 : z_F zT98 141 = f_x_premiereOf := id rfl
theorem zF98_143 : z_F zT98 143 = f_x_checkFilm := id rfl
def zP98_0 : List ZO := [(7, [(143, 0), (1, 0)]), (3, [(0, 0), (4, 0), (2, 0), (0, 97)]), (7, [(25, 0), (1, 0), (2, 0)]), (5, [(197, 0), (1, 0), (0, 0), (0, 0)]), (7, [(141, 0), (5, 0)]), (0, [(6, 0)]), (3, [(0, 0), (4, 0), (2, 0), (0, 108)]), (7, [(25, 0), (1, 0), (2, 0)]), (5, [(197, 0), (1, 0), (0, 0), (0, 0)]), (7, [(141, 0), (5, 0)]), (0, [(6, 0)]), (3, [(0, 0), (4, 0), (2, 0), (0, 116)]), (7, [(25, 0), (1, 0), (2, 0)]), (5, [(197, 0), (1, 0), (0, 0), (0, 0)]), (7, [(141, 0), (5, 0)]), (0, [(6, 0)]), (1, [(1, 0)])]
def zC98 : ZC := [(0, 2, [some (2, (0, 0), (0, 0)), some (0, (1, 0), (0, 0)), some (0, (2, 0), (0, 0))])]
theorem zG98 : z_go zC98 (z_A zT98) [] 98 400 true 18 zP98_0 0 [some (2, (0, 0), (0, 0)), some (0, (1, 0), (0, 0)), some (0, (2, 0), (0, 0))] [] 2 = true := by decide +kernel
def f_x_rival : ZFn := fun L S => match L with
  | [x1, x2] => (e_bind (f_x_checkFilm [x1] S) (fun v1 S1 => (bif decide (x2 = 97) then (e_bind (f_Film_showElsewhere [x1, x2] S1) (fun v2 S2 => ((0, [(v_x_premiereOf (S2 r_Film_stillIs x1 0 0) S2)]), S2))) else (bif decide (x2 = 108) then (e_bind (f_Film_showElsewhere [x1, x2] S1) (fun v3 S3 => ((0, [(v_x_premiereOf (S3 r_Film_stillIs x1 0 0) S3)]), S3))) else (bif decide (x2 = 116) then (e_bind (f_Film_showElsewhere [x1, x2] S1) (fun v4 S4 => ((0, [(v_x_premiereOf (S4 r_Film_stillIs x1 0 0) S4)]), S4))) else ((2, []), S1))))))
  | _ => ((0, []), S)
theorem zE98 {x1 x2 : Int} {S : ZS} : z_ev (z_F zT98) 18 zP98_0 [x1, x2] S = f_x_rival [x1, x2] S := by
  simp -implicitDefEqProofs only [zP98_0, zF98_25, zF98_141, zF98_143, pF_x_premiereOf, Nat.zero_add, Nat.reduceAdd, Nat.reduceBEq, Int.reduceToNat, z_e0, z_e1, z_e2, z_e3, z_e4, z_e5, z_e6, z_e7, z_e8, z_e11, z_e13, o_v0, o_v1, o_v2, List.cons_append, List.nil_append, List.map_cons, List.map_nil, List.drop_succ_cons, List.drop_zero, List.take_succ_cons, List.take_zero, e_c0, e_c1, e_c2, e_c3, e_c4, e_c5, e_b0, e_b1, e_b2, e_b3, e_b4, e_b5, e_b6, e_b7, e_b8, e_b9, e_b10, e_b11, e_b12, e_b13, e_b14, e_b15, e_b16, e_b17, e_n0, e_bnd, e_un]
  try rfl
theorem zM98 : z_met 98 2 [(2, (0, 0), (0, 0)), (0, (1, 0), (0, 0)), (0, (2, 0), (0, 0))] f_x_rival := z_met_ev zH98 (fun _ _ h => absurd h List.not_mem_nil) rfl zG98 (by decide +kernel) (fun L S hn => match L, hn with
  | [x1, x2], _ => zE98)
def zW98 : List Nat := [r_Film_stillIs]
theorem zK98 : z_kp 2 zW98 f_x_rival := z_kp_ev (KT := [(25, 2, zW25), (141, 1, zW141), (143, 1, zW143)]) (.c zF98_25 zK25 (.c zF98_141 zK141 (.c zF98_143 zK143 .n))) (z_h163 rfl) (by decide +kernel) (fun L S hn => match L, hn with
  | [x1, x2], _ => zE98)

-- w_rival (264)
def zT264 : ZT := [(98, 2, [(2, (0, 0), (0, 0)), (0, (1, 0), (0, 0)), (0, (2, 0), (0, 0))], f_x_rival)]
theorem zH264 : z_ok zT264 := .c zM98 .n
theorem zF264_98 : z_F zT264 98 = f_x_rival := id rfl
def zP264_0 : List ZO := [(11, [(98, 0), (2, 0), (0, 2), (1, 3), (1, 0), (2, 0)]), (6, [(6976, 0), (0, 0), (0, 0), (0, 0), (0, 0), (3, 0)]), (0, [(0, 0)]), (0, [(0, 1)]), (0, [(0, 2)])]
def zC264 : ZC := [(0, 2, [some (2, (0, 0), (0, 0)), some (0, (1, 0), (0, 0)), some (0, (2, 0), (0, 0)), some (111, (0, 0), (0, 0)), none])]
theorem zG264 : z_go zC264 (z_A zT264) [] 264 400 true 6 zP264_0 0 [some (2, (0, 0), (0, 0)), some (0, (1, 0), (0, 0)), some (0, (2, 0), (0, 0)), some (111, (0, 0), (0, 0)), none] [] 2 = true := by decide +kernel
def f_w_rival : ZFn := fun L S => match L with
  | [x1, x2] => (e_try (f_x_rival [x1, x2] S) (fun v1 S1 => ((0, [0]), (e_upd S1 r_out 0 0 0 v1))) [(0, 1), (1, 2)])
  | _ => ((0, []), S)
theorem zE264 {x1 x2 : Int} {S : ZS} : z_ev (z_F zT264) 6 zP264_0 [x1, x2] S = f_w_rival [x1, x2] S := id rfl
theorem zM264 : z_met 264 2 [(2, (0, 0), (0, 0)), (0, (1, 0), (0, 0)), (0, (2, 0), (0, 0)), (111, (0, 0), (0, 0))] f_w_rival := z_met_ev zH264 (fun _ _ h => absurd h List.not_mem_nil) rfl zG264 (by decide +kernel) (fun L S hn => match L, hn with
  | [x1, x2], _ => zE264)
def zW264 : List Nat := [r_Film_stillIs, r_out]
theorem zK264 : z_kp 2 zW264 f_w_rival := z_kp_ev (KT := [(98, 2, zW98)]) (.c zF264_98 zK98 .n) (z_h163 rfl) (by decide +kernel) (fun L S hn => match L, hn with
  | [x1, x2], _ => zE264)

-- m_letterOf (182)
def zT182 : ZT := []
theorem zH182 : z_ok zT182 := .n
def zP182_0 : List ZO := [(3, [(1, 0), (5, 0), (1, 0), (0, 3)]), (3, [(1, 0), (3, 0), (1, 0), (0, 2)]), (3, [(1, 0), (1, 0), (1, 0), (0, 1)]), (0, [(0, 45)]), (0, [(0, 116)]), (0, [(0, 108)]), (0, [(0, 119)])]
def zC182 : ZC := [(0, 1, [some (0, (1, 0), (0, 0))])]
theorem zG182 : z_go zC182 (z_A zT182) [] 182 400 true 8 zP182_0 0 [some (0, (1, 0), (0, 0))] [] 1 = true := by decide +kernel
def v_m_letterOf (x1 : Int) (S : ZS) : Int := (bif !decide (x1 = 3) then (bif !decide (x1 = 2) then (bif !decide (x1 = 1) then 45 else 116) else 108) else 119)
def f_m_letterOf : ZFn := fun L S => match L with
  | [x1] => ((0, [v_m_letterOf x1 S]), S)
  | _ => ((0, []), S)
theorem pF_m_letterOf {x1 : Int} {S : ZS} : f_m_letterOf [x1] S = ((0, [v_m_letterOf x1 S]), S) := id rfl
theorem zE182a {x1 : Int} {S : ZS} : z_ev (z_F zT182) 8 zP182_0 [x1] S = (bif !decide (x1 = 3) then (bif !decide (x1 = 2) then (bif !decide (x1 = 1) then ((0, [45]), S) else ((0, [116]), S)) else ((0, [108]), S)) else ((0, [119]), S)) := id rfl
theorem zE182 {x1 : Int} {S : ZS} : z_ev (z_F zT182) 8 zP182_0 [x1] S = f_m_letterOf [x1] S := zE182a.trans (by
  simp only [z_cv]
  rfl)
theorem zM182 : z_met 182 1 [(0, (1, 0), (0, 0))] f_m_letterOf := z_met_ev zH182 (fun _ _ h => absurd h List.not_mem_nil) rfl zG182 (by decide +kernel) (fun L S hn => match L, hn with
  | [x1], _ => zE182)
def zW182 : List Nat := []
theorem zK182 : z_kp 1 zW182 f_m_letterOf := z_kp_ev (KT := []) (.n) (z_h163 rfl) (by decide +kernel) (fun L S hn => match L, hn with
  | [x1], _ => zE182)

-- m_rival (184)
def zT184 : ZT := [(163, 2, [(52, (0, 0), (0, 0)), (0, (1, 0), (0, 0)), (0, (2, 0), (0, 0))], f_m_isThrown), (166, 1, [(52, (0, 0), (0, 0)), (0, (1, 0), (0, 0))], f_m_isNoFilm), (182, 1, [(0, (1, 0), (0, 0))], f_m_letterOf)]
theorem zH184 : z_ok zT184 := .c zM163 (.c zM166 (.c zM182 .n))
theorem zF184_163 : z_F zT184 163 = f_m_isThrown := id rfl
theorem zF184_166 : z_F zT184 166 = f_m_isNoFilm := id rfl
theorem zF184_182 : z_F zT184 182 = f_m_letterOf := id rfl
def zP184_0 : List ZO := [(3, [(1, 0), (30, 0), (2, 0), (0, 97)]), (3, [(1, 0), (18, 0), (2, 0), (0, 108)]), (3, [(1, 0), (6, 0), (2, 0), (0, 116)]), (7, [(166, 0), (1, 0)]), (13, [(163, 0), (0, 0), (3, 0), (0, 1)]), (3, [(1, 0), (1, 0), (3, 0), (0, 0)]), (0, [(0, 32)]), (13, [(163, 0), (0, 0), (0, 1), (0, 2)]), (0, [(0, 32)]), (7, [(166, 0), (1, 0)]), (13, [(163, 0), (0, 0), (3, 0), (0, 1)]), (3, [(1, 0), (1, 0), (3, 0), (0, 0)]), (0, [(0, 32)]), (13, [(163, 0), (0, 0), (0, 0), (0, 2)]), (5, [(3456, 0), (0, 0), (0, 0), (1, 0)]), (4, [(7, 0), (4, 0), (0, 0)]), (6, [(3456, 0), (0, 0), (0, 0), (0, 0), (1, 0), (5, 0)]), (5, [(3456, 0), (0, 0), (0, 0), (1, 0)]), (7, [(182, 0), (6, 0)]), (0, [(7, 0)]), (7, [(166, 0), (1, 0)]), (13, [(163, 0), (0, 0), (3, 0), (0, 1)]), (3, [(1, 0), (1, 0), (3, 0), (0, 0)]), (0, [(0, 32)]), (13, [(163, 0), (0, 0), (0, 0), (0, 2)]), (5, [(3456, 0), (0, 0), (0, 0), (1, 0)]), (4, [(7, 0), (4, 0), (0, 1)]), (6, [(3456, 0), (0, 0), (0, 0), (0, 0), (1, 0), (5, 0)]), (5, [(3456, 0), (0, 0), (0, 0), (1, 0)]), (7, [(182, 0), (6, 0)]), (0, [(7, 0)]), (7, [(166, 0), (1, 0)]), (13, [(163, 0), (0, 0), (3, 0), (0, 1)]), (3, [(1, 0), (1, 0), (3, 0), (0, 0)]), (0, [(0, 32)]), (13, [(163, 0), (0, 0), (0, 0), (0, 2)]), (5, [(3456, 0), (0, 0), (0, 0), (1, 0)]), (4, [(7, 0), (4, 0), (0, 2)]), (6, [(3456, 0), (0, 0), (0, 0), (0, 0), (1, 0), (5, 0)]), (5, [(3456, 0), (0, 0), (0, 0), (1, 0)]), (7, [(182, 0), (6, 0)]), (0, [(7, 0)])]
def zC184 : ZC := [(0, 2, [some (52, (0, 0), (0, 0)), some (0, (1, 0), (0, 0)), some (0, (2, 0), (0, 0)), none])]
theorem zG184 : z_go zC184 (z_A zT184) [(163, 0)] 184 400 true 43 zP184_0 0 [some (52, (0, 0), (0, 0)), some (0, (1, 0), (0, 0)), some (0, (2, 0), (0, 0)), none] [] 2 = true := by decide +kernel
def f_m_rival : ZFn := fun L S => match L with
  | [x1, x2] => (bif !decide (x2 = 97) then (bif !decide (x2 = 108) then (bif !decide (x2 = 116) then (bif !decide ((v_m_isNoFilm x1 S) = 0) then ((0, [32]), (e_upd S r_m_thrown 0 0 0 (bif !decide ((v_m_isNoFilm x1 S) = 0) then 1 else 0))) else ((0, [32]), (e_upd (e_upd S r_m_thrown 0 0 0 (bif !decide ((v_m_isNoFilm x1 S) = 0) then 1 else 0)) r_m_thrown 0 0 0 2))) else (bif !decide ((v_m_isNoFilm x1 S) = 0) then ((0, [32]), (e_upd S r_m_thrown 0 0 0 (bif !decide ((v_m_isNoFilm x1 S) = 0) then 1 else 0))) else ((0, [(v_m_letterOf ((e_upd (e_upd (e_upd S r_m_thrown 0 0 0 (bif !decide ((v_m_isNoFilm x1 S) = 0) then 1 else 0)) r_m_thrown 0 0 0 0) r_m_still 0 0 x1 (if 0 < (S r_m_still 0 0 x1) then 0 else (S r_m_still 0 0 x1))) r_m_still 0 0 x1) (e_upd (e_upd (e_upd S r_m_thrown 0 0 0 (bif !decide ((v_m_isNoFilm x1 S) = 0) then 1 else 0)) r_m_thrown 0 0 0 0) r_m_still 0 0 x1 (if 0 < (S r_m_still 0 0 x1) then 0 else (S r_m_still 0 0 x1))))]), (e_upd (e_upd (e_upd S r_m_thrown 0 0 0 (bif !decide ((v_m_isNoFilm x1 S) = 0) then 1 else 0)) r_m_thrown 0 0 0 0) r_m_still 0 0 x1 (if 0 < (S r_m_still 0 0 x1) then 0 else (S r_m_still 0 0 x1)))))) else (bif !decide ((v_m_isNoFilm x1 S) = 0) then ((0, [32]), (e_upd S r_m_thrown 0 0 0 (bif !decide ((v_m_isNoFilm x1 S) = 0) then 1 else 0))) else ((0, [(v_m_letterOf ((e_upd (e_upd (e_upd S r_m_thrown 0 0 0 (bif !decide ((v_m_isNoFilm x1 S) = 0) then 1 else 0)) r_m_thrown 0 0 0 0) r_m_still 0 0 x1 (if 1 < (S r_m_still 0 0 x1) then 1 else (S r_m_still 0 0 x1))) r_m_still 0 0 x1) (e_upd (e_upd (e_upd S r_m_thrown 0 0 0 (bif !decide ((v_m_isNoFilm x1 S) = 0) then 1 else 0)) r_m_thrown 0 0 0 0) r_m_still 0 0 x1 (if 1 < (S r_m_still 0 0 x1) then 1 else (S r_m_still 0 0 x1))))]), (e_upd (e_upd (e_upd S r_m_thrown 0 0 0 (bif !decide ((v_m_isNoFilm x1 S) = 0) then 1 else 0)) r_m_thrown 0 0 0 0) r_m_still 0 0 x1 (if 1 < (S r_m_still 0 0 x1) then 1 else (S r_m_still 0 0 x1)))))) else (bif !decide ((v_m_isNoFilm x1 S) = 0) then ((0, [32]), (e_upd S r_m_thrown 0 0 0 (bif !decide ((v_m_isNoFilm x1 S) = 0) then 1 else 0))) else ((0, [(v_m_letterOf ((e_upd (e_upd (e_upd S r_m_thrown 0 0 0 (bif !decide ((v_m_isNoFilm x1 S) = 0) then 1 else 0)) r_m_thrown 0 0 0 0) r_m_still 0 0 x1 (if 2 < (S r_m_still 0 0 x1) then 2 else (S r_m_still 0 0 x1))) r_m_still 0 0 x1) (e_upd (e_upd (e_upd S r_m_thrown 0 0 0 (bif !decide ((v_m_isNoFilm x1 S) = 0) then 1 else 0)) r_m_thrown 0 0 0 0) r_m_still 0 0 x1 (if 2 < (S r_m_still 0 0 x1) then 2 else (S r_m_still 0 0 x1))))]), (e_upd (e_upd (e_upd S r_m_thrown 0 0 0 (bif !decide ((v_m_isNoFilm x1 S) = 0) then 1 else 0)) r_m_thrown 0 0 0 0) r_m_still 0 0 x1 (if 2 < (S r_m_still 0 0 x1) then 2 else (S r_m_still 0 0 x1))))))
  | _ => ((0, []), S)
theorem zE184 {x1 x2 : Int} {S : ZS} : z_ev (z_F zT184) 43 zP184_0 [x1, x2] S = f_m_rival [x1, x2] S := by
  simp -implicitDefEqProofs only [zP184_0, zF184_163, zF184_166, zF184_182, zpI0, zpI1, zpIc, pF_m_isNoFilm, pF_m_letterOf, Nat.zero_add, Nat.reduceAdd, Nat.reduceBEq, Int.reduceToNat, z_e0, z_e1, z_e2, z_e3, z_e4, z_e5, z_e6, z_e7, z_e8, z_e11, z_e13, o_v0, o_v1, o_v2, List.cons_append, List.nil_append, List.map_cons, List.map_nil, List.drop_succ_cons, List.drop_zero, List.take_succ_cons, List.take_zero, e_c0, e_c1, e_c2, e_c3, e_c4, e_c5, e_b0, e_b1, e_b2, e_b3, e_b4, e_b5, e_b6, e_b7, e_b8, e_b9, e_b10, e_b11, e_b12, e_b13, e_b14, e_b15, e_b16, e_b17, e_n0, e_bnd, e_un]
  try rfl
theorem zM184 : z_met 184 2 [(52, (0, 0), (0, 0)), (0, (1, 0), (0, 0)), (0, (2, 0), (0, 0))] f_m_rival := z_met_ev zH184 (fun _ _ h => by rw [List.mem_singleton] at h; cases h; exact fun _ _ => rfl) rfl zG184 (by decide +kernel) (fun L S hn => match L, hn with
  | [x1, x2], _ => zE184)
def zW184 : List Nat := [r_m_thrown, r_m_still]
theorem zK184 : z_kp 2 zW184 f_m_rival := z_kp_ev (KT := [(163, 2, zW163), (166, 1, zW166), (182, 1, zW182)]) (.c zF184_163 zK163 (.c zF184_166 zK166 (.c zF184_182 zK182 .n))) (fun _ _ => Or.inl rfl) (by decide +kernel) (fun L S hn => match L, hn with
  | [x1, x2], _ => zE184)

-- x_levelOf (140)
def zT140 : ZT := []
theorem zH140 : z_ok zT140 := .n
def zP140_0 : List ZO := [(3, [(1, 0), (7, 0), (1, 0), (0, 119)]), (3, [(1, 0), (5, 0), (1, 0), (0, 108)]), (3, [(1, 0), (3, 0), (1, 0), (0, 116)]), (3, [(1, 0), (1, 0), (1, 0), (0, 45)]), (0, [(0, (-1))]), (0, [(0, 0)]), (0, [(0, 1)]), (0, [(0, 2)]), (0, [(0, 3)])]
def zC140 : ZC := [(0, 1, [some (0, (1, 0), (0, 0))])]
theorem zG140 : z_go zC140 (z_A zT140) [] 140 400 true 10 zP140_0 0 [some (0, (1, 0), (0, 0))] [] 1 = true := by decide +kernel
def v_x_levelOf (x1 : Int) (S : ZS) : Int := (bif !decide (x1 = 119) then (bif !decide (x1 = 108) then (bif !decide (x1 = 116) then (bif !decide (x1 = 45) then (-1) else 0) else 1) else 2) else 3)
def f_x_levelOf : ZFn := fun L S => match L with
  | [x1] => ((0, [v_x_levelOf x1 S]), S)
  | _ => ((0, []), S)
theorem pF_x_levelOf {x1 : Int} {S : ZS} : f_x_levelOf [x1] S = ((0, [v_x_levelOf x1 S]), S) := id rfl
theorem zE140a {x1 : Int} {S : ZS} : z_ev (z_F zT140) 10 zP140_0 [x1] S = (bif !decide (x1 = 119) then (bif !decide (x1 = 108) then (bif !decide (x1 = 116) then (bif !decide (x1 = 45) then ((0, [(-1)]), S) else ((0, [0]), S)) else ((0, [1]), S)) else ((0, [2]), S)) else ((0, [3]), S)) := id rfl
theorem zE140 {x1 : Int} {S : ZS} : z_ev (z_F zT140) 10 zP140_0 [x1] S = f_x_levelOf [x1] S := zE140a.trans (by
  simp only [z_cv]
  rfl)
theorem zM140 : z_met 140 1 [(0, (1, 0), (0, 0))] f_x_levelOf := z_met_ev zH140 (fun _ _ h => absurd h List.not_mem_nil) rfl zG140 (by decide +kernel) (fun L S hn => match L, hn with
  | [x1], _ => zE140)
def zW140 : List Nat := []
theorem zK140 : z_kp 1 zW140 f_x_levelOf := z_kp_ev (KT := []) (.n) (z_h163 rfl) (by decide +kernel) (fun L S hn => match L, hn with
  | [x1], _ => zE140)

-- Section_begin (76)
def zT76 : ZT := []
theorem zH76 : z_ok zT76 := .n
def zP76_0 : List ZO := [(6, [(1344, 0), (0, 0), (1, 0), (0, 0), (0, 0), (2, 0)]), (6, [(1345, 0), (0, 0), (1, 0), (0, 0), (0, 0), (3, 0)]), (6, [(1346, 0), (0, 0), (1, 0), (0, 0), (0, 0), (4, 0)]), (6, [(1347, 0), (0, 0), (1, 0), (0, 0), (0, 0), (5, 0)]), (6, [(1348, 0), (0, 0), (1, 0), (0, 0), (0, 0), (6, 0)]), (0, [])]
def zC76 : ZC := [(0, 6, [some (23, (1, 0), (0, 0)), some (0, (2, 0), (0, 0)), some (0, (3, 0), (0, 0)), some (0, (4, 0), (0, 0)), some (0, (5, 0), (0, 0)), some (0, (6, 0), (0, 0))])]
theorem zG76 : z_go zC76 (z_A zT76) [] 76 400 true 7 zP76_0 0 [some (23, (1, 0), (0, 0)), some (0, (2, 0), (0, 0)), some (0, (3, 0), (0, 0)), some (0, (4, 0), (0, 0)), some (0, (5, 0), (0, 0)), some (0, (6, 0), (0, 0))] [] 6 = true := by decide +kernel
def f_Section_begin : ZFn := fun L S => match L with
  | [x1, x2, x3, x4, x5, x6] => ((0, []), (e_upd (e_upd (e_upd (e_upd (e_upd S r_Section_quota x1 0 0 x2) r_Section_budget x1 0 0 x3) r_Section_least x1 0 0 x4) r_Section_form x1 0 0 x5) r_Section_premiere x1 0 0 x6))
  | _ => ((0, []), S)
theorem zE76 {x1 x2 x3 x4 x5 x6 : Int} {S : ZS} : z_ev (z_F zT76) 7 zP76_0 [x1, x2, x3, x4, x5, x6] S = f_Section_begin [x1, x2, x3, x4, x5, x6] S := id rfl
theorem zM76 : z_met 76 6 [(23, (1, 0), (0, 0)), (0, (2, 0), (0, 0)), (0, (3, 0), (0, 0)), (0, (4, 0), (0, 0)), (0, (5, 0), (0, 0)), (0, (6, 0), (0, 0))] f_Section_begin := z_met_ev zH76 (fun _ _ h => absurd h List.not_mem_nil) rfl zG76 (by decide +kernel) (fun L S hn => match L, hn with
  | [x1, x2, x3, x4, x5, x6], _ => zE76)
def zW76 : List Nat := [r_Section_quota, r_Section_budget, r_Section_least, r_Section_form, r_Section_premiere]
theorem zK76 : z_kp 6 zW76 f_Section_begin := z_kp_ev (KT := []) (.n) (z_h163 rfl) (by decide +kernel) (fun L S hn => match L, hn with
  | [x1, x2, x3, x4, x5, x6], _ => zE76)

-- x_section (99)
def zT99 : ZT := [(76, 6, [(23, (1, 0), (0, 0)), (0, (2, 0), (0, 0)), (0, (3, 0), (0, 0)), (0, (4, 0), (0, 0)), (0, (5, 0), (0, 0)), (0, (6, 0), (0, 0))], f_Section_begin), (138, 3, [(0, (1, 0), (0, 0)), (0, (2, 0), (0, 0)), (0, (3, 0), (0, 0))], f_x_isWithin), (139, 1, [(0, (1, 0), (0, 0))], f_x_isForm), (140, 1, [(0, (1, 0), (0, 0))], f_x_levelOf)]
theorem zH99 : z_ok zT99 := .c zM76 (.c zM138 (.c zM139 (.c zM140 .n)))
theorem zF99_76 : z_F zT99 76 = f_Section_begin := id rfl
theorem zF99_138 : z_F zT99 138 = f_x_isWithin := id rfl
theorem zF99_139 : z_F zT99 139 = f_x_isForm := id rfl
theorem zF99_140 : z_F zT99 140 = f_x_levelOf := id rfl
def zP99_0 : List ZO := [(7, [(138, 0), (1, 0), (0, 1), (0, 9)]), (3, [(0, 0), (1, 0), (6, 0), (0, 0)]), (1, [(1, 0)]), (7, [(138, 0), (2, 0), (0, 1), (0, 2000)]), (3, [(0, 0), (1, 0), (7, 0), (0, 0)]), (1, [(1, 0)]), (7, [(138, 0), (3, 0), (0, 0), (0, 100)]), (3, [(1, 0), (34, 0), (8, 0), (0, 0)]), (3, [(0, 0), (15, 0), (4, 0), (0, 45)]), (7, [(140, 0), (5, 0)]), (3, [(1, 0), (12, 0), (9, 0), (0, (-1))]), (5, [(6, 0), (0, 0), (0, 0), (0, 0)]), (3, [(2, 0), (9, 0), (10, 0), (0, 5)]), (5, [(6, 0), (0, 0), (0, 0), (0, 0)]), (7, [(140, 0), (5, 0)]), (7, [(76, 0), (11, 0), (1, 0), (2, 0), (3, 0), (4, 0), (12, 0)]), (5, [(6, 0), (0, 0), (0, 0), (0, 0)]), (4, [(0, 0), (14, 0), (0, 1)]), (6, [(6, 0), (0, 0), (0, 0), (0, 0), (0, 0), (15, 0)]), (5, [(6, 0), (0, 0), (0, 0), (0, 0)]), (4, [(1, 0), (16, 0), (0, 1)]), (0, [(17, 0)]), (1, [(2, 0)]), (1, [(1, 0)]), (7, [(139, 0), (4, 0)]), (3, [(0, 0), (1, 0), (9, 0), (0, 0)]), (1, [(1, 0)]), (7, [(140, 0), (5, 0)]), (3, [(1, 0), (12, 0), (10, 0), (0, (-1))]), (5, [(6, 0), (0, 0), (0, 0), (0, 0)]), (3, [(2, 0), (9, 0), (11, 0), (0, 5)]), (5, [(6, 0), (0, 0), (0, 0), (0, 0)]), (7, [(140, 0), (5, 0)]), (7, [(76, 0), (12, 0), (1, 0), (2, 0), (3, 0), (4, 0), (13, 0)]), (5, [(6, 0), (0, 0), (0, 0), (0, 0)]), (4, [(0, 0), (15, 0), (0, 1)]), (6, [(6, 0), (0, 0), (0, 0), (0, 0), (0, 0), (16, 0)]), (5, [(6, 0), (0, 0), (0, 0), (0, 0)]), (4, [(1, 0), (17, 0), (0, 1)]), (0, [(18, 0)]), (1, [(2, 0)]), (1, [(1, 0)]), (1, [(1, 0)])]
def zC99 : ZC := [(0, 5, [some (2, (0, 0), (0, 0)), some (0, (1, 0), (0, 0)), some (0, (2, 0), (0, 0)), some (0, (3, 0), (0, 0)), some (0, (4, 0), (0, 0)), some (0, (5, 0), (0, 0))])]
theorem zG99 : z_go zC99 (z_A zT99) [] 99 400 true 44 zP99_0 0 [some (2, (0, 0), (0, 0)), some (0, (1, 0), (0, 0)), some (0, (2, 0), (0, 0)), some (0, (3, 0), (0, 0)), some (0, (4, 0), (0, 0)), some (0, (5, 0), (0, 0))] [] 5 = true := by decide +kernel
def f_x_section : ZFn := fun L S => match L with
  | [x1, x2, x3, x4, x5] => (bif decide ((v_x_isWithin x1 1 9 S) = 0) then ((2, []), S) else (bif decide ((v_x_isWithin x2 1 2000 S) = 0) then ((2, []), S) else (bif !decide ((v_x_isWithin x3 0 100 S) = 0) then (bif decide (x4 = 45) then (bif !decide ((v_x_levelOf x5 S) = (-1)) then (bif decide ((S r_x_sectionCount 0 0 0) < 5) then (e_bind (f_Section_begin [(S r_x_sectionCount 0 0 0), x1, x2, x3, x4, (v_x_levelOf x5 S)] S) (fun v1 S1 => ((0, [(e_wr (((e_upd S1 r_x_sectionCount 0 0 0 (e_wr ((S1 r_x_sectionCount 0 0 0) + 1))) r_x_sectionCount 0 0 0) - 1))]), (e_upd S1 r_x_sectionCount 0 0 0 (e_wr ((S1 r_x_sectionCount 0 0 0) + 1)))))) else ((3, []), S)) else ((2, []), S)) else (bif decide ((v_x_isForm x4 S) = 0) then ((2, []), S) else (bif !decide ((v_x_levelOf x5 S) = (-1)) then (bif decide ((S r_x_sectionCount 0 0 0) < 5) then (e_bind (f_Section_begin [(S r_x_sectionCount 0 0 0), x1, x2, x3, x4, (v_x_levelOf x5 S)] S) (fun v2 S2 => ((0, [(e_wr (((e_upd S2 r_x_sectionCount 0 0 0 (e_wr ((S2 r_x_sectionCount 0 0 0) + 1))) r_x_sectionCount 0 0 0) - 1))]), (e_upd S2 r_x_sectionCount 0 0 0 (e_wr ((S2 r_x_sectionCount 0 0 0) + 1)))))) else ((3, []), S)) else ((2, []), S)))) else ((2, []), S))))
  | _ => ((0, []), S)
theorem zE99 {x1 x2 x3 x4 x5 : Int} {S : ZS} : z_ev (z_F zT99) 44 zP99_0 [x1, x2, x3, x4, x5] S = f_x_section [x1, x2, x3, x4, x5] S := by
  simp -implicitDefEqProofs only [zP99_0, zF99_76, zF99_138, zF99_139, zF99_140, pF_x_isWithin, pF_x_isForm, pF_x_levelOf, Nat.zero_add, Nat.reduceAdd, Nat.reduceBEq, Int.reduceToNat, z_e0, z_e1, z_e2, z_e3, z_e4, z_e5, z_e6, z_e7, z_e8, z_e11, z_e13, o_v0, o_v1, o_v2, List.cons_append, List.nil_append, List.map_cons, List.map_nil, List.drop_succ_cons, List.drop_zero, List.take_succ_cons, List.take_zero, e_c0, e_c1, e_c2, e_c3, e_c4, e_c5, e_b0, e_b1, e_b2, e_b3, e_b4, e_b5, e_b6, e_b7, e_b8, e_b9, e_b10, e_b11, e_b12, e_b13, e_b14, e_b15, e_b16, e_b17, e_n0, e_bnd, e_un]
  try rfl
theorem zM99 : z_met 99 5 [(2, (0, 0), (0, 0)), (0, (1, 0), (0, 0)), (0, (2, 0), (0, 0)), (0, (3, 0), (0, 0)), (0, (4, 0), (0, 0)), (0, (5, 0), (0, 0))] f_x_section := z_met_ev zH99 (fun _ _ h => absurd h List.not_mem_nil) rfl zG99 (by decide +kernel) (fun L S hn => match L, hn with
  | [x1, x2, x3, x4, x5], _ => zE99)
def zW99 : List Nat := [r_x_sectionCount, r_Section_quota, r_Section_budget, r_Section_least, r_Section_form, r_Section_premiere]
theorem zK99 : z_kp 5 zW99 f_x_section := z_kp_ev (KT := [(76, 6, zW76), (138, 3, zW138), (139, 1, zW139), (140, 1, zW140)]) (.c zF99_76 zK76 (.c zF99_138 zK138 (.c zF99_139 zK139 (.c zF99_140 zK140 .n)))) (z_h163 rfl) (by decide +kernel) (fun L S hn => match L, hn with
  | [x1, x2, x3, x4, x5], _ => zE99)

-- w_section (265)
def zT265 : ZT := [(99, 5, [(2, (0, 0), (0, 0)), (0, (1, 0), (0, 0)), (0, (2, 0), (0, 0)), (0, (3, 0), (0, 0)), (0, (4, 0), (0, 0)), (0, (5, 0), (0, 0))], f_x_section)]
theorem zH265 : z_ok zT265 := .c zM99 .n
theorem zF265_99 : z_F zT265 99 = f_x_section := id rfl
def zP265_0 : List ZO := [(11, [(99, 0), (2, 0), (1, 2), (2, 3), (1, 0), (2, 0), (3, 0), (4, 0), (5, 0)]), (6, [(6976, 0), (0, 0), (0, 0), (0, 0), (0, 0), (6, 0)]), (0, [(0, 0)]), (0, [(0, 1)]), (0, [(0, 2)])]
def zC265 : ZC := [(0, 5, [some (2, (0, 0), (0, 0)), some (0, (1, 0), (0, 0)), some (0, (2, 0), (0, 0)), some (0, (3, 0), (0, 0)), some (0, (4, 0), (0, 0)), some (0, (5, 0), (0, 0)), some (111, (0, 0), (0, 0)), none])]
theorem zG265 : z_go zC265 (z_A zT265) [] 265 400 true 6 zP265_0 0 [some (2, (0, 0), (0, 0)), some (0, (1, 0), (0, 0)), some (0, (2, 0), (0, 0)), some (0, (3, 0), (0, 0)), some (0, (4, 0), (0, 0)), some (0, (5, 0), (0, 0)), some (111, (0, 0), (0, 0)), none] [] 5 = true := by decide +kernel
def f_w_section : ZFn := fun L S => match L with
  | [x1, x2, x3, x4, x5] => (e_try (f_x_section [x1, x2, x3, x4, x5] S) (fun v1 S1 => ((0, [0]), (e_upd S1 r_out 0 0 0 v1))) [(1, 1), (2, 2)])
  | _ => ((0, []), S)
theorem zE265 {x1 x2 x3 x4 x5 : Int} {S : ZS} : z_ev (z_F zT265) 6 zP265_0 [x1, x2, x3, x4, x5] S = f_w_section [x1, x2, x3, x4, x5] S := id rfl
theorem zM265 : z_met 265 5 [(2, (0, 0), (0, 0)), (0, (1, 0), (0, 0)), (0, (2, 0), (0, 0)), (0, (3, 0), (0, 0)), (0, (4, 0), (0, 0)), (0, (5, 0), (0, 0)), (111, (0, 0), (0, 0))] f_w_section := z_met_ev zH265 (fun _ _ h => absurd h List.not_mem_nil) rfl zG265 (by decide +kernel) (fun L S hn => match L, hn with
  | [x1, x2, x3, x4, x5], _ => zE265)
def zW265 : List Nat := [r_x_sectionCount, r_Section_quota, r_Section_budget, r_Section_least, r_Section_form, r_Section_premiere, r_out]
theorem zK265 : z_kp 5 zW265 f_w_section := z_kp_ev (KT := [(99, 5, zW99)]) (.c zF265_99 zK99 .n) (z_h163 rfl) (by decide +kernel) (fun L S hn => match L, hn with
  | [x1, x2, x3, x4, x5], _ => zE265)

-- m_premiereOf (183)
def zT183 : ZT := []
theorem zH183 : z_ok zT183 := .n
def zP183_0 : List ZO := [(3, [(1, 0), (7, 0), (1, 0), (0, 119)]), (3, [(1, 0), (5, 0), (1, 0), (0, 108)]), (3, [(1, 0), (3, 0), (1, 0), (0, 116)]), (3, [(1, 0), (1, 0), (1, 0), (0, 45)]), (0, [(0, (-1))]), (0, [(0, 0)]), (0, [(0, 1)]), (0, [(0, 2)]), (0, [(0, 3)])]
def zC183 : ZC := [(0, 1, [some (0, (1, 0), (0, 0))])]
theorem zG183 : z_go zC183 (z_A zT183) [] 183 400 true 10 zP183_0 0 [some (0, (1, 0), (0, 0))] [] 1 = true := by decide +kernel
def v_m_premiereOf (x1 : Int) (S : ZS) : Int := (bif !decide (x1 = 119) then (bif !decide (x1 = 108) then (bif !decide (x1 = 116) then (bif !decide (x1 = 45) then (-1) else 0) else 1) else 2) else 3)
def f_m_premiereOf : ZFn := fun L S => match L with
  | [x1] => ((0, [v_m_premiereOf x1 S]), S)
  | _ => ((0, []), S)
theorem pF_m_premiereOf {x1 : Int} {S : ZS} : f_m_premiereOf [x1] S = ((0, [v_m_premiereOf x1 S]), S) := id rfl
theorem zE183a {x1 : Int} {S : ZS} : z_ev (z_F zT183) 10 zP183_0 [x1] S = (bif !decide (x1 = 119) then (bif !decide (x1 = 108) then (bif !decide (x1 = 116) then (bif !decide (x1 = 45) then ((0, [(-1)]), S) else ((0, [0]), S)) else ((0, [1]), S)) else ((0, [2]), S)) else ((0, [3]), S)) := id rfl
theorem zE183 {x1 : Int} {S : ZS} : z_ev (z_F zT183) 10 zP183_0 [x1] S = f_m_premiereOf [x1] S := zE183a.trans (by
  simp only [z_cv]
  rfl)
theorem zM183 : z_met 183 1 [(0, (1, 0), (0, 0))] f_m_premiereOf := z_met_ev zH183 (fun _ _ h => absurd h List.not_mem_nil) rfl zG183 (by decide +kernel) (fun L S hn => match L, hn with
  | [x1], _ => zE183)
def zW183 : List Nat := []
theorem zK183 : z_kp 1 zW183 f_m_premiereOf := z_kp_ev (KT := []) (.n) (z_h163 rfl) (by decide +kernel) (fun L S hn => match L, hn with
  | [x1], _ => zE183)

-- m_section (185)
def zT185 : ZT := [(163, 2, [(52, (0, 0), (0, 0)), (0, (1, 0), (0, 0)), (0, (2, 0), (0, 0))], f_m_isThrown), (164, 3, [(0, (1, 0), (0, 0)), (0, (2, 0), (0, 0)), (0, (3, 0), (0, 0))], f_m_isIn), (165, 1, [(0, (1, 0), (0, 0))], f_m_isForm), (183, 1, [(0, (1, 0), (0, 0))], f_m_premiereOf)]
theorem zH185 : z_ok zT185 := .c zM163 (.c zM164 (.c zM165 (.c zM183 .n)))
theorem zF185_163 : z_F zT185 163 = f_m_isThrown := id rfl
theorem zF185_164 : z_F zT185 164 = f_m_isIn := id rfl
theorem zF185_165 : z_F zT185 165 = f_m_isForm := id rfl
theorem zF185_183 : z_F zT185 183 = f_m_premiereOf := id rfl
def zP185_0 : List ZO := [(7, [(164, 0), (1, 0), (0, 1), (0, 9)]), (3, [(0, 0), (2, 0), (6, 0), (0, 0)]), (13, [(163, 0), (0, 0), (0, 1), (0, 1)]), (0, [(0, 0)]), (7, [(164, 0), (2, 0), (0, 1), (0, 2000)]), (3, [(0, 0), (2, 0), (7, 0), (0, 0)]), (13, [(163, 0), (0, 0), (0, 1), (0, 1)]), (0, [(0, 0)]), (7, [(164, 0), (3, 0), (0, 0), (0, 100)]), (3, [(0, 0), (2, 0), (8, 0), (0, 0)]), (13, [(163, 0), (0, 0), (0, 1), (0, 1)]), (0, [(0, 0)]), (7, [(165, 0), (4, 0)]), (3, [(1, 0), (29, 0), (9, 0), (0, 0)]), (7, [(183, 0), (5, 0)]), (3, [(2, 0), (2, 0), (10, 0), (0, 0)]), (13, [(163, 0), (0, 0), (0, 1), (0, 1)]), (0, [(0, 0)]), (13, [(163, 0), (0, 0), (0, 0), (0, 1)]), (5, [(3246, 0), (0, 0), (0, 0), (0, 0)]), (3, [(1, 0), (20, 0), (11, 0), (0, 5)]), (13, [(163, 0), (0, 0), (0, 0), (0, 2)]), (5, [(3246, 0), (0, 0), (0, 0), (0, 0)]), (6, [(4224, 0), (0, 0), (0, 0), (0, 0), (12, 0), (1, 0)]), (5, [(3246, 0), (0, 0), (0, 0), (0, 0)]), (6, [(4288, 0), (0, 0), (0, 0), (0, 0), (13, 0), (2, 0)]), (5, [(3246, 0), (0, 0), (0, 0), (0, 0)]), (6, [(4352, 0), (0, 0), (0, 0), (0, 0), (14, 0), (3, 0)]), (5, [(3246, 0), (0, 0), (0, 0), (0, 0)]), (6, [(4416, 0), (2, 0), (0, 0), (0, 0), (15, 0), (4, 0)]), (5, [(3246, 0), (0, 0), (0, 0), (0, 0)]), (7, [(183, 0), (5, 0)]), (6, [(4480, 0), (0, 0), (0, 0), (0, 0), (16, 0), (17, 0)]), (5, [(3246, 0), (0, 0), (0, 0), (0, 0)]), (6, [(4544, 0), (2, 0), (0, 0), (0, 0), (18, 0), (0, 109)]), (5, [(3246, 0), (0, 0), (0, 0), (0, 0)]), (4, [(0, 0), (19, 0), (0, 1)]), (6, [(3246, 0), (0, 0), (0, 0), (0, 0), (0, 0), (20, 0)]), (5, [(3246, 0), (0, 0), (0, 0), (0, 0)]), (4, [(1, 0), (21, 0), (0, 1)]), (0, [(22, 0)]), (13, [(163, 0), (0, 0), (0, 1), (0, 2)]), (0, [(0, 0)]), (3, [(1, 0), (2, 0), (4, 0), (0, 45)]), (13, [(163, 0), (0, 0), (0, 1), (0, 1)]), (0, [(0, 0)]), (7, [(183, 0), (5, 0)]), (3, [(2, 0), (2, 0), (10, 0), (0, 0)]), (13, [(163, 0), (0, 0), (0, 1), (0, 1)]), (0, [(0, 0)]), (13, [(163, 0), (0, 0), (0, 0), (0, 1)]), (5, [(3246, 0), (0, 0), (0, 0), (0, 0)]), (3, [(1, 0), (20, 0), (11, 0), (0, 5)]), (13, [(163, 0), (0, 0), (0, 0), (0, 2)]), (5, [(3246, 0), (0, 0), (0, 0), (0, 0)]), (6, [(4224, 0), (0, 0), (0, 0), (0, 0), (12, 0), (1, 0)]), (5, [(3246, 0), (0, 0), (0, 0), (0, 0)]), (6, [(4288, 0), (0, 0), (0, 0), (0, 0), (13, 0), (2, 0)]), (5, [(3246, 0), (0, 0), (0, 0), (0, 0)]), (6, [(4352, 0), (0, 0), (0, 0), (0, 0), (14, 0), (3, 0)]), (5, [(3246, 0), (0, 0), (0, 0), (0, 0)]), (6, [(4416, 0), (2, 0), (0, 0), (0, 0), (15, 0), (4, 0)]), (5, [(3246, 0), (0, 0), (0, 0), (0, 0)]), (7, [(183, 0), (5, 0)]), (6, [(4480, 0), (0, 0), (0, 0), (0, 0), (16, 0), (17, 0)]), (5, [(3246, 0), (0, 0), (0, 0), (0, 0)]), (6, [(4544, 0), (2, 0), (0, 0), (0, 0), (18, 0), (0, 109)]), (5, [(3246, 0), (0, 0), (0, 0), (0, 0)]), (4, [(0, 0), (19, 0), (0, 1)]), (6, [(3246, 0), (0, 0), (0, 0), (0, 0), (0, 0), (20, 0)]), (5, [(3246, 0), (0, 0), (0, 0), (0, 0)]), (4, [(1, 0), (21, 0), (0, 1)]), (0, [(22, 0)]), (13, [(163, 0), (0, 0), (0, 1), (0, 2)]), (0, [(0, 0)])]
def zC185 : ZC := [(0, 5, [some (52, (0, 0), (0, 0)), some (0, (1, 0), (0, 0)), some (0, (2, 0), (0, 0)), some (0, (3, 0), (0, 0)), some (0, (4, 0), (0, 0)), some (0, (5, 0), (0, 0)), none])]
theorem zG185 : z_go zC185 (z_A zT185) [(163, 0)] 185 400 true 76 zP185_0 0 [some (52, (0, 0), (0, 0)), some (0, (1, 0), (0, 0)), some (0, (2, 0), (0, 0)), some (0, (3, 0), (0, 0)), some (0, (4, 0), (0, 0)), some (0, (5, 0), (0, 0)), none] [] 5 = true := by decide +kernel
def f_m_section : ZFn := fun L S => match L with
  | [x1, x2, x3, x4, x5] => (bif decide ((v_m_isIn x1 1 9 S) = 0) then ((0, [0]), (e_upd S r_m_thrown 0 0 0 1)) else (bif decide ((v_m_isIn x2 1 2000 S) = 0) then ((0, [0]), (e_upd S r_m_thrown 0 0 0 1)) else (bif decide ((v_m_isIn x3 0 100 S) = 0) then ((0, [0]), (e_upd S r_m_thrown 0 0 0 1)) else (bif !decide ((v_m_isForm x4 S) = 0) then (bif decide ((v_m_premiereOf x5 S) < 0) then ((0, [0]), (e_upd S r_m_thrown 0 0 0 1)) else (bif !decide ((S r_m_sectionMany 0 0 0) = 5) then ((0, [(e_wr (((e_upd (e_upd (e_upd (e_upd (e_upd (e_upd (e_upd (e_upd (e_upd S r_m_thrown 0 0 0 0) r_m_thrown 0 0 0 0) r_m_quotas 0 0 (S r_m_sectionMany 0 0 0) x1) r_m_budgets 0 0 (S r_m_sectionMany 0 0 0) x2) r_m_leasts 0 0 (S r_m_sectionMany 0 0 0) x3) r_m_sectionForms 0 0 (S r_m_sectionMany 0 0 0) (e_nar 2 x4)) r_m_premieres 0 0 (S r_m_sectionMany 0 0 0) (v_m_premiereOf x5 (e_upd (e_upd (e_upd (e_upd (e_upd (e_upd S r_m_thrown 0 0 0 0) r_m_thrown 0 0 0 0) r_m_quotas 0 0 (S r_m_sectionMany 0 0 0) x1) r_m_budgets 0 0 (S r_m_sectionMany 0 0 0) x2) r_m_leasts 0 0 (S r_m_sectionMany 0 0 0) x3) r_m_sectionForms 0 0 (S r_m_sectionMany 0 0 0) (e_nar 2 x4)))) r_m_rules 0 0 (S r_m_sectionMany 0 0 0) (e_nar 2 109)) r_m_sectionMany 0 0 0 (e_wr ((S r_m_sectionMany 0 0 0) + 1))) r_m_sectionMany 0 0 0) - 1))]), (e_upd (e_upd (e_upd (e_upd (e_upd (e_upd (e_upd (e_upd (e_upd S r_m_thrown 0 0 0 0) r_m_thrown 0 0 0 0) r_m_quotas 0 0 (S r_m_sectionMany 0 0 0) x1) r_m_budgets 0 0 (S r_m_sectionMany 0 0 0) x2) r_m_leasts 0 0 (S r_m_sectionMany 0 0 0) x3) r_m_sectionForms 0 0 (S r_m_sectionMany 0 0 0) (e_nar 2 x4)) r_m_premieres 0 0 (S r_m_sectionMany 0 0 0) (v_m_premiereOf x5 (e_upd (e_upd (e_upd (e_upd (e_upd (e_upd S r_m_thrown 0 0 0 0) r_m_thrown 0 0 0 0) r_m_quotas 0 0 (S r_m_sectionMany 0 0 0) x1) r_m_budgets 0 0 (S r_m_sectionMany 0 0 0) x2) r_m_leasts 0 0 (S r_m_sectionMany 0 0 0) x3) r_m_sectionForms 0 0 (S r_m_sectionMany 0 0 0) (e_nar 2 x4)))) r_m_rules 0 0 (S r_m_sectionMany 0 0 0) (e_nar 2 109)) r_m_sectionMany 0 0 0 (e_wr ((S r_m_sectionMany 0 0 0) + 1)))) else ((0, [0]), (e_upd (e_upd S r_m_thrown 0 0 0 0) r_m_thrown 0 0 0 2)))) else (bif !decide (x4 = 45) then ((0, [0]), (e_upd S r_m_thrown 0 0 0 1)) else (bif decide ((v_m_premiereOf x5 S) < 0) then ((0, [0]), (e_upd S r_m_thrown 0 0 0 1)) else (bif !decide ((S r_m_sectionMany 0 0 0) = 5) then ((0, [(e_wr (((e_upd (e_upd (e_upd (e_upd (e_upd (e_upd (e_upd (e_upd (e_upd S r_m_thrown 0 0 0 0) r_m_thrown 0 0 0 0) r_m_quotas 0 0 (S r_m_sectionMany 0 0 0) x1) r_m_budgets 0 0 (S r_m_sectionMany 0 0 0) x2) r_m_leasts 0 0 (S r_m_sectionMany 0 0 0) x3) r_m_sectionForms 0 0 (S r_m_sectionMany 0 0 0) (e_nar 2 x4)) r_m_premieres 0 0 (S r_m_sectionMany 0 0 0) (v_m_premiereOf x5 (e_upd (e_upd (e_upd (e_upd (e_upd (e_upd S r_m_thrown 0 0 0 0) r_m_thrown 0 0 0 0) r_m_quotas 0 0 (S r_m_sectionMany 0 0 0) x1) r_m_budgets 0 0 (S r_m_sectionMany 0 0 0) x2) r_m_leasts 0 0 (S r_m_sectionMany 0 0 0) x3) r_m_sectionForms 0 0 (S r_m_sectionMany 0 0 0) (e_nar 2 x4)))) r_m_rules 0 0 (S r_m_sectionMany 0 0 0) (e_nar 2 109)) r_m_sectionMany 0 0 0 (e_wr ((S r_m_sectionMany 0 0 0) + 1))) r_m_sectionMany 0 0 0) - 1))]), (e_upd (e_upd (e_upd (e_upd (e_upd (e_upd (e_upd (e_upd (e_upd S r_m_thrown 0 0 0 0) r_m_thrown 0 0 0 0) r_m_quotas 0 0 (S r_m_sectionMany 0 0 0) x1) r_m_budgets 0 0 (S r_m_sectionMany 0 0 0) x2) r_m_leasts 0 0 (S r_m_sectionMany 0 0 0) x3) r_m_sectionForms 0 0 (S r_m_sectionMany 0 0 0) (e_nar 2 x4)) r_m_premieres 0 0 (S r_m_sectionMany 0 0 0) (v_m_premiereOf x5 (e_upd (e_upd (e_upd (e_upd (e_upd (e_upd S r_m_thrown 0 0 0 0) r_m_thrown 0 0 0 0) r_m_quotas 0 0 (S r_m_sectionMany 0 0 0) x1) r_m_budgets 0 0 (S r_m_sectionMany 0 0 0) x2) r_m_leasts 0 0 (S r_m_sectionMany 0 0 0) x3) r_m_sectionForms 0 0 (S r_m_sectionMany 0 0 0) (e_nar 2 x4)))) r_m_rules 0 0 (S r_m_sectionMany 0 0 0) (e_nar 2 109)) r_m_sectionMany 0 0 0 (e_wr ((S r_m_sectionMany 0 0 0) + 1)))) else ((0, [0]), (e_upd (e_upd S r_m_thrown 0 0 0 0) r_m_thrown 0 0 0 2)))))))))
  | _ => ((0, []), S)
theorem zE185 {x1 x2 x3 x4 x5 : Int} {S : ZS} : z_ev (z_F zT185) 76 zP185_0 [x1, x2, x3, x4, x5] S = f_m_section [x1, x2, x3, x4, x5] S := by
  simp -implicitDefEqProofs only [zP185_0, zF185_163, zF185_164, zF185_165, zF185_183, zpI0, zpI1, zpIc, pF_m_isIn, pF_m_isForm, pF_m_premiereOf, Nat.zero_add, Nat.reduceAdd, Nat.reduceBEq, Int.reduceToNat, z_e0, z_e1, z_e2, z_e3, z_e4, z_e5, z_e6, z_e7, z_e8, z_e11, z_e13, o_v0, o_v1, o_v2, List.cons_append, List.nil_append, List.map_cons, List.map_nil, List.drop_succ_cons, List.drop_zero, List.take_succ_cons, List.take_zero, e_c0, e_c1, e_c2, e_c3, e_c4, e_c5, e_b0, e_b1, e_b2, e_b3, e_b4, e_b5, e_b6, e_b7, e_b8, e_b9, e_b10, e_b11, e_b12, e_b13, e_b14, e_b15, e_b16, e_b17, e_n0, e_bnd, e_un]
  try rfl
theorem zM185 : z_met 185 5 [(52, (0, 0), (0, 0)), (0, (1, 0), (0, 0)), (0, (2, 0), (0, 0)), (0, (3, 0), (0, 0)), (0, (4, 0), (0, 0)), (0, (5, 0), (0, 0))] f_m_section := z_met_ev zH185 (fun _ _ h => by rw [List.mem_singleton] at h; cases h; exact fun _ _ => rfl) rfl zG185 (by decide +kernel) (fun L S hn => match L, hn with
  | [x1, x2, x3, x4, x5], _ => zE185)
def zW185 : List Nat := [r_m_sectionMany, r_m_thrown, r_m_quotas, r_m_budgets, r_m_leasts, r_m_sectionForms, r_m_premieres, r_m_rules]
theorem zK185 : z_kp 5 zW185 f_m_section := z_kp_ev (KT := [(163, 2, zW163), (164, 3, zW164), (165, 1, zW165), (183, 1, zW183)]) (.c zF185_163 zK163 (.c zF185_164 zK164 (.c zF185_165 zK165 (.c zF185_183 zK183 .n)))) (fun _ _ => Or.inl rfl) (by decide +kernel) (fun L S hn => match L, hn with
  | [x1, x2, x3, x4, x5], _ => zE185)

-- x_checkSection (145)
def zT145 : ZT := [(142, 2, [(0, (1, 0), (0, 0)), (0, (2, 0), (0, 0))], f_x_checkNumber)]
theorem zH145 : z_ok zT145 := .c zM142 .n
theorem zF145_142 : z_F zT145 142 = f_x_checkNumber := id rfl
def zP145_0 : List ZO := [(5, [(6, 0), (0, 0), (0, 0), (0, 0)]), (7, [(142, 0), (1, 0), (2, 0)]), (0, [])]
def zC145 : ZC := [(0, 1, [some (2, (0, 0), (0, 0)), some (0, (1, 0), (0, 0))])]
theorem zG145 : z_go zC145 (z_A zT145) [] 145 400 true 4 zP145_0 0 [some (2, (0, 0), (0, 0)), some (0, (1, 0), (0, 0))] [] 1 = true := by decide +kernel
def f_x_checkSection : ZFn := fun L S => match L with
  | [x1] => (e_bind (f_x_checkNumber [x1, (S r_x_sectionCount 0 0 0)] S) (fun v1 S1 => ((0, []), S1)))
  | _ => ((0, []), S)
theorem zE145 {x1 : Int} {S : ZS} : z_ev (z_F zT145) 4 zP145_0 [x1] S = f_x_checkSection [x1] S := id rfl
theorem zM145 : z_met 145 1 [(2, (0, 0), (0, 0)), (0, (1, 0), (0, 0))] f_x_checkSection := z_met_ev zH145 (fun _ _ h => absurd h List.not_mem_nil) rfl zG145 (by decide +kernel) (fun L S hn => match L, hn with
  | [x1], _ => zE145)
def zW145 : List Nat := []
theorem zK145 : z_kp 1 zW145 f_x_checkSection := z_kp_ev (KT := [(142, 2, zW142)]) (.c zF145_142 zK142 .n) (z_h163 rfl) (by decide +kernel) (fun L S hn => match L, hn with
  | [x1], _ => zE145)

-- x_putInOrder (151)
def zT151 : ZT := []
theorem zH151 : z_ok zT151 := .n
def zP151_0 : List ZO := [(2, [(3, 0), (2, 0), (3, 0), (1, 0)])]
def zP151_3 : List ZO := [(3, [(5, 0), (3, 0), (3, 0), (0, 0)]), (6, [(3072, 0), (0, 0), (0, 0), (0, 0), (3, 0), (1, 0)]), (6, [(3136, 0), (0, 0), (0, 0), (0, 0), (3, 0), (2, 0)]), (0, []), (4, [(1, 0), (3, 0), (0, 1)]), (5, [(3136, 0), (0, 0), (0, 0), (4, 0)]), (3, [(3, 0), (3, 0), (5, 0), (2, 0)]), (6, [(3072, 0), (0, 0), (0, 0), (0, 0), (3, 0), (1, 0)]), (6, [(3136, 0), (0, 0), (0, 0), (0, 0), (3, 0), (2, 0)]), (0, []), (4, [(1, 0), (3, 0), (0, 1)]), (5, [(3072, 0), (0, 0), (0, 0), (6, 0)]), (6, [(3072, 0), (0, 0), (0, 0), (0, 0), (3, 0), (7, 0)]), (4, [(1, 0), (3, 0), (0, 1)]), (5, [(3136, 0), (0, 0), (0, 0), (8, 0)]), (6, [(3136, 0), (0, 0), (0, 0), (0, 0), (3, 0), (9, 0)]), (4, [(0, 0), (3, 0), (0, (-1))]), (2, [(3, 0), (1, 0), (2, 0), (10, 0)])]
def zD151 : ZD := [(0, 3, [some (2, (0, 0), (0, 0)), some (0, (1, 0), (0, 0)), some (0, (2, 0), (0, 0)), some (0, (3, 0), (0, 0)), none], 2, zP151_0), (3, 3, [some (2, (0, 0), (0, 0)), none, some (0, (1, 0), (0, 0)), some (0, (2, 0), (0, 0)), some (0, (3, 0), (0, 0))], 19, zP151_3)]
theorem zG151 : z_chk zT151 [] 151 zD151 = true := by decide +kernel
noncomputable def g_x_putInOrder (R : ZR) : ZR := z_psi (z_st (z_F zT151) zD151) R
noncomputable def f_x_putInOrder : ZFn := fun L S => g_x_putInOrder ((1000, L), S)
theorem zM151 : z_met 151 3 [(2, (0, 0), (0, 0)), (0, (1, 0), (0, 0)), (0, (2, 0), (0, 0)), (0, (3, 0), (0, 0))] f_x_putInOrder := z_met_psi zH151 (fun _ _ h => absurd h List.not_mem_nil) rfl zG151
theorem zE151_0 {x1 x2 x3 : Int} {S : ZS} : z_st (z_F zT151) zD151 0 [x1, x2, x3] S = ((1003, [x2, x3, x1]), S) := (id rfl : z_st (z_F zT151) zD151 0 [x1, x2, x3] S = z_ev (z_F zT151) 2 zP151_0 [x1, x2, x3] S).trans (id rfl)
theorem g_x_putInOrder_0 {x1 x2 x3 : Int} {S : ZS} : g_x_putInOrder ((1000, [x1, x2, x3]), S) = (g_x_putInOrder ((1003, [x2, x3, x1]), S)) := by
  unfold g_x_putInOrder
  refine ((z_psi_go (pc := 0)).trans (congrArg _ zE151_0)).trans ?_
  try simp only [z_psi_c, z_psi_b, z_psi_n, Nat.reduceLT, decide_true]
theorem zE151_3 {x1 x2 x3 : Int} {S : ZS} : z_st (z_F zT151) zD151 3 [x1, x2, x3] S = (bif decide (x3 ≤ 0) then ((0, []), (e_upd (e_upd S r_x_order 0 0 x3 x1) r_x_weights 0 0 x3 x2)) else (bif decide (x2 ≤ (S r_x_weights 0 0 (e_wr (x3 - 1)))) then ((0, []), (e_upd (e_upd S r_x_order 0 0 x3 x1) r_x_weights 0 0 x3 x2)) else ((1003, [x1, x2, (e_wr (x3 + (-1)))]), (e_upd (e_upd S r_x_order 0 0 x3 (S r_x_order 0 0 (e_wr (x3 - 1)))) r_x_weights 0 0 x3 (S r_x_weights 0 0 (e_wr (x3 - 1))))))) := (id rfl : z_st (z_F zT151) zD151 3 [x1, x2, x3] S = z_ev (z_F zT151) 19 zP151_3 [x1, x2, x3] S).trans (by
  simp -implicitDefEqProofs only [zP151_3, Nat.zero_add, Nat.reduceAdd, Nat.reduceBEq, Int.reduceToNat, z_e0, z_e1, z_e2, z_e3, z_e4, z_e5, z_e6, z_e7, z_e8, z_e11, z_e13, o_v0, o_v1, o_v2, List.cons_append, List.nil_append, List.map_cons, List.map_nil, List.drop_succ_cons, List.drop_zero, List.take_succ_cons, List.take_zero, e_c0, e_c1, e_c2, e_c3, e_c4, e_c5, e_b0, e_b1, e_b2, e_b3, e_b4, e_b5, e_b6, e_b7, e_b8, e_b9, e_b10, e_b11, e_b12, e_b13, e_b14, e_b15, e_b16, e_b17, e_n0, e_bnd, e_un]
  try rfl)
theorem g_x_putInOrder_3 {x1 x2 x3 : Int} {S : ZS} : g_x_putInOrder ((1003, [x1, x2, x3]), S) = (bif decide (x3 ≤ 0) then ((0, []), (e_upd (e_upd S r_x_order 0 0 x3 x1) r_x_weights 0 0 x3 x2)) else (bif decide (x2 ≤ (S r_x_weights 0 0 (e_wr (x3 - 1)))) then ((0, []), (e_upd (e_upd S r_x_order 0 0 x3 x1) r_x_weights 0 0 x3 x2)) else (g_x_putInOrder ((1003, [x1, x2, (e_wr (x3 + (-1)))]), (e_upd (e_upd S r_x_order 0 0 x3 (S r_x_order 0 0 (e_wr (x3 - 1)))) r_x_weights 0 0 x3 (S r_x_weights 0 0 (e_wr (x3 - 1)))))))) := by
  unfold g_x_putInOrder
  refine ((z_psi_go (pc := 3)).trans (congrArg _ zE151_3)).trans ?_
  try simp only [z_psi_c, z_psi_b, z_psi_n, Nat.reduceLT, decide_true]
def zW151 : List Nat := [r_x_order, r_x_weights]
theorem zK151 : z_kp 3 zW151 f_x_putInOrder := fun L S hL hc r i j k hr => z_psi_kp (KT := []) (F := z_F zT151) (W := zW151) (D := zD151) (.n) (z_h163 rfl) (by decide +kernel) _ hc r i j k hr

-- x_orderByScore (152)
noncomputable def zT152 : ZT := [(65, 1, [(28, (0, 0), (0, 0)), (0, (1, 0), (0, 0))], f_Readings_countTold), (67, 1, [(28, (0, 0), (0, 0)), (0, (1, 0), (0, 0))], f_Readings_meanOfEven), (151, 3, [(2, (0, 0), (0, 0)), (0, (1, 0), (0, 0)), (0, (2, 0), (0, 0)), (0, (3, 0), (0, 0))], f_x_putInOrder)]
theorem zH152 : z_ok zT152 := .c zM65 (.c zM67 (.c zM151 .n))
theorem zF152_65 : z_F zT152 65 = f_Readings_countTold := id rfl
theorem zF152_67 : z_F zT152 67 = f_Readings_meanOfEven := id rfl
theorem zF152_151 : z_F zT152 151 = f_x_putInOrder := id rfl
def zP152_0 : List ZO := [(2, [(4, 0), (0, 0), (0, 0)])]
def zP152_4 : List ZO := [(5, [(4, 0), (0, 0), (0, 0), (0, 0)]), (3, [(3, 0), (1, 0), (2, 0), (3, 0)]), (0, [(1, 0)]), (7, [(65, 0), (2, 0)]), (3, [(5, 0), (2, 0), (4, 0), (0, 0)]), (4, [(0, 0), (2, 0), (0, 1)]), (2, [(4, 0), (1, 0), (5, 0)]), (7, [(67, 0), (2, 0)]), (7, [(151, 0), (1, 0), (2, 0), (5, 0)]), (4, [(0, 0), (1, 0), (0, 1)]), (4, [(0, 0), (2, 0), (0, 1)]), (2, [(4, 0), (7, 0), (8, 0)])]
def zD152 : ZD := [(0, 0, [some (2, (0, 0), (0, 0)), none, none], 2, zP152_0), (4, 2, [some (2, (0, 0), (0, 0)), some (0, (1, 0), (0, 0)), some (0, (2, 0), (0, 0))], 13, zP152_4)]
theorem zG152 : z_chk zT152 [] 152 zD152 = true := by decide +kernel
noncomputable def g_x_orderByScore (R : ZR) : ZR := z_psi (z_st (z_F zT152) zD152) R
noncomputable def f_x_orderByScore : ZFn := fun L S => g_x_orderByScore ((1000, L), S)
theorem zM152 : z_met 152 0 [(2, (0, 0), (0, 0))] f_x_orderByScore := z_met_psi zH152 (fun _ _ h => absurd h List.not_mem_nil) rfl zG152
theorem zE152_0 {S : ZS} : z_st (z_F zT152) zD152 0 [] S = ((1004, [0, 0]), S) := (id rfl : z_st (z_F zT152) zD152 0 [] S = z_ev (z_F zT152) 2 zP152_0 [] S).trans (id rfl)
theorem g_x_orderByScore_0 {S : ZS} : g_x_orderByScore ((1000, []), S) = (g_x_orderByScore ((1004, [0, 0]), S)) := by
  unfold g_x_orderByScore
  refine ((z_psi_go (pc := 0)).trans (congrArg _ zE152_0)).trans ?_
  try simp only [z_psi_c, z_psi_b, z_psi_n, Nat.reduceLT, decide_true]
theorem zE152_4 {x1 x2 : Int} {S : ZS} : z_st (z_F zT152) zD152 4 [x1, x2] S = (bif decide ((S r_x_filmCount 0 0 0) ≤ x2) then ((0, [x1]), S) else (e_bind (f_Readings_countTold [x2] S) (fun v1 S1 => (bif decide (v1 ≤ 0) then ((1004, [x1, (e_wr (x2 + 1))]), S1) else (e_bind (f_Readings_meanOfEven [x2] S1) (fun v2 S2 => (e_bind (f_x_putInOrder [x1, x2, v2] S2) (fun v3 S3 => ((1004, [(e_wr (x1 + 1)), (e_wr (x2 + 1))]), S3))))))))) := (id rfl : z_st (z_F zT152) zD152 4 [x1, x2] S = z_ev (z_F zT152) 13 zP152_4 [x1, x2] S).trans (id rfl)
theorem g_x_orderByScore_4 {x1 x2 : Int} {S : ZS} : g_x_orderByScore ((1004, [x1, x2]), S) = (bif decide ((S r_x_filmCount 0 0 0) ≤ x2) then ((0, [x1]), S) else (e_bind (f_Readings_countTold [x2] S) (fun v1 S1 => (bif decide (v1 ≤ 0) then (g_x_orderByScore ((1004, [x1, (e_wr (x2 + 1))]), S1)) else (e_bind (f_Readings_meanOfEven [x2] S1) (fun v2 S2 => (e_bind (f_x_putInOrder [x1, x2, v2] S2) (fun v3 S3 => (g_x_orderByScore ((1004, [(e_wr (x1 + 1)), (e_wr (x2 + 1))]), S3)))))))))) := by
  unfold g_x_orderByScore
  refine ((z_psi_go (pc := 4)).trans (congrArg _ zE152_4)).trans ?_
  try simp only [z_psi_c, z_psi_b, z_psi_n, Nat.reduceLT, decide_true]
def zW152 : List Nat := [r_x_order, r_x_weights]
theorem zK152 : z_kp 0 zW152 f_x_orderByScore := fun L S hL hc r i j k hr => z_psi_kp (KT := [(65, 1, zW65), (67, 1, zW67), (151, 3, zW151)]) (F := z_F zT152) (W := zW152) (D := zD152) (.c zF152_65 zK65 (.c zF152_67 zK67 (.c zF152_151 zK151 .n))) (z_h163 rfl) (by decide +kernel) _ hc r i j k hr

-- x_filmsIn (155)
def zT155 : ZT := []
theorem zH155 : z_ok zT155 := .n
def zP155_0 : List ZO := [(2, [(4, 0), (1, 0), (0, 0), (0, 0)])]
def zP155_4 : List ZO := [(5, [(4, 0), (0, 0), (0, 0), (0, 0)]), (3, [(3, 0), (1, 0), (3, 0), (4, 0)]), (0, [(2, 0)]), (5, [(195, 0), (3, 0), (0, 0), (0, 0)]), (3, [(1, 0), (2, 0), (5, 0), (1, 0)]), (4, [(0, 0), (3, 0), (0, 1)]), (2, [(4, 0), (1, 0), (2, 0), (6, 0)]), (4, [(0, 0), (2, 0), (0, 1)]), (4, [(0, 0), (3, 0), (0, 1)]), (2, [(4, 0), (1, 0), (6, 0), (7, 0)])]
def zD155 : ZD := [(0, 1, [some (2, (0, 0), (0, 0)), some (0, (1, 0), (0, 0)), none, none], 2, zP155_0), (4, 3, [some (2, (0, 0), (0, 0)), some (0, (1, 0), (0, 0)), some (0, (2, 0), (0, 0)), some (0, (3, 0), (0, 0))], 11, zP155_4)]
theorem zG155 : z_chk zT155 [] 155 zD155 = true := by decide +kernel
noncomputable def g_x_filmsIn (R : ZR) : ZR := z_psi (z_st (z_F zT155) zD155) R
noncomputable def f_x_filmsIn : ZFn := fun L S => g_x_filmsIn ((1000, L), S)
theorem zM155 : z_met 155 1 [(2, (0, 0), (0, 0)), (0, (1, 0), (0, 0))] f_x_filmsIn := z_met_psi zH155 (fun _ _ h => absurd h List.not_mem_nil) rfl zG155
theorem zE155_0 {x1 : Int} {S : ZS} : z_st (z_F zT155) zD155 0 [x1] S = ((1004, [x1, 0, 0]), S) := (id rfl : z_st (z_F zT155) zD155 0 [x1] S = z_ev (z_F zT155) 2 zP155_0 [x1] S).trans (id rfl)
theorem g_x_filmsIn_0 {x1 : Int} {S : ZS} : g_x_filmsIn ((1000, [x1]), S) = (g_x_filmsIn ((1004, [x1, 0, 0]), S)) := by
  unfold g_x_filmsIn
  refine ((z_psi_go (pc := 0)).trans (congrArg _ zE155_0)).trans ?_
  try simp only [z_psi_c, z_psi_b, z_psi_n, Nat.reduceLT, decide_true]
theorem zE155_4 {x1 x2 x3 : Int} {S : ZS} : z_st (z_F zT155) zD155 4 [x1, x2, x3] S = (bif decide ((S r_x_filmCount 0 0 0) ≤ x3) then ((0, [x2]), S) else (bif !decide ((S r_Film_section x3 0 0) = x1) then ((1004, [x1, x2, (e_wr (x3 + 1))]), S) else ((1004, [x1, (e_wr (x2 + 1)), (e_wr (x3 + 1))]), S))) := (id rfl : z_st (z_F zT155) zD155 4 [x1, x2, x3] S = z_ev (z_F zT155) 11 zP155_4 [x1, x2, x3] S).trans (id rfl)
theorem g_x_filmsIn_4 {x1 x2 x3 : Int} {S : ZS} : g_x_filmsIn ((1004, [x1, x2, x3]), S) = (bif decide ((S r_x_filmCount 0 0 0) ≤ x3) then ((0, [x2]), S) else (bif !decide ((S r_Film_section x3 0 0) = x1) then (g_x_filmsIn ((1004, [x1, x2, (e_wr (x3 + 1))]), S)) else (g_x_filmsIn ((1004, [x1, (e_wr (x2 + 1)), (e_wr (x3 + 1))]), S)))) := by
  unfold g_x_filmsIn
  refine ((z_psi_go (pc := 4)).trans (congrArg _ zE155_4)).trans ?_
  try simp only [z_psi_c, z_psi_b, z_psi_n, Nat.reduceLT, decide_true]
def zW155 : List Nat := []
theorem zK155 : z_kp 1 zW155 f_x_filmsIn := fun L S hL hc r i j k hr => z_psi_kp (KT := []) (F := z_F zT155) (W := zW155) (D := zD155) (.n) (z_h163 rfl) (by decide +kernel) _ hc r i j k hr

-- x_minutesIn (156)
def zT156 : ZT := []
theorem zH156 : z_ok zT156 := .n
def zP156_0 : List ZO := [(2, [(4, 0), (1, 0), (0, 0), (0, 0)])]
def zP156_4 : List ZO := [(5, [(4, 0), (0, 0), (0, 0), (0, 0)]), (3, [(3, 0), (1, 0), (3, 0), (4, 0)]), (0, [(2, 0)]), (5, [(195, 0), (3, 0), (0, 0), (0, 0)]), (3, [(1, 0), (2, 0), (5, 0), (1, 0)]), (4, [(0, 0), (3, 0), (0, 1)]), (2, [(4, 0), (1, 0), (2, 0), (6, 0)]), (5, [(193, 0), (3, 0), (0, 0), (0, 0)]), (4, [(0, 0), (2, 0), (6, 0)]), (4, [(0, 0), (3, 0), (0, 1)]), (2, [(4, 0), (1, 0), (7, 0), (8, 0)])]
def zD156 : ZD := [(0, 1, [some (2, (0, 0), (0, 0)), some (0, (1, 0), (0, 0)), none, none], 2, zP156_0), (4, 3, [some (2, (0, 0), (0, 0)), some (0, (1, 0), (0, 0)), some (0, (2, 0), (0, 0)), some (0, (3, 0), (0, 0))], 12, zP156_4)]
theorem zG156 : z_chk zT156 [] 156 zD156 = true := by decide +kernel
noncomputable def g_x_minutesIn (R : ZR) : ZR := z_psi (z_st (z_F zT156) zD156) R
noncomputable def f_x_minutesIn : ZFn := fun L S => g_x_minutesIn ((1000, L), S)
theorem zM156 : z_met 156 1 [(2, (0, 0), (0, 0)), (0, (1, 0), (0, 0))] f_x_minutesIn := z_met_psi zH156 (fun _ _ h => absurd h List.not_mem_nil) rfl zG156
theorem zE156_0 {x1 : Int} {S : ZS} : z_st (z_F zT156) zD156 0 [x1] S = ((1004, [x1, 0, 0]), S) := (id rfl : z_st (z_F zT156) zD156 0 [x1] S = z_ev (z_F zT156) 2 zP156_0 [x1] S).trans (id rfl)
theorem g_x_minutesIn_0 {x1 : Int} {S : ZS} : g_x_minutesIn ((1000, [x1]), S) = (g_x_minutesIn ((1004, [x1, 0, 0]), S)) := by
  unfold g_x_minutesIn
  refine ((z_psi_go (pc := 0)).trans (congrArg _ zE156_0)).trans ?_
  try simp only [z_psi_c, z_psi_b, z_psi_n, Nat.reduceLT, decide_true]
theorem zE156_4 {x1 x2 x3 : Int} {S : ZS} : z_st (z_F zT156) zD156 4 [x1, x2, x3] S = (bif decide ((S r_x_filmCount 0 0 0) ≤ x3) then ((0, [x2]), S) else (bif !decide ((S r_Film_section x3 0 0) = x1) then ((1004, [x1, x2, (e_wr (x3 + 1))]), S) else ((1004, [x1, (e_wr (x2 + (S r_Film_minutes x3 0 0))), (e_wr (x3 + 1))]), S))) := (id rfl : z_st (z_F zT156) zD156 4 [x1, x2, x3] S = z_ev (z_F zT156) 12 zP156_4 [x1, x2, x3] S).trans (id rfl)
theorem g_x_minutesIn_4 {x1 x2 x3 : Int} {S : ZS} : g_x_minutesIn ((1004, [x1, x2, x3]), S) = (bif decide ((S r_x_filmCount 0 0 0) ≤ x3) then ((0, [x2]), S) else (bif !decide ((S r_Film_section x3 0 0) = x1) then (g_x_minutesIn ((1004, [x1, x2, (e_wr (x3 + 1))]), S)) else (g_x_minutesIn ((1004, [x1, (e_wr (x2 + (S r_Film_minutes x3 0 0))), (e_wr (x3 + 1))]), S)))) := by
  unfold g_x_minutesIn
  refine ((z_psi_go (pc := 4)).trans (congrArg _ zE156_4)).trans ?_
  try simp only [z_psi_c, z_psi_b, z_psi_n, Nat.reduceLT, decide_true]
def zW156 : List Nat := []
theorem zK156 : z_kp 1 zW156 f_x_minutesIn := fun L S hL hc r i j k hr => z_psi_kp (KT := []) (F := z_F zT156) (W := zW156) (D := zD156) (.n) (z_h163 rfl) (by decide +kernel) _ hc r i j k hr

-- x_canBeChosen (154)
noncomputable def zT154 : ZT := [(68, 1, [(28, (0, 0), (0, 0)), (0, (1, 0), (0, 0))], f_Readings_spread), (155, 1, [(2, (0, 0), (0, 0)), (0, (1, 0), (0, 0))], f_x_filmsIn), (156, 1, [(2, (0, 0), (0, 0)), (0, (1, 0), (0, 0))], f_x_minutesIn)]
theorem zH154 : z_ok zT154 := .c zM68 (.c zM155 (.c zM156 .n))
theorem zF154_68 : z_F zT154 68 = f_Readings_spread := id rfl
theorem zF154_155 : z_F zT154 155 = f_x_filmsIn := id rfl
theorem zF154_156 : z_F zT154 156 = f_x_minutesIn := id rfl
def zP154_0 : List ZO := [(5, [(195, 0), (1, 0), (0, 0), (0, 0)]), (3, [(1, 0), (1, 0), (4, 0), (0, (-1))]), (0, [(0, 0)]), (5, [(196, 0), (1, 0), (0, 0), (0, 0)]), (3, [(1, 0), (1, 0), (5, 0), (0, 0)]), (0, [(0, 0)]), (7, [(68, 0), (1, 0)]), (3, [(4, 0), (1, 0), (6, 0), (0, 30)]), (0, [(0, 0)]), (5, [(1347, 0), (3, 0), (0, 0), (0, 0)]), (3, [(0, 0), (18, 0), (7, 0), (0, 45)]), (5, [(1346, 0), (3, 0), (0, 0), (0, 0)]), (3, [(2, 0), (1, 0), (2, 0), (8, 0)]), (0, [(0, 0)]), (5, [(197, 0), (1, 0), (0, 0), (0, 0)]), (5, [(1348, 0), (3, 0), (0, 0), (0, 0)]), (3, [(2, 0), (1, 0), (9, 0), (10, 0)]), (0, [(0, 0)]), (7, [(155, 0), (3, 0)]), (5, [(1344, 0), (3, 0), (0, 0), (0, 0)]), (3, [(3, 0), (1, 0), (11, 0), (12, 0)]), (0, [(0, 0)]), (7, [(156, 0), (3, 0)]), (5, [(193, 0), (1, 0), (0, 0), (0, 0)]), (4, [(0, 0), (13, 0), (14, 0)]), (5, [(1345, 0), (3, 0), (0, 0), (0, 0)]), (3, [(4, 0), (1, 0), (15, 0), (16, 0)]), (0, [(0, 0)]), (0, [(0, 1)]), (5, [(1347, 0), (3, 0), (0, 0), (0, 0)]), (5, [(192, 0), (1, 0), (0, 0), (0, 0)]), (3, [(1, 0), (1, 0), (8, 0), (9, 0)]), (0, [(0, 0)]), (5, [(1346, 0), (3, 0), (0, 0), (0, 0)]), (3, [(2, 0), (1, 0), (2, 0), (10, 0)]), (0, [(0, 0)]), (5, [(197, 0), (1, 0), (0, 0), (0, 0)]), (5, [(1348, 0), (3, 0), (0, 0), (0, 0)]), (3, [(2, 0), (1, 0), (11, 0), (12, 0)]), (0, [(0, 0)]), (7, [(155, 0), (3, 0)]), (5, [(1344, 0), (3, 0), (0, 0), (0, 0)]), (3, [(3, 0), (1, 0), (13, 0), (14, 0)]), (0, [(0, 0)]), (7, [(156, 0), (3, 0)]), (5, [(193, 0), (1, 0), (0, 0), (0, 0)]), (4, [(0, 0), (15, 0), (16, 0)]), (5, [(1345, 0), (3, 0), (0, 0), (0, 0)]), (3, [(4, 0), (1, 0), (17, 0), (18, 0)]), (0, [(0, 0)]), (0, [(0, 1)])]
def zC154 : ZC := [(0, 3, [some (2, (0, 0), (0, 0)), some (0, (1, 0), (0, 0)), some (0, (2, 0), (0, 0)), some (0, (3, 0), (0, 0)), none, none])]
theorem zG154 : z_go zC154 (z_A zT154) [] 154 400 true 52 zP154_0 0 [some (2, (0, 0), (0, 0)), some (0, (1, 0), (0, 0)), some (0, (2, 0), (0, 0)), some (0, (3, 0), (0, 0)), none, none] [] 3 = true := by decide +kernel
noncomputable def f_x_canBeChosen : ZFn := fun L S => match L with
  | [x1, x2, x3] => (bif !decide ((S r_Film_section x1 0 0) = (-1)) then ((0, [0]), S) else (bif !decide ((S r_Film_isWithdrawn x1 0 0) = 0) then ((0, [0]), S) else (e_bind (f_Readings_spread [x1] S) (fun v1 S1 => (bif decide (30 < v1) then ((0, [0]), S1) else (bif decide ((S1 r_Section_form x3 0 0) = 45) then (bif decide (x2 < (S1 r_Section_least x3 0 0)) then ((0, [0]), S1) else (bif decide ((S1 r_Film_stillIs x1 0 0) < (S1 r_Section_premiere x3 0 0)) then ((0, [0]), S1) else (e_bind (f_x_filmsIn [x3] S1) (fun v2 S2 => (bif decide ((S2 r_Section_quota x3 0 0) ≤ v2) then ((0, [0]), S2) else (e_bind (f_x_minutesIn [x3] S2) (fun v3 S3 => (bif decide ((S3 r_Section_budget x3 0 0) < (e_wr (v3 + (S3 r_Film_minutes x1 0 0)))) then ((0, [0]), S3) else ((0, [1]), S3))))))))) else (bif !decide ((S1 r_Section_form x3 0 0) = (S1 r_Film_form x1 0 0)) then ((0, [0]), S1) else (bif decide (x2 < (S1 r_Section_least x3 0 0)) then ((0, [0]), S1) else (bif decide ((S1 r_Film_stillIs x1 0 0) < (S1 r_Section_premiere x3 0 0)) then ((0, [0]), S1) else (e_bind (f_x_filmsIn [x3] S1) (fun v4 S4 => (bif decide ((S4 r_Section_quota x3 0 0) ≤ v4) then ((0, [0]), S4) else (e_bind (f_x_minutesIn [x3] S4) (fun v5 S5 => (bif decide ((S5 r_Section_budget x3 0 0) < (e_wr (v5 + (S5 r_Film_minutes x1 0 0)))) then ((0, [0]), S5) else ((0, [1]), S5))))))))))))))))
  | _ => ((0, []), S)
theorem zE154 {x1 x2 x3 : Int} {S : ZS} : z_ev (z_F zT154) 52 zP154_0 [x1, x2, x3] S = f_x_canBeChosen [x1, x2, x3] S := by
  simp -implicitDefEqProofs only [zP154_0, zF154_68, zF154_155, zF154_156, Nat.zero_add, Nat.reduceAdd, Nat.reduceBEq, Int.reduceToNat, z_e0, z_e1, z_e2, z_e3, z_e4, z_e5, z_e6, z_e7, z_e8, z_e11, z_e13, o_v0, o_v1, o_v2, List.cons_append, List.nil_append, List.map_cons, List.map_nil, List.drop_succ_cons, List.drop_zero, List.take_succ_cons, List.take_zero, e_c0, e_c1, e_c2, e_c3, e_c4, e_c5, e_b0, e_b1, e_b2, e_b3, e_b4, e_b5, e_b6, e_b7, e_b8, e_b9, e_b10, e_b11, e_b12, e_b13, e_b14, e_b15, e_b16, e_b17, e_n0, e_bnd, e_un]
  try rfl
theorem zM154 : z_met 154 3 [(2, (0, 0), (0, 0)), (0, (1, 0), (0, 0)), (0, (2, 0), (0, 0)), (0, (3, 0), (0, 0))] f_x_canBeChosen := z_met_ev zH154 (fun _ _ h => absurd h List.not_mem_nil) rfl zG154 (by decide +kernel) (fun L S hn => match L, hn with
  | [x1, x2, x3], _ => zE154)
def zW154 : List Nat := []
theorem zK154 : z_kp 3 zW154 f_x_canBeChosen := z_kp_ev (KT := [(68, 1, zW68), (155, 1, zW155), (156, 1, zW156)]) (.c zF154_68 zK68 (.c zF154_155 zK155 (.c zF154_156 zK156 .n))) (z_h163 rfl) (by decide +kernel) (fun L S hn => match L, hn with
  | [x1, x2, x3], _ => zE154)

-- Film_enter (26)
def zT26 : ZT := []
theorem zH26 : z_ok zT26 := .n
def zP26_0 : List ZO := [(6, [(195, 0), (0, 0), (1, 0), (0, 0), (0, 0), (2, 0)]), (6, [(198, 0), (0, 0), (1, 0), (0, 0), (0, 0), (3, 0)]), (0, [])]
def zC26 : ZC := [(0, 3, [some (5, (1, 0), (0, 0)), some (0, (2, 0), (0, 0)), some (0, (3, 0), (0, 0))])]
theorem zG26 : z_go zC26 (z_A zT26) [] 26 400 true 4 zP26_0 0 [some (5, (1, 0), (0, 0)), some (0, (2, 0), (0, 0)), some (0, (3, 0), (0, 0))] [] 3 = true := by decide +kernel
def f_Film_enter : ZFn := fun L S => match L with
  | [x1, x2, x3] => ((0, []), (e_upd (e_upd S r_Film_section x1 0 0 x2) r_Film_promise x1 0 0 x3))
  | _ => ((0, []), S)
theorem zE26 {x1 x2 x3 : Int} {S : ZS} : z_ev (z_F zT26) 4 zP26_0 [x1, x2, x3] S = f_Film_enter [x1, x2, x3] S := id rfl
theorem zM26 : z_met 26 3 [(5, (1, 0), (0, 0)), (0, (2, 0), (0, 0)), (0, (3, 0), (0, 0))] f_Film_enter := z_met_ev zH26 (fun _ _ h => absurd h List.not_mem_nil) rfl zG26 (by decide +kernel) (fun L S hn => match L, hn with
  | [x1, x2, x3], _ => zE26)
def zW26 : List Nat := [r_Film_section, r_Film_promise]
theorem zK26 : z_kp 3 zW26 f_Film_enter := z_kp_ev (KT := []) (.n) (z_h163 rfl) (by decide +kernel) (fun L S hn => match L, hn with
  | [x1, x2, x3], _ => zE26)

-- Archive_add (1)
def zT1 : ZT := []
theorem zH1 : z_ok zT1 := .n
def zP1_0 : List ZO := [(5, [(707, 0), (0, 0), (0, 0), (0, 0)]), (6, [(768, 0), (2, 0), (0, 0), (0, 0), (3, 0), (1, 0)]), (5, [(707, 0), (0, 0), (0, 0), (0, 0)]), (6, [(832, 0), (0, 0), (0, 0), (0, 0), (4, 0), (2, 0)]), (5, [(707, 0), (0, 0), (0, 0), (0, 0)]), (4, [(0, 0), (5, 0), (0, 1)]), (4, [(4, 0), (6, 0), (0, 400)]), (6, [(707, 0), (0, 0), (0, 0), (0, 0), (0, 0), (7, 0)]), (5, [(706, 0), (0, 0), (0, 0), (0, 0)]), (4, [(0, 0), (8, 0), (0, 1)]), (4, [(7, 0), (9, 0), (0, 400)]), (6, [(706, 0), (0, 0), (0, 0), (0, 0), (0, 0), (10, 0)]), (0, [])]
def zC1 : ZC := [(0, 2, [some (13, (0, 0), (0, 0)), some (0, (1, 0), (0, 0)), some (0, (2, 0), (0, 0))])]
theorem zG1 : z_go zC1 (z_A zT1) [] 1 400 true 14 zP1_0 0 [some (13, (0, 0), (0, 0)), some (0, (1, 0), (0, 0)), some (0, (2, 0), (0, 0))] [] 2 = true := by decide +kernel
def f_Archive_add : ZFn := fun L S => match L with
  | [x1, x2] => ((0, []), (e_upd (e_upd (e_upd (e_upd S r_Archive_letters 0 0 (S r_Archive_next 0 0 0) (e_nar 2 x1)) r_Archive_filmOf 0 0 (S r_Archive_next 0 0 0) x2) r_Archive_next 0 0 0 (e_wr ((e_wr ((S r_Archive_next 0 0 0) + 1)) - e_wr (e_div (e_wr ((S r_Archive_next 0 0 0) + 1)) 400 * 400)))) r_Archive_lineCount 0 0 0 (if 400 < (e_wr ((S r_Archive_lineCount 0 0 0) + 1)) then 400 else (e_wr ((S r_Archive_lineCount 0 0 0) + 1)))))
  | _ => ((0, []), S)
theorem zE1 {x1 x2 : Int} {S : ZS} : z_ev (z_F zT1) 14 zP1_0 [x1, x2] S = f_Archive_add [x1, x2] S := by
  simp -implicitDefEqProofs only [zP1_0, Nat.zero_add, Nat.reduceAdd, Nat.reduceBEq, Int.reduceToNat, z_e0, z_e1, z_e2, z_e3, z_e4, z_e5, z_e6, z_e7, z_e8, z_e11, z_e13, o_v0, o_v1, o_v2, List.cons_append, List.nil_append, List.map_cons, List.map_nil, List.drop_succ_cons, List.drop_zero, List.take_succ_cons, List.take_zero, e_c0, e_c1, e_c2, e_c3, e_c4, e_c5, e_b0, e_b1, e_b2, e_b3, e_b4, e_b5, e_b6, e_b7, e_b8, e_b9, e_b10, e_b11, e_b12, e_b13, e_b14, e_b15, e_b16, e_b17, e_n0, e_bnd, e_un]
  try rfl
theorem zM1 : z_met 1 2 [(13, (0, 0), (0, 0)), (0, (1, 0), (0, 0)), (0, (2, 0), (0, 0))] f_Archive_add := z_met_ev zH1 (fun _ _ h => absurd h List.not_mem_nil) rfl zG1 (by decide +kernel) (fun L S hn => match L, hn with
  | [x1, x2], _ => zE1)
def zW1 : List Nat := [r_Archive_lineCount, r_Archive_next, r_Archive_letters, r_Archive_filmOf]
theorem zK1 : z_kp 2 zW1 f_Archive_add := z_kp_ev (KT := []) (.n) (z_h163 rfl) (by decide +kernel) (fun L S hn => match L, hn with
  | [x1, x2], _ => zE1)

-- x_choose (100)
noncomputable def zT100 : ZT := [(1, 2, [(13, (0, 0), (0, 0)), (0, (1, 0), (0, 0)), (0, (2, 0), (0, 0))], f_Archive_add), (26, 3, [(5, (1, 0), (0, 0)), (0, (2, 0), (0, 0)), (0, (3, 0), (0, 0))], f_Film_enter), (145, 1, [(2, (0, 0), (0, 0)), (0, (1, 0), (0, 0))], f_x_checkSection), (152, 0, [(2, (0, 0), (0, 0))], f_x_orderByScore), (154, 3, [(2, (0, 0), (0, 0)), (0, (1, 0), (0, 0)), (0, (2, 0), (0, 0)), (0, (3, 0), (0, 0))], f_x_canBeChosen)]
theorem zH100 : z_ok zT100 := .c zM1 (.c zM26 (.c zM145 (.c zM152 (.c zM154 .n))))
theorem zF100_1 : z_F zT100 1 = f_Archive_add := id rfl
theorem zF100_26 : z_F zT100 26 = f_Film_enter := id rfl
theorem zF100_145 : z_F zT100 145 = f_x_checkSection := id rfl
theorem zF100_152 : z_F zT100 152 = f_x_orderByScore := id rfl
theorem zF100_154 : z_F zT100 154 = f_x_canBeChosen := id rfl
def zP100_0 : List ZO := [(7, [(145, 0), (1, 0)]), (7, [(152, 0)]), (2, [(15, 0), (1, 0), (3, 0), (0, 0), (0, 0)])]
def zP100_15 : List ZO := [(3, [(3, 0), (1, 0), (4, 0), (2, 0)]), (0, [(3, 0)]), (5, [(3072, 0), (0, 0), (0, 0), (4, 0)]), (5, [(3136, 0), (0, 0), (0, 0), (4, 0)]), (7, [(154, 0), (5, 0), (6, 0), (1, 0)]), (3, [(0, 0), (2, 0), (7, 0), (0, 0)]), (4, [(0, 0), (4, 0), (0, 1)]), (2, [(15, 0), (1, 0), (2, 0), (3, 0), (8, 0)]), (5, [(1348, 0), (1, 0), (0, 0), (0, 0)]), (7, [(26, 0), (5, 0), (1, 0), (8, 0)]), (7, [(1, 0), (0, 99), (5, 0)]), (4, [(0, 0), (3, 0), (0, 1)]), (4, [(0, 0), (4, 0), (0, 1)]), (2, [(15, 0), (1, 0), (2, 0), (11, 0), (12, 0)])]
def zD100 : ZD := [(0, 1, [some (2, (0, 0), (0, 0)), some (0, (1, 0), (0, 0)), none, none, none, none], 4, zP100_0), (15, 4, [some (2, (0, 0), (0, 0)), some (0, (1, 0), (0, 0)), some (0, (2, 0), (0, 0)), some (0, (3, 0), (0, 0)), some (0, (4, 0), (0, 0)), none], 15, zP100_15)]
theorem zG100 : z_chk zT100 [] 100 zD100 = true := by decide +kernel
noncomputable def g_x_choose (R : ZR) : ZR := z_psi (z_st (z_F zT100) zD100) R
noncomputable def f_x_choose : ZFn := fun L S => g_x_choose ((1000, L), S)
theorem zM100 : z_met 100 1 [(2, (0, 0), (0, 0)), (0, (1, 0), (0, 0))] f_x_choose := z_met_psi zH100 (fun _ _ h => absurd h List.not_mem_nil) rfl zG100
theorem zE100_0 {x1 : Int} {S : ZS} : z_st (z_F zT100) zD100 0 [x1] S = (e_bind (f_x_checkSection [x1] S) (fun v1 S1 => (e_bind (f_x_orderByScore [] S1) (fun v2 S2 => ((1015, [x1, v2, 0, 0]), S2))))) := (id rfl : z_st (z_F zT100) zD100 0 [x1] S = z_ev (z_F zT100) 4 zP100_0 [x1] S).trans (id rfl)
theorem g_x_choose_0 {x1 : Int} {S : ZS} : g_x_choose ((1000, [x1]), S) = (e_bind (f_x_checkSection [x1] S) (fun v1 S1 => (e_bind (f_x_orderByScore [] S1) (fun v2 S2 => (g_x_choose ((1015, [x1, v2, 0, 0]), S2)))))) := by
  unfold g_x_choose
  refine ((z_psi_go (pc := 0)).trans (congrArg _ zE100_0)).trans ?_
  try simp only [z_psi_c, z_psi_b, z_psi_n, Nat.reduceLT, decide_true]
theorem zE100_15 {x1 x2 x3 x4 : Int} {S : ZS} : z_st (z_F zT100) zD100 15 [x1, x2, x3, x4] S = (bif decide (x2 ≤ x4) then ((0, [x3]), S) else (e_bind (f_x_canBeChosen [(S r_x_order 0 0 x4), (S r_x_weights 0 0 x4), x1] S) (fun v1 S1 => (bif decide (v1 = 0) then ((1015, [x1, x2, x3, (e_wr (x4 + 1))]), S1) else (e_bind (f_Film_enter [(S r_x_order 0 0 x4), x1, (S1 r_Section_premiere x1 0 0)] S1) (fun v2 S2 => (e_bind (f_Archive_add [99, (S r_x_order 0 0 x4)] S2) (fun v3 S3 => ((1015, [x1, x2, (e_wr (x3 + 1)), (e_wr (x4 + 1))]), S3))))))))) := (id rfl : z_st (z_F zT100) zD100 15 [x1, x2, x3, x4] S = z_ev (z_F zT100) 15 zP100_15 [x1, x2, x3, x4] S).trans (by
  simp -implicitDefEqProofs only [zP100_15, zF100_1, zF100_26, zF100_145, zF100_152, zF100_154, Nat.zero_add, Nat.reduceAdd, Nat.reduceBEq, Int.reduceToNat, z_e0, z_e1, z_e2, z_e3, z_e4, z_e5, z_e6, z_e7, z_e8, z_e11, z_e13, o_v0, o_v1, o_v2, List.cons_append, List.nil_append, List.map_cons, List.map_nil, List.drop_succ_cons, List.drop_zero, List.take_succ_cons, List.take_zero, e_c0, e_c1, e_c2, e_c3, e_c4, e_c5, e_b0, e_b1, e_b2, e_b3, e_b4, e_b5, e_b6, e_b7, e_b8, e_b9, e_b10, e_b11, e_b12, e_b13, e_b14, e_b15, e_b16, e_b17, e_n0, e_bnd, e_un]
  try rfl)
theorem g_x_choose_15 {x1 x2 x3 x4 : Int} {S : ZS} : g_x_choose ((1015, [x1, x2, x3, x4]), S) = (bif decide (x2 ≤ x4) then ((0, [x3]), S) else (e_bind (f_x_canBeChosen [(S r_x_order 0 0 x4), (S r_x_weights 0 0 x4), x1] S) (fun v1 S1 => (bif decide (v1 = 0) then (g_x_choose ((1015, [x1, x2, x3, (e_wr (x4 + 1))]), S1)) else (e_bind (f_Film_enter [(S r_x_order 0 0 x4), x1, (S1 r_Section_premiere x1 0 0)] S1) (fun v2 S2 => (e_bind (f_Archive_add [99, (S r_x_order 0 0 x4)] S2) (fun v3 S3 => (g_x_choose ((1015, [x1, x2, (e_wr (x3 + 1)), (e_wr (x4 + 1))]), S3)))))))))) := by
  unfold g_x_choose
  refine ((z_psi_go (pc := 15)).trans (congrArg _ zE100_15)).trans ?_
  try simp only [z_psi_c, z_psi_b, z_psi_n, Nat.reduceLT, decide_true]
def zW100 : List Nat := [r_Film_section, r_Film_promise, r_Archive_lineCount, r_Archive_next, r_Archive_letters, r_Archive_filmOf, r_x_order, r_x_weights]
theorem zK100 : z_kp 1 zW100 f_x_choose := fun L S hL hc r i j k hr => z_psi_kp (KT := [(1, 2, zW1), (26, 3, zW26), (145, 1, zW145), (152, 0, zW152), (154, 3, zW154)]) (F := z_F zT100) (W := zW100) (D := zD100) (.c zF100_1 zK1 (.c zF100_26 zK26 (.c zF100_145 zK145 (.c zF100_152 zK152 (.c zF100_154 zK154 .n))))) (z_h163 rfl) (by decide +kernel) _ hc r i j k hr

-- w_choose (266)
noncomputable def zT266 : ZT := [(100, 1, [(2, (0, 0), (0, 0)), (0, (1, 0), (0, 0))], f_x_choose)]
theorem zH266 : z_ok zT266 := .c zM100 .n
theorem zF266_100 : z_F zT266 100 = f_x_choose := id rfl
def zP266_0 : List ZO := [(11, [(100, 0), (1, 0), (0, 2), (1, 0)]), (6, [(6976, 0), (0, 0), (0, 0), (0, 0), (0, 0), (2, 0)]), (0, [(0, 0)]), (0, [(0, 1)])]
def zC266 : ZC := [(0, 1, [some (2, (0, 0), (0, 0)), some (0, (1, 0), (0, 0)), some (111, (0, 0), (0, 0)), none])]
theorem zG266 : z_go zC266 (z_A zT266) [] 266 400 true 5 zP266_0 0 [some (2, (0, 0), (0, 0)), some (0, (1, 0), (0, 0)), some (111, (0, 0), (0, 0)), none] [] 1 = true := by decide +kernel
noncomputable def f_w_choose : ZFn := fun L S => match L with
  | [x1] => (e_try (f_x_choose [x1] S) (fun v1 S1 => ((0, [0]), (e_upd S1 r_out 0 0 0 v1))) [(0, 1)])
  | _ => ((0, []), S)
theorem zE266 {x1 : Int} {S : ZS} : z_ev (z_F zT266) 5 zP266_0 [x1] S = f_w_choose [x1] S := id rfl
theorem zM266 : z_met 266 1 [(2, (0, 0), (0, 0)), (0, (1, 0), (0, 0)), (111, (0, 0), (0, 0))] f_w_choose := z_met_ev zH266 (fun _ _ h => absurd h List.not_mem_nil) rfl zG266 (by decide +kernel) (fun L S hn => match L, hn with
  | [x1], _ => zE266)
def zW266 : List Nat := [r_Film_section, r_Film_promise, r_Archive_lineCount, r_Archive_next, r_Archive_letters, r_Archive_filmOf, r_x_order, r_x_weights, r_out]
theorem zK266 : z_kp 1 zW266 f_w_choose := z_kp_ev (KT := [(100, 1, zW100)]) (.c zF266_100 zK100 .n) (z_h163 rfl) (by decide +kernel) (fun L S hn => match L, hn with
  | [x1], _ => zE266)
