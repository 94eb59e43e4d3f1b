/-! What the methods do, by program (wip/s/sgen.py), 6 -/
-- x_join (120)
noncomputable def zT120 : ZT := [(31, 1, [(3, (0, 0), (0, 0)), (17, (1, 0), (0, 0))], f_Grid_stateOf), (82, 2, [(17, (1, 0), (0, 0)), (0, (2, 0), (0, 0))], f_Show_isAwaitedBy), (83, 2, [(17, (1, 0), (0, 0)), (0, (2, 0), (0, 0))], f_Show_addWaiting), (148, 1, [(2, (0, 0), (0, 0)), (0, (1, 0), (0, 0))], f_x_checkShow), (149, 1, [(2, (0, 0), (0, 0)), (0, (1, 0), (0, 0))], f_x_checkPass)]
theorem zH120 : z_ok zT120 := .c zM31 (.c zM82 (.c zM83 (.c zM148 (.c zM149 .n))))
theorem zF120_31 : z_F zT120 31 = f_Grid_stateOf := id rfl
theorem zF120_82 : z_F zT120 82 = f_Show_isAwaitedBy := id rfl
theorem zF120_83 : z_F zT120 83 = f_Show_addWaiting := id rfl
theorem zF120_148 : z_F zT120 148 = f_x_checkShow := id rfl
theorem zF120_149 : z_F zT120 149 = f_x_checkPass := id rfl
def zP120_0 : List ZO := [(7, [(149, 0), (1, 0)]), (7, [(148, 0), (2, 0)]), (7, [(31, 0), (2, 0)]), (3, [(1, 0), (1, 0), (5, 0), (0, 116)]), (1, [(3, 0)]), (5, [(965, 0), (2, 0), (0, 0), (0, 0)]), (3, [(1, 0), (1, 0), (6, 0), (0, 0)]), (1, [(3, 0)]), (7, [(82, 0), (2, 0), (1, 0)]), (3, [(0, 0), (3, 0), (7, 0), (0, 0)]), (7, [(83, 0), (2, 0), (1, 0)]), (5, [(967, 0), (2, 0), (0, 0), (0, 0)]), (0, [(9, 0)]), (1, [(3, 0)])]
def zC120 : ZC := [(0, 2, [some (2, (0, 0), (0, 0)), some (0, (1, 0), (0, 0)), some (0, (2, 0), (0, 0)), none])]
theorem zG120 : z_go zC120 (z_A zT120) [] 120 400 true 15 zP120_0 0 [some (2, (0, 0), (0, 0)), some (0, (1, 0), (0, 0)), some (0, (2, 0), (0, 0)), none] [] 2 = true := by decide +kernel
noncomputable def f_x_join : ZFn := fun L S => match L with
  | [x1, x2] => (e_bind (f_x_checkPass [x1] S) (fun v1 S1 => (e_bind (f_x_checkShow [x2] S1) (fun v2 S2 => (bif !decide ((v_Grid_stateOf x2 S2) = 116) then ((4, []), S2) else (bif !decide ((S2 r_Show_isOpened x2 0 0) = 0) then ((4, []), S2) else (e_bind (f_Show_isAwaitedBy [x2, x1] S2) (fun v3 S3 => (bif decide (v3 = 0) then (e_bind (f_Show_addWaiting [x2, x1] S3) (fun v4 S4 => ((0, [(S4 r_Show_waiting x2 0 0)]), S4))) else ((4, []), S3))))))))))
  | _ => ((0, []), S)
theorem zE120 {x1 x2 : Int} {S : ZS} : z_ev (z_F zT120) 15 zP120_0 [x1, x2] S = f_x_join [x1, x2] S := by
  simp -implicitDefEqProofs only [zP120_0, zF120_31, zF120_82, zF120_83, zF120_148, zF120_149, pF_Grid_stateOf, Nat.zero_add, Nat.reduceAdd, Nat.reduceBEq, Int.reduceToNat, z_e0, z_e1, z_e2, z_e3, z_e4, z_e5, z_e6, z_e7, z_e8, z_e11, z_e13, o_v0, o_v1, o_v2, List.cons_append, List.nil_append, List.map_cons, List.map_nil, List.drop_succ_cons, List.drop_zero, List.take_succ_cons, List.take_zero, e_c0, e_c1, e_c2, e_c3, e_c4, e_c5, e_b0, e_b1, e_b2, e_b3, e_b4, e_b5, e_b6, e_b7, e_b8, e_b9, e_b10, e_b11, e_b12, e_b13, e_b14, e_b15, e_b16, e_b17, e_n0, e_bnd, e_un]
  try rfl
theorem zM120 : z_met 120 2 [(2, (0, 0), (0, 0)), (0, (1, 0), (0, 0)), (0, (2, 0), (0, 0))] f_x_join := z_met_ev zH120 (fun _ _ h => absurd h List.not_mem_nil) rfl zG120 (by decide +kernel) (fun L S hn => match L, hn with
  | [x1, x2], _ => zE120)
def zW120 : List Nat := [r_Show_waiting, r_Show_queue]
theorem zK120 : z_kp 2 zW120 f_x_join := z_kp_ev (KT := [(31, 1, zW31), (82, 2, zW82), (83, 2, zW83), (148, 1, zW148), (149, 1, zW149)]) (.c zF120_31 zK31 (.c zF120_82 zK82 (.c zF120_83 zK83 (.c zF120_148 zK148 (.c zF120_149 zK149 .n))))) (z_h163 rfl) (by decide +kernel) (fun L S hn => match L, hn with
  | [x1, x2], _ => zE120)

-- w_join (285)
noncomputable def zT285 : ZT := [(120, 2, [(2, (0, 0), (0, 0)), (0, (1, 0), (0, 0)), (0, (2, 0), (0, 0))], f_x_join)]
theorem zH285 : z_ok zT285 := .c zM120 .n
theorem zF285_120 : z_F zT285 120 = f_x_join := id rfl
def zP285_0 : List ZO := [(11, [(120, 0), (2, 0), (0, 2), (3, 3), (1, 0), (2, 0)]), (6, [(6976, 0), (0, 0), (0, 0), (0, 0), (0, 0), (3, 0)]), (0, [(0, 0)]), (0, [(0, 1)]), (0, [(0, 2)])]
def zC285 : ZC := [(0, 2, [some (2, (0, 0), (0, 0)), some (0, (1, 0), (0, 0)), some (0, (2, 0), (0, 0)), some (111, (0, 0), (0, 0)), none])]
theorem zG285 : z_go zC285 (z_A zT285) [] 285 400 true 6 zP285_0 0 [some (2, (0, 0), (0, 0)), some (0, (1, 0), (0, 0)), some (0, (2, 0), (0, 0)), some (111, (0, 0), (0, 0)), none] [] 2 = true := by decide +kernel
noncomputable def f_w_join : ZFn := fun L S => match L with
  | [x1, x2] => (e_try (f_x_join [x1, x2] S) (fun v1 S1 => ((0, [0]), (e_upd S1 r_out 0 0 0 v1))) [(0, 1), (3, 2)])
  | _ => ((0, []), S)
theorem zE285 {x1 x2 : Int} {S : ZS} : z_ev (z_F zT285) 6 zP285_0 [x1, x2] S = f_w_join [x1, x2] S := id rfl
theorem zM285 : z_met 285 2 [(2, (0, 0), (0, 0)), (0, (1, 0), (0, 0)), (0, (2, 0), (0, 0)), (111, (0, 0), (0, 0))] f_w_join := z_met_ev zH285 (fun _ _ h => absurd h List.not_mem_nil) rfl zG285 (by decide +kernel) (fun L S hn => match L, hn with
  | [x1, x2], _ => zE285)
def zW285 : List Nat := [r_Show_waiting, r_Show_queue, r_out]
theorem zK285 : z_kp 2 zW285 f_w_join := z_kp_ev (KT := [(120, 2, zW120)]) (.c zF285_120 zK120 .n) (z_h163 rfl) (by decide +kernel) (fun L S hn => match L, hn with
  | [x1, x2], _ => zE285)

-- m_waitsFor (225)
def zT225 : ZT := []
theorem zH225 : z_ok zT225 := .n
def zP225_0 : List ZO := [(2, [(5, 0), (1, 0), (2, 0), (0, 0), (0, 0)])]
def zP225_5 : List ZO := [(5, [(5376, 0), (0, 0), (0, 0), (2, 0)]), (3, [(3, 0), (1, 0), (4, 0), (5, 0)]), (0, [(3, 0)]), (5, [(5312, 0), (2, 0), (0, 0), (4, 0)]), (3, [(1, 0), (3, 0), (6, 0), (1, 0)]), (4, [(6, 0), (3, 0), (0, 0)]), (4, [(0, 0), (4, 0), (0, 1)]), (2, [(5, 0), (1, 0), (2, 0), (7, 0), (8, 0)]), (4, [(6, 0), (3, 0), (0, 1)]), (4, [(0, 0), (4, 0), (0, 1)]), (2, [(5, 0), (1, 0), (2, 0), (7, 0), (8, 0)])]
def zD225 : ZD := [(0, 2, [some (52, (0, 0), (0, 0)), some (0, (1, 0), (0, 0)), some (0, (2, 0), (0, 0)), none, none], 2, zP225_0), (5, 4, [some (52, (0, 0), (0, 0)), some (0, (1, 0), (0, 0)), some (0, (2, 0), (0, 0)), some (0, (3, 0), (0, 0)), some (0, (4, 0), (0, 0))], 12, zP225_5)]
theorem zG225 : z_chk zT225 [] 225 zD225 = true := by decide +kernel
noncomputable def g_m_waitsFor (R : ZR) : ZR := z_psi (z_st (z_F zT225) zD225) R
noncomputable def f_m_waitsFor : ZFn := fun L S => g_m_waitsFor ((1000, L), S)
theorem zM225 : z_met 225 2 [(52, (0, 0), (0, 0)), (0, (1, 0), (0, 0)), (0, (2, 0), (0, 0))] f_m_waitsFor := z_met_psi zH225 (fun _ _ h => absurd h List.not_mem_nil) rfl zG225
theorem zE225_0 {x1 x2 : Int} {S : ZS} : z_st (z_F zT225) zD225 0 [x1, x2] S = ((1005, [x1, x2, 0, 0]), S) := (id rfl : z_st (z_F zT225) zD225 0 [x1, x2] S = z_ev (z_F zT225) 2 zP225_0 [x1, x2] S).trans (id rfl)
theorem g_m_waitsFor_0 {x1 x2 : Int} {S : ZS} : g_m_waitsFor ((1000, [x1, x2]), S) = (g_m_waitsFor ((1005, [x1, x2, 0, 0]), S)) := by
  unfold g_m_waitsFor
  refine ((z_psi_go (pc := 0)).trans (congrArg _ zE225_0)).trans ?_
  try simp only [z_psi_c, z_psi_b, z_psi_n, Nat.reduceLT, decide_true]
theorem zE225_5 {x1 x2 x3 x4 : Int} {S : ZS} : z_st (z_F zT225) zD225 5 [x1, x2, x3, x4] S = (bif decide ((S r_m_waitMany 0 0 x2) ≤ x4) then ((0, [x3]), S) else (bif !decide ((S r_m_waits_r x2 0 x4) = x1) then ((1005, [x1, x2, (e_or x3 0), (e_wr (x4 + 1))]), S) else ((1005, [x1, x2, (e_or x3 1), (e_wr (x4 + 1))]), S))) := (id rfl : z_st (z_F zT225) zD225 5 [x1, x2, x3, x4] S = z_ev (z_F zT225) 12 zP225_5 [x1, x2, x3, x4] S).trans (id rfl)
theorem g_m_waitsFor_5 {x1 x2 x3 x4 : Int} {S : ZS} : g_m_waitsFor ((1005, [x1, x2, x3, x4]), S) = (bif decide ((S r_m_waitMany 0 0 x2) ≤ x4) then ((0, [x3]), S) else (bif !decide ((S r_m_waits_r x2 0 x4) = x1) then (g_m_waitsFor ((1005, [x1, x2, (e_or x3 0), (e_wr (x4 + 1))]), S)) else (g_m_waitsFor ((1005, [x1, x2, (e_or x3 1), (e_wr (x4 + 1))]), S)))) := by
  unfold g_m_waitsFor
  refine ((z_psi_go (pc := 5)).trans (congrArg _ zE225_5)).trans ?_
  try simp only [z_psi_c, z_psi_b, z_psi_n, Nat.reduceLT, decide_true]
def zW225 : List Nat := []
theorem zK225 : z_kp 2 zW225 f_m_waitsFor := fun L S hL hc r i j k hr => z_psi_kp (KT := []) (F := z_F zT225) (W := zW225) (D := zD225) (.n) (z_h163 rfl) (by decide +kernel) _ hc r i j k hr

-- m_join (226)
noncomputable def zT226 : ZT := [(163, 2, [(52, (0, 0), (0, 0)), (0, (1, 0), (0, 0)), (0, (2, 0), (0, 0))], f_m_isThrown), (164, 3, [(0, (1, 0), (0, 0)), (0, (2, 0), (0, 0)), (0, (3, 0), (0, 0))], f_m_isIn), (204, 1, [(52, (0, 0), (0, 0)), (0, (1, 0), (0, 0))], f_m_stateOf), (212, 1, [(52, (0, 0), (0, 0)), (0, (1, 0), (0, 0))], f_m_isNoShow), (225, 2, [(52, (0, 0), (0, 0)), (0, (1, 0), (0, 0)), (0, (2, 0), (0, 0))], f_m_waitsFor)]
theorem zH226 : z_ok zT226 := .c zM163 (.c zM164 (.c zM204 (.c zM212 (.c zM225 .n))))
theorem zF226_163 : z_F zT226 163 = f_m_isThrown := id rfl
theorem zF226_164 : z_F zT226 164 = f_m_isIn := id rfl
theorem zF226_204 : z_F zT226 204 = f_m_stateOf := id rfl
theorem zF226_212 : z_F zT226 212 = f_m_isNoShow := id rfl
theorem zF226_225 : z_F zT226 225 = f_m_waitsFor := id rfl
def zP226_0 : List ZO := [(5, [(3250, 0), (0, 0), (0, 0), (0, 0)]), (4, [(1, 0), (3, 0), (0, 1)]), (7, [(164, 0), (1, 0), (0, 0), (4, 0)]), (3, [(0, 0), (2, 0), (5, 0), (0, 0)]), (13, [(163, 0), (0, 0), (0, 1), (0, 1)]), (0, [(0, 0)]), (7, [(212, 0), (2, 0)]), (3, [(0, 0), (21, 0), (6, 0), (0, 0)]), (13, [(163, 0), (0, 0), (0, 0), (0, 1)]), (7, [(204, 0), (2, 0)]), (3, [(1, 0), (2, 0), (7, 0), (0, 116)]), (13, [(163, 0), (0, 0), (0, 1), (0, 2)]), (0, [(0, 0)]), (5, [(5184, 0), (0, 0), (0, 0), (2, 0)]), (3, [(1, 0), (2, 0), (8, 0), (0, 0)]), (13, [(163, 0), (0, 0), (0, 1), (0, 2)]), (0, [(0, 0)]), (7, [(225, 0), (1, 0), (2, 0)]), (3, [(0, 0), (8, 0), (9, 0), (0, 0)]), (13, [(163, 0), (0, 0), (0, 0), (0, 2)]), (5, [(5376, 0), (0, 0), (0, 0), (2, 0)]), (6, [(5312, 0), (0, 0), (2, 0), (0, 0), (10, 0), (1, 0)]), (5, [(5376, 0), (0, 0), (0, 0), (2, 0)]), (4, [(0, 0), (11, 0), (0, 1)]), (6, [(5376, 0), (0, 0), (0, 0), (0, 0), (2, 0), (12, 0)]), (5, [(5376, 0), (0, 0), (0, 0), (2, 0)]), (0, [(13, 0)]), (13, [(163, 0), (0, 0), (0, 1), (0, 2)]), (0, [(0, 0)]), (13, [(163, 0), (0, 0), (0, 1), (0, 1)]), (0, [(0, 0)])]
def zC226 : ZC := [(0, 2, [some (52, (0, 0), (0, 0)), some (0, (1, 0), (0, 0)), some (0, (2, 0), (0, 0))])]
theorem zG226 : z_go zC226 (z_A zT226) [(163, 0)] 226 400 true 32 zP226_0 0 [some (52, (0, 0), (0, 0)), some (0, (1, 0), (0, 0)), some (0, (2, 0), (0, 0))] [] 2 = true := by decide +kernel
noncomputable def f_m_join : ZFn := fun L S => match L with
  | [x1, x2] => (bif decide ((v_m_isIn x1 0 (e_wr ((S r_m_passes 0 0 0) - 1)) S) = 0) then ((0, [0]), (e_upd S r_m_thrown 0 0 0 1)) else (bif decide ((v_m_isNoShow x2 S) = 0) then (bif !decide ((v_m_stateOf x2 (e_upd S r_m_thrown 0 0 0 0)) = 116) then ((0, [0]), (e_upd (e_upd S r_m_thrown 0 0 0 0) r_m_thrown 0 0 0 2)) else (bif !decide ((S r_m_areOpened 0 0 x2) = 0) then ((0, [0]), (e_upd (e_upd S r_m_thrown 0 0 0 0) r_m_thrown 0 0 0 2)) else (e_bind (f_m_waitsFor [x1, x2] (e_upd S r_m_thrown 0 0 0 0)) (fun v1 S1 => (bif decide (v1 = 0) then ((0, [((e_upd (e_upd (e_upd S1 r_m_thrown 0 0 0 0) r_m_waits_r x2 0 (S1 r_m_waitMany 0 0 x2) x1) r_m_waitMany 0 0 x2 (e_wr ((S1 r_m_waitMany 0 0 x2) + 1))) r_m_waitMany 0 0 x2)]), (e_upd (e_upd (e_upd S1 r_m_thrown 0 0 0 0) r_m_waits_r x2 0 (S1 r_m_waitMany 0 0 x2) x1) r_m_waitMany 0 0 x2 (e_wr ((S1 r_m_waitMany 0 0 x2) + 1)))) else ((0, [0]), (e_upd S1 r_m_thrown 0 0 0 2))))))) else ((0, [0]), (e_upd S r_m_thrown 0 0 0 1))))
  | _ => ((0, []), S)
theorem zE226 {x1 x2 : Int} {S : ZS} : z_ev (z_F zT226) 32 zP226_0 [x1, x2] S = f_m_join [x1, x2] S := by
  simp -implicitDefEqProofs only [zP226_0, zF226_163, zF226_164, zF226_204, zF226_212, zF226_225, zpI0, zpI1, zpIc, pF_m_isIn, pF_m_stateOf, pF_m_isNoShow, Nat.zero_add, Nat.reduceAdd, Nat.reduceBEq, Int.reduceToNat, z_e0, z_e1, z_e2, z_e3, z_e4, z_e5, z_e6, z_e7, z_e8, z_e11, z_e13, o_v0, o_v1, o_v2, List.cons_append, List.nil_append, List.map_cons, List.map_nil, List.drop_succ_cons, List.drop_zero, List.take_succ_cons, List.take_zero, e_c0, e_c1, e_c2, e_c3, e_c4, e_c5, e_b0, e_b1, e_b2, e_b3, e_b4, e_b5, e_b6, e_b7, e_b8, e_b9, e_b10, e_b11, e_b12, e_b13, e_b14, e_b15, e_b16, e_b17, e_n0, e_bnd, e_un]
  try rfl
theorem zM226 : z_met 226 2 [(52, (0, 0), (0, 0)), (0, (1, 0), (0, 0)), (0, (2, 0), (0, 0))] f_m_join := z_met_ev zH226 (fun _ _ h => by rw [List.mem_singleton] at h; cases h; exact fun _ _ => rfl) rfl zG226 (by decide +kernel) (fun L S hn => match L, hn with
  | [x1, x2], _ => zE226)
def zW226 : List Nat := [r_m_thrown, r_m_waits_r, r_m_waitMany]
theorem zK226 : z_kp 2 zW226 f_m_join := z_kp_ev (KT := [(163, 2, zW163), (164, 3, zW164), (204, 1, zW204), (212, 1, zW212), (225, 2, zW225)]) (.c zF226_163 zK163 (.c zF226_164 zK164 (.c zF226_204 zK204 (.c zF226_212 zK212 (.c zF226_225 zK225 .n))))) (fun _ _ => Or.inl rfl) (by decide +kernel) (fun L S hn => match L, hn with
  | [x1, x2], _ => zE226)

-- Grid_isSeatedElsewhere (47)
def zT47 : ZT := [(81, 3, [(17, (1, 0), (0, 0)), (0, (2, 0), (0, 0)), (0, (3, 0), (0, 0))], f_Show_standsIn)]
theorem zH47 : z_ok zT47 := .c zM81 .n
theorem zF47_81 : z_F zT47 81 = f_Show_standsIn := id rfl
def zP47_0 : List ZO := [(2, [(2, 0), (1, 0), (2, 0), (0, 0)])]
def zP47_2 : List ZO := [(5, [(68, 0), (0, 0), (0, 0), (0, 0)]), (3, [(3, 0), (1, 0), (3, 0), (4, 0)]), (0, [(0, 0)]), (3, [(0, 0), (2, 0), (3, 0), (2, 0)]), (4, [(0, 0), (3, 0), (0, 1)]), (2, [(2, 0), (1, 0), (2, 0), (5, 0)]), (5, [(1088, 0), (3, 0), (0, 0), (1, 0)]), (3, [(0, 0), (2, 0), (5, 0), (0, 0)]), (4, [(0, 0), (3, 0), (0, 1)]), (2, [(2, 0), (1, 0), (2, 0), (6, 0)]), (5, [(962, 0), (2, 0), (0, 0), (0, 0)]), (5, [(963, 0), (2, 0), (0, 0), (0, 0)]), (7, [(81, 0), (3, 0), (6, 0), (7, 0)]), (3, [(0, 0), (2, 0), (8, 0), (0, 0)]), (4, [(0, 0), (3, 0), (0, 1)]), (2, [(2, 0), (1, 0), (2, 0), (9, 0)]), (0, [(0, 1)])]
def zD47 : ZD := [(0, 2, [some (3, (0, 0), (0, 0)), some (0, (1, 0), (0, 0)), some (17, (2, 0), (0, 0)), none, none], 2, zP47_0), (2, 3, [some (3, (0, 0), (0, 0)), some (0, (1, 0), (0, 0)), some (17, (2, 0), (0, 0)), some (0, (3, 0), (0, 0)), none], 18, zP47_2)]
theorem zG47 : z_chk zT47 [] 47 zD47 = true := by decide +kernel
noncomputable def g_Grid_isSeatedElsewhere (R : ZR) : ZR := z_psi (z_st (z_F zT47) zD47) R
noncomputable def f_Grid_isSeatedElsewhere : ZFn := fun L S => g_Grid_isSeatedElsewhere ((1000, L), S)
theorem zM47 : z_met 47 2 [(3, (0, 0), (0, 0)), (0, (1, 0), (0, 0)), (17, (2, 0), (0, 0))] f_Grid_isSeatedElsewhere := z_met_psi zH47 (fun _ _ h => absurd h List.not_mem_nil) rfl zG47
theorem zE47_0 {x1 x2 : Int} {S : ZS} : z_st (z_F zT47) zD47 0 [x1, x2] S = ((1002, [x1, x2, 0]), S) := (id rfl : z_st (z_F zT47) zD47 0 [x1, x2] S = z_ev (z_F zT47) 2 zP47_0 [x1, x2] S).trans (id rfl)
theorem g_Grid_isSeatedElsewhere_0 {x1 x2 : Int} {S : ZS} : g_Grid_isSeatedElsewhere ((1000, [x1, x2]), S) = (g_Grid_isSeatedElsewhere ((1002, [x1, x2, 0]), S)) := by
  unfold g_Grid_isSeatedElsewhere
  refine ((z_psi_go (pc := 0)).trans (congrArg _ zE47_0)).trans ?_
  try simp only [z_psi_c, z_psi_b, z_psi_n, Nat.reduceLT, decide_true]
theorem zE47_2 {x1 x2 x3 : Int} {S : ZS} : z_st (z_F zT47) zD47 2 [x1, x2, x3] S = (bif decide ((S r_Grid_showCount 0 0 0) ≤ x3) then ((0, [0]), S) else (bif decide (x3 = x2) then ((1002, [x1, x2, (e_wr (x3 + 1))]), S) else (bif decide ((S r_Show_isSeated x3 0 x1) = 0) then ((1002, [x1, x2, (e_wr (x3 + 1))]), S) else (bif decide ((v_Show_standsIn x3 (S r_Show_first x2 0 0) (S r_Show_length x2 0 0) S) = 0) then ((1002, [x1, x2, (e_wr (x3 + 1))]), S) else ((0, [1]), S))))) := (id rfl : z_st (z_F zT47) zD47 2 [x1, x2, x3] S = z_ev (z_F zT47) 18 zP47_2 [x1, x2, x3] S).trans (by
  simp -implicitDefEqProofs only [zP47_2, zF47_81, pF_Show_standsIn, Nat.zero_add, Nat.reduceAdd, Nat.reduceBEq, Int.reduceToNat, z_e0, z_e1, z_e2, z_e3, z_e4, z_e5, z_e6, z_e7, z_e8, z_e11, z_e13, o_v0, o_v1, o_v2, List.cons_append, List.nil_append, List.map_cons, List.map_nil, List.drop_succ_cons, List.drop_zero, List.take_succ_cons, List.take_zero, e_c0, e_c1, e_c2, e_c3, e_c4, e_c5, e_b0, e_b1, e_b2, e_b3, e_b4, e_b5, e_b6, e_b7, e_b8, e_b9, e_b10, e_b11, e_b12, e_b13, e_b14, e_b15, e_b16, e_b17, e_n0, e_bnd, e_un]
  try rfl)
theorem g_Grid_isSeatedElsewhere_2 {x1 x2 x3 : Int} {S : ZS} : g_Grid_isSeatedElsewhere ((1002, [x1, x2, x3]), S) = (bif decide ((S r_Grid_showCount 0 0 0) ≤ x3) then ((0, [0]), S) else (bif decide (x3 = x2) then (g_Grid_isSeatedElsewhere ((1002, [x1, x2, (e_wr (x3 + 1))]), S)) else (bif decide ((S r_Show_isSeated x3 0 x1) = 0) then (g_Grid_isSeatedElsewhere ((1002, [x1, x2, (e_wr (x3 + 1))]), S)) else (bif decide ((v_Show_standsIn x3 (S r_Show_first x2 0 0) (S r_Show_length x2 0 0) S) = 0) then (g_Grid_isSeatedElsewhere ((1002, [x1, x2, (e_wr (x3 + 1))]), S)) else ((0, [1]), S))))) := by
  unfold g_Grid_isSeatedElsewhere
  refine ((z_psi_go (pc := 2)).trans (congrArg _ zE47_2)).trans ?_
  try simp only [z_psi_c, z_psi_b, z_psi_n, Nat.reduceLT, decide_true]
def zW47 : List Nat := []
theorem zK47 : z_kp 2 zW47 f_Grid_isSeatedElsewhere := fun L S hL hc r i j k hr => z_psi_kp (KT := [(81, 3, zW81)]) (F := z_F zT47) (W := zW47) (D := zD47) (.c zF47_81 zK81 .n) (z_h163 rfl) (by decide +kernel) _ hc r i j k hr

-- Passes_giveSeats (57)
noncomputable def zT57 : ZT := [(47, 2, [(3, (0, 0), (0, 0)), (0, (1, 0), (0, 0)), (17, (2, 0), (0, 0))], f_Grid_isSeatedElsewhere)]
theorem zH57 : z_ok zT57 := .c zM47 .n
theorem zF57_47 : z_F zT57 47 = f_Grid_isSeatedElsewhere := id rfl
def zP57_0 : List ZO := [(2, [(6, 0), (1, 0), (2, 0), (0, 0), (0, 0)])]
def zP57_6 : List ZO := [(3, [(4, 0), (1, 0), (4, 0), (0, 3)]), (0, [(3, 0)]), (2, [(15, 0), (1, 0), (2, 0), (3, 0), (4, 0), (0, 0)])]
def zP57_15 : List ZO := [(5, [(967, 0), (1, 0), (0, 0), (0, 0)]), (3, [(3, 0), (2, 0), (5, 0), (6, 0)]), (4, [(0, 0), (4, 0), (0, 1)]), (2, [(6, 0), (1, 0), (2, 0), (3, 0), (7, 0)]), (5, [(1024, 0), (1, 0), (0, 0), (5, 0)]), (3, [(3, 0), (2, 0), (3, 0), (2, 0)]), (4, [(0, 0), (5, 0), (0, 1)]), (2, [(15, 0), (1, 0), (2, 0), (3, 0), (4, 0), (8, 0)]), (5, [(2176, 0), (0, 0), (0, 0), (7, 0)]), (3, [(1, 0), (2, 0), (8, 0), (4, 0)]), (4, [(0, 0), (5, 0), (0, 1)]), (2, [(15, 0), (1, 0), (2, 0), (3, 0), (4, 0), (9, 0)]), (7, [(47, 0), (7, 0), (1, 0)]), (3, [(1, 0), (2, 0), (9, 0), (0, 0)]), (4, [(0, 0), (5, 0), (0, 1)]), (2, [(15, 0), (1, 0), (2, 0), (3, 0), (4, 0), (10, 0)]), (6, [(1088, 0), (1, 0), (1, 0), (0, 0), (7, 0), (0, 1)]), (4, [(0, 0), (3, 0), (0, 1)]), (4, [(0, 0), (5, 0), (0, 1)]), (2, [(15, 0), (1, 0), (2, 0), (10, 0), (4, 0), (11, 0)])]
def zD57 : ZD := [(0, 2, [some (35, (0, 0), (0, 0)), some (3, (0, 0), (0, 0)), some (17, (1, 0), (0, 0)), some (0, (2, 0), (0, 0)), none, none, none, none], 2, zP57_0), (6, 4, [some (35, (0, 0), (0, 0)), some (3, (0, 0), (0, 0)), some (17, (1, 0), (0, 0)), some (0, (2, 0), (0, 0)), some (0, (3, 0), (0, 0)), some (0, (4, 0), (0, 0)), none, none], 4, zP57_6), (15, 5, [some (35, (0, 0), (0, 0)), some (3, (0, 0), (0, 0)), some (17, (1, 0), (0, 0)), some (0, (2, 0), (0, 0)), some (0, (3, 0), (0, 0)), some (0, (4, 0), (0, 0)), some (0, (5, 0), (0, 0)), none], 21, zP57_15)]
theorem zG57 : z_chk zT57 [] 57 zD57 = true := by decide +kernel
noncomputable def g_Passes_giveSeats (R : ZR) : ZR := z_psi (z_st (z_F zT57) zD57) R
noncomputable def f_Passes_giveSeats : ZFn := fun L S => g_Passes_giveSeats ((1000, L), S)
theorem zM57 : z_met 57 2 [(35, (0, 0), (0, 0)), (3, (0, 0), (0, 0)), (17, (1, 0), (0, 0)), (0, (2, 0), (0, 0))] f_Passes_giveSeats := z_met_psi zH57 (fun _ _ h => absurd h List.not_mem_nil) rfl zG57
theorem zE57_0 {x1 x2 : Int} {S : ZS} : z_st (z_F zT57) zD57 0 [x1, x2] S = ((1006, [x1, x2, 0, 0]), S) := (id rfl : z_st (z_F zT57) zD57 0 [x1, x2] S = z_ev (z_F zT57) 2 zP57_0 [x1, x2] S).trans (id rfl)
theorem g_Passes_giveSeats_0 {x1 x2 : Int} {S : ZS} : g_Passes_giveSeats ((1000, [x1, x2]), S) = (g_Passes_giveSeats ((1006, [x1, x2, 0, 0]), S)) := by
  unfold g_Passes_giveSeats
  refine ((z_psi_go (pc := 0)).trans (congrArg _ zE57_0)).trans ?_
  try simp only [z_psi_c, z_psi_b, z_psi_n, Nat.reduceLT, decide_true]
theorem zE57_6 {x1 x2 x3 x4 : Int} {S : ZS} : z_st (z_F zT57) zD57 6 [x1, x2, x3, x4] S = (bif decide (3 < x4) then ((0, [x3]), S) else ((1015, [x1, x2, x3, x4, 0]), S)) := (id rfl : z_st (z_F zT57) zD57 6 [x1, x2, x3, x4] S = z_ev (z_F zT57) 4 zP57_6 [x1, x2, x3, x4] S).trans (id rfl)
theorem g_Passes_giveSeats_6 {x1 x2 x3 x4 : Int} {S : ZS} : g_Passes_giveSeats ((1006, [x1, x2, x3, x4]), S) = (bif decide (3 < x4) then ((0, [x3]), S) else (g_Passes_giveSeats ((1015, [x1, x2, x3, x4, 0]), S))) := by
  unfold g_Passes_giveSeats
  refine ((z_psi_go (pc := 6)).trans (congrArg _ zE57_6)).trans ?_
  try simp only [z_psi_c, z_psi_b, z_psi_n, Nat.reduceLT, decide_true]
theorem zE57_15 {x1 x2 x3 x4 x5 : Int} {S : ZS} : z_st (z_F zT57) zD57 15 [x1, x2, x3, x4, x5] S = (bif decide ((S r_Show_waiting x1 0 0) ≤ x5) then ((1006, [x1, x2, x3, (e_wr (x4 + 1))]), S) else (bif decide (x2 ≤ x3) then ((1015, [x1, x2, x3, x4, (e_wr (x5 + 1))]), S) else (bif !decide ((S r_Passes_ranks 0 0 (S r_Show_queue x1 0 x5)) = x4) then ((1015, [x1, x2, x3, x4, (e_wr (x5 + 1))]), S) else (e_bind (f_Grid_isSeatedElsewhere [(S r_Show_queue x1 0 x5), x1] S) (fun v1 S1 => (bif !decide (v1 = 0) then ((1015, [x1, x2, x3, x4, (e_wr (x5 + 1))]), S1) else ((1015, [x1, x2, (e_wr (x3 + 1)), x4, (e_wr (x5 + 1))]), (e_upd S1 r_Show_isSeated x1 0 (S r_Show_queue x1 0 x5) (e_nar 1 1))))))))) := (id rfl : z_st (z_F zT57) zD57 15 [x1, x2, x3, x4, x5] S = z_ev (z_F zT57) 21 zP57_15 [x1, x2, x3, x4, x5] S).trans (by
  simp -implicitDefEqProofs only [zP57_15, zF57_47, Nat.zero_add, Nat.reduceAdd, Nat.reduceBEq, Int.reduceToNat, z_e0, z_e1, z_e2, z_e3, z_e4, z_e5, z_e6, z_e7, z_e8, z_e11, z_e13, o_v0, o_v1, o_v2, List.cons_append, List.nil_append, List.map_cons, List.map_nil, List.drop_succ_cons, List.drop_zero, List.take_succ_cons, List.take_zero, e_c0, e_c1, e_c2, e_c3, e_c4, e_c5, e_b0, e_b1, e_b2, e_b3, e_b4, e_b5, e_b6, e_b7, e_b8, e_b9, e_b10, e_b11, e_b12, e_b13, e_b14, e_b15, e_b16, e_b17, e_n0, e_bnd, e_un]
  try rfl)
theorem g_Passes_giveSeats_15 {x1 x2 x3 x4 x5 : Int} {S : ZS} : g_Passes_giveSeats ((1015, [x1, x2, x3, x4, x5]), S) = (bif decide ((S r_Show_waiting x1 0 0) ≤ x5) then (g_Passes_giveSeats ((1006, [x1, x2, x3, (e_wr (x4 + 1))]), S)) else (bif decide (x2 ≤ x3) then (g_Passes_giveSeats ((1015, [x1, x2, x3, x4, (e_wr (x5 + 1))]), S)) else (bif !decide ((S r_Passes_ranks 0 0 (S r_Show_queue x1 0 x5)) = x4) then (g_Passes_giveSeats ((1015, [x1, x2, x3, x4, (e_wr (x5 + 1))]), S)) else (e_bind (f_Grid_isSeatedElsewhere [(S r_Show_queue x1 0 x5), x1] S) (fun v1 S1 => (bif !decide (v1 = 0) then (g_Passes_giveSeats ((1015, [x1, x2, x3, x4, (e_wr (x5 + 1))]), S1)) else (g_Passes_giveSeats ((1015, [x1, x2, (e_wr (x3 + 1)), x4, (e_wr (x5 + 1))]), (e_upd S1 r_Show_isSeated x1 0 (S r_Show_queue x1 0 x5) (e_nar 1 1)))))))))) := by
  unfold g_Passes_giveSeats
  refine ((z_psi_go (pc := 15)).trans (congrArg _ zE57_15)).trans ?_
  try simp only [z_psi_c, z_psi_b, z_psi_n, Nat.reduceLT, decide_true]
def zW57 : List Nat := [r_Show_isSeated]
theorem zK57 : z_kp 2 zW57 f_Passes_giveSeats := fun L S hL hc r i j k hr => z_psi_kp (KT := [(47, 2, zW47)]) (F := z_F zT57) (W := zW57) (D := zD57) (.c zF57_47 zK47 .n) (z_h163 rfl) (by decide +kernel) _ hc r i j k hr

-- x_open (121)
noncomputable def zT121 : ZT := [(1, 2, [(13, (0, 0), (0, 0)), (0, (1, 0), (0, 0)), (0, (2, 0), (0, 0))], f_Archive_add), (31, 1, [(3, (0, 0), (0, 0)), (17, (1, 0), (0, 0))], f_Grid_stateOf), (57, 2, [(35, (0, 0), (0, 0)), (3, (0, 0), (0, 0)), (17, (1, 0), (0, 0)), (0, (2, 0), (0, 0))], f_Passes_giveSeats), (148, 1, [(2, (0, 0), (0, 0)), (0, (1, 0), (0, 0))], f_x_checkShow)]
theorem zH121 : z_ok zT121 := .c zM1 (.c zM31 (.c zM57 (.c zM148 .n)))
theorem zF121_1 : z_F zT121 1 = f_Archive_add := id rfl
theorem zF121_31 : z_F zT121 31 = f_Grid_stateOf := id rfl
theorem zF121_57 : z_F zT121 57 = f_Passes_giveSeats := id rfl
theorem zF121_148 : z_F zT121 148 = f_x_checkShow := id rfl
def zP121_0 : List ZO := [(7, [(148, 0), (1, 0)]), (7, [(31, 0), (1, 0)]), (3, [(0, 0), (14, 0), (3, 0), (0, 116)]), (5, [(965, 0), (1, 0), (0, 0), (0, 0)]), (3, [(1, 0), (1, 0), (4, 0), (0, 0)]), (1, [(3, 0)]), (5, [(962, 0), (1, 0), (0, 0), (0, 0)]), (5, [(69, 0), (0, 0), (0, 0), (0, 0)]), (3, [(3, 0), (7, 0), (5, 0), (6, 0)]), (6, [(965, 0), (0, 0), (1, 0), (0, 0), (0, 0), (0, 1)]), (5, [(960, 0), (1, 0), (0, 0), (0, 0)]), (7, [(1, 0), (0, 111), (7, 0)]), (5, [(961, 0), (1, 0), (0, 0), (0, 0)]), (5, [(320, 0), (0, 0), (0, 0), (9, 0)]), (7, [(57, 0), (1, 0), (10, 0)]), (0, [(11, 0)]), (1, [(3, 0)]), (3, [(1, 0), (1, 0), (3, 0), (0, 110)]), (1, [(3, 0)]), (5, [(965, 0), (1, 0), (0, 0), (0, 0)]), (3, [(1, 0), (1, 0), (4, 0), (0, 0)]), (1, [(3, 0)]), (5, [(962, 0), (1, 0), (0, 0), (0, 0)]), (5, [(69, 0), (0, 0), (0, 0), (0, 0)]), (3, [(3, 0), (7, 0), (5, 0), (6, 0)]), (6, [(965, 0), (0, 0), (1, 0), (0, 0), (0, 0), (0, 1)]), (5, [(960, 0), (1, 0), (0, 0), (0, 0)]), (7, [(1, 0), (0, 111), (7, 0)]), (5, [(961, 0), (1, 0), (0, 0), (0, 0)]), (5, [(320, 0), (0, 0), (0, 0), (9, 0)]), (7, [(57, 0), (1, 0), (10, 0)]), (0, [(11, 0)]), (1, [(3, 0)])]
def zC121 : ZC := [(0, 1, [some (2, (0, 0), (0, 0)), some (0, (1, 0), (0, 0)), none, none])]
theorem zG121 : z_go zC121 (z_A zT121) [] 121 400 true 34 zP121_0 0 [some (2, (0, 0), (0, 0)), some (0, (1, 0), (0, 0)), none, none] [] 1 = true := by decide +kernel
noncomputable def f_x_open : ZFn := fun L S => match L with
  | [x1] => (e_bind (f_x_checkShow [x1] S) (fun v1 S1 => (bif decide ((v_Grid_stateOf x1 S1) = 116) then (bif !decide ((S1 r_Show_isOpened x1 0 0) = 0) then ((4, []), S1) else (bif decide ((S1 r_Grid_hour 0 0 0) ≤ (S1 r_Show_first x1 0 0)) then (e_bind (f_Archive_add [111, (S1 r_Show_film x1 0 0)] (e_upd S1 r_Show_isOpened x1 0 0 1)) (fun v2 S2 => (e_bind (f_Passes_giveSeats [x1, (S2 r_Venue_seats 0 0 (S2 r_Show_screen x1 0 0))] S2) (fun v3 S3 => ((0, [v3]), S3))))) else ((4, []), S1))) else (bif !decide ((v_Grid_stateOf x1 S1) = 110) then ((4, []), S1) else (bif !decide ((S1 r_Show_isOpened x1 0 0) = 0) then ((4, []), S1) else (bif decide ((S1 r_Grid_hour 0 0 0) ≤ (S1 r_Show_first x1 0 0)) then (e_bind (f_Archive_add [111, (S1 r_Show_film x1 0 0)] (e_upd S1 r_Show_isOpened x1 0 0 1)) (fun v4 S4 => (e_bind (f_Passes_giveSeats [x1, (S4 r_Venue_seats 0 0 (S4 r_Show_screen x1 0 0))] S4) (fun v5 S5 => ((0, [v5]), S5))))) else ((4, []), S1)))))))
  | _ => ((0, []), S)
theorem zE121 {x1 : Int} {S : ZS} : z_ev (z_F zT121) 34 zP121_0 [x1] S = f_x_open [x1] S := by
  simp -implicitDefEqProofs only [zP121_0, zF121_1, zF121_31, zF121_57, zF121_148, pF_Grid_stateOf, Nat.zero_add, Nat.reduceAdd, Nat.reduceBEq, Int.reduceToNat, z_e0, z_e1, z_e2, z_e3, z_e4, z_e5, z_e6, z_e7, z_e8, z_e11, z_e13, o_v0, o_v1, o_v2, List.cons_append, List.nil_append, List.map_cons, List.map_nil, List.drop_succ_cons, List.drop_zero, List.take_succ_cons, List.take_zero, e_c0, e_c1, e_c2, e_c3, e_c4, e_c5, e_b0, e_b1, e_b2, e_b3, e_b4, e_b5, e_b6, e_b7, e_b8, e_b9, e_b10, e_b11, e_b12, e_b13, e_b14, e_b15, e_b16, e_b17, e_n0, e_bnd, e_un]
  try rfl
theorem zM121 : z_met 121 1 [(2, (0, 0), (0, 0)), (0, (1, 0), (0, 0))] f_x_open := z_met_ev zH121 (fun _ _ h => absurd h List.not_mem_nil) rfl zG121 (by decide +kernel) (fun L S hn => match L, hn with
  | [x1], _ => zE121)
def zW121 : List Nat := [r_Archive_lineCount, r_Archive_next, r_Archive_letters, r_Archive_filmOf, r_Show_isOpened, r_Show_isSeated]
theorem zK121 : z_kp 1 zW121 f_x_open := z_kp_ev (KT := [(1, 2, zW1), (31, 1, zW31), (57, 2, zW57), (148, 1, zW148)]) (.c zF121_1 zK1 (.c zF121_31 zK31 (.c zF121_57 zK57 (.c zF121_148 zK148 .n)))) (z_h163 rfl) (by decide +kernel) (fun L S hn => match L, hn with
  | [x1], _ => zE121)

-- w_open (286)
noncomputable def zT286 : ZT := [(121, 1, [(2, (0, 0), (0, 0)), (0, (1, 0), (0, 0))], f_x_open)]
theorem zH286 : z_ok zT286 := .c zM121 .n
theorem zF286_121 : z_F zT286 121 = f_x_open := id rfl
def zP286_0 : List ZO := [(11, [(121, 0), (2, 0), (0, 2), (3, 3), (1, 0)]), (6, [(6976, 0), (0, 0), (0, 0), (0, 0), (0, 0), (2, 0)]), (0, [(0, 0)]), (0, [(0, 1)]), (0, [(0, 2)])]
def zC286 : ZC := [(0, 1, [some (2, (0, 0), (0, 0)), some (0, (1, 0), (0, 0)), some (111, (0, 0), (0, 0)), none])]
theorem zG286 : z_go zC286 (z_A zT286) [] 286 400 true 6 zP286_0 0 [some (2, (0, 0), (0, 0)), some (0, (1, 0), (0, 0)), some (111, (0, 0), (0, 0)), none] [] 1 = true := by decide +kernel
noncomputable def f_w_open : ZFn := fun L S => match L with
  | [x1] => (e_try (f_x_open [x1] S) (fun v1 S1 => ((0, [0]), (e_upd S1 r_out 0 0 0 v1))) [(0, 1), (3, 2)])
  | _ => ((0, []), S)
theorem zE286 {x1 : Int} {S : ZS} : z_ev (z_F zT286) 6 zP286_0 [x1] S = f_w_open [x1] S := id rfl
theorem zM286 : z_met 286 1 [(2, (0, 0), (0, 0)), (0, (1, 0), (0, 0)), (111, (0, 0), (0, 0))] f_w_open := z_met_ev zH286 (fun _ _ h => absurd h List.not_mem_nil) rfl zG286 (by decide +kernel) (fun L S hn => match L, hn with
  | [x1], _ => zE286)
def zW286 : List Nat := [r_Archive_lineCount, r_Archive_next, r_Archive_letters, r_Archive_filmOf, r_Show_isOpened, r_Show_isSeated, r_out]
theorem zK286 : z_kp 1 zW286 f_w_open := z_kp_ev (KT := [(121, 1, zW121)]) (.c zF286_121 zK121 .n) (z_h163 rfl) (by decide +kernel) (fun L S hn => match L, hn with
  | [x1], _ => zE286)

-- m_isElsewhere (227)
def zT227 : ZT := [(203, 1, [(52, (0, 0), (0, 0)), (0, (1, 0), (0, 0))], f_m_lastOf), (205, 2, [(52, (0, 0), (0, 0)), (0, (1, 0), (0, 0)), (0, (2, 0), (0, 0))], f_m_hasHour)]
theorem zH227 : z_ok zT227 := .c zM203 (.c zM205 .n)
theorem zF227_203 : z_F zT227 203 = f_m_lastOf := id rfl
theorem zF227_205 : z_F zT227 205 = f_m_hasHour := id rfl
def zP227_0 : List ZO := [(2, [(5, 0), (1, 0), (2, 0), (0, 0), (0, 0)])]
def zP227_5 : List ZO := [(5, [(3249, 0), (0, 0), (0, 0), (0, 0)]), (3, [(3, 0), (1, 0), (4, 0), (5, 0)]), (0, [(3, 0)]), (5, [(5056, 0), (0, 0), (0, 0), (2, 0)]), (2, [(22, 0), (1, 0), (2, 0), (3, 0), (4, 0), (6, 0)])]
def zP227_22 : List ZO := [(7, [(203, 0), (2, 0)]), (3, [(4, 0), (2, 0), (5, 0), (6, 0)]), (4, [(0, 0), (4, 0), (0, 1)]), (2, [(5, 0), (1, 0), (2, 0), (3, 0), (7, 0)]), (3, [(0, 0), (3, 0), (4, 0), (2, 0)]), (4, [(6, 0), (3, 0), (0, 0)]), (4, [(0, 0), (5, 0), (0, 1)]), (2, [(22, 0), (1, 0), (2, 0), (7, 0), (4, 0), (8, 0)]), (5, [(5504, 0), (4, 0), (0, 0), (1, 0)]), (3, [(0, 0), (3, 0), (7, 0), (0, 0)]), (4, [(6, 0), (3, 0), (0, 0)]), (4, [(0, 0), (5, 0), (0, 1)]), (2, [(22, 0), (1, 0), (2, 0), (8, 0), (4, 0), (9, 0)]), (7, [(205, 0), (4, 0), (5, 0)]), (3, [(0, 0), (3, 0), (8, 0), (0, 0)]), (4, [(6, 0), (3, 0), (0, 0)]), (4, [(0, 0), (5, 0), (0, 1)]), (2, [(22, 0), (1, 0), (2, 0), (9, 0), (4, 0), (10, 0)]), (4, [(6, 0), (3, 0), (0, 1)]), (4, [(0, 0), (5, 0), (0, 1)]), (2, [(22, 0), (1, 0), (2, 0), (9, 0), (4, 0), (10, 0)])]
def zD227 : ZD := [(0, 2, [some (52, (0, 0), (0, 0)), some (0, (1, 0), (0, 0)), some (0, (2, 0), (0, 0)), none, none, none], 2, zP227_0), (5, 4, [some (52, (0, 0), (0, 0)), some (0, (1, 0), (0, 0)), some (0, (2, 0), (0, 0)), some (0, (3, 0), (0, 0)), some (0, (4, 0), (0, 0)), none], 6, zP227_5), (22, 5, [some (52, (0, 0), (0, 0)), some (0, (1, 0), (0, 0)), some (0, (2, 0), (0, 0)), some (0, (3, 0), (0, 0)), some (0, (4, 0), (0, 0)), some (0, (5, 0), (0, 0))], 22, zP227_22)]
theorem zG227 : z_chk zT227 [] 227 zD227 = true := by decide +kernel
noncomputable def g_m_isElsewhere (R : ZR) : ZR := z_psi (z_st (z_F zT227) zD227) R
noncomputable def f_m_isElsewhere : ZFn := fun L S => g_m_isElsewhere ((1000, L), S)
theorem zM227 : z_met 227 2 [(52, (0, 0), (0, 0)), (0, (1, 0), (0, 0)), (0, (2, 0), (0, 0))] f_m_isElsewhere := z_met_psi zH227 (fun _ _ h => absurd h List.not_mem_nil) rfl zG227
theorem zE227_0 {x1 x2 : Int} {S : ZS} : z_st (z_F zT227) zD227 0 [x1, x2] S = ((1005, [x1, x2, 0, 0]), S) := (id rfl : z_st (z_F zT227) zD227 0 [x1, x2] S = z_ev (z_F zT227) 2 zP227_0 [x1, x2] S).trans (id rfl)
theorem g_m_isElsewhere_0 {x1 x2 : Int} {S : ZS} : g_m_isElsewhere ((1000, [x1, x2]), S) = (g_m_isElsewhere ((1005, [x1, x2, 0, 0]), S)) := by
  unfold g_m_isElsewhere
  refine ((z_psi_go (pc := 0)).trans (congrArg _ zE227_0)).trans ?_
  try simp only [z_psi_c, z_psi_b, z_psi_n, Nat.reduceLT, decide_true]
theorem zE227_5 {x1 x2 x3 x4 : Int} {S : ZS} : z_st (z_F zT227) zD227 5 [x1, x2, x3, x4] S = (bif decide ((S r_m_shows 0 0 0) ≤ x4) then ((0, [x3]), S) else ((1022, [x1, x2, x3, x4, (S r_m_showHours 0 0 x2)]), S)) := (id rfl : z_st (z_F zT227) zD227 5 [x1, x2, x3, x4] S = z_ev (z_F zT227) 6 zP227_5 [x1, x2, x3, x4] S).trans (id rfl)
theorem g_m_isElsewhere_5 {x1 x2 x3 x4 : Int} {S : ZS} : g_m_isElsewhere ((1005, [x1, x2, x3, x4]), S) = (bif decide ((S r_m_shows 0 0 0) ≤ x4) then ((0, [x3]), S) else (g_m_isElsewhere ((1022, [x1, x2, x3, x4, (S r_m_showHours 0 0 x2)]), S))) := by
  unfold g_m_isElsewhere
  refine ((z_psi_go (pc := 5)).trans (congrArg _ zE227_5)).trans ?_
  try simp only [z_psi_c, z_psi_b, z_psi_n, Nat.reduceLT, decide_true]
theorem zE227_22 {x1 x2 x3 x4 x5 : Int} {S : ZS} : z_st (z_F zT227) zD227 22 [x1, x2, x3, x4, x5] S = (bif decide ((v_m_lastOf x2 S) < x5) then ((1005, [x1, x2, x3, (e_wr (x4 + 1))]), S) else (bif decide (x4 = x2) then ((1022, [x1, x2, (e_or x3 0), x4, (e_wr (x5 + 1))]), S) else (bif decide ((S r_m_haveSeats_r x4 0 x1) = 0) then ((1022, [x1, x2, (e_or x3 0), x4, (e_wr (x5 + 1))]), S) else (bif decide ((v_m_hasHour x4 x5 S) = 0) then ((1022, [x1, x2, (e_or x3 0), x4, (e_wr (x5 + 1))]), S) else ((1022, [x1, x2, (e_or x3 1), x4, (e_wr (x5 + 1))]), S))))) := (id rfl : z_st (z_F zT227) zD227 22 [x1, x2, x3, x4, x5] S = z_ev (z_F zT227) 22 zP227_22 [x1, x2, x3, x4, x5] S).trans (by
  simp -implicitDefEqProofs only [zP227_22, zF227_203, zF227_205, pF_m_lastOf, pF_m_hasHour, Nat.zero_add, Nat.reduceAdd, Nat.reduceBEq, Int.reduceToNat, z_e0, z_e1, z_e2, z_e3, z_e4, z_e5, z_e6, z_e7, z_e8, z_e11, z_e13, o_v0, o_v1, o_v2, List.cons_append, List.nil_append, List.map_cons, List.map_nil, List.drop_succ_cons, List.drop_zero, List.take_succ_cons, List.take_zero, e_c0, e_c1, e_c2, e_c3, e_c4, e_c5, e_b0, e_b1, e_b2, e_b3, e_b4, e_b5, e_b6, e_b7, e_b8, e_b9, e_b10, e_b11, e_b12, e_b13, e_b14, e_b15, e_b16, e_b17, e_n0, e_bnd, e_un]
  try rfl)
theorem g_m_isElsewhere_22 {x1 x2 x3 x4 x5 : Int} {S : ZS} : g_m_isElsewhere ((1022, [x1, x2, x3, x4, x5]), S) = (bif decide ((v_m_lastOf x2 S) < x5) then (g_m_isElsewhere ((1005, [x1, x2, x3, (e_wr (x4 + 1))]), S)) else (bif decide (x4 = x2) then (g_m_isElsewhere ((1022, [x1, x2, (e_or x3 0), x4, (e_wr (x5 + 1))]), S)) else (bif decide ((S r_m_haveSeats_r x4 0 x1) = 0) then (g_m_isElsewhere ((1022, [x1, x2, (e_or x3 0), x4, (e_wr (x5 + 1))]), S)) else (bif decide ((v_m_hasHour x4 x5 S) = 0) then (g_m_isElsewhere ((1022, [x1, x2, (e_or x3 0), x4, (e_wr (x5 + 1))]), S)) else (g_m_isElsewhere ((1022, [x1, x2, (e_or x3 1), x4, (e_wr (x5 + 1))]), S)))))) := by
  unfold g_m_isElsewhere
  refine ((z_psi_go (pc := 22)).trans (congrArg _ zE227_22)).trans ?_
  try simp only [z_psi_c, z_psi_b, z_psi_n, Nat.reduceLT, decide_true]
def zW227 : List Nat := []
theorem zK227 : z_kp 2 zW227 f_m_isElsewhere := fun L S hL hc r i j k hr => z_psi_kp (KT := [(203, 1, zW203), (205, 2, zW205)]) (F := z_F zT227) (W := zW227) (D := zD227) (.c zF227_203 zK203 (.c zF227_205 zK205 .n)) (z_h163 rfl) (by decide +kernel) _ hc r i j k hr

-- m_open (228)
noncomputable def zT228 : ZT := [(163, 2, [(52, (0, 0), (0, 0)), (0, (1, 0), (0, 0)), (0, (2, 0), (0, 0))], f_m_isThrown), (167, 2, [(52, (0, 0), (0, 0)), (0, (1, 0), (0, 0)), (0, (2, 0), (0, 0))], f_m_writes), (212, 1, [(52, (0, 0), (0, 0)), (0, (1, 0), (0, 0))], f_m_isNoShow), (227, 2, [(52, (0, 0), (0, 0)), (0, (1, 0), (0, 0)), (0, (2, 0), (0, 0))], f_m_isElsewhere)]
theorem zH228 : z_ok zT228 := .c zM163 (.c zM167 (.c zM212 (.c zM227 .n)))
theorem zF228_163 : z_F zT228 163 = f_m_isThrown := id rfl
theorem zF228_167 : z_F zT228 167 = f_m_writes := id rfl
theorem zF228_212 : z_F zT228 212 = f_m_isNoShow := id rfl
theorem zF228_227 : z_F zT228 227 = f_m_isElsewhere := id rfl
def zP228_0 : List ZO := [(7, [(212, 0), (1, 0)]), (13, [(163, 0), (0, 0), (2, 0), (0, 1)]), (3, [(1, 0), (1, 0), (2, 0), (0, 0)]), (0, [(0, 0)]), (5, [(5120, 0), (0, 0), (0, 0), (1, 0)]), (3, [(1, 0), (2, 0), (3, 0), (0, 0)]), (13, [(163, 0), (0, 0), (0, 1), (0, 2)]), (0, [(0, 0)]), (5, [(5184, 0), (0, 0), (0, 0), (1, 0)]), (3, [(1, 0), (2, 0), (4, 0), (0, 0)]), (13, [(163, 0), (0, 0), (0, 1), (0, 2)]), (0, [(0, 0)]), (5, [(5056, 0), (0, 0), (0, 0), (1, 0)]), (5, [(3254, 0), (0, 0), (0, 0), (0, 0)]), (3, [(3, 0), (2, 0), (5, 0), (6, 0)]), (13, [(163, 0), (0, 0), (0, 0), (0, 2)]), (2, [(63, 0), (1, 0), (0, 0), (0, 0)]), (13, [(163, 0), (0, 0), (0, 1), (0, 2)]), (0, [(0, 0)])]
def zP228_63 : List ZO := [(3, [(3, 0), (4, 0), (3, 0), (0, 4)]), (6, [(5184, 0), (1, 0), (0, 0), (0, 0), (1, 0), (0, 1)]), (5, [(4928, 0), (0, 0), (0, 0), (1, 0)]), (7, [(167, 0), (0, 111), (4, 0)]), (0, [(2, 0)]), (2, [(71, 0), (1, 0), (2, 0), (3, 0), (0, 0)])]
def zP228_71 : List ZO := [(5, [(5376, 0), (0, 0), (0, 0), (1, 0)]), (3, [(3, 0), (2, 0), (4, 0), (5, 0)]), (4, [(0, 0), (3, 0), (0, 1)]), (2, [(63, 0), (1, 0), (2, 0), (6, 0)]), (5, [(5312, 0), (1, 0), (0, 0), (4, 0)]), (5, [(5632, 0), (0, 0), (0, 0), (6, 0)]), (3, [(1, 0), (2, 0), (7, 0), (3, 0)]), (4, [(0, 0), (4, 0), (0, 1)]), (2, [(71, 0), (1, 0), (2, 0), (3, 0), (8, 0)]), (5, [(4992, 0), (0, 0), (0, 0), (1, 0)]), (5, [(4672, 0), (0, 0), (0, 0), (8, 0)]), (3, [(3, 0), (2, 0), (2, 0), (9, 0)]), (4, [(0, 0), (4, 0), (0, 1)]), (2, [(71, 0), (1, 0), (2, 0), (3, 0), (10, 0)]), (7, [(227, 0), (6, 0), (1, 0)]), (3, [(1, 0), (2, 0), (10, 0), (0, 0)]), (4, [(0, 0), (4, 0), (0, 1)]), (2, [(71, 0), (1, 0), (2, 0), (3, 0), (11, 0)]), (6, [(5504, 0), (1, 0), (1, 0), (0, 0), (6, 0), (0, 1)]), (4, [(0, 0), (2, 0), (0, 1)]), (4, [(0, 0), (4, 0), (0, 1)]), (2, [(71, 0), (1, 0), (11, 0), (3, 0), (12, 0)])]
def zD228 : ZD := [(0, 1, [some (52, (0, 0), (0, 0)), some (0, (1, 0), (0, 0)), none, none, none, none], 20, zP228_0), (63, 3, [some (52, (0, 0), (0, 0)), some (0, (1, 0), (0, 0)), some (0, (2, 0), (0, 0)), some (0, (3, 0), (0, 0)), none, none], 7, zP228_63), (71, 4, [some (52, (0, 0), (0, 0)), some (0, (1, 0), (0, 0)), some (0, (2, 0), (0, 0)), some (0, (3, 0), (0, 0)), some (0, (4, 0), (0, 0)), none], 23, zP228_71)]
theorem zG228 : z_chk zT228 [(163, 0)] 228 zD228 = true := by decide +kernel
noncomputable def g_m_open (R : ZR) : ZR := z_psi (z_st (z_F zT228) zD228) R
noncomputable def f_m_open : ZFn := fun L S => g_m_open ((1000, L), S)
theorem zM228 : z_met 228 1 [(52, (0, 0), (0, 0)), (0, (1, 0), (0, 0))] f_m_open := z_met_psi zH228 (fun _ _ h => by rw [List.mem_singleton] at h; cases h; exact fun _ _ => rfl) rfl zG228
theorem zE228_0 {x1 : Int} {S : ZS} : z_st (z_F zT228) zD228 0 [x1] S = (bif !decide ((v_m_isNoShow x1 S) = 0) then ((0, [0]), (e_upd S r_m_thrown 0 0 0 (bif !decide ((v_m_isNoShow x1 S) = 0) then 1 else 0))) else (bif !decide ((S r_m_gone 0 0 x1) = 0) then ((0, [0]), (e_upd (e_upd S r_m_thrown 0 0 0 (bif !decide ((v_m_isNoShow x1 S) = 0) then 1 else 0)) r_m_thrown 0 0 0 2)) else (bif !decide ((S r_m_areOpened 0 0 x1) = 0) then ((0, [0]), (e_upd (e_upd S r_m_thrown 0 0 0 (bif !decide ((v_m_isNoShow x1 S) = 0) then 1 else 0)) r_m_thrown 0 0 0 2)) else (bif decide ((S r_m_hour 0 0 0) ≤ (S r_m_showHours 0 0 x1)) then ((1063, [x1, 0, 0]), (e_upd (e_upd S r_m_thrown 0 0 0 (bif !decide ((v_m_isNoShow x1 S) = 0) then 1 else 0)) r_m_thrown 0 0 0 0)) else ((0, [0]), (e_upd (e_upd S r_m_thrown 0 0 0 (bif !decide ((v_m_isNoShow x1 S) = 0) then 1 else 0)) r_m_thrown 0 0 0 2)))))) := (id rfl : z_st (z_F zT228) zD228 0 [x1] S = z_ev (z_F zT228) 20 zP228_0 [x1] S).trans (by
  simp -implicitDefEqProofs only [zP228_0, zF228_163, zF228_167, zF228_212, zF228_227, zpI0, zpI1, zpIc, pF_m_isNoShow, Nat.zero_add, Nat.reduceAdd, Nat.reduceBEq, Int.reduceToNat, z_e0, z_e1, z_e2, z_e3, z_e4, z_e5, z_e6, z_e7, z_e8, z_e11, z_e13, o_v0, o_v1, o_v2, List.cons_append, List.nil_append, List.map_cons, List.map_nil, List.drop_succ_cons, List.drop_zero, List.take_succ_cons, List.take_zero, e_c0, e_c1, e_c2, e_c3, e_c4, e_c5, e_b0, e_b1, e_b2, e_b3, e_b4, e_b5, e_b6, e_b7, e_b8, e_b9, e_b10, e_b11, e_b12, e_b13, e_b14, e_b15, e_b16, e_b17, e_n0, e_bnd, e_un]
  try rfl)
theorem g_m_open_0 {x1 : Int} {S : ZS} : g_m_open ((1000, [x1]), S) = (bif !decide ((v_m_isNoShow x1 S) = 0) then ((0, [0]), (e_upd S r_m_thrown 0 0 0 (bif !decide ((v_m_isNoShow x1 S) = 0) then 1 else 0))) else (bif !decide ((S r_m_gone 0 0 x1) = 0) then ((0, [0]), (e_upd (e_upd S r_m_thrown 0 0 0 (bif !decide ((v_m_isNoShow x1 S) = 0) then 1 else 0)) r_m_thrown 0 0 0 2)) else (bif !decide ((S r_m_areOpened 0 0 x1) = 0) then ((0, [0]), (e_upd (e_upd S r_m_thrown 0 0 0 (bif !decide ((v_m_isNoShow x1 S) = 0) then 1 else 0)) r_m_thrown 0 0 0 2)) else (bif decide ((S r_m_hour 0 0 0) ≤ (S r_m_showHours 0 0 x1)) then (g_m_open ((1063, [x1, 0, 0]), (e_upd (e_upd S r_m_thrown 0 0 0 (bif !decide ((v_m_isNoShow x1 S) = 0) then 1 else 0)) r_m_thrown 0 0 0 0))) else ((0, [0]), (e_upd (e_upd S r_m_thrown 0 0 0 (bif !decide ((v_m_isNoShow x1 S) = 0) then 1 else 0)) r_m_thrown 0 0 0 2)))))) := by
  unfold g_m_open
  refine ((z_psi_go (pc := 0)).trans (congrArg _ zE228_0)).trans ?_
  try simp only [z_psi_c, z_psi_b, z_psi_n, Nat.reduceLT, decide_true]
theorem zE228_63 {x1 x2 x3 : Int} {S : ZS} : z_st (z_F zT228) zD228 63 [x1, x2, x3] S = (bif decide (4 ≤ x3) then (e_bind (f_m_writes [111, (S r_m_showFilms 0 0 x1)] (e_upd S r_m_areOpened 0 0 x1 (e_nar 1 1))) (fun v1 S1 => ((0, [x2]), S1))) else ((1071, [x1, x2, x3, 0]), S)) := (id rfl : z_st (z_F zT228) zD228 63 [x1, x2, x3] S = z_ev (z_F zT228) 7 zP228_63 [x1, x2, x3] S).trans (id rfl)
theorem g_m_open_63 {x1 x2 x3 : Int} {S : ZS} : g_m_open ((1063, [x1, x2, x3]), S) = (bif decide (4 ≤ x3) then (e_bind (f_m_writes [111, (S r_m_showFilms 0 0 x1)] (e_upd S r_m_areOpened 0 0 x1 (e_nar 1 1))) (fun v1 S1 => ((0, [x2]), S1))) else (g_m_open ((1071, [x1, x2, x3, 0]), S))) := by
  unfold g_m_open
  refine ((z_psi_go (pc := 63)).trans (congrArg _ zE228_63)).trans ?_
  try simp only [z_psi_c, z_psi_b, z_psi_n, Nat.reduceLT, decide_true]
theorem zE228_71 {x1 x2 x3 x4 : Int} {S : ZS} : z_st (z_F zT228) zD228 71 [x1, x2, x3, x4] S = (bif decide ((S r_m_waitMany 0 0 x1) ≤ x4) then ((1063, [x1, x2, (e_wr (x3 + 1))]), S) else (bif !decide ((S r_m_ranks 0 0 (S r_m_waits_r x1 0 x4)) = x3) then ((1071, [x1, x2, x3, (e_wr (x4 + 1))]), S) else (bif decide ((S r_m_seats 0 0 (S r_m_showScreens 0 0 x1)) ≤ x2) then ((1071, [x1, x2, x3, (e_wr (x4 + 1))]), S) else (e_bind (f_m_isElsewhere [(S r_m_waits_r x1 0 x4), x1] S) (fun v1 S1 => (bif !decide (v1 = 0) then ((1071, [x1, x2, x3, (e_wr (x4 + 1))]), S1) else ((1071, [x1, (e_wr (x2 + 1)), x3, (e_wr (x4 + 1))]), (e_upd S1 r_m_haveSeats_r x1 0 (S r_m_waits_r x1 0 x4) (e_nar 1 1))))))))) := (id rfl : z_st (z_F zT228) zD228 71 [x1, x2, x3, x4] S = z_ev (z_F zT228) 23 zP228_71 [x1, x2, x3, x4] S).trans (by
  simp -implicitDefEqProofs only [zP228_71, zF228_163, zF228_167, zF228_212, zF228_227, zpI0, zpI1, zpIc, pF_m_isNoShow, Nat.zero_add, Nat.reduceAdd, Nat.reduceBEq, Int.reduceToNat, z_e0, z_e1, z_e2, z_e3, z_e4, z_e5, z_e6, z_e7, z_e8, z_e11, z_e13, o_v0, o_v1, o_v2, List.cons_append, List.nil_append, List.map_cons, List.map_nil, List.drop_succ_cons, List.drop_zero, List.take_succ_cons, List.take_zero, e_c0, e_c1, e_c2, e_c3, e_c4, e_c5, e_b0, e_b1, e_b2, e_b3, e_b4, e_b5, e_b6, e_b7, e_b8, e_b9, e_b10, e_b11, e_b12, e_b13, e_b14, e_b15, e_b16, e_b17, e_n0, e_bnd, e_un]
  try rfl)
theorem g_m_open_71 {x1 x2 x3 x4 : Int} {S : ZS} : g_m_open ((1071, [x1, x2, x3, x4]), S) = (bif decide ((S r_m_waitMany 0 0 x1) ≤ x4) then (g_m_open ((1063, [x1, x2, (e_wr (x3 + 1))]), S)) else (bif !decide ((S r_m_ranks 0 0 (S r_m_waits_r x1 0 x4)) = x3) then (g_m_open ((1071, [x1, x2, x3, (e_wr (x4 + 1))]), S)) else (bif decide ((S r_m_seats 0 0 (S r_m_showScreens 0 0 x1)) ≤ x2) then (g_m_open ((1071, [x1, x2, x3, (e_wr (x4 + 1))]), S)) else (e_bind (f_m_isElsewhere [(S r_m_waits_r x1 0 x4), x1] S) (fun v1 S1 => (bif !decide (v1 = 0) then (g_m_open ((1071, [x1, x2, x3, (e_wr (x4 + 1))]), S1)) else (g_m_open ((1071, [x1, (e_wr (x2 + 1)), x3, (e_wr (x4 + 1))]), (e_upd S1 r_m_haveSeats_r x1 0 (S r_m_waits_r x1 0 x4) (e_nar 1 1)))))))))) := by
  unfold g_m_open
  refine ((z_psi_go (pc := 71)).trans (congrArg _ zE228_71)).trans ?_
  try simp only [z_psi_c, z_psi_b, z_psi_n, Nat.reduceLT, decide_true]
def zW228 : List Nat := [r_m_lineMany, r_m_thrown, r_m_areOpened, r_m_haveSeats_r, r_m_letters, r_m_lineFilms]
theorem zK228 : z_kp 1 zW228 f_m_open := fun L S hL hc r i j k hr => z_psi_kp (KT := [(163, 2, zW163), (167, 2, zW167), (212, 1, zW212), (227, 2, zW227)]) (F := z_F zT228) (W := zW228) (D := zD228) (.c zF228_163 zK163 (.c zF228_167 zK167 (.c zF228_212 zK212 (.c zF228_227 zK227 .n)))) (fun _ _ => Or.inl rfl) (by decide +kernel) _ hc r i j k hr

-- x_hasSeat (122)
def zT122 : ZT := [(148, 1, [(2, (0, 0), (0, 0)), (0, (1, 0), (0, 0))], f_x_checkShow), (149, 1, [(2, (0, 0), (0, 0)), (0, (1, 0), (0, 0))], f_x_checkPass)]
theorem zH122 : z_ok zT122 := .c zM148 (.c zM149 .n)
theorem zF122_148 : z_F zT122 148 = f_x_checkShow := id rfl
theorem zF122_149 : z_F zT122 149 = f_x_checkPass := id rfl
def zP122_0 : List ZO := [(7, [(149, 0), (1, 0)]), (7, [(148, 0), (2, 0)]), (5, [(1088, 0), (2, 0), (0, 0), (1, 0)]), (0, [(5, 0)])]
def zC122 : ZC := [(0, 2, [some (2, (0, 0), (0, 0)), some (0, (1, 0), (0, 0)), some (0, (2, 0), (0, 0))])]
theorem zG122 : z_go zC122 (z_A zT122) [] 122 400 true 5 zP122_0 0 [some (2, (0, 0), (0, 0)), some (0, (1, 0), (0, 0)), some (0, (2, 0), (0, 0))] [] 2 = true := by decide +kernel
def f_x_hasSeat : ZFn := fun L S => match L with
  | [x1, x2] => (e_bind (f_x_checkPass [x1] S) (fun v1 S1 => (e_bind (f_x_checkShow [x2] S1) (fun v2 S2 => ((0, [(S2 r_Show_isSeated x2 0 x1)]), S2)))))
  | _ => ((0, []), S)
theorem zE122 {x1 x2 : Int} {S : ZS} : z_ev (z_F zT122) 5 zP122_0 [x1, x2] S = f_x_hasSeat [x1, x2] S := id rfl
theorem zM122 : z_met 122 2 [(2, (0, 0), (0, 0)), (0, (1, 0), (0, 0)), (0, (2, 0), (0, 0))] f_x_hasSeat := z_met_ev zH122 (fun _ _ h => absurd h List.not_mem_nil) rfl zG122 (by decide +kernel) (fun L S hn => match L, hn with
  | [x1, x2], _ => zE122)
def zW122 : List Nat := []
theorem zK122 : z_kp 2 zW122 f_x_hasSeat := z_kp_ev (KT := [(148, 1, zW148), (149, 1, zW149)]) (.c zF122_148 zK148 (.c zF122_149 zK149 .n)) (z_h163 rfl) (by decide +kernel) (fun L S hn => match L, hn with
  | [x1, x2], _ => zE122)

-- w_hasSeat (287)
def zT287 : ZT := [(122, 2, [(2, (0, 0), (0, 0)), (0, (1, 0), (0, 0)), (0, (2, 0), (0, 0))], f_x_hasSeat)]
theorem zH287 : z_ok zT287 := .c zM122 .n
theorem zF287_122 : z_F zT287 122 = f_x_hasSeat := id rfl
def zP287_0 : List ZO := [(11, [(122, 0), (1, 0), (0, 5), (1, 0), (2, 0)]), (3, [(0, 0), (2, 0), (3, 0), (0, 0)]), (6, [(6976, 0), (0, 0), (0, 0), (0, 0), (0, 0), (0, 0)]), (0, [(0, 0)]), (6, [(6976, 0), (0, 0), (0, 0), (0, 0), (0, 0), (0, 1)]), (0, [(0, 0)]), (0, [(0, 1)])]
def zC287 : ZC := [(0, 2, [some (2, (0, 0), (0, 0)), some (0, (1, 0), (0, 0)), some (0, (2, 0), (0, 0)), some (111, (0, 0), (0, 0)), none])]
theorem zG287 : z_go zC287 (z_A zT287) [] 287 400 true 8 zP287_0 0 [some (2, (0, 0), (0, 0)), some (0, (1, 0), (0, 0)), some (0, (2, 0), (0, 0)), some (111, (0, 0), (0, 0)), none] [] 2 = true := by decide +kernel
def f_w_hasSeat : ZFn := fun L S => match L with
  | [x1, x2] => (e_try (f_x_hasSeat [x1, x2] S) (fun v1 S1 => (bif decide (v1 = 0) then ((0, [0]), (e_upd S1 r_out 0 0 0 0)) else ((0, [0]), (e_upd S1 r_out 0 0 0 1)))) [(0, 1)])
  | _ => ((0, []), S)
theorem zE287 {x1 x2 : Int} {S : ZS} : z_ev (z_F zT287) 8 zP287_0 [x1, x2] S = f_w_hasSeat [x1, x2] S := id rfl
theorem zM287 : z_met 287 2 [(2, (0, 0), (0, 0)), (0, (1, 0), (0, 0)), (0, (2, 0), (0, 0)), (111, (0, 0), (0, 0))] f_w_hasSeat := z_met_ev zH287 (fun _ _ h => absurd h List.not_mem_nil) rfl zG287 (by decide +kernel) (fun L S hn => match L, hn with
  | [x1, x2], _ => zE287)
def zW287 : List Nat := [r_out]
theorem zK287 : z_kp 2 zW287 f_w_hasSeat := z_kp_ev (KT := [(122, 2, zW122)]) (.c zF287_122 zK122 .n) (z_h163 rfl) (by decide +kernel) (fun L S hn => match L, hn with
  | [x1, x2], _ => zE287)

-- m_hasSeat (229)
def zT229 : ZT := [(163, 2, [(52, (0, 0), (0, 0)), (0, (1, 0), (0, 0)), (0, (2, 0), (0, 0))], f_m_isThrown), (164, 3, [(0, (1, 0), (0, 0)), (0, (2, 0), (0, 0)), (0, (3, 0), (0, 0))], f_m_isIn), (212, 1, [(52, (0, 0), (0, 0)), (0, (1, 0), (0, 0))], f_m_isNoShow)]
theorem zH229 : z_ok zT229 := .c zM163 (.c zM164 (.c zM212 .n))
theorem zF229_163 : z_F zT229 163 = f_m_isThrown := id rfl
theorem zF229_164 : z_F zT229 164 = f_m_isIn := id rfl
theorem zF229_212 : z_F zT229 212 = f_m_isNoShow := id rfl
def zP229_0 : List ZO := [(5, [(3250, 0), (0, 0), (0, 0), (0, 0)]), (4, [(1, 0), (3, 0), (0, 1)]), (7, [(164, 0), (1, 0), (0, 0), (4, 0)]), (3, [(0, 0), (2, 0), (5, 0), (0, 0)]), (13, [(163, 0), (0, 0), (0, 1), (0, 1)]), (0, [(0, 0)]), (7, [(212, 0), (2, 0)]), (3, [(0, 0), (8, 0), (6, 0), (0, 0)]), (13, [(163, 0), (0, 0), (0, 0), (0, 1)]), (5, [(5120, 0), (0, 0), (0, 0), (2, 0)]), (3, [(1, 0), (1, 0), (7, 0), (0, 0)]), (0, [(0, 0)]), (5, [(5504, 0), (2, 0), (0, 0), (1, 0)]), (3, [(0, 0), (1, 0), (8, 0), (0, 0)]), (0, [(0, 0)]), (0, [(0, 1)]), (13, [(163, 0), (0, 0), (0, 1), (0, 1)]), (0, [(0, 0)])]
def zC229 : ZC := [(0, 2, [some (52, (0, 0), (0, 0)), some (0, (1, 0), (0, 0)), some (0, (2, 0), (0, 0))])]
theorem zG229 : z_go zC229 (z_A zT229) [(163, 0)] 229 400 true 19 zP229_0 0 [some (52, (0, 0), (0, 0)), some (0, (1, 0), (0, 0)), some (0, (2, 0), (0, 0))] [] 2 = true := by decide +kernel
def f_m_hasSeat : ZFn := fun L S => match L with
  | [x1, x2] => (bif decide ((v_m_isIn x1 0 (e_wr ((S r_m_passes 0 0 0) - 1)) S) = 0) then ((0, [0]), (e_upd S r_m_thrown 0 0 0 1)) else (bif decide ((v_m_isNoShow x2 S) = 0) then (bif !decide ((S r_m_gone 0 0 x2) = 0) then ((0, [0]), (e_upd S r_m_thrown 0 0 0 0)) else (bif decide ((S r_m_haveSeats_r x2 0 x1) = 0) then ((0, [0]), (e_upd S r_m_thrown 0 0 0 0)) else ((0, [1]), (e_upd S r_m_thrown 0 0 0 0)))) else ((0, [0]), (e_upd S r_m_thrown 0 0 0 1))))
  | _ => ((0, []), S)
theorem zE229 {x1 x2 : Int} {S : ZS} : z_ev (z_F zT229) 19 zP229_0 [x1, x2] S = f_m_hasSeat [x1, x2] S := by
  simp -implicitDefEqProofs only [zP229_0, zF229_163, zF229_164, zF229_212, zpI0, zpI1, zpIc, pF_m_isIn, pF_m_isNoShow, Nat.zero_add, Nat.reduceAdd, Nat.reduceBEq, Int.reduceToNat, z_e0, z_e1, z_e2, z_e3, z_e4, z_e5, z_e6, z_e7, z_e8, z_e11, z_e13, o_v0, o_v1, o_v2, List.cons_append, List.nil_append, List.map_cons, List.map_nil, List.drop_succ_cons, List.drop_zero, List.take_succ_cons, List.take_zero, e_c0, e_c1, e_c2, e_c3, e_c4, e_c5, e_b0, e_b1, e_b2, e_b3, e_b4, e_b5, e_b6, e_b7, e_b8, e_b9, e_b10, e_b11, e_b12, e_b13, e_b14, e_b15, e_b16, e_b17, e_n0, e_bnd, e_un]
  try rfl
theorem zM229 : z_met 229 2 [(52, (0, 0), (0, 0)), (0, (1, 0), (0, 0)), (0, (2, 0), (0, 0))] f_m_hasSeat := z_met_ev zH229 (fun _ _ h => by rw [List.mem_singleton] at h; cases h; exact fun _ _ => rfl) rfl zG229 (by decide +kernel) (fun L S hn => match L, hn with
  | [x1, x2], _ => zE229)
def zW229 : List Nat := [r_m_thrown]
theorem zK229 : z_kp 2 zW229 f_m_hasSeat := z_kp_ev (KT := [(163, 2, zW163), (164, 3, zW164), (212, 1, zW212)]) (.c zF229_163 zK163 (.c zF229_164 zK164 (.c zF229_212 zK212 .n))) (fun _ _ => Or.inl rfl) (by decide +kernel) (fun L S hn => match L, hn with
  | [x1, x2], _ => zE229)

-- Section_addJuror (77)
def zT77 : ZT := []
theorem zH77 : z_ok zT77 := .n
def zP77_0 : List ZO := [(5, [(1352, 0), (1, 0), (0, 0), (0, 0)]), (6, [(1472, 0), (0, 0), (1, 0), (3, 0), (0, 0), (2, 0)]), (5, [(1352, 0), (1, 0), (0, 0), (0, 0)]), (4, [(0, 0), (4, 0), (0, 1)]), (6, [(1352, 0), (0, 0), (1, 0), (0, 0), (0, 0), (5, 0)]), (5, [(1352, 0), (1, 0), (0, 0), (0, 0)]), (4, [(1, 0), (6, 0), (0, 1)]), (0, [(7, 0)])]
def zC77 : ZC := [(0, 2, [some (23, (1, 0), (0, 0)), some (0, (2, 0), (0, 0))])]
theorem zG77 : z_go zC77 (z_A zT77) [] 77 400 true 9 zP77_0 0 [some (23, (1, 0), (0, 0)), some (0, (2, 0), (0, 0))] [] 2 = true := by decide +kernel
def f_Section_addJuror : ZFn := fun L S => match L with
  | [x1, x2] => ((0, [(e_wr (((e_upd (e_upd S r_Juror_land x1 (S r_Section_jurorCount x1 0 0) 0 x2) r_Section_jurorCount x1 0 0 (e_wr ((S r_Section_jurorCount x1 0 0) + 1))) r_Section_jurorCount x1 0 0) - 1))]), (e_upd (e_upd S r_Juror_land x1 (S r_Section_jurorCount x1 0 0) 0 x2) r_Section_jurorCount x1 0 0 (e_wr ((S r_Section_jurorCount x1 0 0) + 1))))
  | _ => ((0, []), S)
theorem zE77 {x1 x2 : Int} {S : ZS} : z_ev (z_F zT77) 9 zP77_0 [x1, x2] S = f_Section_addJuror [x1, x2] S := id rfl
theorem zM77 : z_met 77 2 [(23, (1, 0), (0, 0)), (0, (2, 0), (0, 0))] f_Section_addJuror := z_met_ev zH77 (fun _ _ h => absurd h List.not_mem_nil) rfl zG77 (by decide +kernel) (fun L S hn => match L, hn with
  | [x1, x2], _ => zE77)
def zW77 : List Nat := [r_Section_jurorCount, r_Juror_land]
theorem zK77 : z_kp 2 zW77 f_Section_addJuror := z_kp_ev (KT := []) (.n) (z_h163 rfl) (by decide +kernel) (fun L S hn => match L, hn with
  | [x1, x2], _ => zE77)

-- x_juror (123)
def zT123 : ZT := [(77, 2, [(23, (1, 0), (0, 0)), (0, (2, 0), (0, 0))], f_Section_addJuror), (138, 3, [(0, (1, 0), (0, 0)), (0, (2, 0), (0, 0)), (0, (3, 0), (0, 0))], f_x_isWithin), (145, 1, [(2, (0, 0), (0, 0)), (0, (1, 0), (0, 0))], f_x_checkSection)]
theorem zH123 : z_ok zT123 := .c zM77 (.c zM138 (.c zM145 .n))
theorem zF123_77 : z_F zT123 77 = f_Section_addJuror := id rfl
theorem zF123_138 : z_F zT123 138 = f_x_isWithin := id rfl
theorem zF123_145 : z_F zT123 145 = f_x_checkSection := id rfl
def zP123_0 : List ZO := [(7, [(145, 0), (1, 0)]), (7, [(138, 0), (2, 0), (0, 0), (0, 9)]), (3, [(1, 0), (5, 0), (4, 0), (0, 0)]), (5, [(1352, 0), (1, 0), (0, 0), (0, 0)]), (3, [(2, 0), (2, 0), (5, 0), (0, 5)]), (7, [(77, 0), (1, 0), (2, 0)]), (0, [(6, 0)]), (1, [(2, 0)]), (1, [(1, 0)])]
def zC123 : ZC := [(0, 2, [some (2, (0, 0), (0, 0)), some (0, (1, 0), (0, 0)), some (0, (2, 0), (0, 0))])]
theorem zG123 : z_go zC123 (z_A zT123) [] 123 400 true 10 zP123_0 0 [some (2, (0, 0), (0, 0)), some (0, (1, 0), (0, 0)), some (0, (2, 0), (0, 0))] [] 2 = true := by decide +kernel
def f_x_juror : ZFn := fun L S => match L with
  | [x1, x2] => (e_bind (f_x_checkSection [x1] S) (fun v1 S1 => (bif !decide ((v_x_isWithin x2 0 9 S1) = 0) then (bif decide ((S1 r_Section_jurorCount x1 0 0) < 5) then (e_bind (f_Section_addJuror [x1, x2] S1) (fun v2 S2 => ((0, [v2]), S2))) else ((3, []), S1)) else ((2, []), S1))))
  | _ => ((0, []), S)
theorem zE123 {x1 x2 : Int} {S : ZS} : z_ev (z_F zT123) 10 zP123_0 [x1, x2] S = f_x_juror [x1, x2] S := id rfl
theorem zM123 : z_met 123 2 [(2, (0, 0), (0, 0)), (0, (1, 0), (0, 0)), (0, (2, 0), (0, 0))] f_x_juror := z_met_ev zH123 (fun _ _ h => absurd h List.not_mem_nil) rfl zG123 (by decide +kernel) (fun L S hn => match L, hn with
  | [x1, x2], _ => zE123)
def zW123 : List Nat := [r_Section_jurorCount, r_Juror_land]
theorem zK123 : z_kp 2 zW123 f_x_juror := z_kp_ev (KT := [(77, 2, zW77), (138, 3, zW138), (145, 1, zW145)]) (.c zF123_77 zK77 (.c zF123_138 zK138 (.c zF123_145 zK145 .n))) (z_h163 rfl) (by decide +kernel) (fun L S hn => match L, hn with
  | [x1, x2], _ => zE123)

-- w_juror (288)
def zT288 : ZT := [(123, 2, [(2, (0, 0), (0, 0)), (0, (1, 0), (0, 0)), (0, (2, 0), (0, 0))], f_x_juror)]
theorem zH288 : z_ok zT288 := .c zM123 .n
theorem zF288_123 : z_F zT288 123 = f_x_juror := id rfl
def zP288_0 : List ZO := [(11, [(123, 0), (3, 0), (0, 2), (1, 3), (2, 4), (1, 0), (2, 0)]), (6, [(6976, 0), (0, 0), (0, 0), (0, 0), (0, 0), (3, 0)]), (0, [(0, 0)]), (0, [(0, 1)]), (0, [(0, 2)]), (0, [(0, 3)])]
def zC288 : ZC := [(0, 2, [some (2, (0, 0), (0, 0)), some (0, (1, 0), (0, 0)), some (0, (2, 0), (0, 0)), some (111, (0, 0), (0, 0)), none])]
theorem zG288 : z_go zC288 (z_A zT288) [] 288 400 true 7 zP288_0 0 [some (2, (0, 0), (0, 0)), some (0, (1, 0), (0, 0)), some (0, (2, 0), (0, 0)), some (111, (0, 0), (0, 0)), none] [] 2 = true := by decide +kernel
def f_w_juror : ZFn := fun L S => match L with
  | [x1, x2] => (e_try (f_x_juror [x1, x2] S) (fun v1 S1 => ((0, [0]), (e_upd S1 r_out 0 0 0 v1))) [(0, 1), (1, 2), (2, 3)])
  | _ => ((0, []), S)
theorem zE288 {x1 x2 : Int} {S : ZS} : z_ev (z_F zT288) 7 zP288_0 [x1, x2] S = f_w_juror [x1, x2] S := id rfl
theorem zM288 : z_met 288 2 [(2, (0, 0), (0, 0)), (0, (1, 0), (0, 0)), (0, (2, 0), (0, 0)), (111, (0, 0), (0, 0))] f_w_juror := z_met_ev zH288 (fun _ _ h => absurd h List.not_mem_nil) rfl zG288 (by decide +kernel) (fun L S hn => match L, hn with
  | [x1, x2], _ => zE288)
def zW288 : List Nat := [r_Section_jurorCount, r_Juror_land, r_out]
theorem zK288 : z_kp 2 zW288 f_w_juror := z_kp_ev (KT := [(123, 2, zW123)]) (.c zF288_123 zK123 .n) (z_h163 rfl) (by decide +kernel) (fun L S hn => match L, hn with
  | [x1, x2], _ => zE288)

-- m_juror (230)
def zT230 : ZT := [(163, 2, [(52, (0, 0), (0, 0)), (0, (1, 0), (0, 0)), (0, (2, 0), (0, 0))], f_m_isThrown), (164, 3, [(0, (1, 0), (0, 0)), (0, (2, 0), (0, 0)), (0, (3, 0), (0, 0))], f_m_isIn), (186, 1, [(52, (0, 0), (0, 0)), (0, (1, 0), (0, 0))], f_m_isNoSection)]
theorem zH230 : z_ok zT230 := .c zM163 (.c zM164 (.c zM186 .n))
theorem zF230_163 : z_F zT230 163 = f_m_isThrown := id rfl
theorem zF230_164 : z_F zT230 164 = f_m_isIn := id rfl
theorem zF230_186 : z_F zT230 186 = f_m_isNoSection := id rfl
def zP230_0 : List ZO := [(7, [(186, 0), (1, 0)]), (13, [(163, 0), (0, 0), (3, 0), (0, 1)]), (3, [(1, 0), (1, 0), (3, 0), (0, 0)]), (0, [(0, 0)]), (7, [(164, 0), (2, 0), (0, 0), (0, 9)]), (3, [(1, 0), (9, 0), (4, 0), (0, 0)]), (13, [(163, 0), (0, 0), (0, 0), (0, 2)]), (5, [(5696, 0), (0, 0), (0, 0), (1, 0)]), (3, [(1, 0), (4, 0), (5, 0), (0, 5)]), (13, [(163, 0), (0, 0), (0, 0), (0, 3)]), (5, [(5696, 0), (0, 0), (0, 0), (1, 0)]), (6, [(5824, 0), (0, 0), (1, 0), (0, 0), (6, 0), (2, 0)]), (2, [(80, 0), (1, 0), (6, 0), (0, 0)]), (13, [(163, 0), (0, 0), (0, 1), (0, 3)]), (0, [(0, 0)]), (13, [(163, 0), (0, 0), (0, 1), (0, 2)]), (0, [(0, 0)])]
def zP230_80 : List ZO := [(3, [(4, 0), (4, 0), (3, 0), (0, 50)]), (5, [(5696, 0), (0, 0), (0, 0), (1, 0)]), (4, [(0, 0), (4, 0), (0, 1)]), (6, [(5696, 0), (0, 0), (0, 0), (0, 0), (1, 0), (5, 0)]), (0, [(2, 0)]), (6, [(6208, 0), (0, 0), (1, 0), (2, 0), (3, 0), (0, (-1))]), (4, [(0, 0), (3, 0), (0, 1)]), (2, [(80, 0), (1, 0), (2, 0), (4, 0)])]
def zD230 : ZD := [(0, 2, [some (52, (0, 0), (0, 0)), some (0, (1, 0), (0, 0)), some (0, (2, 0), (0, 0)), none, none], 18, zP230_0), (80, 3, [some (52, (0, 0), (0, 0)), some (0, (1, 0), (0, 0)), none, some (0, (2, 0), (0, 0)), some (0, (3, 0), (0, 0))], 9, zP230_80)]
theorem zG230 : z_chk zT230 [(163, 0)] 230 zD230 = true := by decide +kernel
noncomputable def g_m_juror (R : ZR) : ZR := z_psi (z_st (z_F zT230) zD230) R
noncomputable def f_m_juror : ZFn := fun L S => g_m_juror ((1000, L), S)
theorem zM230 : z_met 230 2 [(52, (0, 0), (0, 0)), (0, (1, 0), (0, 0)), (0, (2, 0), (0, 0))] f_m_juror := z_met_psi zH230 (fun _ _ h => by rw [List.mem_singleton] at h; cases h; exact fun _ _ => rfl) rfl zG230
theorem zE230_0 {x1 x2 : Int} {S : ZS} : z_st (z_F zT230) zD230 0 [x1, x2] S = (bif !decide ((v_m_isNoSection x1 S) = 0) then ((0, [0]), (e_upd S r_m_thrown 0 0 0 (bif !decide ((v_m_isNoSection x1 S) = 0) then 1 else 0))) else (bif !decide ((v_m_isIn x2 0 9 (e_upd S r_m_thrown 0 0 0 (bif !decide ((v_m_isNoSection x1 S) = 0) then 1 else 0))) = 0) then (bif !decide ((S r_m_jurorMany 0 0 x1) = 5) then ((1080, [x1, (S r_m_jurorMany 0 0 x1), 0]), (e_upd (e_upd (e_upd (e_upd S r_m_thrown 0 0 0 (bif !decide ((v_m_isNoSection x1 S) = 0) then 1 else 0)) r_m_thrown 0 0 0 0) r_m_thrown 0 0 0 0) r_m_jurorLands_r x1 0 (S r_m_jurorMany 0 0 x1) x2)) else ((0, [0]), (e_upd (e_upd (e_upd S r_m_thrown 0 0 0 (bif !decide ((v_m_isNoSection x1 S) = 0) then 1 else 0)) r_m_thrown 0 0 0 0) r_m_thrown 0 0 0 3))) else ((0, [0]), (e_upd (e_upd S r_m_thrown 0 0 0 (bif !decide ((v_m_isNoSection x1 S) = 0) then 1 else 0)) r_m_thrown 0 0 0 2)))) := (id rfl : z_st (z_F zT230) zD230 0 [x1, x2] S = z_ev (z_F zT230) 18 zP230_0 [x1, x2] S).trans (by
  simp -implicitDefEqProofs only [zP230_0, zF230_163, zF230_164, zF230_186, zpI0, zpI1, zpIc, pF_m_isIn, pF_m_isNoSection, Nat.zero_add, Nat.reduceAdd, Nat.reduceBEq, Int.reduceToNat, z_e0, z_e1, z_e2, z_e3, z_e4, z_e5, z_e6, z_e7, z_e8, z_e11, z_e13, o_v0, o_v1, o_v2, List.cons_append, List.nil_append, List.map_cons, List.map_nil, List.drop_succ_cons, List.drop_zero, List.take_succ_cons, List.take_zero, e_c0, e_c1, e_c2, e_c3, e_c4, e_c5, e_b0, e_b1, e_b2, e_b3, e_b4, e_b5, e_b6, e_b7, e_b8, e_b9, e_b10, e_b11, e_b12, e_b13, e_b14, e_b15, e_b16, e_b17, e_n0, e_bnd, e_un]
  try rfl)
theorem g_m_juror_0 {x1 x2 : Int} {S : ZS} : g_m_juror ((1000, [x1, x2]), S) = (bif !decide ((v_m_isNoSection x1 S) = 0) then ((0, [0]), (e_upd S r_m_thrown 0 0 0 (bif !decide ((v_m_isNoSection x1 S) = 0) then 1 else 0))) else (bif !decide ((v_m_isIn x2 0 9 (e_upd S r_m_thrown 0 0 0 (bif !decide ((v_m_isNoSection x1 S) = 0) then 1 else 0))) = 0) then (bif !decide ((S r_m_jurorMany 0 0 x1) = 5) then (g_m_juror ((1080, [x1, (S r_m_jurorMany 0 0 x1), 0]), (e_upd (e_upd (e_upd (e_upd S r_m_thrown 0 0 0 (bif !decide ((v_m_isNoSection x1 S) = 0) then 1 else 0)) r_m_thrown 0 0 0 0) r_m_thrown 0 0 0 0) r_m_jurorLands_r x1 0 (S r_m_jurorMany 0 0 x1) x2))) else ((0, [0]), (e_upd (e_upd (e_upd S r_m_thrown 0 0 0 (bif !decide ((v_m_isNoSection x1 S) = 0) then 1 else 0)) r_m_thrown 0 0 0 0) r_m_thrown 0 0 0 3))) else ((0, [0]), (e_upd (e_upd S r_m_thrown 0 0 0 (bif !decide ((v_m_isNoSection x1 S) = 0) then 1 else 0)) r_m_thrown 0 0 0 2)))) := by
  unfold g_m_juror
  refine ((z_psi_go (pc := 0)).trans (congrArg _ zE230_0)).trans ?_
  try simp only [z_psi_c, z_psi_b, z_psi_n, Nat.reduceLT, decide_true]
theorem zE230_80 {x1 x2 x3 : Int} {S : ZS} : z_st (z_F zT230) zD230 80 [x1, x2, x3] S = (bif decide (50 < x3) then ((0, [x2]), (e_upd S r_m_jurorMany 0 0 x1 (e_wr ((S r_m_jurorMany 0 0 x1) + 1)))) else ((1080, [x1, x2, (e_wr (x3 + 1))]), (e_upd S r_m_sawAt_r_r x1 x2 x3 (-1)))) := (id rfl : z_st (z_F zT230) zD230 80 [x1, x2, x3] S = z_ev (z_F zT230) 9 zP230_80 [x1, x2, x3] S).trans (id rfl)
theorem g_m_juror_80 {x1 x2 x3 : Int} {S : ZS} : g_m_juror ((1080, [x1, x2, x3]), S) = (bif decide (50 < x3) then ((0, [x2]), (e_upd S r_m_jurorMany 0 0 x1 (e_wr ((S r_m_jurorMany 0 0 x1) + 1)))) else (g_m_juror ((1080, [x1, x2, (e_wr (x3 + 1))]), (e_upd S r_m_sawAt_r_r x1 x2 x3 (-1))))) := by
  unfold g_m_juror
  refine ((z_psi_go (pc := 80)).trans (congrArg _ zE230_80)).trans ?_
  try simp only [z_psi_c, z_psi_b, z_psi_n, Nat.reduceLT, decide_true]
def zW230 : List Nat := [r_m_thrown, r_m_jurorMany, r_m_jurorLands_r, r_m_sawAt_r_r]
theorem zK230 : z_kp 2 zW230 f_m_juror := fun L S hL hc r i j k hr => z_psi_kp (KT := [(163, 2, zW163), (164, 3, zW164), (186, 1, zW186)]) (F := z_F zT230) (W := zW230) (D := zD230) (.c zF230_163 zK163 (.c zF230_164 zK164 (.c zF230_186 zK186 .n))) (fun _ _ => Or.inl rfl) (by decide +kernel) _ hc r i j k hr

-- x_rule (124)
def zT124 : ZT := [(145, 1, [(2, (0, 0), (0, 0)), (0, (1, 0), (0, 0))], f_x_checkSection)]
theorem zH124 : z_ok zT124 := .c zM145 .n
theorem zF124_145 : z_F zT124 145 = f_x_checkSection := id rfl
def zP124_0 : List ZO := [(7, [(145, 0), (1, 0)]), (3, [(0, 0), (3, 0), (2, 0), (0, 109)]), (5, [(1349, 0), (1, 0), (0, 0), (0, 0)]), (6, [(1349, 0), (0, 0), (1, 0), (0, 0), (0, 0), (2, 0)]), (0, [(4, 0)]), (3, [(0, 0), (3, 0), (2, 0), (0, 98)]), (5, [(1349, 0), (1, 0), (0, 0), (0, 0)]), (6, [(1349, 0), (0, 0), (1, 0), (0, 0), (0, 0), (2, 0)]), (0, [(4, 0)]), (3, [(0, 0), (3, 0), (2, 0), (0, 99)]), (5, [(1349, 0), (1, 0), (0, 0), (0, 0)]), (6, [(1349, 0), (0, 0), (1, 0), (0, 0), (0, 0), (2, 0)]), (0, [(4, 0)]), (3, [(0, 0), (3, 0), (2, 0), (0, 114)]), (5, [(1349, 0), (1, 0), (0, 0), (0, 0)]), (6, [(1349, 0), (0, 0), (1, 0), (0, 0), (0, 0), (2, 0)]), (0, [(4, 0)]), (1, [(1, 0)])]
def zC124 : ZC := [(0, 2, [some (2, (0, 0), (0, 0)), some (0, (1, 0), (0, 0)), some (0, (2, 0), (0, 0)), none])]
theorem zG124 : z_go zC124 (z_A zT124) [] 124 400 true 19 zP124_0 0 [some (2, (0, 0), (0, 0)), some (0, (1, 0), (0, 0)), some (0, (2, 0), (0, 0)), none] [] 2 = true := by decide +kernel
def f_x_rule : ZFn := fun L S => match L with
  | [x1, x2] => (e_bind (f_x_checkSection [x1] S) (fun v1 S1 => (bif decide (x2 = 109) then ((0, [(S1 r_Section_rule x1 0 0)]), (e_upd S1 r_Section_rule x1 0 0 x2)) else (bif decide (x2 = 98) then ((0, [(S1 r_Section_rule x1 0 0)]), (e_upd S1 r_Section_rule x1 0 0 x2)) else (bif decide (x2 = 99) then ((0, [(S1 r_Section_rule x1 0 0)]), (e_upd S1 r_Section_rule x1 0 0 x2)) else (bif decide (x2 = 114) then ((0, [(S1 r_Section_rule x1 0 0)]), (e_upd S1 r_Section_rule x1 0 0 x2)) else ((2, []), S1)))))))
  | _ => ((0, []), S)
theorem zE124 {x1 x2 : Int} {S : ZS} : z_ev (z_F zT124) 19 zP124_0 [x1, x2] S = f_x_rule [x1, x2] S := by
  simp -implicitDefEqProofs only [zP124_0, zF124_145, Nat.zero_add, Nat.reduceAdd, Nat.reduceBEq, Int.reduceToNat, z_e0, z_e1, z_e2, z_e3, z_e4, z_e5, z_e6, z_e7, z_e8, z_e11, z_e13, o_v0, o_v1, o_v2, List.cons_append, List.nil_append, List.map_cons, List.map_nil, List.drop_succ_cons, List.drop_zero, List.take_succ_cons, List.take_zero, e_c0, e_c1, e_c2, e_c3, e_c4, e_c5, e_b0, e_b1, e_b2, e_b3, e_b4, e_b5, e_b6, e_b7, e_b8, e_b9, e_b10, e_b11, e_b12, e_b13, e_b14, e_b15, e_b16, e_b17, e_n0, e_bnd, e_un]
  try rfl
theorem zM124 : z_met 124 2 [(2, (0, 0), (0, 0)), (0, (1, 0), (0, 0)), (0, (2, 0), (0, 0))] f_x_rule := z_met_ev zH124 (fun _ _ h => absurd h List.not_mem_nil) rfl zG124 (by decide +kernel) (fun L S hn => match L, hn with
  | [x1, x2], _ => zE124)
def zW124 : List Nat := [r_Section_rule]
theorem zK124 : z_kp 2 zW124 f_x_rule := z_kp_ev (KT := [(145, 1, zW145)]) (.c zF124_145 zK145 .n) (z_h163 rfl) (by decide +kernel) (fun L S hn => match L, hn with
  | [x1, x2], _ => zE124)

-- w_rule (289)
def zT289 : ZT := [(124, 2, [(2, (0, 0), (0, 0)), (0, (1, 0), (0, 0)), (0, (2, 0), (0, 0))], f_x_rule)]
theorem zH289 : z_ok zT289 := .c zM124 .n
theorem zF289_124 : z_F zT289 124 = f_x_rule := id rfl
def zP289_0 : List ZO := [(11, [(124, 0), (2, 0), (0, 2), (1, 3), (1, 0), (2, 0)]), (6, [(6976, 0), (0, 0), (0, 0), (0, 0), (0, 0), (3, 0)]), (0, [(0, 0)]), (0, [(0, 1)]), (0, [(0, 2)])]
def zC289 : ZC := [(0, 2, [some (2, (0, 0), (0, 0)), some (0, (1, 0), (0, 0)), some (0, (2, 0), (0, 0)), some (111, (0, 0), (0, 0)), none])]
theorem zG289 : z_go zC289 (z_A zT289) [] 289 400 true 6 zP289_0 0 [some (2, (0, 0), (0, 0)), some (0, (1, 0), (0, 0)), some (0, (2, 0), (0, 0)), some (111, (0, 0), (0, 0)), none] [] 2 = true := by decide +kernel
def f_w_rule : ZFn := fun L S => match L with
  | [x1, x2] => (e_try (f_x_rule [x1, x2] S) (fun v1 S1 => ((0, [0]), (e_upd S1 r_out 0 0 0 v1))) [(0, 1), (1, 2)])
  | _ => ((0, []), S)
theorem zE289 {x1 x2 : Int} {S : ZS} : z_ev (z_F zT289) 6 zP289_0 [x1, x2] S = f_w_rule [x1, x2] S := id rfl
theorem zM289 : z_met 289 2 [(2, (0, 0), (0, 0)), (0, (1, 0), (0, 0)), (0, (2, 0), (0, 0)), (111, (0, 0), (0, 0))] f_w_rule := z_met_ev zH289 (fun _ _ h => absurd h List.not_mem_nil) rfl zG289 (by decide +kernel) (fun L S hn => match L, hn with
  | [x1, x2], _ => zE289)
def zW289 : List Nat := [r_Section_rule, r_out]
theorem zK289 : z_kp 2 zW289 f_w_rule := z_kp_ev (KT := [(124, 2, zW124)]) (.c zF289_124 zK124 .n) (z_h163 rfl) (by decide +kernel) (fun L S hn => match L, hn with
  | [x1, x2], _ => zE289)

-- m_rule (231)
def zT231 : ZT := [(163, 2, [(52, (0, 0), (0, 0)), (0, (1, 0), (0, 0)), (0, (2, 0), (0, 0))], f_m_isThrown), (186, 1, [(52, (0, 0), (0, 0)), (0, (1, 0), (0, 0))], f_m_isNoSection)]
theorem zH231 : z_ok zT231 := .c zM163 (.c zM186 .n)
theorem zF231_163 : z_F zT231 163 = f_m_isThrown := id rfl
theorem zF231_186 : z_F zT231 186 = f_m_isNoSection := id rfl
def zP231_0 : List ZO := [(7, [(186, 0), (1, 0)]), (13, [(163, 0), (0, 0), (3, 0), (0, 1)]), (3, [(1, 0), (1, 0), (3, 0), (0, 0)]), (0, [(0, 32)]), (3, [(0, 0), (4, 0), (2, 0), (0, 109)]), (13, [(163, 0), (0, 0), (0, 0), (0, 2)]), (5, [(4544, 0), (0, 0), (0, 0), (1, 0)]), (6, [(4544, 0), (2, 0), (0, 0), (0, 0), (1, 0), (2, 0)]), (0, [(4, 0)]), (3, [(0, 0), (4, 0), (2, 0), (0, 98)]), (13, [(163, 0), (0, 0), (0, 0), (0, 2)]), (5, [(4544, 0), (0, 0), (0, 0), (1, 0)]), (6, [(4544, 0), (2, 0), (0, 0), (0, 0), (1, 0), (2, 0)]), (0, [(4, 0)]), (3, [(0, 0), (4, 0), (2, 0), (0, 99)]), (13, [(163, 0), (0, 0), (0, 0), (0, 2)]), (5, [(4544, 0), (0, 0), (0, 0), (1, 0)]), (6, [(4544, 0), (2, 0), (0, 0), (0, 0), (1, 0), (2, 0)]), (0, [(4, 0)]), (3, [(0, 0), (4, 0), (2, 0), (0, 114)]), (13, [(163, 0), (0, 0), (0, 0), (0, 2)]), (5, [(4544, 0), (0, 0), (0, 0), (1, 0)]), (6, [(4544, 0), (2, 0), (0, 0), (0, 0), (1, 0), (2, 0)]), (0, [(4, 0)]), (13, [(163, 0), (0, 0), (0, 1), (0, 2)]), (0, [(0, 32)])]
def zC231 : ZC := [(0, 2, [some (52, (0, 0), (0, 0)), some (0, (1, 0), (0, 0)), some (0, (2, 0), (0, 0)), none])]
theorem zG231 : z_go zC231 (z_A zT231) [(163, 0)] 231 400 true 27 zP231_0 0 [some (52, (0, 0), (0, 0)), some (0, (1, 0), (0, 0)), some (0, (2, 0), (0, 0)), none] [] 2 = true := by decide +kernel
def f_m_rule : ZFn := fun L S => match L with
  | [x1, x2] => (bif !decide ((v_m_isNoSection x1 S) = 0) then ((0, [32]), (e_upd S r_m_thrown 0 0 0 (bif !decide ((v_m_isNoSection x1 S) = 0) then 1 else 0))) else (bif decide (x2 = 109) then ((0, [(S r_m_rules 0 0 x1)]), (e_upd (e_upd (e_upd S r_m_thrown 0 0 0 (bif !decide ((v_m_isNoSection x1 S) = 0) then 1 else 0)) r_m_thrown 0 0 0 0) r_m_rules 0 0 x1 (e_nar 2 x2))) else (bif decide (x2 = 98) then ((0, [(S r_m_rules 0 0 x1)]), (e_upd (e_upd (e_upd S r_m_thrown 0 0 0 (bif !decide ((v_m_isNoSection x1 S) = 0) then 1 else 0)) r_m_thrown 0 0 0 0) r_m_rules 0 0 x1 (e_nar 2 x2))) else (bif decide (x2 = 99) then ((0, [(S r_m_rules 0 0 x1)]), (e_upd (e_upd (e_upd S r_m_thrown 0 0 0 (bif !decide ((v_m_isNoSection x1 S) = 0) then 1 else 0)) r_m_thrown 0 0 0 0) r_m_rules 0 0 x1 (e_nar 2 x2))) else (bif decide (x2 = 114) then ((0, [(S r_m_rules 0 0 x1)]), (e_upd (e_upd (e_upd S r_m_thrown 0 0 0 (bif !decide ((v_m_isNoSection x1 S) = 0) then 1 else 0)) r_m_thrown 0 0 0 0) r_m_rules 0 0 x1 (e_nar 2 x2))) else ((0, [32]), (e_upd (e_upd S r_m_thrown 0 0 0 (bif !decide ((v_m_isNoSection x1 S) = 0) then 1 else 0)) r_m_thrown 0 0 0 2)))))))
  | _ => ((0, []), S)
theorem zE231 {x1 x2 : Int} {S : ZS} : z_ev (z_F zT231) 27 zP231_0 [x1, x2] S = f_m_rule [x1, x2] S := by
  simp -implicitDefEqProofs only [zP231_0, zF231_163, zF231_186, zpI0, zpI1, zpIc, pF_m_isNoSection, Nat.zero_add, Nat.reduceAdd, Nat.reduceBEq, Int.reduceToNat, z_e0, z_e1, z_e2, z_e3, z_e4, z_e5, z_e6, z_e7, z_e8, z_e11, z_e13, o_v0, o_v1, o_v2, List.cons_append, List.nil_append, List.map_cons, List.map_nil, List.drop_succ_cons, List.drop_zero, List.take_succ_cons, List.take_zero, e_c0, e_c1, e_c2, e_c3, e_c4, e_c5, e_b0, e_b1, e_b2, e_b3, e_b4, e_b5, e_b6, e_b7, e_b8, e_b9, e_b10, e_b11, e_b12, e_b13, e_b14, e_b15, e_b16, e_b17, e_n0, e_bnd, e_un]
  try rfl
theorem zM231 : z_met 231 2 [(52, (0, 0), (0, 0)), (0, (1, 0), (0, 0)), (0, (2, 0), (0, 0))] f_m_rule := z_met_ev zH231 (fun _ _ h => by rw [List.mem_singleton] at h; cases h; exact fun _ _ => rfl) rfl zG231 (by decide +kernel) (fun L S hn => match L, hn with
  | [x1, x2], _ => zE231)
def zW231 : List Nat := [r_m_thrown, r_m_rules]
theorem zK231 : z_kp 2 zW231 f_m_rule := z_kp_ev (KT := [(163, 2, zW163), (186, 1, zW186)]) (.c zF231_163 zK163 (.c zF231_186 zK186 .n)) (fun _ _ => Or.inl rfl) (by decide +kernel) (fun L S hn => match L, hn with
  | [x1, x2], _ => zE231)

-- x_checkJuror (146)
def zT146 : ZT := [(142, 2, [(0, (1, 0), (0, 0)), (0, (2, 0), (0, 0))], f_x_checkNumber)]
theorem zH146 : z_ok zT146 := .c zM142 .n
theorem zF146_142 : z_F zT146 142 = f_x_checkNumber := id rfl
def zP146_0 : List ZO := [(5, [(1352, 0), (1, 0), (0, 0), (0, 0)]), (7, [(142, 0), (2, 0), (3, 0)]), (0, [])]
def zC146 : ZC := [(0, 2, [some (2, (0, 0), (0, 0)), some (0, (1, 0), (0, 0)), some (0, (2, 0), (0, 0))])]
theorem zG146 : z_go zC146 (z_A zT146) [] 146 400 true 4 zP146_0 0 [some (2, (0, 0), (0, 0)), some (0, (1, 0), (0, 0)), some (0, (2, 0), (0, 0))] [] 2 = true := by decide +kernel
def f_x_checkJuror : ZFn := fun L S => match L with
  | [x1, x2] => (e_bind (f_x_checkNumber [x2, (S r_Section_jurorCount x1 0 0)] S) (fun v1 S1 => ((0, []), S1)))
  | _ => ((0, []), S)
theorem zE146 {x1 x2 : Int} {S : ZS} : z_ev (z_F zT146) 4 zP146_0 [x1, x2] S = f_x_checkJuror [x1, x2] S := id rfl
theorem zM146 : z_met 146 2 [(2, (0, 0), (0, 0)), (0, (1, 0), (0, 0)), (0, (2, 0), (0, 0))] f_x_checkJuror := z_met_ev zH146 (fun _ _ h => absurd h List.not_mem_nil) rfl zG146 (by decide +kernel) (fun L S hn => match L, hn with
  | [x1, x2], _ => zE146)
def zW146 : List Nat := []
theorem zK146 : z_kp 2 zW146 f_x_checkJuror := z_kp_ev (KT := [(142, 2, zW142)]) (.c zF146_142 zK142 .n) (z_h163 rfl) (by decide +kernel) (fun L S hn => match L, hn with
  | [x1, x2], _ => zE146)

-- Juror_sawAnother (52)
def zT52 : ZT := []
theorem zH52 : z_ok zT52 := .n
def zP52_0 : List ZO := [(5, [(1474, 0), (1, 0), (2, 0), (0, 0)]), (3, [(1, 0), (1, 0), (5, 0), (4, 0)]), (0, [(0, 0)]), (5, [(1475, 0), (1, 0), (2, 0), (0, 0)]), (3, [(0, 0), (1, 0), (6, 0), (3, 0)]), (0, [(0, 0)]), (0, [(0, 1)])]
def zC52 : ZC := [(0, 4, [some (25, (1, 0), (2, 0)), some (0, (3, 0), (0, 0)), some (0, (4, 0), (0, 0))])]
theorem zG52 : z_go zC52 (z_A zT52) [] 52 400 true 8 zP52_0 0 [some (25, (1, 0), (2, 0)), some (0, (3, 0), (0, 0)), some (0, (4, 0), (0, 0))] [] 4 = true := by decide +kernel
def v_Juror_sawAnother (x1 x2 x3 x4 : Int) (S : ZS) : Int := (bif !decide ((S r_Juror_lastHour x1 x2 0) = x4) then 0 else (bif decide ((S r_Juror_lastShow x1 x2 0) = x3) then 0 else 1))
def f_Juror_sawAnother : ZFn := fun L S => match L with
  | [x1, x2, x3, x4] => ((0, [v_Juror_sawAnother x1 x2 x3 x4 S]), S)
  | _ => ((0, []), S)
theorem pF_Juror_sawAnother {x1 x2 x3 x4 : Int} {S : ZS} : f_Juror_sawAnother [x1, x2, x3, x4] S = ((0, [v_Juror_sawAnother x1 x2 x3 x4 S]), S) := id rfl
theorem zE52a {x1 x2 x3 x4 : Int} {S : ZS} : z_ev (z_F zT52) 8 zP52_0 [x1, x2, x3, x4] S = (bif !decide ((S r_Juror_lastHour x1 x2 0) = x4) then ((0, [0]), S) else (bif decide ((S r_Juror_lastShow x1 x2 0) = x3) then ((0, [0]), S) else ((0, [1]), S))) := id rfl
theorem zE52 {x1 x2 x3 x4 : Int} {S : ZS} : z_ev (z_F zT52) 8 zP52_0 [x1, x2, x3, x4] S = f_Juror_sawAnother [x1, x2, x3, x4] S := zE52a.trans (by
  simp only [z_cv]
  rfl)
theorem zM52 : z_met 52 4 [(25, (1, 0), (2, 0)), (0, (3, 0), (0, 0)), (0, (4, 0), (0, 0))] f_Juror_sawAnother := z_met_ev zH52 (fun _ _ h => absurd h List.not_mem_nil) rfl zG52 (by decide +kernel) (fun L S hn => match L, hn with
  | [x1, x2, x3, x4], _ => zE52)
def zW52 : List Nat := []
theorem zK52 : z_kp 4 zW52 f_Juror_sawAnother := z_kp_ev (KT := []) (.n) (z_h163 rfl) (by decide +kernel) (fun L S hn => match L, hn with
  | [x1, x2, x3, x4], _ => zE52)

-- Juror_look (53)
def zT53 : ZT := []
theorem zH53 : z_ok zT53 := .n
def zP53_0 : List ZO := [(6, [(1474, 0), (0, 0), (1, 0), (2, 0), (0, 0), (5, 0)]), (6, [(1475, 0), (0, 0), (1, 0), (2, 0), (0, 0), (3, 0)]), (6, [(1536, 0), (1, 0), (1, 0), (2, 0), (4, 0), (0, 1)]), (0, [])]
def zC53 : ZC := [(0, 5, [some (25, (1, 0), (2, 0)), some (0, (3, 0), (0, 0)), some (0, (4, 0), (0, 0)), some (0, (5, 0), (0, 0))])]
theorem zG53 : z_go zC53 (z_A zT53) [] 53 400 true 5 zP53_0 0 [some (25, (1, 0), (2, 0)), some (0, (3, 0), (0, 0)), some (0, (4, 0), (0, 0)), some (0, (5, 0), (0, 0))] [] 5 = true := by decide +kernel
def f_Juror_look : ZFn := fun L S => match L with
  | [x1, x2, x3, x4, x5] => ((0, []), (e_upd (e_upd (e_upd S r_Juror_lastHour x1 x2 0 x5) r_Juror_lastShow x1 x2 0 x3) r_Juror_hasSeen x1 x2 x4 (e_nar 1 1)))
  | _ => ((0, []), S)
theorem zE53 {x1 x2 x3 x4 x5 : Int} {S : ZS} : z_ev (z_F zT53) 5 zP53_0 [x1, x2, x3, x4, x5] S = f_Juror_look [x1, x2, x3, x4, x5] S := id rfl
theorem zM53 : z_met 53 5 [(25, (1, 0), (2, 0)), (0, (3, 0), (0, 0)), (0, (4, 0), (0, 0)), (0, (5, 0), (0, 0))] f_Juror_look := z_met_ev zH53 (fun _ _ h => absurd h List.not_mem_nil) rfl zG53 (by decide +kernel) (fun L S hn => match L, hn with
  | [x1, x2, x3, x4, x5], _ => zE53)
def zW53 : List Nat := [r_Juror_lastHour, r_Juror_lastShow, r_Juror_hasSeen]
theorem zK53 : z_kp 5 zW53 f_Juror_look := z_kp_ev (KT := []) (.n) (z_h163 rfl) (by decide +kernel) (fun L S hn => match L, hn with
  | [x1, x2, x3, x4, x5], _ => zE53)

-- x_countSeen (157)
def zT157 : ZT := []
theorem zH157 : z_ok zT157 := .n
def zP157_0 : List ZO := [(2, [(5, 0), (1, 0), (2, 0), (3, 0), (0, 0), (0, 0)])]
def zP157_5 : List ZO := [(5, [(4, 0), (0, 0), (0, 0), (0, 0)]), (3, [(3, 0), (1, 0), (5, 0), (6, 0)]), (0, [(4, 0)]), (5, [(195, 0), (5, 0), (0, 0), (0, 0)]), (3, [(1, 0), (2, 0), (7, 0), (1, 0)]), (4, [(0, 0), (5, 0), (0, 1)]), (2, [(5, 0), (1, 0), (2, 0), (3, 0), (4, 0), (8, 0)]), (5, [(1536, 0), (2, 0), (3, 0), (5, 0)]), (3, [(0, 0), (2, 0), (8, 0), (0, 0)]), (4, [(0, 0), (5, 0), (0, 1)]), (2, [(5, 0), (1, 0), (2, 0), (3, 0), (4, 0), (9, 0)]), (4, [(0, 0), (4, 0), (0, 1)]), (4, [(0, 0), (5, 0), (0, 1)]), (2, [(5, 0), (1, 0), (2, 0), (3, 0), (9, 0), (10, 0)])]
def zD157 : ZD := [(0, 3, [some (2, (0, 0), (0, 0)), some (0, (1, 0), (0, 0)), some (25, (2, 0), (3, 0)), none, none], 2, zP157_0), (5, 5, [some (2, (0, 0), (0, 0)), some (0, (1, 0), (0, 0)), some (25, (2, 0), (3, 0)), some (0, (4, 0), (0, 0)), some (0, (5, 0), (0, 0))], 15, zP157_5)]
theorem zG157 : z_chk zT157 [] 157 zD157 = true := by decide +kernel
noncomputable def g_x_countSeen (R : ZR) : ZR := z_psi (z_st (z_F zT157) zD157) R
noncomputable def f_x_countSeen : ZFn := fun L S => g_x_countSeen ((1000, L), S)
theorem zM157 : z_met 157 3 [(2, (0, 0), (0, 0)), (0, (1, 0), (0, 0)), (25, (2, 0), (3, 0))] f_x_countSeen := z_met_psi zH157 (fun _ _ h => absurd h List.not_mem_nil) rfl zG157
theorem zE157_0 {x1 x2 x3 : Int} {S : ZS} : z_st (z_F zT157) zD157 0 [x1, x2, x3] S = ((1005, [x1, x2, x3, 0, 0]), S) := (id rfl : z_st (z_F zT157) zD157 0 [x1, x2, x3] S = z_ev (z_F zT157) 2 zP157_0 [x1, x2, x3] S).trans (id rfl)
theorem g_x_countSeen_0 {x1 x2 x3 : Int} {S : ZS} : g_x_countSeen ((1000, [x1, x2, x3]), S) = (g_x_countSeen ((1005, [x1, x2, x3, 0, 0]), S)) := by
  unfold g_x_countSeen
  refine ((z_psi_go (pc := 0)).trans (congrArg _ zE157_0)).trans ?_
  try simp only [z_psi_c, z_psi_b, z_psi_n, Nat.reduceLT, decide_true]
theorem zE157_5 {x1 x2 x3 x4 x5 : Int} {S : ZS} : z_st (z_F zT157) zD157 5 [x1, x2, x3, x4, x5] S = (bif decide ((S r_x_filmCount 0 0 0) ≤ x5) then ((0, [x4]), S) else (bif !decide ((S r_Film_section x5 0 0) = x1) then ((1005, [x1, x2, x3, x4, (e_wr (x5 + 1))]), S) else (bif decide ((S r_Juror_hasSeen x2 x3 x5) = 0) then ((1005, [x1, x2, x3, x4, (e_wr (x5 + 1))]), S) else ((1005, [x1, x2, x3, (e_wr (x4 + 1)), (e_wr (x5 + 1))]), S)))) := (id rfl : z_st (z_F zT157) zD157 5 [x1, x2, x3, x4, x5] S = z_ev (z_F zT157) 15 zP157_5 [x1, x2, x3, x4, x5] S).trans (by
  simp -implicitDefEqProofs only [zP157_5, Nat.zero_add, Nat.reduceAdd, Nat.reduceBEq, Int.reduceToNat, z_e0, z_e1, z_e2, z_e3, z_e4, z_e5, z_e6, z_e7, z_e8, z_e11, z_e13, o_v0, o_v1, o_v2, List.cons_append, List.nil_append, List.map_cons, List.map_nil, List.drop_succ_cons, List.drop_zero, List.take_succ_cons, List.take_zero, e_c0, e_c1, e_c2, e_c3, e_c4, e_c5, e_b0, e_b1, e_b2, e_b3, e_b4, e_b5, e_b6, e_b7, e_b8, e_b9, e_b10, e_b11, e_b12, e_b13, e_b14, e_b15, e_b16, e_b17, e_n0, e_bnd, e_un]
  try rfl)
theorem g_x_countSeen_5 {x1 x2 x3 x4 x5 : Int} {S : ZS} : g_x_countSeen ((1005, [x1, x2, x3, x4, x5]), S) = (bif decide ((S r_x_filmCount 0 0 0) ≤ x5) then ((0, [x4]), S) else (bif !decide ((S r_Film_section x5 0 0) = x1) then (g_x_countSeen ((1005, [x1, x2, x3, x4, (e_wr (x5 + 1))]), S)) else (bif decide ((S r_Juror_hasSeen x2 x3 x5) = 0) then (g_x_countSeen ((1005, [x1, x2, x3, x4, (e_wr (x5 + 1))]), S)) else (g_x_countSeen ((1005, [x1, x2, x3, (e_wr (x4 + 1)), (e_wr (x5 + 1))]), S))))) := by
  unfold g_x_countSeen
  refine ((z_psi_go (pc := 5)).trans (congrArg _ zE157_5)).trans ?_
  try simp only [z_psi_c, z_psi_b, z_psi_n, Nat.reduceLT, decide_true]
def zW157 : List Nat := []
theorem zK157 : z_kp 3 zW157 f_x_countSeen := fun L S hL hc r i j k hr => z_psi_kp (KT := []) (F := z_F zT157) (W := zW157) (D := zD157) (.n) (z_h163 rfl) (by decide +kernel) _ hc r i j k hr

-- x_see (125)
noncomputable def zT125 : ZT := [(31, 1, [(3, (0, 0), (0, 0)), (17, (1, 0), (0, 0))], f_Grid_stateOf), (52, 4, [(25, (1, 0), (2, 0)), (0, (3, 0), (0, 0)), (0, (4, 0), (0, 0))], f_Juror_sawAnother), (53, 5, [(25, (1, 0), (2, 0)), (0, (3, 0), (0, 0)), (0, (4, 0), (0, 0)), (0, (5, 0), (0, 0))], f_Juror_look), (145, 1, [(2, (0, 0), (0, 0)), (0, (1, 0), (0, 0))], f_x_checkSection), (146, 2, [(2, (0, 0), (0, 0)), (0, (1, 0), (0, 0)), (0, (2, 0), (0, 0))], f_x_checkJuror), (148, 1, [(2, (0, 0), (0, 0)), (0, (1, 0), (0, 0))], f_x_checkShow), (157, 3, [(2, (0, 0), (0, 0)), (0, (1, 0), (0, 0)), (25, (2, 0), (3, 0))], f_x_countSeen)]
theorem zH125 : z_ok zT125 := .c zM31 (.c zM52 (.c zM53 (.c zM145 (.c zM146 (.c zM148 (.c zM157 .n))))))
theorem zF125_31 : z_F zT125 31 = f_Grid_stateOf := id rfl
theorem zF125_52 : z_F zT125 52 = f_Juror_sawAnother := id rfl
theorem zF125_53 : z_F zT125 53 = f_Juror_look := id rfl
theorem zF125_145 : z_F zT125 145 = f_x_checkSection := id rfl
theorem zF125_146 : z_F zT125 146 = f_x_checkJuror := id rfl
theorem zF125_148 : z_F zT125 148 = f_x_checkShow := id rfl
theorem zF125_157 : z_F zT125 157 = f_x_countSeen := id rfl
def zP125_0 : List ZO := [(7, [(145, 0), (1, 0)]), (7, [(146, 0), (1, 0), (2, 0)]), (7, [(148, 0), (3, 0)]), (7, [(31, 0), (3, 0)]), (3, [(1, 0), (1, 0), (7, 0), (0, 110)]), (1, [(3, 0)]), (5, [(960, 0), (3, 0), (0, 0), (0, 0)]), (5, [(195, 0), (8, 0), (0, 0), (0, 0)]), (3, [(1, 0), (1, 0), (9, 0), (1, 0)]), (1, [(3, 0)]), (5, [(69, 0), (0, 0), (0, 0), (0, 0)]), (7, [(52, 0), (1, 0), (2, 0), (3, 0), (10, 0)]), (3, [(0, 0), (5, 0), (11, 0), (0, 0)]), (5, [(960, 0), (3, 0), (0, 0), (0, 0)]), (5, [(69, 0), (0, 0), (0, 0), (0, 0)]), (7, [(53, 0), (1, 0), (2, 0), (3, 0), (12, 0), (13, 0)]), (7, [(157, 0), (1, 0), (1, 0), (2, 0)]), (0, [(15, 0)]), (1, [(3, 0)])]
def zC125 : ZC := [(0, 3, [some (2, (0, 0), (0, 0)), some (0, (1, 0), (0, 0)), some (0, (2, 0), (0, 0)), some (0, (3, 0), (0, 0)), none, none])]
theorem zG125 : z_go zC125 (z_A zT125) [] 125 400 true 20 zP125_0 0 [some (2, (0, 0), (0, 0)), some (0, (1, 0), (0, 0)), some (0, (2, 0), (0, 0)), some (0, (3, 0), (0, 0)), none, none] [] 3 = true := by decide +kernel
noncomputable def f_x_see : ZFn := fun L S => match L with
  | [x1, x2, x3] => (e_bind (f_x_checkSection [x1] S) (fun v1 S1 => (e_bind (f_x_checkJuror [x1, x2] S1) (fun v2 S2 => (e_bind (f_x_checkShow [x3] S2) (fun v3 S3 => (bif !decide ((v_Grid_stateOf x3 S3) = 110) then ((4, []), S3) else (bif !decide ((S3 r_Film_section (S3 r_Show_film x3 0 0) 0 0) = x1) then ((4, []), S3) else (bif decide ((v_Juror_sawAnother x1 x2 x3 (S3 r_Grid_hour 0 0 0) S3) = 0) then (e_bind (f_Juror_look [x1, x2, x3, (S3 r_Show_film x3 0 0), (S3 r_Grid_hour 0 0 0)] S3) (fun v4 S4 => (e_bind (f_x_countSeen [x1, x1, x2] S4) (fun v5 S5 => ((0, [v5]), S5))))) else ((4, []), S3))))))))))
  | _ => ((0, []), S)
theorem zE125 {x1 x2 x3 : Int} {S : ZS} : z_ev (z_F zT125) 20 zP125_0 [x1, x2, x3] S = f_x_see [x1, x2, x3] S := by
  simp -implicitDefEqProofs only [zP125_0, zF125_31, zF125_52, zF125_53, zF125_145, zF125_146, zF125_148, zF125_157, pF_Grid_stateOf, pF_Juror_sawAnother, Nat.zero_add, Nat.reduceAdd, Nat.reduceBEq, Int.reduceToNat, z_e0, z_e1, z_e2, z_e3, z_e4, z_e5, z_e6, z_e7, z_e8, z_e11, z_e13, o_v0, o_v1, o_v2, List.cons_append, List.nil_append, List.map_cons, List.map_nil, List.drop_succ_cons, List.drop_zero, List.take_succ_cons, List.take_zero, e_c0, e_c1, e_c2, e_c3, e_c4, e_c5, e_b0, e_b1, e_b2, e_b3, e_b4, e_b5, e_b6, e_b7, e_b8, e_b9, e_b10, e_b11, e_b12, e_b13, e_b14, e_b15, e_b16, e_b17, e_n0, e_bnd, e_un]
  try rfl
theorem zM125 : z_met 125 3 [(2, (0, 0), (0, 0)), (0, (1, 0), (0, 0)), (0, (2, 0), (0, 0)), (0, (3, 0), (0, 0))] f_x_see := z_met_ev zH125 (fun _ _ h => absurd h List.not_mem_nil) rfl zG125 (by decide +kernel) (fun L S hn => match L, hn with
  | [x1, x2, x3], _ => zE125)
def zW125 : List Nat := [r_Juror_lastHour, r_Juror_lastShow, r_Juror_hasSeen]
theorem zK125 : z_kp 3 zW125 f_x_see := z_kp_ev (KT := [(31, 1, zW31), (52, 4, zW52), (53, 5, zW53), (145, 1, zW145), (146, 2, zW146), (148, 1, zW148), (157, 3, zW157)]) (.c zF125_31 zK31 (.c zF125_52 zK52 (.c zF125_53 zK53 (.c zF125_145 zK145 (.c zF125_146 zK146 (.c zF125_148 zK148 (.c zF125_157 zK157 .n))))))) (z_h163 rfl) (by decide +kernel) (fun L S hn => match L, hn with
  | [x1, x2, x3], _ => zE125)

-- w_see (290)
noncomputable def zT290 : ZT := [(125, 3, [(2, (0, 0), (0, 0)), (0, (1, 0), (0, 0)), (0, (2, 0), (0, 0)), (0, (3, 0), (0, 0))], f_x_see)]
theorem zH290 : z_ok zT290 := .c zM125 .n
theorem zF290_125 : z_F zT290 125 = f_x_see := id rfl
def zP290_0 : List ZO := [(11, [(125, 0), (2, 0), (0, 2), (3, 3), (1, 0), (2, 0), (3, 0)]), (6, [(6976, 0), (0, 0), (0, 0), (0, 0), (0, 0), (4, 0)]), (0, [(0, 0)]), (0, [(0, 1)]), (0, [(0, 2)])]
def zC290 : ZC := [(0, 3, [some (2, (0, 0), (0, 0)), some (0, (1, 0), (0, 0)), some (0, (2, 0), (0, 0)), some (0, (3, 0), (0, 0)), some (111, (0, 0), (0, 0)), none])]
theorem zG290 : z_go zC290 (z_A zT290) [] 290 400 true 6 zP290_0 0 [some (2, (0, 0), (0, 0)), some (0, (1, 0), (0, 0)), some (0, (2, 0), (0, 0)), some (0, (3, 0), (0, 0)), some (111, (0, 0), (0, 0)), none] [] 3 = true := by decide +kernel
noncomputable def f_w_see : ZFn := fun L S => match L with
  | [x1, x2, x3] => (e_try (f_x_see [x1, x2, x3] S) (fun v1 S1 => ((0, [0]), (e_upd S1 r_out 0 0 0 v1))) [(0, 1), (3, 2)])
  | _ => ((0, []), S)
theorem zE290 {x1 x2 x3 : Int} {S : ZS} : z_ev (z_F zT290) 6 zP290_0 [x1, x2, x3] S = f_w_see [x1, x2, x3] S := id rfl
theorem zM290 : z_met 290 3 [(2, (0, 0), (0, 0)), (0, (1, 0), (0, 0)), (0, (2, 0), (0, 0)), (0, (3, 0), (0, 0)), (111, (0, 0), (0, 0))] f_w_see := z_met_ev zH290 (fun _ _ h => absurd h List.not_mem_nil) rfl zG290 (by decide +kernel) (fun L S hn => match L, hn with
  | [x1, x2, x3], _ => zE290)
def zW290 : List Nat := [r_Juror_lastHour, r_Juror_lastShow, r_Juror_hasSeen, r_out]
theorem zK290 : z_kp 3 zW290 f_w_see := z_kp_ev (KT := [(125, 3, zW125)]) (.c zF290_125 zK125 .n) (z_h163 rfl) (by decide +kernel) (fun L S hn => match L, hn with
  | [x1, x2, x3], _ => zE290)

-- m_isNoJuror (232)
def zT232 : ZT := [(164, 3, [(0, (1, 0), (0, 0)), (0, (2, 0), (0, 0)), (0, (3, 0), (0, 0))], f_m_isIn), (186, 1, [(52, (0, 0), (0, 0)), (0, (1, 0), (0, 0))], f_m_isNoSection)]
theorem zH232 : z_ok zT232 := .c zM164 (.c zM186 .n)
theorem zF232_164 : z_F zT232 164 = f_m_isIn := id rfl
theorem zF232_186 : z_F zT232 186 = f_m_isNoSection := id rfl
def zP232_0 : List ZO := [(7, [(186, 0), (1, 0)]), (3, [(1, 0), (1, 0), (3, 0), (0, 0)]), (0, [(0, 1)]), (5, [(5696, 0), (0, 0), (0, 0), (1, 0)]), (4, [(1, 0), (4, 0), (0, 1)]), (7, [(164, 0), (2, 0), (0, 0), (5, 0)]), (3, [(1, 0), (1, 0), (6, 0), (0, 0)]), (0, [(0, 0)]), (0, [(0, 1)])]
def zC232 : ZC := [(0, 2, [some (52, (0, 0), (0, 0)), some (0, (1, 0), (0, 0)), some (0, (2, 0), (0, 0))])]
theorem zG232 : z_go zC232 (z_A zT232) [] 232 400 true 10 zP232_0 0 [some (52, (0, 0), (0, 0)), some (0, (1, 0), (0, 0)), some (0, (2, 0), (0, 0))] [] 2 = true := by decide +kernel
def v_m_isNoJuror (x1 x2 : Int) (S : ZS) : Int := (bif !decide ((v_m_isNoSection x1 S) = 0) then 1 else (bif !decide ((v_m_isIn x2 0 (e_wr ((S r_m_jurorMany 0 0 x1) - 1)) S) = 0) then 0 else 1))
def f_m_isNoJuror : ZFn := fun L S => match L with
  | [x1, x2] => ((0, [v_m_isNoJuror x1 x2 S]), S)
  | _ => ((0, []), S)
theorem pF_m_isNoJuror {x1 x2 : Int} {S : ZS} : f_m_isNoJuror [x1, x2] S = ((0, [v_m_isNoJuror x1 x2 S]), S) := id rfl
theorem zE232a {x1 x2 : Int} {S : ZS} : z_ev (z_F zT232) 10 zP232_0 [x1, x2] S = (bif !decide ((v_m_isNoSection x1 S) = 0) then ((0, [1]), S) else (bif !decide ((v_m_isIn x2 0 (e_wr ((S r_m_jurorMany 0 0 x1) - 1)) S) = 0) then ((0, [0]), S) else ((0, [1]), S))) := id rfl
theorem zE232 {x1 x2 : Int} {S : ZS} : z_ev (z_F zT232) 10 zP232_0 [x1, x2] S = f_m_isNoJuror [x1, x2] S := zE232a.trans (by
  simp only [z_cv]
  rfl)
theorem zM232 : z_met 232 2 [(52, (0, 0), (0, 0)), (0, (1, 0), (0, 0)), (0, (2, 0), (0, 0))] f_m_isNoJuror := z_met_ev zH232 (fun _ _ h => absurd h List.not_mem_nil) rfl zG232 (by decide +kernel) (fun L S hn => match L, hn with
  | [x1, x2], _ => zE232)
def zW232 : List Nat := []
theorem zK232 : z_kp 2 zW232 f_m_isNoJuror := z_kp_ev (KT := [(164, 3, zW164), (186, 1, zW186)]) (.c zF232_164 zK164 (.c zF232_186 zK186 .n)) (z_h163 rfl) (by decide +kernel) (fun L S hn => match L, hn with
  | [x1, x2], _ => zE232)

-- m_see (233)
def zT233 : ZT := [(163, 2, [(52, (0, 0), (0, 0)), (0, (1, 0), (0, 0)), (0, (2, 0), (0, 0))], f_m_isThrown), (204, 1, [(52, (0, 0), (0, 0)), (0, (1, 0), (0, 0))], f_m_stateOf), (212, 1, [(52, (0, 0), (0, 0)), (0, (1, 0), (0, 0))], f_m_isNoShow), (232, 2, [(52, (0, 0), (0, 0)), (0, (1, 0), (0, 0)), (0, (2, 0), (0, 0))], f_m_isNoJuror)]
theorem zH233 : z_ok zT233 := .c zM163 (.c zM204 (.c zM212 (.c zM232 .n)))
theorem zF233_163 : z_F zT233 163 = f_m_isThrown := id rfl
theorem zF233_204 : z_F zT233 204 = f_m_stateOf := id rfl
theorem zF233_212 : z_F zT233 212 = f_m_isNoShow := id rfl
theorem zF233_232 : z_F zT233 232 = f_m_isNoJuror := id rfl
def zP233_0 : List ZO := [(7, [(232, 0), (1, 0), (2, 0)]), (3, [(1, 0), (2, 0), (4, 0), (0, 0)]), (13, [(163, 0), (0, 0), (0, 1), (0, 1)]), (0, [(0, 0)]), (7, [(212, 0), (3, 0)]), (3, [(0, 0), (30, 0), (5, 0), (0, 0)]), (13, [(163, 0), (0, 0), (0, 0), (0, 1)]), (7, [(204, 0), (3, 0)]), (3, [(1, 0), (2, 0), (6, 0), (0, 110)]), (13, [(163, 0), (0, 0), (0, 1), (0, 2)]), (0, [(0, 0)]), (5, [(4928, 0), (0, 0), (0, 0), (3, 0)]), (5, [(3520, 0), (0, 0), (0, 0), (7, 0)]), (3, [(1, 0), (2, 0), (8, 0), (1, 0)]), (13, [(163, 0), (0, 0), (0, 1), (0, 2)]), (0, [(0, 0)]), (5, [(3254, 0), (0, 0), (0, 0), (0, 0)]), (5, [(6208, 0), (1, 0), (2, 0), (9, 0)]), (3, [(2, 0), (6, 0), (10, 0), (0, 0)]), (13, [(163, 0), (0, 0), (0, 0), (0, 2)]), (5, [(3254, 0), (0, 0), (0, 0), (0, 0)]), (6, [(6208, 0), (0, 0), (1, 0), (2, 0), (11, 0), (3, 0)]), (5, [(4928, 0), (0, 0), (0, 0), (3, 0)]), (6, [(6016, 0), (1, 0), (1, 0), (2, 0), (12, 0), (0, 1)]), (2, [(145, 0), (1, 0), (2, 0), (0, 0), (0, 0)]), (5, [(3254, 0), (0, 0), (0, 0), (0, 0)]), (5, [(6208, 0), (1, 0), (2, 0), (11, 0)]), (3, [(0, 0), (6, 0), (12, 0), (3, 0)]), (13, [(163, 0), (0, 0), (0, 0), (0, 2)]), (5, [(3254, 0), (0, 0), (0, 0), (0, 0)]), (6, [(6208, 0), (0, 0), (1, 0), (2, 0), (13, 0), (3, 0)]), (5, [(4928, 0), (0, 0), (0, 0), (3, 0)]), (6, [(6016, 0), (1, 0), (1, 0), (2, 0), (14, 0), (0, 1)]), (2, [(145, 0), (1, 0), (2, 0), (0, 0), (0, 0)]), (13, [(163, 0), (0, 0), (0, 1), (0, 2)]), (0, [(0, 0)]), (13, [(163, 0), (0, 0), (0, 1), (0, 1)]), (0, [(0, 0)])]
def zP233_145 : List ZO := [(5, [(3244, 0), (0, 0), (0, 0), (0, 0)]), (3, [(3, 0), (1, 0), (4, 0), (5, 0)]), (0, [(3, 0)]), (5, [(3520, 0), (0, 0), (0, 0), (4, 0)]), (3, [(1, 0), (3, 0), (6, 0), (1, 0)]), (4, [(0, 0), (3, 0), (0, 0)]), (4, [(0, 0), (4, 0), (0, 1)]), (2, [(145, 0), (1, 0), (2, 0), (7, 0), (8, 0)]), (5, [(6016, 0), (1, 0), (2, 0), (4, 0)]), (3, [(0, 0), (3, 0), (7, 0), (0, 0)]), (4, [(0, 0), (3, 0), (0, 0)]), (4, [(0, 0), (4, 0), (0, 1)]), (2, [(145, 0), (1, 0), (2, 0), (8, 0), (9, 0)]), (4, [(0, 0), (3, 0), (0, 1)]), (4, [(0, 0), (4, 0), (0, 1)]), (2, [(145, 0), (1, 0), (2, 0), (8, 0), (9, 0)])]
def zD233 : ZD := [(0, 3, [some (52, (0, 0), (0, 0)), some (0, (1, 0), (0, 0)), some (0, (2, 0), (0, 0)), some (0, (3, 0), (0, 0)), none, none, none, none], 39, zP233_0), (145, 4, [some (52, (0, 0), (0, 0)), some (0, (1, 0), (0, 0)), some (0, (2, 0), (0, 0)), none, none, none, some (0, (3, 0), (0, 0)), some (0, (4, 0), (0, 0))], 17, zP233_145)]
theorem zG233 : z_chk zT233 [(163, 0)] 233 zD233 = true := by decide +kernel
noncomputable def g_m_see (R : ZR) : ZR := z_psi (z_st (z_F zT233) zD233) R
noncomputable def f_m_see : ZFn := fun L S => g_m_see ((1000, L), S)
theorem zM233 : z_met 233 3 [(52, (0, 0), (0, 0)), (0, (1, 0), (0, 0)), (0, (2, 0), (0, 0)), (0, (3, 0), (0, 0))] f_m_see := z_met_psi zH233 (fun _ _ h => by rw [List.mem_singleton] at h; cases h; exact fun _ _ => rfl) rfl zG233
theorem zE233_0 {x1 x2 x3 : Int} {S : ZS} : z_st (z_F zT233) zD233 0 [x1, x2, x3] S = (bif !decide ((v_m_isNoJuror x1 x2 S) = 0) then ((0, [0]), (e_upd S r_m_thrown 0 0 0 1)) else (bif decide ((v_m_isNoShow x3 S) = 0) then (bif !decide ((v_m_stateOf x3 (e_upd S r_m_thrown 0 0 0 0)) = 110) then ((0, [0]), (e_upd (e_upd S r_m_thrown 0 0 0 0) r_m_thrown 0 0 0 2)) else (bif !decide ((S r_m_sections 0 0 (S r_m_showFilms 0 0 x3)) = x1) then ((0, [0]), (e_upd (e_upd S r_m_thrown 0 0 0 0) r_m_thrown 0 0 0 2)) else (bif decide ((S r_m_sawAt_r_r x1 x2 (S r_m_hour 0 0 0)) < 0) then ((1145, [x1, x2, 0, 0]), (e_upd (e_upd (e_upd (e_upd S r_m_thrown 0 0 0 0) r_m_thrown 0 0 0 0) r_m_sawAt_r_r x1 x2 (S r_m_hour 0 0 0) x3) r_m_haveSeen_r_r x1 x2 (S r_m_showFilms 0 0 x3) (e_nar 1 1))) else (bif decide ((S r_m_sawAt_r_r x1 x2 (S r_m_hour 0 0 0)) = x3) then ((1145, [x1, x2, 0, 0]), (e_upd (e_upd (e_upd (e_upd S r_m_thrown 0 0 0 0) r_m_thrown 0 0 0 0) r_m_sawAt_r_r x1 x2 (S r_m_hour 0 0 0) x3) r_m_haveSeen_r_r x1 x2 (S r_m_showFilms 0 0 x3) (e_nar 1 1))) else ((0, [0]), (e_upd (e_upd S r_m_thrown 0 0 0 0) r_m_thrown 0 0 0 2)))))) else ((0, [0]), (e_upd S r_m_thrown 0 0 0 1)))) := (id rfl : z_st (z_F zT233) zD233 0 [x1, x2, x3] S = z_ev (z_F zT233) 39 zP233_0 [x1, x2, x3] S).trans (by
  simp -implicitDefEqProofs only [zP233_0, zF233_163, zF233_204, zF233_212, zF233_232, zpI0, zpI1, zpIc, pF_m_stateOf, pF_m_isNoShow, pF_m_isNoJuror, Nat.zero_add, Nat.reduceAdd, Nat.reduceBEq, Int.reduceToNat, z_e0, z_e1, z_e2, z_e3, z_e4, z_e5, z_e6, z_e7, z_e8, z_e11, z_e13, o_v0, o_v1, o_v2, List.cons_append, List.nil_append, List.map_cons, List.map_nil, List.drop_succ_cons, List.drop_zero, List.take_succ_cons, List.take_zero, e_c0, e_c1, e_c2, e_c3, e_c4, e_c5, e_b0, e_b1, e_b2, e_b3, e_b4, e_b5, e_b6, e_b7, e_b8, e_b9, e_b10, e_b11, e_b12, e_b13, e_b14, e_b15, e_b16, e_b17, e_n0, e_bnd, e_un]
  try rfl)
theorem g_m_see_0 {x1 x2 x3 : Int} {S : ZS} : g_m_see ((1000, [x1, x2, x3]), S) = (bif !decide ((v_m_isNoJuror x1 x2 S) = 0) then ((0, [0]), (e_upd S r_m_thrown 0 0 0 1)) else (bif decide ((v_m_isNoShow x3 S) = 0) then (bif !decide ((v_m_stateOf x3 (e_upd S r_m_thrown 0 0 0 0)) = 110) then ((0, [0]), (e_upd (e_upd S r_m_thrown 0 0 0 0) r_m_thrown 0 0 0 2)) else (bif !decide ((S r_m_sections 0 0 (S r_m_showFilms 0 0 x3)) = x1) then ((0, [0]), (e_upd (e_upd S r_m_thrown 0 0 0 0) r_m_thrown 0 0 0 2)) else (bif decide ((S r_m_sawAt_r_r x1 x2 (S r_m_hour 0 0 0)) < 0) then (g_m_see ((1145, [x1, x2, 0, 0]), (e_upd (e_upd (e_upd (e_upd S r_m_thrown 0 0 0 0) r_m_thrown 0 0 0 0) r_m_sawAt_r_r x1 x2 (S r_m_hour 0 0 0) x3) r_m_haveSeen_r_r x1 x2 (S r_m_showFilms 0 0 x3) (e_nar 1 1)))) else (bif decide ((S r_m_sawAt_r_r x1 x2 (S r_m_hour 0 0 0)) = x3) then (g_m_see ((1145, [x1, x2, 0, 0]), (e_upd (e_upd (e_upd (e_upd S r_m_thrown 0 0 0 0) r_m_thrown 0 0 0 0) r_m_sawAt_r_r x1 x2 (S r_m_hour 0 0 0) x3) r_m_haveSeen_r_r x1 x2 (S r_m_showFilms 0 0 x3) (e_nar 1 1)))) else ((0, [0]), (e_upd (e_upd S r_m_thrown 0 0 0 0) r_m_thrown 0 0 0 2)))))) else ((0, [0]), (e_upd S r_m_thrown 0 0 0 1)))) := by
  unfold g_m_see
  refine ((z_psi_go (pc := 0)).trans (congrArg _ zE233_0)).trans ?_
  try simp only [z_psi_c, z_psi_b, z_psi_n, Nat.reduceLT, decide_true]
theorem zE233_145 {x1 x2 x3 x4 : Int} {S : ZS} : z_st (z_F zT233) zD233 145 [x1, x2, x3, x4] S = (bif decide ((S r_m_films 0 0 0) ≤ x4) then ((0, [x3]), S) else (bif !decide ((S r_m_sections 0 0 x4) = x1) then ((1145, [x1, x2, (e_wr (x3 + 0)), (e_wr (x4 + 1))]), S) else (bif decide ((S r_m_haveSeen_r_r x1 x2 x4) = 0) then ((1145, [x1, x2, (e_wr (x3 + 0)), (e_wr (x4 + 1))]), S) else ((1145, [x1, x2, (e_wr (x3 + 1)), (e_wr (x4 + 1))]), S)))) := (id rfl : z_st (z_F zT233) zD233 145 [x1, x2, x3, x4] S = z_ev (z_F zT233) 17 zP233_145 [x1, x2, x3, x4] S).trans (by
  simp -implicitDefEqProofs only [zP233_145, zF233_163, zF233_204, zF233_212, zF233_232, zpI0, zpI1, zpIc, pF_m_stateOf, pF_m_isNoShow, pF_m_isNoJuror, Nat.zero_add, Nat.reduceAdd, Nat.reduceBEq, Int.reduceToNat, z_e0, z_e1, z_e2, z_e3, z_e4, z_e5, z_e6, z_e7, z_e8, z_e11, z_e13, o_v0, o_v1, o_v2, List.cons_append, List.nil_append, List.map_cons, List.map_nil, List.drop_succ_cons, List.drop_zero, List.take_succ_cons, List.take_zero, e_c0, e_c1, e_c2, e_c3, e_c4, e_c5, e_b0, e_b1, e_b2, e_b3, e_b4, e_b5, e_b6, e_b7, e_b8, e_b9, e_b10, e_b11, e_b12, e_b13, e_b14, e_b15, e_b16, e_b17, e_n0, e_bnd, e_un]
  try rfl)
theorem g_m_see_145 {x1 x2 x3 x4 : Int} {S : ZS} : g_m_see ((1145, [x1, x2, x3, x4]), S) = (bif decide ((S r_m_films 0 0 0) ≤ x4) then ((0, [x3]), S) else (bif !decide ((S r_m_sections 0 0 x4) = x1) then (g_m_see ((1145, [x1, x2, (e_wr (x3 + 0)), (e_wr (x4 + 1))]), S)) else (bif decide ((S r_m_haveSeen_r_r x1 x2 x4) = 0) then (g_m_see ((1145, [x1, x2, (e_wr (x3 + 0)), (e_wr (x4 + 1))]), S)) else (g_m_see ((1145, [x1, x2, (e_wr (x3 + 1)), (e_wr (x4 + 1))]), S))))) := by
  unfold g_m_see
  refine ((z_psi_go (pc := 145)).trans (congrArg _ zE233_145)).trans ?_
  try simp only [z_psi_c, z_psi_b, z_psi_n, Nat.reduceLT, decide_true]
def zW233 : List Nat := [r_m_thrown, r_m_haveSeen_r_r, r_m_sawAt_r_r]
theorem zK233 : z_kp 3 zW233 f_m_see := fun L S hL hc r i j k hr => z_psi_kp (KT := [(163, 2, zW163), (204, 1, zW204), (212, 1, zW212), (232, 2, zW232)]) (F := z_F zT233) (W := zW233) (D := zD233) (.c zF233_163 zK163 (.c zF233_204 zK204 (.c zF233_212 zK212 (.c zF233_232 zK232 .n)))) (fun _ _ => Or.inl rfl) (by decide +kernel) _ hc r i j k hr

-- x_type (126)
def zT126 : ZT := [(143, 1, [(2, (0, 0), (0, 0)), (0, (1, 0), (0, 0))], f_x_checkFilm)]
theorem zH126 : z_ok zT126 := .c zM143 .n
theorem zF126_143 : z_F zT126 143 = f_x_checkFilm := id rfl
def zP126_0 : List ZO := [(7, [(143, 0), (1, 0)]), (5, [(12, 0), (0, 0), (0, 0), (0, 0)]), (3, [(2, 0), (7, 0), (3, 0), (0, 9)]), (5, [(12, 0), (0, 0), (0, 0), (0, 0)]), (6, [(3008, 0), (0, 0), (0, 0), (0, 0), (4, 0), (1, 0)]), (5, [(12, 0), (0, 0), (0, 0), (0, 0)]), (4, [(0, 0), (5, 0), (0, 1)]), (6, [(12, 0), (0, 0), (0, 0), (0, 0), (0, 0), (6, 0)]), (5, [(12, 0), (0, 0), (0, 0), (0, 0)]), (0, [(7, 0)]), (1, [(2, 0)])]
def zC126 : ZC := [(0, 1, [some (2, (0, 0), (0, 0)), some (0, (1, 0), (0, 0))])]
theorem zG126 : z_go zC126 (z_A zT126) [] 126 400 true 12 zP126_0 0 [some (2, (0, 0), (0, 0)), some (0, (1, 0), (0, 0))] [] 1 = true := by decide +kernel
def f_x_type : ZFn := fun L S => match L with
  | [x1] => (e_bind (f_x_checkFilm [x1] S) (fun v1 S1 => (bif decide ((S1 r_x_typedCount 0 0 0) < 9) then ((0, [((e_upd (e_upd S1 r_x_typed 0 0 (S1 r_x_typedCount 0 0 0) x1) r_x_typedCount 0 0 0 (e_wr ((S1 r_x_typedCount 0 0 0) + 1))) r_x_typedCount 0 0 0)]), (e_upd (e_upd S1 r_x_typed 0 0 (S1 r_x_typedCount 0 0 0) x1) r_x_typedCount 0 0 0 (e_wr ((S1 r_x_typedCount 0 0 0) + 1)))) else ((3, []), S1))))
  | _ => ((0, []), S)
theorem zE126 {x1 : Int} {S : ZS} : z_ev (z_F zT126) 12 zP126_0 [x1] S = f_x_type [x1] S := id rfl
theorem zM126 : z_met 126 1 [(2, (0, 0), (0, 0)), (0, (1, 0), (0, 0))] f_x_type := z_met_ev zH126 (fun _ _ h => absurd h List.not_mem_nil) rfl zG126 (by decide +kernel) (fun L S hn => match L, hn with
  | [x1], _ => zE126)
def zW126 : List Nat := [r_x_typedCount, r_x_typed]
theorem zK126 : z_kp 1 zW126 f_x_type := z_kp_ev (KT := [(143, 1, zW143)]) (.c zF126_143 zK143 .n) (z_h163 rfl) (by decide +kernel) (fun L S hn => match L, hn with
  | [x1], _ => zE126)

-- w_type (291)
def zT291 : ZT := [(126, 1, [(2, (0, 0), (0, 0)), (0, (1, 0), (0, 0))], f_x_type)]
theorem zH291 : z_ok zT291 := .c zM126 .n
theorem zF291_126 : z_F zT291 126 = f_x_type := id rfl
def zP291_0 : List ZO := [(11, [(126, 0), (2, 0), (0, 2), (2, 3), (1, 0)]), (6, [(6976, 0), (0, 0), (0, 0), (0, 0), (0, 0), (2, 0)]), (0, [(0, 0)]), (0, [(0, 1)]), (0, [(0, 2)])]
def zC291 : ZC := [(0, 1, [some (2, (0, 0), (0, 0)), some (0, (1, 0), (0, 0)), some (111, (0, 0), (0, 0)), none])]
theorem zG291 : z_go zC291 (z_A zT291) [] 291 400 true 6 zP291_0 0 [some (2, (0, 0), (0, 0)), some (0, (1, 0), (0, 0)), some (111, (0, 0), (0, 0)), none] [] 1 = true := by decide +kernel
def f_w_type : ZFn := fun L S => match L with
  | [x1] => (e_try (f_x_type [x1] S) (fun v1 S1 => ((0, [0]), (e_upd S1 r_out 0 0 0 v1))) [(0, 1), (2, 2)])
  | _ => ((0, []), S)
theorem zE291 {x1 : Int} {S : ZS} : z_ev (z_F zT291) 6 zP291_0 [x1] S = f_w_type [x1] S := id rfl
theorem zM291 : z_met 291 1 [(2, (0, 0), (0, 0)), (0, (1, 0), (0, 0)), (111, (0, 0), (0, 0))] f_w_type := z_met_ev zH291 (fun _ _ h => absurd h List.not_mem_nil) rfl zG291 (by decide +kernel) (fun L S hn => match L, hn with
  | [x1], _ => zE291)
def zW291 : List Nat := [r_x_typedCount, r_x_typed, r_out]
theorem zK291 : z_kp 1 zW291 f_w_type := z_kp_ev (KT := [(126, 1, zW126)]) (.c zF291_126 zK126 .n) (z_h163 rfl) (by decide +kernel) (fun L S hn => match L, hn with
  | [x1], _ => zE291)

-- m_type (234)
def zT234 : ZT := [(163, 2, [(52, (0, 0), (0, 0)), (0, (1, 0), (0, 0)), (0, (2, 0), (0, 0))], f_m_isThrown), (166, 1, [(52, (0, 0), (0, 0)), (0, (1, 0), (0, 0))], f_m_isNoFilm)]
theorem zH234 : z_ok zT234 := .c zM163 (.c zM166 .n)
theorem zF234_163 : z_F zT234 163 = f_m_isThrown := id rfl
theorem zF234_166 : z_F zT234 166 = f_m_isNoFilm := id rfl
def zP234_0 : List ZO := [(7, [(166, 0), (1, 0)]), (13, [(163, 0), (0, 0), (2, 0), (0, 1)]), (3, [(1, 0), (1, 0), (2, 0), (0, 0)]), (0, [(0, 0)]), (5, [(3251, 0), (0, 0), (0, 0), (0, 0)]), (3, [(1, 0), (8, 0), (3, 0), (0, 9)]), (13, [(163, 0), (0, 0), (0, 0), (0, 2)]), (5, [(3251, 0), (0, 0), (0, 0), (0, 0)]), (6, [(6592, 0), (0, 0), (0, 0), (0, 0), (4, 0), (1, 0)]), (5, [(3251, 0), (0, 0), (0, 0), (0, 0)]), (4, [(0, 0), (5, 0), (0, 1)]), (6, [(3251, 0), (0, 0), (0, 0), (0, 0), (0, 0), (6, 0)]), (5, [(3251, 0), (0, 0), (0, 0), (0, 0)]), (0, [(7, 0)]), (13, [(163, 0), (0, 0), (0, 1), (0, 2)]), (0, [(0, 0)])]
def zC234 : ZC := [(0, 1, [some (52, (0, 0), (0, 0)), some (0, (1, 0), (0, 0))])]
theorem zG234 : z_go zC234 (z_A zT234) [(163, 0)] 234 400 true 17 zP234_0 0 [some (52, (0, 0), (0, 0)), some (0, (1, 0), (0, 0))] [] 1 = true := by decide +kernel
def f_m_type : ZFn := fun L S => match L with
  | [x1] => (bif !decide ((v_m_isNoFilm x1 S) = 0) then ((0, [0]), (e_upd S r_m_thrown 0 0 0 (bif !decide ((v_m_isNoFilm x1 S) = 0) then 1 else 0))) else (bif !decide ((S r_m_typedMany 0 0 0) = 9) then ((0, [((e_upd (e_upd (e_upd (e_upd S r_m_thrown 0 0 0 (bif !decide ((v_m_isNoFilm x1 S) = 0) then 1 else 0)) r_m_thrown 0 0 0 0) r_m_typed 0 0 (S r_m_typedMany 0 0 0) x1) r_m_typedMany 0 0 0 (e_wr ((S r_m_typedMany 0 0 0) + 1))) r_m_typedMany 0 0 0)]), (e_upd (e_upd (e_upd (e_upd S r_m_thrown 0 0 0 (bif !decide ((v_m_isNoFilm x1 S) = 0) then 1 else 0)) r_m_thrown 0 0 0 0) r_m_typed 0 0 (S r_m_typedMany 0 0 0) x1) r_m_typedMany 0 0 0 (e_wr ((S r_m_typedMany 0 0 0) + 1)))) else ((0, [0]), (e_upd (e_upd S r_m_thrown 0 0 0 (bif !decide ((v_m_isNoFilm x1 S) = 0) then 1 else 0)) r_m_thrown 0 0 0 2))))
  | _ => ((0, []), S)
theorem zE234 {x1 : Int} {S : ZS} : z_ev (z_F zT234) 17 zP234_0 [x1] S = f_m_type [x1] S := by
  simp -implicitDefEqProofs only [zP234_0, zF234_163, zF234_166, zpI0, zpI1, zpIc, pF_m_isNoFilm, Nat.zero_add, Nat.reduceAdd, Nat.reduceBEq, Int.reduceToNat, z_e0, z_e1, z_e2, z_e3, z_e4, z_e5, z_e6, z_e7, z_e8, z_e11, z_e13, o_v0, o_v1, o_v2, List.cons_append, List.nil_append, List.map_cons, List.map_nil, List.drop_succ_cons, List.drop_zero, List.take_succ_cons, List.take_zero, e_c0, e_c1, e_c2, e_c3, e_c4, e_c5, e_b0, e_b1, e_b2, e_b3, e_b4, e_b5, e_b6, e_b7, e_b8, e_b9, e_b10, e_b11, e_b12, e_b13, e_b14, e_b15, e_b16, e_b17, e_n0, e_bnd, e_un]
  try rfl
theorem zM234 : z_met 234 1 [(52, (0, 0), (0, 0)), (0, (1, 0), (0, 0))] f_m_type := z_met_ev zH234 (fun _ _ h => by rw [List.mem_singleton] at h; cases h; exact fun _ _ => rfl) rfl zG234 (by decide +kernel) (fun L S hn => match L, hn with
  | [x1], _ => zE234)
def zW234 : List Nat := [r_m_typedMany, r_m_thrown, r_m_typed]
theorem zK234 : z_kp 1 zW234 f_m_type := z_kp_ev (KT := [(163, 2, zW163), (166, 1, zW166)]) (.c zF234_163 zK163 (.c zF234_166 zK166 .n)) (fun _ _ => Or.inl rfl) (by decide +kernel) (fun L S hn => match L, hn with
  | [x1], _ => zE234)

-- x_wipe (127)
def zT127 : ZT := []
theorem zH127 : z_ok zT127 := .n
def zP127_0 : List ZO := [(5, [(12, 0), (0, 0), (0, 0), (0, 0)]), (6, [(12, 0), (0, 0), (0, 0), (0, 0), (0, 0), (0, 0)]), (0, [(1, 0)])]
def zC127 : ZC := [(0, 0, [some (2, (0, 0), (0, 0)), none])]
theorem zG127 : z_go zC127 (z_A zT127) [] 127 400 true 4 zP127_0 0 [some (2, (0, 0), (0, 0)), none] [] 0 = true := by decide +kernel
def f_x_wipe : ZFn := fun L S => match L with
  | [] => ((0, [(S r_x_typedCount 0 0 0)]), (e_upd S r_x_typedCount 0 0 0 0))
  | _ => ((0, []), S)
theorem zE127 {S : ZS} : z_ev (z_F zT127) 4 zP127_0 [] S = f_x_wipe [] S := id rfl
theorem zM127 : z_met 127 0 [(2, (0, 0), (0, 0))] f_x_wipe := z_met_ev zH127 (fun _ _ h => absurd h List.not_mem_nil) rfl zG127 (by decide +kernel) (fun L S hn => match L, hn with
  | [], _ => zE127)
def zW127 : List Nat := [r_x_typedCount]
theorem zK127 : z_kp 0 zW127 f_x_wipe := z_kp_ev (KT := []) (.n) (z_h163 rfl) (by decide +kernel) (fun L S hn => match L, hn with
  | [], _ => zE127)

-- m_wipe (235)
def zT235 : ZT := []
theorem zH235 : z_ok zT235 := .n
def zP235_0 : List ZO := [(6, [(3255, 0), (0, 0), (0, 0), (0, 0), (0, 0), (0, 0)]), (5, [(3251, 0), (0, 0), (0, 0), (0, 0)]), (6, [(3251, 0), (0, 0), (0, 0), (0, 0), (0, 0), (0, 0)]), (0, [(1, 0)])]
def zC235 : ZC := [(0, 0, [some (52, (0, 0), (0, 0)), none])]
theorem zG235 : z_go zC235 (z_A zT235) [] 235 400 true 5 zP235_0 0 [some (52, (0, 0), (0, 0)), none] [] 0 = true := by decide +kernel
def f_m_wipe : ZFn := fun L S => match L with
  | [] => ((0, [(S r_m_typedMany 0 0 0)]), (e_upd (e_upd S r_m_thrown 0 0 0 0) r_m_typedMany 0 0 0 0))
  | _ => ((0, []), S)
theorem zE235 {S : ZS} : z_ev (z_F zT235) 5 zP235_0 [] S = f_m_wipe [] S := id rfl
theorem zM235 : z_met 235 0 [(52, (0, 0), (0, 0))] f_m_wipe := z_met_ev zH235 (fun _ _ h => absurd h List.not_mem_nil) rfl zG235 (by decide +kernel) (fun L S hn => match L, hn with
  | [], _ => zE235)
def zW235 : List Nat := [r_m_typedMany, r_m_thrown]
theorem zK235 : z_kp 0 zW235 f_m_wipe := z_kp_ev (KT := []) (.n) (z_h163 rfl) (by decide +kernel) (fun L S hn => match L, hn with
  | [], _ => zE235)

-- x_isTyped (158)
def zT158 : ZT := []
theorem zH158 : z_ok zT158 := .n
def zP158_0 : List ZO := [(2, [(2, 0), (1, 0), (0, 0)])]
def zP158_2 : List ZO := [(5, [(12, 0), (0, 0), (0, 0), (0, 0)]), (3, [(3, 0), (1, 0), (2, 0), (3, 0)]), (0, [(0, 0)]), (5, [(3008, 0), (0, 0), (0, 0), (2, 0)]), (3, [(1, 0), (2, 0), (4, 0), (1, 0)]), (4, [(0, 0), (2, 0), (0, 1)]), (2, [(2, 0), (1, 0), (5, 0)]), (0, [(0, 1)])]
def zD158 : ZD := [(0, 1, [some (2, (0, 0), (0, 0)), some (0, (1, 0), (0, 0)), none], 2, zP158_0), (2, 2, [some (2, (0, 0), (0, 0)), some (0, (1, 0), (0, 0)), some (0, (2, 0), (0, 0))], 9, zP158_2)]
theorem zG158 : z_chk zT158 [] 158 zD158 = true := by decide +kernel
noncomputable def g_x_isTyped (R : ZR) : ZR := z_psi (z_st (z_F zT158) zD158) R
noncomputable def f_x_isTyped : ZFn := fun L S => g_x_isTyped ((1000, L), S)
theorem zM158 : z_met 158 1 [(2, (0, 0), (0, 0)), (0, (1, 0), (0, 0))] f_x_isTyped := z_met_psi zH158 (fun _ _ h => absurd h List.not_mem_nil) rfl zG158
theorem zE158_0 {x1 : Int} {S : ZS} : z_st (z_F zT158) zD158 0 [x1] S = ((1002, [x1, 0]), S) := (id rfl : z_st (z_F zT158) zD158 0 [x1] S = z_ev (z_F zT158) 2 zP158_0 [x1] S).trans (id rfl)
theorem g_x_isTyped_0 {x1 : Int} {S : ZS} : g_x_isTyped ((1000, [x1]), S) = (g_x_isTyped ((1002, [x1, 0]), S)) := by
  unfold g_x_isTyped
  refine ((z_psi_go (pc := 0)).trans (congrArg _ zE158_0)).trans ?_
  try simp only [z_psi_c, z_psi_b, z_psi_n, Nat.reduceLT, decide_true]
theorem zE158_2 {x1 x2 : Int} {S : ZS} : z_st (z_F zT158) zD158 2 [x1, x2] S = (bif decide ((S r_x_typedCount 0 0 0) ≤ x2) then ((0, [0]), S) else (bif !decide ((S r_x_typed 0 0 x2) = x1) then ((1002, [x1, (e_wr (x2 + 1))]), S) else ((0, [1]), S))) := (id rfl : z_st (z_F zT158) zD158 2 [x1, x2] S = z_ev (z_F zT158) 9 zP158_2 [x1, x2] S).trans (id rfl)
theorem g_x_isTyped_2 {x1 x2 : Int} {S : ZS} : g_x_isTyped ((1002, [x1, x2]), S) = (bif decide ((S r_x_typedCount 0 0 0) ≤ x2) then ((0, [0]), S) else (bif !decide ((S r_x_typed 0 0 x2) = x1) then (g_x_isTyped ((1002, [x1, (e_wr (x2 + 1))]), S)) else ((0, [1]), S))) := by
  unfold g_x_isTyped
  refine ((z_psi_go (pc := 2)).trans (congrArg _ zE158_2)).trans ?_
  try simp only [z_psi_c, z_psi_b, z_psi_n, Nat.reduceLT, decide_true]
def zW158 : List Nat := []
theorem zK158 : z_kp 1 zW158 f_x_isTyped := fun L S hL hc r i j k hr => z_psi_kp (KT := []) (F := z_F zT158) (W := zW158) (D := zD158) (.n) (z_h163 rfl) (by decide +kernel) _ hc r i j k hr

-- x_isBallotOf (159)
noncomputable def zT159 : ZT := [(158, 1, [(2, (0, 0), (0, 0)), (0, (1, 0), (0, 0))], f_x_isTyped)]
theorem zH159 : z_ok zT159 := .c zM158 .n
theorem zF159_158 : z_F zT159 158 = f_x_isTyped := id rfl
def zP159_0 : List ZO := [(2, [(5, 0), (1, 0), (2, 0), (3, 0), (0, 0), (0, 0)])]
def zP159_5 : List ZO := [(5, [(4, 0), (0, 0), (0, 0), (0, 0)]), (3, [(3, 0), (6, 0), (5, 0), (6, 0)]), (3, [(5, 0), (1, 0), (4, 0), (0, 0)]), (0, [(0, 0)]), (5, [(12, 0), (0, 0), (0, 0), (0, 0)]), (3, [(1, 0), (1, 0), (4, 0), (7, 0)]), (0, [(0, 0)]), (0, [(0, 1)]), (5, [(195, 0), (5, 0), (0, 0), (0, 0)]), (3, [(1, 0), (2, 0), (7, 0), (1, 0)]), (4, [(0, 0), (5, 0), (0, 1)]), (2, [(5, 0), (1, 0), (2, 0), (3, 0), (4, 0), (8, 0)]), (5, [(194, 0), (5, 0), (0, 0), (0, 0)]), (5, [(1472, 0), (2, 0), (3, 0), (0, 0)]), (3, [(0, 0), (2, 0), (8, 0), (9, 0)]), (4, [(0, 0), (5, 0), (0, 1)]), (2, [(5, 0), (1, 0), (2, 0), (3, 0), (4, 0), (10, 0)]), (4, [(0, 0), (4, 0), (0, 1)]), (5, [(1536, 0), (2, 0), (3, 0), (5, 0)]), (3, [(0, 0), (1, 0), (11, 0), (0, 0)]), (0, [(0, 0)]), (7, [(158, 0), (5, 0)]), (3, [(1, 0), (2, 0), (12, 0), (0, 0)]), (4, [(0, 0), (5, 0), (0, 1)]), (2, [(5, 0), (1, 0), (2, 0), (3, 0), (10, 0), (13, 0)]), (0, [(0, 0)])]
def zD159 : ZD := [(0, 3, [some (2, (0, 0), (0, 0)), some (0, (1, 0), (0, 0)), some (25, (2, 0), (3, 0)), none, none], 2, zP159_0), (5, 5, [some (2, (0, 0), (0, 0)), some (0, (1, 0), (0, 0)), some (25, (2, 0), (3, 0)), some (0, (4, 0), (0, 0)), some (0, (5, 0), (0, 0))], 27, zP159_5)]
theorem zG159 : z_chk zT159 [] 159 zD159 = true := by decide +kernel
noncomputable def g_x_isBallotOf (R : ZR) : ZR := z_psi (z_st (z_F zT159) zD159) R
noncomputable def f_x_isBallotOf : ZFn := fun L S => g_x_isBallotOf ((1000, L), S)
theorem zM159 : z_met 159 3 [(2, (0, 0), (0, 0)), (0, (1, 0), (0, 0)), (25, (2, 0), (3, 0))] f_x_isBallotOf := z_met_psi zH159 (fun _ _ h => absurd h List.not_mem_nil) rfl zG159
theorem zE159_0 {x1 x2 x3 : Int} {S : ZS} : z_st (z_F zT159) zD159 0 [x1, x2, x3] S = ((1005, [x1, x2, x3, 0, 0]), S) := (id rfl : z_st (z_F zT159) zD159 0 [x1, x2, x3] S = z_ev (z_F zT159) 2 zP159_0 [x1, x2, x3] S).trans (id rfl)
theorem g_x_isBallotOf_0 {x1 x2 x3 : Int} {S : ZS} : g_x_isBallotOf ((1000, [x1, x2, x3]), S) = (g_x_isBallotOf ((1005, [x1, x2, x3, 0, 0]), S)) := by
  unfold g_x_isBallotOf
  refine ((z_psi_go (pc := 0)).trans (congrArg _ zE159_0)).trans ?_
  try simp only [z_psi_c, z_psi_b, z_psi_n, Nat.reduceLT, decide_true]
theorem zE159_5 {x1 x2 x3 x4 x5 : Int} {S : ZS} : z_st (z_F zT159) zD159 5 [x1, x2, x3, x4, x5] S = (bif decide ((S r_x_filmCount 0 0 0) ≤ x5) then (bif decide (x4 ≤ 0) then ((0, [0]), S) else (bif !decide (x4 = (S r_x_typedCount 0 0 0)) then ((0, [0]), S) else ((0, [1]), S))) else (bif !decide ((S r_Film_section x5 0 0) = x1) then ((1005, [x1, x2, x3, x4, (e_wr (x5 + 1))]), S) else (bif decide ((S r_Film_land x5 0 0) = (S r_Juror_land x2 x3 0)) then ((1005, [x1, x2, x3, x4, (e_wr (x5 + 1))]), S) else (bif decide ((S r_Juror_hasSeen x2 x3 x5) = 0) then ((0, [0]), S) else (e_bind (f_x_isTyped [x5] S) (fun v1 S1 => (bif !decide (v1 = 0) then ((1005, [x1, x2, x3, (e_wr (x4 + 1)), (e_wr (x5 + 1))]), S1) else ((0, [0]), S1)))))))) := (id rfl : z_st (z_F zT159) zD159 5 [x1, x2, x3, x4, x5] S = z_ev (z_F zT159) 27 zP159_5 [x1, x2, x3, x4, x5] S).trans (by
  simp -implicitDefEqProofs only [zP159_5, zF159_158, Nat.zero_add, Nat.reduceAdd, Nat.reduceBEq, Int.reduceToNat, z_e0, z_e1, z_e2, z_e3, z_e4, z_e5, z_e6, z_e7, z_e8, z_e11, z_e13, o_v0, o_v1, o_v2, List.cons_append, List.nil_append, List.map_cons, List.map_nil, List.drop_succ_cons, List.drop_zero, List.take_succ_cons, List.take_zero, e_c0, e_c1, e_c2, e_c3, e_c4, e_c5, e_b0, e_b1, e_b2, e_b3, e_b4, e_b5, e_b6, e_b7, e_b8, e_b9, e_b10, e_b11, e_b12, e_b13, e_b14, e_b15, e_b16, e_b17, e_n0, e_bnd, e_un]
  try rfl)
theorem g_x_isBallotOf_5 {x1 x2 x3 x4 x5 : Int} {S : ZS} : g_x_isBallotOf ((1005, [x1, x2, x3, x4, x5]), S) = (bif decide ((S r_x_filmCount 0 0 0) ≤ x5) then (bif decide (x4 ≤ 0) then ((0, [0]), S) else (bif !decide (x4 = (S r_x_typedCount 0 0 0)) then ((0, [0]), S) else ((0, [1]), S))) else (bif !decide ((S r_Film_section x5 0 0) = x1) then (g_x_isBallotOf ((1005, [x1, x2, x3, x4, (e_wr (x5 + 1))]), S)) else (bif decide ((S r_Film_land x5 0 0) = (S r_Juror_land x2 x3 0)) then (g_x_isBallotOf ((1005, [x1, x2, x3, x4, (e_wr (x5 + 1))]), S)) else (bif decide ((S r_Juror_hasSeen x2 x3 x5) = 0) then ((0, [0]), S) else (e_bind (f_x_isTyped [x5] S) (fun v1 S1 => (bif !decide (v1 = 0) then (g_x_isBallotOf ((1005, [x1, x2, x3, (e_wr (x4 + 1)), (e_wr (x5 + 1))]), S1)) else ((0, [0]), S1)))))))) := by
  unfold g_x_isBallotOf
  refine ((z_psi_go (pc := 5)).trans (congrArg _ zE159_5)).trans ?_
  try simp only [z_psi_c, z_psi_b, z_psi_n, Nat.reduceLT, decide_true]
def zW159 : List Nat := []
theorem zK159 : z_kp 3 zW159 f_x_isBallotOf := fun L S hL hc r i j k hr => z_psi_kp (KT := [(158, 1, zW158)]) (F := z_F zT159) (W := zW159) (D := zD159) (.c zF159_158 zK158 .n) (z_h163 rfl) (by decide +kernel) _ hc r i j k hr

-- Juror_vote (54)
def zT54 : ZT := []
theorem zH54 : z_ok zT54 := .n
def zP54_0 : List ZO := [(5, [(3071, 0), (0, 0), (0, 0), (0, 0)]), (4, [(7, 0), (4, 0), (0, 9)]), (4, [(7, 0), (3, 0), (5, 0)]), (6, [(1477, 0), (0, 0), (1, 0), (2, 0), (0, 0), (6, 0)]), (2, [(17, 0), (1, 0), (2, 0), (0, 0)])]
def zP54_17 : List ZO := [(5, [(1477, 0), (1, 0), (2, 0), (0, 0)]), (3, [(3, 0), (1, 0), (3, 0), (4, 0)]), (0, []), (5, [(3008, 0), (0, 0), (0, 0), (3, 0)]), (6, [(1600, 0), (0, 0), (1, 0), (2, 0), (3, 0), (5, 0)]), (4, [(0, 0), (3, 0), (0, 1)]), (2, [(17, 0), (1, 0), (2, 0), (6, 0)])]
def zD54 : ZD := [(0, 3, [some (25, (1, 0), (2, 0)), some (49, (0, 0), (0, 0)), some (0, (3, 0), (0, 0)), none], 6, zP54_0), (17, 3, [some (25, (1, 0), (2, 0)), some (49, (0, 0), (0, 0)), none, some (0, (3, 0), (0, 0))], 8, zP54_17)]
theorem zG54 : z_chk zT54 [] 54 zD54 = true := by decide +kernel
noncomputable def g_Juror_vote (R : ZR) : ZR := z_psi (z_st (z_F zT54) zD54) R
noncomputable def f_Juror_vote : ZFn := fun L S => g_Juror_vote ((1000, L), S)
theorem zM54 : z_met 54 3 [(25, (1, 0), (2, 0)), (49, (0, 0), (0, 0)), (0, (3, 0), (0, 0))] f_Juror_vote := z_met_psi zH54 (fun _ _ h => absurd h List.not_mem_nil) rfl zG54
theorem zE54_0 {x1 x2 x3 : Int} {S : ZS} : z_st (z_F zT54) zD54 0 [x1, x2, x3] S = ((1017, [x1, x2, 0]), (e_upd S r_Juror_ballotSize x1 x2 0 (if (if 9 < (S r_x_typed_len 0 0 0) then 9 else (S r_x_typed_len 0 0 0)) < x3 then (if 9 < (S r_x_typed_len 0 0 0) then 9 else (S r_x_typed_len 0 0 0)) else x3))) := (id rfl : z_st (z_F zT54) zD54 0 [x1, x2, x3] S = z_ev (z_F zT54) 6 zP54_0 [x1, x2, x3] S).trans (id rfl)
theorem g_Juror_vote_0 {x1 x2 x3 : Int} {S : ZS} : g_Juror_vote ((1000, [x1, x2, x3]), S) = (g_Juror_vote ((1017, [x1, x2, 0]), (e_upd S r_Juror_ballotSize x1 x2 0 (if (if 9 < (S r_x_typed_len 0 0 0) then 9 else (S r_x_typed_len 0 0 0)) < x3 then (if 9 < (S r_x_typed_len 0 0 0) then 9 else (S r_x_typed_len 0 0 0)) else x3)))) := by
  unfold g_Juror_vote
  refine ((z_psi_go (pc := 0)).trans (congrArg _ zE54_0)).trans ?_
  try simp only [z_psi_c, z_psi_b, z_psi_n, Nat.reduceLT, decide_true]
theorem zE54_17 {x1 x2 x3 : Int} {S : ZS} : z_st (z_F zT54) zD54 17 [x1, x2, x3] S = (bif decide ((S r_Juror_ballotSize x1 x2 0) ≤ x3) then ((0, []), S) else ((1017, [x1, x2, (e_wr (x3 + 1))]), (e_upd S r_Juror_ballot x1 x2 x3 (S r_x_typed 0 0 x3)))) := (id rfl : z_st (z_F zT54) zD54 17 [x1, x2, x3] S = z_ev (z_F zT54) 8 zP54_17 [x1, x2, x3] S).trans (id rfl)
theorem g_Juror_vote_17 {x1 x2 x3 : Int} {S : ZS} : g_Juror_vote ((1017, [x1, x2, x3]), S) = (bif decide ((S r_Juror_ballotSize x1 x2 0) ≤ x3) then ((0, []), S) else (g_Juror_vote ((1017, [x1, x2, (e_wr (x3 + 1))]), (e_upd S r_Juror_ballot x1 x2 x3 (S r_x_typed 0 0 x3))))) := by
  unfold g_Juror_vote
  refine ((z_psi_go (pc := 17)).trans (congrArg _ zE54_17)).trans ?_
  try simp only [z_psi_c, z_psi_b, z_psi_n, Nat.reduceLT, decide_true]
def zW54 : List Nat := [r_Juror_ballotSize, r_Juror_ballot]
theorem zK54 : z_kp 3 zW54 f_Juror_vote := fun L S hL hc r i j k hr => z_psi_kp (KT := []) (F := z_F zT54) (W := zW54) (D := zD54) (.n) (z_h163 rfl) (by decide +kernel) _ hc r i j k hr
