/-! What the methods do, by program (wip/s/sgen.py), 3 -/
-- Grid_isSeatedElsewhere (27)
def zT27 : ZT := [(50, 3, [(17, (1, 0), (0, 0)), (0, (2, 0), (0, 0)), (0, (3, 0), (0, 0))], f_Show_standsIn)]
theorem zH27 : z_ok zT27 := .c zM50 .n
theorem zF27_50 : z_F zT27 50 = f_Show_standsIn := id rfl
def zP27_0 : List ZO := [(2, [(2, 0), (1, 0), (2, 0), (0, 0)])]
def zP27_2 : List ZO := [(5, [(68, 0), (0, 0), (0, 0), (0, 0)]), (3, [(3, 0), (1, 0), (3, 0), (4, 0)]), (0, [(0, 0)]), (3, [(0, 0), (2, 0), (3, 0), (2, 0)]), (4, [(0, 0), (3, 0), (0, 1)]), (2, [(2, 0), (1, 0), (2, 0), (5, 0)]), (5, [(1088, 0), (3, 0), (0, 0), (1, 0)]), (3, [(0, 0), (2, 0), (5, 0), (0, 0)]), (4, [(0, 0), (3, 0), (0, 1)]), (2, [(2, 0), (1, 0), (2, 0), (6, 0)]), (5, [(962, 0), (2, 0), (0, 0), (0, 0)]), (5, [(963, 0), (2, 0), (0, 0), (0, 0)]), (7, [(50, 0), (3, 0), (6, 0), (7, 0)]), (3, [(0, 0), (2, 0), (8, 0), (0, 0)]), (4, [(0, 0), (3, 0), (0, 1)]), (2, [(2, 0), (1, 0), (2, 0), (9, 0)]), (0, [(0, 1)])]
def zD27 : ZD := [(0, 2, [some (3, (0, 0), (0, 0)), some (0, (1, 0), (0, 0)), some (17, (2, 0), (0, 0)), none, none], 2, zP27_0), (2, 3, [some (3, (0, 0), (0, 0)), some (0, (1, 0), (0, 0)), some (17, (2, 0), (0, 0)), some (0, (3, 0), (0, 0)), none], 18, zP27_2)]
theorem zG27 : z_chk zT27 [] 27 zD27 = true := by decide +kernel
noncomputable def g_Grid_isSeatedElsewhere (R : ZR) : ZR := z_psi (z_st (z_F zT27) zD27) R
noncomputable def f_Grid_isSeatedElsewhere : ZFn := fun L S => g_Grid_isSeatedElsewhere ((1000, L), S)
theorem zM27 : z_met 27 2 [(3, (0, 0), (0, 0)), (0, (1, 0), (0, 0)), (17, (2, 0), (0, 0))] f_Grid_isSeatedElsewhere := z_met_psi zH27 (fun _ _ h => absurd h List.not_mem_nil) rfl zG27
theorem zE27_0 {x1 x2 : Int} {S : ZS} : z_st (z_F zT27) zD27 0 [x1, x2] S = ((1002, [x1, x2, 0]), S) := (id rfl : z_st (z_F zT27) zD27 0 [x1, x2] S = z_ev (z_F zT27) 2 zP27_0 [x1, x2] S).trans (id rfl)
theorem g_Grid_isSeatedElsewhere_0 {x1 x2 : Int} {S : ZS} : g_Grid_isSeatedElsewhere ((1000, [x1, x2]), S) = (g_Grid_isSeatedElsewhere ((1002, [x1, x2, 0]), S)) := by
  unfold g_Grid_isSeatedElsewhere
  refine ((z_psi_go (pc := 0)).trans (congrArg _ zE27_0)).trans ?_
  try simp only [z_psi_c, z_psi_b, z_psi_n, Nat.reduceLT, decide_true]
theorem zE27_2 {x1 x2 x3 : Int} {S : ZS} : z_st (z_F zT27) zD27 2 [x1, x2, x3] S = (bif decide ((S r_Grid_showCount 0 0 0) ≤ x3) then ((0, [0]), S) else (bif decide (x3 = x2) then ((1002, [x1, x2, (e_wr (x3 + 1))]), S) else (bif decide ((S r_Show_isSeated x3 0 x1) = 0) then ((1002, [x1, x2, (e_wr (x3 + 1))]), S) else (bif decide ((v_Show_standsIn x3 (S r_Show_first x2 0 0) (S r_Show_length x2 0 0) S) = 0) then ((1002, [x1, x2, (e_wr (x3 + 1))]), S) else ((0, [1]), S))))) := (id rfl : z_st (z_F zT27) zD27 2 [x1, x2, x3] S = z_ev (z_F zT27) 18 zP27_2 [x1, x2, x3] S).trans (by
  simp -implicitDefEqProofs only [zP27_2, zF27_50, pF_Show_standsIn, Nat.zero_add, Nat.reduceAdd, Nat.reduceBEq, Int.reduceToNat, z_e0, z_e1, z_e2, z_e3, z_e4, z_e5, z_e6, z_e7, z_e8, z_e11, z_e13, o_v0, o_v1, o_v2, List.cons_append, List.nil_append, List.map_cons, List.map_nil, List.drop_succ_cons, List.drop_zero, List.take_succ_cons, List.take_zero, e_c0, e_c1, e_c2, e_c3, e_c4, e_c5, e_b0, e_b1, e_b2, e_b3, e_b4, e_b5, e_b6, e_b7, e_b8, e_b9, e_b10, e_b11, e_b12, e_b13, e_b14, e_b15, e_b16, e_b17, e_n0, e_bnd, e_un]
  try rfl)
theorem g_Grid_isSeatedElsewhere_2 {x1 x2 x3 : Int} {S : ZS} : g_Grid_isSeatedElsewhere ((1002, [x1, x2, x3]), S) = (bif decide ((S r_Grid_showCount 0 0 0) ≤ x3) then ((0, [0]), S) else (bif decide (x3 = x2) then (g_Grid_isSeatedElsewhere ((1002, [x1, x2, (e_wr (x3 + 1))]), S)) else (bif decide ((S r_Show_isSeated x3 0 x1) = 0) then (g_Grid_isSeatedElsewhere ((1002, [x1, x2, (e_wr (x3 + 1))]), S)) else (bif decide ((v_Show_standsIn x3 (S r_Show_first x2 0 0) (S r_Show_length x2 0 0) S) = 0) then (g_Grid_isSeatedElsewhere ((1002, [x1, x2, (e_wr (x3 + 1))]), S)) else ((0, [1]), S))))) := by
  unfold g_Grid_isSeatedElsewhere
  refine ((z_psi_go (pc := 2)).trans (congrArg _ zE27_2)).trans ?_
  try simp only [z_psi_c, z_psi_b, z_psi_n, Nat.reduceLT, decide_true]
def zW27 : List Nat := []
theorem zK27 : z_kp 2 zW27 f_Grid_isSeatedElsewhere := fun L S hL hc r i j k hr => z_psi_kp (KT := [(50, 3, zW50)]) (F := z_F zT27) (W := zW27) (D := zD27) (.c zF27_50 zK50 .n) (z_h163 rfl) (by decide +kernel) _ hc r i j k hr

-- Grid_keepsSeats (30)
noncomputable def zT30 : ZT := [(27, 2, [(3, (0, 0), (0, 0)), (0, (1, 0), (0, 0)), (17, (2, 0), (0, 0))], f_Grid_isSeatedElsewhere), (51, 1, [(17, (1, 0), (0, 0))], f_Show_countSeats)]
theorem zH30 : z_ok zT30 := .c zM27 (.c zM51 .n)
theorem zF30_27 : z_F zT30 27 = f_Grid_isSeatedElsewhere := id rfl
theorem zF30_51 : z_F zT30 51 = f_Show_countSeats := id rfl
def zP30_0 : List ZO := [(2, [(2, 0), (1, 0), (0, 0)])]
def zP30_2 : List ZO := [(5, [(68, 0), (0, 0), (0, 0), (0, 0)]), (3, [(3, 0), (1, 0), (2, 0), (3, 0)]), (0, [(0, 1)]), (7, [(51, 0), (2, 0)]), (5, [(961, 0), (2, 0), (0, 0), (0, 0)]), (5, [(320, 0), (0, 0), (0, 0), (5, 0)]), (3, [(5, 0), (1, 0), (4, 0), (6, 0)]), (2, [(43, 0), (1, 0), (2, 0), (0, 0)]), (0, [(0, 0)])]
def zP30_43 : List ZO := [(3, [(3, 0), (2, 0), (3, 0), (1, 0)]), (4, [(0, 0), (2, 0), (0, 1)]), (2, [(2, 0), (1, 0), (4, 0)]), (5, [(964, 0), (2, 0), (0, 0), (0, 0)]), (3, [(1, 0), (2, 0), (4, 0), (0, 45)]), (4, [(0, 0), (3, 0), (0, 1)]), (2, [(43, 0), (1, 0), (2, 0), (5, 0)]), (5, [(1088, 0), (2, 0), (0, 0), (3, 0)]), (3, [(0, 0), (2, 0), (5, 0), (0, 0)]), (4, [(0, 0), (3, 0), (0, 1)]), (2, [(43, 0), (1, 0), (2, 0), (6, 0)]), (7, [(27, 0), (3, 0), (2, 0)]), (3, [(0, 0), (2, 0), (6, 0), (0, 0)]), (4, [(0, 0), (3, 0), (0, 1)]), (2, [(43, 0), (1, 0), (2, 0), (7, 0)]), (0, [(0, 0)])]
def zD30 : ZD := [(0, 1, [some (3, (0, 0), (0, 0)), some (0, (1, 0), (0, 0)), none, none], 2, zP30_0), (2, 2, [some (3, (0, 0), (0, 0)), some (0, (1, 0), (0, 0)), some (0, (2, 0), (0, 0)), none], 10, zP30_2), (43, 3, [some (3, (0, 0), (0, 0)), some (0, (1, 0), (0, 0)), some (0, (2, 0), (0, 0)), some (0, (3, 0), (0, 0))], 17, zP30_43)]
theorem zG30 : z_chk zT30 [] 30 zD30 = true := by decide +kernel
noncomputable def g_Grid_keepsSeats (R : ZR) : ZR := z_psi (z_st (z_F zT30) zD30) R
noncomputable def f_Grid_keepsSeats : ZFn := fun L S => g_Grid_keepsSeats ((1000, L), S)
theorem zM30 : z_met 30 1 [(3, (0, 0), (0, 0)), (0, (1, 0), (0, 0))] f_Grid_keepsSeats := z_met_psi zH30 (fun _ _ h => absurd h List.not_mem_nil) rfl zG30
theorem zE30_0 {x1 : Int} {S : ZS} : z_st (z_F zT30) zD30 0 [x1] S = ((1002, [x1, 0]), S) := (id rfl : z_st (z_F zT30) zD30 0 [x1] S = z_ev (z_F zT30) 2 zP30_0 [x1] S).trans (id rfl)
theorem g_Grid_keepsSeats_0 {x1 : Int} {S : ZS} : g_Grid_keepsSeats ((1000, [x1]), S) = (g_Grid_keepsSeats ((1002, [x1, 0]), S)) := by
  unfold g_Grid_keepsSeats
  refine ((z_psi_go (pc := 0)).trans (congrArg _ zE30_0)).trans ?_
  try simp only [z_psi_c, z_psi_b, z_psi_n, Nat.reduceLT, decide_true]
theorem zE30_2 {x1 x2 : Int} {S : ZS} : z_st (z_F zT30) zD30 2 [x1, x2] S = (bif decide ((S r_Grid_showCount 0 0 0) ≤ x2) then ((0, [1]), S) else (e_bind (f_Show_countSeats [x2] S) (fun v1 S1 => (bif decide (v1 ≤ (S1 r_Venue_seats 0 0 (S1 r_Show_screen x2 0 0))) then ((1043, [x1, x2, 0]), S1) else ((0, [0]), S1))))) := (id rfl : z_st (z_F zT30) zD30 2 [x1, x2] S = z_ev (z_F zT30) 10 zP30_2 [x1, x2] S).trans (id rfl)
theorem g_Grid_keepsSeats_2 {x1 x2 : Int} {S : ZS} : g_Grid_keepsSeats ((1002, [x1, x2]), S) = (bif decide ((S r_Grid_showCount 0 0 0) ≤ x2) then ((0, [1]), S) else (e_bind (f_Show_countSeats [x2] S) (fun v1 S1 => (bif decide (v1 ≤ (S1 r_Venue_seats 0 0 (S1 r_Show_screen x2 0 0))) then (g_Grid_keepsSeats ((1043, [x1, x2, 0]), S1)) else ((0, [0]), S1))))) := by
  unfold g_Grid_keepsSeats
  refine ((z_psi_go (pc := 2)).trans (congrArg _ zE30_2)).trans ?_
  try simp only [z_psi_c, z_psi_b, z_psi_n, Nat.reduceLT, decide_true]
theorem zE30_43 {x1 x2 x3 : Int} {S : ZS} : z_st (z_F zT30) zD30 43 [x1, x2, x3] S = (bif decide (x1 ≤ x3) then ((1002, [x1, (e_wr (x2 + 1))]), S) else (bif !decide ((S r_Show_cause x2 0 0) = 45) then ((1043, [x1, x2, (e_wr (x3 + 1))]), S) else (bif decide ((S r_Show_isSeated x2 0 x3) = 0) then ((1043, [x1, x2, (e_wr (x3 + 1))]), S) else (e_bind (f_Grid_isSeatedElsewhere [x3, x2] S) (fun v1 S1 => (bif decide (v1 = 0) then ((1043, [x1, x2, (e_wr (x3 + 1))]), S1) else ((0, [0]), S1))))))) := (id rfl : z_st (z_F zT30) zD30 43 [x1, x2, x3] S = z_ev (z_F zT30) 17 zP30_43 [x1, x2, x3] S).trans (by
  simp -implicitDefEqProofs only [zP30_43, zF30_27, zF30_51, Nat.zero_add, Nat.reduceAdd, Nat.reduceBEq, Int.reduceToNat, z_e0, z_e1, z_e2, z_e3, z_e4, z_e5, z_e6, z_e7, z_e8, z_e11, z_e13, o_v0, o_v1, o_v2, List.cons_append, List.nil_append, List.map_cons, List.map_nil, List.drop_succ_cons, List.drop_zero, List.take_succ_cons, List.take_zero, e_c0, e_c1, e_c2, e_c3, e_c4, e_c5, e_b0, e_b1, e_b2, e_b3, e_b4, e_b5, e_b6, e_b7, e_b8, e_b9, e_b10, e_b11, e_b12, e_b13, e_b14, e_b15, e_b16, e_b17, e_n0, e_bnd, e_un]
  try rfl)
theorem g_Grid_keepsSeats_43 {x1 x2 x3 : Int} {S : ZS} : g_Grid_keepsSeats ((1043, [x1, x2, x3]), S) = (bif decide (x1 ≤ x3) then (g_Grid_keepsSeats ((1002, [x1, (e_wr (x2 + 1))]), S)) else (bif !decide ((S r_Show_cause x2 0 0) = 45) then (g_Grid_keepsSeats ((1043, [x1, x2, (e_wr (x3 + 1))]), S)) else (bif decide ((S r_Show_isSeated x2 0 x3) = 0) then (g_Grid_keepsSeats ((1043, [x1, x2, (e_wr (x3 + 1))]), S)) else (e_bind (f_Grid_isSeatedElsewhere [x3, x2] S) (fun v1 S1 => (bif decide (v1 = 0) then (g_Grid_keepsSeats ((1043, [x1, x2, (e_wr (x3 + 1))]), S1)) else ((0, [0]), S1))))))) := by
  unfold g_Grid_keepsSeats
  refine ((z_psi_go (pc := 43)).trans (congrArg _ zE30_43)).trans ?_
  try simp only [z_psi_c, z_psi_b, z_psi_n, Nat.reduceLT, decide_true]
def zW30 : List Nat := []
theorem zK30 : z_kp 1 zW30 f_Grid_keepsSeats := fun L S hL hc r i j k hr => z_psi_kp (KT := [(27, 2, zW27), (51, 1, zW51)]) (F := z_F zT30) (W := zW30) (D := zD30) (.c zF30_27 zK27 (.c zF30_51 zK51 .n)) (z_h163 rfl) (by decide +kernel) _ hc r i j k hr

-- x_areSectionsKept (81)
noncomputable def zT81 : ZT := [(79, 1, [(2, (0, 0), (0, 0)), (0, (1, 0), (0, 0))], f_x_filmsIn), (80, 1, [(2, (0, 0), (0, 0)), (0, (1, 0), (0, 0))], f_x_minutesIn)]
theorem zH81 : z_ok zT81 := .c zM79 (.c zM80 .n)
theorem zF81_79 : z_F zT81 79 = f_x_filmsIn := id rfl
theorem zF81_80 : z_F zT81 80 = f_x_minutesIn := id rfl
def zP81_0 : List ZO := [(2, [(2, 0), (0, 0)])]
def zP81_2 : List ZO := [(5, [(6, 0), (0, 0), (0, 0), (0, 0)]), (3, [(3, 0), (1, 0), (1, 0), (2, 0)]), (0, [(0, 1)]), (7, [(79, 0), (1, 0)]), (5, [(1344, 0), (1, 0), (0, 0), (0, 0)]), (3, [(4, 0), (1, 0), (3, 0), (4, 0)]), (0, [(0, 0)]), (7, [(80, 0), (1, 0)]), (5, [(1345, 0), (1, 0), (0, 0), (0, 0)]), (3, [(5, 0), (2, 0), (5, 0), (6, 0)]), (4, [(0, 0), (1, 0), (0, 1)]), (2, [(2, 0), (7, 0)]), (0, [(0, 0)])]
def zD81 : ZD := [(0, 0, [some (2, (0, 0), (0, 0)), none], 2, zP81_0), (2, 1, [some (2, (0, 0), (0, 0)), some (0, (1, 0), (0, 0))], 14, zP81_2)]
theorem zG81 : z_chk zT81 [] 81 zD81 = true := by decide +kernel
noncomputable def g_x_areSectionsKept (R : ZR) : ZR := z_psi (z_st (z_F zT81) zD81) R
noncomputable def f_x_areSectionsKept : ZFn := fun L S => g_x_areSectionsKept ((1000, L), S)
theorem zM81 : z_met 81 0 [(2, (0, 0), (0, 0))] f_x_areSectionsKept := z_met_psi zH81 (fun _ _ h => absurd h List.not_mem_nil) rfl zG81
theorem zE81_0 {S : ZS} : z_st (z_F zT81) zD81 0 [] S = ((1002, [0]), S) := (id rfl : z_st (z_F zT81) zD81 0 [] S = z_ev (z_F zT81) 2 zP81_0 [] S).trans (id rfl)
theorem g_x_areSectionsKept_0 {S : ZS} : g_x_areSectionsKept ((1000, []), S) = (g_x_areSectionsKept ((1002, [0]), S)) := by
  unfold g_x_areSectionsKept
  refine ((z_psi_go (pc := 0)).trans (congrArg _ zE81_0)).trans ?_
  try simp only [z_psi_c, z_psi_b, z_psi_n, Nat.reduceLT, decide_true]
theorem zE81_2 {x1 : Int} {S : ZS} : z_st (z_F zT81) zD81 2 [x1] S = (bif decide ((S r_x_sectionCount 0 0 0) ≤ x1) then ((0, [1]), S) else (e_bind (f_x_filmsIn [x1] S) (fun v1 S1 => (bif decide ((S1 r_Section_quota x1 0 0) < v1) then ((0, [0]), S1) else (e_bind (f_x_minutesIn [x1] S1) (fun v2 S2 => (bif decide (v2 ≤ (S2 r_Section_budget x1 0 0)) then ((1002, [(e_wr (x1 + 1))]), S2) else ((0, [0]), S2)))))))) := (id rfl : z_st (z_F zT81) zD81 2 [x1] S = z_ev (z_F zT81) 14 zP81_2 [x1] S).trans (by
  simp -implicitDefEqProofs only [zP81_2, zF81_79, zF81_80, Nat.zero_add, Nat.reduceAdd, Nat.reduceBEq, Int.reduceToNat, z_e0, z_e1, z_e2, z_e3, z_e4, z_e5, z_e6, z_e7, z_e8, z_e11, z_e13, o_v0, o_v1, o_v2, List.cons_append, List.nil_append, List.map_cons, List.map_nil, List.drop_succ_cons, List.drop_zero, List.take_succ_cons, List.take_zero, e_c0, e_c1, e_c2, e_c3, e_c4, e_c5, e_b0, e_b1, e_b2, e_b3, e_b4, e_b5, e_b6, e_b7, e_b8, e_b9, e_b10, e_b11, e_b12, e_b13, e_b14, e_b15, e_b16, e_b17, e_n0, e_bnd, e_un]
  try rfl)
theorem g_x_areSectionsKept_2 {x1 : Int} {S : ZS} : g_x_areSectionsKept ((1002, [x1]), S) = (bif decide ((S r_x_sectionCount 0 0 0) ≤ x1) then ((0, [1]), S) else (e_bind (f_x_filmsIn [x1] S) (fun v1 S1 => (bif decide ((S1 r_Section_quota x1 0 0) < v1) then ((0, [0]), S1) else (e_bind (f_x_minutesIn [x1] S1) (fun v2 S2 => (bif decide (v2 ≤ (S2 r_Section_budget x1 0 0)) then (g_x_areSectionsKept ((1002, [(e_wr (x1 + 1))]), S2)) else ((0, [0]), S2)))))))) := by
  unfold g_x_areSectionsKept
  refine ((z_psi_go (pc := 2)).trans (congrArg _ zE81_2)).trans ?_
  try simp only [z_psi_c, z_psi_b, z_psi_n, Nat.reduceLT, decide_true]
def zW81 : List Nat := []
theorem zK81 : z_kp 0 zW81 f_x_areSectionsKept := fun L S hL hc r i j k hr => z_psi_kp (KT := [(79, 1, zW79), (80, 1, zW80)]) (F := z_F zT81) (W := zW81) (D := zD81) (.c zF81_79 zK79 (.c zF81_80 zK80 .n)) (z_h163 rfl) (by decide +kernel) _ hc r i j k hr

-- Count_dropWithdrawn (4)
def zT4 : ZT := []
theorem zH4 : z_ok zT4 := .n
def zP4_0 : List ZO := [(2, [(2, 0), (0, 0)])]
def zP4_2 : List ZO := [(3, [(3, 0), (1, 0), (1, 0), (0, 20)]), (0, []), (5, [(191, 0), (0, 0), (0, 0), (0, 0)]), (3, [(3, 0), (1, 0), (1, 0), (2, 0)]), (0, []), (5, [(196, 0), (1, 0), (0, 0), (0, 0)]), (6, [(2304, 0), (1, 0), (0, 0), (0, 0), (1, 0), (3, 0)]), (4, [(0, 0), (1, 0), (0, 1)]), (2, [(2, 0), (4, 0)])]
def zD4 : ZD := [(0, 0, [some (37, (0, 0), (0, 0)), some (4, (0, 0), (0, 0)), none], 2, zP4_0), (2, 1, [some (37, (0, 0), (0, 0)), some (4, (0, 0), (0, 0)), some (0, (1, 0), (0, 0))], 10, zP4_2)]
theorem zG4 : z_chk zT4 [] 4 zD4 = true := by decide +kernel
noncomputable def g_Count_dropWithdrawn (R : ZR) : ZR := z_psi (z_st (z_F zT4) zD4) R
noncomputable def f_Count_dropWithdrawn : ZFn := fun L S => g_Count_dropWithdrawn ((1000, L), S)
theorem zM4 : z_met 4 0 [(37, (0, 0), (0, 0)), (4, (0, 0), (0, 0))] f_Count_dropWithdrawn := z_met_psi zH4 (fun _ _ h => absurd h List.not_mem_nil) rfl zG4
theorem zE4_0 {S : ZS} : z_st (z_F zT4) zD4 0 [] S = ((1002, [0]), S) := (id rfl : z_st (z_F zT4) zD4 0 [] S = z_ev (z_F zT4) 2 zP4_0 [] S).trans (id rfl)
theorem g_Count_dropWithdrawn_0 {S : ZS} : g_Count_dropWithdrawn ((1000, []), S) = (g_Count_dropWithdrawn ((1002, [0]), S)) := by
  unfold g_Count_dropWithdrawn
  refine ((z_psi_go (pc := 0)).trans (congrArg _ zE4_0)).trans ?_
  try simp only [z_psi_c, z_psi_b, z_psi_n, Nat.reduceLT, decide_true]
theorem zE4_2 {x1 : Int} {S : ZS} : z_st (z_F zT4) zD4 2 [x1] S = (bif decide (20 ≤ x1) then ((0, []), S) else (bif decide ((S r_Grid_films_len 0 0 0) ≤ x1) then ((0, []), S) else ((1002, [(e_wr (x1 + 1))]), (e_upd S r_Count_isOut 0 0 x1 (e_nar 1 (S r_Film_isWithdrawn x1 0 0)))))) := (id rfl : z_st (z_F zT4) zD4 2 [x1] S = z_ev (z_F zT4) 10 zP4_2 [x1] S).trans (id rfl)
theorem g_Count_dropWithdrawn_2 {x1 : Int} {S : ZS} : g_Count_dropWithdrawn ((1002, [x1]), S) = (bif decide (20 ≤ x1) then ((0, []), S) else (bif decide ((S r_Grid_films_len 0 0 0) ≤ x1) then ((0, []), S) else (g_Count_dropWithdrawn ((1002, [(e_wr (x1 + 1))]), (e_upd S r_Count_isOut 0 0 x1 (e_nar 1 (S r_Film_isWithdrawn x1 0 0))))))) := by
  unfold g_Count_dropWithdrawn
  refine ((z_psi_go (pc := 2)).trans (congrArg _ zE4_2)).trans ?_
  try simp only [z_psi_c, z_psi_b, z_psi_n, Nat.reduceLT, decide_true]
def zW4 : List Nat := [r_Count_isOut]
theorem zK4 : z_kp 0 zW4 f_Count_dropWithdrawn := fun L S hL hc r i j k hr => z_psi_kp (KT := []) (F := z_F zT4) (W := zW4) (D := zD4) (.n) (z_h163 rfl) (by decide +kernel) _ hc r i j k hr

-- Count_placeOn (5)
def zT5 : ZT := []
theorem zH5 : z_ok zT5 := .n
def zP5_0 : List ZO := [(2, [(2, 0), (1, 0), (2, 0), (3, 0), (0, 0)])]
def zP5_2 : List ZO := [(5, [(1477, 0), (1, 0), (2, 0), (0, 0)]), (3, [(3, 0), (1, 0), (4, 0), (5, 0)]), (0, [(0, (-1))]), (5, [(1600, 0), (1, 0), (2, 0), (4, 0)]), (3, [(1, 0), (2, 0), (6, 0), (3, 0)]), (4, [(0, 0), (4, 0), (0, 1)]), (2, [(2, 0), (1, 0), (2, 0), (3, 0), (7, 0)]), (0, [(4, 0)])]
def zD5 : ZD := [(0, 3, [some (37, (0, 0), (0, 0)), some (25, (1, 0), (2, 0)), some (0, (3, 0), (0, 0)), none], 2, zP5_0), (2, 4, [none, some (25, (1, 0), (2, 0)), some (0, (3, 0), (0, 0)), some (0, (4, 0), (0, 0))], 9, zP5_2)]
theorem zG5 : z_chk zT5 [] 5 zD5 = true := by decide +kernel
noncomputable def g_Count_placeOn (R : ZR) : ZR := z_psi (z_st (z_F zT5) zD5) R
noncomputable def f_Count_placeOn : ZFn := fun L S => g_Count_placeOn ((1000, L), S)
theorem zM5 : z_met 5 3 [(37, (0, 0), (0, 0)), (25, (1, 0), (2, 0)), (0, (3, 0), (0, 0))] f_Count_placeOn := z_met_psi zH5 (fun _ _ h => absurd h List.not_mem_nil) rfl zG5
theorem zE5_0 {x1 x2 x3 : Int} {S : ZS} : z_st (z_F zT5) zD5 0 [x1, x2, x3] S = ((1002, [x1, x2, x3, 0]), S) := (id rfl : z_st (z_F zT5) zD5 0 [x1, x2, x3] S = z_ev (z_F zT5) 2 zP5_0 [x1, x2, x3] S).trans (id rfl)
theorem g_Count_placeOn_0 {x1 x2 x3 : Int} {S : ZS} : g_Count_placeOn ((1000, [x1, x2, x3]), S) = (g_Count_placeOn ((1002, [x1, x2, x3, 0]), S)) := by
  unfold g_Count_placeOn
  refine ((z_psi_go (pc := 0)).trans (congrArg _ zE5_0)).trans ?_
  try simp only [z_psi_c, z_psi_b, z_psi_n, Nat.reduceLT, decide_true]
theorem zE5_2 {x1 x2 x3 x4 : Int} {S : ZS} : z_st (z_F zT5) zD5 2 [x1, x2, x3, x4] S = (bif decide ((S r_Juror_ballotSize x1 x2 0) ≤ x4) then ((0, [(-1)]), S) else (bif !decide ((S r_Juror_ballot x1 x2 x4) = x3) then ((1002, [x1, x2, x3, (e_wr (x4 + 1))]), S) else ((0, [x4]), S))) := (id rfl : z_st (z_F zT5) zD5 2 [x1, x2, x3, x4] S = z_ev (z_F zT5) 9 zP5_2 [x1, x2, x3, x4] S).trans (id rfl)
theorem g_Count_placeOn_2 {x1 x2 x3 x4 : Int} {S : ZS} : g_Count_placeOn ((1002, [x1, x2, x3, x4]), S) = (bif decide ((S r_Juror_ballotSize x1 x2 0) ≤ x4) then ((0, [(-1)]), S) else (bif !decide ((S r_Juror_ballot x1 x2 x4) = x3) then (g_Count_placeOn ((1002, [x1, x2, x3, (e_wr (x4 + 1))]), S)) else ((0, [x4]), S))) := by
  unfold g_Count_placeOn
  refine ((z_psi_go (pc := 2)).trans (congrArg _ zE5_2)).trans ?_
  try simp only [z_psi_c, z_psi_b, z_psi_n, Nat.reduceLT, decide_true]
def zW5 : List Nat := []
theorem zK5 : z_kp 3 zW5 f_Count_placeOn := fun L S hL hc r i j k hr => z_psi_kp (KT := []) (F := z_F zT5) (W := zW5) (D := zD5) (.n) (z_h163 rfl) (by decide +kernel) _ hc r i j k hr

-- Count_isRanked (7)
noncomputable def zT7 : ZT := [(5, 3, [(37, (0, 0), (0, 0)), (25, (1, 0), (2, 0)), (0, (3, 0), (0, 0))], f_Count_placeOn)]
theorem zH7 : z_ok zT7 := .c zM5 .n
theorem zF7_5 : z_F zT7 5 = f_Count_placeOn := id rfl
def zP7_0 : List ZO := [(2, [(2, 0), (1, 0), (2, 0), (0, 0)])]
def zP7_2 : List ZO := [(5, [(1352, 0), (1, 0), (0, 0), (0, 0)]), (3, [(3, 0), (1, 0), (3, 0), (4, 0)]), (0, [(0, 0)]), (5, [(2304, 0), (0, 0), (0, 0), (2, 0)]), (3, [(1, 0), (2, 0), (5, 0), (0, 0)]), (4, [(0, 0), (3, 0), (0, 1)]), (2, [(2, 0), (1, 0), (2, 0), (6, 0)]), (7, [(5, 0), (1, 0), (3, 0), (2, 0)]), (3, [(0, 0), (2, 0), (6, 0), (0, (-1))]), (4, [(0, 0), (3, 0), (0, 1)]), (2, [(2, 0), (1, 0), (2, 0), (7, 0)]), (0, [(0, 1)])]
def zD7 : ZD := [(0, 2, [some (37, (0, 0), (0, 0)), some (23, (1, 0), (0, 0)), some (0, (2, 0), (0, 0)), none], 2, zP7_0), (2, 3, [some (37, (0, 0), (0, 0)), some (23, (1, 0), (0, 0)), some (0, (2, 0), (0, 0)), some (0, (3, 0), (0, 0))], 13, zP7_2)]
theorem zG7 : z_chk zT7 [] 7 zD7 = true := by decide +kernel
noncomputable def g_Count_isRanked (R : ZR) : ZR := z_psi (z_st (z_F zT7) zD7) R
noncomputable def f_Count_isRanked : ZFn := fun L S => g_Count_isRanked ((1000, L), S)
theorem zM7 : z_met 7 2 [(37, (0, 0), (0, 0)), (23, (1, 0), (0, 0)), (0, (2, 0), (0, 0))] f_Count_isRanked := z_met_psi zH7 (fun _ _ h => absurd h List.not_mem_nil) rfl zG7
theorem zE7_0 {x1 x2 : Int} {S : ZS} : z_st (z_F zT7) zD7 0 [x1, x2] S = ((1002, [x1, x2, 0]), S) := (id rfl : z_st (z_F zT7) zD7 0 [x1, x2] S = z_ev (z_F zT7) 2 zP7_0 [x1, x2] S).trans (id rfl)
theorem g_Count_isRanked_0 {x1 x2 : Int} {S : ZS} : g_Count_isRanked ((1000, [x1, x2]), S) = (g_Count_isRanked ((1002, [x1, x2, 0]), S)) := by
  unfold g_Count_isRanked
  refine ((z_psi_go (pc := 0)).trans (congrArg _ zE7_0)).trans ?_
  try simp only [z_psi_c, z_psi_b, z_psi_n, Nat.reduceLT, decide_true]
theorem zE7_2 {x1 x2 x3 : Int} {S : ZS} : z_st (z_F zT7) zD7 2 [x1, x2, x3] S = (bif decide ((S r_Section_jurorCount x1 0 0) ≤ x3) then ((0, [0]), S) else (bif !decide ((S r_Count_isOut 0 0 x2) = 0) then ((1002, [x1, x2, (e_wr (x3 + 1))]), S) else (e_bind (f_Count_placeOn [x1, x3, x2] S) (fun v1 S1 => (bif decide (v1 = (-1)) then ((1002, [x1, x2, (e_wr (x3 + 1))]), S1) else ((0, [1]), S1)))))) := (id rfl : z_st (z_F zT7) zD7 2 [x1, x2, x3] S = z_ev (z_F zT7) 13 zP7_2 [x1, x2, x3] S).trans (id rfl)
theorem g_Count_isRanked_2 {x1 x2 x3 : Int} {S : ZS} : g_Count_isRanked ((1002, [x1, x2, x3]), S) = (bif decide ((S r_Section_jurorCount x1 0 0) ≤ x3) then ((0, [0]), S) else (bif !decide ((S r_Count_isOut 0 0 x2) = 0) then (g_Count_isRanked ((1002, [x1, x2, (e_wr (x3 + 1))]), S)) else (e_bind (f_Count_placeOn [x1, x3, x2] S) (fun v1 S1 => (bif decide (v1 = (-1)) then (g_Count_isRanked ((1002, [x1, x2, (e_wr (x3 + 1))]), S1)) else ((0, [1]), S1)))))) := by
  unfold g_Count_isRanked
  refine ((z_psi_go (pc := 2)).trans (congrArg _ zE7_2)).trans ?_
  try simp only [z_psi_c, z_psi_b, z_psi_n, Nat.reduceLT, decide_true]
def zW7 : List Nat := []
theorem zK7 : z_kp 2 zW7 f_Count_isRanked := fun L S hL hc r i j k hr => z_psi_kp (KT := [(5, 3, zW5)]) (F := z_F zT7) (W := zW7) (D := zD7) (.c zF7_5 zK5 .n) (z_h163 rfl) (by decide +kernel) _ hc r i j k hr

-- Count_firstOn (6)
def zT6 : ZT := []
theorem zH6 : z_ok zT6 := .n
def zP6_0 : List ZO := [(2, [(2, 0), (1, 0), (2, 0), (0, 0)])]
def zP6_2 : List ZO := [(5, [(1477, 0), (1, 0), (2, 0), (0, 0)]), (3, [(3, 0), (1, 0), (3, 0), (4, 0)]), (0, [(0, (-1))]), (5, [(1600, 0), (1, 0), (2, 0), (3, 0)]), (5, [(2304, 0), (0, 0), (0, 0), (5, 0)]), (3, [(1, 0), (2, 0), (6, 0), (0, 0)]), (4, [(0, 0), (3, 0), (0, 1)]), (2, [(2, 0), (1, 0), (2, 0), (7, 0)]), (5, [(1600, 0), (1, 0), (2, 0), (3, 0)]), (0, [(7, 0)])]
def zD6 : ZD := [(0, 2, [some (37, (0, 0), (0, 0)), some (25, (1, 0), (2, 0)), none], 2, zP6_0), (2, 3, [some (37, (0, 0), (0, 0)), some (25, (1, 0), (2, 0)), some (0, (3, 0), (0, 0))], 11, zP6_2)]
theorem zG6 : z_chk zT6 [] 6 zD6 = true := by decide +kernel
noncomputable def g_Count_firstOn (R : ZR) : ZR := z_psi (z_st (z_F zT6) zD6) R
noncomputable def f_Count_firstOn : ZFn := fun L S => g_Count_firstOn ((1000, L), S)
theorem zM6 : z_met 6 2 [(37, (0, 0), (0, 0)), (25, (1, 0), (2, 0))] f_Count_firstOn := z_met_psi zH6 (fun _ _ h => absurd h List.not_mem_nil) rfl zG6
theorem zE6_0 {x1 x2 : Int} {S : ZS} : z_st (z_F zT6) zD6 0 [x1, x2] S = ((1002, [x1, x2, 0]), S) := (id rfl : z_st (z_F zT6) zD6 0 [x1, x2] S = z_ev (z_F zT6) 2 zP6_0 [x1, x2] S).trans (id rfl)
theorem g_Count_firstOn_0 {x1 x2 : Int} {S : ZS} : g_Count_firstOn ((1000, [x1, x2]), S) = (g_Count_firstOn ((1002, [x1, x2, 0]), S)) := by
  unfold g_Count_firstOn
  refine ((z_psi_go (pc := 0)).trans (congrArg _ zE6_0)).trans ?_
  try simp only [z_psi_c, z_psi_b, z_psi_n, Nat.reduceLT, decide_true]
theorem zE6_2 {x1 x2 x3 : Int} {S : ZS} : z_st (z_F zT6) zD6 2 [x1, x2, x3] S = (bif decide ((S r_Juror_ballotSize x1 x2 0) ≤ x3) then ((0, [(-1)]), S) else (bif !decide ((S r_Count_isOut 0 0 (S r_Juror_ballot x1 x2 x3)) = 0) then ((1002, [x1, x2, (e_wr (x3 + 1))]), S) else ((0, [(S r_Juror_ballot x1 x2 x3)]), S))) := (id rfl : z_st (z_F zT6) zD6 2 [x1, x2, x3] S = z_ev (z_F zT6) 11 zP6_2 [x1, x2, x3] S).trans (id rfl)
theorem g_Count_firstOn_2 {x1 x2 x3 : Int} {S : ZS} : g_Count_firstOn ((1002, [x1, x2, x3]), S) = (bif decide ((S r_Juror_ballotSize x1 x2 0) ≤ x3) then ((0, [(-1)]), S) else (bif !decide ((S r_Count_isOut 0 0 (S r_Juror_ballot x1 x2 x3)) = 0) then (g_Count_firstOn ((1002, [x1, x2, (e_wr (x3 + 1))]), S)) else ((0, [(S r_Juror_ballot x1 x2 x3)]), S))) := by
  unfold g_Count_firstOn
  refine ((z_psi_go (pc := 2)).trans (congrArg _ zE6_2)).trans ?_
  try simp only [z_psi_c, z_psi_b, z_psi_n, Nat.reduceLT, decide_true]
def zW6 : List Nat := []
theorem zK6 : z_kp 2 zW6 f_Count_firstOn := fun L S hL hc r i j k hr => z_psi_kp (KT := []) (F := z_F zT6) (W := zW6) (D := zD6) (.n) (z_h163 rfl) (by decide +kernel) _ hc r i j k hr

-- Count_firstsOf (8)
noncomputable def zT8 : ZT := [(6, 2, [(37, (0, 0), (0, 0)), (25, (1, 0), (2, 0))], f_Count_firstOn)]
theorem zH8 : z_ok zT8 := .c zM6 .n
theorem zF8_6 : z_F zT8 6 = f_Count_firstOn := id rfl
def zP8_0 : List ZO := [(2, [(5, 0), (1, 0), (2, 0), (0, 0), (0, 0)])]
def zP8_5 : List ZO := [(5, [(1352, 0), (1, 0), (0, 0), (0, 0)]), (3, [(3, 0), (1, 0), (4, 0), (5, 0)]), (0, [(3, 0)]), (7, [(6, 0), (1, 0), (4, 0)]), (3, [(1, 0), (2, 0), (6, 0), (2, 0)]), (4, [(0, 0), (4, 0), (0, 1)]), (2, [(5, 0), (1, 0), (2, 0), (3, 0), (7, 0)]), (4, [(0, 0), (3, 0), (0, 1)]), (4, [(0, 0), (4, 0), (0, 1)]), (2, [(5, 0), (1, 0), (2, 0), (7, 0), (8, 0)])]
def zD8 : ZD := [(0, 2, [some (37, (0, 0), (0, 0)), some (23, (1, 0), (0, 0)), some (0, (2, 0), (0, 0)), none, none], 2, zP8_0), (5, 4, [some (37, (0, 0), (0, 0)), some (23, (1, 0), (0, 0)), some (0, (2, 0), (0, 0)), some (0, (3, 0), (0, 0)), some (0, (4, 0), (0, 0))], 11, zP8_5)]
theorem zG8 : z_chk zT8 [] 8 zD8 = true := by decide +kernel
noncomputable def g_Count_firstsOf (R : ZR) : ZR := z_psi (z_st (z_F zT8) zD8) R
noncomputable def f_Count_firstsOf : ZFn := fun L S => g_Count_firstsOf ((1000, L), S)
theorem zM8 : z_met 8 2 [(37, (0, 0), (0, 0)), (23, (1, 0), (0, 0)), (0, (2, 0), (0, 0))] f_Count_firstsOf := z_met_psi zH8 (fun _ _ h => absurd h List.not_mem_nil) rfl zG8
theorem zE8_0 {x1 x2 : Int} {S : ZS} : z_st (z_F zT8) zD8 0 [x1, x2] S = ((1005, [x1, x2, 0, 0]), S) := (id rfl : z_st (z_F zT8) zD8 0 [x1, x2] S = z_ev (z_F zT8) 2 zP8_0 [x1, x2] S).trans (id rfl)
theorem g_Count_firstsOf_0 {x1 x2 : Int} {S : ZS} : g_Count_firstsOf ((1000, [x1, x2]), S) = (g_Count_firstsOf ((1005, [x1, x2, 0, 0]), S)) := by
  unfold g_Count_firstsOf
  refine ((z_psi_go (pc := 0)).trans (congrArg _ zE8_0)).trans ?_
  try simp only [z_psi_c, z_psi_b, z_psi_n, Nat.reduceLT, decide_true]
theorem zE8_5 {x1 x2 x3 x4 : Int} {S : ZS} : z_st (z_F zT8) zD8 5 [x1, x2, x3, x4] S = (bif decide ((S r_Section_jurorCount x1 0 0) ≤ x4) then ((0, [x3]), S) else (e_bind (f_Count_firstOn [x1, x4] S) (fun v1 S1 => (bif !decide (v1 = x2) then ((1005, [x1, x2, x3, (e_wr (x4 + 1))]), S1) else ((1005, [x1, x2, (e_wr (x3 + 1)), (e_wr (x4 + 1))]), S1))))) := (id rfl : z_st (z_F zT8) zD8 5 [x1, x2, x3, x4] S = z_ev (z_F zT8) 11 zP8_5 [x1, x2, x3, x4] S).trans (id rfl)
theorem g_Count_firstsOf_5 {x1 x2 x3 x4 : Int} {S : ZS} : g_Count_firstsOf ((1005, [x1, x2, x3, x4]), S) = (bif decide ((S r_Section_jurorCount x1 0 0) ≤ x4) then ((0, [x3]), S) else (e_bind (f_Count_firstOn [x1, x4] S) (fun v1 S1 => (bif !decide (v1 = x2) then (g_Count_firstsOf ((1005, [x1, x2, x3, (e_wr (x4 + 1))]), S1)) else (g_Count_firstsOf ((1005, [x1, x2, (e_wr (x3 + 1)), (e_wr (x4 + 1))]), S1)))))) := by
  unfold g_Count_firstsOf
  refine ((z_psi_go (pc := 5)).trans (congrArg _ zE8_5)).trans ?_
  try simp only [z_psi_c, z_psi_b, z_psi_n, Nat.reduceLT, decide_true]
def zW8 : List Nat := []
theorem zK8 : z_kp 2 zW8 f_Count_firstsOf := fun L S hL hc r i j k hr => z_psi_kp (KT := [(6, 2, zW6)]) (F := z_F zT8) (W := zW8) (D := zD8) (.c zF8_6 zK6 .n) (z_h163 rfl) (by decide +kernel) _ hc r i j k hr

-- Count_pointsOf (9)
noncomputable def zT9 : ZT := [(5, 3, [(37, (0, 0), (0, 0)), (25, (1, 0), (2, 0)), (0, (3, 0), (0, 0))], f_Count_placeOn)]
theorem zH9 : z_ok zT9 := .c zM5 .n
theorem zF9_5 : z_F zT9 5 = f_Count_placeOn := id rfl
def zP9_0 : List ZO := [(2, [(5, 0), (1, 0), (2, 0), (0, 0), (0, 0)])]
def zP9_5 : List ZO := [(5, [(1352, 0), (1, 0), (0, 0), (0, 0)]), (3, [(3, 0), (1, 0), (4, 0), (5, 0)]), (0, [(3, 0)]), (7, [(5, 0), (1, 0), (4, 0), (2, 0)]), (4, [(0, 0), (6, 0), (0, 1)]), (2, [(38, 0), (1, 0), (2, 0), (3, 0), (4, 0), (1, 0), (4, 0), (6, 0), (7, 0)])]
def zP9_38 : List ZO := [(3, [(0, 0), (2, 0), (7, 0), (0, (-1))]), (4, [(0, 0), (4, 0), (0, 1)]), (2, [(5, 0), (1, 0), (2, 0), (3, 0), (9, 0)]), (5, [(1477, 0), (5, 0), (6, 0), (0, 0)]), (3, [(3, 0), (2, 0), (8, 0), (9, 0)]), (4, [(0, 0), (4, 0), (0, 1)]), (2, [(5, 0), (1, 0), (2, 0), (3, 0), (10, 0)]), (5, [(1600, 0), (5, 0), (6, 0), (8, 0)]), (5, [(2304, 0), (0, 0), (0, 0), (10, 0)]), (3, [(1, 0), (2, 0), (11, 0), (0, 0)]), (4, [(0, 0), (8, 0), (0, 1)]), (2, [(38, 0), (1, 0), (2, 0), (3, 0), (4, 0), (5, 0), (6, 0), (7, 0), (12, 0)]), (4, [(0, 0), (3, 0), (0, 1)]), (4, [(0, 0), (8, 0), (0, 1)]), (2, [(38, 0), (1, 0), (2, 0), (12, 0), (4, 0), (5, 0), (6, 0), (7, 0), (13, 0)])]
def zD9 : ZD := [(0, 2, [some (37, (0, 0), (0, 0)), some (23, (1, 0), (0, 0)), some (0, (2, 0), (0, 0)), none, none, none, none, none], 2, zP9_0), (5, 4, [some (37, (0, 0), (0, 0)), some (23, (1, 0), (0, 0)), some (0, (2, 0), (0, 0)), some (0, (3, 0), (0, 0)), some (0, (4, 0), (0, 0)), none, none, none], 7, zP9_5), (38, 8, [some (37, (0, 0), (0, 0)), some (23, (1, 0), (0, 0)), some (0, (2, 0), (0, 0)), some (0, (3, 0), (0, 0)), some (0, (4, 0), (0, 0)), some (25, (5, 0), (6, 0)), some (0, (7, 0), (0, 0)), some (0, (8, 0), (0, 0))], 16, zP9_38)]
theorem zG9 : z_chk zT9 [] 9 zD9 = true := by decide +kernel
noncomputable def g_Count_pointsOf (R : ZR) : ZR := z_psi (z_st (z_F zT9) zD9) R
noncomputable def f_Count_pointsOf : ZFn := fun L S => g_Count_pointsOf ((1000, L), S)
theorem zM9 : z_met 9 2 [(37, (0, 0), (0, 0)), (23, (1, 0), (0, 0)), (0, (2, 0), (0, 0))] f_Count_pointsOf := z_met_psi zH9 (fun _ _ h => absurd h List.not_mem_nil) rfl zG9
theorem zE9_0 {x1 x2 : Int} {S : ZS} : z_st (z_F zT9) zD9 0 [x1, x2] S = ((1005, [x1, x2, 0, 0]), S) := (id rfl : z_st (z_F zT9) zD9 0 [x1, x2] S = z_ev (z_F zT9) 2 zP9_0 [x1, x2] S).trans (id rfl)
theorem g_Count_pointsOf_0 {x1 x2 : Int} {S : ZS} : g_Count_pointsOf ((1000, [x1, x2]), S) = (g_Count_pointsOf ((1005, [x1, x2, 0, 0]), S)) := by
  unfold g_Count_pointsOf
  refine ((z_psi_go (pc := 0)).trans (congrArg _ zE9_0)).trans ?_
  try simp only [z_psi_c, z_psi_b, z_psi_n, Nat.reduceLT, decide_true]
theorem zE9_5 {x1 x2 x3 x4 : Int} {S : ZS} : z_st (z_F zT9) zD9 5 [x1, x2, x3, x4] S = (bif decide ((S r_Section_jurorCount x1 0 0) ≤ x4) then ((0, [x3]), S) else (e_bind (f_Count_placeOn [x1, x4, x2] S) (fun v1 S1 => ((1038, [x1, x2, x3, x4, x1, x4, v1, (e_wr (v1 + 1))]), S1)))) := (id rfl : z_st (z_F zT9) zD9 5 [x1, x2, x3, x4] S = z_ev (z_F zT9) 7 zP9_5 [x1, x2, x3, x4] S).trans (id rfl)
theorem g_Count_pointsOf_5 {x1 x2 x3 x4 : Int} {S : ZS} : g_Count_pointsOf ((1005, [x1, x2, x3, x4]), S) = (bif decide ((S r_Section_jurorCount x1 0 0) ≤ x4) then ((0, [x3]), S) else (e_bind (f_Count_placeOn [x1, x4, x2] S) (fun v1 S1 => (g_Count_pointsOf ((1038, [x1, x2, x3, x4, x1, x4, v1, (e_wr (v1 + 1))]), S1))))) := by
  unfold g_Count_pointsOf
  refine ((z_psi_go (pc := 5)).trans (congrArg _ zE9_5)).trans ?_
  try simp only [z_psi_c, z_psi_b, z_psi_n, Nat.reduceLT, decide_true]
theorem zE9_38 {x1 x2 x3 x4 x5 x6 x7 x8 : Int} {S : ZS} : z_st (z_F zT9) zD9 38 [x1, x2, x3, x4, x5, x6, x7, x8] S = (bif decide (x7 = (-1)) then ((1005, [x1, x2, x3, (e_wr (x4 + 1))]), S) else (bif decide ((S r_Juror_ballotSize x5 x6 0) ≤ x8) then ((1005, [x1, x2, x3, (e_wr (x4 + 1))]), S) else (bif !decide ((S r_Count_isOut 0 0 (S r_Juror_ballot x5 x6 x8)) = 0) then ((1038, [x1, x2, x3, x4, x5, x6, x7, (e_wr (x8 + 1))]), S) else ((1038, [x1, x2, (e_wr (x3 + 1)), x4, x5, x6, x7, (e_wr (x8 + 1))]), S)))) := (id rfl : z_st (z_F zT9) zD9 38 [x1, x2, x3, x4, x5, x6, x7, x8] S = z_ev (z_F zT9) 16 zP9_38 [x1, x2, x3, x4, x5, x6, x7, x8] S).trans (by
  simp -implicitDefEqProofs only [zP9_38, zF9_5, Nat.zero_add, Nat.reduceAdd, Nat.reduceBEq, Int.reduceToNat, z_e0, z_e1, z_e2, z_e3, z_e4, z_e5, z_e6, z_e7, z_e8, z_e11, z_e13, o_v0, o_v1, o_v2, List.cons_append, List.nil_append, List.map_cons, List.map_nil, List.drop_succ_cons, List.drop_zero, List.take_succ_cons, List.take_zero, e_c0, e_c1, e_c2, e_c3, e_c4, e_c5, e_b0, e_b1, e_b2, e_b3, e_b4, e_b5, e_b6, e_b7, e_b8, e_b9, e_b10, e_b11, e_b12, e_b13, e_b14, e_b15, e_b16, e_b17, e_n0, e_bnd, e_un]
  try rfl)
theorem g_Count_pointsOf_38 {x1 x2 x3 x4 x5 x6 x7 x8 : Int} {S : ZS} : g_Count_pointsOf ((1038, [x1, x2, x3, x4, x5, x6, x7, x8]), S) = (bif decide (x7 = (-1)) then (g_Count_pointsOf ((1005, [x1, x2, x3, (e_wr (x4 + 1))]), S)) else (bif decide ((S r_Juror_ballotSize x5 x6 0) ≤ x8) then (g_Count_pointsOf ((1005, [x1, x2, x3, (e_wr (x4 + 1))]), S)) else (bif !decide ((S r_Count_isOut 0 0 (S r_Juror_ballot x5 x6 x8)) = 0) then (g_Count_pointsOf ((1038, [x1, x2, x3, x4, x5, x6, x7, (e_wr (x8 + 1))]), S)) else (g_Count_pointsOf ((1038, [x1, x2, (e_wr (x3 + 1)), x4, x5, x6, x7, (e_wr (x8 + 1))]), S))))) := by
  unfold g_Count_pointsOf
  refine ((z_psi_go (pc := 38)).trans (congrArg _ zE9_38)).trans ?_
  try simp only [z_psi_c, z_psi_b, z_psi_n, Nat.reduceLT, decide_true]
def zW9 : List Nat := []
theorem zK9 : z_kp 2 zW9 f_Count_pointsOf := fun L S hL hc r i j k hr => z_psi_kp (KT := [(5, 3, zW5)]) (F := z_F zT9) (W := zW9) (D := zD9) (.c zF9_5 zK5 .n) (z_h163 rfl) (by decide +kernel) _ hc r i j k hr

-- Count_withMost (10)
noncomputable def zT10 : ZT := [(7, 2, [(37, (0, 0), (0, 0)), (23, (1, 0), (0, 0)), (0, (2, 0), (0, 0))], f_Count_isRanked), (8, 2, [(37, (0, 0), (0, 0)), (23, (1, 0), (0, 0)), (0, (2, 0), (0, 0))], f_Count_firstsOf), (9, 2, [(37, (0, 0), (0, 0)), (23, (1, 0), (0, 0)), (0, (2, 0), (0, 0))], f_Count_pointsOf)]
theorem zH10 : z_ok zT10 := .c zM7 (.c zM8 (.c zM9 .n))
theorem zF10_7 : z_F zT10 7 = f_Count_isRanked := id rfl
theorem zF10_8 : z_F zT10 8 = f_Count_firstsOf := id rfl
theorem zF10_9 : z_F zT10 9 = f_Count_pointsOf := id rfl
def zP10_0 : List ZO := [(2, [(8, 0), (1, 0), (2, 0), (0, (-1)), (0, (-1)), (0, 0)])]
def zP10_8 : List ZO := [(3, [(3, 0), (1, 0), (5, 0), (0, 20)]), (0, [(3, 0)]), (7, [(7, 0), (1, 0), (5, 0)]), (3, [(0, 0), (2, 0), (6, 0), (0, 0)]), (4, [(0, 0), (5, 0), (0, 1)]), (2, [(8, 0), (1, 0), (2, 0), (3, 0), (4, 0), (7, 0)]), (3, [(0, 0), (6, 0), (2, 0), (0, 0)]), (7, [(8, 0), (1, 0), (5, 0)]), (3, [(5, 0), (2, 0), (7, 0), (4, 0)]), (4, [(0, 0), (5, 0), (0, 1)]), (2, [(8, 0), (1, 0), (2, 0), (3, 0), (4, 0), (8, 0)]), (4, [(0, 0), (5, 0), (0, 1)]), (2, [(8, 0), (1, 0), (2, 0), (5, 0), (7, 0), (8, 0)]), (7, [(9, 0), (1, 0), (5, 0)]), (3, [(5, 0), (2, 0), (7, 0), (4, 0)]), (4, [(0, 0), (5, 0), (0, 1)]), (2, [(8, 0), (1, 0), (2, 0), (3, 0), (4, 0), (8, 0)]), (4, [(0, 0), (5, 0), (0, 1)]), (2, [(8, 0), (1, 0), (2, 0), (5, 0), (7, 0), (8, 0)])]
def zD10 : ZD := [(0, 2, [some (37, (0, 0), (0, 0)), some (23, (1, 0), (0, 0)), some (0, (2, 0), (0, 0)), none, none, none, none], 2, zP10_0), (8, 5, [some (37, (0, 0), (0, 0)), some (23, (1, 0), (0, 0)), some (0, (2, 0), (0, 0)), some (0, (3, 0), (0, 0)), some (0, (4, 0), (0, 0)), some (0, (5, 0), (0, 0)), none], 20, zP10_8)]
theorem zG10 : z_chk zT10 [] 10 zD10 = true := by decide +kernel
noncomputable def g_Count_withMost (R : ZR) : ZR := z_psi (z_st (z_F zT10) zD10) R
noncomputable def f_Count_withMost : ZFn := fun L S => g_Count_withMost ((1000, L), S)
theorem zM10 : z_met 10 2 [(37, (0, 0), (0, 0)), (23, (1, 0), (0, 0)), (0, (2, 0), (0, 0))] f_Count_withMost := z_met_psi zH10 (fun _ _ h => absurd h List.not_mem_nil) rfl zG10
theorem zE10_0 {x1 x2 : Int} {S : ZS} : z_st (z_F zT10) zD10 0 [x1, x2] S = ((1008, [x1, x2, (-1), (-1), 0]), S) := (id rfl : z_st (z_F zT10) zD10 0 [x1, x2] S = z_ev (z_F zT10) 2 zP10_0 [x1, x2] S).trans (id rfl)
theorem g_Count_withMost_0 {x1 x2 : Int} {S : ZS} : g_Count_withMost ((1000, [x1, x2]), S) = (g_Count_withMost ((1008, [x1, x2, (-1), (-1), 0]), S)) := by
  unfold g_Count_withMost
  refine ((z_psi_go (pc := 0)).trans (congrArg _ zE10_0)).trans ?_
  try simp only [z_psi_c, z_psi_b, z_psi_n, Nat.reduceLT, decide_true]
theorem zE10_8 {x1 x2 x3 x4 x5 : Int} {S : ZS} : z_st (z_F zT10) zD10 8 [x1, x2, x3, x4, x5] S = (bif decide (20 ≤ x5) then ((0, [x3]), S) else (e_bind (f_Count_isRanked [x1, x5] S) (fun v1 S1 => (bif decide (v1 = 0) then ((1008, [x1, x2, x3, x4, (e_wr (x5 + 1))]), S1) else (bif decide (x2 = 0) then (e_bind (f_Count_firstsOf [x1, x5] S1) (fun v2 S2 => (bif decide (v2 ≤ x4) then ((1008, [x1, x2, x3, x4, (e_wr (x5 + 1))]), S2) else ((1008, [x1, x2, x5, v2, (e_wr (x5 + 1))]), S2)))) else (e_bind (f_Count_pointsOf [x1, x5] S1) (fun v3 S3 => (bif decide (v3 ≤ x4) then ((1008, [x1, x2, x3, x4, (e_wr (x5 + 1))]), S3) else ((1008, [x1, x2, x5, v3, (e_wr (x5 + 1))]), S3))))))))) := (id rfl : z_st (z_F zT10) zD10 8 [x1, x2, x3, x4, x5] S = z_ev (z_F zT10) 20 zP10_8 [x1, x2, x3, x4, x5] S).trans (by
  simp -implicitDefEqProofs only [zP10_8, zF10_7, zF10_8, zF10_9, Nat.zero_add, Nat.reduceAdd, Nat.reduceBEq, Int.reduceToNat, z_e0, z_e1, z_e2, z_e3, z_e4, z_e5, z_e6, z_e7, z_e8, z_e11, z_e13, o_v0, o_v1, o_v2, List.cons_append, List.nil_append, List.map_cons, List.map_nil, List.drop_succ_cons, List.drop_zero, List.take_succ_cons, List.take_zero, e_c0, e_c1, e_c2, e_c3, e_c4, e_c5, e_b0, e_b1, e_b2, e_b3, e_b4, e_b5, e_b6, e_b7, e_b8, e_b9, e_b10, e_b11, e_b12, e_b13, e_b14, e_b15, e_b16, e_b17, e_n0, e_bnd, e_un]
  try rfl)
theorem g_Count_withMost_8 {x1 x2 x3 x4 x5 : Int} {S : ZS} : g_Count_withMost ((1008, [x1, x2, x3, x4, x5]), S) = (bif decide (20 ≤ x5) then ((0, [x3]), S) else (e_bind (f_Count_isRanked [x1, x5] S) (fun v1 S1 => (bif decide (v1 = 0) then (g_Count_withMost ((1008, [x1, x2, x3, x4, (e_wr (x5 + 1))]), S1)) else (bif decide (x2 = 0) then (e_bind (f_Count_firstsOf [x1, x5] S1) (fun v2 S2 => (bif decide (v2 ≤ x4) then (g_Count_withMost ((1008, [x1, x2, x3, x4, (e_wr (x5 + 1))]), S2)) else (g_Count_withMost ((1008, [x1, x2, x5, v2, (e_wr (x5 + 1))]), S2))))) else (e_bind (f_Count_pointsOf [x1, x5] S1) (fun v3 S3 => (bif decide (v3 ≤ x4) then (g_Count_withMost ((1008, [x1, x2, x3, x4, (e_wr (x5 + 1))]), S3)) else (g_Count_withMost ((1008, [x1, x2, x5, v3, (e_wr (x5 + 1))]), S3)))))))))) := by
  unfold g_Count_withMost
  refine ((z_psi_go (pc := 8)).trans (congrArg _ zE10_8)).trans ?_
  try simp only [z_psi_c, z_psi_b, z_psi_n, Nat.reduceLT, decide_true]
def zW10 : List Nat := []
theorem zK10 : z_kp 2 zW10 f_Count_withMost := fun L S hL hc r i j k hr => z_psi_kp (KT := [(7, 2, zW7), (8, 2, zW8), (9, 2, zW9)]) (F := z_F zT10) (W := zW10) (D := zD10) (.c zF10_7 zK7 (.c zF10_8 zK8 (.c zF10_9 zK9 .n))) (z_h163 rfl) (by decide +kernel) _ hc r i j k hr

-- Count_withFewestFirsts (15)
noncomputable def zT15 : ZT := [(7, 2, [(37, (0, 0), (0, 0)), (23, (1, 0), (0, 0)), (0, (2, 0), (0, 0))], f_Count_isRanked), (8, 2, [(37, (0, 0), (0, 0)), (23, (1, 0), (0, 0)), (0, (2, 0), (0, 0))], f_Count_firstsOf)]
theorem zH15 : z_ok zT15 := .c zM7 (.c zM8 .n)
theorem zF15_7 : z_F zT15 7 = f_Count_isRanked := id rfl
theorem zF15_8 : z_F zT15 8 = f_Count_firstsOf := id rfl
def zP15_0 : List ZO := [(2, [(8, 0), (1, 0), (0, 0), (0, 6), (0, 0)])]
def zP15_8 : List ZO := [(3, [(3, 0), (1, 0), (4, 0), (0, 20)]), (0, [(2, 0)]), (7, [(7, 0), (1, 0), (4, 0)]), (3, [(0, 0), (2, 0), (5, 0), (0, 0)]), (4, [(0, 0), (4, 0), (0, 1)]), (2, [(8, 0), (1, 0), (2, 0), (3, 0), (6, 0)]), (7, [(8, 0), (1, 0), (4, 0)]), (3, [(4, 0), (2, 0), (6, 0), (3, 0)]), (4, [(0, 0), (4, 0), (0, 1)]), (2, [(8, 0), (1, 0), (2, 0), (3, 0), (7, 0)]), (7, [(8, 0), (1, 0), (4, 0)]), (4, [(0, 0), (4, 0), (0, 1)]), (2, [(8, 0), (1, 0), (4, 0), (7, 0), (8, 0)])]
def zD15 : ZD := [(0, 1, [some (37, (0, 0), (0, 0)), some (23, (1, 0), (0, 0)), none, none, none], 2, zP15_0), (8, 4, [some (37, (0, 0), (0, 0)), some (23, (1, 0), (0, 0)), some (0, (2, 0), (0, 0)), some (0, (3, 0), (0, 0)), some (0, (4, 0), (0, 0))], 14, zP15_8)]
theorem zG15 : z_chk zT15 [] 15 zD15 = true := by decide +kernel
noncomputable def g_Count_withFewestFirsts (R : ZR) : ZR := z_psi (z_st (z_F zT15) zD15) R
noncomputable def f_Count_withFewestFirsts : ZFn := fun L S => g_Count_withFewestFirsts ((1000, L), S)
theorem zM15 : z_met 15 1 [(37, (0, 0), (0, 0)), (23, (1, 0), (0, 0))] f_Count_withFewestFirsts := z_met_psi zH15 (fun _ _ h => absurd h List.not_mem_nil) rfl zG15
theorem zE15_0 {x1 : Int} {S : ZS} : z_st (z_F zT15) zD15 0 [x1] S = ((1008, [x1, 0, 6, 0]), S) := (id rfl : z_st (z_F zT15) zD15 0 [x1] S = z_ev (z_F zT15) 2 zP15_0 [x1] S).trans (id rfl)
theorem g_Count_withFewestFirsts_0 {x1 : Int} {S : ZS} : g_Count_withFewestFirsts ((1000, [x1]), S) = (g_Count_withFewestFirsts ((1008, [x1, 0, 6, 0]), S)) := by
  unfold g_Count_withFewestFirsts
  refine ((z_psi_go (pc := 0)).trans (congrArg _ zE15_0)).trans ?_
  try simp only [z_psi_c, z_psi_b, z_psi_n, Nat.reduceLT, decide_true]
theorem zE15_8 {x1 x2 x3 x4 : Int} {S : ZS} : z_st (z_F zT15) zD15 8 [x1, x2, x3, x4] S = (bif decide (20 ≤ x4) then ((0, [x2]), S) else (e_bind (f_Count_isRanked [x1, x4] S) (fun v1 S1 => (bif decide (v1 = 0) then ((1008, [x1, x2, x3, (e_wr (x4 + 1))]), S1) else (e_bind (f_Count_firstsOf [x1, x4] S1) (fun v2 S2 => (bif decide (x3 < v2) then ((1008, [x1, x2, x3, (e_wr (x4 + 1))]), S2) else (e_bind (f_Count_firstsOf [x1, x4] S2) (fun v3 S3 => ((1008, [x1, x4, v3, (e_wr (x4 + 1))]), S3)))))))))) := (id rfl : z_st (z_F zT15) zD15 8 [x1, x2, x3, x4] S = z_ev (z_F zT15) 14 zP15_8 [x1, x2, x3, x4] S).trans (by
  simp -implicitDefEqProofs only [zP15_8, zF15_7, zF15_8, Nat.zero_add, Nat.reduceAdd, Nat.reduceBEq, Int.reduceToNat, z_e0, z_e1, z_e2, z_e3, z_e4, z_e5, z_e6, z_e7, z_e8, z_e11, z_e13, o_v0, o_v1, o_v2, List.cons_append, List.nil_append, List.map_cons, List.map_nil, List.drop_succ_cons, List.drop_zero, List.take_succ_cons, List.take_zero, e_c0, e_c1, e_c2, e_c3, e_c4, e_c5, e_b0, e_b1, e_b2, e_b3, e_b4, e_b5, e_b6, e_b7, e_b8, e_b9, e_b10, e_b11, e_b12, e_b13, e_b14, e_b15, e_b16, e_b17, e_n0, e_bnd, e_un]
  try rfl)
theorem g_Count_withFewestFirsts_8 {x1 x2 x3 x4 : Int} {S : ZS} : g_Count_withFewestFirsts ((1008, [x1, x2, x3, x4]), S) = (bif decide (20 ≤ x4) then ((0, [x2]), S) else (e_bind (f_Count_isRanked [x1, x4] S) (fun v1 S1 => (bif decide (v1 = 0) then (g_Count_withFewestFirsts ((1008, [x1, x2, x3, (e_wr (x4 + 1))]), S1)) else (e_bind (f_Count_firstsOf [x1, x4] S1) (fun v2 S2 => (bif decide (x3 < v2) then (g_Count_withFewestFirsts ((1008, [x1, x2, x3, (e_wr (x4 + 1))]), S2)) else (e_bind (f_Count_firstsOf [x1, x4] S2) (fun v3 S3 => (g_Count_withFewestFirsts ((1008, [x1, x4, v3, (e_wr (x4 + 1))]), S3))))))))))) := by
  unfold g_Count_withFewestFirsts
  refine ((z_psi_go (pc := 8)).trans (congrArg _ zE15_8)).trans ?_
  try simp only [z_psi_c, z_psi_b, z_psi_n, Nat.reduceLT, decide_true]
def zW15 : List Nat := []
theorem zK15 : z_kp 1 zW15 f_Count_withFewestFirsts := fun L S hL hc r i j k hr => z_psi_kp (KT := [(7, 2, zW7), (8, 2, zW8)]) (F := z_F zT15) (W := zW15) (D := zD15) (.c zF15_7 zK7 (.c zF15_8 zK8 .n)) (z_h163 rfl) (by decide +kernel) _ hc r i j k hr

-- Count_byRounds (14)
noncomputable def zT14 : ZT := [(6, 2, [(37, (0, 0), (0, 0)), (25, (1, 0), (2, 0))], f_Count_firstOn), (8, 2, [(37, (0, 0), (0, 0)), (23, (1, 0), (0, 0)), (0, (2, 0), (0, 0))], f_Count_firstsOf), (10, 2, [(37, (0, 0), (0, 0)), (23, (1, 0), (0, 0)), (0, (2, 0), (0, 0))], f_Count_withMost), (15, 1, [(37, (0, 0), (0, 0)), (23, (1, 0), (0, 0))], f_Count_withFewestFirsts)]
theorem zH14 : z_ok zT14 := .c zM6 (.c zM8 (.c zM10 (.c zM15 .n)))
theorem zF14_6 : z_F zT14 6 = f_Count_firstOn := id rfl
theorem zF14_8 : z_F zT14 8 = f_Count_firstsOf := id rfl
theorem zF14_10 : z_F zT14 10 = f_Count_withMost := id rfl
theorem zF14_15 : z_F zT14 15 = f_Count_withFewestFirsts := id rfl
def zP14_0 : List ZO := [(2, [(2, 0), (1, 0), (0, 0)])]
def zP14_2 : List ZO := [(3, [(3, 0), (1, 0), (2, 0), (0, 20)]), (0, [(0, (-1))]), (2, [(13, 0), (1, 0), (2, 0), (0, 0), (0, 0)])]
def zP14_13 : List ZO := [(5, [(1352, 0), (1, 0), (0, 0), (0, 0)]), (3, [(3, 0), (11, 0), (4, 0), (5, 0)]), (7, [(10, 0), (1, 0), (0, 0)]), (3, [(0, 0), (1, 0), (6, 0), (0, (-1))]), (0, [(6, 0)]), (7, [(8, 0), (1, 0), (6, 0)]), (4, [(2, 0), (0, 2), (7, 0)]), (3, [(5, 0), (4, 0), (8, 0), (3, 0)]), (7, [(15, 0), (1, 0)]), (6, [(2304, 0), (1, 0), (0, 0), (0, 0), (9, 0), (0, 1)]), (4, [(0, 0), (2, 0), (0, 1)]), (2, [(2, 0), (1, 0), (10, 0)]), (0, [(6, 0)]), (7, [(6, 0), (1, 0), (4, 0)]), (3, [(0, 0), (2, 0), (6, 0), (0, (-1))]), (4, [(0, 0), (4, 0), (0, 1)]), (2, [(13, 0), (1, 0), (2, 0), (3, 0), (7, 0)]), (4, [(0, 0), (3, 0), (0, 1)]), (4, [(0, 0), (4, 0), (0, 1)]), (2, [(13, 0), (1, 0), (2, 0), (7, 0), (8, 0)])]
def zD14 : ZD := [(0, 1, [some (37, (0, 0), (0, 0)), some (23, (1, 0), (0, 0)), none, none, none], 2, zP14_0), (2, 2, [some (37, (0, 0), (0, 0)), some (23, (1, 0), (0, 0)), some (0, (2, 0), (0, 0)), none, none], 4, zP14_2), (13, 4, [some (37, (0, 0), (0, 0)), some (23, (1, 0), (0, 0)), some (0, (2, 0), (0, 0)), some (0, (3, 0), (0, 0)), some (0, (4, 0), (0, 0))], 21, zP14_13)]
theorem zG14 : z_chk zT14 [] 14 zD14 = true := by decide +kernel
noncomputable def g_Count_byRounds (R : ZR) : ZR := z_psi (z_st (z_F zT14) zD14) R
noncomputable def f_Count_byRounds : ZFn := fun L S => g_Count_byRounds ((1000, L), S)
theorem zM14 : z_met 14 1 [(37, (0, 0), (0, 0)), (23, (1, 0), (0, 0))] f_Count_byRounds := z_met_psi zH14 (fun _ _ h => absurd h List.not_mem_nil) rfl zG14
theorem zE14_0 {x1 : Int} {S : ZS} : z_st (z_F zT14) zD14 0 [x1] S = ((1002, [x1, 0]), S) := (id rfl : z_st (z_F zT14) zD14 0 [x1] S = z_ev (z_F zT14) 2 zP14_0 [x1] S).trans (id rfl)
theorem g_Count_byRounds_0 {x1 : Int} {S : ZS} : g_Count_byRounds ((1000, [x1]), S) = (g_Count_byRounds ((1002, [x1, 0]), S)) := by
  unfold g_Count_byRounds
  refine ((z_psi_go (pc := 0)).trans (congrArg _ zE14_0)).trans ?_
  try simp only [z_psi_c, z_psi_b, z_psi_n, Nat.reduceLT, decide_true]
theorem zE14_2 {x1 x2 : Int} {S : ZS} : z_st (z_F zT14) zD14 2 [x1, x2] S = (bif decide (20 ≤ x2) then ((0, [(-1)]), S) else ((1013, [x1, x2, 0, 0]), S)) := (id rfl : z_st (z_F zT14) zD14 2 [x1, x2] S = z_ev (z_F zT14) 4 zP14_2 [x1, x2] S).trans (id rfl)
theorem g_Count_byRounds_2 {x1 x2 : Int} {S : ZS} : g_Count_byRounds ((1002, [x1, x2]), S) = (bif decide (20 ≤ x2) then ((0, [(-1)]), S) else (g_Count_byRounds ((1013, [x1, x2, 0, 0]), S))) := by
  unfold g_Count_byRounds
  refine ((z_psi_go (pc := 2)).trans (congrArg _ zE14_2)).trans ?_
  try simp only [z_psi_c, z_psi_b, z_psi_n, Nat.reduceLT, decide_true]
theorem zE14_13 {x1 x2 x3 x4 : Int} {S : ZS} : z_st (z_F zT14) zD14 13 [x1, x2, x3, x4] S = (bif decide ((S r_Section_jurorCount x1 0 0) ≤ x4) then (e_bind (f_Count_withMost [x1, 0] S) (fun v1 S1 => (bif decide (v1 = (-1)) then ((0, [v1]), S1) else (e_bind (f_Count_firstsOf [x1, v1] S1) (fun v2 S2 => (bif decide ((e_wr (2 * v2)) ≤ x3) then (e_bind (f_Count_withFewestFirsts [x1] S2) (fun v3 S3 => ((1002, [x1, (e_wr (x2 + 1))]), (e_upd S3 r_Count_isOut 0 0 v3 (e_nar 1 1))))) else ((0, [v1]), S2))))))) else (e_bind (f_Count_firstOn [x1, x4] S) (fun v4 S4 => (bif decide (v4 = (-1)) then ((1013, [x1, x2, x3, (e_wr (x4 + 1))]), S4) else ((1013, [x1, x2, (e_wr (x3 + 1)), (e_wr (x4 + 1))]), S4))))) := (id rfl : z_st (z_F zT14) zD14 13 [x1, x2, x3, x4] S = z_ev (z_F zT14) 21 zP14_13 [x1, x2, x3, x4] S).trans (by
  simp -implicitDefEqProofs only [zP14_13, zF14_6, zF14_8, zF14_10, zF14_15, Nat.zero_add, Nat.reduceAdd, Nat.reduceBEq, Int.reduceToNat, z_e0, z_e1, z_e2, z_e3, z_e4, z_e5, z_e6, z_e7, z_e8, z_e11, z_e13, o_v0, o_v1, o_v2, List.cons_append, List.nil_append, List.map_cons, List.map_nil, List.drop_succ_cons, List.drop_zero, List.take_succ_cons, List.take_zero, e_c0, e_c1, e_c2, e_c3, e_c4, e_c5, e_b0, e_b1, e_b2, e_b3, e_b4, e_b5, e_b6, e_b7, e_b8, e_b9, e_b10, e_b11, e_b12, e_b13, e_b14, e_b15, e_b16, e_b17, e_n0, e_bnd, e_un]
  try rfl)
theorem g_Count_byRounds_13 {x1 x2 x3 x4 : Int} {S : ZS} : g_Count_byRounds ((1013, [x1, x2, x3, x4]), S) = (bif decide ((S r_Section_jurorCount x1 0 0) ≤ x4) then (e_bind (f_Count_withMost [x1, 0] S) (fun v1 S1 => (bif decide (v1 = (-1)) then ((0, [v1]), S1) else (e_bind (f_Count_firstsOf [x1, v1] S1) (fun v2 S2 => (bif decide ((e_wr (2 * v2)) ≤ x3) then (e_bind (f_Count_withFewestFirsts [x1] S2) (fun v3 S3 => (g_Count_byRounds ((1002, [x1, (e_wr (x2 + 1))]), (e_upd S3 r_Count_isOut 0 0 v3 (e_nar 1 1)))))) else ((0, [v1]), S2))))))) else (e_bind (f_Count_firstOn [x1, x4] S) (fun v4 S4 => (bif decide (v4 = (-1)) then (g_Count_byRounds ((1013, [x1, x2, x3, (e_wr (x4 + 1))]), S4)) else (g_Count_byRounds ((1013, [x1, x2, (e_wr (x3 + 1)), (e_wr (x4 + 1))]), S4)))))) := by
  unfold g_Count_byRounds
  refine ((z_psi_go (pc := 13)).trans (congrArg _ zE14_13)).trans ?_
  try simp only [z_psi_c, z_psi_b, z_psi_n, Nat.reduceLT, decide_true]
def zW14 : List Nat := [r_Count_isOut]
theorem zK14 : z_kp 1 zW14 f_Count_byRounds := fun L S hL hc r i j k hr => z_psi_kp (KT := [(6, 2, zW6), (8, 2, zW8), (10, 2, zW10), (15, 1, zW15)]) (F := z_F zT14) (W := zW14) (D := zD14) (.c zF14_6 zK6 (.c zF14_8 zK8 (.c zF14_10 zK10 (.c zF14_15 zK15 .n)))) (z_h163 rfl) (by decide +kernel) _ hc r i j k hr

-- Count_leadOf (13)
noncomputable def zT13 : ZT := [(5, 3, [(37, (0, 0), (0, 0)), (25, (1, 0), (2, 0)), (0, (3, 0), (0, 0))], f_Count_placeOn)]
theorem zH13 : z_ok zT13 := .c zM5 .n
theorem zF13_5 : z_F zT13 5 = f_Count_placeOn := id rfl
def zP13_0 : List ZO := [(2, [(6, 0), (1, 0), (2, 0), (3, 0), (0, 0), (0, 0)])]
def zP13_6 : List ZO := [(5, [(1352, 0), (1, 0), (0, 0), (0, 0)]), (3, [(3, 0), (1, 0), (5, 0), (6, 0)]), (0, [(4, 0)]), (7, [(5, 0), (1, 0), (5, 0), (2, 0)]), (7, [(5, 0), (1, 0), (5, 0), (3, 0)]), (3, [(0, 0), (2, 0), (7, 0), (0, (-1))]), (4, [(0, 0), (5, 0), (0, 1)]), (2, [(6, 0), (1, 0), (2, 0), (3, 0), (4, 0), (9, 0)]), (3, [(0, 0), (2, 0), (8, 0), (0, (-1))]), (4, [(0, 0), (5, 0), (0, 1)]), (2, [(6, 0), (1, 0), (2, 0), (3, 0), (4, 0), (9, 0)]), (3, [(3, 0), (3, 0), (7, 0), (8, 0)]), (4, [(0, 0), (4, 0), (0, (-1))]), (4, [(0, 0), (5, 0), (0, 1)]), (2, [(6, 0), (1, 0), (2, 0), (3, 0), (9, 0), (10, 0)]), (4, [(0, 0), (4, 0), (0, 1)]), (4, [(0, 0), (5, 0), (0, 1)]), (2, [(6, 0), (1, 0), (2, 0), (3, 0), (9, 0), (10, 0)])]
def zD13 : ZD := [(0, 3, [some (37, (0, 0), (0, 0)), some (23, (1, 0), (0, 0)), some (0, (2, 0), (0, 0)), some (0, (3, 0), (0, 0)), none, none, none, none], 2, zP13_0), (6, 5, [some (37, (0, 0), (0, 0)), some (23, (1, 0), (0, 0)), some (0, (2, 0), (0, 0)), some (0, (3, 0), (0, 0)), some (0, (4, 0), (0, 0)), some (0, (5, 0), (0, 0)), none, none], 19, zP13_6)]
theorem zG13 : z_chk zT13 [] 13 zD13 = true := by decide +kernel
noncomputable def g_Count_leadOf (R : ZR) : ZR := z_psi (z_st (z_F zT13) zD13) R
noncomputable def f_Count_leadOf : ZFn := fun L S => g_Count_leadOf ((1000, L), S)
theorem zM13 : z_met 13 3 [(37, (0, 0), (0, 0)), (23, (1, 0), (0, 0)), (0, (2, 0), (0, 0)), (0, (3, 0), (0, 0))] f_Count_leadOf := z_met_psi zH13 (fun _ _ h => absurd h List.not_mem_nil) rfl zG13
theorem zE13_0 {x1 x2 x3 : Int} {S : ZS} : z_st (z_F zT13) zD13 0 [x1, x2, x3] S = ((1006, [x1, x2, x3, 0, 0]), S) := (id rfl : z_st (z_F zT13) zD13 0 [x1, x2, x3] S = z_ev (z_F zT13) 2 zP13_0 [x1, x2, x3] S).trans (id rfl)
theorem g_Count_leadOf_0 {x1 x2 x3 : Int} {S : ZS} : g_Count_leadOf ((1000, [x1, x2, x3]), S) = (g_Count_leadOf ((1006, [x1, x2, x3, 0, 0]), S)) := by
  unfold g_Count_leadOf
  refine ((z_psi_go (pc := 0)).trans (congrArg _ zE13_0)).trans ?_
  try simp only [z_psi_c, z_psi_b, z_psi_n, Nat.reduceLT, decide_true]
theorem zE13_6 {x1 x2 x3 x4 x5 : Int} {S : ZS} : z_st (z_F zT13) zD13 6 [x1, x2, x3, x4, x5] S = (bif decide ((S r_Section_jurorCount x1 0 0) ≤ x5) then ((0, [x4]), S) else (e_bind (f_Count_placeOn [x1, x5, x2] S) (fun v1 S1 => (e_bind (f_Count_placeOn [x1, x5, x3] S1) (fun v2 S2 => (bif decide (v1 = (-1)) then ((1006, [x1, x2, x3, x4, (e_wr (x5 + 1))]), S2) else (bif decide (v2 = (-1)) then ((1006, [x1, x2, x3, x4, (e_wr (x5 + 1))]), S2) else (bif decide (v2 ≤ v1) then ((1006, [x1, x2, x3, (e_wr (x4 + (-1))), (e_wr (x5 + 1))]), S2) else ((1006, [x1, x2, x3, (e_wr (x4 + 1)), (e_wr (x5 + 1))]), S2))))))))) := (id rfl : z_st (z_F zT13) zD13 6 [x1, x2, x3, x4, x5] S = z_ev (z_F zT13) 19 zP13_6 [x1, x2, x3, x4, x5] S).trans (by
  simp -implicitDefEqProofs only [zP13_6, zF13_5, Nat.zero_add, Nat.reduceAdd, Nat.reduceBEq, Int.reduceToNat, z_e0, z_e1, z_e2, z_e3, z_e4, z_e5, z_e6, z_e7, z_e8, z_e11, z_e13, o_v0, o_v1, o_v2, List.cons_append, List.nil_append, List.map_cons, List.map_nil, List.drop_succ_cons, List.drop_zero, List.take_succ_cons, List.take_zero, e_c0, e_c1, e_c2, e_c3, e_c4, e_c5, e_b0, e_b1, e_b2, e_b3, e_b4, e_b5, e_b6, e_b7, e_b8, e_b9, e_b10, e_b11, e_b12, e_b13, e_b14, e_b15, e_b16, e_b17, e_n0, e_bnd, e_un]
  try rfl)
theorem g_Count_leadOf_6 {x1 x2 x3 x4 x5 : Int} {S : ZS} : g_Count_leadOf ((1006, [x1, x2, x3, x4, x5]), S) = (bif decide ((S r_Section_jurorCount x1 0 0) ≤ x5) then ((0, [x4]), S) else (e_bind (f_Count_placeOn [x1, x5, x2] S) (fun v1 S1 => (e_bind (f_Count_placeOn [x1, x5, x3] S1) (fun v2 S2 => (bif decide (v1 = (-1)) then (g_Count_leadOf ((1006, [x1, x2, x3, x4, (e_wr (x5 + 1))]), S2)) else (bif decide (v2 = (-1)) then (g_Count_leadOf ((1006, [x1, x2, x3, x4, (e_wr (x5 + 1))]), S2)) else (bif decide (v2 ≤ v1) then (g_Count_leadOf ((1006, [x1, x2, x3, (e_wr (x4 + (-1))), (e_wr (x5 + 1))]), S2)) else (g_Count_leadOf ((1006, [x1, x2, x3, (e_wr (x4 + 1)), (e_wr (x5 + 1))]), S2)))))))))) := by
  unfold g_Count_leadOf
  refine ((z_psi_go (pc := 6)).trans (congrArg _ zE13_6)).trans ?_
  try simp only [z_psi_c, z_psi_b, z_psi_n, Nat.reduceLT, decide_true]
def zW13 : List Nat := []
theorem zK13 : z_kp 3 zW13 f_Count_leadOf := fun L S hL hc r i j k hr => z_psi_kp (KT := [(5, 3, zW5)]) (F := z_F zT13) (W := zW13) (D := zD13) (.c zF13_5 zK5 .n) (z_h163 rfl) (by decide +kernel) _ hc r i j k hr

-- Count_winsEachDuel (12)
noncomputable def zT12 : ZT := [(7, 2, [(37, (0, 0), (0, 0)), (23, (1, 0), (0, 0)), (0, (2, 0), (0, 0))], f_Count_isRanked), (13, 3, [(37, (0, 0), (0, 0)), (23, (1, 0), (0, 0)), (0, (2, 0), (0, 0)), (0, (3, 0), (0, 0))], f_Count_leadOf)]
theorem zH12 : z_ok zT12 := .c zM7 (.c zM13 .n)
theorem zF12_7 : z_F zT12 7 = f_Count_isRanked := id rfl
theorem zF12_13 : z_F zT12 13 = f_Count_leadOf := id rfl
def zP12_0 : List ZO := [(2, [(2, 0), (1, 0), (2, 0), (0, 0)])]
def zP12_2 : List ZO := [(3, [(3, 0), (1, 0), (3, 0), (0, 20)]), (0, [(0, 1)]), (3, [(0, 0), (2, 0), (3, 0), (2, 0)]), (4, [(0, 0), (3, 0), (0, 1)]), (2, [(2, 0), (1, 0), (2, 0), (4, 0)]), (7, [(7, 0), (1, 0), (3, 0)]), (3, [(0, 0), (2, 0), (4, 0), (0, 0)]), (4, [(0, 0), (3, 0), (0, 1)]), (2, [(2, 0), (1, 0), (2, 0), (5, 0)]), (7, [(13, 0), (1, 0), (2, 0), (3, 0)]), (3, [(4, 0), (2, 0), (5, 0), (0, 0)]), (4, [(0, 0), (3, 0), (0, 1)]), (2, [(2, 0), (1, 0), (2, 0), (6, 0)]), (0, [(0, 0)])]
def zD12 : ZD := [(0, 2, [some (37, (0, 0), (0, 0)), some (23, (1, 0), (0, 0)), some (0, (2, 0), (0, 0)), none], 2, zP12_0), (2, 3, [some (37, (0, 0), (0, 0)), some (23, (1, 0), (0, 0)), some (0, (2, 0), (0, 0)), some (0, (3, 0), (0, 0))], 15, zP12_2)]
theorem zG12 : z_chk zT12 [] 12 zD12 = true := by decide +kernel
noncomputable def g_Count_winsEachDuel (R : ZR) : ZR := z_psi (z_st (z_F zT12) zD12) R
noncomputable def f_Count_winsEachDuel : ZFn := fun L S => g_Count_winsEachDuel ((1000, L), S)
theorem zM12 : z_met 12 2 [(37, (0, 0), (0, 0)), (23, (1, 0), (0, 0)), (0, (2, 0), (0, 0))] f_Count_winsEachDuel := z_met_psi zH12 (fun _ _ h => absurd h List.not_mem_nil) rfl zG12
theorem zE12_0 {x1 x2 : Int} {S : ZS} : z_st (z_F zT12) zD12 0 [x1, x2] S = ((1002, [x1, x2, 0]), S) := (id rfl : z_st (z_F zT12) zD12 0 [x1, x2] S = z_ev (z_F zT12) 2 zP12_0 [x1, x2] S).trans (id rfl)
theorem g_Count_winsEachDuel_0 {x1 x2 : Int} {S : ZS} : g_Count_winsEachDuel ((1000, [x1, x2]), S) = (g_Count_winsEachDuel ((1002, [x1, x2, 0]), S)) := by
  unfold g_Count_winsEachDuel
  refine ((z_psi_go (pc := 0)).trans (congrArg _ zE12_0)).trans ?_
  try simp only [z_psi_c, z_psi_b, z_psi_n, Nat.reduceLT, decide_true]
theorem zE12_2 {x1 x2 x3 : Int} {S : ZS} : z_st (z_F zT12) zD12 2 [x1, x2, x3] S = (bif decide (20 ≤ x3) then ((0, [1]), S) else (bif decide (x3 = x2) then ((1002, [x1, x2, (e_wr (x3 + 1))]), S) else (e_bind (f_Count_isRanked [x1, x3] S) (fun v1 S1 => (bif decide (v1 = 0) then ((1002, [x1, x2, (e_wr (x3 + 1))]), S1) else (e_bind (f_Count_leadOf [x1, x2, x3] S1) (fun v2 S2 => (bif decide (0 < v2) then ((1002, [x1, x2, (e_wr (x3 + 1))]), S2) else ((0, [0]), S2))))))))) := (id rfl : z_st (z_F zT12) zD12 2 [x1, x2, x3] S = z_ev (z_F zT12) 15 zP12_2 [x1, x2, x3] S).trans (by
  simp -implicitDefEqProofs only [zP12_2, zF12_7, zF12_13, Nat.zero_add, Nat.reduceAdd, Nat.reduceBEq, Int.reduceToNat, z_e0, z_e1, z_e2, z_e3, z_e4, z_e5, z_e6, z_e7, z_e8, z_e11, z_e13, o_v0, o_v1, o_v2, List.cons_append, List.nil_append, List.map_cons, List.map_nil, List.drop_succ_cons, List.drop_zero, List.take_succ_cons, List.take_zero, e_c0, e_c1, e_c2, e_c3, e_c4, e_c5, e_b0, e_b1, e_b2, e_b3, e_b4, e_b5, e_b6, e_b7, e_b8, e_b9, e_b10, e_b11, e_b12, e_b13, e_b14, e_b15, e_b16, e_b17, e_n0, e_bnd, e_un]
  try rfl)
theorem g_Count_winsEachDuel_2 {x1 x2 x3 : Int} {S : ZS} : g_Count_winsEachDuel ((1002, [x1, x2, x3]), S) = (bif decide (20 ≤ x3) then ((0, [1]), S) else (bif decide (x3 = x2) then (g_Count_winsEachDuel ((1002, [x1, x2, (e_wr (x3 + 1))]), S)) else (e_bind (f_Count_isRanked [x1, x3] S) (fun v1 S1 => (bif decide (v1 = 0) then (g_Count_winsEachDuel ((1002, [x1, x2, (e_wr (x3 + 1))]), S1)) else (e_bind (f_Count_leadOf [x1, x2, x3] S1) (fun v2 S2 => (bif decide (0 < v2) then (g_Count_winsEachDuel ((1002, [x1, x2, (e_wr (x3 + 1))]), S2)) else ((0, [0]), S2))))))))) := by
  unfold g_Count_winsEachDuel
  refine ((z_psi_go (pc := 2)).trans (congrArg _ zE12_2)).trans ?_
  try simp only [z_psi_c, z_psi_b, z_psi_n, Nat.reduceLT, decide_true]
def zW12 : List Nat := []
theorem zK12 : z_kp 2 zW12 f_Count_winsEachDuel := fun L S hL hc r i j k hr => z_psi_kp (KT := [(7, 2, zW7), (13, 3, zW13)]) (F := z_F zT12) (W := zW12) (D := zD12) (.c zF12_7 zK7 (.c zF12_13 zK13 .n)) (z_h163 rfl) (by decide +kernel) _ hc r i j k hr

-- Count_byDuels (11)
noncomputable def zT11 : ZT := [(7, 2, [(37, (0, 0), (0, 0)), (23, (1, 0), (0, 0)), (0, (2, 0), (0, 0))], f_Count_isRanked), (10, 2, [(37, (0, 0), (0, 0)), (23, (1, 0), (0, 0)), (0, (2, 0), (0, 0))], f_Count_withMost), (12, 2, [(37, (0, 0), (0, 0)), (23, (1, 0), (0, 0)), (0, (2, 0), (0, 0))], f_Count_winsEachDuel)]
theorem zH11 : z_ok zT11 := .c zM7 (.c zM10 (.c zM12 .n))
theorem zF11_7 : z_F zT11 7 = f_Count_isRanked := id rfl
theorem zF11_10 : z_F zT11 10 = f_Count_withMost := id rfl
theorem zF11_12 : z_F zT11 12 = f_Count_winsEachDuel := id rfl
def zP11_0 : List ZO := [(2, [(2, 0), (1, 0), (0, 0)])]
def zP11_2 : List ZO := [(3, [(3, 0), (2, 0), (2, 0), (0, 20)]), (7, [(10, 0), (1, 0), (0, 1)]), (0, [(3, 0)]), (7, [(7, 0), (1, 0), (2, 0)]), (3, [(0, 0), (2, 0), (3, 0), (0, 0)]), (4, [(0, 0), (2, 0), (0, 1)]), (2, [(2, 0), (1, 0), (4, 0)]), (7, [(12, 0), (1, 0), (2, 0)]), (3, [(0, 0), (2, 0), (4, 0), (0, 0)]), (4, [(0, 0), (2, 0), (0, 1)]), (2, [(2, 0), (1, 0), (5, 0)]), (0, [(2, 0)])]
def zD11 : ZD := [(0, 1, [some (37, (0, 0), (0, 0)), some (23, (1, 0), (0, 0)), none], 2, zP11_0), (2, 2, [some (37, (0, 0), (0, 0)), some (23, (1, 0), (0, 0)), some (0, (2, 0), (0, 0))], 13, zP11_2)]
theorem zG11 : z_chk zT11 [] 11 zD11 = true := by decide +kernel
noncomputable def g_Count_byDuels (R : ZR) : ZR := z_psi (z_st (z_F zT11) zD11) R
noncomputable def f_Count_byDuels : ZFn := fun L S => g_Count_byDuels ((1000, L), S)
theorem zM11 : z_met 11 1 [(37, (0, 0), (0, 0)), (23, (1, 0), (0, 0))] f_Count_byDuels := z_met_psi zH11 (fun _ _ h => absurd h List.not_mem_nil) rfl zG11
theorem zE11_0 {x1 : Int} {S : ZS} : z_st (z_F zT11) zD11 0 [x1] S = ((1002, [x1, 0]), S) := (id rfl : z_st (z_F zT11) zD11 0 [x1] S = z_ev (z_F zT11) 2 zP11_0 [x1] S).trans (id rfl)
theorem g_Count_byDuels_0 {x1 : Int} {S : ZS} : g_Count_byDuels ((1000, [x1]), S) = (g_Count_byDuels ((1002, [x1, 0]), S)) := by
  unfold g_Count_byDuels
  refine ((z_psi_go (pc := 0)).trans (congrArg _ zE11_0)).trans ?_
  try simp only [z_psi_c, z_psi_b, z_psi_n, Nat.reduceLT, decide_true]
theorem zE11_2 {x1 x2 : Int} {S : ZS} : z_st (z_F zT11) zD11 2 [x1, x2] S = (bif decide (20 ≤ x2) then (e_bind (f_Count_withMost [x1, 1] S) (fun v1 S1 => ((0, [v1]), S1))) else (e_bind (f_Count_isRanked [x1, x2] S) (fun v2 S2 => (bif decide (v2 = 0) then ((1002, [x1, (e_wr (x2 + 1))]), S2) else (e_bind (f_Count_winsEachDuel [x1, x2] S2) (fun v3 S3 => (bif decide (v3 = 0) then ((1002, [x1, (e_wr (x2 + 1))]), S3) else ((0, [x2]), S3)))))))) := (id rfl : z_st (z_F zT11) zD11 2 [x1, x2] S = z_ev (z_F zT11) 13 zP11_2 [x1, x2] S).trans (id rfl)
theorem g_Count_byDuels_2 {x1 x2 : Int} {S : ZS} : g_Count_byDuels ((1002, [x1, x2]), S) = (bif decide (20 ≤ x2) then (e_bind (f_Count_withMost [x1, 1] S) (fun v1 S1 => ((0, [v1]), S1))) else (e_bind (f_Count_isRanked [x1, x2] S) (fun v2 S2 => (bif decide (v2 = 0) then (g_Count_byDuels ((1002, [x1, (e_wr (x2 + 1))]), S2)) else (e_bind (f_Count_winsEachDuel [x1, x2] S2) (fun v3 S3 => (bif decide (v3 = 0) then (g_Count_byDuels ((1002, [x1, (e_wr (x2 + 1))]), S3)) else ((0, [x2]), S3)))))))) := by
  unfold g_Count_byDuels
  refine ((z_psi_go (pc := 2)).trans (congrArg _ zE11_2)).trans ?_
  try simp only [z_psi_c, z_psi_b, z_psi_n, Nat.reduceLT, decide_true]
def zW11 : List Nat := []
theorem zK11 : z_kp 1 zW11 f_Count_byDuels := fun L S hL hc r i j k hr => z_psi_kp (KT := [(7, 2, zW7), (10, 2, zW10), (12, 2, zW12)]) (F := z_F zT11) (W := zW11) (D := zD11) (.c zF11_7 zK7 (.c zF11_10 zK10 (.c zF11_12 zK12 .n))) (z_h163 rfl) (by decide +kernel) _ hc r i j k hr

-- Count_findWinner (3)
noncomputable def zT3 : ZT := [(4, 0, [(37, (0, 0), (0, 0)), (4, (0, 0), (0, 0))], f_Count_dropWithdrawn), (10, 2, [(37, (0, 0), (0, 0)), (23, (1, 0), (0, 0)), (0, (2, 0), (0, 0))], f_Count_withMost), (11, 1, [(37, (0, 0), (0, 0)), (23, (1, 0), (0, 0))], f_Count_byDuels), (14, 1, [(37, (0, 0), (0, 0)), (23, (1, 0), (0, 0))], f_Count_byRounds)]
theorem zH3 : z_ok zT3 := .c zM4 (.c zM10 (.c zM11 (.c zM14 .n)))
theorem zF3_4 : z_F zT3 4 = f_Count_dropWithdrawn := id rfl
theorem zF3_10 : z_F zT3 10 = f_Count_withMost := id rfl
theorem zF3_11 : z_F zT3 11 = f_Count_byDuels := id rfl
theorem zF3_14 : z_F zT3 14 = f_Count_byRounds := id rfl
def zP3_0 : List ZO := [(7, [(4, 0)]), (5, [(1349, 0), (1, 0), (0, 0), (0, 0)]), (3, [(1, 0), (10, 0), (3, 0), (0, 98)]), (5, [(1349, 0), (1, 0), (0, 0), (0, 0)]), (3, [(1, 0), (6, 0), (4, 0), (0, 99)]), (5, [(1349, 0), (1, 0), (0, 0), (0, 0)]), (3, [(1, 0), (2, 0), (5, 0), (0, 114)]), (7, [(10, 0), (1, 0), (0, 0)]), (0, [(6, 0)]), (7, [(14, 0), (1, 0)]), (0, [(6, 0)]), (7, [(11, 0), (1, 0)]), (0, [(5, 0)]), (7, [(10, 0), (1, 0), (0, 1)]), (0, [(4, 0)])]
def zC3 : ZC := [(0, 1, [some (37, (0, 0), (0, 0)), some (4, (0, 0), (0, 0)), some (23, (1, 0), (0, 0))])]
theorem zG3 : z_go zC3 (z_A zT3) [] 3 400 true 16 zP3_0 0 [some (37, (0, 0), (0, 0)), some (4, (0, 0), (0, 0)), some (23, (1, 0), (0, 0))] [] 1 = true := by decide +kernel
noncomputable def f_Count_findWinner : ZFn := fun L S => match L with
  | [x1] => (e_bind (f_Count_dropWithdrawn [] S) (fun v1 S1 => (bif !decide ((S1 r_Section_rule x1 0 0) = 98) then (bif !decide ((S1 r_Section_rule x1 0 0) = 99) then (bif !decide ((S1 r_Section_rule x1 0 0) = 114) then (e_bind (f_Count_withMost [x1, 0] S1) (fun v2 S2 => ((0, [v2]), S2))) else (e_bind (f_Count_byRounds [x1] S1) (fun v3 S3 => ((0, [v3]), S3)))) else (e_bind (f_Count_byDuels [x1] S1) (fun v4 S4 => ((0, [v4]), S4)))) else (e_bind (f_Count_withMost [x1, 1] S1) (fun v5 S5 => ((0, [v5]), S5))))))
  | _ => ((0, []), S)
theorem zE3 {x1 : Int} {S : ZS} : z_ev (z_F zT3) 16 zP3_0 [x1] S = f_Count_findWinner [x1] S := by
  simp -implicitDefEqProofs only [zP3_0, zF3_4, zF3_10, zF3_11, zF3_14, Nat.zero_add, Nat.reduceAdd, Nat.reduceBEq, Int.reduceToNat, z_e0, z_e1, z_e2, z_e3, z_e4, z_e5, z_e6, z_e7, z_e8, z_e11, z_e13, o_v0, o_v1, o_v2, List.cons_append, List.nil_append, List.map_cons, List.map_nil, List.drop_succ_cons, List.drop_zero, List.take_succ_cons, List.take_zero, e_c0, e_c1, e_c2, e_c3, e_c4, e_c5, e_b0, e_b1, e_b2, e_b3, e_b4, e_b5, e_b6, e_b7, e_b8, e_b9, e_b10, e_b11, e_b12, e_b13, e_b14, e_b15, e_b16, e_b17, e_n0, e_bnd, e_un]
  try rfl
theorem zM3 : z_met 3 1 [(37, (0, 0), (0, 0)), (4, (0, 0), (0, 0)), (23, (1, 0), (0, 0))] f_Count_findWinner := z_met_ev zH3 (fun _ _ h => absurd h List.not_mem_nil) rfl zG3 (by decide +kernel) (fun L S hn => match L, hn with
  | [x1], _ => zE3)
def zW3 : List Nat := [r_Count_isOut]
theorem zK3 : z_kp 1 zW3 f_Count_findWinner := z_kp_ev (KT := [(4, 0, zW4), (10, 2, zW10), (11, 1, zW11), (14, 1, zW14)]) (.c zF3_4 zK4 (.c zF3_10 zK10 (.c zF3_11 zK11 (.c zF3_14 zK14 .n)))) (z_h163 rfl) (by decide +kernel) (fun L S hn => match L, hn with
  | [x1], _ => zE3)

-- Count_tallyBallot (18)
def zT18 : ZT := []
theorem zH18 : z_ok zT18 := .n
def zP18_0 : List ZO := [(5, [(1477, 0), (1, 0), (2, 0), (0, 0)]), (4, [(1, 0), (4, 0), (0, 1)]), (2, [(13, 0), (1, 0), (2, 0), (3, 0), (0, 0), (0, (-1)), (5, 0)])]
def zP18_13 : List ZO := [(3, [(2, 0), (14, 0), (6, 0), (0, 0)]), (3, [(0, 0), (3, 0), (5, 0), (0, (-1))]), (3, [(0, 0), (1, 0), (5, 0), (0, (-1))]), (0, [(0, 0)]), (0, [(0, 1)]), (3, [(1, 0), (3, 0), (3, 0), (0, 0)]), (3, [(0, 0), (1, 0), (5, 0), (0, (-1))]), (0, [(0, 0)]), (0, [(0, 1)]), (5, [(2432, 0), (0, 0), (0, 0), (5, 0)]), (4, [(0, 0), (7, 0), (0, 1)]), (6, [(2432, 0), (0, 0), (0, 0), (0, 0), (5, 0), (8, 0)]), (3, [(0, 0), (1, 0), (5, 0), (0, (-1))]), (0, [(0, 0)]), (0, [(0, 1)]), (5, [(1600, 0), (1, 0), (2, 0), (6, 0)]), (5, [(2304, 0), (0, 0), (0, 0), (7, 0)]), (3, [(1, 0), (2, 0), (8, 0), (0, 0)]), (4, [(0, 0), (6, 0), (0, (-1))]), (2, [(13, 0), (1, 0), (2, 0), (3, 0), (4, 0), (5, 0), (9, 0)]), (6, [(2368, 0), (1, 0), (0, 0), (0, 0), (7, 0), (0, 1)]), (5, [(2432, 0), (0, 0), (0, 0), (7, 0)]), (3, [(0, 0), (4, 0), (3, 0), (0, 0)]), (4, [(0, 0), (9, 0), (0, 0)]), (6, [(2432, 0), (0, 0), (0, 0), (0, 0), (7, 0), (10, 0)]), (4, [(0, 0), (4, 0), (0, 1)]), (2, [(74, 0), (1, 0), (2, 0), (3, 0), (11, 0), (7, 0), (6, 0), (7, 0), (0, 0)]), (4, [(0, 0), (9, 0), (4, 0)]), (6, [(2432, 0), (0, 0), (0, 0), (0, 0), (7, 0), (10, 0)]), (4, [(0, 0), (4, 0), (0, 1)]), (2, [(74, 0), (1, 0), (2, 0), (3, 0), (11, 0), (7, 0), (6, 0), (7, 0), (0, 0)])]
def zP18_74 : List ZO := [(3, [(3, 0), (2, 0), (8, 0), (6, 0)]), (4, [(0, 0), (6, 0), (0, (-1))]), (2, [(13, 0), (1, 0), (2, 0), (3, 0), (4, 0), (5, 0), (9, 0)]), (5, [(1600, 0), (1, 0), (2, 0), (8, 0)]), (5, [(2560, 0), (9, 0), (0, 0), (7, 0)]), (4, [(0, 0), (10, 0), (0, 1)]), (6, [(2560, 0), (0, 0), (9, 0), (0, 0), (7, 0), (11, 0)]), (5, [(1600, 0), (1, 0), (2, 0), (8, 0)]), (5, [(2560, 0), (7, 0), (0, 0), (12, 0)]), (4, [(1, 0), (13, 0), (0, 1)]), (6, [(2560, 0), (0, 0), (7, 0), (0, 0), (12, 0), (14, 0)]), (4, [(0, 0), (8, 0), (0, 1)]), (2, [(74, 0), (1, 0), (2, 0), (3, 0), (4, 0), (5, 0), (6, 0), (7, 0), (15, 0)])]
def zD18 : ZD := [(0, 3, [some (37, (0, 0), (0, 0)), some (25, (1, 0), (2, 0)), some (0, (3, 0), (0, 0)), none, none, none, none, none], 4, zP18_0), (13, 6, [some (37, (0, 0), (0, 0)), some (25, (1, 0), (2, 0)), some (0, (3, 0), (0, 0)), some (0, (4, 0), (0, 0)), some (0, (5, 0), (0, 0)), some (0, (6, 0), (0, 0)), none, none], 32, zP18_13), (74, 8, [some (37, (0, 0), (0, 0)), some (25, (1, 0), (2, 0)), some (0, (3, 0), (0, 0)), some (0, (4, 0), (0, 0)), some (0, (5, 0), (0, 0)), some (0, (6, 0), (0, 0)), some (0, (7, 0), (0, 0)), some (0, (8, 0), (0, 0))], 14, zP18_74)]
theorem zG18 : z_chk zT18 [] 18 zD18 = true := by decide +kernel
noncomputable def g_Count_tallyBallot (R : ZR) : ZR := z_psi (z_st (z_F zT18) zD18) R
noncomputable def f_Count_tallyBallot : ZFn := fun L S => g_Count_tallyBallot ((1000, L), S)
theorem zM18 : z_met 18 3 [(37, (0, 0), (0, 0)), (25, (1, 0), (2, 0)), (0, (3, 0), (0, 0))] f_Count_tallyBallot := z_met_psi zH18 (fun _ _ h => absurd h List.not_mem_nil) rfl zG18
theorem zE18_0 {x1 x2 x3 : Int} {S : ZS} : z_st (z_F zT18) zD18 0 [x1, x2, x3] S = ((1013, [x1, x2, x3, 0, (-1), (e_wr ((S r_Juror_ballotSize x1 x2 0) - 1))]), S) := (id rfl : z_st (z_F zT18) zD18 0 [x1, x2, x3] S = z_ev (z_F zT18) 4 zP18_0 [x1, x2, x3] S).trans (id rfl)
theorem g_Count_tallyBallot_0 {x1 x2 x3 : Int} {S : ZS} : g_Count_tallyBallot ((1000, [x1, x2, x3]), S) = (g_Count_tallyBallot ((1013, [x1, x2, x3, 0, (-1), (e_wr ((S r_Juror_ballotSize x1 x2 0) - 1))]), S)) := by
  unfold g_Count_tallyBallot
  refine ((z_psi_go (pc := 0)).trans (congrArg _ zE18_0)).trans ?_
  try simp only [z_psi_c, z_psi_b, z_psi_n, Nat.reduceLT, decide_true]
theorem zE18_13 {x1 x2 x3 x4 x5 x6 : Int} {S : ZS} : z_st (z_F zT18) zD18 13 [x1, x2, x3, x4, x5, x6] S = (bif decide (x6 < 0) then (bif decide (x5 = (-1)) then (bif decide (x5 = (-1)) then ((0, [0]), S) else ((0, [1]), S)) else (bif !decide (x3 = 0) then (bif decide (x5 = (-1)) then ((0, [0]), S) else ((0, [1]), S)) else (bif decide (x5 = (-1)) then ((0, [0]), (e_upd S r_Count_tally 0 0 x5 (e_wr ((S r_Count_tally 0 0 x5) + 1)))) else ((0, [1]), (e_upd S r_Count_tally 0 0 x5 (e_wr ((S r_Count_tally 0 0 x5) + 1))))))) else (bif !decide ((S r_Count_isOut 0 0 (S r_Juror_ballot x1 x2 x6)) = 0) then ((1013, [x1, x2, x3, x4, x5, (e_wr (x6 + (-1)))]), S) else (bif decide (x3 = 0) then ((1074, [x1, x2, x3, (e_wr (x4 + 1)), (S r_Juror_ballot x1 x2 x6), x6, (S r_Juror_ballot x1 x2 x6), 0]), (e_upd (e_upd S r_Count_isOnBallot 0 0 (S r_Juror_ballot x1 x2 x6) (e_nar 1 1)) r_Count_tally 0 0 (S r_Juror_ballot x1 x2 x6) (e_wr ((S r_Count_tally 0 0 (S r_Juror_ballot x1 x2 x6)) + 0)))) else ((1074, [x1, x2, x3, (e_wr (x4 + 1)), (S r_Juror_ballot x1 x2 x6), x6, (S r_Juror_ballot x1 x2 x6), 0]), (e_upd (e_upd S r_Count_isOnBallot 0 0 (S r_Juror_ballot x1 x2 x6) (e_nar 1 1)) r_Count_tally 0 0 (S r_Juror_ballot x1 x2 x6) (e_wr ((S r_Count_tally 0 0 (S r_Juror_ballot x1 x2 x6)) + x4))))))) := (id rfl : z_st (z_F zT18) zD18 13 [x1, x2, x3, x4, x5, x6] S = z_ev (z_F zT18) 32 zP18_13 [x1, x2, x3, x4, x5, x6] S).trans (by
  simp -implicitDefEqProofs only [zP18_13, Nat.zero_add, Nat.reduceAdd, Nat.reduceBEq, Int.reduceToNat, z_e0, z_e1, z_e2, z_e3, z_e4, z_e5, z_e6, z_e7, z_e8, z_e11, z_e13, o_v0, o_v1, o_v2, List.cons_append, List.nil_append, List.map_cons, List.map_nil, List.drop_succ_cons, List.drop_zero, List.take_succ_cons, List.take_zero, e_c0, e_c1, e_c2, e_c3, e_c4, e_c5, e_b0, e_b1, e_b2, e_b3, e_b4, e_b5, e_b6, e_b7, e_b8, e_b9, e_b10, e_b11, e_b12, e_b13, e_b14, e_b15, e_b16, e_b17, e_n0, e_bnd, e_un]
  try rfl)
theorem g_Count_tallyBallot_13 {x1 x2 x3 x4 x5 x6 : Int} {S : ZS} : g_Count_tallyBallot ((1013, [x1, x2, x3, x4, x5, x6]), S) = (bif decide (x6 < 0) then (bif decide (x5 = (-1)) then (bif decide (x5 = (-1)) then ((0, [0]), S) else ((0, [1]), S)) else (bif !decide (x3 = 0) then (bif decide (x5 = (-1)) then ((0, [0]), S) else ((0, [1]), S)) else (bif decide (x5 = (-1)) then ((0, [0]), (e_upd S r_Count_tally 0 0 x5 (e_wr ((S r_Count_tally 0 0 x5) + 1)))) else ((0, [1]), (e_upd S r_Count_tally 0 0 x5 (e_wr ((S r_Count_tally 0 0 x5) + 1))))))) else (bif !decide ((S r_Count_isOut 0 0 (S r_Juror_ballot x1 x2 x6)) = 0) then (g_Count_tallyBallot ((1013, [x1, x2, x3, x4, x5, (e_wr (x6 + (-1)))]), S)) else (bif decide (x3 = 0) then (g_Count_tallyBallot ((1074, [x1, x2, x3, (e_wr (x4 + 1)), (S r_Juror_ballot x1 x2 x6), x6, (S r_Juror_ballot x1 x2 x6), 0]), (e_upd (e_upd S r_Count_isOnBallot 0 0 (S r_Juror_ballot x1 x2 x6) (e_nar 1 1)) r_Count_tally 0 0 (S r_Juror_ballot x1 x2 x6) (e_wr ((S r_Count_tally 0 0 (S r_Juror_ballot x1 x2 x6)) + 0))))) else (g_Count_tallyBallot ((1074, [x1, x2, x3, (e_wr (x4 + 1)), (S r_Juror_ballot x1 x2 x6), x6, (S r_Juror_ballot x1 x2 x6), 0]), (e_upd (e_upd S r_Count_isOnBallot 0 0 (S r_Juror_ballot x1 x2 x6) (e_nar 1 1)) r_Count_tally 0 0 (S r_Juror_ballot x1 x2 x6) (e_wr ((S r_Count_tally 0 0 (S r_Juror_ballot x1 x2 x6)) + x4)))))))) := by
  unfold g_Count_tallyBallot
  refine ((z_psi_go (pc := 13)).trans (congrArg _ zE18_13)).trans ?_
  try simp only [z_psi_c, z_psi_b, z_psi_n, Nat.reduceLT, decide_true]
theorem zE18_74 {x1 x2 x3 x4 x5 x6 x7 x8 : Int} {S : ZS} : z_st (z_F zT18) zD18 74 [x1, x2, x3, x4, x5, x6, x7, x8] S = (bif decide (x6 ≤ x8) then ((1013, [x1, x2, x3, x4, x5, (e_wr (x6 + (-1)))]), S) else ((1074, [x1, x2, x3, x4, x5, x6, x7, (e_wr (x8 + 1))]), (e_upd (e_upd S r_Count_leads_r (S r_Juror_ballot x1 x2 x8) 0 x7 (e_wr ((S r_Count_leads_r (S r_Juror_ballot x1 x2 x8) 0 x7) + 1))) r_Count_leads_r x7 0 (S r_Juror_ballot x1 x2 x8) (e_wr (((e_upd S r_Count_leads_r (S r_Juror_ballot x1 x2 x8) 0 x7 (e_wr ((S r_Count_leads_r (S r_Juror_ballot x1 x2 x8) 0 x7) + 1))) r_Count_leads_r x7 0 (S r_Juror_ballot x1 x2 x8)) - 1))))) := (id rfl : z_st (z_F zT18) zD18 74 [x1, x2, x3, x4, x5, x6, x7, x8] S = z_ev (z_F zT18) 14 zP18_74 [x1, x2, x3, x4, x5, x6, x7, x8] S).trans (by
  simp -implicitDefEqProofs only [zP18_74, Nat.zero_add, Nat.reduceAdd, Nat.reduceBEq, Int.reduceToNat, z_e0, z_e1, z_e2, z_e3, z_e4, z_e5, z_e6, z_e7, z_e8, z_e11, z_e13, o_v0, o_v1, o_v2, List.cons_append, List.nil_append, List.map_cons, List.map_nil, List.drop_succ_cons, List.drop_zero, List.take_succ_cons, List.take_zero, e_c0, e_c1, e_c2, e_c3, e_c4, e_c5, e_b0, e_b1, e_b2, e_b3, e_b4, e_b5, e_b6, e_b7, e_b8, e_b9, e_b10, e_b11, e_b12, e_b13, e_b14, e_b15, e_b16, e_b17, e_n0, e_bnd, e_un]
  try rfl)
theorem g_Count_tallyBallot_74 {x1 x2 x3 x4 x5 x6 x7 x8 : Int} {S : ZS} : g_Count_tallyBallot ((1074, [x1, x2, x3, x4, x5, x6, x7, x8]), S) = (bif decide (x6 ≤ x8) then (g_Count_tallyBallot ((1013, [x1, x2, x3, x4, x5, (e_wr (x6 + (-1)))]), S)) else (g_Count_tallyBallot ((1074, [x1, x2, x3, x4, x5, x6, x7, (e_wr (x8 + 1))]), (e_upd (e_upd S r_Count_leads_r (S r_Juror_ballot x1 x2 x8) 0 x7 (e_wr ((S r_Count_leads_r (S r_Juror_ballot x1 x2 x8) 0 x7) + 1))) r_Count_leads_r x7 0 (S r_Juror_ballot x1 x2 x8) (e_wr (((e_upd S r_Count_leads_r (S r_Juror_ballot x1 x2 x8) 0 x7 (e_wr ((S r_Count_leads_r (S r_Juror_ballot x1 x2 x8) 0 x7) + 1))) r_Count_leads_r x7 0 (S r_Juror_ballot x1 x2 x8)) - 1)))))) := by
  unfold g_Count_tallyBallot
  refine ((z_psi_go (pc := 74)).trans (congrArg _ zE18_74)).trans ?_
  try simp only [z_psi_c, z_psi_b, z_psi_n, Nat.reduceLT, decide_true]
def zW18 : List Nat := [r_Count_isOnBallot, r_Count_tally, r_Count_leads_r]
theorem zK18 : z_kp 3 zW18 f_Count_tallyBallot := fun L S hL hc r i j k hr => z_psi_kp (KT := []) (F := z_F zT18) (W := zW18) (D := zD18) (.n) (z_h163 rfl) (by decide +kernel) _ hc r i j k hr

-- Count_tallyBallots (17)
noncomputable def zT17 : ZT := [(18, 3, [(37, (0, 0), (0, 0)), (25, (1, 0), (2, 0)), (0, (3, 0), (0, 0))], f_Count_tallyBallot)]
theorem zH17 : z_ok zT17 := .c zM18 .n
theorem zF17_18 : z_F zT17 18 = f_Count_tallyBallot := id rfl
def zP17_0 : List ZO := [(2, [(5, 0), (1, 0), (2, 0), (0, 0), (0, 0)])]
def zP17_5 : List ZO := [(3, [(3, 0), (1, 0), (4, 0), (0, 20)]), (2, [(64, 0), (1, 0), (2, 0), (3, 0), (0, 0)]), (6, [(2432, 0), (0, 0), (0, 0), (0, 0), (4, 0), (0, 0)]), (6, [(2368, 0), (1, 0), (0, 0), (0, 0), (4, 0), (0, 0)]), (2, [(31, 0), (1, 0), (2, 0), (3, 0), (4, 0), (0, 0)])]
def zP17_31 : List ZO := [(3, [(3, 0), (2, 0), (5, 0), (0, 20)]), (4, [(0, 0), (4, 0), (0, 1)]), (2, [(5, 0), (1, 0), (2, 0), (3, 0), (6, 0)]), (6, [(2560, 0), (0, 0), (4, 0), (0, 0), (5, 0), (0, 0)]), (4, [(0, 0), (5, 0), (0, 1)]), (2, [(31, 0), (1, 0), (2, 0), (3, 0), (4, 0), (6, 0)])]
def zP17_64 : List ZO := [(5, [(1352, 0), (1, 0), (0, 0), (0, 0)]), (3, [(3, 0), (1, 0), (4, 0), (5, 0)]), (0, [(3, 0)]), (7, [(18, 0), (1, 0), (4, 0), (2, 0)]), (3, [(0, 0), (2, 0), (6, 0), (0, 0)]), (4, [(0, 0), (4, 0), (0, 1)]), (2, [(64, 0), (1, 0), (2, 0), (3, 0), (7, 0)]), (4, [(0, 0), (3, 0), (0, 1)]), (4, [(0, 0), (4, 0), (0, 1)]), (2, [(64, 0), (1, 0), (2, 0), (7, 0), (8, 0)])]
def zD17 : ZD := [(0, 2, [some (37, (0, 0), (0, 0)), some (23, (1, 0), (0, 0)), some (0, (2, 0), (0, 0)), none, none, none], 2, zP17_0), (5, 4, [some (37, (0, 0), (0, 0)), some (23, (1, 0), (0, 0)), some (0, (2, 0), (0, 0)), some (0, (3, 0), (0, 0)), some (0, (4, 0), (0, 0)), none], 6, zP17_5), (31, 5, [some (37, (0, 0), (0, 0)), some (23, (1, 0), (0, 0)), some (0, (2, 0), (0, 0)), some (0, (3, 0), (0, 0)), some (0, (4, 0), (0, 0)), some (0, (5, 0), (0, 0))], 7, zP17_31), (64, 4, [some (37, (0, 0), (0, 0)), some (23, (1, 0), (0, 0)), some (0, (2, 0), (0, 0)), some (0, (3, 0), (0, 0)), some (0, (4, 0), (0, 0)), none], 11, zP17_64)]
theorem zG17 : z_chk zT17 [] 17 zD17 = true := by decide +kernel
noncomputable def g_Count_tallyBallots (R : ZR) : ZR := z_psi (z_st (z_F zT17) zD17) R
noncomputable def f_Count_tallyBallots : ZFn := fun L S => g_Count_tallyBallots ((1000, L), S)
theorem zM17 : z_met 17 2 [(37, (0, 0), (0, 0)), (23, (1, 0), (0, 0)), (0, (2, 0), (0, 0))] f_Count_tallyBallots := z_met_psi zH17 (fun _ _ h => absurd h List.not_mem_nil) rfl zG17
theorem zE17_0 {x1 x2 : Int} {S : ZS} : z_st (z_F zT17) zD17 0 [x1, x2] S = ((1005, [x1, x2, 0, 0]), S) := (id rfl : z_st (z_F zT17) zD17 0 [x1, x2] S = z_ev (z_F zT17) 2 zP17_0 [x1, x2] S).trans (id rfl)
theorem g_Count_tallyBallots_0 {x1 x2 : Int} {S : ZS} : g_Count_tallyBallots ((1000, [x1, x2]), S) = (g_Count_tallyBallots ((1005, [x1, x2, 0, 0]), S)) := by
  unfold g_Count_tallyBallots
  refine ((z_psi_go (pc := 0)).trans (congrArg _ zE17_0)).trans ?_
  try simp only [z_psi_c, z_psi_b, z_psi_n, Nat.reduceLT, decide_true]
theorem zE17_5 {x1 x2 x3 x4 : Int} {S : ZS} : z_st (z_F zT17) zD17 5 [x1, x2, x3, x4] S = (bif decide (20 ≤ x4) then ((1064, [x1, x2, x3, 0]), S) else ((1031, [x1, x2, x3, x4, 0]), (e_upd (e_upd S r_Count_tally 0 0 x4 0) r_Count_isOnBallot 0 0 x4 (e_nar 1 0)))) := (id rfl : z_st (z_F zT17) zD17 5 [x1, x2, x3, x4] S = z_ev (z_F zT17) 6 zP17_5 [x1, x2, x3, x4] S).trans (id rfl)
theorem g_Count_tallyBallots_5 {x1 x2 x3 x4 : Int} {S : ZS} : g_Count_tallyBallots ((1005, [x1, x2, x3, x4]), S) = (bif decide (20 ≤ x4) then (g_Count_tallyBallots ((1064, [x1, x2, x3, 0]), S)) else (g_Count_tallyBallots ((1031, [x1, x2, x3, x4, 0]), (e_upd (e_upd S r_Count_tally 0 0 x4 0) r_Count_isOnBallot 0 0 x4 (e_nar 1 0))))) := by
  unfold g_Count_tallyBallots
  refine ((z_psi_go (pc := 5)).trans (congrArg _ zE17_5)).trans ?_
  try simp only [z_psi_c, z_psi_b, z_psi_n, Nat.reduceLT, decide_true]
theorem zE17_31 {x1 x2 x3 x4 x5 : Int} {S : ZS} : z_st (z_F zT17) zD17 31 [x1, x2, x3, x4, x5] S = (bif decide (20 ≤ x5) then ((1005, [x1, x2, x3, (e_wr (x4 + 1))]), S) else ((1031, [x1, x2, x3, x4, (e_wr (x5 + 1))]), (e_upd S r_Count_leads_r x4 0 x5 0))) := (id rfl : z_st (z_F zT17) zD17 31 [x1, x2, x3, x4, x5] S = z_ev (z_F zT17) 7 zP17_31 [x1, x2, x3, x4, x5] S).trans (id rfl)
theorem g_Count_tallyBallots_31 {x1 x2 x3 x4 x5 : Int} {S : ZS} : g_Count_tallyBallots ((1031, [x1, x2, x3, x4, x5]), S) = (bif decide (20 ≤ x5) then (g_Count_tallyBallots ((1005, [x1, x2, x3, (e_wr (x4 + 1))]), S)) else (g_Count_tallyBallots ((1031, [x1, x2, x3, x4, (e_wr (x5 + 1))]), (e_upd S r_Count_leads_r x4 0 x5 0)))) := by
  unfold g_Count_tallyBallots
  refine ((z_psi_go (pc := 31)).trans (congrArg _ zE17_31)).trans ?_
  try simp only [z_psi_c, z_psi_b, z_psi_n, Nat.reduceLT, decide_true]
theorem zE17_64 {x1 x2 x3 x4 : Int} {S : ZS} : z_st (z_F zT17) zD17 64 [x1, x2, x3, x4] S = (bif decide ((S r_Section_jurorCount x1 0 0) ≤ x4) then ((0, [x3]), S) else (e_bind (f_Count_tallyBallot [x1, x4, x2] S) (fun v1 S1 => (bif decide (v1 = 0) then ((1064, [x1, x2, x3, (e_wr (x4 + 1))]), S1) else ((1064, [x1, x2, (e_wr (x3 + 1)), (e_wr (x4 + 1))]), S1))))) := (id rfl : z_st (z_F zT17) zD17 64 [x1, x2, x3, x4] S = z_ev (z_F zT17) 11 zP17_64 [x1, x2, x3, x4] S).trans (id rfl)
theorem g_Count_tallyBallots_64 {x1 x2 x3 x4 : Int} {S : ZS} : g_Count_tallyBallots ((1064, [x1, x2, x3, x4]), S) = (bif decide ((S r_Section_jurorCount x1 0 0) ≤ x4) then ((0, [x3]), S) else (e_bind (f_Count_tallyBallot [x1, x4, x2] S) (fun v1 S1 => (bif decide (v1 = 0) then (g_Count_tallyBallots ((1064, [x1, x2, x3, (e_wr (x4 + 1))]), S1)) else (g_Count_tallyBallots ((1064, [x1, x2, (e_wr (x3 + 1)), (e_wr (x4 + 1))]), S1)))))) := by
  unfold g_Count_tallyBallots
  refine ((z_psi_go (pc := 64)).trans (congrArg _ zE17_64)).trans ?_
  try simp only [z_psi_c, z_psi_b, z_psi_n, Nat.reduceLT, decide_true]
def zW17 : List Nat := [r_Count_isOnBallot, r_Count_tally, r_Count_leads_r]
theorem zK17 : z_kp 2 zW17 f_Count_tallyBallots := fun L S hL hc r i j k hr => z_psi_kp (KT := [(18, 3, zW18)]) (F := z_F zT17) (W := zW17) (D := zD17) (.c zF17_18 zK18 .n) (z_h163 rfl) (by decide +kernel) _ hc r i j k hr

-- Count_tallied (19)
def zT19 : ZT := []
theorem zH19 : z_ok zT19 := .n
def zP19_0 : List ZO := [(2, [(5, 0), (0, (-1)), (0, 19)])]
def zP19_5 : List ZO := [(3, [(2, 0), (1, 0), (2, 0), (0, 0)]), (0, [(1, 0)]), (5, [(2368, 0), (0, 0), (0, 0), (2, 0)]), (3, [(0, 0), (2, 0), (3, 0), (0, 0)]), (4, [(0, 0), (2, 0), (0, (-1))]), (2, [(5, 0), (1, 0), (4, 0)]), (3, [(0, 0), (2, 0), (1, 0), (0, (-1))]), (4, [(0, 0), (2, 0), (0, (-1))]), (2, [(5, 0), (2, 0), (4, 0)]), (5, [(2432, 0), (0, 0), (0, 0), (2, 0)]), (5, [(2432, 0), (0, 0), (0, 0), (1, 0)]), (3, [(2, 0), (2, 0), (4, 0), (5, 0)]), (4, [(0, 0), (2, 0), (0, (-1))]), (2, [(5, 0), (1, 0), (6, 0)]), (4, [(0, 0), (2, 0), (0, (-1))]), (2, [(5, 0), (2, 0), (6, 0)])]
def zD19 : ZD := [(0, 0, [some (37, (0, 0), (0, 0)), none, none], 2, zP19_0), (5, 2, [some (37, (0, 0), (0, 0)), some (0, (1, 0), (0, 0)), some (0, (2, 0), (0, 0))], 17, zP19_5)]
theorem zG19 : z_chk zT19 [] 19 zD19 = true := by decide +kernel
noncomputable def g_Count_tallied (R : ZR) : ZR := z_psi (z_st (z_F zT19) zD19) R
noncomputable def f_Count_tallied : ZFn := fun L S => g_Count_tallied ((1000, L), S)
theorem zM19 : z_met 19 0 [(37, (0, 0), (0, 0))] f_Count_tallied := z_met_psi zH19 (fun _ _ h => absurd h List.not_mem_nil) rfl zG19
theorem zE19_0 {S : ZS} : z_st (z_F zT19) zD19 0 [] S = ((1005, [(-1), 19]), S) := (id rfl : z_st (z_F zT19) zD19 0 [] S = z_ev (z_F zT19) 2 zP19_0 [] S).trans (id rfl)
theorem g_Count_tallied_0 {S : ZS} : g_Count_tallied ((1000, []), S) = (g_Count_tallied ((1005, [(-1), 19]), S)) := by
  unfold g_Count_tallied
  refine ((z_psi_go (pc := 0)).trans (congrArg _ zE19_0)).trans ?_
  try simp only [z_psi_c, z_psi_b, z_psi_n, Nat.reduceLT, decide_true]
theorem zE19_5 {x1 x2 : Int} {S : ZS} : z_st (z_F zT19) zD19 5 [x1, x2] S = (bif decide (x2 < 0) then ((0, [x1]), S) else (bif decide ((S r_Count_isOnBallot 0 0 x2) = 0) then ((1005, [x1, (e_wr (x2 + (-1)))]), S) else (bif decide (x1 = (-1)) then ((1005, [x2, (e_wr (x2 + (-1)))]), S) else (bif decide ((S r_Count_tally 0 0 x2) < (S r_Count_tally 0 0 x1)) then ((1005, [x1, (e_wr (x2 + (-1)))]), S) else ((1005, [x2, (e_wr (x2 + (-1)))]), S))))) := (id rfl : z_st (z_F zT19) zD19 5 [x1, x2] S = z_ev (z_F zT19) 17 zP19_5 [x1, x2] S).trans (by
  simp -implicitDefEqProofs only [zP19_5, Nat.zero_add, Nat.reduceAdd, Nat.reduceBEq, Int.reduceToNat, z_e0, z_e1, z_e2, z_e3, z_e4, z_e5, z_e6, z_e7, z_e8, z_e11, z_e13, o_v0, o_v1, o_v2, List.cons_append, List.nil_append, List.map_cons, List.map_nil, List.drop_succ_cons, List.drop_zero, List.take_succ_cons, List.take_zero, e_c0, e_c1, e_c2, e_c3, e_c4, e_c5, e_b0, e_b1, e_b2, e_b3, e_b4, e_b5, e_b6, e_b7, e_b8, e_b9, e_b10, e_b11, e_b12, e_b13, e_b14, e_b15, e_b16, e_b17, e_n0, e_bnd, e_un]
  try rfl)
theorem g_Count_tallied_5 {x1 x2 : Int} {S : ZS} : g_Count_tallied ((1005, [x1, x2]), S) = (bif decide (x2 < 0) then ((0, [x1]), S) else (bif decide ((S r_Count_isOnBallot 0 0 x2) = 0) then (g_Count_tallied ((1005, [x1, (e_wr (x2 + (-1)))]), S)) else (bif decide (x1 = (-1)) then (g_Count_tallied ((1005, [x2, (e_wr (x2 + (-1)))]), S)) else (bif decide ((S r_Count_tally 0 0 x2) < (S r_Count_tally 0 0 x1)) then (g_Count_tallied ((1005, [x1, (e_wr (x2 + (-1)))]), S)) else (g_Count_tallied ((1005, [x2, (e_wr (x2 + (-1)))]), S)))))) := by
  unfold g_Count_tallied
  refine ((z_psi_go (pc := 5)).trans (congrArg _ zE19_5)).trans ?_
  try simp only [z_psi_c, z_psi_b, z_psi_n, Nat.reduceLT, decide_true]
def zW19 : List Nat := []
theorem zK19 : z_kp 0 zW19 f_Count_tallied := fun L S hL hc r i j k hr => z_psi_kp (KT := []) (F := z_F zT19) (W := zW19) (D := zD19) (.n) (z_h163 rfl) (by decide +kernel) _ hc r i j k hr

-- Count_recountDuels (20)
def zT20 : ZT := []
theorem zH20 : z_ok zT20 := .n
def zP20_0 : List ZO := [(2, [(2, 0), (0, 0)])]
def zP20_2 : List ZO := [(3, [(3, 0), (1, 0), (1, 0), (0, 20)]), (0, [(0, (-1))]), (5, [(2368, 0), (0, 0), (0, 0), (1, 0)]), (2, [(17, 0), (1, 0), (2, 0), (0, 0)])]
def zP20_17 : List ZO := [(3, [(3, 0), (4, 0), (3, 0), (0, 20)]), (3, [(0, 0), (2, 0), (2, 0), (0, 0)]), (4, [(0, 0), (1, 0), (0, 1)]), (2, [(2, 0), (4, 0)]), (0, [(1, 0)]), (3, [(0, 0), (2, 0), (3, 0), (1, 0)]), (4, [(0, 0), (3, 0), (0, 1)]), (2, [(17, 0), (1, 0), (2, 0), (4, 0)]), (5, [(2368, 0), (0, 0), (0, 0), (3, 0)]), (3, [(0, 0), (2, 0), (4, 0), (0, 0)]), (4, [(0, 0), (3, 0), (0, 1)]), (2, [(17, 0), (1, 0), (2, 0), (5, 0)]), (5, [(2560, 0), (1, 0), (0, 0), (3, 0)]), (3, [(4, 0), (2, 0), (5, 0), (0, 0)]), (4, [(0, 0), (3, 0), (0, 1)]), (2, [(17, 0), (1, 0), (2, 0), (6, 0)]), (4, [(0, 0), (3, 0), (0, 1)]), (2, [(17, 0), (1, 0), (0, 0), (6, 0)])]
def zD20 : ZD := [(0, 0, [some (37, (0, 0), (0, 0)), none, none, none], 2, zP20_0), (2, 1, [some (37, (0, 0), (0, 0)), some (0, (1, 0), (0, 0)), none, none], 5, zP20_2), (17, 3, [some (37, (0, 0), (0, 0)), some (0, (1, 0), (0, 0)), some (0, (2, 0), (0, 0)), some (0, (3, 0), (0, 0))], 19, zP20_17)]
theorem zG20 : z_chk zT20 [] 20 zD20 = true := by decide +kernel
noncomputable def g_Count_recountDuels (R : ZR) : ZR := z_psi (z_st (z_F zT20) zD20) R
noncomputable def f_Count_recountDuels : ZFn := fun L S => g_Count_recountDuels ((1000, L), S)
theorem zM20 : z_met 20 0 [(37, (0, 0), (0, 0))] f_Count_recountDuels := z_met_psi zH20 (fun _ _ h => absurd h List.not_mem_nil) rfl zG20
theorem zE20_0 {S : ZS} : z_st (z_F zT20) zD20 0 [] S = ((1002, [0]), S) := (id rfl : z_st (z_F zT20) zD20 0 [] S = z_ev (z_F zT20) 2 zP20_0 [] S).trans (id rfl)
theorem g_Count_recountDuels_0 {S : ZS} : g_Count_recountDuels ((1000, []), S) = (g_Count_recountDuels ((1002, [0]), S)) := by
  unfold g_Count_recountDuels
  refine ((z_psi_go (pc := 0)).trans (congrArg _ zE20_0)).trans ?_
  try simp only [z_psi_c, z_psi_b, z_psi_n, Nat.reduceLT, decide_true]
theorem zE20_2 {x1 : Int} {S : ZS} : z_st (z_F zT20) zD20 2 [x1] S = (bif decide (20 ≤ x1) then ((0, [(-1)]), S) else ((1017, [x1, (S r_Count_isOnBallot 0 0 x1), 0]), S)) := (id rfl : z_st (z_F zT20) zD20 2 [x1] S = z_ev (z_F zT20) 5 zP20_2 [x1] S).trans (id rfl)
theorem g_Count_recountDuels_2 {x1 : Int} {S : ZS} : g_Count_recountDuels ((1002, [x1]), S) = (bif decide (20 ≤ x1) then ((0, [(-1)]), S) else (g_Count_recountDuels ((1017, [x1, (S r_Count_isOnBallot 0 0 x1), 0]), S))) := by
  unfold g_Count_recountDuels
  refine ((z_psi_go (pc := 2)).trans (congrArg _ zE20_2)).trans ?_
  try simp only [z_psi_c, z_psi_b, z_psi_n, Nat.reduceLT, decide_true]
theorem zE20_17 {x1 x2 x3 : Int} {S : ZS} : z_st (z_F zT20) zD20 17 [x1, x2, x3] S = (bif decide (20 ≤ x3) then (bif decide (x2 = 0) then ((1002, [(e_wr (x1 + 1))]), S) else ((0, [x1]), S)) else (bif decide (x3 = x1) then ((1017, [x1, x2, (e_wr (x3 + 1))]), S) else (bif decide ((S r_Count_isOnBallot 0 0 x3) = 0) then ((1017, [x1, x2, (e_wr (x3 + 1))]), S) else (bif decide (0 < (S r_Count_leads_r x1 0 x3)) then ((1017, [x1, x2, (e_wr (x3 + 1))]), S) else ((1017, [x1, 0, (e_wr (x3 + 1))]), S))))) := (id rfl : z_st (z_F zT20) zD20 17 [x1, x2, x3] S = z_ev (z_F zT20) 19 zP20_17 [x1, x2, x3] S).trans (by
  simp -implicitDefEqProofs only [zP20_17, Nat.zero_add, Nat.reduceAdd, Nat.reduceBEq, Int.reduceToNat, z_e0, z_e1, z_e2, z_e3, z_e4, z_e5, z_e6, z_e7, z_e8, z_e11, z_e13, o_v0, o_v1, o_v2, List.cons_append, List.nil_append, List.map_cons, List.map_nil, List.drop_succ_cons, List.drop_zero, List.take_succ_cons, List.take_zero, e_c0, e_c1, e_c2, e_c3, e_c4, e_c5, e_b0, e_b1, e_b2, e_b3, e_b4, e_b5, e_b6, e_b7, e_b8, e_b9, e_b10, e_b11, e_b12, e_b13, e_b14, e_b15, e_b16, e_b17, e_n0, e_bnd, e_un]
  try rfl)
theorem g_Count_recountDuels_17 {x1 x2 x3 : Int} {S : ZS} : g_Count_recountDuels ((1017, [x1, x2, x3]), S) = (bif decide (20 ≤ x3) then (bif decide (x2 = 0) then (g_Count_recountDuels ((1002, [(e_wr (x1 + 1))]), S)) else ((0, [x1]), S)) else (bif decide (x3 = x1) then (g_Count_recountDuels ((1017, [x1, x2, (e_wr (x3 + 1))]), S)) else (bif decide ((S r_Count_isOnBallot 0 0 x3) = 0) then (g_Count_recountDuels ((1017, [x1, x2, (e_wr (x3 + 1))]), S)) else (bif decide (0 < (S r_Count_leads_r x1 0 x3)) then (g_Count_recountDuels ((1017, [x1, x2, (e_wr (x3 + 1))]), S)) else (g_Count_recountDuels ((1017, [x1, 0, (e_wr (x3 + 1))]), S)))))) := by
  unfold g_Count_recountDuels
  refine ((z_psi_go (pc := 17)).trans (congrArg _ zE20_17)).trans ?_
  try simp only [z_psi_c, z_psi_b, z_psi_n, Nat.reduceLT, decide_true]
def zW20 : List Nat := []
theorem zK20 : z_kp 0 zW20 f_Count_recountDuels := fun L S hL hc r i j k hr => z_psi_kp (KT := []) (F := z_F zT20) (W := zW20) (D := zD20) (.n) (z_h163 rfl) (by decide +kernel) _ hc r i j k hr

-- Count_recountRounds (21)
noncomputable def zT21 : ZT := [(17, 2, [(37, (0, 0), (0, 0)), (23, (1, 0), (0, 0)), (0, (2, 0), (0, 0))], f_Count_tallyBallots), (19, 0, [(37, (0, 0), (0, 0))], f_Count_tallied)]
theorem zH21 : z_ok zT21 := .c zM17 (.c zM19 .n)
theorem zF21_17 : z_F zT21 17 = f_Count_tallyBallots := id rfl
theorem zF21_19 : z_F zT21 19 = f_Count_tallied := id rfl
def zP21_0 : List ZO := [(2, [(2, 0), (1, 0), (0, 0)])]
def zP21_2 : List ZO := [(3, [(3, 0), (1, 0), (2, 0), (0, 20)]), (0, [(0, (-1))]), (7, [(17, 0), (1, 0), (0, 0)]), (7, [(19, 0)]), (3, [(0, 0), (1, 0), (4, 0), (0, (-1))]), (0, [(4, 0)]), (5, [(2432, 0), (0, 0), (0, 0), (4, 0)]), (4, [(2, 0), (0, 2), (5, 0)]), (3, [(5, 0), (1, 0), (6, 0), (3, 0)]), (2, [(50, 0), (1, 0), (2, 0), (4, 0), (0, 0)]), (0, [(4, 0)])]
def zP21_50 : List ZO := [(3, [(3, 0), (3, 0), (4, 0), (0, 20)]), (6, [(2304, 0), (1, 0), (0, 0), (0, 0), (3, 0), (0, 1)]), (4, [(0, 0), (2, 0), (0, 1)]), (2, [(2, 0), (1, 0), (5, 0)]), (5, [(2368, 0), (0, 0), (0, 0), (4, 0)]), (3, [(0, 0), (2, 0), (5, 0), (0, 0)]), (4, [(0, 0), (4, 0), (0, 1)]), (2, [(50, 0), (1, 0), (2, 0), (3, 0), (6, 0)]), (5, [(2432, 0), (0, 0), (0, 0), (4, 0)]), (5, [(2432, 0), (0, 0), (0, 0), (3, 0)]), (3, [(2, 0), (2, 0), (6, 0), (7, 0)]), (4, [(0, 0), (4, 0), (0, 1)]), (2, [(50, 0), (1, 0), (2, 0), (4, 0), (8, 0)]), (5, [(2432, 0), (0, 0), (0, 0), (4, 0)]), (5, [(2432, 0), (0, 0), (0, 0), (3, 0)]), (3, [(1, 0), (2, 0), (8, 0), (9, 0)]), (4, [(0, 0), (4, 0), (0, 1)]), (2, [(50, 0), (1, 0), (2, 0), (3, 0), (10, 0)]), (3, [(5, 0), (2, 0), (4, 0), (3, 0)]), (4, [(0, 0), (4, 0), (0, 1)]), (2, [(50, 0), (1, 0), (2, 0), (3, 0), (10, 0)]), (4, [(0, 0), (4, 0), (0, 1)]), (2, [(50, 0), (1, 0), (2, 0), (4, 0), (10, 0)])]
def zD21 : ZD := [(0, 1, [some (37, (0, 0), (0, 0)), some (23, (1, 0), (0, 0)), none, none, none, none, none], 2, zP21_0), (2, 2, [some (37, (0, 0), (0, 0)), some (23, (1, 0), (0, 0)), some (0, (2, 0), (0, 0)), none, none, none, none], 12, zP21_2), (50, 4, [some (37, (0, 0), (0, 0)), some (23, (1, 0), (0, 0)), some (0, (2, 0), (0, 0)), none, none, some (0, (3, 0), (0, 0)), some (0, (4, 0), (0, 0))], 24, zP21_50)]
theorem zG21 : z_chk zT21 [] 21 zD21 = true := by decide +kernel
noncomputable def g_Count_recountRounds (R : ZR) : ZR := z_psi (z_st (z_F zT21) zD21) R
noncomputable def f_Count_recountRounds : ZFn := fun L S => g_Count_recountRounds ((1000, L), S)
theorem zM21 : z_met 21 1 [(37, (0, 0), (0, 0)), (23, (1, 0), (0, 0))] f_Count_recountRounds := z_met_psi zH21 (fun _ _ h => absurd h List.not_mem_nil) rfl zG21
theorem zE21_0 {x1 : Int} {S : ZS} : z_st (z_F zT21) zD21 0 [x1] S = ((1002, [x1, 0]), S) := (id rfl : z_st (z_F zT21) zD21 0 [x1] S = z_ev (z_F zT21) 2 zP21_0 [x1] S).trans (id rfl)
theorem g_Count_recountRounds_0 {x1 : Int} {S : ZS} : g_Count_recountRounds ((1000, [x1]), S) = (g_Count_recountRounds ((1002, [x1, 0]), S)) := by
  unfold g_Count_recountRounds
  refine ((z_psi_go (pc := 0)).trans (congrArg _ zE21_0)).trans ?_
  try simp only [z_psi_c, z_psi_b, z_psi_n, Nat.reduceLT, decide_true]
theorem zE21_2 {x1 x2 : Int} {S : ZS} : z_st (z_F zT21) zD21 2 [x1, x2] S = (bif decide (20 ≤ x2) then ((0, [(-1)]), S) else (e_bind (f_Count_tallyBallots [x1, 0] S) (fun v1 S1 => (e_bind (f_Count_tallied [] S1) (fun v2 S2 => (bif decide (v2 = (-1)) then ((0, [v2]), S2) else (bif decide ((e_wr (2 * (S2 r_Count_tally 0 0 v2))) ≤ v1) then ((1050, [x1, x2, v2, 0]), S2) else ((0, [v2]), S2)))))))) := (id rfl : z_st (z_F zT21) zD21 2 [x1, x2] S = z_ev (z_F zT21) 12 zP21_2 [x1, x2] S).trans (id rfl)
theorem g_Count_recountRounds_2 {x1 x2 : Int} {S : ZS} : g_Count_recountRounds ((1002, [x1, x2]), S) = (bif decide (20 ≤ x2) then ((0, [(-1)]), S) else (e_bind (f_Count_tallyBallots [x1, 0] S) (fun v1 S1 => (e_bind (f_Count_tallied [] S1) (fun v2 S2 => (bif decide (v2 = (-1)) then ((0, [v2]), S2) else (bif decide ((e_wr (2 * (S2 r_Count_tally 0 0 v2))) ≤ v1) then (g_Count_recountRounds ((1050, [x1, x2, v2, 0]), S2)) else ((0, [v2]), S2)))))))) := by
  unfold g_Count_recountRounds
  refine ((z_psi_go (pc := 2)).trans (congrArg _ zE21_2)).trans ?_
  try simp only [z_psi_c, z_psi_b, z_psi_n, Nat.reduceLT, decide_true]
theorem zE21_50 {x1 x2 x3 x4 : Int} {S : ZS} : z_st (z_F zT21) zD21 50 [x1, x2, x3, x4] S = (bif decide (20 ≤ x4) then ((1002, [x1, (e_wr (x2 + 1))]), (e_upd S r_Count_isOut 0 0 x3 (e_nar 1 1))) else (bif decide ((S r_Count_isOnBallot 0 0 x4) = 0) then ((1050, [x1, x2, x3, (e_wr (x4 + 1))]), S) else (bif decide ((S r_Count_tally 0 0 x4) < (S r_Count_tally 0 0 x3)) then ((1050, [x1, x2, x4, (e_wr (x4 + 1))]), S) else (bif !decide ((S r_Count_tally 0 0 x4) = (S r_Count_tally 0 0 x3)) then ((1050, [x1, x2, x3, (e_wr (x4 + 1))]), S) else (bif decide (x4 ≤ x3) then ((1050, [x1, x2, x3, (e_wr (x4 + 1))]), S) else ((1050, [x1, x2, x4, (e_wr (x4 + 1))]), S)))))) := (id rfl : z_st (z_F zT21) zD21 50 [x1, x2, x3, x4] S = z_ev (z_F zT21) 24 zP21_50 [x1, x2, x3, x4] S).trans (by
  simp -implicitDefEqProofs only [zP21_50, zF21_17, zF21_19, Nat.zero_add, Nat.reduceAdd, Nat.reduceBEq, Int.reduceToNat, z_e0, z_e1, z_e2, z_e3, z_e4, z_e5, z_e6, z_e7, z_e8, z_e11, z_e13, o_v0, o_v1, o_v2, List.cons_append, List.nil_append, List.map_cons, List.map_nil, List.drop_succ_cons, List.drop_zero, List.take_succ_cons, List.take_zero, e_c0, e_c1, e_c2, e_c3, e_c4, e_c5, e_b0, e_b1, e_b2, e_b3, e_b4, e_b5, e_b6, e_b7, e_b8, e_b9, e_b10, e_b11, e_b12, e_b13, e_b14, e_b15, e_b16, e_b17, e_n0, e_bnd, e_un]
  try rfl)
theorem g_Count_recountRounds_50 {x1 x2 x3 x4 : Int} {S : ZS} : g_Count_recountRounds ((1050, [x1, x2, x3, x4]), S) = (bif decide (20 ≤ x4) then (g_Count_recountRounds ((1002, [x1, (e_wr (x2 + 1))]), (e_upd S r_Count_isOut 0 0 x3 (e_nar 1 1)))) else (bif decide ((S r_Count_isOnBallot 0 0 x4) = 0) then (g_Count_recountRounds ((1050, [x1, x2, x3, (e_wr (x4 + 1))]), S)) else (bif decide ((S r_Count_tally 0 0 x4) < (S r_Count_tally 0 0 x3)) then (g_Count_recountRounds ((1050, [x1, x2, x4, (e_wr (x4 + 1))]), S)) else (bif !decide ((S r_Count_tally 0 0 x4) = (S r_Count_tally 0 0 x3)) then (g_Count_recountRounds ((1050, [x1, x2, x3, (e_wr (x4 + 1))]), S)) else (bif decide (x4 ≤ x3) then (g_Count_recountRounds ((1050, [x1, x2, x3, (e_wr (x4 + 1))]), S)) else (g_Count_recountRounds ((1050, [x1, x2, x4, (e_wr (x4 + 1))]), S))))))) := by
  unfold g_Count_recountRounds
  refine ((z_psi_go (pc := 50)).trans (congrArg _ zE21_50)).trans ?_
  try simp only [z_psi_c, z_psi_b, z_psi_n, Nat.reduceLT, decide_true]
def zW21 : List Nat := [r_Count_isOut, r_Count_isOnBallot, r_Count_tally, r_Count_leads_r]
theorem zK21 : z_kp 1 zW21 f_Count_recountRounds := fun L S hL hc r i j k hr => z_psi_kp (KT := [(17, 2, zW17), (19, 0, zW19)]) (F := z_F zT21) (W := zW21) (D := zD21) (.c zF21_17 zK17 (.c zF21_19 zK19 .n)) (z_h163 rfl) (by decide +kernel) _ hc r i j k hr

-- Count_recount (16)
noncomputable def zT16 : ZT := [(4, 0, [(37, (0, 0), (0, 0)), (4, (0, 0), (0, 0))], f_Count_dropWithdrawn), (17, 2, [(37, (0, 0), (0, 0)), (23, (1, 0), (0, 0)), (0, (2, 0), (0, 0))], f_Count_tallyBallots), (19, 0, [(37, (0, 0), (0, 0))], f_Count_tallied), (20, 0, [(37, (0, 0), (0, 0))], f_Count_recountDuels), (21, 1, [(37, (0, 0), (0, 0)), (23, (1, 0), (0, 0))], f_Count_recountRounds)]
theorem zH16 : z_ok zT16 := .c zM4 (.c zM17 (.c zM19 (.c zM20 (.c zM21 .n))))
theorem zF16_4 : z_F zT16 4 = f_Count_dropWithdrawn := id rfl
theorem zF16_17 : z_F zT16 17 = f_Count_tallyBallots := id rfl
theorem zF16_19 : z_F zT16 19 = f_Count_tallied := id rfl
theorem zF16_20 : z_F zT16 20 = f_Count_recountDuels := id rfl
theorem zF16_21 : z_F zT16 21 = f_Count_recountRounds := id rfl
def zP16_0 : List ZO := [(7, [(4, 0)]), (5, [(1349, 0), (1, 0), (0, 0), (0, 0)]), (3, [(1, 0), (22, 0), (3, 0), (0, 114)]), (5, [(1349, 0), (1, 0), (0, 0), (0, 0)]), (3, [(0, 0), (10, 0), (4, 0), (0, 109)]), (7, [(17, 0), (1, 0), (0, 0)]), (5, [(1349, 0), (1, 0), (0, 0), (0, 0)]), (3, [(1, 0), (2, 0), (6, 0), (0, 99)]), (7, [(19, 0)]), (0, [(7, 0)]), (7, [(20, 0)]), (3, [(1, 0), (1, 0), (7, 0), (0, (-1))]), (0, [(7, 0)]), (7, [(19, 0)]), (0, [(8, 0)]), (7, [(17, 0), (1, 0), (0, 1)]), (5, [(1349, 0), (1, 0), (0, 0), (0, 0)]), (3, [(1, 0), (2, 0), (6, 0), (0, 99)]), (7, [(19, 0)]), (0, [(7, 0)]), (7, [(20, 0)]), (3, [(1, 0), (1, 0), (7, 0), (0, (-1))]), (0, [(7, 0)]), (7, [(19, 0)]), (0, [(8, 0)]), (7, [(21, 0), (1, 0)]), (0, [(4, 0)])]
def zC16 : ZC := [(0, 1, [some (37, (0, 0), (0, 0)), some (4, (0, 0), (0, 0)), some (23, (1, 0), (0, 0)), none])]
theorem zG16 : z_go zC16 (z_A zT16) [] 16 400 true 28 zP16_0 0 [some (37, (0, 0), (0, 0)), some (4, (0, 0), (0, 0)), some (23, (1, 0), (0, 0)), none] [] 1 = true := by decide +kernel
noncomputable def f_Count_recount : ZFn := fun L S => match L with
  | [x1] => (e_bind (f_Count_dropWithdrawn [] S) (fun v1 S1 => (bif !decide ((S1 r_Section_rule x1 0 0) = 114) then (bif decide ((S1 r_Section_rule x1 0 0) = 109) then (e_bind (f_Count_tallyBallots [x1, 0] S1) (fun v2 S2 => (bif !decide ((S2 r_Section_rule x1 0 0) = 99) then (e_bind (f_Count_tallied [] S2) (fun v3 S3 => ((0, [v3]), S3))) else (e_bind (f_Count_recountDuels [] S2) (fun v4 S4 => (bif !decide (v4 = (-1)) then ((0, [v4]), S4) else (e_bind (f_Count_tallied [] S4) (fun v5 S5 => ((0, [v5]), S5))))))))) else (e_bind (f_Count_tallyBallots [x1, 1] S1) (fun v6 S6 => (bif !decide ((S6 r_Section_rule x1 0 0) = 99) then (e_bind (f_Count_tallied [] S6) (fun v7 S7 => ((0, [v7]), S7))) else (e_bind (f_Count_recountDuels [] S6) (fun v8 S8 => (bif !decide (v8 = (-1)) then ((0, [v8]), S8) else (e_bind (f_Count_tallied [] S8) (fun v9 S9 => ((0, [v9]), S9)))))))))) else (e_bind (f_Count_recountRounds [x1] S1) (fun v10 S10 => ((0, [v10]), S10))))))
  | _ => ((0, []), S)
theorem zE16 {x1 : Int} {S : ZS} : z_ev (z_F zT16) 28 zP16_0 [x1] S = f_Count_recount [x1] S := by
  simp -implicitDefEqProofs only [zP16_0, zF16_4, zF16_17, zF16_19, zF16_20, zF16_21, Nat.zero_add, Nat.reduceAdd, Nat.reduceBEq, Int.reduceToNat, z_e0, z_e1, z_e2, z_e3, z_e4, z_e5, z_e6, z_e7, z_e8, z_e11, z_e13, o_v0, o_v1, o_v2, List.cons_append, List.nil_append, List.map_cons, List.map_nil, List.drop_succ_cons, List.drop_zero, List.take_succ_cons, List.take_zero, e_c0, e_c1, e_c2, e_c3, e_c4, e_c5, e_b0, e_b1, e_b2, e_b3, e_b4, e_b5, e_b6, e_b7, e_b8, e_b9, e_b10, e_b11, e_b12, e_b13, e_b14, e_b15, e_b16, e_b17, e_n0, e_bnd, e_un]
  try rfl
theorem zM16 : z_met 16 1 [(37, (0, 0), (0, 0)), (4, (0, 0), (0, 0)), (23, (1, 0), (0, 0))] f_Count_recount := z_met_ev zH16 (fun _ _ h => absurd h List.not_mem_nil) rfl zG16 (by decide +kernel) (fun L S hn => match L, hn with
  | [x1], _ => zE16)
def zW16 : List Nat := [r_Count_isOut, r_Count_isOnBallot, r_Count_tally, r_Count_leads_r]
theorem zK16 : z_kp 1 zW16 f_Count_recount := z_kp_ev (KT := [(4, 0, zW4), (17, 2, zW17), (19, 0, zW19), (20, 0, zW20), (21, 1, zW21)]) (.c zF16_4 zK4 (.c zF16_17 zK17 (.c zF16_19 zK19 (.c zF16_20 zK20 (.c zF16_21 zK21 .n))))) (z_h163 rfl) (by decide +kernel) (fun L S hn => match L, hn with
  | [x1], _ => zE16)

-- x_areWinnersRight (82)
noncomputable def zT82 : ZT := [(3, 1, [(37, (0, 0), (0, 0)), (4, (0, 0), (0, 0)), (23, (1, 0), (0, 0))], f_Count_findWinner), (16, 1, [(37, (0, 0), (0, 0)), (4, (0, 0), (0, 0)), (23, (1, 0), (0, 0))], f_Count_recount)]
theorem zH82 : z_ok zT82 := .c zM3 (.c zM16 .n)
theorem zF82_3 : z_F zT82 3 = f_Count_findWinner := id rfl
theorem zF82_16 : z_F zT82 16 = f_Count_recount := id rfl
def zP82_0 : List ZO := [(2, [(2, 0), (0, 0)])]
def zP82_2 : List ZO := [(5, [(6, 0), (0, 0), (0, 0), (0, 0)]), (3, [(3, 0), (1, 0), (1, 0), (2, 0)]), (0, [(0, 1)]), (7, [(3, 0), (1, 0)]), (7, [(16, 0), (1, 0)]), (3, [(0, 0), (2, 0), (3, 0), (4, 0)]), (4, [(0, 0), (1, 0), (0, 1)]), (2, [(2, 0), (5, 0)]), (0, [(0, 0)])]
def zD82 : ZD := [(0, 0, [some (2, (0, 0), (0, 0)), none], 2, zP82_0), (2, 1, [some (2, (0, 0), (0, 0)), some (0, (1, 0), (0, 0))], 10, zP82_2)]
theorem zG82 : z_chk zT82 [] 82 zD82 = true := by decide +kernel
noncomputable def g_x_areWinnersRight (R : ZR) : ZR := z_psi (z_st (z_F zT82) zD82) R
noncomputable def f_x_areWinnersRight : ZFn := fun L S => g_x_areWinnersRight ((1000, L), S)
theorem zM82 : z_met 82 0 [(2, (0, 0), (0, 0))] f_x_areWinnersRight := z_met_psi zH82 (fun _ _ h => absurd h List.not_mem_nil) rfl zG82
theorem zE82_0 {S : ZS} : z_st (z_F zT82) zD82 0 [] S = ((1002, [0]), S) := (id rfl : z_st (z_F zT82) zD82 0 [] S = z_ev (z_F zT82) 2 zP82_0 [] S).trans (id rfl)
theorem g_x_areWinnersRight_0 {S : ZS} : g_x_areWinnersRight ((1000, []), S) = (g_x_areWinnersRight ((1002, [0]), S)) := by
  unfold g_x_areWinnersRight
  refine ((z_psi_go (pc := 0)).trans (congrArg _ zE82_0)).trans ?_
  try simp only [z_psi_c, z_psi_b, z_psi_n, Nat.reduceLT, decide_true]
theorem zE82_2 {x1 : Int} {S : ZS} : z_st (z_F zT82) zD82 2 [x1] S = (bif decide ((S r_x_sectionCount 0 0 0) ≤ x1) then ((0, [1]), S) else (e_bind (f_Count_findWinner [x1] S) (fun v1 S1 => (e_bind (f_Count_recount [x1] S1) (fun v2 S2 => (bif decide (v1 = v2) then ((1002, [(e_wr (x1 + 1))]), S2) else ((0, [0]), S2))))))) := (id rfl : z_st (z_F zT82) zD82 2 [x1] S = z_ev (z_F zT82) 10 zP82_2 [x1] S).trans (id rfl)
theorem g_x_areWinnersRight_2 {x1 : Int} {S : ZS} : g_x_areWinnersRight ((1002, [x1]), S) = (bif decide ((S r_x_sectionCount 0 0 0) ≤ x1) then ((0, [1]), S) else (e_bind (f_Count_findWinner [x1] S) (fun v1 S1 => (e_bind (f_Count_recount [x1] S1) (fun v2 S2 => (bif decide (v1 = v2) then (g_x_areWinnersRight ((1002, [(e_wr (x1 + 1))]), S2)) else ((0, [0]), S2))))))) := by
  unfold g_x_areWinnersRight
  refine ((z_psi_go (pc := 2)).trans (congrArg _ zE82_2)).trans ?_
  try simp only [z_psi_c, z_psi_b, z_psi_n, Nat.reduceLT, decide_true]
def zW82 : List Nat := [r_Count_isOut, r_Count_isOnBallot, r_Count_tally, r_Count_leads_r]
theorem zK82 : z_kp 0 zW82 f_x_areWinnersRight := fun L S hL hc r i j k hr => z_psi_kp (KT := [(3, 1, zW3), (16, 1, zW16)]) (F := z_F zT82) (W := zW82) (D := zD82) (.c zF82_3 zK3 (.c zF82_16 zK16 .n)) (z_h163 rfl) (by decide +kernel) _ hc r i j k hr

-- Rights_isOver (45)
def zT45 : ZT := []
theorem zH45 : z_ok zT45 := .n
def zP45_0 : List ZO := [(5, [(2688, 0), (0, 0), (0, 0), (1, 0)]), (3, [(1, 0), (1, 0), (6, 0), (2, 0)]), (0, [(0, 0)]), (5, [(2752, 0), (0, 0), (0, 0), (1, 0)]), (3, [(1, 0), (1, 0), (7, 0), (3, 0)]), (0, [(0, 0)]), (5, [(2816, 0), (0, 0), (0, 0), (1, 0)]), (3, [(4, 0), (1, 0), (8, 0), (5, 0)]), (0, [(0, 0)]), (5, [(2880, 0), (0, 0), (0, 0), (1, 0)]), (3, [(4, 0), (1, 0), (4, 0), (9, 0)]), (0, [(0, 0)]), (0, [(0, 1)])]
def zC45 : ZC := [(0, 5, [some (43, (0, 0), (0, 0)), some (0, (1, 0), (0, 0)), some (0, (2, 0), (0, 0)), some (0, (3, 0), (0, 0)), some (0, (4, 0), (0, 0)), some (0, (5, 0), (0, 0))])]
theorem zG45 : z_go zC45 (z_A zT45) [] 45 400 true 14 zP45_0 0 [some (43, (0, 0), (0, 0)), some (0, (1, 0), (0, 0)), some (0, (2, 0), (0, 0)), some (0, (3, 0), (0, 0)), some (0, (4, 0), (0, 0)), some (0, (5, 0), (0, 0))] [] 5 = true := by decide +kernel
def v_Rights_isOver (x1 x2 x3 x4 x5 : Int) (S : ZS) : Int := (bif !decide ((S r_Rights_soldFilms 0 0 x1) = x2) then 0 else (bif !decide ((S r_Rights_lands 0 0 x1) = x3) then 0 else (bif decide (x5 < (S r_Rights_firstMonths 0 0 x1)) then 0 else (bif decide ((S r_Rights_lastMonths 0 0 x1) < x4) then 0 else 1))))
def f_Rights_isOver : ZFn := fun L S => match L with
  | [x1, x2, x3, x4, x5] => ((0, [v_Rights_isOver x1 x2 x3 x4 x5 S]), S)
  | _ => ((0, []), S)
theorem pF_Rights_isOver {x1 x2 x3 x4 x5 : Int} {S : ZS} : f_Rights_isOver [x1, x2, x3, x4, x5] S = ((0, [v_Rights_isOver x1 x2 x3 x4 x5 S]), S) := id rfl
theorem zE45a {x1 x2 x3 x4 x5 : Int} {S : ZS} : z_ev (z_F zT45) 14 zP45_0 [x1, x2, x3, x4, x5] S = (bif !decide ((S r_Rights_soldFilms 0 0 x1) = x2) then ((0, [0]), S) else (bif !decide ((S r_Rights_lands 0 0 x1) = x3) then ((0, [0]), S) else (bif decide (x5 < (S r_Rights_firstMonths 0 0 x1)) then ((0, [0]), S) else (bif decide ((S r_Rights_lastMonths 0 0 x1) < x4) then ((0, [0]), S) else ((0, [1]), S))))) := by
  simp -implicitDefEqProofs only [zP45_0, Nat.zero_add, Nat.reduceAdd, Nat.reduceBEq, Int.reduceToNat, z_e0, z_e1, z_e2, z_e3, z_e4, z_e5, z_e6, z_e7, z_e8, z_e11, z_e13, o_v0, o_v1, o_v2, List.cons_append, List.nil_append, List.map_cons, List.map_nil, List.drop_succ_cons, List.drop_zero, List.take_succ_cons, List.take_zero, e_c0, e_c1, e_c2, e_c3, e_c4, e_c5, e_b0, e_b1, e_b2, e_b3, e_b4, e_b5, e_b6, e_b7, e_b8, e_b9, e_b10, e_b11, e_b12, e_b13, e_b14, e_b15, e_b16, e_b17, e_n0, e_bnd, e_un]
  try rfl
theorem zE45 {x1 x2 x3 x4 x5 : Int} {S : ZS} : z_ev (z_F zT45) 14 zP45_0 [x1, x2, x3, x4, x5] S = f_Rights_isOver [x1, x2, x3, x4, x5] S := zE45a.trans (by
  simp only [z_cv]
  rfl)
theorem zM45 : z_met 45 5 [(43, (0, 0), (0, 0)), (0, (1, 0), (0, 0)), (0, (2, 0), (0, 0)), (0, (3, 0), (0, 0)), (0, (4, 0), (0, 0)), (0, (5, 0), (0, 0))] f_Rights_isOver := z_met_ev zH45 (fun _ _ h => absurd h List.not_mem_nil) rfl zG45 (by decide +kernel) (fun L S hn => match L, hn with
  | [x1, x2, x3, x4, x5], _ => zE45)
def zW45 : List Nat := []
theorem zK45 : z_kp 5 zW45 f_Rights_isOver := z_kp_ev (KT := []) (.n) (z_h163 rfl) (by decide +kernel) (fun L S hn => match L, hn with
  | [x1, x2, x3, x4, x5], _ => zE45)

-- Rights_keepApart (46)
def zT46 : ZT := [(45, 5, [(43, (0, 0), (0, 0)), (0, (1, 0), (0, 0)), (0, (2, 0), (0, 0)), (0, (3, 0), (0, 0)), (0, (4, 0), (0, 0)), (0, (5, 0), (0, 0))], f_Rights_isOver)]
theorem zH46 : z_ok zT46 := .c zM45 .n
theorem zF46_45 : z_F zT46 45 = f_Rights_isOver := id rfl
def zP46_0 : List ZO := [(2, [(2, 0), (0, 0)])]
def zP46_2 : List ZO := [(5, [(2629, 0), (0, 0), (0, 0), (0, 0)]), (3, [(3, 0), (1, 0), (1, 0), (2, 0)]), (0, [(0, 1)]), (2, [(12, 0), (1, 0), (0, 0)])]
def zP46_12 : List ZO := [(3, [(3, 0), (2, 0), (2, 0), (1, 0)]), (4, [(0, 0), (1, 0), (0, 1)]), (2, [(2, 0), (3, 0)]), (5, [(2688, 0), (0, 0), (0, 0), (1, 0)]), (5, [(2752, 0), (0, 0), (0, 0), (1, 0)]), (5, [(2816, 0), (0, 0), (0, 0), (1, 0)]), (5, [(2880, 0), (0, 0), (0, 0), (1, 0)]), (7, [(45, 0), (2, 0), (3, 0), (4, 0), (5, 0), (6, 0)]), (3, [(0, 0), (2, 0), (7, 0), (0, 0)]), (4, [(0, 0), (2, 0), (0, 1)]), (2, [(12, 0), (1, 0), (8, 0)]), (0, [(0, 0)])]
def zD46 : ZD := [(0, 0, [some (43, (0, 0), (0, 0)), none, none], 2, zP46_0), (2, 1, [some (43, (0, 0), (0, 0)), some (0, (1, 0), (0, 0)), none], 5, zP46_2), (12, 2, [some (43, (0, 0), (0, 0)), some (0, (1, 0), (0, 0)), some (0, (2, 0), (0, 0))], 13, zP46_12)]
theorem zG46 : z_chk zT46 [] 46 zD46 = true := by decide +kernel
noncomputable def g_Rights_keepApart (R : ZR) : ZR := z_psi (z_st (z_F zT46) zD46) R
noncomputable def f_Rights_keepApart : ZFn := fun L S => g_Rights_keepApart ((1000, L), S)
theorem zM46 : z_met 46 0 [(43, (0, 0), (0, 0))] f_Rights_keepApart := z_met_psi zH46 (fun _ _ h => absurd h List.not_mem_nil) rfl zG46
theorem zE46_0 {S : ZS} : z_st (z_F zT46) zD46 0 [] S = ((1002, [0]), S) := (id rfl : z_st (z_F zT46) zD46 0 [] S = z_ev (z_F zT46) 2 zP46_0 [] S).trans (id rfl)
theorem g_Rights_keepApart_0 {S : ZS} : g_Rights_keepApart ((1000, []), S) = (g_Rights_keepApart ((1002, [0]), S)) := by
  unfold g_Rights_keepApart
  refine ((z_psi_go (pc := 0)).trans (congrArg _ zE46_0)).trans ?_
  try simp only [z_psi_c, z_psi_b, z_psi_n, Nat.reduceLT, decide_true]
theorem zE46_2 {x1 : Int} {S : ZS} : z_st (z_F zT46) zD46 2 [x1] S = (bif decide ((S r_Rights_dealCount 0 0 0) ≤ x1) then ((0, [1]), S) else ((1012, [x1, 0]), S)) := (id rfl : z_st (z_F zT46) zD46 2 [x1] S = z_ev (z_F zT46) 5 zP46_2 [x1] S).trans (id rfl)
theorem g_Rights_keepApart_2 {x1 : Int} {S : ZS} : g_Rights_keepApart ((1002, [x1]), S) = (bif decide ((S r_Rights_dealCount 0 0 0) ≤ x1) then ((0, [1]), S) else (g_Rights_keepApart ((1012, [x1, 0]), S))) := by
  unfold g_Rights_keepApart
  refine ((z_psi_go (pc := 2)).trans (congrArg _ zE46_2)).trans ?_
  try simp only [z_psi_c, z_psi_b, z_psi_n, Nat.reduceLT, decide_true]
theorem zE46_12 {x1 x2 : Int} {S : ZS} : z_st (z_F zT46) zD46 12 [x1, x2] S = (bif decide (x1 ≤ x2) then ((1002, [(e_wr (x1 + 1))]), S) else (bif decide ((v_Rights_isOver x2 (S r_Rights_soldFilms 0 0 x1) (S r_Rights_lands 0 0 x1) (S r_Rights_firstMonths 0 0 x1) (S r_Rights_lastMonths 0 0 x1) S) = 0) then ((1012, [x1, (e_wr (x2 + 1))]), S) else ((0, [0]), S))) := (id rfl : z_st (z_F zT46) zD46 12 [x1, x2] S = z_ev (z_F zT46) 13 zP46_12 [x1, x2] S).trans (id rfl)
theorem g_Rights_keepApart_12 {x1 x2 : Int} {S : ZS} : g_Rights_keepApart ((1012, [x1, x2]), S) = (bif decide (x1 ≤ x2) then (g_Rights_keepApart ((1002, [(e_wr (x1 + 1))]), S)) else (bif decide ((v_Rights_isOver x2 (S r_Rights_soldFilms 0 0 x1) (S r_Rights_lands 0 0 x1) (S r_Rights_firstMonths 0 0 x1) (S r_Rights_lastMonths 0 0 x1) S) = 0) then (g_Rights_keepApart ((1012, [x1, (e_wr (x2 + 1))]), S)) else ((0, [0]), S))) := by
  unfold g_Rights_keepApart
  refine ((z_psi_go (pc := 12)).trans (congrArg _ zE46_12)).trans ?_
  try simp only [z_psi_c, z_psi_b, z_psi_n, Nat.reduceLT, decide_true]
def zW46 : List Nat := []
theorem zK46 : z_kp 0 zW46 f_Rights_keepApart := fun L S hL hc r i j k hr => z_psi_kp (KT := [(45, 5, zW45)]) (F := z_F zT46) (W := zW46) (D := zD46) (.c zF46_45 zK45 .n) (z_h163 rfl) (by decide +kernel) _ hc r i j k hr

-- x_isSound (67)
noncomputable def zT67 : ZT := [(28, 0, [(3, (0, 0), (0, 0))], f_Grid_keepsApart), (30, 1, [(3, (0, 0), (0, 0)), (0, (1, 0), (0, 0))], f_Grid_keepsSeats), (46, 0, [(43, (0, 0), (0, 0))], f_Rights_keepApart), (81, 0, [(2, (0, 0), (0, 0))], f_x_areSectionsKept), (82, 0, [(2, (0, 0), (0, 0))], f_x_areWinnersRight)]
theorem zH67 : z_ok zT67 := .c zM28 (.c zM30 (.c zM46 (.c zM81 (.c zM82 .n))))
theorem zF67_28 : z_F zT67 28 = f_Grid_keepsApart := id rfl
theorem zF67_30 : z_F zT67 30 = f_Grid_keepsSeats := id rfl
theorem zF67_46 : z_F zT67 46 = f_Rights_keepApart := id rfl
theorem zF67_81 : z_F zT67 81 = f_x_areSectionsKept := id rfl
theorem zF67_82 : z_F zT67 82 = f_x_areWinnersRight := id rfl
def zP67_0 : List ZO := [(7, [(28, 0)]), (3, [(0, 0), (1, 0), (1, 0), (0, 0)]), (0, [(0, 0)]), (5, [(2113, 0), (0, 0), (0, 0), (0, 0)]), (7, [(30, 0), (2, 0)]), (3, [(0, 0), (1, 0), (3, 0), (0, 0)]), (0, [(0, 0)]), (7, [(81, 0)]), (3, [(0, 0), (1, 0), (4, 0), (0, 0)]), (0, [(0, 0)]), (7, [(82, 0)]), (3, [(0, 0), (1, 0), (5, 0), (0, 0)]), (0, [(0, 0)]), (7, [(46, 0)]), (3, [(0, 0), (1, 0), (6, 0), (0, 0)]), (0, [(0, 0)]), (0, [(0, 1)])]
def zC67 : ZC := [(0, 0, [some (2, (0, 0), (0, 0))])]
theorem zG67 : z_go zC67 (z_A zT67) [] 67 400 true 18 zP67_0 0 [some (2, (0, 0), (0, 0))] [] 0 = true := by decide +kernel
noncomputable def f_x_isSound : ZFn := fun L S => match L with
  | [] => (e_bind (f_Grid_keepsApart [] S) (fun v1 S1 => (bif decide (v1 = 0) then ((0, [0]), S1) else (e_bind (f_Grid_keepsSeats [(S1 r_Passes_passCount 0 0 0)] S1) (fun v2 S2 => (bif decide (v2 = 0) then ((0, [0]), S2) else (e_bind (f_x_areSectionsKept [] S2) (fun v3 S3 => (bif decide (v3 = 0) then ((0, [0]), S3) else (e_bind (f_x_areWinnersRight [] S3) (fun v4 S4 => (bif decide (v4 = 0) then ((0, [0]), S4) else (e_bind (f_Rights_keepApart [] S4) (fun v5 S5 => (bif decide (v5 = 0) then ((0, [0]), S5) else ((0, [1]), S5))))))))))))))))
  | _ => ((0, []), S)
theorem zE67 {S : ZS} : z_ev (z_F zT67) 18 zP67_0 [] S = f_x_isSound [] S := by
  simp -implicitDefEqProofs only [zP67_0, zF67_28, zF67_30, zF67_46, zF67_81, zF67_82, Nat.zero_add, Nat.reduceAdd, Nat.reduceBEq, Int.reduceToNat, z_e0, z_e1, z_e2, z_e3, z_e4, z_e5, z_e6, z_e7, z_e8, z_e11, z_e13, o_v0, o_v1, o_v2, List.cons_append, List.nil_append, List.map_cons, List.map_nil, List.drop_succ_cons, List.drop_zero, List.take_succ_cons, List.take_zero, e_c0, e_c1, e_c2, e_c3, e_c4, e_c5, e_b0, e_b1, e_b2, e_b3, e_b4, e_b5, e_b6, e_b7, e_b8, e_b9, e_b10, e_b11, e_b12, e_b13, e_b14, e_b15, e_b16, e_b17, e_n0, e_bnd, e_un]
  try rfl
theorem zM67 : z_met 67 0 [(2, (0, 0), (0, 0))] f_x_isSound := z_met_ev zH67 (fun _ _ h => absurd h List.not_mem_nil) rfl zG67 (by decide +kernel) (fun L S hn => match L, hn with
  | [], _ => zE67)
def zW67 : List Nat := [r_Count_isOut, r_Count_isOnBallot, r_Count_tally, r_Count_leads_r]
theorem zK67 : z_kp 0 zW67 f_x_isSound := z_kp_ev (KT := [(28, 0, zW28), (30, 1, zW30), (46, 0, zW46), (81, 0, zW81), (82, 0, zW82)]) (.c zF67_28 zK28 (.c zF67_30 zK30 (.c zF67_46 zK46 (.c zF67_81 zK81 (.c zF67_82 zK82 .n))))) (z_h163 rfl) (by decide +kernel) (fun L S hn => match L, hn with
  | [], _ => zE67)
