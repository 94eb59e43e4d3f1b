/-! What the methods do, by program (wip/s/sgen.py), 2 -/
-- x_premiereOf (71)
def zT71 : ZT := []
theorem zH71 : z_ok zT71 := .n
def zP71_0 : List ZO := [(3, [(1, 0), (5, 0), (1, 0), (0, 3)]), (3, [(1, 0), (3, 0), (1, 0), (0, 2)]), (3, [(1, 0), (1, 0), (1, 0), (0, 1)]), (0, [(0, 45)]), (0, [(0, 116)]), (0, [(0, 108)]), (0, [(0, 119)])]
def zC71 : ZC := [(0, 1, [some (0, (1, 0), (0, 0))])]
theorem zG71 : z_go zC71 (z_A zT71) [] 71 400 true 8 zP71_0 0 [some (0, (1, 0), (0, 0))] [] 1 = true := by decide +kernel
def v_x_premiereOf (x1 : Int) (S : ZS) : Int := (bif !decide (x1 = 3) then (bif !decide (x1 = 2) then (bif !decide (x1 = 1) then 45 else 116) else 108) else 119)
def f_x_premiereOf : ZFn := fun L S => match L with
  | [x1] => ((0, [v_x_premiereOf x1 S]), S)
  | _ => ((0, []), S)
theorem pF_x_premiereOf {x1 : Int} {S : ZS} : f_x_premiereOf [x1] S = ((0, [v_x_premiereOf x1 S]), S) := id rfl
theorem zE71a {x1 : Int} {S : ZS} : z_ev (z_F zT71) 8 zP71_0 [x1] S = (bif !decide (x1 = 3) then (bif !decide (x1 = 2) then (bif !decide (x1 = 1) then ((0, [45]), S) else ((0, [116]), S)) else ((0, [108]), S)) else ((0, [119]), S)) := id rfl
theorem zE71 {x1 : Int} {S : ZS} : z_ev (z_F zT71) 8 zP71_0 [x1] S = f_x_premiereOf [x1] S := zE71a.trans (by
  simp only [z_cv]
  rfl)
theorem zM71 : z_met 71 1 [(0, (1, 0), (0, 0))] f_x_premiereOf := z_met_ev zH71 (fun _ _ h => absurd h List.not_mem_nil) rfl zG71 (by decide +kernel) (fun L S hn => match L, hn with
  | [x1], _ => zE71)
def zW71 : List Nat := []
theorem zK71 : z_kp 1 zW71 f_x_premiereOf := z_kp_ev (KT := []) (.n) (z_h163 rfl) (by decide +kernel) (fun L S hn => match L, hn with
  | [x1], _ => zE71)

-- x_rival (62)
def zT62 : ZT := [(24, 2, [(5, (1, 0), (0, 0)), (0, (2, 0), (0, 0))], f_Film_showElsewhere), (71, 1, [(0, (1, 0), (0, 0))], f_x_premiereOf), (73, 1, [(2, (0, 0), (0, 0)), (0, (1, 0), (0, 0))], f_x_checkFilm)]
theorem zH62 : z_ok zT62 := .c zM24 (.c zM71 (.c zM73 .n))
theorem zF62_24 : z_F zT62 24 = f_Film_showElsewhere := id rfl
theorem zF62_71 : z_F zT62 71 = f_x_premiereOf := id rfl
theorem zF62_73 : z_F zT62 73 = f_x_checkFilm := id rfl
def zP62_0 : List ZO := [(7, [(73, 0), (1, 0)]), (3, [(0, 0), (4, 0), (2, 0), (0, 97)]), (7, [(24, 0), (1, 0), (2, 0)]), (5, [(197, 0), (1, 0), (0, 0), (0, 0)]), (7, [(71, 0), (5, 0)]), (0, [(6, 0)]), (3, [(0, 0), (4, 0), (2, 0), (0, 108)]), (7, [(24, 0), (1, 0), (2, 0)]), (5, [(197, 0), (1, 0), (0, 0), (0, 0)]), (7, [(71, 0), (5, 0)]), (0, [(6, 0)]), (3, [(0, 0), (4, 0), (2, 0), (0, 116)]), (7, [(24, 0), (1, 0), (2, 0)]), (5, [(197, 0), (1, 0), (0, 0), (0, 0)]), (7, [(71, 0), (5, 0)]), (0, [(6, 0)]), (1, [(1, 0)])]
def zC62 : ZC := [(0, 2, [some (2, (0, 0), (0, 0)), some (0, (1, 0), (0, 0)), some (0, (2, 0), (0, 0))])]
theorem zG62 : z_go zC62 (z_A zT62) [] 62 400 true 18 zP62_0 0 [some (2, (0, 0), (0, 0)), some (0, (1, 0), (0, 0)), some (0, (2, 0), (0, 0))] [] 2 = true := by decide +kernel
def f_x_rival : ZFn := fun L S => match L with
  | [x1, x2] => (e_bind (f_x_checkFilm [x1] S) (fun v1 S1 => (bif decide (x2 = 97) then (e_bind (f_Film_showElsewhere [x1, x2] S1) (fun v2 S2 => ((0, [(v_x_premiereOf (S2 r_Film_stillIs x1 0 0) S2)]), S2))) else (bif decide (x2 = 108) then (e_bind (f_Film_showElsewhere [x1, x2] S1) (fun v3 S3 => ((0, [(v_x_premiereOf (S3 r_Film_stillIs x1 0 0) S3)]), S3))) else (bif decide (x2 = 116) then (e_bind (f_Film_showElsewhere [x1, x2] S1) (fun v4 S4 => ((0, [(v_x_premiereOf (S4 r_Film_stillIs x1 0 0) S4)]), S4))) else ((2, []), S1))))))
  | _ => ((0, []), S)
theorem zE62 {x1 x2 : Int} {S : ZS} : z_ev (z_F zT62) 18 zP62_0 [x1, x2] S = f_x_rival [x1, x2] S := by
  simp -implicitDefEqProofs only [zP62_0, zF62_24, zF62_71, zF62_73, pF_x_premiereOf, Nat.zero_add, Nat.reduceAdd, Nat.reduceBEq, Int.reduceToNat, z_e0, z_e1, z_e2, z_e3, z_e4, z_e5, z_e6, z_e7, z_e8, z_e11, z_e13, o_v0, o_v1, o_v2, List.cons_append, List.nil_append, List.map_cons, List.map_nil, List.drop_succ_cons, List.drop_zero, List.take_succ_cons, List.take_zero, e_c0, e_c1, e_c2, e_c3, e_c4, e_c5, e_b0, e_b1, e_b2, e_b3, e_b4, e_b5, e_b6, e_b7, e_b8, e_b9, e_b10, e_b11, e_b12, e_b13, e_b14, e_b15, e_b16, e_b17, e_n0, e_bnd, e_un]
  try rfl
theorem zM62 : z_met 62 2 [(2, (0, 0), (0, 0)), (0, (1, 0), (0, 0)), (0, (2, 0), (0, 0))] f_x_rival := z_met_ev zH62 (fun _ _ h => absurd h List.not_mem_nil) rfl zG62 (by decide +kernel) (fun L S hn => match L, hn with
  | [x1, x2], _ => zE62)
def zW62 : List Nat := [r_Film_stillIs]
theorem zK62 : z_kp 2 zW62 f_x_rival := z_kp_ev (KT := [(24, 2, zW24), (71, 1, zW71), (73, 1, zW73)]) (.c zF62_24 zK24 (.c zF62_71 zK71 (.c zF62_73 zK73 .n))) (z_h163 rfl) (by decide +kernel) (fun L S hn => match L, hn with
  | [x1, x2], _ => zE62)

-- w_rival (90)
def zT90 : ZT := [(62, 2, [(2, (0, 0), (0, 0)), (0, (1, 0), (0, 0)), (0, (2, 0), (0, 0))], f_x_rival)]
theorem zH90 : z_ok zT90 := .c zM62 .n
theorem zF90_62 : z_F zT90 62 = f_x_rival := id rfl
def zP90_0 : List ZO := [(11, [(62, 0), (2, 0), (0, 1), (1, 2), (1, 0), (2, 0)]), (0, [(3, 0)]), (0, [(0, (-900001))]), (0, [(0, (-900002))])]
def zC90 : ZC := [(0, 2, [some (2, (0, 0), (0, 0)), some (0, (1, 0), (0, 0)), some (0, (2, 0), (0, 0)), none])]
theorem zG90 : z_go zC90 (z_A zT90) [] 90 400 true 5 zP90_0 0 [some (2, (0, 0), (0, 0)), some (0, (1, 0), (0, 0)), some (0, (2, 0), (0, 0)), none] [] 2 = true := by decide +kernel
def f_w_rival : ZFn := fun L S => match L with
  | [x1, x2] => (e_try (f_x_rival [x1, x2] S) (fun v1 S1 => ((0, [v1]), S1)) [(0, -900001), (1, -900002)])
  | _ => ((0, []), S)
theorem zE90 {x1 x2 : Int} {S : ZS} : z_ev (z_F zT90) 5 zP90_0 [x1, x2] S = f_w_rival [x1, x2] S := id rfl
theorem zM90 : z_met 90 2 [(2, (0, 0), (0, 0)), (0, (1, 0), (0, 0)), (0, (2, 0), (0, 0))] f_w_rival := z_met_ev zH90 (fun _ _ h => absurd h List.not_mem_nil) rfl zG90 (by decide +kernel) (fun L S hn => match L, hn with
  | [x1, x2], _ => zE90)
def zW90 : List Nat := [r_Film_stillIs]
theorem zK90 : z_kp 2 zW90 f_w_rival := z_kp_ev (KT := [(62, 2, zW62)]) (.c zF90_62 zK62 .n) (z_h163 rfl) (by decide +kernel) (fun L S hn => match L, hn with
  | [x1, x2], _ => zE90)

-- x_levelOf (70)
def zT70 : ZT := []
theorem zH70 : z_ok zT70 := .n
def zP70_0 : List ZO := [(3, [(1, 0), (7, 0), (1, 0), (0, 119)]), (3, [(1, 0), (5, 0), (1, 0), (0, 108)]), (3, [(1, 0), (3, 0), (1, 0), (0, 116)]), (3, [(1, 0), (1, 0), (1, 0), (0, 45)]), (0, [(0, (-1))]), (0, [(0, 0)]), (0, [(0, 1)]), (0, [(0, 2)]), (0, [(0, 3)])]
def zC70 : ZC := [(0, 1, [some (0, (1, 0), (0, 0))])]
theorem zG70 : z_go zC70 (z_A zT70) [] 70 400 true 10 zP70_0 0 [some (0, (1, 0), (0, 0))] [] 1 = true := by decide +kernel
def v_x_levelOf (x1 : Int) (S : ZS) : Int := (bif !decide (x1 = 119) then (bif !decide (x1 = 108) then (bif !decide (x1 = 116) then (bif !decide (x1 = 45) then (-1) else 0) else 1) else 2) else 3)
def f_x_levelOf : ZFn := fun L S => match L with
  | [x1] => ((0, [v_x_levelOf x1 S]), S)
  | _ => ((0, []), S)
theorem pF_x_levelOf {x1 : Int} {S : ZS} : f_x_levelOf [x1] S = ((0, [v_x_levelOf x1 S]), S) := id rfl
theorem zE70a {x1 : Int} {S : ZS} : z_ev (z_F zT70) 10 zP70_0 [x1] S = (bif !decide (x1 = 119) then (bif !decide (x1 = 108) then (bif !decide (x1 = 116) then (bif !decide (x1 = 45) then ((0, [(-1)]), S) else ((0, [0]), S)) else ((0, [1]), S)) else ((0, [2]), S)) else ((0, [3]), S)) := id rfl
theorem zE70 {x1 : Int} {S : ZS} : z_ev (z_F zT70) 10 zP70_0 [x1] S = f_x_levelOf [x1] S := zE70a.trans (by
  simp only [z_cv]
  rfl)
theorem zM70 : z_met 70 1 [(0, (1, 0), (0, 0))] f_x_levelOf := z_met_ev zH70 (fun _ _ h => absurd h List.not_mem_nil) rfl zG70 (by decide +kernel) (fun L S hn => match L, hn with
  | [x1], _ => zE70)
def zW70 : List Nat := []
theorem zK70 : z_kp 1 zW70 f_x_levelOf := z_kp_ev (KT := []) (.n) (z_h163 rfl) (by decide +kernel) (fun L S hn => match L, hn with
  | [x1], _ => zE70)

-- Section_begin (48)
def zT48 : ZT := []
theorem zH48 : z_ok zT48 := .n
def zP48_0 : List ZO := [(6, [(1344, 0), (0, 0), (1, 0), (0, 0), (0, 0), (2, 0)]), (6, [(1345, 0), (0, 0), (1, 0), (0, 0), (0, 0), (3, 0)]), (6, [(1346, 0), (0, 0), (1, 0), (0, 0), (0, 0), (4, 0)]), (6, [(1347, 0), (0, 0), (1, 0), (0, 0), (0, 0), (5, 0)]), (6, [(1348, 0), (0, 0), (1, 0), (0, 0), (0, 0), (6, 0)]), (0, [])]
def zC48 : ZC := [(0, 6, [some (23, (1, 0), (0, 0)), some (0, (2, 0), (0, 0)), some (0, (3, 0), (0, 0)), some (0, (4, 0), (0, 0)), some (0, (5, 0), (0, 0)), some (0, (6, 0), (0, 0))])]
theorem zG48 : z_go zC48 (z_A zT48) [] 48 400 true 7 zP48_0 0 [some (23, (1, 0), (0, 0)), some (0, (2, 0), (0, 0)), some (0, (3, 0), (0, 0)), some (0, (4, 0), (0, 0)), some (0, (5, 0), (0, 0)), some (0, (6, 0), (0, 0))] [] 6 = true := by decide +kernel
def f_Section_begin : ZFn := fun L S => match L with
  | [x1, x2, x3, x4, x5, x6] => ((0, []), (e_upd (e_upd (e_upd (e_upd (e_upd S r_Section_quota x1 0 0 x2) r_Section_budget x1 0 0 x3) r_Section_least x1 0 0 x4) r_Section_form x1 0 0 x5) r_Section_premiere x1 0 0 x6))
  | _ => ((0, []), S)
theorem zE48 {x1 x2 x3 x4 x5 x6 : Int} {S : ZS} : z_ev (z_F zT48) 7 zP48_0 [x1, x2, x3, x4, x5, x6] S = f_Section_begin [x1, x2, x3, x4, x5, x6] S := id rfl
theorem zM48 : z_met 48 6 [(23, (1, 0), (0, 0)), (0, (2, 0), (0, 0)), (0, (3, 0), (0, 0)), (0, (4, 0), (0, 0)), (0, (5, 0), (0, 0)), (0, (6, 0), (0, 0))] f_Section_begin := z_met_ev zH48 (fun _ _ h => absurd h List.not_mem_nil) rfl zG48 (by decide +kernel) (fun L S hn => match L, hn with
  | [x1, x2, x3, x4, x5, x6], _ => zE48)
def zW48 : List Nat := [r_Section_quota, r_Section_budget, r_Section_least, r_Section_form, r_Section_premiere]
theorem zK48 : z_kp 6 zW48 f_Section_begin := z_kp_ev (KT := []) (.n) (z_h163 rfl) (by decide +kernel) (fun L S hn => match L, hn with
  | [x1, x2, x3, x4, x5, x6], _ => zE48)

-- x_section (63)
def zT63 : ZT := [(48, 6, [(23, (1, 0), (0, 0)), (0, (2, 0), (0, 0)), (0, (3, 0), (0, 0)), (0, (4, 0), (0, 0)), (0, (5, 0), (0, 0)), (0, (6, 0), (0, 0))], f_Section_begin), (68, 3, [(0, (1, 0), (0, 0)), (0, (2, 0), (0, 0)), (0, (3, 0), (0, 0))], f_x_isWithin), (69, 1, [(0, (1, 0), (0, 0))], f_x_isForm), (70, 1, [(0, (1, 0), (0, 0))], f_x_levelOf)]
theorem zH63 : z_ok zT63 := .c zM48 (.c zM68 (.c zM69 (.c zM70 .n)))
theorem zF63_48 : z_F zT63 48 = f_Section_begin := id rfl
theorem zF63_68 : z_F zT63 68 = f_x_isWithin := id rfl
theorem zF63_69 : z_F zT63 69 = f_x_isForm := id rfl
theorem zF63_70 : z_F zT63 70 = f_x_levelOf := id rfl
def zP63_0 : List ZO := [(7, [(68, 0), (1, 0), (0, 1), (0, 9)]), (3, [(0, 0), (1, 0), (6, 0), (0, 0)]), (1, [(1, 0)]), (7, [(68, 0), (2, 0), (0, 1), (0, 2000)]), (3, [(0, 0), (1, 0), (7, 0), (0, 0)]), (1, [(1, 0)]), (7, [(68, 0), (3, 0), (0, 0), (0, 100)]), (3, [(1, 0), (34, 0), (8, 0), (0, 0)]), (3, [(0, 0), (15, 0), (4, 0), (0, 45)]), (7, [(70, 0), (5, 0)]), (3, [(1, 0), (12, 0), (9, 0), (0, (-1))]), (5, [(6, 0), (0, 0), (0, 0), (0, 0)]), (3, [(2, 0), (9, 0), (10, 0), (0, 5)]), (5, [(6, 0), (0, 0), (0, 0), (0, 0)]), (7, [(70, 0), (5, 0)]), (7, [(48, 0), (11, 0), (1, 0), (2, 0), (3, 0), (4, 0), (12, 0)]), (5, [(6, 0), (0, 0), (0, 0), (0, 0)]), (4, [(0, 0), (14, 0), (0, 1)]), (6, [(6, 0), (0, 0), (0, 0), (0, 0), (0, 0), (15, 0)]), (5, [(6, 0), (0, 0), (0, 0), (0, 0)]), (4, [(1, 0), (16, 0), (0, 1)]), (0, [(17, 0)]), (1, [(2, 0)]), (1, [(1, 0)]), (7, [(69, 0), (4, 0)]), (3, [(0, 0), (1, 0), (9, 0), (0, 0)]), (1, [(1, 0)]), (7, [(70, 0), (5, 0)]), (3, [(1, 0), (12, 0), (10, 0), (0, (-1))]), (5, [(6, 0), (0, 0), (0, 0), (0, 0)]), (3, [(2, 0), (9, 0), (11, 0), (0, 5)]), (5, [(6, 0), (0, 0), (0, 0), (0, 0)]), (7, [(70, 0), (5, 0)]), (7, [(48, 0), (12, 0), (1, 0), (2, 0), (3, 0), (4, 0), (13, 0)]), (5, [(6, 0), (0, 0), (0, 0), (0, 0)]), (4, [(0, 0), (15, 0), (0, 1)]), (6, [(6, 0), (0, 0), (0, 0), (0, 0), (0, 0), (16, 0)]), (5, [(6, 0), (0, 0), (0, 0), (0, 0)]), (4, [(1, 0), (17, 0), (0, 1)]), (0, [(18, 0)]), (1, [(2, 0)]), (1, [(1, 0)]), (1, [(1, 0)])]
def zC63 : ZC := [(0, 5, [some (2, (0, 0), (0, 0)), some (0, (1, 0), (0, 0)), some (0, (2, 0), (0, 0)), some (0, (3, 0), (0, 0)), some (0, (4, 0), (0, 0)), some (0, (5, 0), (0, 0))])]
theorem zG63 : z_go zC63 (z_A zT63) [] 63 400 true 44 zP63_0 0 [some (2, (0, 0), (0, 0)), some (0, (1, 0), (0, 0)), some (0, (2, 0), (0, 0)), some (0, (3, 0), (0, 0)), some (0, (4, 0), (0, 0)), some (0, (5, 0), (0, 0))] [] 5 = true := by decide +kernel
def f_x_section : ZFn := fun L S => match L with
  | [x1, x2, x3, x4, x5] => (bif decide ((v_x_isWithin x1 1 9 S) = 0) then ((2, []), S) else (bif decide ((v_x_isWithin x2 1 2000 S) = 0) then ((2, []), S) else (bif !decide ((v_x_isWithin x3 0 100 S) = 0) then (bif decide (x4 = 45) then (bif !decide ((v_x_levelOf x5 S) = (-1)) then (bif decide ((S r_x_sectionCount 0 0 0) < 5) then (e_bind (f_Section_begin [(S r_x_sectionCount 0 0 0), x1, x2, x3, x4, (v_x_levelOf x5 S)] S) (fun v1 S1 => ((0, [(e_wr (((e_upd S1 r_x_sectionCount 0 0 0 (e_wr ((S1 r_x_sectionCount 0 0 0) + 1))) r_x_sectionCount 0 0 0) - 1))]), (e_upd S1 r_x_sectionCount 0 0 0 (e_wr ((S1 r_x_sectionCount 0 0 0) + 1)))))) else ((3, []), S)) else ((2, []), S)) else (bif decide ((v_x_isForm x4 S) = 0) then ((2, []), S) else (bif !decide ((v_x_levelOf x5 S) = (-1)) then (bif decide ((S r_x_sectionCount 0 0 0) < 5) then (e_bind (f_Section_begin [(S r_x_sectionCount 0 0 0), x1, x2, x3, x4, (v_x_levelOf x5 S)] S) (fun v2 S2 => ((0, [(e_wr (((e_upd S2 r_x_sectionCount 0 0 0 (e_wr ((S2 r_x_sectionCount 0 0 0) + 1))) r_x_sectionCount 0 0 0) - 1))]), (e_upd S2 r_x_sectionCount 0 0 0 (e_wr ((S2 r_x_sectionCount 0 0 0) + 1)))))) else ((3, []), S)) else ((2, []), S)))) else ((2, []), S))))
  | _ => ((0, []), S)
theorem zE63 {x1 x2 x3 x4 x5 : Int} {S : ZS} : z_ev (z_F zT63) 44 zP63_0 [x1, x2, x3, x4, x5] S = f_x_section [x1, x2, x3, x4, x5] S := by
  simp -implicitDefEqProofs only [zP63_0, zF63_48, zF63_68, zF63_69, zF63_70, pF_x_isWithin, pF_x_isForm, pF_x_levelOf, Nat.zero_add, Nat.reduceAdd, Nat.reduceBEq, Int.reduceToNat, z_e0, z_e1, z_e2, z_e3, z_e4, z_e5, z_e6, z_e7, z_e8, z_e11, z_e13, o_v0, o_v1, o_v2, List.cons_append, List.nil_append, List.map_cons, List.map_nil, List.drop_succ_cons, List.drop_zero, List.take_succ_cons, List.take_zero, e_c0, e_c1, e_c2, e_c3, e_c4, e_c5, e_b0, e_b1, e_b2, e_b3, e_b4, e_b5, e_b6, e_b7, e_b8, e_b9, e_b10, e_b11, e_b12, e_b13, e_b14, e_b15, e_b16, e_b17, e_n0, e_bnd, e_un]
  try rfl
theorem zM63 : z_met 63 5 [(2, (0, 0), (0, 0)), (0, (1, 0), (0, 0)), (0, (2, 0), (0, 0)), (0, (3, 0), (0, 0)), (0, (4, 0), (0, 0)), (0, (5, 0), (0, 0))] f_x_section := z_met_ev zH63 (fun _ _ h => absurd h List.not_mem_nil) rfl zG63 (by decide +kernel) (fun L S hn => match L, hn with
  | [x1, x2, x3, x4, x5], _ => zE63)
def zW63 : List Nat := [r_x_sectionCount, r_Section_quota, r_Section_budget, r_Section_least, r_Section_form, r_Section_premiere]
theorem zK63 : z_kp 5 zW63 f_x_section := z_kp_ev (KT := [(48, 6, zW48), (68, 3, zW68), (69, 1, zW69), (70, 1, zW70)]) (.c zF63_48 zK48 (.c zF63_68 zK68 (.c zF63_69 zK69 (.c zF63_70 zK70 .n)))) (z_h163 rfl) (by decide +kernel) (fun L S hn => match L, hn with
  | [x1, x2, x3, x4, x5], _ => zE63)

-- w_section (91)
def zT91 : ZT := [(63, 5, [(2, (0, 0), (0, 0)), (0, (1, 0), (0, 0)), (0, (2, 0), (0, 0)), (0, (3, 0), (0, 0)), (0, (4, 0), (0, 0)), (0, (5, 0), (0, 0))], f_x_section)]
theorem zH91 : z_ok zT91 := .c zM63 .n
theorem zF91_63 : z_F zT91 63 = f_x_section := id rfl
def zP91_0 : List ZO := [(11, [(63, 0), (2, 0), (1, 1), (2, 2), (1, 0), (2, 0), (3, 0), (4, 0), (5, 0)]), (0, [(6, 0)]), (0, [(0, (-900001))]), (0, [(0, (-900002))])]
def zC91 : ZC := [(0, 5, [some (2, (0, 0), (0, 0)), some (0, (1, 0), (0, 0)), some (0, (2, 0), (0, 0)), some (0, (3, 0), (0, 0)), some (0, (4, 0), (0, 0)), some (0, (5, 0), (0, 0)), none])]
theorem zG91 : z_go zC91 (z_A zT91) [] 91 400 true 5 zP91_0 0 [some (2, (0, 0), (0, 0)), some (0, (1, 0), (0, 0)), some (0, (2, 0), (0, 0)), some (0, (3, 0), (0, 0)), some (0, (4, 0), (0, 0)), some (0, (5, 0), (0, 0)), none] [] 5 = true := by decide +kernel
def f_w_section : ZFn := fun L S => match L with
  | [x1, x2, x3, x4, x5] => (e_try (f_x_section [x1, x2, x3, x4, x5] S) (fun v1 S1 => ((0, [v1]), S1)) [(1, -900001), (2, -900002)])
  | _ => ((0, []), S)
theorem zE91 {x1 x2 x3 x4 x5 : Int} {S : ZS} : z_ev (z_F zT91) 5 zP91_0 [x1, x2, x3, x4, x5] S = f_w_section [x1, x2, x3, x4, x5] S := id rfl
theorem zM91 : z_met 91 5 [(2, (0, 0), (0, 0)), (0, (1, 0), (0, 0)), (0, (2, 0), (0, 0)), (0, (3, 0), (0, 0)), (0, (4, 0), (0, 0)), (0, (5, 0), (0, 0))] f_w_section := z_met_ev zH91 (fun _ _ h => absurd h List.not_mem_nil) rfl zG91 (by decide +kernel) (fun L S hn => match L, hn with
  | [x1, x2, x3, x4, x5], _ => zE91)
def zW91 : List Nat := [r_x_sectionCount, r_Section_quota, r_Section_budget, r_Section_least, r_Section_form, r_Section_premiere]
theorem zK91 : z_kp 5 zW91 f_w_section := z_kp_ev (KT := [(63, 5, zW63)]) (.c zF91_63 zK63 .n) (z_h163 rfl) (by decide +kernel) (fun L S hn => match L, hn with
  | [x1, x2, x3, x4, x5], _ => zE91)

-- x_checkSection (75)
def zT75 : ZT := [(72, 2, [(0, (1, 0), (0, 0)), (0, (2, 0), (0, 0))], f_x_checkNumber)]
theorem zH75 : z_ok zT75 := .c zM72 .n
theorem zF75_72 : z_F zT75 72 = f_x_checkNumber := id rfl
def zP75_0 : List ZO := [(5, [(6, 0), (0, 0), (0, 0), (0, 0)]), (7, [(72, 0), (1, 0), (2, 0)]), (0, [])]
def zC75 : ZC := [(0, 1, [some (2, (0, 0), (0, 0)), some (0, (1, 0), (0, 0))])]
theorem zG75 : z_go zC75 (z_A zT75) [] 75 400 true 4 zP75_0 0 [some (2, (0, 0), (0, 0)), some (0, (1, 0), (0, 0))] [] 1 = true := by decide +kernel
def f_x_checkSection : ZFn := fun L S => match L with
  | [x1] => (e_bind (f_x_checkNumber [x1, (S r_x_sectionCount 0 0 0)] S) (fun v1 S1 => ((0, []), S1)))
  | _ => ((0, []), S)
theorem zE75 {x1 : Int} {S : ZS} : z_ev (z_F zT75) 4 zP75_0 [x1] S = f_x_checkSection [x1] S := id rfl
theorem zM75 : z_met 75 1 [(2, (0, 0), (0, 0)), (0, (1, 0), (0, 0))] f_x_checkSection := z_met_ev zH75 (fun _ _ h => absurd h List.not_mem_nil) rfl zG75 (by decide +kernel) (fun L S hn => match L, hn with
  | [x1], _ => zE75)
def zW75 : List Nat := []
theorem zK75 : z_kp 1 zW75 f_x_checkSection := z_kp_ev (KT := [(72, 2, zW72)]) (.c zF75_72 zK72 .n) (z_h163 rfl) (by decide +kernel) (fun L S hn => match L, hn with
  | [x1], _ => zE75)

-- x_putInOrder (76)
def zT76 : ZT := []
theorem zH76 : z_ok zT76 := .n
def zP76_0 : List ZO := [(2, [(3, 0), (2, 0), (3, 0), (1, 0)])]
def zP76_3 : List ZO := [(3, [(5, 0), (3, 0), (3, 0), (0, 0)]), (6, [(3072, 0), (0, 0), (0, 0), (0, 0), (3, 0), (1, 0)]), (6, [(3136, 0), (0, 0), (0, 0), (0, 0), (3, 0), (2, 0)]), (0, []), (4, [(1, 0), (3, 0), (0, 1)]), (5, [(3136, 0), (0, 0), (0, 0), (4, 0)]), (3, [(3, 0), (3, 0), (5, 0), (2, 0)]), (6, [(3072, 0), (0, 0), (0, 0), (0, 0), (3, 0), (1, 0)]), (6, [(3136, 0), (0, 0), (0, 0), (0, 0), (3, 0), (2, 0)]), (0, []), (4, [(1, 0), (3, 0), (0, 1)]), (5, [(3072, 0), (0, 0), (0, 0), (6, 0)]), (6, [(3072, 0), (0, 0), (0, 0), (0, 0), (3, 0), (7, 0)]), (4, [(1, 0), (3, 0), (0, 1)]), (5, [(3136, 0), (0, 0), (0, 0), (8, 0)]), (6, [(3136, 0), (0, 0), (0, 0), (0, 0), (3, 0), (9, 0)]), (4, [(0, 0), (3, 0), (0, (-1))]), (2, [(3, 0), (1, 0), (2, 0), (10, 0)])]
def zD76 : ZD := [(0, 3, [some (2, (0, 0), (0, 0)), some (0, (1, 0), (0, 0)), some (0, (2, 0), (0, 0)), some (0, (3, 0), (0, 0)), none], 2, zP76_0), (3, 3, [some (2, (0, 0), (0, 0)), none, some (0, (1, 0), (0, 0)), some (0, (2, 0), (0, 0)), some (0, (3, 0), (0, 0))], 19, zP76_3)]
theorem zG76 : z_chk zT76 [] 76 zD76 = true := by decide +kernel
noncomputable def g_x_putInOrder (R : ZR) : ZR := z_psi (z_st (z_F zT76) zD76) R
noncomputable def f_x_putInOrder : ZFn := fun L S => g_x_putInOrder ((1000, L), S)
theorem zM76 : z_met 76 3 [(2, (0, 0), (0, 0)), (0, (1, 0), (0, 0)), (0, (2, 0), (0, 0)), (0, (3, 0), (0, 0))] f_x_putInOrder := z_met_psi zH76 (fun _ _ h => absurd h List.not_mem_nil) rfl zG76
theorem zE76_0 {x1 x2 x3 : Int} {S : ZS} : z_st (z_F zT76) zD76 0 [x1, x2, x3] S = ((1003, [x2, x3, x1]), S) := (id rfl : z_st (z_F zT76) zD76 0 [x1, x2, x3] S = z_ev (z_F zT76) 2 zP76_0 [x1, x2, x3] S).trans (id rfl)
theorem g_x_putInOrder_0 {x1 x2 x3 : Int} {S : ZS} : g_x_putInOrder ((1000, [x1, x2, x3]), S) = (g_x_putInOrder ((1003, [x2, x3, x1]), S)) := by
  unfold g_x_putInOrder
  refine ((z_psi_go (pc := 0)).trans (congrArg _ zE76_0)).trans ?_
  try simp only [z_psi_c, z_psi_b, z_psi_n, Nat.reduceLT, decide_true]
theorem zE76_3 {x1 x2 x3 : Int} {S : ZS} : z_st (z_F zT76) zD76 3 [x1, x2, x3] S = (bif decide (x3 ≤ 0) then ((0, []), (e_upd (e_upd S r_x_order 0 0 x3 x1) r_x_weights 0 0 x3 x2)) else (bif decide (x2 ≤ (S r_x_weights 0 0 (e_wr (x3 - 1)))) then ((0, []), (e_upd (e_upd S r_x_order 0 0 x3 x1) r_x_weights 0 0 x3 x2)) else ((1003, [x1, x2, (e_wr (x3 + (-1)))]), (e_upd (e_upd S r_x_order 0 0 x3 (S r_x_order 0 0 (e_wr (x3 - 1)))) r_x_weights 0 0 x3 (S r_x_weights 0 0 (e_wr (x3 - 1))))))) := (id rfl : z_st (z_F zT76) zD76 3 [x1, x2, x3] S = z_ev (z_F zT76) 19 zP76_3 [x1, x2, x3] S).trans (by
  simp -implicitDefEqProofs only [zP76_3, Nat.zero_add, Nat.reduceAdd, Nat.reduceBEq, Int.reduceToNat, z_e0, z_e1, z_e2, z_e3, z_e4, z_e5, z_e6, z_e7, z_e8, z_e11, z_e13, o_v0, o_v1, o_v2, List.cons_append, List.nil_append, List.map_cons, List.map_nil, List.drop_succ_cons, List.drop_zero, List.take_succ_cons, List.take_zero, e_c0, e_c1, e_c2, e_c3, e_c4, e_c5, e_b0, e_b1, e_b2, e_b3, e_b4, e_b5, e_b6, e_b7, e_b8, e_b9, e_b10, e_b11, e_b12, e_b13, e_b14, e_b15, e_b16, e_b17, e_n0, e_bnd, e_un]
  try rfl)
theorem g_x_putInOrder_3 {x1 x2 x3 : Int} {S : ZS} : g_x_putInOrder ((1003, [x1, x2, x3]), S) = (bif decide (x3 ≤ 0) then ((0, []), (e_upd (e_upd S r_x_order 0 0 x3 x1) r_x_weights 0 0 x3 x2)) else (bif decide (x2 ≤ (S r_x_weights 0 0 (e_wr (x3 - 1)))) then ((0, []), (e_upd (e_upd S r_x_order 0 0 x3 x1) r_x_weights 0 0 x3 x2)) else (g_x_putInOrder ((1003, [x1, x2, (e_wr (x3 + (-1)))]), (e_upd (e_upd S r_x_order 0 0 x3 (S r_x_order 0 0 (e_wr (x3 - 1)))) r_x_weights 0 0 x3 (S r_x_weights 0 0 (e_wr (x3 - 1)))))))) := by
  unfold g_x_putInOrder
  refine ((z_psi_go (pc := 3)).trans (congrArg _ zE76_3)).trans ?_
  try simp only [z_psi_c, z_psi_b, z_psi_n, Nat.reduceLT, decide_true]
def zW76 : List Nat := [r_x_order, r_x_weights]
theorem zK76 : z_kp 3 zW76 f_x_putInOrder := fun L S hL hc r i j k hr => z_psi_kp (KT := []) (F := z_F zT76) (W := zW76) (D := zD76) (.n) (z_h163 rfl) (by decide +kernel) _ hc r i j k hr

-- x_orderByScore (77)
noncomputable def zT77 : ZT := [(40, 1, [(28, (0, 0), (0, 0)), (0, (1, 0), (0, 0))], f_Readings_countTold), (42, 1, [(28, (0, 0), (0, 0)), (0, (1, 0), (0, 0))], f_Readings_meanOfEven), (76, 3, [(2, (0, 0), (0, 0)), (0, (1, 0), (0, 0)), (0, (2, 0), (0, 0)), (0, (3, 0), (0, 0))], f_x_putInOrder)]
theorem zH77 : z_ok zT77 := .c zM40 (.c zM42 (.c zM76 .n))
theorem zF77_40 : z_F zT77 40 = f_Readings_countTold := id rfl
theorem zF77_42 : z_F zT77 42 = f_Readings_meanOfEven := id rfl
theorem zF77_76 : z_F zT77 76 = f_x_putInOrder := id rfl
def zP77_0 : List ZO := [(2, [(4, 0), (0, 0), (0, 0)])]
def zP77_4 : List ZO := [(5, [(4, 0), (0, 0), (0, 0), (0, 0)]), (3, [(3, 0), (1, 0), (2, 0), (3, 0)]), (0, [(1, 0)]), (7, [(40, 0), (2, 0)]), (3, [(5, 0), (2, 0), (4, 0), (0, 0)]), (4, [(0, 0), (2, 0), (0, 1)]), (2, [(4, 0), (1, 0), (5, 0)]), (7, [(42, 0), (2, 0)]), (7, [(76, 0), (1, 0), (2, 0), (5, 0)]), (4, [(0, 0), (1, 0), (0, 1)]), (4, [(0, 0), (2, 0), (0, 1)]), (2, [(4, 0), (7, 0), (8, 0)])]
def zD77 : ZD := [(0, 0, [some (2, (0, 0), (0, 0)), none, none], 2, zP77_0), (4, 2, [some (2, (0, 0), (0, 0)), some (0, (1, 0), (0, 0)), some (0, (2, 0), (0, 0))], 13, zP77_4)]
theorem zG77 : z_chk zT77 [] 77 zD77 = true := by decide +kernel
noncomputable def g_x_orderByScore (R : ZR) : ZR := z_psi (z_st (z_F zT77) zD77) R
noncomputable def f_x_orderByScore : ZFn := fun L S => g_x_orderByScore ((1000, L), S)
theorem zM77 : z_met 77 0 [(2, (0, 0), (0, 0))] f_x_orderByScore := z_met_psi zH77 (fun _ _ h => absurd h List.not_mem_nil) rfl zG77
theorem zE77_0 {S : ZS} : z_st (z_F zT77) zD77 0 [] S = ((1004, [0, 0]), S) := (id rfl : z_st (z_F zT77) zD77 0 [] S = z_ev (z_F zT77) 2 zP77_0 [] S).trans (id rfl)
theorem g_x_orderByScore_0 {S : ZS} : g_x_orderByScore ((1000, []), S) = (g_x_orderByScore ((1004, [0, 0]), S)) := by
  unfold g_x_orderByScore
  refine ((z_psi_go (pc := 0)).trans (congrArg _ zE77_0)).trans ?_
  try simp only [z_psi_c, z_psi_b, z_psi_n, Nat.reduceLT, decide_true]
theorem zE77_4 {x1 x2 : Int} {S : ZS} : z_st (z_F zT77) zD77 4 [x1, x2] S = (bif decide ((S r_x_filmCount 0 0 0) ≤ x2) then ((0, [x1]), S) else (e_bind (f_Readings_countTold [x2] S) (fun v1 S1 => (bif decide (v1 ≤ 0) then ((1004, [x1, (e_wr (x2 + 1))]), S1) else (e_bind (f_Readings_meanOfEven [x2] S1) (fun v2 S2 => (e_bind (f_x_putInOrder [x1, x2, v2] S2) (fun v3 S3 => ((1004, [(e_wr (x1 + 1)), (e_wr (x2 + 1))]), S3))))))))) := (id rfl : z_st (z_F zT77) zD77 4 [x1, x2] S = z_ev (z_F zT77) 13 zP77_4 [x1, x2] S).trans (id rfl)
theorem g_x_orderByScore_4 {x1 x2 : Int} {S : ZS} : g_x_orderByScore ((1004, [x1, x2]), S) = (bif decide ((S r_x_filmCount 0 0 0) ≤ x2) then ((0, [x1]), S) else (e_bind (f_Readings_countTold [x2] S) (fun v1 S1 => (bif decide (v1 ≤ 0) then (g_x_orderByScore ((1004, [x1, (e_wr (x2 + 1))]), S1)) else (e_bind (f_Readings_meanOfEven [x2] S1) (fun v2 S2 => (e_bind (f_x_putInOrder [x1, x2, v2] S2) (fun v3 S3 => (g_x_orderByScore ((1004, [(e_wr (x1 + 1)), (e_wr (x2 + 1))]), S3)))))))))) := by
  unfold g_x_orderByScore
  refine ((z_psi_go (pc := 4)).trans (congrArg _ zE77_4)).trans ?_
  try simp only [z_psi_c, z_psi_b, z_psi_n, Nat.reduceLT, decide_true]
def zW77 : List Nat := [r_x_order, r_x_weights]
theorem zK77 : z_kp 0 zW77 f_x_orderByScore := fun L S hL hc r i j k hr => z_psi_kp (KT := [(40, 1, zW40), (42, 1, zW42), (76, 3, zW76)]) (F := z_F zT77) (W := zW77) (D := zD77) (.c zF77_40 zK40 (.c zF77_42 zK42 (.c zF77_76 zK76 .n))) (z_h163 rfl) (by decide +kernel) _ hc r i j k hr

-- Readings_spread (43)
def zT43 : ZT := [(41, 2, [(28, (0, 0), (0, 0)), (0, (1, 0), (0, 0)), (0, (2, 0), (0, 0))], f_Readings_evenScore)]
theorem zH43 : z_ok zT43 := .c zM41 .n
theorem zF43_41 : z_F zT43 41 = f_Readings_evenScore := id rfl
def zP43_0 : List ZO := [(2, [(10, 0), (1, 0), (0, 0), (0, 0), (0, 0), (0, 0)])]
def zP43_10 : List ZO := [(5, [(1669, 0), (0, 0), (0, 0), (0, 0)]), (3, [(3, 0), (2, 0), (5, 0), (6, 0)]), (4, [(1, 0), (3, 0), (2, 0)]), (0, [(7, 0)]), (5, [(2048, 0), (1, 0), (0, 0), (5, 0)]), (3, [(2, 0), (2, 0), (7, 0), (0, 0)]), (4, [(0, 0), (5, 0), (0, 1)]), (2, [(10, 0), (1, 0), (2, 0), (3, 0), (4, 0), (8, 0)]), (7, [(41, 0), (1, 0), (5, 0)]), (3, [(0, 0), (6, 0), (4, 0), (0, 0)]), (3, [(0, 0), (2, 0), (4, 0), (0, 0)]), (4, [(0, 0), (5, 0), (0, 1)]), (2, [(10, 0), (1, 0), (8, 0), (8, 0), (0, 1), (9, 0)]), (4, [(8, 0), (3, 0), (8, 0)]), (4, [(0, 0), (5, 0), (0, 1)]), (2, [(10, 0), (1, 0), (8, 0), (9, 0), (0, 1), (10, 0)]), (4, [(7, 0), (2, 0), (8, 0)]), (3, [(0, 0), (2, 0), (4, 0), (0, 0)]), (4, [(0, 0), (5, 0), (0, 1)]), (2, [(10, 0), (1, 0), (9, 0), (8, 0), (0, 1), (10, 0)]), (4, [(8, 0), (3, 0), (8, 0)]), (4, [(0, 0), (5, 0), (0, 1)]), (2, [(10, 0), (1, 0), (9, 0), (10, 0), (0, 1), (11, 0)])]
def zD43 : ZD := [(0, 1, [some (28, (0, 0), (0, 0)), some (0, (1, 0), (0, 0)), none, none, none, none, none], 2, zP43_0), (10, 5, [some (28, (0, 0), (0, 0)), some (0, (1, 0), (0, 0)), some (0, (2, 0), (0, 0)), some (0, (3, 0), (0, 0)), some (0, (4, 0), (0, 0)), some (0, (5, 0), (0, 0)), none], 24, zP43_10)]
theorem zG43 : z_chk zT43 [] 43 zD43 = true := by decide +kernel
noncomputable def g_Readings_spread (R : ZR) : ZR := z_psi (z_st (z_F zT43) zD43) R
noncomputable def f_Readings_spread : ZFn := fun L S => g_Readings_spread ((1000, L), S)
theorem zM43 : z_met 43 1 [(28, (0, 0), (0, 0)), (0, (1, 0), (0, 0))] f_Readings_spread := z_met_psi zH43 (fun _ _ h => absurd h List.not_mem_nil) rfl zG43
theorem zE43_0 {x1 : Int} {S : ZS} : z_st (z_F zT43) zD43 0 [x1] S = ((1010, [x1, 0, 0, 0, 0]), S) := (id rfl : z_st (z_F zT43) zD43 0 [x1] S = z_ev (z_F zT43) 2 zP43_0 [x1] S).trans (id rfl)
theorem g_Readings_spread_0 {x1 : Int} {S : ZS} : g_Readings_spread ((1000, [x1]), S) = (g_Readings_spread ((1010, [x1, 0, 0, 0, 0]), S)) := by
  unfold g_Readings_spread
  refine ((z_psi_go (pc := 0)).trans (congrArg _ zE43_0)).trans ?_
  try simp only [z_psi_c, z_psi_b, z_psi_n, Nat.reduceLT, decide_true]
theorem zE43_10 {x1 x2 x3 x4 x5 : Int} {S : ZS} : z_st (z_F zT43) zD43 10 [x1, x2, x3, x4, x5] S = (bif decide ((S r_Readings_readerCount 0 0 0) ≤ x5) then ((0, [(e_wr (x3 - x2))]), S) else (bif decide ((S r_Readings_marks_r x1 0 x5) < 0) then ((1010, [x1, x2, x3, x4, (e_wr (x5 + 1))]), S) else (bif decide (x4 = 0) then (bif decide (x4 = 0) then ((1010, [x1, (v_Readings_evenScore x1 x5 S), (v_Readings_evenScore x1 x5 S), 1, (e_wr (x5 + 1))]), S) else ((1010, [x1, (v_Readings_evenScore x1 x5 S), (if x3 < (v_Readings_evenScore x1 x5 S) then (v_Readings_evenScore x1 x5 S) else x3), 1, (e_wr (x5 + 1))]), S)) else (bif decide (x4 = 0) then ((1010, [x1, (if (v_Readings_evenScore x1 x5 S) < x2 then (v_Readings_evenScore x1 x5 S) else x2), (v_Readings_evenScore x1 x5 S), 1, (e_wr (x5 + 1))]), S) else ((1010, [x1, (if (v_Readings_evenScore x1 x5 S) < x2 then (v_Readings_evenScore x1 x5 S) else x2), (if x3 < (v_Readings_evenScore x1 x5 S) then (v_Readings_evenScore x1 x5 S) else x3), 1, (e_wr (x5 + 1))]), S))))) := (id rfl : z_st (z_F zT43) zD43 10 [x1, x2, x3, x4, x5] S = z_ev (z_F zT43) 24 zP43_10 [x1, x2, x3, x4, x5] S).trans (by
  simp -implicitDefEqProofs only [zP43_10, zF43_41, pF_Readings_evenScore, Nat.zero_add, Nat.reduceAdd, Nat.reduceBEq, Int.reduceToNat, z_e0, z_e1, z_e2, z_e3, z_e4, z_e5, z_e6, z_e7, z_e8, z_e11, z_e13, o_v0, o_v1, o_v2, List.cons_append, List.nil_append, List.map_cons, List.map_nil, List.drop_succ_cons, List.drop_zero, List.take_succ_cons, List.take_zero, e_c0, e_c1, e_c2, e_c3, e_c4, e_c5, e_b0, e_b1, e_b2, e_b3, e_b4, e_b5, e_b6, e_b7, e_b8, e_b9, e_b10, e_b11, e_b12, e_b13, e_b14, e_b15, e_b16, e_b17, e_n0, e_bnd, e_un]
  try rfl)
theorem g_Readings_spread_10 {x1 x2 x3 x4 x5 : Int} {S : ZS} : g_Readings_spread ((1010, [x1, x2, x3, x4, x5]), S) = (bif decide ((S r_Readings_readerCount 0 0 0) ≤ x5) then ((0, [(e_wr (x3 - x2))]), S) else (bif decide ((S r_Readings_marks_r x1 0 x5) < 0) then (g_Readings_spread ((1010, [x1, x2, x3, x4, (e_wr (x5 + 1))]), S)) else (bif decide (x4 = 0) then (bif decide (x4 = 0) then (g_Readings_spread ((1010, [x1, (v_Readings_evenScore x1 x5 S), (v_Readings_evenScore x1 x5 S), 1, (e_wr (x5 + 1))]), S)) else (g_Readings_spread ((1010, [x1, (v_Readings_evenScore x1 x5 S), (if x3 < (v_Readings_evenScore x1 x5 S) then (v_Readings_evenScore x1 x5 S) else x3), 1, (e_wr (x5 + 1))]), S))) else (bif decide (x4 = 0) then (g_Readings_spread ((1010, [x1, (if (v_Readings_evenScore x1 x5 S) < x2 then (v_Readings_evenScore x1 x5 S) else x2), (v_Readings_evenScore x1 x5 S), 1, (e_wr (x5 + 1))]), S)) else (g_Readings_spread ((1010, [x1, (if (v_Readings_evenScore x1 x5 S) < x2 then (v_Readings_evenScore x1 x5 S) else x2), (if x3 < (v_Readings_evenScore x1 x5 S) then (v_Readings_evenScore x1 x5 S) else x3), 1, (e_wr (x5 + 1))]), S)))))) := by
  unfold g_Readings_spread
  refine ((z_psi_go (pc := 10)).trans (congrArg _ zE43_10)).trans ?_
  try simp only [z_psi_c, z_psi_b, z_psi_n, Nat.reduceLT, decide_true]
def zW43 : List Nat := []
theorem zK43 : z_kp 1 zW43 f_Readings_spread := fun L S hL hc r i j k hr => z_psi_kp (KT := [(41, 2, zW41)]) (F := z_F zT43) (W := zW43) (D := zD43) (.c zF43_41 zK41 .n) (z_h163 rfl) (by decide +kernel) _ hc r i j k hr

-- x_filmsIn (79)
def zT79 : ZT := []
theorem zH79 : z_ok zT79 := .n
def zP79_0 : List ZO := [(2, [(4, 0), (1, 0), (0, 0), (0, 0)])]
def zP79_4 : List ZO := [(5, [(4, 0), (0, 0), (0, 0), (0, 0)]), (3, [(3, 0), (1, 0), (3, 0), (4, 0)]), (0, [(2, 0)]), (5, [(195, 0), (3, 0), (0, 0), (0, 0)]), (3, [(1, 0), (2, 0), (5, 0), (1, 0)]), (4, [(0, 0), (3, 0), (0, 1)]), (2, [(4, 0), (1, 0), (2, 0), (6, 0)]), (4, [(0, 0), (2, 0), (0, 1)]), (4, [(0, 0), (3, 0), (0, 1)]), (2, [(4, 0), (1, 0), (6, 0), (7, 0)])]
def zD79 : ZD := [(0, 1, [some (2, (0, 0), (0, 0)), some (0, (1, 0), (0, 0)), none, none], 2, zP79_0), (4, 3, [some (2, (0, 0), (0, 0)), some (0, (1, 0), (0, 0)), some (0, (2, 0), (0, 0)), some (0, (3, 0), (0, 0))], 11, zP79_4)]
theorem zG79 : z_chk zT79 [] 79 zD79 = true := by decide +kernel
noncomputable def g_x_filmsIn (R : ZR) : ZR := z_psi (z_st (z_F zT79) zD79) R
noncomputable def f_x_filmsIn : ZFn := fun L S => g_x_filmsIn ((1000, L), S)
theorem zM79 : z_met 79 1 [(2, (0, 0), (0, 0)), (0, (1, 0), (0, 0))] f_x_filmsIn := z_met_psi zH79 (fun _ _ h => absurd h List.not_mem_nil) rfl zG79
theorem zE79_0 {x1 : Int} {S : ZS} : z_st (z_F zT79) zD79 0 [x1] S = ((1004, [x1, 0, 0]), S) := (id rfl : z_st (z_F zT79) zD79 0 [x1] S = z_ev (z_F zT79) 2 zP79_0 [x1] S).trans (id rfl)
theorem g_x_filmsIn_0 {x1 : Int} {S : ZS} : g_x_filmsIn ((1000, [x1]), S) = (g_x_filmsIn ((1004, [x1, 0, 0]), S)) := by
  unfold g_x_filmsIn
  refine ((z_psi_go (pc := 0)).trans (congrArg _ zE79_0)).trans ?_
  try simp only [z_psi_c, z_psi_b, z_psi_n, Nat.reduceLT, decide_true]
theorem zE79_4 {x1 x2 x3 : Int} {S : ZS} : z_st (z_F zT79) zD79 4 [x1, x2, x3] S = (bif decide ((S r_x_filmCount 0 0 0) ≤ x3) then ((0, [x2]), S) else (bif !decide ((S r_Film_section x3 0 0) = x1) then ((1004, [x1, x2, (e_wr (x3 + 1))]), S) else ((1004, [x1, (e_wr (x2 + 1)), (e_wr (x3 + 1))]), S))) := (id rfl : z_st (z_F zT79) zD79 4 [x1, x2, x3] S = z_ev (z_F zT79) 11 zP79_4 [x1, x2, x3] S).trans (id rfl)
theorem g_x_filmsIn_4 {x1 x2 x3 : Int} {S : ZS} : g_x_filmsIn ((1004, [x1, x2, x3]), S) = (bif decide ((S r_x_filmCount 0 0 0) ≤ x3) then ((0, [x2]), S) else (bif !decide ((S r_Film_section x3 0 0) = x1) then (g_x_filmsIn ((1004, [x1, x2, (e_wr (x3 + 1))]), S)) else (g_x_filmsIn ((1004, [x1, (e_wr (x2 + 1)), (e_wr (x3 + 1))]), S)))) := by
  unfold g_x_filmsIn
  refine ((z_psi_go (pc := 4)).trans (congrArg _ zE79_4)).trans ?_
  try simp only [z_psi_c, z_psi_b, z_psi_n, Nat.reduceLT, decide_true]
def zW79 : List Nat := []
theorem zK79 : z_kp 1 zW79 f_x_filmsIn := fun L S hL hc r i j k hr => z_psi_kp (KT := []) (F := z_F zT79) (W := zW79) (D := zD79) (.n) (z_h163 rfl) (by decide +kernel) _ hc r i j k hr

-- x_minutesIn (80)
def zT80 : ZT := []
theorem zH80 : z_ok zT80 := .n
def zP80_0 : List ZO := [(2, [(4, 0), (1, 0), (0, 0), (0, 0)])]
def zP80_4 : List ZO := [(5, [(4, 0), (0, 0), (0, 0), (0, 0)]), (3, [(3, 0), (1, 0), (3, 0), (4, 0)]), (0, [(2, 0)]), (5, [(195, 0), (3, 0), (0, 0), (0, 0)]), (3, [(1, 0), (2, 0), (5, 0), (1, 0)]), (4, [(0, 0), (3, 0), (0, 1)]), (2, [(4, 0), (1, 0), (2, 0), (6, 0)]), (5, [(193, 0), (3, 0), (0, 0), (0, 0)]), (4, [(0, 0), (2, 0), (6, 0)]), (4, [(0, 0), (3, 0), (0, 1)]), (2, [(4, 0), (1, 0), (7, 0), (8, 0)])]
def zD80 : ZD := [(0, 1, [some (2, (0, 0), (0, 0)), some (0, (1, 0), (0, 0)), none, none], 2, zP80_0), (4, 3, [some (2, (0, 0), (0, 0)), some (0, (1, 0), (0, 0)), some (0, (2, 0), (0, 0)), some (0, (3, 0), (0, 0))], 12, zP80_4)]
theorem zG80 : z_chk zT80 [] 80 zD80 = true := by decide +kernel
noncomputable def g_x_minutesIn (R : ZR) : ZR := z_psi (z_st (z_F zT80) zD80) R
noncomputable def f_x_minutesIn : ZFn := fun L S => g_x_minutesIn ((1000, L), S)
theorem zM80 : z_met 80 1 [(2, (0, 0), (0, 0)), (0, (1, 0), (0, 0))] f_x_minutesIn := z_met_psi zH80 (fun _ _ h => absurd h List.not_mem_nil) rfl zG80
theorem zE80_0 {x1 : Int} {S : ZS} : z_st (z_F zT80) zD80 0 [x1] S = ((1004, [x1, 0, 0]), S) := (id rfl : z_st (z_F zT80) zD80 0 [x1] S = z_ev (z_F zT80) 2 zP80_0 [x1] S).trans (id rfl)
theorem g_x_minutesIn_0 {x1 : Int} {S : ZS} : g_x_minutesIn ((1000, [x1]), S) = (g_x_minutesIn ((1004, [x1, 0, 0]), S)) := by
  unfold g_x_minutesIn
  refine ((z_psi_go (pc := 0)).trans (congrArg _ zE80_0)).trans ?_
  try simp only [z_psi_c, z_psi_b, z_psi_n, Nat.reduceLT, decide_true]
theorem zE80_4 {x1 x2 x3 : Int} {S : ZS} : z_st (z_F zT80) zD80 4 [x1, x2, x3] S = (bif decide ((S r_x_filmCount 0 0 0) ≤ x3) then ((0, [x2]), S) else (bif !decide ((S r_Film_section x3 0 0) = x1) then ((1004, [x1, x2, (e_wr (x3 + 1))]), S) else ((1004, [x1, (e_wr (x2 + (S r_Film_minutes x3 0 0))), (e_wr (x3 + 1))]), S))) := (id rfl : z_st (z_F zT80) zD80 4 [x1, x2, x3] S = z_ev (z_F zT80) 12 zP80_4 [x1, x2, x3] S).trans (id rfl)
theorem g_x_minutesIn_4 {x1 x2 x3 : Int} {S : ZS} : g_x_minutesIn ((1004, [x1, x2, x3]), S) = (bif decide ((S r_x_filmCount 0 0 0) ≤ x3) then ((0, [x2]), S) else (bif !decide ((S r_Film_section x3 0 0) = x1) then (g_x_minutesIn ((1004, [x1, x2, (e_wr (x3 + 1))]), S)) else (g_x_minutesIn ((1004, [x1, (e_wr (x2 + (S r_Film_minutes x3 0 0))), (e_wr (x3 + 1))]), S)))) := by
  unfold g_x_minutesIn
  refine ((z_psi_go (pc := 4)).trans (congrArg _ zE80_4)).trans ?_
  try simp only [z_psi_c, z_psi_b, z_psi_n, Nat.reduceLT, decide_true]
def zW80 : List Nat := []
theorem zK80 : z_kp 1 zW80 f_x_minutesIn := fun L S hL hc r i j k hr => z_psi_kp (KT := []) (F := z_F zT80) (W := zW80) (D := zD80) (.n) (z_h163 rfl) (by decide +kernel) _ hc r i j k hr

-- x_canBeChosen (78)
noncomputable def zT78 : ZT := [(43, 1, [(28, (0, 0), (0, 0)), (0, (1, 0), (0, 0))], f_Readings_spread), (79, 1, [(2, (0, 0), (0, 0)), (0, (1, 0), (0, 0))], f_x_filmsIn), (80, 1, [(2, (0, 0), (0, 0)), (0, (1, 0), (0, 0))], f_x_minutesIn)]
theorem zH78 : z_ok zT78 := .c zM43 (.c zM79 (.c zM80 .n))
theorem zF78_43 : z_F zT78 43 = f_Readings_spread := id rfl
theorem zF78_79 : z_F zT78 79 = f_x_filmsIn := id rfl
theorem zF78_80 : z_F zT78 80 = f_x_minutesIn := id rfl
def zP78_0 : List ZO := [(5, [(195, 0), (1, 0), (0, 0), (0, 0)]), (3, [(1, 0), (1, 0), (4, 0), (0, (-1))]), (0, [(0, 0)]), (5, [(196, 0), (1, 0), (0, 0), (0, 0)]), (3, [(1, 0), (1, 0), (5, 0), (0, 0)]), (0, [(0, 0)]), (7, [(43, 0), (1, 0)]), (3, [(4, 0), (1, 0), (6, 0), (0, 30)]), (0, [(0, 0)]), (5, [(1347, 0), (3, 0), (0, 0), (0, 0)]), (3, [(0, 0), (18, 0), (7, 0), (0, 45)]), (5, [(1346, 0), (3, 0), (0, 0), (0, 0)]), (3, [(2, 0), (1, 0), (2, 0), (8, 0)]), (0, [(0, 0)]), (5, [(197, 0), (1, 0), (0, 0), (0, 0)]), (5, [(1348, 0), (3, 0), (0, 0), (0, 0)]), (3, [(2, 0), (1, 0), (9, 0), (10, 0)]), (0, [(0, 0)]), (7, [(79, 0), (3, 0)]), (5, [(1344, 0), (3, 0), (0, 0), (0, 0)]), (3, [(3, 0), (1, 0), (11, 0), (12, 0)]), (0, [(0, 0)]), (7, [(80, 0), (3, 0)]), (5, [(193, 0), (1, 0), (0, 0), (0, 0)]), (4, [(0, 0), (13, 0), (14, 0)]), (5, [(1345, 0), (3, 0), (0, 0), (0, 0)]), (3, [(4, 0), (1, 0), (15, 0), (16, 0)]), (0, [(0, 0)]), (0, [(0, 1)]), (5, [(1347, 0), (3, 0), (0, 0), (0, 0)]), (5, [(192, 0), (1, 0), (0, 0), (0, 0)]), (3, [(1, 0), (1, 0), (8, 0), (9, 0)]), (0, [(0, 0)]), (5, [(1346, 0), (3, 0), (0, 0), (0, 0)]), (3, [(2, 0), (1, 0), (2, 0), (10, 0)]), (0, [(0, 0)]), (5, [(197, 0), (1, 0), (0, 0), (0, 0)]), (5, [(1348, 0), (3, 0), (0, 0), (0, 0)]), (3, [(2, 0), (1, 0), (11, 0), (12, 0)]), (0, [(0, 0)]), (7, [(79, 0), (3, 0)]), (5, [(1344, 0), (3, 0), (0, 0), (0, 0)]), (3, [(3, 0), (1, 0), (13, 0), (14, 0)]), (0, [(0, 0)]), (7, [(80, 0), (3, 0)]), (5, [(193, 0), (1, 0), (0, 0), (0, 0)]), (4, [(0, 0), (15, 0), (16, 0)]), (5, [(1345, 0), (3, 0), (0, 0), (0, 0)]), (3, [(4, 0), (1, 0), (17, 0), (18, 0)]), (0, [(0, 0)]), (0, [(0, 1)])]
def zC78 : ZC := [(0, 3, [some (2, (0, 0), (0, 0)), some (0, (1, 0), (0, 0)), some (0, (2, 0), (0, 0)), some (0, (3, 0), (0, 0)), none, none])]
theorem zG78 : z_go zC78 (z_A zT78) [] 78 400 true 52 zP78_0 0 [some (2, (0, 0), (0, 0)), some (0, (1, 0), (0, 0)), some (0, (2, 0), (0, 0)), some (0, (3, 0), (0, 0)), none, none] [] 3 = true := by decide +kernel
noncomputable def f_x_canBeChosen : ZFn := fun L S => match L with
  | [x1, x2, x3] => (bif !decide ((S r_Film_section x1 0 0) = (-1)) then ((0, [0]), S) else (bif !decide ((S r_Film_isWithdrawn x1 0 0) = 0) then ((0, [0]), S) else (e_bind (f_Readings_spread [x1] S) (fun v1 S1 => (bif decide (30 < v1) then ((0, [0]), S1) else (bif decide ((S1 r_Section_form x3 0 0) = 45) then (bif decide (x2 < (S1 r_Section_least x3 0 0)) then ((0, [0]), S1) else (bif decide ((S1 r_Film_stillIs x1 0 0) < (S1 r_Section_premiere x3 0 0)) then ((0, [0]), S1) else (e_bind (f_x_filmsIn [x3] S1) (fun v2 S2 => (bif decide ((S2 r_Section_quota x3 0 0) ≤ v2) then ((0, [0]), S2) else (e_bind (f_x_minutesIn [x3] S2) (fun v3 S3 => (bif decide ((S3 r_Section_budget x3 0 0) < (e_wr (v3 + (S3 r_Film_minutes x1 0 0)))) then ((0, [0]), S3) else ((0, [1]), S3))))))))) else (bif !decide ((S1 r_Section_form x3 0 0) = (S1 r_Film_form x1 0 0)) then ((0, [0]), S1) else (bif decide (x2 < (S1 r_Section_least x3 0 0)) then ((0, [0]), S1) else (bif decide ((S1 r_Film_stillIs x1 0 0) < (S1 r_Section_premiere x3 0 0)) then ((0, [0]), S1) else (e_bind (f_x_filmsIn [x3] S1) (fun v4 S4 => (bif decide ((S4 r_Section_quota x3 0 0) ≤ v4) then ((0, [0]), S4) else (e_bind (f_x_minutesIn [x3] S4) (fun v5 S5 => (bif decide ((S5 r_Section_budget x3 0 0) < (e_wr (v5 + (S5 r_Film_minutes x1 0 0)))) then ((0, [0]), S5) else ((0, [1]), S5))))))))))))))))
  | _ => ((0, []), S)
theorem zE78 {x1 x2 x3 : Int} {S : ZS} : z_ev (z_F zT78) 52 zP78_0 [x1, x2, x3] S = f_x_canBeChosen [x1, x2, x3] S := by
  simp -implicitDefEqProofs only [zP78_0, zF78_43, zF78_79, zF78_80, Nat.zero_add, Nat.reduceAdd, Nat.reduceBEq, Int.reduceToNat, z_e0, z_e1, z_e2, z_e3, z_e4, z_e5, z_e6, z_e7, z_e8, z_e11, z_e13, o_v0, o_v1, o_v2, List.cons_append, List.nil_append, List.map_cons, List.map_nil, List.drop_succ_cons, List.drop_zero, List.take_succ_cons, List.take_zero, e_c0, e_c1, e_c2, e_c3, e_c4, e_c5, e_b0, e_b1, e_b2, e_b3, e_b4, e_b5, e_b6, e_b7, e_b8, e_b9, e_b10, e_b11, e_b12, e_b13, e_b14, e_b15, e_b16, e_b17, e_n0, e_bnd, e_un]
  try rfl
theorem zM78 : z_met 78 3 [(2, (0, 0), (0, 0)), (0, (1, 0), (0, 0)), (0, (2, 0), (0, 0)), (0, (3, 0), (0, 0))] f_x_canBeChosen := z_met_ev zH78 (fun _ _ h => absurd h List.not_mem_nil) rfl zG78 (by decide +kernel) (fun L S hn => match L, hn with
  | [x1, x2, x3], _ => zE78)
def zW78 : List Nat := []
theorem zK78 : z_kp 3 zW78 f_x_canBeChosen := z_kp_ev (KT := [(43, 1, zW43), (79, 1, zW79), (80, 1, zW80)]) (.c zF78_43 zK43 (.c zF78_79 zK79 (.c zF78_80 zK80 .n))) (z_h163 rfl) (by decide +kernel) (fun L S hn => match L, hn with
  | [x1, x2, x3], _ => zE78)

-- Film_enter (25)
def zT25 : ZT := []
theorem zH25 : z_ok zT25 := .n
def zP25_0 : List ZO := [(6, [(195, 0), (0, 0), (1, 0), (0, 0), (0, 0), (2, 0)]), (6, [(198, 0), (0, 0), (1, 0), (0, 0), (0, 0), (3, 0)]), (0, [])]
def zC25 : ZC := [(0, 3, [some (5, (1, 0), (0, 0)), some (0, (2, 0), (0, 0)), some (0, (3, 0), (0, 0))])]
theorem zG25 : z_go zC25 (z_A zT25) [] 25 400 true 4 zP25_0 0 [some (5, (1, 0), (0, 0)), some (0, (2, 0), (0, 0)), some (0, (3, 0), (0, 0))] [] 3 = true := by decide +kernel
def f_Film_enter : ZFn := fun L S => match L with
  | [x1, x2, x3] => ((0, []), (e_upd (e_upd S r_Film_section x1 0 0 x2) r_Film_promise x1 0 0 x3))
  | _ => ((0, []), S)
theorem zE25 {x1 x2 x3 : Int} {S : ZS} : z_ev (z_F zT25) 4 zP25_0 [x1, x2, x3] S = f_Film_enter [x1, x2, x3] S := id rfl
theorem zM25 : z_met 25 3 [(5, (1, 0), (0, 0)), (0, (2, 0), (0, 0)), (0, (3, 0), (0, 0))] f_Film_enter := z_met_ev zH25 (fun _ _ h => absurd h List.not_mem_nil) rfl zG25 (by decide +kernel) (fun L S hn => match L, hn with
  | [x1, x2, x3], _ => zE25)
def zW25 : List Nat := [r_Film_section, r_Film_promise]
theorem zK25 : z_kp 3 zW25 f_Film_enter := z_kp_ev (KT := []) (.n) (z_h163 rfl) (by decide +kernel) (fun L S hn => match L, hn with
  | [x1, x2, x3], _ => zE25)

-- Archive_add (1)
def zT1 : ZT := []
theorem zH1 : z_ok zT1 := .n
def zP1_0 : List ZO := [(5, [(707, 0), (0, 0), (0, 0), (0, 0)]), (6, [(768, 0), (2, 0), (0, 0), (0, 0), (3, 0), (1, 0)]), (5, [(707, 0), (0, 0), (0, 0), (0, 0)]), (6, [(832, 0), (0, 0), (0, 0), (0, 0), (4, 0), (2, 0)]), (5, [(707, 0), (0, 0), (0, 0), (0, 0)]), (4, [(0, 0), (5, 0), (0, 1)]), (4, [(4, 0), (6, 0), (0, 400)]), (6, [(707, 0), (0, 0), (0, 0), (0, 0), (0, 0), (7, 0)]), (5, [(706, 0), (0, 0), (0, 0), (0, 0)]), (4, [(0, 0), (8, 0), (0, 1)]), (4, [(7, 0), (9, 0), (0, 400)]), (6, [(706, 0), (0, 0), (0, 0), (0, 0), (0, 0), (10, 0)]), (0, [])]
def zC1 : ZC := [(0, 2, [some (13, (0, 0), (0, 0)), some (0, (1, 0), (0, 0)), some (0, (2, 0), (0, 0))])]
theorem zG1 : z_go zC1 (z_A zT1) [] 1 400 true 14 zP1_0 0 [some (13, (0, 0), (0, 0)), some (0, (1, 0), (0, 0)), some (0, (2, 0), (0, 0))] [] 2 = true := by decide +kernel
def f_Archive_add : ZFn := fun L S => match L with
  | [x1, x2] => ((0, []), (e_upd (e_upd (e_upd (e_upd S r_Archive_letters 0 0 (S r_Archive_next 0 0 0) (e_nar 2 x1)) r_Archive_filmOf 0 0 (S r_Archive_next 0 0 0) x2) r_Archive_next 0 0 0 (e_wr ((e_wr ((S r_Archive_next 0 0 0) + 1)) - e_wr (e_div (e_wr ((S r_Archive_next 0 0 0) + 1)) 400 * 400)))) r_Archive_lineCount 0 0 0 (if 400 < (e_wr ((S r_Archive_lineCount 0 0 0) + 1)) then 400 else (e_wr ((S r_Archive_lineCount 0 0 0) + 1)))))
  | _ => ((0, []), S)
theorem zE1 {x1 x2 : Int} {S : ZS} : z_ev (z_F zT1) 14 zP1_0 [x1, x2] S = f_Archive_add [x1, x2] S := by
  simp -implicitDefEqProofs only [zP1_0, Nat.zero_add, Nat.reduceAdd, Nat.reduceBEq, Int.reduceToNat, z_e0, z_e1, z_e2, z_e3, z_e4, z_e5, z_e6, z_e7, z_e8, z_e11, z_e13, o_v0, o_v1, o_v2, List.cons_append, List.nil_append, List.map_cons, List.map_nil, List.drop_succ_cons, List.drop_zero, List.take_succ_cons, List.take_zero, e_c0, e_c1, e_c2, e_c3, e_c4, e_c5, e_b0, e_b1, e_b2, e_b3, e_b4, e_b5, e_b6, e_b7, e_b8, e_b9, e_b10, e_b11, e_b12, e_b13, e_b14, e_b15, e_b16, e_b17, e_n0, e_bnd, e_un]
  try rfl
theorem zM1 : z_met 1 2 [(13, (0, 0), (0, 0)), (0, (1, 0), (0, 0)), (0, (2, 0), (0, 0))] f_Archive_add := z_met_ev zH1 (fun _ _ h => absurd h List.not_mem_nil) rfl zG1 (by decide +kernel) (fun L S hn => match L, hn with
  | [x1, x2], _ => zE1)
def zW1 : List Nat := [r_Archive_lineCount, r_Archive_next, r_Archive_letters, r_Archive_filmOf]
theorem zK1 : z_kp 2 zW1 f_Archive_add := z_kp_ev (KT := []) (.n) (z_h163 rfl) (by decide +kernel) (fun L S hn => match L, hn with
  | [x1, x2], _ => zE1)

-- x_choose (64)
noncomputable def zT64 : ZT := [(1, 2, [(13, (0, 0), (0, 0)), (0, (1, 0), (0, 0)), (0, (2, 0), (0, 0))], f_Archive_add), (25, 3, [(5, (1, 0), (0, 0)), (0, (2, 0), (0, 0)), (0, (3, 0), (0, 0))], f_Film_enter), (75, 1, [(2, (0, 0), (0, 0)), (0, (1, 0), (0, 0))], f_x_checkSection), (77, 0, [(2, (0, 0), (0, 0))], f_x_orderByScore), (78, 3, [(2, (0, 0), (0, 0)), (0, (1, 0), (0, 0)), (0, (2, 0), (0, 0)), (0, (3, 0), (0, 0))], f_x_canBeChosen)]
theorem zH64 : z_ok zT64 := .c zM1 (.c zM25 (.c zM75 (.c zM77 (.c zM78 .n))))
theorem zF64_1 : z_F zT64 1 = f_Archive_add := id rfl
theorem zF64_25 : z_F zT64 25 = f_Film_enter := id rfl
theorem zF64_75 : z_F zT64 75 = f_x_checkSection := id rfl
theorem zF64_77 : z_F zT64 77 = f_x_orderByScore := id rfl
theorem zF64_78 : z_F zT64 78 = f_x_canBeChosen := id rfl
def zP64_0 : List ZO := [(7, [(75, 0), (1, 0)]), (7, [(77, 0)]), (2, [(15, 0), (1, 0), (3, 0), (0, 0), (0, 0)])]
def zP64_15 : List ZO := [(3, [(3, 0), (1, 0), (4, 0), (2, 0)]), (0, [(3, 0)]), (5, [(3072, 0), (0, 0), (0, 0), (4, 0)]), (5, [(3136, 0), (0, 0), (0, 0), (4, 0)]), (7, [(78, 0), (5, 0), (6, 0), (1, 0)]), (3, [(0, 0), (2, 0), (7, 0), (0, 0)]), (4, [(0, 0), (4, 0), (0, 1)]), (2, [(15, 0), (1, 0), (2, 0), (3, 0), (8, 0)]), (5, [(1348, 0), (1, 0), (0, 0), (0, 0)]), (7, [(25, 0), (5, 0), (1, 0), (8, 0)]), (7, [(1, 0), (0, 99), (5, 0)]), (4, [(0, 0), (3, 0), (0, 1)]), (4, [(0, 0), (4, 0), (0, 1)]), (2, [(15, 0), (1, 0), (2, 0), (11, 0), (12, 0)])]
def zD64 : ZD := [(0, 1, [some (2, (0, 0), (0, 0)), some (0, (1, 0), (0, 0)), none, none, none, none], 4, zP64_0), (15, 4, [some (2, (0, 0), (0, 0)), some (0, (1, 0), (0, 0)), some (0, (2, 0), (0, 0)), some (0, (3, 0), (0, 0)), some (0, (4, 0), (0, 0)), none], 15, zP64_15)]
theorem zG64 : z_chk zT64 [] 64 zD64 = true := by decide +kernel
noncomputable def g_x_choose (R : ZR) : ZR := z_psi (z_st (z_F zT64) zD64) R
noncomputable def f_x_choose : ZFn := fun L S => g_x_choose ((1000, L), S)
theorem zM64 : z_met 64 1 [(2, (0, 0), (0, 0)), (0, (1, 0), (0, 0))] f_x_choose := z_met_psi zH64 (fun _ _ h => absurd h List.not_mem_nil) rfl zG64
theorem zE64_0 {x1 : Int} {S : ZS} : z_st (z_F zT64) zD64 0 [x1] S = (e_bind (f_x_checkSection [x1] S) (fun v1 S1 => (e_bind (f_x_orderByScore [] S1) (fun v2 S2 => ((1015, [x1, v2, 0, 0]), S2))))) := (id rfl : z_st (z_F zT64) zD64 0 [x1] S = z_ev (z_F zT64) 4 zP64_0 [x1] S).trans (id rfl)
theorem g_x_choose_0 {x1 : Int} {S : ZS} : g_x_choose ((1000, [x1]), S) = (e_bind (f_x_checkSection [x1] S) (fun v1 S1 => (e_bind (f_x_orderByScore [] S1) (fun v2 S2 => (g_x_choose ((1015, [x1, v2, 0, 0]), S2)))))) := by
  unfold g_x_choose
  refine ((z_psi_go (pc := 0)).trans (congrArg _ zE64_0)).trans ?_
  try simp only [z_psi_c, z_psi_b, z_psi_n, Nat.reduceLT, decide_true]
theorem zE64_15 {x1 x2 x3 x4 : Int} {S : ZS} : z_st (z_F zT64) zD64 15 [x1, x2, x3, x4] S = (bif decide (x2 ≤ x4) then ((0, [x3]), S) else (e_bind (f_x_canBeChosen [(S r_x_order 0 0 x4), (S r_x_weights 0 0 x4), x1] S) (fun v1 S1 => (bif decide (v1 = 0) then ((1015, [x1, x2, x3, (e_wr (x4 + 1))]), S1) else (e_bind (f_Film_enter [(S r_x_order 0 0 x4), x1, (S1 r_Section_premiere x1 0 0)] S1) (fun v2 S2 => (e_bind (f_Archive_add [99, (S r_x_order 0 0 x4)] S2) (fun v3 S3 => ((1015, [x1, x2, (e_wr (x3 + 1)), (e_wr (x4 + 1))]), S3))))))))) := (id rfl : z_st (z_F zT64) zD64 15 [x1, x2, x3, x4] S = z_ev (z_F zT64) 15 zP64_15 [x1, x2, x3, x4] S).trans (by
  simp -implicitDefEqProofs only [zP64_15, zF64_1, zF64_25, zF64_75, zF64_77, zF64_78, Nat.zero_add, Nat.reduceAdd, Nat.reduceBEq, Int.reduceToNat, z_e0, z_e1, z_e2, z_e3, z_e4, z_e5, z_e6, z_e7, z_e8, z_e11, z_e13, o_v0, o_v1, o_v2, List.cons_append, List.nil_append, List.map_cons, List.map_nil, List.drop_succ_cons, List.drop_zero, List.take_succ_cons, List.take_zero, e_c0, e_c1, e_c2, e_c3, e_c4, e_c5, e_b0, e_b1, e_b2, e_b3, e_b4, e_b5, e_b6, e_b7, e_b8, e_b9, e_b10, e_b11, e_b12, e_b13, e_b14, e_b15, e_b16, e_b17, e_n0, e_bnd, e_un]
  try rfl)
theorem g_x_choose_15 {x1 x2 x3 x4 : Int} {S : ZS} : g_x_choose ((1015, [x1, x2, x3, x4]), S) = (bif decide (x2 ≤ x4) then ((0, [x3]), S) else (e_bind (f_x_canBeChosen [(S r_x_order 0 0 x4), (S r_x_weights 0 0 x4), x1] S) (fun v1 S1 => (bif decide (v1 = 0) then (g_x_choose ((1015, [x1, x2, x3, (e_wr (x4 + 1))]), S1)) else (e_bind (f_Film_enter [(S r_x_order 0 0 x4), x1, (S1 r_Section_premiere x1 0 0)] S1) (fun v2 S2 => (e_bind (f_Archive_add [99, (S r_x_order 0 0 x4)] S2) (fun v3 S3 => (g_x_choose ((1015, [x1, x2, (e_wr (x3 + 1)), (e_wr (x4 + 1))]), S3)))))))))) := by
  unfold g_x_choose
  refine ((z_psi_go (pc := 15)).trans (congrArg _ zE64_15)).trans ?_
  try simp only [z_psi_c, z_psi_b, z_psi_n, Nat.reduceLT, decide_true]
def zW64 : List Nat := [r_Film_section, r_Film_promise, r_Archive_lineCount, r_Archive_next, r_Archive_letters, r_Archive_filmOf, r_x_order, r_x_weights]
theorem zK64 : z_kp 1 zW64 f_x_choose := fun L S hL hc r i j k hr => z_psi_kp (KT := [(1, 2, zW1), (25, 3, zW25), (75, 1, zW75), (77, 0, zW77), (78, 3, zW78)]) (F := z_F zT64) (W := zW64) (D := zD64) (.c zF64_1 zK1 (.c zF64_25 zK25 (.c zF64_75 zK75 (.c zF64_77 zK77 (.c zF64_78 zK78 .n))))) (z_h163 rfl) (by decide +kernel) _ hc r i j k hr

-- w_choose (92)
noncomputable def zT92 : ZT := [(64, 1, [(2, (0, 0), (0, 0)), (0, (1, 0), (0, 0))], f_x_choose)]
theorem zH92 : z_ok zT92 := .c zM64 .n
theorem zF92_64 : z_F zT92 64 = f_x_choose := id rfl
def zP92_0 : List ZO := [(11, [(64, 0), (1, 0), (0, 1), (1, 0)]), (0, [(2, 0)]), (0, [(0, (-900001))])]
def zC92 : ZC := [(0, 1, [some (2, (0, 0), (0, 0)), some (0, (1, 0), (0, 0)), none])]
theorem zG92 : z_go zC92 (z_A zT92) [] 92 400 true 4 zP92_0 0 [some (2, (0, 0), (0, 0)), some (0, (1, 0), (0, 0)), none] [] 1 = true := by decide +kernel
noncomputable def f_w_choose : ZFn := fun L S => match L with
  | [x1] => (e_try (f_x_choose [x1] S) (fun v1 S1 => ((0, [v1]), S1)) [(0, -900001)])
  | _ => ((0, []), S)
theorem zE92 {x1 : Int} {S : ZS} : z_ev (z_F zT92) 4 zP92_0 [x1] S = f_w_choose [x1] S := id rfl
theorem zM92 : z_met 92 1 [(2, (0, 0), (0, 0)), (0, (1, 0), (0, 0))] f_w_choose := z_met_ev zH92 (fun _ _ h => absurd h List.not_mem_nil) rfl zG92 (by decide +kernel) (fun L S hn => match L, hn with
  | [x1], _ => zE92)
def zW92 : List Nat := [r_Film_section, r_Film_promise, r_Archive_lineCount, r_Archive_next, r_Archive_letters, r_Archive_filmOf, r_x_order, r_x_weights]
theorem zK92 : z_kp 1 zW92 f_w_choose := z_kp_ev (KT := [(64, 1, zW64)]) (.c zF92_64 zK64 .n) (z_h163 rfl) (by decide +kernel) (fun L S hn => match L, hn with
  | [x1], _ => zE92)

-- x_sectionOf (65)
def zT65 : ZT := [(73, 1, [(2, (0, 0), (0, 0)), (0, (1, 0), (0, 0))], f_x_checkFilm)]
theorem zH65 : z_ok zT65 := .c zM73 .n
theorem zF65_73 : z_F zT65 73 = f_x_checkFilm := id rfl
def zP65_0 : List ZO := [(7, [(73, 0), (1, 0)]), (5, [(195, 0), (1, 0), (0, 0), (0, 0)]), (3, [(1, 0), (2, 0), (3, 0), (0, (-1))]), (5, [(195, 0), (1, 0), (0, 0), (0, 0)]), (0, [(4, 0)]), (1, [(4, 0)])]
def zC65 : ZC := [(0, 1, [some (2, (0, 0), (0, 0)), some (0, (1, 0), (0, 0))])]
theorem zG65 : z_go zC65 (z_A zT65) [] 65 400 true 7 zP65_0 0 [some (2, (0, 0), (0, 0)), some (0, (1, 0), (0, 0))] [] 1 = true := by decide +kernel
def f_x_sectionOf : ZFn := fun L S => match L with
  | [x1] => (e_bind (f_x_checkFilm [x1] S) (fun v1 S1 => (bif !decide ((S1 r_Film_section x1 0 0) = (-1)) then ((0, [(S1 r_Film_section x1 0 0)]), S1) else ((5, []), S1))))
  | _ => ((0, []), S)
theorem zE65 {x1 : Int} {S : ZS} : z_ev (z_F zT65) 7 zP65_0 [x1] S = f_x_sectionOf [x1] S := id rfl
theorem zM65 : z_met 65 1 [(2, (0, 0), (0, 0)), (0, (1, 0), (0, 0))] f_x_sectionOf := z_met_ev zH65 (fun _ _ h => absurd h List.not_mem_nil) rfl zG65 (by decide +kernel) (fun L S hn => match L, hn with
  | [x1], _ => zE65)
def zW65 : List Nat := []
theorem zK65 : z_kp 1 zW65 f_x_sectionOf := z_kp_ev (KT := [(73, 1, zW73)]) (.c zF65_73 zK73 .n) (z_h163 rfl) (by decide +kernel) (fun L S hn => match L, hn with
  | [x1], _ => zE65)

-- w_sectionOf (93)
def zT93 : ZT := [(65, 1, [(2, (0, 0), (0, 0)), (0, (1, 0), (0, 0))], f_x_sectionOf)]
theorem zH93 : z_ok zT93 := .c zM65 .n
theorem zF93_65 : z_F zT93 65 = f_x_sectionOf := id rfl
def zP93_0 : List ZO := [(11, [(65, 0), (2, 0), (0, 1), (4, 2), (1, 0)]), (0, [(2, 0)]), (0, [(0, (-900001))]), (0, [(0, (-900002))])]
def zC93 : ZC := [(0, 1, [some (2, (0, 0), (0, 0)), some (0, (1, 0), (0, 0)), none])]
theorem zG93 : z_go zC93 (z_A zT93) [] 93 400 true 5 zP93_0 0 [some (2, (0, 0), (0, 0)), some (0, (1, 0), (0, 0)), none] [] 1 = true := by decide +kernel
def f_w_sectionOf : ZFn := fun L S => match L with
  | [x1] => (e_try (f_x_sectionOf [x1] S) (fun v1 S1 => ((0, [v1]), S1)) [(0, -900001), (4, -900002)])
  | _ => ((0, []), S)
theorem zE93 {x1 : Int} {S : ZS} : z_ev (z_F zT93) 5 zP93_0 [x1] S = f_w_sectionOf [x1] S := id rfl
theorem zM93 : z_met 93 1 [(2, (0, 0), (0, 0)), (0, (1, 0), (0, 0))] f_w_sectionOf := z_met_ev zH93 (fun _ _ h => absurd h List.not_mem_nil) rfl zG93 (by decide +kernel) (fun L S hn => match L, hn with
  | [x1], _ => zE93)
def zW93 : List Nat := []
theorem zK93 : z_kp 1 zW93 f_w_sectionOf := z_kp_ev (KT := [(65, 1, zW65)]) (.c zF93_65 zK65 .n) (z_h163 rfl) (by decide +kernel) (fun L S hn => match L, hn with
  | [x1], _ => zE93)

-- x_minutes (66)
noncomputable def zT66 : ZT := [(75, 1, [(2, (0, 0), (0, 0)), (0, (1, 0), (0, 0))], f_x_checkSection), (80, 1, [(2, (0, 0), (0, 0)), (0, (1, 0), (0, 0))], f_x_minutesIn)]
theorem zH66 : z_ok zT66 := .c zM75 (.c zM80 .n)
theorem zF66_75 : z_F zT66 75 = f_x_checkSection := id rfl
theorem zF66_80 : z_F zT66 80 = f_x_minutesIn := id rfl
def zP66_0 : List ZO := [(7, [(75, 0), (1, 0)]), (7, [(80, 0), (1, 0)]), (0, [(3, 0)])]
def zC66 : ZC := [(0, 1, [some (2, (0, 0), (0, 0)), some (0, (1, 0), (0, 0))])]
theorem zG66 : z_go zC66 (z_A zT66) [] 66 400 true 4 zP66_0 0 [some (2, (0, 0), (0, 0)), some (0, (1, 0), (0, 0))] [] 1 = true := by decide +kernel
noncomputable def f_x_minutes : ZFn := fun L S => match L with
  | [x1] => (e_bind (f_x_checkSection [x1] S) (fun v1 S1 => (e_bind (f_x_minutesIn [x1] S1) (fun v2 S2 => ((0, [v2]), S2)))))
  | _ => ((0, []), S)
theorem zE66 {x1 : Int} {S : ZS} : z_ev (z_F zT66) 4 zP66_0 [x1] S = f_x_minutes [x1] S := id rfl
theorem zM66 : z_met 66 1 [(2, (0, 0), (0, 0)), (0, (1, 0), (0, 0))] f_x_minutes := z_met_ev zH66 (fun _ _ h => absurd h List.not_mem_nil) rfl zG66 (by decide +kernel) (fun L S hn => match L, hn with
  | [x1], _ => zE66)
def zW66 : List Nat := []
theorem zK66 : z_kp 1 zW66 f_x_minutes := z_kp_ev (KT := [(75, 1, zW75), (80, 1, zW80)]) (.c zF66_75 zK75 (.c zF66_80 zK80 .n)) (z_h163 rfl) (by decide +kernel) (fun L S hn => match L, hn with
  | [x1], _ => zE66)

-- w_minutes (94)
noncomputable def zT94 : ZT := [(66, 1, [(2, (0, 0), (0, 0)), (0, (1, 0), (0, 0))], f_x_minutes)]
theorem zH94 : z_ok zT94 := .c zM66 .n
theorem zF94_66 : z_F zT94 66 = f_x_minutes := id rfl
def zP94_0 : List ZO := [(11, [(66, 0), (1, 0), (0, 1), (1, 0)]), (0, [(2, 0)]), (0, [(0, (-900001))])]
def zC94 : ZC := [(0, 1, [some (2, (0, 0), (0, 0)), some (0, (1, 0), (0, 0)), none])]
theorem zG94 : z_go zC94 (z_A zT94) [] 94 400 true 4 zP94_0 0 [some (2, (0, 0), (0, 0)), some (0, (1, 0), (0, 0)), none] [] 1 = true := by decide +kernel
noncomputable def f_w_minutes : ZFn := fun L S => match L with
  | [x1] => (e_try (f_x_minutes [x1] S) (fun v1 S1 => ((0, [v1]), S1)) [(0, -900001)])
  | _ => ((0, []), S)
theorem zE94 {x1 : Int} {S : ZS} : z_ev (z_F zT94) 4 zP94_0 [x1] S = f_w_minutes [x1] S := id rfl
theorem zM94 : z_met 94 1 [(2, (0, 0), (0, 0)), (0, (1, 0), (0, 0))] f_w_minutes := z_met_ev zH94 (fun _ _ h => absurd h List.not_mem_nil) rfl zG94 (by decide +kernel) (fun L S hn => match L, hn with
  | [x1], _ => zE94)
def zW94 : List Nat := []
theorem zK94 : z_kp 1 zW94 f_w_minutes := z_kp_ev (KT := [(66, 1, zW66)]) (.c zF94_66 zK66 .n) (z_h163 rfl) (by decide +kernel) (fun L S hn => match L, hn with
  | [x1], _ => zE94)

-- x_isInQuarrel (61)
noncomputable def zT61 : ZT := [(43, 1, [(28, (0, 0), (0, 0)), (0, (1, 0), (0, 0))], f_Readings_spread), (73, 1, [(2, (0, 0), (0, 0)), (0, (1, 0), (0, 0))], f_x_checkFilm)]
theorem zH61 : z_ok zT61 := .c zM43 (.c zM73 .n)
theorem zF61_43 : z_F zT61 43 = f_Readings_spread := id rfl
theorem zF61_73 : z_F zT61 73 = f_x_checkFilm := id rfl
def zP61_0 : List ZO := [(7, [(73, 0), (1, 0)]), (7, [(43, 0), (1, 0)]), (3, [(5, 0), (1, 0), (3, 0), (0, 30)]), (0, [(0, 0)]), (0, [(0, 1)])]
def zC61 : ZC := [(0, 1, [some (2, (0, 0), (0, 0)), some (0, (1, 0), (0, 0))])]
theorem zG61 : z_go zC61 (z_A zT61) [] 61 400 true 6 zP61_0 0 [some (2, (0, 0), (0, 0)), some (0, (1, 0), (0, 0))] [] 1 = true := by decide +kernel
noncomputable def f_x_isInQuarrel : ZFn := fun L S => match L with
  | [x1] => (e_bind (f_x_checkFilm [x1] S) (fun v1 S1 => (e_bind (f_Readings_spread [x1] S1) (fun v2 S2 => (bif decide (v2 ≤ 30) then ((0, [0]), S2) else ((0, [1]), S2))))))
  | _ => ((0, []), S)
theorem zE61 {x1 : Int} {S : ZS} : z_ev (z_F zT61) 6 zP61_0 [x1] S = f_x_isInQuarrel [x1] S := id rfl
theorem zM61 : z_met 61 1 [(2, (0, 0), (0, 0)), (0, (1, 0), (0, 0))] f_x_isInQuarrel := z_met_ev zH61 (fun _ _ h => absurd h List.not_mem_nil) rfl zG61 (by decide +kernel) (fun L S hn => match L, hn with
  | [x1], _ => zE61)
def zW61 : List Nat := []
theorem zK61 : z_kp 1 zW61 f_x_isInQuarrel := z_kp_ev (KT := [(43, 1, zW43), (73, 1, zW73)]) (.c zF61_43 zK43 (.c zF61_73 zK73 .n)) (z_h163 rfl) (by decide +kernel) (fun L S hn => match L, hn with
  | [x1], _ => zE61)

-- x_isDealt (57)
def zT57 : ZT := [(73, 1, [(2, (0, 0), (0, 0)), (0, (1, 0), (0, 0))], f_x_checkFilm), (74, 1, [(2, (0, 0), (0, 0)), (0, (1, 0), (0, 0))], f_x_checkReader)]
theorem zH57 : z_ok zT57 := .c zM73 (.c zM74 .n)
theorem zF57_73 : z_F zT57 73 = f_x_checkFilm := id rfl
theorem zF57_74 : z_F zT57 74 = f_x_checkReader := id rfl
def zP57_0 : List ZO := [(7, [(73, 0), (1, 0)]), (7, [(74, 0), (2, 0)]), (5, [(2048, 0), (1, 0), (0, 0), (2, 0)]), (3, [(0, 0), (1, 0), (5, 0), (0, (-2))]), (0, [(0, 0)]), (0, [(0, 1)])]
def zC57 : ZC := [(0, 2, [some (2, (0, 0), (0, 0)), some (0, (1, 0), (0, 0)), some (0, (2, 0), (0, 0))])]
theorem zG57 : z_go zC57 (z_A zT57) [] 57 400 true 7 zP57_0 0 [some (2, (0, 0), (0, 0)), some (0, (1, 0), (0, 0)), some (0, (2, 0), (0, 0))] [] 2 = true := by decide +kernel
def f_x_isDealt : ZFn := fun L S => match L with
  | [x1, x2] => (e_bind (f_x_checkFilm [x1] S) (fun v1 S1 => (e_bind (f_x_checkReader [x2] S1) (fun v2 S2 => (bif decide ((S2 r_Readings_marks_r x1 0 x2) = (-2)) then ((0, [0]), S2) else ((0, [1]), S2))))))
  | _ => ((0, []), S)
theorem zE57 {x1 x2 : Int} {S : ZS} : z_ev (z_F zT57) 7 zP57_0 [x1, x2] S = f_x_isDealt [x1, x2] S := id rfl
theorem zM57 : z_met 57 2 [(2, (0, 0), (0, 0)), (0, (1, 0), (0, 0)), (0, (2, 0), (0, 0))] f_x_isDealt := z_met_ev zH57 (fun _ _ h => absurd h List.not_mem_nil) rfl zG57 (by decide +kernel) (fun L S hn => match L, hn with
  | [x1, x2], _ => zE57)
def zW57 : List Nat := []
theorem zK57 : z_kp 2 zW57 f_x_isDealt := z_kp_ev (KT := [(73, 1, zW73), (74, 1, zW74)]) (.c zF57_73 zK73 (.c zF57_74 zK74 .n)) (z_h163 rfl) (by decide +kernel) (fun L S hn => match L, hn with
  | [x1, x2], _ => zE57)

-- Show_standsIn (50)
def zT50 : ZT := []
theorem zH50 : z_ok zT50 := .n
def zP50_0 : List ZO := [(5, [(964, 0), (1, 0), (0, 0), (0, 0)]), (3, [(1, 0), (1, 0), (4, 0), (0, 45)]), (0, [(0, 0)]), (5, [(962, 0), (1, 0), (0, 0), (0, 0)]), (4, [(0, 0), (2, 0), (3, 0)]), (3, [(3, 0), (1, 0), (5, 0), (6, 0)]), (0, [(0, 0)]), (5, [(962, 0), (1, 0), (0, 0), (0, 0)]), (5, [(963, 0), (1, 0), (0, 0), (0, 0)]), (4, [(0, 0), (7, 0), (8, 0)]), (3, [(3, 0), (1, 0), (2, 0), (9, 0)]), (0, [(0, 0)]), (0, [(0, 1)])]
def zC50 : ZC := [(0, 3, [some (17, (1, 0), (0, 0)), some (0, (2, 0), (0, 0)), some (0, (3, 0), (0, 0))])]
theorem zG50 : z_go zC50 (z_A zT50) [] 50 400 true 14 zP50_0 0 [some (17, (1, 0), (0, 0)), some (0, (2, 0), (0, 0)), some (0, (3, 0), (0, 0))] [] 3 = true := by decide +kernel
def v_Show_standsIn (x1 x2 x3 : Int) (S : ZS) : Int := (bif !decide ((S r_Show_cause x1 0 0) = 45) then 0 else (bif decide ((e_wr (x2 + x3)) ≤ (S r_Show_first x1 0 0)) then 0 else (bif decide ((e_wr ((S r_Show_first x1 0 0) + (S r_Show_length x1 0 0))) ≤ x2) then 0 else 1)))
def f_Show_standsIn : ZFn := fun L S => match L with
  | [x1, x2, x3] => ((0, [v_Show_standsIn x1 x2 x3 S]), S)
  | _ => ((0, []), S)
theorem pF_Show_standsIn {x1 x2 x3 : Int} {S : ZS} : f_Show_standsIn [x1, x2, x3] S = ((0, [v_Show_standsIn x1 x2 x3 S]), S) := id rfl
theorem zE50a {x1 x2 x3 : Int} {S : ZS} : z_ev (z_F zT50) 14 zP50_0 [x1, x2, x3] S = (bif !decide ((S r_Show_cause x1 0 0) = 45) then ((0, [0]), S) else (bif decide ((e_wr (x2 + x3)) ≤ (S r_Show_first x1 0 0)) then ((0, [0]), S) else (bif decide ((e_wr ((S r_Show_first x1 0 0) + (S r_Show_length x1 0 0))) ≤ x2) then ((0, [0]), S) else ((0, [1]), S)))) := by
  simp -implicitDefEqProofs only [zP50_0, Nat.zero_add, Nat.reduceAdd, Nat.reduceBEq, Int.reduceToNat, z_e0, z_e1, z_e2, z_e3, z_e4, z_e5, z_e6, z_e7, z_e8, z_e11, z_e13, o_v0, o_v1, o_v2, List.cons_append, List.nil_append, List.map_cons, List.map_nil, List.drop_succ_cons, List.drop_zero, List.take_succ_cons, List.take_zero, e_c0, e_c1, e_c2, e_c3, e_c4, e_c5, e_b0, e_b1, e_b2, e_b3, e_b4, e_b5, e_b6, e_b7, e_b8, e_b9, e_b10, e_b11, e_b12, e_b13, e_b14, e_b15, e_b16, e_b17, e_n0, e_bnd, e_un]
  try rfl
theorem zE50 {x1 x2 x3 : Int} {S : ZS} : z_ev (z_F zT50) 14 zP50_0 [x1, x2, x3] S = f_Show_standsIn [x1, x2, x3] S := zE50a.trans (by
  simp only [z_cv]
  rfl)
theorem zM50 : z_met 50 3 [(17, (1, 0), (0, 0)), (0, (2, 0), (0, 0)), (0, (3, 0), (0, 0))] f_Show_standsIn := z_met_ev zH50 (fun _ _ h => absurd h List.not_mem_nil) rfl zG50 (by decide +kernel) (fun L S hn => match L, hn with
  | [x1, x2, x3], _ => zE50)
def zW50 : List Nat := []
theorem zK50 : z_kp 3 zW50 f_Show_standsIn := z_kp_ev (KT := []) (.n) (z_h163 rfl) (by decide +kernel) (fun L S hn => match L, hn with
  | [x1, x2, x3], _ => zE50)

-- Grid_areOfOneSection (29)
def zT29 : ZT := []
theorem zH29 : z_ok zT29 := .n
def zP29_0 : List ZO := [(5, [(960, 0), (1, 0), (0, 0), (0, 0)]), (5, [(195, 0), (3, 0), (0, 0), (0, 0)]), (3, [(0, 0), (1, 0), (4, 0), (0, (-1))]), (0, [(0, 0)]), (5, [(960, 0), (2, 0), (0, 0), (0, 0)]), (5, [(195, 0), (5, 0), (0, 0), (0, 0)]), (3, [(1, 0), (1, 0), (6, 0), (4, 0)]), (0, [(0, 0)]), (0, [(0, 1)])]
def zC29 : ZC := [(0, 2, [some (3, (0, 0), (0, 0)), some (17, (1, 0), (0, 0)), some (17, (2, 0), (0, 0)), none])]
theorem zG29 : z_go zC29 (z_A zT29) [] 29 400 true 10 zP29_0 0 [some (3, (0, 0), (0, 0)), some (17, (1, 0), (0, 0)), some (17, (2, 0), (0, 0)), none] [] 2 = true := by decide +kernel
def v_Grid_areOfOneSection (x1 x2 : Int) (S : ZS) : Int := (bif decide ((S r_Film_section (S r_Show_film x1 0 0) 0 0) = (-1)) then 0 else (bif !decide ((S r_Film_section (S r_Show_film x2 0 0) 0 0) = (S r_Film_section (S r_Show_film x1 0 0) 0 0)) then 0 else 1))
def f_Grid_areOfOneSection : ZFn := fun L S => match L with
  | [x1, x2] => ((0, [v_Grid_areOfOneSection x1 x2 S]), S)
  | _ => ((0, []), S)
theorem pF_Grid_areOfOneSection {x1 x2 : Int} {S : ZS} : f_Grid_areOfOneSection [x1, x2] S = ((0, [v_Grid_areOfOneSection x1 x2 S]), S) := id rfl
theorem zE29a {x1 x2 : Int} {S : ZS} : z_ev (z_F zT29) 10 zP29_0 [x1, x2] S = (bif decide ((S r_Film_section (S r_Show_film x1 0 0) 0 0) = (-1)) then ((0, [0]), S) else (bif !decide ((S r_Film_section (S r_Show_film x2 0 0) 0 0) = (S r_Film_section (S r_Show_film x1 0 0) 0 0)) then ((0, [0]), S) else ((0, [1]), S))) := id rfl
theorem zE29 {x1 x2 : Int} {S : ZS} : z_ev (z_F zT29) 10 zP29_0 [x1, x2] S = f_Grid_areOfOneSection [x1, x2] S := zE29a.trans (by
  simp only [z_cv]
  rfl)
theorem zM29 : z_met 29 2 [(3, (0, 0), (0, 0)), (17, (1, 0), (0, 0)), (17, (2, 0), (0, 0))] f_Grid_areOfOneSection := z_met_ev zH29 (fun _ _ h => absurd h List.not_mem_nil) rfl zG29 (by decide +kernel) (fun L S hn => match L, hn with
  | [x1, x2], _ => zE29)
def zW29 : List Nat := []
theorem zK29 : z_kp 2 zW29 f_Grid_areOfOneSection := z_kp_ev (KT := []) (.n) (z_h163 rfl) (by decide +kernel) (fun L S hn => match L, hn with
  | [x1, x2], _ => zE29)

-- Grid_keepsApart (28)
def zT28 : ZT := [(29, 2, [(3, (0, 0), (0, 0)), (17, (1, 0), (0, 0)), (17, (2, 0), (0, 0))], f_Grid_areOfOneSection), (50, 3, [(17, (1, 0), (0, 0)), (0, (2, 0), (0, 0)), (0, (3, 0), (0, 0))], f_Show_standsIn)]
theorem zH28 : z_ok zT28 := .c zM29 (.c zM50 .n)
theorem zF28_29 : z_F zT28 29 = f_Grid_areOfOneSection := id rfl
theorem zF28_50 : z_F zT28 50 = f_Show_standsIn := id rfl
def zP28_0 : List ZO := [(2, [(2, 0), (0, 0)])]
def zP28_2 : List ZO := [(5, [(68, 0), (0, 0), (0, 0), (0, 0)]), (3, [(3, 0), (1, 0), (1, 0), (2, 0)]), (0, [(0, 1)]), (2, [(12, 0), (1, 0), (0, 0)])]
def zP28_12 : List ZO := [(3, [(3, 0), (2, 0), (2, 0), (1, 0)]), (4, [(0, 0), (1, 0), (0, 1)]), (2, [(2, 0), (3, 0)]), (5, [(964, 0), (1, 0), (0, 0), (0, 0)]), (3, [(1, 0), (2, 0), (3, 0), (0, 45)]), (4, [(0, 0), (2, 0), (0, 1)]), (2, [(12, 0), (1, 0), (4, 0)]), (5, [(962, 0), (1, 0), (0, 0), (0, 0)]), (5, [(963, 0), (1, 0), (0, 0), (0, 0)]), (7, [(50, 0), (2, 0), (4, 0), (5, 0)]), (3, [(0, 0), (2, 0), (6, 0), (0, 0)]), (4, [(0, 0), (2, 0), (0, 1)]), (2, [(12, 0), (1, 0), (7, 0)]), (5, [(961, 0), (1, 0), (0, 0), (0, 0)]), (5, [(961, 0), (2, 0), (0, 0), (0, 0)]), (3, [(0, 0), (1, 0), (7, 0), (8, 0)]), (0, [(0, 0)]), (7, [(29, 0), (1, 0), (2, 0)]), (3, [(0, 0), (2, 0), (9, 0), (0, 0)]), (4, [(0, 0), (2, 0), (0, 1)]), (2, [(12, 0), (1, 0), (10, 0)]), (0, [(0, 0)])]
def zD28 : ZD := [(0, 0, [some (3, (0, 0), (0, 0)), none, none], 2, zP28_0), (2, 1, [some (3, (0, 0), (0, 0)), some (0, (1, 0), (0, 0)), none], 5, zP28_2), (12, 2, [some (3, (0, 0), (0, 0)), some (0, (1, 0), (0, 0)), some (0, (2, 0), (0, 0))], 23, zP28_12)]
theorem zG28 : z_chk zT28 [] 28 zD28 = true := by decide +kernel
noncomputable def g_Grid_keepsApart (R : ZR) : ZR := z_psi (z_st (z_F zT28) zD28) R
noncomputable def f_Grid_keepsApart : ZFn := fun L S => g_Grid_keepsApart ((1000, L), S)
theorem zM28 : z_met 28 0 [(3, (0, 0), (0, 0))] f_Grid_keepsApart := z_met_psi zH28 (fun _ _ h => absurd h List.not_mem_nil) rfl zG28
theorem zE28_0 {S : ZS} : z_st (z_F zT28) zD28 0 [] S = ((1002, [0]), S) := (id rfl : z_st (z_F zT28) zD28 0 [] S = z_ev (z_F zT28) 2 zP28_0 [] S).trans (id rfl)
theorem g_Grid_keepsApart_0 {S : ZS} : g_Grid_keepsApart ((1000, []), S) = (g_Grid_keepsApart ((1002, [0]), S)) := by
  unfold g_Grid_keepsApart
  refine ((z_psi_go (pc := 0)).trans (congrArg _ zE28_0)).trans ?_
  try simp only [z_psi_c, z_psi_b, z_psi_n, Nat.reduceLT, decide_true]
theorem zE28_2 {x1 : Int} {S : ZS} : z_st (z_F zT28) zD28 2 [x1] S = (bif decide ((S r_Grid_showCount 0 0 0) ≤ x1) then ((0, [1]), S) else ((1012, [x1, 0]), S)) := (id rfl : z_st (z_F zT28) zD28 2 [x1] S = z_ev (z_F zT28) 5 zP28_2 [x1] S).trans (id rfl)
theorem g_Grid_keepsApart_2 {x1 : Int} {S : ZS} : g_Grid_keepsApart ((1002, [x1]), S) = (bif decide ((S r_Grid_showCount 0 0 0) ≤ x1) then ((0, [1]), S) else (g_Grid_keepsApart ((1012, [x1, 0]), S))) := by
  unfold g_Grid_keepsApart
  refine ((z_psi_go (pc := 2)).trans (congrArg _ zE28_2)).trans ?_
  try simp only [z_psi_c, z_psi_b, z_psi_n, Nat.reduceLT, decide_true]
theorem zE28_12 {x1 x2 : Int} {S : ZS} : z_st (z_F zT28) zD28 12 [x1, x2] S = (bif decide (x1 ≤ x2) then ((1002, [(e_wr (x1 + 1))]), S) else (bif !decide ((S r_Show_cause x1 0 0) = 45) then ((1012, [x1, (e_wr (x2 + 1))]), S) else (bif decide ((v_Show_standsIn x2 (S r_Show_first x1 0 0) (S r_Show_length x1 0 0) S) = 0) then ((1012, [x1, (e_wr (x2 + 1))]), S) else (bif decide ((S r_Show_screen x1 0 0) = (S r_Show_screen x2 0 0)) then ((0, [0]), S) else (bif decide ((v_Grid_areOfOneSection x1 x2 S) = 0) then ((1012, [x1, (e_wr (x2 + 1))]), S) else ((0, [0]), S)))))) := (id rfl : z_st (z_F zT28) zD28 12 [x1, x2] S = z_ev (z_F zT28) 23 zP28_12 [x1, x2] S).trans (by
  simp -implicitDefEqProofs only [zP28_12, zF28_29, zF28_50, pF_Grid_areOfOneSection, pF_Show_standsIn, Nat.zero_add, Nat.reduceAdd, Nat.reduceBEq, Int.reduceToNat, z_e0, z_e1, z_e2, z_e3, z_e4, z_e5, z_e6, z_e7, z_e8, z_e11, z_e13, o_v0, o_v1, o_v2, List.cons_append, List.nil_append, List.map_cons, List.map_nil, List.drop_succ_cons, List.drop_zero, List.take_succ_cons, List.take_zero, e_c0, e_c1, e_c2, e_c3, e_c4, e_c5, e_b0, e_b1, e_b2, e_b3, e_b4, e_b5, e_b6, e_b7, e_b8, e_b9, e_b10, e_b11, e_b12, e_b13, e_b14, e_b15, e_b16, e_b17, e_n0, e_bnd, e_un]
  try rfl)
theorem g_Grid_keepsApart_12 {x1 x2 : Int} {S : ZS} : g_Grid_keepsApart ((1012, [x1, x2]), S) = (bif decide (x1 ≤ x2) then (g_Grid_keepsApart ((1002, [(e_wr (x1 + 1))]), S)) else (bif !decide ((S r_Show_cause x1 0 0) = 45) then (g_Grid_keepsApart ((1012, [x1, (e_wr (x2 + 1))]), S)) else (bif decide ((v_Show_standsIn x2 (S r_Show_first x1 0 0) (S r_Show_length x1 0 0) S) = 0) then (g_Grid_keepsApart ((1012, [x1, (e_wr (x2 + 1))]), S)) else (bif decide ((S r_Show_screen x1 0 0) = (S r_Show_screen x2 0 0)) then ((0, [0]), S) else (bif decide ((v_Grid_areOfOneSection x1 x2 S) = 0) then (g_Grid_keepsApart ((1012, [x1, (e_wr (x2 + 1))]), S)) else ((0, [0]), S)))))) := by
  unfold g_Grid_keepsApart
  refine ((z_psi_go (pc := 12)).trans (congrArg _ zE28_12)).trans ?_
  try simp only [z_psi_c, z_psi_b, z_psi_n, Nat.reduceLT, decide_true]
def zW28 : List Nat := []
theorem zK28 : z_kp 0 zW28 f_Grid_keepsApart := fun L S hL hc r i j k hr => z_psi_kp (KT := [(29, 2, zW29), (50, 3, zW50)]) (F := z_F zT28) (W := zW28) (D := zD28) (.c zF28_29 zK29 (.c zF28_50 zK50 .n)) (z_h163 rfl) (by decide +kernel) _ hc r i j k hr

-- Show_countSeats (51)
def zT51 : ZT := []
theorem zH51 : z_ok zT51 := .n
def zP51_0 : List ZO := [(2, [(4, 0), (1, 0), (0, 0), (0, 0)])]
def zP51_4 : List ZO := [(3, [(3, 0), (1, 0), (3, 0), (0, 16)]), (0, [(2, 0)]), (5, [(1088, 0), (1, 0), (0, 0), (3, 0)]), (3, [(0, 0), (2, 0), (4, 0), (0, 0)]), (4, [(0, 0), (3, 0), (0, 1)]), (2, [(4, 0), (1, 0), (2, 0), (5, 0)]), (4, [(0, 0), (2, 0), (0, 1)]), (4, [(0, 0), (3, 0), (0, 1)]), (2, [(4, 0), (1, 0), (5, 0), (6, 0)])]
def zD51 : ZD := [(0, 1, [some (17, (1, 0), (0, 0)), none, none], 2, zP51_0), (4, 3, [some (17, (1, 0), (0, 0)), some (0, (2, 0), (0, 0)), some (0, (3, 0), (0, 0))], 10, zP51_4)]
theorem zG51 : z_chk zT51 [] 51 zD51 = true := by decide +kernel
noncomputable def g_Show_countSeats (R : ZR) : ZR := z_psi (z_st (z_F zT51) zD51) R
noncomputable def f_Show_countSeats : ZFn := fun L S => g_Show_countSeats ((1000, L), S)
theorem zM51 : z_met 51 1 [(17, (1, 0), (0, 0))] f_Show_countSeats := z_met_psi zH51 (fun _ _ h => absurd h List.not_mem_nil) rfl zG51
theorem zE51_0 {x1 : Int} {S : ZS} : z_st (z_F zT51) zD51 0 [x1] S = ((1004, [x1, 0, 0]), S) := (id rfl : z_st (z_F zT51) zD51 0 [x1] S = z_ev (z_F zT51) 2 zP51_0 [x1] S).trans (id rfl)
theorem g_Show_countSeats_0 {x1 : Int} {S : ZS} : g_Show_countSeats ((1000, [x1]), S) = (g_Show_countSeats ((1004, [x1, 0, 0]), S)) := by
  unfold g_Show_countSeats
  refine ((z_psi_go (pc := 0)).trans (congrArg _ zE51_0)).trans ?_
  try simp only [z_psi_c, z_psi_b, z_psi_n, Nat.reduceLT, decide_true]
theorem zE51_4 {x1 x2 x3 : Int} {S : ZS} : z_st (z_F zT51) zD51 4 [x1, x2, x3] S = (bif decide (16 ≤ x3) then ((0, [x2]), S) else (bif decide ((S r_Show_isSeated x1 0 x3) = 0) then ((1004, [x1, x2, (e_wr (x3 + 1))]), S) else ((1004, [x1, (e_wr (x2 + 1)), (e_wr (x3 + 1))]), S))) := (id rfl : z_st (z_F zT51) zD51 4 [x1, x2, x3] S = z_ev (z_F zT51) 10 zP51_4 [x1, x2, x3] S).trans (id rfl)
theorem g_Show_countSeats_4 {x1 x2 x3 : Int} {S : ZS} : g_Show_countSeats ((1004, [x1, x2, x3]), S) = (bif decide (16 ≤ x3) then ((0, [x2]), S) else (bif decide ((S r_Show_isSeated x1 0 x3) = 0) then (g_Show_countSeats ((1004, [x1, x2, (e_wr (x3 + 1))]), S)) else (g_Show_countSeats ((1004, [x1, (e_wr (x2 + 1)), (e_wr (x3 + 1))]), S)))) := by
  unfold g_Show_countSeats
  refine ((z_psi_go (pc := 4)).trans (congrArg _ zE51_4)).trans ?_
  try simp only [z_psi_c, z_psi_b, z_psi_n, Nat.reduceLT, decide_true]
def zW51 : List Nat := []
theorem zK51 : z_kp 1 zW51 f_Show_countSeats := fun L S hL hc r i j k hr => z_psi_kp (KT := []) (F := z_F zT51) (W := zW51) (D := zD51) (.n) (z_h163 rfl) (by decide +kernel) _ hc r i j k hr
