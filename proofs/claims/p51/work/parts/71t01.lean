/-! What the methods do, by program (wip/s/sgen.py), 1 -/
-- x_isForm (69)
def zT69 : ZT := []
theorem zH69 : z_ok zT69 := .n
def zP69_0 : List ZO := [(3, [(0, 0), (1, 0), (1, 0), (0, 102)]), (0, [(0, 1)]), (3, [(0, 0), (1, 0), (1, 0), (0, 115)]), (0, [(0, 1)]), (3, [(1, 0), (1, 0), (1, 0), (0, 100)]), (0, [(0, 0)]), (0, [(0, 1)])]
def zC69 : ZC := [(0, 1, [some (0, (1, 0), (0, 0))])]
theorem zG69 : z_go zC69 (z_A zT69) [] 69 400 true 8 zP69_0 0 [some (0, (1, 0), (0, 0))] [] 1 = true := by decide +kernel
def v_x_isForm (x1 : Int) (S : ZS) : Int := (bif decide (x1 = 102) then 1 else (bif decide (x1 = 115) then 1 else (bif !decide (x1 = 100) then 0 else 1)))
def f_x_isForm : ZFn := fun L S => match L with
  | [x1] => ((0, [v_x_isForm x1 S]), S)
  | _ => ((0, []), S)
theorem pF_x_isForm {x1 : Int} {S : ZS} : f_x_isForm [x1] S = ((0, [v_x_isForm x1 S]), S) := id rfl
theorem zE69a {x1 : Int} {S : ZS} : z_ev (z_F zT69) 8 zP69_0 [x1] S = (bif decide (x1 = 102) then ((0, [1]), S) else (bif decide (x1 = 115) then ((0, [1]), S) else (bif !decide (x1 = 100) then ((0, [0]), S) else ((0, [1]), S)))) := id rfl
theorem zE69 {x1 : Int} {S : ZS} : z_ev (z_F zT69) 8 zP69_0 [x1] S = f_x_isForm [x1] S := zE69a.trans (by
  simp only [z_cv]
  rfl)
theorem zM69 : z_met 69 1 [(0, (1, 0), (0, 0))] f_x_isForm := z_met_ev zH69 (fun _ _ h => absurd h List.not_mem_nil) rfl zG69 (by decide +kernel) (fun L S hn => match L, hn with
  | [x1], _ => zE69)
def zW69 : List Nat := []
theorem zK69 : z_kp 1 zW69 f_x_isForm := z_kp_ev (KT := []) (.n) (z_h163 rfl) (by decide +kernel) (fun L S hn => match L, hn with
  | [x1], _ => zE69)

-- x_isWithin (68)
def zT68 : ZT := []
theorem zH68 : z_ok zT68 := .n
def zP68_0 : List ZO := [(3, [(2, 0), (1, 0), (1, 0), (2, 0)]), (0, [(0, 0)]), (3, [(4, 0), (1, 0), (1, 0), (3, 0)]), (0, [(0, 0)]), (0, [(0, 1)])]
def zC68 : ZC := [(0, 3, [some (0, (1, 0), (0, 0)), some (0, (2, 0), (0, 0)), some (0, (3, 0), (0, 0))])]
theorem zG68 : z_go zC68 (z_A zT68) [] 68 400 true 6 zP68_0 0 [some (0, (1, 0), (0, 0)), some (0, (2, 0), (0, 0)), some (0, (3, 0), (0, 0))] [] 3 = true := by decide +kernel
def v_x_isWithin (x1 x2 x3 : Int) (S : ZS) : Int := (bif decide (x1 < x2) then 0 else (bif decide (x3 < x1) then 0 else 1))
def f_x_isWithin : ZFn := fun L S => match L with
  | [x1, x2, x3] => ((0, [v_x_isWithin x1 x2 x3 S]), S)
  | _ => ((0, []), S)
theorem pF_x_isWithin {x1 x2 x3 : Int} {S : ZS} : f_x_isWithin [x1, x2, x3] S = ((0, [v_x_isWithin x1 x2 x3 S]), S) := id rfl
theorem zE68a {x1 x2 x3 : Int} {S : ZS} : z_ev (z_F zT68) 6 zP68_0 [x1, x2, x3] S = (bif decide (x1 < x2) then ((0, [0]), S) else (bif decide (x3 < x1) then ((0, [0]), S) else ((0, [1]), S))) := id rfl
theorem zE68 {x1 x2 x3 : Int} {S : ZS} : z_ev (z_F zT68) 6 zP68_0 [x1, x2, x3] S = f_x_isWithin [x1, x2, x3] S := zE68a.trans (by
  simp only [z_cv]
  rfl)
theorem zM68 : z_met 68 3 [(0, (1, 0), (0, 0)), (0, (2, 0), (0, 0)), (0, (3, 0), (0, 0))] f_x_isWithin := z_met_ev zH68 (fun _ _ h => absurd h List.not_mem_nil) rfl zG68 (by decide +kernel) (fun L S hn => match L, hn with
  | [x1, x2, x3], _ => zE68)
def zW68 : List Nat := []
theorem zK68 : z_kp 3 zW68 f_x_isWithin := z_kp_ev (KT := []) (.n) (z_h163 rfl) (by decide +kernel) (fun L S hn => match L, hn with
  | [x1, x2, x3], _ => zE68)

-- Film_begin (23)
def zT23 : ZT := []
theorem zH23 : z_ok zT23 := .n
def zP23_0 : List ZO := [(6, [(192, 0), (0, 0), (1, 0), (0, 0), (0, 0), (2, 0)]), (6, [(193, 0), (0, 0), (1, 0), (0, 0), (0, 0), (3, 0)]), (6, [(194, 0), (0, 0), (1, 0), (0, 0), (0, 0), (4, 0)]), (0, [])]
def zC23 : ZC := [(0, 4, [some (5, (1, 0), (0, 0)), some (0, (2, 0), (0, 0)), some (0, (3, 0), (0, 0)), some (0, (4, 0), (0, 0))])]
theorem zG23 : z_go zC23 (z_A zT23) [] 23 400 true 5 zP23_0 0 [some (5, (1, 0), (0, 0)), some (0, (2, 0), (0, 0)), some (0, (3, 0), (0, 0)), some (0, (4, 0), (0, 0))] [] 4 = true := by decide +kernel
def f_Film_begin : ZFn := fun L S => match L with
  | [x1, x2, x3, x4] => ((0, []), (e_upd (e_upd (e_upd S r_Film_form x1 0 0 x2) r_Film_minutes x1 0 0 x3) r_Film_land x1 0 0 x4))
  | _ => ((0, []), S)
theorem zE23 {x1 x2 x3 x4 : Int} {S : ZS} : z_ev (z_F zT23) 5 zP23_0 [x1, x2, x3, x4] S = f_Film_begin [x1, x2, x3, x4] S := id rfl
theorem zM23 : z_met 23 4 [(5, (1, 0), (0, 0)), (0, (2, 0), (0, 0)), (0, (3, 0), (0, 0)), (0, (4, 0), (0, 0))] f_Film_begin := z_met_ev zH23 (fun _ _ h => absurd h List.not_mem_nil) rfl zG23 (by decide +kernel) (fun L S hn => match L, hn with
  | [x1, x2, x3, x4], _ => zE23)
def zW23 : List Nat := [r_Film_form, r_Film_minutes, r_Film_land]
theorem zK23 : z_kp 4 zW23 f_Film_begin := z_kp_ev (KT := []) (.n) (z_h163 rfl) (by decide +kernel) (fun L S hn => match L, hn with
  | [x1, x2, x3, x4], _ => zE23)

-- x_film (54)
def zT54 : ZT := [(23, 4, [(5, (1, 0), (0, 0)), (0, (2, 0), (0, 0)), (0, (3, 0), (0, 0)), (0, (4, 0), (0, 0))], f_Film_begin), (68, 3, [(0, (1, 0), (0, 0)), (0, (2, 0), (0, 0)), (0, (3, 0), (0, 0))], f_x_isWithin), (69, 1, [(0, (1, 0), (0, 0))], f_x_isForm)]
theorem zH54 : z_ok zT54 := .c zM23 (.c zM68 (.c zM69 .n))
theorem zF54_23 : z_F zT54 23 = f_Film_begin := id rfl
theorem zF54_68 : z_F zT54 68 = f_x_isWithin := id rfl
theorem zF54_69 : z_F zT54 69 = f_x_isForm := id rfl
def zP54_0 : List ZO := [(7, [(69, 0), (1, 0)]), (3, [(0, 0), (1, 0), (4, 0), (0, 0)]), (1, [(1, 0)]), (7, [(68, 0), (2, 0), (0, 1), (0, 300)]), (3, [(0, 0), (1, 0), (5, 0), (0, 0)]), (1, [(1, 0)]), (7, [(68, 0), (3, 0), (0, 0), (0, 9)]), (3, [(1, 0), (11, 0), (6, 0), (0, 0)]), (5, [(4, 0), (0, 0), (0, 0), (0, 0)]), (3, [(2, 0), (8, 0), (7, 0), (0, 20)]), (5, [(4, 0), (0, 0), (0, 0), (0, 0)]), (7, [(23, 0), (8, 0), (1, 0), (2, 0), (3, 0)]), (5, [(4, 0), (0, 0), (0, 0), (0, 0)]), (4, [(0, 0), (10, 0), (0, 1)]), (6, [(4, 0), (0, 0), (0, 0), (0, 0), (0, 0), (11, 0)]), (5, [(4, 0), (0, 0), (0, 0), (0, 0)]), (4, [(1, 0), (12, 0), (0, 1)]), (0, [(13, 0)]), (1, [(2, 0)]), (1, [(1, 0)])]
def zC54 : ZC := [(0, 3, [some (2, (0, 0), (0, 0)), some (0, (1, 0), (0, 0)), some (0, (2, 0), (0, 0)), some (0, (3, 0), (0, 0))])]
theorem zG54 : z_go zC54 (z_A zT54) [] 54 400 true 21 zP54_0 0 [some (2, (0, 0), (0, 0)), some (0, (1, 0), (0, 0)), some (0, (2, 0), (0, 0)), some (0, (3, 0), (0, 0))] [] 3 = true := by decide +kernel
def f_x_film : ZFn := fun L S => match L with
  | [x1, x2, x3] => (bif decide ((v_x_isForm x1 S) = 0) then ((2, []), S) else (bif decide ((v_x_isWithin x2 1 300 S) = 0) then ((2, []), S) else (bif !decide ((v_x_isWithin x3 0 9 S) = 0) then (bif decide ((S r_x_filmCount 0 0 0) < 20) then (e_bind (f_Film_begin [(S r_x_filmCount 0 0 0), x1, x2, x3] S) (fun v1 S1 => ((0, [(e_wr (((e_upd S1 r_x_filmCount 0 0 0 (e_wr ((S1 r_x_filmCount 0 0 0) + 1))) r_x_filmCount 0 0 0) - 1))]), (e_upd S1 r_x_filmCount 0 0 0 (e_wr ((S1 r_x_filmCount 0 0 0) + 1)))))) else ((3, []), S)) else ((2, []), S))))
  | _ => ((0, []), S)
theorem zE54 {x1 x2 x3 : Int} {S : ZS} : z_ev (z_F zT54) 21 zP54_0 [x1, x2, x3] S = f_x_film [x1, x2, x3] S := by
  simp -implicitDefEqProofs only [zP54_0, zF54_23, zF54_68, zF54_69, pF_x_isWithin, pF_x_isForm, Nat.zero_add, Nat.reduceAdd, Nat.reduceBEq, Int.reduceToNat, z_e0, z_e1, z_e2, z_e3, z_e4, z_e5, z_e6, z_e7, z_e8, z_e11, z_e13, o_v0, o_v1, o_v2, List.cons_append, List.nil_append, List.map_cons, List.map_nil, List.drop_succ_cons, List.drop_zero, List.take_succ_cons, List.take_zero, e_c0, e_c1, e_c2, e_c3, e_c4, e_c5, e_b0, e_b1, e_b2, e_b3, e_b4, e_b5, e_b6, e_b7, e_b8, e_b9, e_b10, e_b11, e_b12, e_b13, e_b14, e_b15, e_b16, e_b17, e_n0, e_bnd, e_un]
  try rfl
theorem zM54 : z_met 54 3 [(2, (0, 0), (0, 0)), (0, (1, 0), (0, 0)), (0, (2, 0), (0, 0)), (0, (3, 0), (0, 0))] f_x_film := z_met_ev zH54 (fun _ _ h => absurd h List.not_mem_nil) rfl zG54 (by decide +kernel) (fun L S hn => match L, hn with
  | [x1, x2, x3], _ => zE54)
def zW54 : List Nat := [r_x_filmCount, r_Film_form, r_Film_minutes, r_Film_land]
theorem zK54 : z_kp 3 zW54 f_x_film := z_kp_ev (KT := [(23, 4, zW23), (68, 3, zW68), (69, 1, zW69)]) (.c zF54_23 zK23 (.c zF54_68 zK68 (.c zF54_69 zK69 .n))) (z_h163 rfl) (by decide +kernel) (fun L S hn => match L, hn with
  | [x1, x2, x3], _ => zE54)

-- w_film (84)
def zT84 : ZT := [(54, 3, [(2, (0, 0), (0, 0)), (0, (1, 0), (0, 0)), (0, (2, 0), (0, 0)), (0, (3, 0), (0, 0))], f_x_film)]
theorem zH84 : z_ok zT84 := .c zM54 .n
theorem zF84_54 : z_F zT84 54 = f_x_film := id rfl
def zP84_0 : List ZO := [(11, [(54, 0), (2, 0), (1, 1), (2, 2), (1, 0), (2, 0), (3, 0)]), (0, [(4, 0)]), (0, [(0, (-900001))]), (0, [(0, (-900002))])]
def zC84 : ZC := [(0, 3, [some (2, (0, 0), (0, 0)), some (0, (1, 0), (0, 0)), some (0, (2, 0), (0, 0)), some (0, (3, 0), (0, 0)), none])]
theorem zG84 : z_go zC84 (z_A zT84) [] 84 400 true 5 zP84_0 0 [some (2, (0, 0), (0, 0)), some (0, (1, 0), (0, 0)), some (0, (2, 0), (0, 0)), some (0, (3, 0), (0, 0)), none] [] 3 = true := by decide +kernel
def f_w_film : ZFn := fun L S => match L with
  | [x1, x2, x3] => (e_try (f_x_film [x1, x2, x3] S) (fun v1 S1 => ((0, [v1]), S1)) [(1, -900001), (2, -900002)])
  | _ => ((0, []), S)
theorem zE84 {x1 x2 x3 : Int} {S : ZS} : z_ev (z_F zT84) 5 zP84_0 [x1, x2, x3] S = f_w_film [x1, x2, x3] S := id rfl
theorem zM84 : z_met 84 3 [(2, (0, 0), (0, 0)), (0, (1, 0), (0, 0)), (0, (2, 0), (0, 0)), (0, (3, 0), (0, 0))] f_w_film := z_met_ev zH84 (fun _ _ h => absurd h List.not_mem_nil) rfl zG84 (by decide +kernel) (fun L S hn => match L, hn with
  | [x1, x2, x3], _ => zE84)
def zW84 : List Nat := [r_x_filmCount, r_Film_form, r_Film_minutes, r_Film_land]
theorem zK84 : z_kp 3 zW84 f_w_film := z_kp_ev (KT := [(54, 3, zW54)]) (.c zF84_54 zK54 .n) (z_h163 rfl) (by decide +kernel) (fun L S hn => match L, hn with
  | [x1, x2, x3], _ => zE84)

-- Readings_addReader (34)
def zT34 : ZT := []
theorem zH34 : z_ok zT34 := .n
def zP34_0 : List ZO := [(5, [(1669, 0), (0, 0), (0, 0), (0, 0)]), (6, [(1728, 0), (0, 0), (0, 0), (0, 0), (2, 0), (1, 0)]), (5, [(1669, 0), (0, 0), (0, 0), (0, 0)]), (4, [(0, 0), (3, 0), (0, 1)]), (6, [(1669, 0), (0, 0), (0, 0), (0, 0), (0, 0), (4, 0)]), (5, [(1669, 0), (0, 0), (0, 0), (0, 0)]), (4, [(1, 0), (5, 0), (0, 1)]), (0, [(6, 0)])]
def zC34 : ZC := [(0, 1, [some (28, (0, 0), (0, 0)), some (0, (1, 0), (0, 0))])]
theorem zG34 : z_go zC34 (z_A zT34) [] 34 400 true 9 zP34_0 0 [some (28, (0, 0), (0, 0)), some (0, (1, 0), (0, 0))] [] 1 = true := by decide +kernel
def f_Readings_addReader : ZFn := fun L S => match L with
  | [x1] => ((0, [(e_wr (((e_upd (e_upd S r_Readings_lands 0 0 (S r_Readings_readerCount 0 0 0) x1) r_Readings_readerCount 0 0 0 (e_wr ((S r_Readings_readerCount 0 0 0) + 1))) r_Readings_readerCount 0 0 0) - 1))]), (e_upd (e_upd S r_Readings_lands 0 0 (S r_Readings_readerCount 0 0 0) x1) r_Readings_readerCount 0 0 0 (e_wr ((S r_Readings_readerCount 0 0 0) + 1))))
  | _ => ((0, []), S)
theorem zE34 {x1 : Int} {S : ZS} : z_ev (z_F zT34) 9 zP34_0 [x1] S = f_Readings_addReader [x1] S := id rfl
theorem zM34 : z_met 34 1 [(28, (0, 0), (0, 0)), (0, (1, 0), (0, 0))] f_Readings_addReader := z_met_ev zH34 (fun _ _ h => absurd h List.not_mem_nil) rfl zG34 (by decide +kernel) (fun L S hn => match L, hn with
  | [x1], _ => zE34)
def zW34 : List Nat := [r_Readings_readerCount, r_Readings_lands]
theorem zK34 : z_kp 1 zW34 f_Readings_addReader := z_kp_ev (KT := []) (.n) (z_h163 rfl) (by decide +kernel) (fun L S hn => match L, hn with
  | [x1], _ => zE34)

-- x_reader (55)
def zT55 : ZT := [(34, 1, [(28, (0, 0), (0, 0)), (0, (1, 0), (0, 0))], f_Readings_addReader), (68, 3, [(0, (1, 0), (0, 0)), (0, (2, 0), (0, 0)), (0, (3, 0), (0, 0))], f_x_isWithin)]
theorem zH55 : z_ok zT55 := .c zM34 (.c zM68 .n)
theorem zF55_34 : z_F zT55 34 = f_Readings_addReader := id rfl
theorem zF55_68 : z_F zT55 68 = f_x_isWithin := id rfl
def zP55_0 : List ZO := [(7, [(68, 0), (1, 0), (0, 0), (0, 9)]), (3, [(1, 0), (5, 0), (2, 0), (0, 0)]), (5, [(1669, 0), (0, 0), (0, 0), (0, 0)]), (3, [(2, 0), (2, 0), (3, 0), (0, 8)]), (7, [(34, 0), (1, 0)]), (0, [(4, 0)]), (1, [(2, 0)]), (1, [(1, 0)])]
def zC55 : ZC := [(0, 1, [some (2, (0, 0), (0, 0)), some (0, (1, 0), (0, 0))])]
theorem zG55 : z_go zC55 (z_A zT55) [] 55 400 true 9 zP55_0 0 [some (2, (0, 0), (0, 0)), some (0, (1, 0), (0, 0))] [] 1 = true := by decide +kernel
def f_x_reader : ZFn := fun L S => match L with
  | [x1] => (bif !decide ((v_x_isWithin x1 0 9 S) = 0) then (bif decide ((S r_Readings_readerCount 0 0 0) < 8) then (e_bind (f_Readings_addReader [x1] S) (fun v1 S1 => ((0, [v1]), S1))) else ((3, []), S)) else ((2, []), S))
  | _ => ((0, []), S)
theorem zE55 {x1 : Int} {S : ZS} : z_ev (z_F zT55) 9 zP55_0 [x1] S = f_x_reader [x1] S := id rfl
theorem zM55 : z_met 55 1 [(2, (0, 0), (0, 0)), (0, (1, 0), (0, 0))] f_x_reader := z_met_ev zH55 (fun _ _ h => absurd h List.not_mem_nil) rfl zG55 (by decide +kernel) (fun L S hn => match L, hn with
  | [x1], _ => zE55)
def zW55 : List Nat := [r_Readings_readerCount, r_Readings_lands]
theorem zK55 : z_kp 1 zW55 f_x_reader := z_kp_ev (KT := [(34, 1, zW34), (68, 3, zW68)]) (.c zF55_34 zK34 (.c zF55_68 zK68 .n)) (z_h163 rfl) (by decide +kernel) (fun L S hn => match L, hn with
  | [x1], _ => zE55)

-- w_reader (85)
def zT85 : ZT := [(55, 1, [(2, (0, 0), (0, 0)), (0, (1, 0), (0, 0))], f_x_reader)]
theorem zH85 : z_ok zT85 := .c zM55 .n
theorem zF85_55 : z_F zT85 55 = f_x_reader := id rfl
def zP85_0 : List ZO := [(11, [(55, 0), (2, 0), (1, 1), (2, 2), (1, 0)]), (0, [(2, 0)]), (0, [(0, (-900001))]), (0, [(0, (-900002))])]
def zC85 : ZC := [(0, 1, [some (2, (0, 0), (0, 0)), some (0, (1, 0), (0, 0)), none])]
theorem zG85 : z_go zC85 (z_A zT85) [] 85 400 true 5 zP85_0 0 [some (2, (0, 0), (0, 0)), some (0, (1, 0), (0, 0)), none] [] 1 = true := by decide +kernel
def f_w_reader : ZFn := fun L S => match L with
  | [x1] => (e_try (f_x_reader [x1] S) (fun v1 S1 => ((0, [v1]), S1)) [(1, -900001), (2, -900002)])
  | _ => ((0, []), S)
theorem zE85 {x1 : Int} {S : ZS} : z_ev (z_F zT85) 5 zP85_0 [x1] S = f_w_reader [x1] S := id rfl
theorem zM85 : z_met 85 1 [(2, (0, 0), (0, 0)), (0, (1, 0), (0, 0))] f_w_reader := z_met_ev zH85 (fun _ _ h => absurd h List.not_mem_nil) rfl zG85 (by decide +kernel) (fun L S hn => match L, hn with
  | [x1], _ => zE85)
def zW85 : List Nat := [r_Readings_readerCount, r_Readings_lands]
theorem zK85 : z_kp 1 zW85 f_w_reader := z_kp_ev (KT := [(55, 1, zW55)]) (.c zF85_55 zK55 .n) (z_h163 rfl) (by decide +kernel) (fun L S hn => match L, hn with
  | [x1], _ => zE85)

-- x_checkNumber (72)
def zT72 : ZT := [(68, 3, [(0, (1, 0), (0, 0)), (0, (2, 0), (0, 0)), (0, (3, 0), (0, 0))], f_x_isWithin)]
theorem zH72 : z_ok zT72 := .c zM68 .n
theorem zF72_68 : z_F zT72 68 = f_x_isWithin := id rfl
def zP72_0 : List ZO := [(4, [(1, 0), (2, 0), (0, 1)]), (7, [(68, 0), (1, 0), (0, 0), (3, 0)]), (3, [(1, 0), (1, 0), (4, 0), (0, 0)]), (0, []), (1, [(0, 0)])]
def zC72 : ZC := [(0, 2, [some (0, (1, 0), (0, 0)), some (0, (2, 0), (0, 0))])]
theorem zG72 : z_go zC72 (z_A zT72) [] 72 400 true 6 zP72_0 0 [some (0, (1, 0), (0, 0)), some (0, (2, 0), (0, 0))] [] 2 = true := by decide +kernel
def f_x_checkNumber : ZFn := fun L S => match L with
  | [x1, x2] => (bif !decide ((v_x_isWithin x1 0 (e_wr (x2 - 1)) S) = 0) then ((0, []), S) else ((1, []), S))
  | _ => ((0, []), S)
theorem zE72 {x1 x2 : Int} {S : ZS} : z_ev (z_F zT72) 6 zP72_0 [x1, x2] S = f_x_checkNumber [x1, x2] S := id rfl
theorem zM72 : z_met 72 2 [(0, (1, 0), (0, 0)), (0, (2, 0), (0, 0))] f_x_checkNumber := z_met_ev zH72 (fun _ _ h => absurd h List.not_mem_nil) rfl zG72 (by decide +kernel) (fun L S hn => match L, hn with
  | [x1, x2], _ => zE72)
def zW72 : List Nat := []
theorem zK72 : z_kp 2 zW72 f_x_checkNumber := z_kp_ev (KT := [(68, 3, zW68)]) (.c zF72_68 zK68 .n) (z_h163 rfl) (by decide +kernel) (fun L S hn => match L, hn with
  | [x1, x2], _ => zE72)

-- x_checkFilm (73)
def zT73 : ZT := [(72, 2, [(0, (1, 0), (0, 0)), (0, (2, 0), (0, 0))], f_x_checkNumber)]
theorem zH73 : z_ok zT73 := .c zM72 .n
theorem zF73_72 : z_F zT73 72 = f_x_checkNumber := id rfl
def zP73_0 : List ZO := [(5, [(4, 0), (0, 0), (0, 0), (0, 0)]), (7, [(72, 0), (1, 0), (2, 0)]), (0, [])]
def zC73 : ZC := [(0, 1, [some (2, (0, 0), (0, 0)), some (0, (1, 0), (0, 0))])]
theorem zG73 : z_go zC73 (z_A zT73) [] 73 400 true 4 zP73_0 0 [some (2, (0, 0), (0, 0)), some (0, (1, 0), (0, 0))] [] 1 = true := by decide +kernel
def f_x_checkFilm : ZFn := fun L S => match L with
  | [x1] => (e_bind (f_x_checkNumber [x1, (S r_x_filmCount 0 0 0)] S) (fun v1 S1 => ((0, []), S1)))
  | _ => ((0, []), S)
theorem zE73 {x1 : Int} {S : ZS} : z_ev (z_F zT73) 4 zP73_0 [x1] S = f_x_checkFilm [x1] S := id rfl
theorem zM73 : z_met 73 1 [(2, (0, 0), (0, 0)), (0, (1, 0), (0, 0))] f_x_checkFilm := z_met_ev zH73 (fun _ _ h => absurd h List.not_mem_nil) rfl zG73 (by decide +kernel) (fun L S hn => match L, hn with
  | [x1], _ => zE73)
def zW73 : List Nat := []
theorem zK73 : z_kp 1 zW73 f_x_checkFilm := z_kp_ev (KT := [(72, 2, zW72)]) (.c zF73_72 zK72 .n) (z_h163 rfl) (by decide +kernel) (fun L S hn => match L, hn with
  | [x1], _ => zE73)

-- Readings_isFree (35)
def zT35 : ZT := []
theorem zH35 : z_ok zT35 := .n
def zP35_0 : List ZO := [(5, [(1728, 0), (0, 0), (0, 0), (3, 0)]), (3, [(0, 0), (1, 0), (4, 0), (2, 0)]), (0, [(0, 0)]), (5, [(2048, 0), (1, 0), (0, 0), (3, 0)]), (3, [(1, 0), (1, 0), (5, 0), (0, (-2))]), (0, [(0, 0)]), (0, [(0, 1)])]
def zC35 : ZC := [(0, 3, [some (28, (0, 0), (0, 0)), some (0, (1, 0), (0, 0)), some (0, (2, 0), (0, 0)), some (0, (3, 0), (0, 0))])]
theorem zG35 : z_go zC35 (z_A zT35) [] 35 400 true 8 zP35_0 0 [some (28, (0, 0), (0, 0)), some (0, (1, 0), (0, 0)), some (0, (2, 0), (0, 0)), some (0, (3, 0), (0, 0))] [] 3 = true := by decide +kernel
def v_Readings_isFree (x1 x2 x3 : Int) (S : ZS) : Int := (bif decide ((S r_Readings_lands 0 0 x3) = x2) then 0 else (bif !decide ((S r_Readings_marks_r x1 0 x3) = (-2)) then 0 else 1))
def f_Readings_isFree : ZFn := fun L S => match L with
  | [x1, x2, x3] => ((0, [v_Readings_isFree x1 x2 x3 S]), S)
  | _ => ((0, []), S)
theorem pF_Readings_isFree {x1 x2 x3 : Int} {S : ZS} : f_Readings_isFree [x1, x2, x3] S = ((0, [v_Readings_isFree x1 x2 x3 S]), S) := id rfl
theorem zE35a {x1 x2 x3 : Int} {S : ZS} : z_ev (z_F zT35) 8 zP35_0 [x1, x2, x3] S = (bif decide ((S r_Readings_lands 0 0 x3) = x2) then ((0, [0]), S) else (bif !decide ((S r_Readings_marks_r x1 0 x3) = (-2)) then ((0, [0]), S) else ((0, [1]), S))) := id rfl
theorem zE35 {x1 x2 x3 : Int} {S : ZS} : z_ev (z_F zT35) 8 zP35_0 [x1, x2, x3] S = f_Readings_isFree [x1, x2, x3] S := zE35a.trans (by
  simp only [z_cv]
  rfl)
theorem zM35 : z_met 35 3 [(28, (0, 0), (0, 0)), (0, (1, 0), (0, 0)), (0, (2, 0), (0, 0)), (0, (3, 0), (0, 0))] f_Readings_isFree := z_met_ev zH35 (fun _ _ h => absurd h List.not_mem_nil) rfl zG35 (by decide +kernel) (fun L S hn => match L, hn with
  | [x1, x2, x3], _ => zE35)
def zW35 : List Nat := []
theorem zK35 : z_kp 3 zW35 f_Readings_isFree := z_kp_ev (KT := []) (.n) (z_h163 rfl) (by decide +kernel) (fun L S hn => match L, hn with
  | [x1, x2, x3], _ => zE35)

-- Readings_countFree (36)
def zT36 : ZT := [(35, 3, [(28, (0, 0), (0, 0)), (0, (1, 0), (0, 0)), (0, (2, 0), (0, 0)), (0, (3, 0), (0, 0))], f_Readings_isFree)]
theorem zH36 : z_ok zT36 := .c zM35 .n
theorem zF36_35 : z_F zT36 35 = f_Readings_isFree := id rfl
def zP36_0 : List ZO := [(2, [(5, 0), (1, 0), (2, 0), (0, 0), (0, 0)])]
def zP36_5 : List ZO := [(5, [(1669, 0), (0, 0), (0, 0), (0, 0)]), (3, [(3, 0), (1, 0), (4, 0), (5, 0)]), (0, [(3, 0)]), (7, [(35, 0), (1, 0), (2, 0), (4, 0)]), (3, [(0, 0), (2, 0), (6, 0), (0, 0)]), (4, [(0, 0), (4, 0), (0, 1)]), (2, [(5, 0), (1, 0), (2, 0), (3, 0), (7, 0)]), (4, [(0, 0), (3, 0), (0, 1)]), (4, [(0, 0), (4, 0), (0, 1)]), (2, [(5, 0), (1, 0), (2, 0), (7, 0), (8, 0)])]
def zD36 : ZD := [(0, 2, [some (28, (0, 0), (0, 0)), some (0, (1, 0), (0, 0)), some (0, (2, 0), (0, 0)), none, none], 2, zP36_0), (5, 4, [some (28, (0, 0), (0, 0)), some (0, (1, 0), (0, 0)), some (0, (2, 0), (0, 0)), some (0, (3, 0), (0, 0)), some (0, (4, 0), (0, 0))], 11, zP36_5)]
theorem zG36 : z_chk zT36 [] 36 zD36 = true := by decide +kernel
noncomputable def g_Readings_countFree (R : ZR) : ZR := z_psi (z_st (z_F zT36) zD36) R
noncomputable def f_Readings_countFree : ZFn := fun L S => g_Readings_countFree ((1000, L), S)
theorem zM36 : z_met 36 2 [(28, (0, 0), (0, 0)), (0, (1, 0), (0, 0)), (0, (2, 0), (0, 0))] f_Readings_countFree := z_met_psi zH36 (fun _ _ h => absurd h List.not_mem_nil) rfl zG36
theorem zE36_0 {x1 x2 : Int} {S : ZS} : z_st (z_F zT36) zD36 0 [x1, x2] S = ((1005, [x1, x2, 0, 0]), S) := (id rfl : z_st (z_F zT36) zD36 0 [x1, x2] S = z_ev (z_F zT36) 2 zP36_0 [x1, x2] S).trans (id rfl)
theorem g_Readings_countFree_0 {x1 x2 : Int} {S : ZS} : g_Readings_countFree ((1000, [x1, x2]), S) = (g_Readings_countFree ((1005, [x1, x2, 0, 0]), S)) := by
  unfold g_Readings_countFree
  refine ((z_psi_go (pc := 0)).trans (congrArg _ zE36_0)).trans ?_
  try simp only [z_psi_c, z_psi_b, z_psi_n, Nat.reduceLT, decide_true]
theorem zE36_5 {x1 x2 x3 x4 : Int} {S : ZS} : z_st (z_F zT36) zD36 5 [x1, x2, x3, x4] S = (bif decide ((S r_Readings_readerCount 0 0 0) ≤ x4) then ((0, [x3]), S) else (bif decide ((v_Readings_isFree x1 x2 x4 S) = 0) then ((1005, [x1, x2, x3, (e_wr (x4 + 1))]), S) else ((1005, [x1, x2, (e_wr (x3 + 1)), (e_wr (x4 + 1))]), S))) := (id rfl : z_st (z_F zT36) zD36 5 [x1, x2, x3, x4] S = z_ev (z_F zT36) 11 zP36_5 [x1, x2, x3, x4] S).trans (id rfl)
theorem g_Readings_countFree_5 {x1 x2 x3 x4 : Int} {S : ZS} : g_Readings_countFree ((1005, [x1, x2, x3, x4]), S) = (bif decide ((S r_Readings_readerCount 0 0 0) ≤ x4) then ((0, [x3]), S) else (bif decide ((v_Readings_isFree x1 x2 x4 S) = 0) then (g_Readings_countFree ((1005, [x1, x2, x3, (e_wr (x4 + 1))]), S)) else (g_Readings_countFree ((1005, [x1, x2, (e_wr (x3 + 1)), (e_wr (x4 + 1))]), S)))) := by
  unfold g_Readings_countFree
  refine ((z_psi_go (pc := 5)).trans (congrArg _ zE36_5)).trans ?_
  try simp only [z_psi_c, z_psi_b, z_psi_n, Nat.reduceLT, decide_true]
def zW36 : List Nat := []
theorem zK36 : z_kp 2 zW36 f_Readings_countFree := fun L S hL hc r i j k hr => z_psi_kp (KT := [(35, 3, zW35)]) (F := z_F zT36) (W := zW36) (D := zD36) (.c zF36_35 zK35 .n) (z_h163 rfl) (by decide +kernel) _ hc r i j k hr

-- Readings_countDealt (38)
def zT38 : ZT := []
theorem zH38 : z_ok zT38 := .n
def zP38_0 : List ZO := [(2, [(4, 0), (1, 0), (0, 0), (0, 0)])]
def zP38_4 : List ZO := [(5, [(1669, 0), (0, 0), (0, 0), (0, 0)]), (3, [(3, 0), (1, 0), (3, 0), (4, 0)]), (0, [(2, 0)]), (5, [(2048, 0), (1, 0), (0, 0), (3, 0)]), (3, [(0, 0), (2, 0), (5, 0), (0, (-2))]), (4, [(0, 0), (3, 0), (0, 1)]), (2, [(4, 0), (1, 0), (2, 0), (6, 0)]), (4, [(0, 0), (2, 0), (0, 1)]), (4, [(0, 0), (3, 0), (0, 1)]), (2, [(4, 0), (1, 0), (6, 0), (7, 0)])]
def zD38 : ZD := [(0, 1, [some (28, (0, 0), (0, 0)), some (0, (1, 0), (0, 0)), none, none], 2, zP38_0), (4, 3, [some (28, (0, 0), (0, 0)), some (0, (1, 0), (0, 0)), some (0, (2, 0), (0, 0)), some (0, (3, 0), (0, 0))], 11, zP38_4)]
theorem zG38 : z_chk zT38 [] 38 zD38 = true := by decide +kernel
noncomputable def g_Readings_countDealt (R : ZR) : ZR := z_psi (z_st (z_F zT38) zD38) R
noncomputable def f_Readings_countDealt : ZFn := fun L S => g_Readings_countDealt ((1000, L), S)
theorem zM38 : z_met 38 1 [(28, (0, 0), (0, 0)), (0, (1, 0), (0, 0))] f_Readings_countDealt := z_met_psi zH38 (fun _ _ h => absurd h List.not_mem_nil) rfl zG38
theorem zE38_0 {x1 : Int} {S : ZS} : z_st (z_F zT38) zD38 0 [x1] S = ((1004, [x1, 0, 0]), S) := (id rfl : z_st (z_F zT38) zD38 0 [x1] S = z_ev (z_F zT38) 2 zP38_0 [x1] S).trans (id rfl)
theorem g_Readings_countDealt_0 {x1 : Int} {S : ZS} : g_Readings_countDealt ((1000, [x1]), S) = (g_Readings_countDealt ((1004, [x1, 0, 0]), S)) := by
  unfold g_Readings_countDealt
  refine ((z_psi_go (pc := 0)).trans (congrArg _ zE38_0)).trans ?_
  try simp only [z_psi_c, z_psi_b, z_psi_n, Nat.reduceLT, decide_true]
theorem zE38_4 {x1 x2 x3 : Int} {S : ZS} : z_st (z_F zT38) zD38 4 [x1, x2, x3] S = (bif decide ((S r_Readings_readerCount 0 0 0) ≤ x3) then ((0, [x2]), S) else (bif decide ((S r_Readings_marks_r x1 0 x3) = (-2)) then ((1004, [x1, x2, (e_wr (x3 + 1))]), S) else ((1004, [x1, (e_wr (x2 + 1)), (e_wr (x3 + 1))]), S))) := (id rfl : z_st (z_F zT38) zD38 4 [x1, x2, x3] S = z_ev (z_F zT38) 11 zP38_4 [x1, x2, x3] S).trans (id rfl)
theorem g_Readings_countDealt_4 {x1 x2 x3 : Int} {S : ZS} : g_Readings_countDealt ((1004, [x1, x2, x3]), S) = (bif decide ((S r_Readings_readerCount 0 0 0) ≤ x3) then ((0, [x2]), S) else (bif decide ((S r_Readings_marks_r x1 0 x3) = (-2)) then (g_Readings_countDealt ((1004, [x1, x2, (e_wr (x3 + 1))]), S)) else (g_Readings_countDealt ((1004, [x1, (e_wr (x2 + 1)), (e_wr (x3 + 1))]), S)))) := by
  unfold g_Readings_countDealt
  refine ((z_psi_go (pc := 4)).trans (congrArg _ zE38_4)).trans ?_
  try simp only [z_psi_c, z_psi_b, z_psi_n, Nat.reduceLT, decide_true]
def zW38 : List Nat := []
theorem zK38 : z_kp 1 zW38 f_Readings_countDealt := fun L S hL hc r i j k hr => z_psi_kp (KT := []) (F := z_F zT38) (W := zW38) (D := zD38) (.n) (z_h163 rfl) (by decide +kernel) _ hc r i j k hr

-- Readings_dealOnce (37)
def zT37 : ZT := [(35, 3, [(28, (0, 0), (0, 0)), (0, (1, 0), (0, 0)), (0, (2, 0), (0, 0)), (0, (3, 0), (0, 0))], f_Readings_isFree)]
theorem zH37 : z_ok zT37 := .c zM35 .n
theorem zF37_35 : z_F zT37 35 = f_Readings_isFree := id rfl
def zP37_0 : List ZO := [(2, [(5, 0), (1, 0), (2, 0), (0, (-1)), (0, 0)])]
def zP37_5 : List ZO := [(5, [(1669, 0), (0, 0), (0, 0), (0, 0)]), (3, [(3, 0), (7, 0), (4, 0), (5, 0)]), (3, [(0, 0), (1, 0), (3, 0), (0, (-1))]), (0, []), (6, [(2048, 0), (0, 0), (1, 0), (0, 0), (3, 0), (0, (-1))]), (5, [(1792, 0), (0, 0), (0, 0), (3, 0)]), (4, [(0, 0), (6, 0), (0, 1)]), (6, [(1792, 0), (0, 0), (0, 0), (0, 0), (3, 0), (7, 0)]), (0, []), (7, [(35, 0), (1, 0), (2, 0), (4, 0)]), (3, [(0, 0), (2, 0), (6, 0), (0, 0)]), (4, [(0, 0), (4, 0), (0, 1)]), (2, [(5, 0), (1, 0), (2, 0), (3, 0), (7, 0)]), (3, [(0, 0), (2, 0), (3, 0), (0, (-1))]), (4, [(0, 0), (4, 0), (0, 1)]), (2, [(5, 0), (1, 0), (2, 0), (4, 0), (7, 0)]), (5, [(1792, 0), (0, 0), (0, 0), (4, 0)]), (5, [(1792, 0), (0, 0), (0, 0), (3, 0)]), (3, [(3, 0), (2, 0), (7, 0), (8, 0)]), (4, [(0, 0), (4, 0), (0, 1)]), (2, [(5, 0), (1, 0), (2, 0), (3, 0), (9, 0)]), (4, [(0, 0), (4, 0), (0, 1)]), (2, [(5, 0), (1, 0), (2, 0), (4, 0), (9, 0)])]
def zD37 : ZD := [(0, 2, [some (28, (0, 0), (0, 0)), some (0, (1, 0), (0, 0)), some (0, (2, 0), (0, 0)), none, none], 2, zP37_0), (5, 4, [some (28, (0, 0), (0, 0)), some (0, (1, 0), (0, 0)), some (0, (2, 0), (0, 0)), some (0, (3, 0), (0, 0)), some (0, (4, 0), (0, 0))], 24, zP37_5)]
theorem zG37 : z_chk zT37 [] 37 zD37 = true := by decide +kernel
noncomputable def g_Readings_dealOnce (R : ZR) : ZR := z_psi (z_st (z_F zT37) zD37) R
noncomputable def f_Readings_dealOnce : ZFn := fun L S => g_Readings_dealOnce ((1000, L), S)
theorem zM37 : z_met 37 2 [(28, (0, 0), (0, 0)), (0, (1, 0), (0, 0)), (0, (2, 0), (0, 0))] f_Readings_dealOnce := z_met_psi zH37 (fun _ _ h => absurd h List.not_mem_nil) rfl zG37
theorem zE37_0 {x1 x2 : Int} {S : ZS} : z_st (z_F zT37) zD37 0 [x1, x2] S = ((1005, [x1, x2, (-1), 0]), S) := (id rfl : z_st (z_F zT37) zD37 0 [x1, x2] S = z_ev (z_F zT37) 2 zP37_0 [x1, x2] S).trans (id rfl)
theorem g_Readings_dealOnce_0 {x1 x2 : Int} {S : ZS} : g_Readings_dealOnce ((1000, [x1, x2]), S) = (g_Readings_dealOnce ((1005, [x1, x2, (-1), 0]), S)) := by
  unfold g_Readings_dealOnce
  refine ((z_psi_go (pc := 0)).trans (congrArg _ zE37_0)).trans ?_
  try simp only [z_psi_c, z_psi_b, z_psi_n, Nat.reduceLT, decide_true]
theorem zE37_5 {x1 x2 x3 x4 : Int} {S : ZS} : z_st (z_F zT37) zD37 5 [x1, x2, x3, x4] S = (bif decide ((S r_Readings_readerCount 0 0 0) ≤ x4) then (bif decide (x3 = (-1)) then ((0, []), S) else ((0, []), (e_upd (e_upd S r_Readings_marks_r x1 0 x3 (-1)) r_Readings_dealtFilms 0 0 x3 (e_wr ((S r_Readings_dealtFilms 0 0 x3) + 1))))) else (bif decide ((v_Readings_isFree x1 x2 x4 S) = 0) then ((1005, [x1, x2, x3, (e_wr (x4 + 1))]), S) else (bif decide (x3 = (-1)) then ((1005, [x1, x2, x4, (e_wr (x4 + 1))]), S) else (bif decide ((S r_Readings_dealtFilms 0 0 x3) ≤ (S r_Readings_dealtFilms 0 0 x4)) then ((1005, [x1, x2, x3, (e_wr (x4 + 1))]), S) else ((1005, [x1, x2, x4, (e_wr (x4 + 1))]), S))))) := (id rfl : z_st (z_F zT37) zD37 5 [x1, x2, x3, x4] S = z_ev (z_F zT37) 24 zP37_5 [x1, x2, x3, x4] S).trans (by
  simp -implicitDefEqProofs only [zP37_5, zF37_35, pF_Readings_isFree, Nat.zero_add, Nat.reduceAdd, Nat.reduceBEq, Int.reduceToNat, z_e0, z_e1, z_e2, z_e3, z_e4, z_e5, z_e6, z_e7, z_e8, z_e11, z_e13, o_v0, o_v1, o_v2, List.cons_append, List.nil_append, List.map_cons, List.map_nil, List.drop_succ_cons, List.drop_zero, List.take_succ_cons, List.take_zero, e_c0, e_c1, e_c2, e_c3, e_c4, e_c5, e_b0, e_b1, e_b2, e_b3, e_b4, e_b5, e_b6, e_b7, e_b8, e_b9, e_b10, e_b11, e_b12, e_b13, e_b14, e_b15, e_b16, e_b17, e_n0, e_bnd, e_un]
  try rfl)
theorem g_Readings_dealOnce_5 {x1 x2 x3 x4 : Int} {S : ZS} : g_Readings_dealOnce ((1005, [x1, x2, x3, x4]), S) = (bif decide ((S r_Readings_readerCount 0 0 0) ≤ x4) then (bif decide (x3 = (-1)) then ((0, []), S) else ((0, []), (e_upd (e_upd S r_Readings_marks_r x1 0 x3 (-1)) r_Readings_dealtFilms 0 0 x3 (e_wr ((S r_Readings_dealtFilms 0 0 x3) + 1))))) else (bif decide ((v_Readings_isFree x1 x2 x4 S) = 0) then (g_Readings_dealOnce ((1005, [x1, x2, x3, (e_wr (x4 + 1))]), S)) else (bif decide (x3 = (-1)) then (g_Readings_dealOnce ((1005, [x1, x2, x4, (e_wr (x4 + 1))]), S)) else (bif decide ((S r_Readings_dealtFilms 0 0 x3) ≤ (S r_Readings_dealtFilms 0 0 x4)) then (g_Readings_dealOnce ((1005, [x1, x2, x3, (e_wr (x4 + 1))]), S)) else (g_Readings_dealOnce ((1005, [x1, x2, x4, (e_wr (x4 + 1))]), S)))))) := by
  unfold g_Readings_dealOnce
  refine ((z_psi_go (pc := 5)).trans (congrArg _ zE37_5)).trans ?_
  try simp only [z_psi_c, z_psi_b, z_psi_n, Nat.reduceLT, decide_true]
def zW37 : List Nat := [r_Readings_dealtFilms, r_Readings_marks_r]
theorem zK37 : z_kp 2 zW37 f_Readings_dealOnce := fun L S hL hc r i j k hr => z_psi_kp (KT := [(35, 3, zW35)]) (F := z_F zT37) (W := zW37) (D := zD37) (.c zF37_35 zK35 .n) (z_h163 rfl) (by decide +kernel) _ hc r i j k hr

-- x_deal (56)
noncomputable def zT56 : ZT := [(36, 2, [(28, (0, 0), (0, 0)), (0, (1, 0), (0, 0)), (0, (2, 0), (0, 0))], f_Readings_countFree), (37, 2, [(28, (0, 0), (0, 0)), (0, (1, 0), (0, 0)), (0, (2, 0), (0, 0))], f_Readings_dealOnce), (38, 1, [(28, (0, 0), (0, 0)), (0, (1, 0), (0, 0))], f_Readings_countDealt), (68, 3, [(0, (1, 0), (0, 0)), (0, (2, 0), (0, 0)), (0, (3, 0), (0, 0))], f_x_isWithin), (73, 1, [(2, (0, 0), (0, 0)), (0, (1, 0), (0, 0))], f_x_checkFilm)]
theorem zH56 : z_ok zT56 := .c zM36 (.c zM37 (.c zM38 (.c zM68 (.c zM73 .n))))
theorem zF56_36 : z_F zT56 36 = f_Readings_countFree := id rfl
theorem zF56_37 : z_F zT56 37 = f_Readings_dealOnce := id rfl
theorem zF56_38 : z_F zT56 38 = f_Readings_countDealt := id rfl
theorem zF56_68 : z_F zT56 68 = f_x_isWithin := id rfl
theorem zF56_73 : z_F zT56 73 = f_x_checkFilm := id rfl
def zP56_0 : List ZO := [(7, [(73, 0), (1, 0)]), (7, [(68, 0), (2, 0), (0, 1), (0, 8)]), (3, [(1, 0), (5, 0), (4, 0), (0, 0)]), (5, [(194, 0), (1, 0), (0, 0), (0, 0)]), (7, [(36, 0), (1, 0), (5, 0)]), (3, [(3, 0), (1, 0), (6, 0), (2, 0)]), (2, [(61, 0), (1, 0), (2, 0), (5, 0), (0, 0)]), (1, [(3, 0)]), (1, [(1, 0)])]
def zP56_61 : List ZO := [(3, [(3, 0), (2, 0), (4, 0), (2, 0)]), (7, [(38, 0), (1, 0)]), (0, [(5, 0)]), (7, [(37, 0), (1, 0), (3, 0)]), (4, [(0, 0), (4, 0), (0, 1)]), (2, [(61, 0), (1, 0), (2, 0), (3, 0), (6, 0)])]
def zD56 : ZD := [(0, 2, [some (2, (0, 0), (0, 0)), some (0, (1, 0), (0, 0)), some (0, (2, 0), (0, 0)), none, none], 10, zP56_0), (61, 4, [some (2, (0, 0), (0, 0)), some (0, (1, 0), (0, 0)), some (0, (2, 0), (0, 0)), some (0, (3, 0), (0, 0)), some (0, (4, 0), (0, 0))], 7, zP56_61)]
theorem zG56 : z_chk zT56 [] 56 zD56 = true := by decide +kernel
noncomputable def g_x_deal (R : ZR) : ZR := z_psi (z_st (z_F zT56) zD56) R
noncomputable def f_x_deal : ZFn := fun L S => g_x_deal ((1000, L), S)
theorem zM56 : z_met 56 2 [(2, (0, 0), (0, 0)), (0, (1, 0), (0, 0)), (0, (2, 0), (0, 0))] f_x_deal := z_met_psi zH56 (fun _ _ h => absurd h List.not_mem_nil) rfl zG56
theorem zE56_0 {x1 x2 : Int} {S : ZS} : z_st (z_F zT56) zD56 0 [x1, x2] S = (e_bind (f_x_checkFilm [x1] S) (fun v1 S1 => (bif !decide ((v_x_isWithin x2 1 8 S1) = 0) then (e_bind (f_Readings_countFree [x1, (S1 r_Film_land x1 0 0)] S1) (fun v2 S2 => (bif decide (x2 ≤ v2) then ((1061, [x1, x2, (S1 r_Film_land x1 0 0), 0]), S2) else ((4, []), S2)))) else ((2, []), S1)))) := (id rfl : z_st (z_F zT56) zD56 0 [x1, x2] S = z_ev (z_F zT56) 10 zP56_0 [x1, x2] S).trans (id rfl)
theorem g_x_deal_0 {x1 x2 : Int} {S : ZS} : g_x_deal ((1000, [x1, x2]), S) = (e_bind (f_x_checkFilm [x1] S) (fun v1 S1 => (bif !decide ((v_x_isWithin x2 1 8 S1) = 0) then (e_bind (f_Readings_countFree [x1, (S1 r_Film_land x1 0 0)] S1) (fun v2 S2 => (bif decide (x2 ≤ v2) then (g_x_deal ((1061, [x1, x2, (S1 r_Film_land x1 0 0), 0]), S2)) else ((4, []), S2)))) else ((2, []), S1)))) := by
  unfold g_x_deal
  refine ((z_psi_go (pc := 0)).trans (congrArg _ zE56_0)).trans ?_
  try simp only [z_psi_c, z_psi_b, z_psi_n, Nat.reduceLT, decide_true]
theorem zE56_61 {x1 x2 x3 x4 : Int} {S : ZS} : z_st (z_F zT56) zD56 61 [x1, x2, x3, x4] S = (bif decide (x2 ≤ x4) then (e_bind (f_Readings_countDealt [x1] S) (fun v1 S1 => ((0, [v1]), S1))) else (e_bind (f_Readings_dealOnce [x1, x3] S) (fun v2 S2 => ((1061, [x1, x2, x3, (e_wr (x4 + 1))]), S2)))) := (id rfl : z_st (z_F zT56) zD56 61 [x1, x2, x3, x4] S = z_ev (z_F zT56) 7 zP56_61 [x1, x2, x3, x4] S).trans (id rfl)
theorem g_x_deal_61 {x1 x2 x3 x4 : Int} {S : ZS} : g_x_deal ((1061, [x1, x2, x3, x4]), S) = (bif decide (x2 ≤ x4) then (e_bind (f_Readings_countDealt [x1] S) (fun v1 S1 => ((0, [v1]), S1))) else (e_bind (f_Readings_dealOnce [x1, x3] S) (fun v2 S2 => (g_x_deal ((1061, [x1, x2, x3, (e_wr (x4 + 1))]), S2))))) := by
  unfold g_x_deal
  refine ((z_psi_go (pc := 61)).trans (congrArg _ zE56_61)).trans ?_
  try simp only [z_psi_c, z_psi_b, z_psi_n, Nat.reduceLT, decide_true]
def zW56 : List Nat := [r_Readings_dealtFilms, r_Readings_marks_r]
theorem zK56 : z_kp 2 zW56 f_x_deal := fun L S hL hc r i j k hr => z_psi_kp (KT := [(36, 2, zW36), (37, 2, zW37), (38, 1, zW38), (68, 3, zW68), (73, 1, zW73)]) (F := z_F zT56) (W := zW56) (D := zD56) (.c zF56_36 zK36 (.c zF56_37 zK37 (.c zF56_38 zK38 (.c zF56_68 zK68 (.c zF56_73 zK73 .n))))) (z_h163 rfl) (by decide +kernel) _ hc r i j k hr

-- w_deal (86)
noncomputable def zT86 : ZT := [(56, 2, [(2, (0, 0), (0, 0)), (0, (1, 0), (0, 0)), (0, (2, 0), (0, 0))], f_x_deal)]
theorem zH86 : z_ok zT86 := .c zM56 .n
theorem zF86_56 : z_F zT86 56 = f_x_deal := id rfl
def zP86_0 : List ZO := [(11, [(56, 0), (3, 0), (0, 1), (1, 2), (3, 3), (1, 0), (2, 0)]), (0, [(3, 0)]), (0, [(0, (-900001))]), (0, [(0, (-900002))]), (0, [(0, (-900003))])]
def zC86 : ZC := [(0, 2, [some (2, (0, 0), (0, 0)), some (0, (1, 0), (0, 0)), some (0, (2, 0), (0, 0)), none])]
theorem zG86 : z_go zC86 (z_A zT86) [] 86 400 true 6 zP86_0 0 [some (2, (0, 0), (0, 0)), some (0, (1, 0), (0, 0)), some (0, (2, 0), (0, 0)), none] [] 2 = true := by decide +kernel
noncomputable def f_w_deal : ZFn := fun L S => match L with
  | [x1, x2] => (e_try (f_x_deal [x1, x2] S) (fun v1 S1 => ((0, [v1]), S1)) [(0, -900001), (1, -900002), (3, -900003)])
  | _ => ((0, []), S)
theorem zE86 {x1 x2 : Int} {S : ZS} : z_ev (z_F zT86) 6 zP86_0 [x1, x2] S = f_w_deal [x1, x2] S := id rfl
theorem zM86 : z_met 86 2 [(2, (0, 0), (0, 0)), (0, (1, 0), (0, 0)), (0, (2, 0), (0, 0))] f_w_deal := z_met_ev zH86 (fun _ _ h => absurd h List.not_mem_nil) rfl zG86 (by decide +kernel) (fun L S hn => match L, hn with
  | [x1, x2], _ => zE86)
def zW86 : List Nat := [r_Readings_dealtFilms, r_Readings_marks_r]
theorem zK86 : z_kp 2 zW86 f_w_deal := z_kp_ev (KT := [(56, 2, zW56)]) (.c zF86_56 zK56 .n) (z_h163 rfl) (by decide +kernel) (fun L S hn => match L, hn with
  | [x1, x2], _ => zE86)

-- x_checkReader (74)
def zT74 : ZT := [(72, 2, [(0, (1, 0), (0, 0)), (0, (2, 0), (0, 0))], f_x_checkNumber)]
theorem zH74 : z_ok zT74 := .c zM72 .n
theorem zF74_72 : z_F zT74 72 = f_x_checkNumber := id rfl
def zP74_0 : List ZO := [(5, [(1669, 0), (0, 0), (0, 0), (0, 0)]), (7, [(72, 0), (1, 0), (2, 0)]), (0, [])]
def zC74 : ZC := [(0, 1, [some (2, (0, 0), (0, 0)), some (0, (1, 0), (0, 0))])]
theorem zG74 : z_go zC74 (z_A zT74) [] 74 400 true 4 zP74_0 0 [some (2, (0, 0), (0, 0)), some (0, (1, 0), (0, 0))] [] 1 = true := by decide +kernel
def f_x_checkReader : ZFn := fun L S => match L with
  | [x1] => (e_bind (f_x_checkNumber [x1, (S r_Readings_readerCount 0 0 0)] S) (fun v1 S1 => ((0, []), S1)))
  | _ => ((0, []), S)
theorem zE74 {x1 : Int} {S : ZS} : z_ev (z_F zT74) 4 zP74_0 [x1] S = f_x_checkReader [x1] S := id rfl
theorem zM74 : z_met 74 1 [(2, (0, 0), (0, 0)), (0, (1, 0), (0, 0))] f_x_checkReader := z_met_ev zH74 (fun _ _ h => absurd h List.not_mem_nil) rfl zG74 (by decide +kernel) (fun L S hn => match L, hn with
  | [x1], _ => zE74)
def zW74 : List Nat := []
theorem zK74 : z_kp 1 zW74 f_x_checkReader := z_kp_ev (KT := [(72, 2, zW72)]) (.c zF74_72 zK72 .n) (z_h163 rfl) (by decide +kernel) (fun L S hn => match L, hn with
  | [x1], _ => zE74)

-- Readings_tell (39)
def zT39 : ZT := []
theorem zH39 : z_ok zT39 := .n
def zP39_0 : List ZO := [(6, [(2048, 0), (0, 0), (1, 0), (0, 0), (2, 0), (3, 0)]), (5, [(1856, 0), (0, 0), (0, 0), (2, 0)]), (4, [(0, 0), (4, 0), (0, 1)]), (6, [(1856, 0), (0, 0), (0, 0), (0, 0), (2, 0), (5, 0)]), (5, [(1920, 0), (0, 0), (0, 0), (2, 0)]), (4, [(0, 0), (6, 0), (3, 0)]), (6, [(1920, 0), (0, 0), (0, 0), (0, 0), (2, 0), (7, 0)]), (0, [])]
def zC39 : ZC := [(0, 3, [some (28, (0, 0), (0, 0)), some (0, (1, 0), (0, 0)), some (0, (2, 0), (0, 0)), some (0, (3, 0), (0, 0))])]
theorem zG39 : z_go zC39 (z_A zT39) [] 39 400 true 9 zP39_0 0 [some (28, (0, 0), (0, 0)), some (0, (1, 0), (0, 0)), some (0, (2, 0), (0, 0)), some (0, (3, 0), (0, 0))] [] 3 = true := by decide +kernel
def f_Readings_tell : ZFn := fun L S => match L with
  | [x1, x2, x3] => ((0, []), (e_upd (e_upd (e_upd S r_Readings_marks_r x1 0 x2 x3) r_Readings_toldScores 0 0 x2 (e_wr ((S r_Readings_toldScores 0 0 x2) + 1))) r_Readings_sums 0 0 x2 (e_wr ((S r_Readings_sums 0 0 x2) + x3))))
  | _ => ((0, []), S)
theorem zE39 {x1 x2 x3 : Int} {S : ZS} : z_ev (z_F zT39) 9 zP39_0 [x1, x2, x3] S = f_Readings_tell [x1, x2, x3] S := id rfl
theorem zM39 : z_met 39 3 [(28, (0, 0), (0, 0)), (0, (1, 0), (0, 0)), (0, (2, 0), (0, 0)), (0, (3, 0), (0, 0))] f_Readings_tell := z_met_ev zH39 (fun _ _ h => absurd h List.not_mem_nil) rfl zG39 (by decide +kernel) (fun L S hn => match L, hn with
  | [x1, x2, x3], _ => zE39)
def zW39 : List Nat := [r_Readings_toldScores, r_Readings_sums, r_Readings_marks_r]
theorem zK39 : z_kp 3 zW39 f_Readings_tell := z_kp_ev (KT := []) (.n) (z_h163 rfl) (by decide +kernel) (fun L S hn => match L, hn with
  | [x1, x2, x3], _ => zE39)

-- Readings_countTold (40)
def zT40 : ZT := []
theorem zH40 : z_ok zT40 := .n
def zP40_0 : List ZO := [(2, [(4, 0), (1, 0), (0, 0), (0, 0)])]
def zP40_4 : List ZO := [(5, [(1669, 0), (0, 0), (0, 0), (0, 0)]), (3, [(3, 0), (1, 0), (3, 0), (4, 0)]), (0, [(2, 0)]), (5, [(2048, 0), (1, 0), (0, 0), (3, 0)]), (3, [(2, 0), (2, 0), (5, 0), (0, 0)]), (4, [(0, 0), (3, 0), (0, 1)]), (2, [(4, 0), (1, 0), (2, 0), (6, 0)]), (4, [(0, 0), (2, 0), (0, 1)]), (4, [(0, 0), (3, 0), (0, 1)]), (2, [(4, 0), (1, 0), (6, 0), (7, 0)])]
def zD40 : ZD := [(0, 1, [some (28, (0, 0), (0, 0)), some (0, (1, 0), (0, 0)), none, none], 2, zP40_0), (4, 3, [some (28, (0, 0), (0, 0)), some (0, (1, 0), (0, 0)), some (0, (2, 0), (0, 0)), some (0, (3, 0), (0, 0))], 11, zP40_4)]
theorem zG40 : z_chk zT40 [] 40 zD40 = true := by decide +kernel
noncomputable def g_Readings_countTold (R : ZR) : ZR := z_psi (z_st (z_F zT40) zD40) R
noncomputable def f_Readings_countTold : ZFn := fun L S => g_Readings_countTold ((1000, L), S)
theorem zM40 : z_met 40 1 [(28, (0, 0), (0, 0)), (0, (1, 0), (0, 0))] f_Readings_countTold := z_met_psi zH40 (fun _ _ h => absurd h List.not_mem_nil) rfl zG40
theorem zE40_0 {x1 : Int} {S : ZS} : z_st (z_F zT40) zD40 0 [x1] S = ((1004, [x1, 0, 0]), S) := (id rfl : z_st (z_F zT40) zD40 0 [x1] S = z_ev (z_F zT40) 2 zP40_0 [x1] S).trans (id rfl)
theorem g_Readings_countTold_0 {x1 : Int} {S : ZS} : g_Readings_countTold ((1000, [x1]), S) = (g_Readings_countTold ((1004, [x1, 0, 0]), S)) := by
  unfold g_Readings_countTold
  refine ((z_psi_go (pc := 0)).trans (congrArg _ zE40_0)).trans ?_
  try simp only [z_psi_c, z_psi_b, z_psi_n, Nat.reduceLT, decide_true]
theorem zE40_4 {x1 x2 x3 : Int} {S : ZS} : z_st (z_F zT40) zD40 4 [x1, x2, x3] S = (bif decide ((S r_Readings_readerCount 0 0 0) ≤ x3) then ((0, [x2]), S) else (bif decide ((S r_Readings_marks_r x1 0 x3) < 0) then ((1004, [x1, x2, (e_wr (x3 + 1))]), S) else ((1004, [x1, (e_wr (x2 + 1)), (e_wr (x3 + 1))]), S))) := (id rfl : z_st (z_F zT40) zD40 4 [x1, x2, x3] S = z_ev (z_F zT40) 11 zP40_4 [x1, x2, x3] S).trans (id rfl)
theorem g_Readings_countTold_4 {x1 x2 x3 : Int} {S : ZS} : g_Readings_countTold ((1004, [x1, x2, x3]), S) = (bif decide ((S r_Readings_readerCount 0 0 0) ≤ x3) then ((0, [x2]), S) else (bif decide ((S r_Readings_marks_r x1 0 x3) < 0) then (g_Readings_countTold ((1004, [x1, x2, (e_wr (x3 + 1))]), S)) else (g_Readings_countTold ((1004, [x1, (e_wr (x2 + 1)), (e_wr (x3 + 1))]), S)))) := by
  unfold g_Readings_countTold
  refine ((z_psi_go (pc := 4)).trans (congrArg _ zE40_4)).trans ?_
  try simp only [z_psi_c, z_psi_b, z_psi_n, Nat.reduceLT, decide_true]
def zW40 : List Nat := []
theorem zK40 : z_kp 1 zW40 f_Readings_countTold := fun L S hL hc r i j k hr => z_psi_kp (KT := []) (F := z_F zT40) (W := zW40) (D := zD40) (.n) (z_h163 rfl) (by decide +kernel) _ hc r i j k hr

-- x_read (58)
noncomputable def zT58 : ZT := [(39, 3, [(28, (0, 0), (0, 0)), (0, (1, 0), (0, 0)), (0, (2, 0), (0, 0)), (0, (3, 0), (0, 0))], f_Readings_tell), (40, 1, [(28, (0, 0), (0, 0)), (0, (1, 0), (0, 0))], f_Readings_countTold), (68, 3, [(0, (1, 0), (0, 0)), (0, (2, 0), (0, 0)), (0, (3, 0), (0, 0))], f_x_isWithin), (73, 1, [(2, (0, 0), (0, 0)), (0, (1, 0), (0, 0))], f_x_checkFilm), (74, 1, [(2, (0, 0), (0, 0)), (0, (1, 0), (0, 0))], f_x_checkReader)]
theorem zH58 : z_ok zT58 := .c zM39 (.c zM40 (.c zM68 (.c zM73 (.c zM74 .n))))
theorem zF58_39 : z_F zT58 39 = f_Readings_tell := id rfl
theorem zF58_40 : z_F zT58 40 = f_Readings_countTold := id rfl
theorem zF58_68 : z_F zT58 68 = f_x_isWithin := id rfl
theorem zF58_73 : z_F zT58 73 = f_x_checkFilm := id rfl
theorem zF58_74 : z_F zT58 74 = f_x_checkReader := id rfl
def zP58_0 : List ZO := [(7, [(73, 0), (1, 0)]), (7, [(74, 0), (2, 0)]), (7, [(68, 0), (3, 0), (0, 0), (0, 100)]), (3, [(1, 0), (6, 0), (6, 0), (0, 0)]), (5, [(2048, 0), (1, 0), (0, 0), (2, 0)]), (3, [(0, 0), (3, 0), (7, 0), (0, (-1))]), (7, [(39, 0), (1, 0), (2, 0), (3, 0)]), (7, [(40, 0), (1, 0)]), (0, [(9, 0)]), (1, [(3, 0)]), (1, [(1, 0)])]
def zC58 : ZC := [(0, 3, [some (2, (0, 0), (0, 0)), some (0, (1, 0), (0, 0)), some (0, (2, 0), (0, 0)), some (0, (3, 0), (0, 0))])]
theorem zG58 : z_go zC58 (z_A zT58) [] 58 400 true 12 zP58_0 0 [some (2, (0, 0), (0, 0)), some (0, (1, 0), (0, 0)), some (0, (2, 0), (0, 0)), some (0, (3, 0), (0, 0))] [] 3 = true := by decide +kernel
noncomputable def f_x_read : ZFn := fun L S => match L with
  | [x1, x2, x3] => (e_bind (f_x_checkFilm [x1] S) (fun v1 S1 => (e_bind (f_x_checkReader [x2] S1) (fun v2 S2 => (bif !decide ((v_x_isWithin x3 0 100 S2) = 0) then (bif decide ((S2 r_Readings_marks_r x1 0 x2) = (-1)) then (e_bind (f_Readings_tell [x1, x2, x3] S2) (fun v3 S3 => (e_bind (f_Readings_countTold [x1] S3) (fun v4 S4 => ((0, [v4]), S4))))) else ((4, []), S2)) else ((2, []), S2))))))
  | _ => ((0, []), S)
theorem zE58 {x1 x2 x3 : Int} {S : ZS} : z_ev (z_F zT58) 12 zP58_0 [x1, x2, x3] S = f_x_read [x1, x2, x3] S := id rfl
theorem zM58 : z_met 58 3 [(2, (0, 0), (0, 0)), (0, (1, 0), (0, 0)), (0, (2, 0), (0, 0)), (0, (3, 0), (0, 0))] f_x_read := z_met_ev zH58 (fun _ _ h => absurd h List.not_mem_nil) rfl zG58 (by decide +kernel) (fun L S hn => match L, hn with
  | [x1, x2, x3], _ => zE58)
def zW58 : List Nat := [r_Readings_toldScores, r_Readings_sums, r_Readings_marks_r]
theorem zK58 : z_kp 3 zW58 f_x_read := z_kp_ev (KT := [(39, 3, zW39), (40, 1, zW40), (68, 3, zW68), (73, 1, zW73), (74, 1, zW74)]) (.c zF58_39 zK39 (.c zF58_40 zK40 (.c zF58_68 zK68 (.c zF58_73 zK73 (.c zF58_74 zK74 .n))))) (z_h163 rfl) (by decide +kernel) (fun L S hn => match L, hn with
  | [x1, x2, x3], _ => zE58)

-- w_read (87)
noncomputable def zT87 : ZT := [(58, 3, [(2, (0, 0), (0, 0)), (0, (1, 0), (0, 0)), (0, (2, 0), (0, 0)), (0, (3, 0), (0, 0))], f_x_read)]
theorem zH87 : z_ok zT87 := .c zM58 .n
theorem zF87_58 : z_F zT87 58 = f_x_read := id rfl
def zP87_0 : List ZO := [(11, [(58, 0), (3, 0), (0, 1), (1, 2), (3, 3), (1, 0), (2, 0), (3, 0)]), (0, [(4, 0)]), (0, [(0, (-900001))]), (0, [(0, (-900002))]), (0, [(0, (-900003))])]
def zC87 : ZC := [(0, 3, [some (2, (0, 0), (0, 0)), some (0, (1, 0), (0, 0)), some (0, (2, 0), (0, 0)), some (0, (3, 0), (0, 0)), none])]
theorem zG87 : z_go zC87 (z_A zT87) [] 87 400 true 6 zP87_0 0 [some (2, (0, 0), (0, 0)), some (0, (1, 0), (0, 0)), some (0, (2, 0), (0, 0)), some (0, (3, 0), (0, 0)), none] [] 3 = true := by decide +kernel
noncomputable def f_w_read : ZFn := fun L S => match L with
  | [x1, x2, x3] => (e_try (f_x_read [x1, x2, x3] S) (fun v1 S1 => ((0, [v1]), S1)) [(0, -900001), (1, -900002), (3, -900003)])
  | _ => ((0, []), S)
theorem zE87 {x1 x2 x3 : Int} {S : ZS} : z_ev (z_F zT87) 6 zP87_0 [x1, x2, x3] S = f_w_read [x1, x2, x3] S := id rfl
theorem zM87 : z_met 87 3 [(2, (0, 0), (0, 0)), (0, (1, 0), (0, 0)), (0, (2, 0), (0, 0)), (0, (3, 0), (0, 0))] f_w_read := z_met_ev zH87 (fun _ _ h => absurd h List.not_mem_nil) rfl zG87 (by decide +kernel) (fun L S hn => match L, hn with
  | [x1, x2, x3], _ => zE87)
def zW87 : List Nat := [r_Readings_toldScores, r_Readings_sums, r_Readings_marks_r]
theorem zK87 : z_kp 3 zW87 f_w_read := z_kp_ev (KT := [(58, 3, zW58)]) (.c zF87_58 zK58 .n) (z_h163 rfl) (by decide +kernel) (fun L S hn => match L, hn with
  | [x1, x2, x3], _ => zE87)

-- Readings_evenScore (41)
def zT41 : ZT := []
theorem zH41 : z_ok zT41 := .n
def zP41_0 : List ZO := [(5, [(1856, 0), (0, 0), (0, 0), (2, 0)]), (3, [(1, 0), (7, 0), (3, 0), (0, 0)]), (5, [(1920, 0), (0, 0), (0, 0), (2, 0)]), (5, [(1856, 0), (0, 0), (0, 0), (2, 0)]), (4, [(3, 0), (4, 0), (5, 0)]), (5, [(2048, 0), (1, 0), (0, 0), (2, 0)]), (4, [(1, 0), (7, 0), (6, 0)]), (4, [(0, 0), (8, 0), (0, 50)]), (0, [(9, 0)]), (5, [(2048, 0), (1, 0), (0, 0), (2, 0)]), (4, [(1, 0), (4, 0), (0, 0)]), (4, [(0, 0), (5, 0), (0, 50)]), (0, [(6, 0)])]
def zC41 : ZC := [(0, 2, [some (28, (0, 0), (0, 0)), some (0, (1, 0), (0, 0)), some (0, (2, 0), (0, 0)), none])]
theorem zG41 : z_go zC41 (z_A zT41) [] 41 400 true 14 zP41_0 0 [some (28, (0, 0), (0, 0)), some (0, (1, 0), (0, 0)), some (0, (2, 0), (0, 0)), none] [] 2 = true := by decide +kernel
def v_Readings_evenScore (x1 x2 : Int) (S : ZS) : Int := (bif !decide ((S r_Readings_toldScores 0 0 x2) = 0) then (e_wr ((e_wr ((S r_Readings_marks_r x1 0 x2) - (e_div (S r_Readings_sums 0 0 x2) (S r_Readings_toldScores 0 0 x2)))) + 50)) else (e_wr ((e_wr ((S r_Readings_marks_r x1 0 x2) - 0)) + 50)))
def f_Readings_evenScore : ZFn := fun L S => match L with
  | [x1, x2] => ((0, [v_Readings_evenScore x1 x2 S]), S)
  | _ => ((0, []), S)
theorem pF_Readings_evenScore {x1 x2 : Int} {S : ZS} : f_Readings_evenScore [x1, x2] S = ((0, [v_Readings_evenScore x1 x2 S]), S) := id rfl
theorem zE41a {x1 x2 : Int} {S : ZS} : z_ev (z_F zT41) 14 zP41_0 [x1, x2] S = (bif !decide ((S r_Readings_toldScores 0 0 x2) = 0) then ((0, [(e_wr ((e_wr ((S r_Readings_marks_r x1 0 x2) - (e_div (S r_Readings_sums 0 0 x2) (S r_Readings_toldScores 0 0 x2)))) + 50))]), S) else ((0, [(e_wr ((e_wr ((S r_Readings_marks_r x1 0 x2) - 0)) + 50))]), S)) := by
  simp -implicitDefEqProofs only [zP41_0, Nat.zero_add, Nat.reduceAdd, Nat.reduceBEq, Int.reduceToNat, z_e0, z_e1, z_e2, z_e3, z_e4, z_e5, z_e6, z_e7, z_e8, z_e11, z_e13, o_v0, o_v1, o_v2, List.cons_append, List.nil_append, List.map_cons, List.map_nil, List.drop_succ_cons, List.drop_zero, List.take_succ_cons, List.take_zero, e_c0, e_c1, e_c2, e_c3, e_c4, e_c5, e_b0, e_b1, e_b2, e_b3, e_b4, e_b5, e_b6, e_b7, e_b8, e_b9, e_b10, e_b11, e_b12, e_b13, e_b14, e_b15, e_b16, e_b17, e_n0, e_bnd, e_un]
  try rfl
theorem zE41 {x1 x2 : Int} {S : ZS} : z_ev (z_F zT41) 14 zP41_0 [x1, x2] S = f_Readings_evenScore [x1, x2] S := zE41a.trans (by
  simp only [z_cv]
  rfl)
theorem zM41 : z_met 41 2 [(28, (0, 0), (0, 0)), (0, (1, 0), (0, 0)), (0, (2, 0), (0, 0))] f_Readings_evenScore := z_met_ev zH41 (fun _ _ h => absurd h List.not_mem_nil) rfl zG41 (by decide +kernel) (fun L S hn => match L, hn with
  | [x1, x2], _ => zE41)
def zW41 : List Nat := []
theorem zK41 : z_kp 2 zW41 f_Readings_evenScore := z_kp_ev (KT := []) (.n) (z_h163 rfl) (by decide +kernel) (fun L S hn => match L, hn with
  | [x1, x2], _ => zE41)

-- x_even (59)
def zT59 : ZT := [(41, 2, [(28, (0, 0), (0, 0)), (0, (1, 0), (0, 0)), (0, (2, 0), (0, 0))], f_Readings_evenScore), (73, 1, [(2, (0, 0), (0, 0)), (0, (1, 0), (0, 0))], f_x_checkFilm), (74, 1, [(2, (0, 0), (0, 0)), (0, (1, 0), (0, 0))], f_x_checkReader)]
theorem zH59 : z_ok zT59 := .c zM41 (.c zM73 (.c zM74 .n))
theorem zF59_41 : z_F zT59 41 = f_Readings_evenScore := id rfl
theorem zF59_73 : z_F zT59 73 = f_x_checkFilm := id rfl
theorem zF59_74 : z_F zT59 74 = f_x_checkReader := id rfl
def zP59_0 : List ZO := [(7, [(73, 0), (1, 0)]), (7, [(74, 0), (2, 0)]), (5, [(2048, 0), (1, 0), (0, 0), (2, 0)]), (3, [(3, 0), (2, 0), (5, 0), (0, 0)]), (7, [(41, 0), (1, 0), (2, 0)]), (0, [(6, 0)]), (1, [(4, 0)])]
def zC59 : ZC := [(0, 2, [some (2, (0, 0), (0, 0)), some (0, (1, 0), (0, 0)), some (0, (2, 0), (0, 0))])]
theorem zG59 : z_go zC59 (z_A zT59) [] 59 400 true 8 zP59_0 0 [some (2, (0, 0), (0, 0)), some (0, (1, 0), (0, 0)), some (0, (2, 0), (0, 0))] [] 2 = true := by decide +kernel
def f_x_even : ZFn := fun L S => match L with
  | [x1, x2] => (e_bind (f_x_checkFilm [x1] S) (fun v1 S1 => (e_bind (f_x_checkReader [x2] S1) (fun v2 S2 => (bif decide (0 ≤ (S2 r_Readings_marks_r x1 0 x2)) then ((0, [(v_Readings_evenScore x1 x2 S2)]), S2) else ((5, []), S2))))))
  | _ => ((0, []), S)
theorem zE59 {x1 x2 : Int} {S : ZS} : z_ev (z_F zT59) 8 zP59_0 [x1, x2] S = f_x_even [x1, x2] S := id rfl
theorem zM59 : z_met 59 2 [(2, (0, 0), (0, 0)), (0, (1, 0), (0, 0)), (0, (2, 0), (0, 0))] f_x_even := z_met_ev zH59 (fun _ _ h => absurd h List.not_mem_nil) rfl zG59 (by decide +kernel) (fun L S hn => match L, hn with
  | [x1, x2], _ => zE59)
def zW59 : List Nat := []
theorem zK59 : z_kp 2 zW59 f_x_even := z_kp_ev (KT := [(41, 2, zW41), (73, 1, zW73), (74, 1, zW74)]) (.c zF59_41 zK41 (.c zF59_73 zK73 (.c zF59_74 zK74 .n))) (z_h163 rfl) (by decide +kernel) (fun L S hn => match L, hn with
  | [x1, x2], _ => zE59)

-- w_even (88)
def zT88 : ZT := [(59, 2, [(2, (0, 0), (0, 0)), (0, (1, 0), (0, 0)), (0, (2, 0), (0, 0))], f_x_even)]
theorem zH88 : z_ok zT88 := .c zM59 .n
theorem zF88_59 : z_F zT88 59 = f_x_even := id rfl
def zP88_0 : List ZO := [(11, [(59, 0), (2, 0), (0, 1), (4, 2), (1, 0), (2, 0)]), (0, [(3, 0)]), (0, [(0, (-900001))]), (0, [(0, (-900002))])]
def zC88 : ZC := [(0, 2, [some (2, (0, 0), (0, 0)), some (0, (1, 0), (0, 0)), some (0, (2, 0), (0, 0)), none])]
theorem zG88 : z_go zC88 (z_A zT88) [] 88 400 true 5 zP88_0 0 [some (2, (0, 0), (0, 0)), some (0, (1, 0), (0, 0)), some (0, (2, 0), (0, 0)), none] [] 2 = true := by decide +kernel
def f_w_even : ZFn := fun L S => match L with
  | [x1, x2] => (e_try (f_x_even [x1, x2] S) (fun v1 S1 => ((0, [v1]), S1)) [(0, -900001), (4, -900002)])
  | _ => ((0, []), S)
theorem zE88 {x1 x2 : Int} {S : ZS} : z_ev (z_F zT88) 5 zP88_0 [x1, x2] S = f_w_even [x1, x2] S := id rfl
theorem zM88 : z_met 88 2 [(2, (0, 0), (0, 0)), (0, (1, 0), (0, 0)), (0, (2, 0), (0, 0))] f_w_even := z_met_ev zH88 (fun _ _ h => absurd h List.not_mem_nil) rfl zG88 (by decide +kernel) (fun L S hn => match L, hn with
  | [x1, x2], _ => zE88)
def zW88 : List Nat := []
theorem zK88 : z_kp 2 zW88 f_w_even := z_kp_ev (KT := [(59, 2, zW59)]) (.c zF88_59 zK59 .n) (z_h163 rfl) (by decide +kernel) (fun L S hn => match L, hn with
  | [x1, x2], _ => zE88)

-- Readings_meanOfEven (42)
def zT42 : ZT := [(41, 2, [(28, (0, 0), (0, 0)), (0, (1, 0), (0, 0)), (0, (2, 0), (0, 0))], f_Readings_evenScore)]
theorem zH42 : z_ok zT42 := .c zM41 .n
theorem zF42_41 : z_F zT42 41 = f_Readings_evenScore := id rfl
def zP42_0 : List ZO := [(2, [(7, 0), (1, 0), (0, 0), (0, 0), (0, 0)])]
def zP42_7 : List ZO := [(5, [(1669, 0), (0, 0), (0, 0), (0, 0)]), (3, [(3, 0), (4, 0), (4, 0), (5, 0)]), (3, [(1, 0), (2, 0), (3, 0), (0, 0)]), (4, [(3, 0), (2, 0), (3, 0)]), (0, [(6, 0)]), (0, [(0, 0)]), (5, [(2048, 0), (1, 0), (0, 0), (4, 0)]), (3, [(2, 0), (2, 0), (6, 0), (0, 0)]), (4, [(0, 0), (4, 0), (0, 1)]), (2, [(7, 0), (1, 0), (2, 0), (3, 0), (7, 0)]), (7, [(41, 0), (1, 0), (4, 0)]), (4, [(0, 0), (2, 0), (7, 0)]), (4, [(0, 0), (3, 0), (0, 1)]), (4, [(0, 0), (4, 0), (0, 1)]), (2, [(7, 0), (1, 0), (8, 0), (9, 0), (10, 0)])]
def zD42 : ZD := [(0, 1, [some (28, (0, 0), (0, 0)), some (0, (1, 0), (0, 0)), none, none, none], 2, zP42_0), (7, 4, [some (28, (0, 0), (0, 0)), some (0, (1, 0), (0, 0)), some (0, (2, 0), (0, 0)), some (0, (3, 0), (0, 0)), some (0, (4, 0), (0, 0))], 16, zP42_7)]
theorem zG42 : z_chk zT42 [] 42 zD42 = true := by decide +kernel
noncomputable def g_Readings_meanOfEven (R : ZR) : ZR := z_psi (z_st (z_F zT42) zD42) R
noncomputable def f_Readings_meanOfEven : ZFn := fun L S => g_Readings_meanOfEven ((1000, L), S)
theorem zM42 : z_met 42 1 [(28, (0, 0), (0, 0)), (0, (1, 0), (0, 0))] f_Readings_meanOfEven := z_met_psi zH42 (fun _ _ h => absurd h List.not_mem_nil) rfl zG42
theorem zE42_0 {x1 : Int} {S : ZS} : z_st (z_F zT42) zD42 0 [x1] S = ((1007, [x1, 0, 0, 0]), S) := (id rfl : z_st (z_F zT42) zD42 0 [x1] S = z_ev (z_F zT42) 2 zP42_0 [x1] S).trans (id rfl)
theorem g_Readings_meanOfEven_0 {x1 : Int} {S : ZS} : g_Readings_meanOfEven ((1000, [x1]), S) = (g_Readings_meanOfEven ((1007, [x1, 0, 0, 0]), S)) := by
  unfold g_Readings_meanOfEven
  refine ((z_psi_go (pc := 0)).trans (congrArg _ zE42_0)).trans ?_
  try simp only [z_psi_c, z_psi_b, z_psi_n, Nat.reduceLT, decide_true]
theorem zE42_7 {x1 x2 x3 x4 : Int} {S : ZS} : z_st (z_F zT42) zD42 7 [x1, x2, x3, x4] S = (bif decide ((S r_Readings_readerCount 0 0 0) ≤ x4) then (bif !decide (x3 = 0) then ((0, [(e_div x2 x3)]), S) else ((0, [0]), S)) else (bif decide ((S r_Readings_marks_r x1 0 x4) < 0) then ((1007, [x1, x2, x3, (e_wr (x4 + 1))]), S) else ((1007, [x1, (e_wr (x2 + (v_Readings_evenScore x1 x4 S))), (e_wr (x3 + 1)), (e_wr (x4 + 1))]), S))) := (id rfl : z_st (z_F zT42) zD42 7 [x1, x2, x3, x4] S = z_ev (z_F zT42) 16 zP42_7 [x1, x2, x3, x4] S).trans (by
  simp -implicitDefEqProofs only [zP42_7, zF42_41, pF_Readings_evenScore, Nat.zero_add, Nat.reduceAdd, Nat.reduceBEq, Int.reduceToNat, z_e0, z_e1, z_e2, z_e3, z_e4, z_e5, z_e6, z_e7, z_e8, z_e11, z_e13, o_v0, o_v1, o_v2, List.cons_append, List.nil_append, List.map_cons, List.map_nil, List.drop_succ_cons, List.drop_zero, List.take_succ_cons, List.take_zero, e_c0, e_c1, e_c2, e_c3, e_c4, e_c5, e_b0, e_b1, e_b2, e_b3, e_b4, e_b5, e_b6, e_b7, e_b8, e_b9, e_b10, e_b11, e_b12, e_b13, e_b14, e_b15, e_b16, e_b17, e_n0, e_bnd, e_un]
  try rfl)
theorem g_Readings_meanOfEven_7 {x1 x2 x3 x4 : Int} {S : ZS} : g_Readings_meanOfEven ((1007, [x1, x2, x3, x4]), S) = (bif decide ((S r_Readings_readerCount 0 0 0) ≤ x4) then (bif !decide (x3 = 0) then ((0, [(e_div x2 x3)]), S) else ((0, [0]), S)) else (bif decide ((S r_Readings_marks_r x1 0 x4) < 0) then (g_Readings_meanOfEven ((1007, [x1, x2, x3, (e_wr (x4 + 1))]), S)) else (g_Readings_meanOfEven ((1007, [x1, (e_wr (x2 + (v_Readings_evenScore x1 x4 S))), (e_wr (x3 + 1)), (e_wr (x4 + 1))]), S)))) := by
  unfold g_Readings_meanOfEven
  refine ((z_psi_go (pc := 7)).trans (congrArg _ zE42_7)).trans ?_
  try simp only [z_psi_c, z_psi_b, z_psi_n, Nat.reduceLT, decide_true]
def zW42 : List Nat := []
theorem zK42 : z_kp 1 zW42 f_Readings_meanOfEven := fun L S hL hc r i j k hr => z_psi_kp (KT := [(41, 2, zW41)]) (F := z_F zT42) (W := zW42) (D := zD42) (.c zF42_41 zK41 .n) (z_h163 rfl) (by decide +kernel) _ hc r i j k hr

-- x_score (60)
noncomputable def zT60 : ZT := [(40, 1, [(28, (0, 0), (0, 0)), (0, (1, 0), (0, 0))], f_Readings_countTold), (42, 1, [(28, (0, 0), (0, 0)), (0, (1, 0), (0, 0))], f_Readings_meanOfEven), (73, 1, [(2, (0, 0), (0, 0)), (0, (1, 0), (0, 0))], f_x_checkFilm)]
theorem zH60 : z_ok zT60 := .c zM40 (.c zM42 (.c zM73 .n))
theorem zF60_40 : z_F zT60 40 = f_Readings_countTold := id rfl
theorem zF60_42 : z_F zT60 42 = f_Readings_meanOfEven := id rfl
theorem zF60_73 : z_F zT60 73 = f_x_checkFilm := id rfl
def zP60_0 : List ZO := [(7, [(73, 0), (1, 0)]), (7, [(40, 0), (1, 0)]), (3, [(1, 0), (2, 0), (3, 0), (0, 0)]), (7, [(42, 0), (1, 0)]), (0, [(4, 0)]), (1, [(4, 0)])]
def zC60 : ZC := [(0, 1, [some (2, (0, 0), (0, 0)), some (0, (1, 0), (0, 0))])]
theorem zG60 : z_go zC60 (z_A zT60) [] 60 400 true 7 zP60_0 0 [some (2, (0, 0), (0, 0)), some (0, (1, 0), (0, 0))] [] 1 = true := by decide +kernel
noncomputable def f_x_score : ZFn := fun L S => match L with
  | [x1] => (e_bind (f_x_checkFilm [x1] S) (fun v1 S1 => (e_bind (f_Readings_countTold [x1] S1) (fun v2 S2 => (bif !decide (v2 = 0) then (e_bind (f_Readings_meanOfEven [x1] S2) (fun v3 S3 => ((0, [v3]), S3))) else ((5, []), S2))))))
  | _ => ((0, []), S)
theorem zE60 {x1 : Int} {S : ZS} : z_ev (z_F zT60) 7 zP60_0 [x1] S = f_x_score [x1] S := id rfl
theorem zM60 : z_met 60 1 [(2, (0, 0), (0, 0)), (0, (1, 0), (0, 0))] f_x_score := z_met_ev zH60 (fun _ _ h => absurd h List.not_mem_nil) rfl zG60 (by decide +kernel) (fun L S hn => match L, hn with
  | [x1], _ => zE60)
def zW60 : List Nat := []
theorem zK60 : z_kp 1 zW60 f_x_score := z_kp_ev (KT := [(40, 1, zW40), (42, 1, zW42), (73, 1, zW73)]) (.c zF60_40 zK40 (.c zF60_42 zK42 (.c zF60_73 zK73 .n))) (z_h163 rfl) (by decide +kernel) (fun L S hn => match L, hn with
  | [x1], _ => zE60)

-- w_score (89)
noncomputable def zT89 : ZT := [(60, 1, [(2, (0, 0), (0, 0)), (0, (1, 0), (0, 0))], f_x_score)]
theorem zH89 : z_ok zT89 := .c zM60 .n
theorem zF89_60 : z_F zT89 60 = f_x_score := id rfl
def zP89_0 : List ZO := [(11, [(60, 0), (2, 0), (0, 1), (4, 2), (1, 0)]), (0, [(2, 0)]), (0, [(0, (-900001))]), (0, [(0, (-900002))])]
def zC89 : ZC := [(0, 1, [some (2, (0, 0), (0, 0)), some (0, (1, 0), (0, 0)), none])]
theorem zG89 : z_go zC89 (z_A zT89) [] 89 400 true 5 zP89_0 0 [some (2, (0, 0), (0, 0)), some (0, (1, 0), (0, 0)), none] [] 1 = true := by decide +kernel
noncomputable def f_w_score : ZFn := fun L S => match L with
  | [x1] => (e_try (f_x_score [x1] S) (fun v1 S1 => ((0, [v1]), S1)) [(0, -900001), (4, -900002)])
  | _ => ((0, []), S)
theorem zE89 {x1 : Int} {S : ZS} : z_ev (z_F zT89) 5 zP89_0 [x1] S = f_w_score [x1] S := id rfl
theorem zM89 : z_met 89 1 [(2, (0, 0), (0, 0)), (0, (1, 0), (0, 0))] f_w_score := z_met_ev zH89 (fun _ _ h => absurd h List.not_mem_nil) rfl zG89 (by decide +kernel) (fun L S hn => match L, hn with
  | [x1], _ => zE89)
def zW89 : List Nat := []
theorem zK89 : z_kp 1 zW89 f_w_score := z_kp_ev (KT := [(60, 1, zW60)]) (.c zF89_60 zK60 .n) (z_h163 rfl) (by decide +kernel) (fun L S hn => match L, hn with
  | [x1], _ => zE89)

-- Film_showElsewhere (24)
def zT24 : ZT := []
theorem zH24 : z_ok zT24 := .n
def zP24_0 : List ZO := [(3, [(1, 0), (9, 0), (2, 0), (0, 97)]), (3, [(1, 0), (4, 0), (2, 0), (0, 108)]), (5, [(197, 0), (1, 0), (0, 0), (0, 0)]), (4, [(7, 0), (3, 0), (0, 0)]), (6, [(197, 0), (0, 0), (1, 0), (0, 0), (0, 0), (4, 0)]), (0, []), (5, [(197, 0), (1, 0), (0, 0), (0, 0)]), (4, [(7, 0), (3, 0), (0, 1)]), (6, [(197, 0), (0, 0), (1, 0), (0, 0), (0, 0), (4, 0)]), (0, []), (5, [(197, 0), (1, 0), (0, 0), (0, 0)]), (4, [(7, 0), (3, 0), (0, 2)]), (6, [(197, 0), (0, 0), (1, 0), (0, 0), (0, 0), (4, 0)]), (0, [])]
def zC24 : ZC := [(0, 2, [some (5, (1, 0), (0, 0)), some (0, (2, 0), (0, 0)), none])]
theorem zG24 : z_go zC24 (z_A zT24) [] 24 400 true 15 zP24_0 0 [some (5, (1, 0), (0, 0)), some (0, (2, 0), (0, 0)), none] [] 2 = true := by decide +kernel
def f_Film_showElsewhere : ZFn := fun L S => match L with
  | [x1, x2] => (bif !decide (x2 = 97) then (bif !decide (x2 = 108) then ((0, []), (e_upd S r_Film_stillIs x1 0 0 (if 0 < (S r_Film_stillIs x1 0 0) then 0 else (S r_Film_stillIs x1 0 0)))) else ((0, []), (e_upd S r_Film_stillIs x1 0 0 (if 1 < (S r_Film_stillIs x1 0 0) then 1 else (S r_Film_stillIs x1 0 0))))) else ((0, []), (e_upd S r_Film_stillIs x1 0 0 (if 2 < (S r_Film_stillIs x1 0 0) then 2 else (S r_Film_stillIs x1 0 0)))))
  | _ => ((0, []), S)
theorem zE24 {x1 x2 : Int} {S : ZS} : z_ev (z_F zT24) 15 zP24_0 [x1, x2] S = f_Film_showElsewhere [x1, x2] S := by
  simp -implicitDefEqProofs only [zP24_0, Nat.zero_add, Nat.reduceAdd, Nat.reduceBEq, Int.reduceToNat, z_e0, z_e1, z_e2, z_e3, z_e4, z_e5, z_e6, z_e7, z_e8, z_e11, z_e13, o_v0, o_v1, o_v2, List.cons_append, List.nil_append, List.map_cons, List.map_nil, List.drop_succ_cons, List.drop_zero, List.take_succ_cons, List.take_zero, e_c0, e_c1, e_c2, e_c3, e_c4, e_c5, e_b0, e_b1, e_b2, e_b3, e_b4, e_b5, e_b6, e_b7, e_b8, e_b9, e_b10, e_b11, e_b12, e_b13, e_b14, e_b15, e_b16, e_b17, e_n0, e_bnd, e_un]
  try rfl
theorem zM24 : z_met 24 2 [(5, (1, 0), (0, 0)), (0, (2, 0), (0, 0))] f_Film_showElsewhere := z_met_ev zH24 (fun _ _ h => absurd h List.not_mem_nil) rfl zG24 (by decide +kernel) (fun L S hn => match L, hn with
  | [x1, x2], _ => zE24)
def zW24 : List Nat := [r_Film_stillIs]
theorem zK24 : z_kp 2 zW24 f_Film_showElsewhere := z_kp_ev (KT := []) (.n) (z_h163 rfl) (by decide +kernel) (fun L S hn => match L, hn with
  | [x1, x2], _ => zE24)
