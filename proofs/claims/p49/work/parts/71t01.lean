/-! What the methods do, by program (wip/s/sgen.py), 1 -/
-- x_isForm (139)
def zT139 : ZT := []
theorem zH139 : z_ok zT139 := .n
def zP139_0 : List ZO := [(3, [(0, 0), (1, 0), (1, 0), (0, 102)]), (0, [(0, 1)]), (3, [(0, 0), (1, 0), (1, 0), (0, 115)]), (0, [(0, 1)]), (3, [(1, 0), (1, 0), (1, 0), (0, 100)]), (0, [(0, 0)]), (0, [(0, 1)])]
def zC139 : ZC := [(0, 1, [some (0, (1, 0), (0, 0))])]
theorem zG139 : z_go zC139 (z_A zT139) [] 139 400 true 8 zP139_0 0 [some (0, (1, 0), (0, 0))] [] 1 = true := by decide +kernel
def v_x_isForm (x1 : Int) (S : ZS) : Int := (bif decide (x1 = 102) then 1 else (bif decide (x1 = 115) then 1 else (bif !decide (x1 = 100) then 0 else 1)))
def f_x_isForm : ZFn := fun L S => match L with
  | [x1] => ((0, [v_x_isForm x1 S]), S)
  | _ => ((0, []), S)
theorem pF_x_isForm {x1 : Int} {S : ZS} : f_x_isForm [x1] S = ((0, [v_x_isForm x1 S]), S) := id rfl
theorem zE139a {x1 : Int} {S : ZS} : z_ev (z_F zT139) 8 zP139_0 [x1] S = (bif decide (x1 = 102) then ((0, [1]), S) else (bif decide (x1 = 115) then ((0, [1]), S) else (bif !decide (x1 = 100) then ((0, [0]), S) else ((0, [1]), S)))) := id rfl
theorem zE139 {x1 : Int} {S : ZS} : z_ev (z_F zT139) 8 zP139_0 [x1] S = f_x_isForm [x1] S := zE139a.trans (by
  simp only [z_cv]
  rfl)
theorem zM139 : z_met 139 1 [(0, (1, 0), (0, 0))] f_x_isForm := z_met_ev zH139 (fun _ _ h => absurd h List.not_mem_nil) rfl zG139 (by decide +kernel) (fun L S hn => match L, hn with
  | [x1], _ => zE139)
def zW139 : List Nat := []
theorem zK139 : z_kp 1 zW139 f_x_isForm := z_kp_ev (KT := []) (.n) (z_h163 rfl) (by decide +kernel) (fun L S hn => match L, hn with
  | [x1], _ => zE139)

-- x_isWithin (138)
def zT138 : ZT := []
theorem zH138 : z_ok zT138 := .n
def zP138_0 : List ZO := [(3, [(2, 0), (1, 0), (1, 0), (2, 0)]), (0, [(0, 0)]), (3, [(4, 0), (1, 0), (1, 0), (3, 0)]), (0, [(0, 0)]), (0, [(0, 1)])]
def zC138 : ZC := [(0, 3, [some (0, (1, 0), (0, 0)), some (0, (2, 0), (0, 0)), some (0, (3, 0), (0, 0))])]
theorem zG138 : z_go zC138 (z_A zT138) [] 138 400 true 6 zP138_0 0 [some (0, (1, 0), (0, 0)), some (0, (2, 0), (0, 0)), some (0, (3, 0), (0, 0))] [] 3 = true := by decide +kernel
def v_x_isWithin (x1 x2 x3 : Int) (S : ZS) : Int := (bif decide (x1 < x2) then 0 else (bif decide (x3 < x1) then 0 else 1))
def f_x_isWithin : ZFn := fun L S => match L with
  | [x1, x2, x3] => ((0, [v_x_isWithin x1 x2 x3 S]), S)
  | _ => ((0, []), S)
theorem pF_x_isWithin {x1 x2 x3 : Int} {S : ZS} : f_x_isWithin [x1, x2, x3] S = ((0, [v_x_isWithin x1 x2 x3 S]), S) := id rfl
theorem zE138a {x1 x2 x3 : Int} {S : ZS} : z_ev (z_F zT138) 6 zP138_0 [x1, x2, x3] S = (bif decide (x1 < x2) then ((0, [0]), S) else (bif decide (x3 < x1) then ((0, [0]), S) else ((0, [1]), S))) := id rfl
theorem zE138 {x1 x2 x3 : Int} {S : ZS} : z_ev (z_F zT138) 6 zP138_0 [x1, x2, x3] S = f_x_isWithin [x1, x2, x3] S := zE138a.trans (by
  simp only [z_cv]
  rfl)
theorem zM138 : z_met 138 3 [(0, (1, 0), (0, 0)), (0, (2, 0), (0, 0)), (0, (3, 0), (0, 0))] f_x_isWithin := z_met_ev zH138 (fun _ _ h => absurd h List.not_mem_nil) rfl zG138 (by decide +kernel) (fun L S hn => match L, hn with
  | [x1, x2, x3], _ => zE138)
def zW138 : List Nat := []
theorem zK138 : z_kp 3 zW138 f_x_isWithin := z_kp_ev (KT := []) (.n) (z_h163 rfl) (by decide +kernel) (fun L S hn => match L, hn with
  | [x1, x2, x3], _ => zE138)

-- Film_begin (24)
def zT24 : ZT := []
theorem zH24 : z_ok zT24 := .n
def zP24_0 : List ZO := [(6, [(192, 0), (0, 0), (1, 0), (0, 0), (0, 0), (2, 0)]), (6, [(193, 0), (0, 0), (1, 0), (0, 0), (0, 0), (3, 0)]), (6, [(194, 0), (0, 0), (1, 0), (0, 0), (0, 0), (4, 0)]), (0, [])]
def zC24 : ZC := [(0, 4, [some (5, (1, 0), (0, 0)), some (0, (2, 0), (0, 0)), some (0, (3, 0), (0, 0)), some (0, (4, 0), (0, 0))])]
theorem zG24 : z_go zC24 (z_A zT24) [] 24 400 true 5 zP24_0 0 [some (5, (1, 0), (0, 0)), some (0, (2, 0), (0, 0)), some (0, (3, 0), (0, 0)), some (0, (4, 0), (0, 0))] [] 4 = true := by decide +kernel
def f_Film_begin : ZFn := fun L S => match L with
  | [x1, x2, x3, x4] => ((0, []), (e_upd (e_upd (e_upd S r_Film_form x1 0 0 x2) r_Film_minutes x1 0 0 x3) r_Film_land x1 0 0 x4))
  | _ => ((0, []), S)
theorem zE24 {x1 x2 x3 x4 : Int} {S : ZS} : z_ev (z_F zT24) 5 zP24_0 [x1, x2, x3, x4] S = f_Film_begin [x1, x2, x3, x4] S := id rfl
theorem zM24 : z_met 24 4 [(5, (1, 0), (0, 0)), (0, (2, 0), (0, 0)), (0, (3, 0), (0, 0)), (0, (4, 0), (0, 0))] f_Film_begin := z_met_ev zH24 (fun _ _ h => absurd h List.not_mem_nil) rfl zG24 (by decide +kernel) (fun L S hn => match L, hn with
  | [x1, x2, x3, x4], _ => zE24)
def zW24 : List Nat := [r_Film_form, r_Film_minutes, r_Film_land]
theorem zK24 : z_kp 4 zW24 f_Film_begin := z_kp_ev (KT := []) (.n) (z_h163 rfl) (by decide +kernel) (fun L S hn => match L, hn with
  | [x1, x2, x3, x4], _ => zE24)

-- x_film (90)
def zT90 : ZT := [(24, 4, [(5, (1, 0), (0, 0)), (0, (2, 0), (0, 0)), (0, (3, 0), (0, 0)), (0, (4, 0), (0, 0))], f_Film_begin), (138, 3, [(0, (1, 0), (0, 0)), (0, (2, 0), (0, 0)), (0, (3, 0), (0, 0))], f_x_isWithin), (139, 1, [(0, (1, 0), (0, 0))], f_x_isForm)]
theorem zH90 : z_ok zT90 := .c zM24 (.c zM138 (.c zM139 .n))
theorem zF90_24 : z_F zT90 24 = f_Film_begin := id rfl
theorem zF90_138 : z_F zT90 138 = f_x_isWithin := id rfl
theorem zF90_139 : z_F zT90 139 = f_x_isForm := id rfl
def zP90_0 : List ZO := [(7, [(139, 0), (1, 0)]), (3, [(0, 0), (1, 0), (4, 0), (0, 0)]), (1, [(1, 0)]), (7, [(138, 0), (2, 0), (0, 1), (0, 300)]), (3, [(0, 0), (1, 0), (5, 0), (0, 0)]), (1, [(1, 0)]), (7, [(138, 0), (3, 0), (0, 0), (0, 9)]), (3, [(1, 0), (11, 0), (6, 0), (0, 0)]), (5, [(4, 0), (0, 0), (0, 0), (0, 0)]), (3, [(2, 0), (8, 0), (7, 0), (0, 20)]), (5, [(4, 0), (0, 0), (0, 0), (0, 0)]), (7, [(24, 0), (8, 0), (1, 0), (2, 0), (3, 0)]), (5, [(4, 0), (0, 0), (0, 0), (0, 0)]), (4, [(0, 0), (10, 0), (0, 1)]), (6, [(4, 0), (0, 0), (0, 0), (0, 0), (0, 0), (11, 0)]), (5, [(4, 0), (0, 0), (0, 0), (0, 0)]), (4, [(1, 0), (12, 0), (0, 1)]), (0, [(13, 0)]), (1, [(2, 0)]), (1, [(1, 0)])]
def zC90 : ZC := [(0, 3, [some (2, (0, 0), (0, 0)), some (0, (1, 0), (0, 0)), some (0, (2, 0), (0, 0)), some (0, (3, 0), (0, 0))])]
theorem zG90 : z_go zC90 (z_A zT90) [] 90 400 true 21 zP90_0 0 [some (2, (0, 0), (0, 0)), some (0, (1, 0), (0, 0)), some (0, (2, 0), (0, 0)), some (0, (3, 0), (0, 0))] [] 3 = true := by decide +kernel
def f_x_film : ZFn := fun L S => match L with
  | [x1, x2, x3] => (bif decide ((v_x_isForm x1 S) = 0) then ((2, []), S) else (bif decide ((v_x_isWithin x2 1 300 S) = 0) then ((2, []), S) else (bif !decide ((v_x_isWithin x3 0 9 S) = 0) then (bif decide ((S r_x_filmCount 0 0 0) < 20) then (e_bind (f_Film_begin [(S r_x_filmCount 0 0 0), x1, x2, x3] S) (fun v1 S1 => ((0, [(e_wr (((e_upd S1 r_x_filmCount 0 0 0 (e_wr ((S1 r_x_filmCount 0 0 0) + 1))) r_x_filmCount 0 0 0) - 1))]), (e_upd S1 r_x_filmCount 0 0 0 (e_wr ((S1 r_x_filmCount 0 0 0) + 1)))))) else ((3, []), S)) else ((2, []), S))))
  | _ => ((0, []), S)
theorem zE90 {x1 x2 x3 : Int} {S : ZS} : z_ev (z_F zT90) 21 zP90_0 [x1, x2, x3] S = f_x_film [x1, x2, x3] S := by
  simp -implicitDefEqProofs only [zP90_0, zF90_24, zF90_138, zF90_139, pF_x_isWithin, pF_x_isForm, Nat.zero_add, Nat.reduceAdd, Nat.reduceBEq, Int.reduceToNat, z_e0, z_e1, z_e2, z_e3, z_e4, z_e5, z_e6, z_e7, z_e8, z_e11, z_e13, o_v0, o_v1, o_v2, List.cons_append, List.nil_append, List.map_cons, List.map_nil, List.drop_succ_cons, List.drop_zero, List.take_succ_cons, List.take_zero, e_c0, e_c1, e_c2, e_c3, e_c4, e_c5, e_b0, e_b1, e_b2, e_b3, e_b4, e_b5, e_b6, e_b7, e_b8, e_b9, e_b10, e_b11, e_b12, e_b13, e_b14, e_b15, e_b16, e_b17, e_n0, e_bnd, e_un]
  try rfl
theorem zM90 : z_met 90 3 [(2, (0, 0), (0, 0)), (0, (1, 0), (0, 0)), (0, (2, 0), (0, 0)), (0, (3, 0), (0, 0))] f_x_film := z_met_ev zH90 (fun _ _ h => absurd h List.not_mem_nil) rfl zG90 (by decide +kernel) (fun L S hn => match L, hn with
  | [x1, x2, x3], _ => zE90)
def zW90 : List Nat := [r_x_filmCount, r_Film_form, r_Film_minutes, r_Film_land]
theorem zK90 : z_kp 3 zW90 f_x_film := z_kp_ev (KT := [(24, 4, zW24), (138, 3, zW138), (139, 1, zW139)]) (.c zF90_24 zK24 (.c zF90_138 zK138 (.c zF90_139 zK139 .n))) (z_h163 rfl) (by decide +kernel) (fun L S hn => match L, hn with
  | [x1, x2, x3], _ => zE90)

-- w_film (256)
def zT256 : ZT := [(90, 3, [(2, (0, 0), (0, 0)), (0, (1, 0), (0, 0)), (0, (2, 0), (0, 0)), (0, (3, 0), (0, 0))], f_x_film)]
theorem zH256 : z_ok zT256 := .c zM90 .n
theorem zF256_90 : z_F zT256 90 = f_x_film := id rfl
def zP256_0 : List ZO := [(11, [(90, 0), (2, 0), (1, 2), (2, 3), (1, 0), (2, 0), (3, 0)]), (6, [(6976, 0), (0, 0), (0, 0), (0, 0), (0, 0), (4, 0)]), (0, [(0, 0)]), (0, [(0, 1)]), (0, [(0, 2)])]
def zC256 : ZC := [(0, 3, [some (2, (0, 0), (0, 0)), some (0, (1, 0), (0, 0)), some (0, (2, 0), (0, 0)), some (0, (3, 0), (0, 0)), some (111, (0, 0), (0, 0)), none])]
theorem zG256 : z_go zC256 (z_A zT256) [] 256 400 true 6 zP256_0 0 [some (2, (0, 0), (0, 0)), some (0, (1, 0), (0, 0)), some (0, (2, 0), (0, 0)), some (0, (3, 0), (0, 0)), some (111, (0, 0), (0, 0)), none] [] 3 = true := by decide +kernel
def f_w_film : ZFn := fun L S => match L with
  | [x1, x2, x3] => (e_try (f_x_film [x1, x2, x3] S) (fun v1 S1 => ((0, [0]), (e_upd S1 r_out 0 0 0 v1))) [(1, 1), (2, 2)])
  | _ => ((0, []), S)
theorem zE256 {x1 x2 x3 : Int} {S : ZS} : z_ev (z_F zT256) 6 zP256_0 [x1, x2, x3] S = f_w_film [x1, x2, x3] S := id rfl
theorem zM256 : z_met 256 3 [(2, (0, 0), (0, 0)), (0, (1, 0), (0, 0)), (0, (2, 0), (0, 0)), (0, (3, 0), (0, 0)), (111, (0, 0), (0, 0))] f_w_film := z_met_ev zH256 (fun _ _ h => absurd h List.not_mem_nil) rfl zG256 (by decide +kernel) (fun L S hn => match L, hn with
  | [x1, x2, x3], _ => zE256)
def zW256 : List Nat := [r_x_filmCount, r_Film_form, r_Film_minutes, r_Film_land, r_out]
theorem zK256 : z_kp 3 zW256 f_w_film := z_kp_ev (KT := [(90, 3, zW90)]) (.c zF256_90 zK90 .n) (z_h163 rfl) (by decide +kernel) (fun L S hn => match L, hn with
  | [x1, x2, x3], _ => zE256)

-- m_isForm (165)
def zT165 : ZT := []
theorem zH165 : z_ok zT165 := .n
def zP165_0 : List ZO := [(3, [(0, 0), (1, 0), (1, 0), (0, 102)]), (0, [(0, 1)]), (3, [(0, 0), (1, 0), (1, 0), (0, 115)]), (0, [(0, 1)]), (3, [(1, 0), (1, 0), (1, 0), (0, 100)]), (0, [(0, 0)]), (0, [(0, 1)])]
def zC165 : ZC := [(0, 1, [some (0, (1, 0), (0, 0))])]
theorem zG165 : z_go zC165 (z_A zT165) [] 165 400 true 8 zP165_0 0 [some (0, (1, 0), (0, 0))] [] 1 = true := by decide +kernel
def v_m_isForm (x1 : Int) (S : ZS) : Int := (bif decide (x1 = 102) then 1 else (bif decide (x1 = 115) then 1 else (bif !decide (x1 = 100) then 0 else 1)))
def f_m_isForm : ZFn := fun L S => match L with
  | [x1] => ((0, [v_m_isForm x1 S]), S)
  | _ => ((0, []), S)
theorem pF_m_isForm {x1 : Int} {S : ZS} : f_m_isForm [x1] S = ((0, [v_m_isForm x1 S]), S) := id rfl
theorem zE165a {x1 : Int} {S : ZS} : z_ev (z_F zT165) 8 zP165_0 [x1] S = (bif decide (x1 = 102) then ((0, [1]), S) else (bif decide (x1 = 115) then ((0, [1]), S) else (bif !decide (x1 = 100) then ((0, [0]), S) else ((0, [1]), S)))) := id rfl
theorem zE165 {x1 : Int} {S : ZS} : z_ev (z_F zT165) 8 zP165_0 [x1] S = f_m_isForm [x1] S := zE165a.trans (by
  simp only [z_cv]
  rfl)
theorem zM165 : z_met 165 1 [(0, (1, 0), (0, 0))] f_m_isForm := z_met_ev zH165 (fun _ _ h => absurd h List.not_mem_nil) rfl zG165 (by decide +kernel) (fun L S hn => match L, hn with
  | [x1], _ => zE165)
def zW165 : List Nat := []
theorem zK165 : z_kp 1 zW165 f_m_isForm := z_kp_ev (KT := []) (.n) (z_h163 rfl) (by decide +kernel) (fun L S hn => match L, hn with
  | [x1], _ => zE165)

-- m_isThrown (163)
def zC163 : ZC := [(0, 2, [some (52, (0, 0), (0, 0)), some (0, (1, 0), (0, 0)), some (0, (2, 0), (0, 0))])]
def zP163_0 : List ZO := [(3, [(0, 0), (2, 0), (1, 0), (0, 0)]), (6, [(3255, 0), (0, 0), (0, 0), (0, 0), (0, 0), (0, 0)]), (0, [(1, 0)]), (6, [(3255, 0), (0, 0), (0, 0), (0, 0), (0, 0), (2, 0)]), (0, [(1, 0)])]
theorem zG163 : z_go zC163 (z_A []) [] 163 400 true 6 zP163_0 0 [some (52, (0, 0), (0, 0)), some (0, (1, 0), (0, 0)), some (0, (2, 0), (0, 0))] [] 2 = true := by decide +kernel
def f_m_isThrown : ZFn := fun L S => ((0, [L.getD 0 0]), e_upd S r_m_thrown 0 0 0 (bif !decide (L.getD 0 0 = 0) then L.getD 1 0 else 0))
theorem zpI0 {w : Int} {S : ZS} : (f_m_isThrown [0, w] S).2 = e_upd S r_m_thrown 0 0 0 0 := id rfl
theorem zpI1 {w : Int} {S : ZS} : (f_m_isThrown [1, w] S).2 = e_upd S r_m_thrown 0 0 0 w := id rfl
theorem zpIc {c w : Int} {S : ZS} : (f_m_isThrown [c, w] S).2 = e_upd S r_m_thrown 0 0 0 (bif !decide (c = 0) then w else 0) := id rfl
theorem zE163 {x1 x2 : Int} {S : ZS} : z_ev (z_F []) 6 zP163_0 [x1, x2] S = f_m_isThrown [x1, x2] S := by
  show (bif decide (x1 = 0) then ((0, [x1]), e_upd S r_m_thrown 0 0 0 0) else ((0, [x1]), e_upd S r_m_thrown 0 0 0 x2)) = ((0, [x1]), e_upd S r_m_thrown 0 0 0 (bif !decide (x1 = 0) then x2 else 0))
  cases decide (x1 = 0) <;> rfl
theorem zM163 : z_met 163 2 [(52, (0, 0), (0, 0)), (0, (1, 0), (0, 0)), (0, (2, 0), (0, 0))] f_m_isThrown := z_met_ev (T := []) .n (fun _ _ h => absurd h List.not_mem_nil) rfl zG163 (by decide +kernel) (fun L S hn => match L, hn with
  | [x1, x2], _ => zE163)
def zW163 : List Nat := [r_m_thrown]
theorem zK163 : z_kp 2 zW163 f_m_isThrown := z_kp_ev (KT := []) .n (z_h163 rfl) (by decide +kernel) (fun L S hn => match L, hn with
  | [x1, x2], _ => zE163)

-- m_isIn (164)
def zT164 : ZT := []
theorem zH164 : z_ok zT164 := .n
def zP164_0 : List ZO := [(3, [(2, 0), (1, 0), (1, 0), (2, 0)]), (0, [(0, 0)]), (3, [(4, 0), (1, 0), (1, 0), (3, 0)]), (0, [(0, 0)]), (0, [(0, 1)])]
def zC164 : ZC := [(0, 3, [some (0, (1, 0), (0, 0)), some (0, (2, 0), (0, 0)), some (0, (3, 0), (0, 0))])]
theorem zG164 : z_go zC164 (z_A zT164) [] 164 400 true 6 zP164_0 0 [some (0, (1, 0), (0, 0)), some (0, (2, 0), (0, 0)), some (0, (3, 0), (0, 0))] [] 3 = true := by decide +kernel
def v_m_isIn (x1 x2 x3 : Int) (S : ZS) : Int := (bif decide (x1 < x2) then 0 else (bif decide (x3 < x1) then 0 else 1))
def f_m_isIn : ZFn := fun L S => match L with
  | [x1, x2, x3] => ((0, [v_m_isIn x1 x2 x3 S]), S)
  | _ => ((0, []), S)
theorem pF_m_isIn {x1 x2 x3 : Int} {S : ZS} : f_m_isIn [x1, x2, x3] S = ((0, [v_m_isIn x1 x2 x3 S]), S) := id rfl
theorem zE164a {x1 x2 x3 : Int} {S : ZS} : z_ev (z_F zT164) 6 zP164_0 [x1, x2, x3] S = (bif decide (x1 < x2) then ((0, [0]), S) else (bif decide (x3 < x1) then ((0, [0]), S) else ((0, [1]), S))) := id rfl
theorem zE164 {x1 x2 x3 : Int} {S : ZS} : z_ev (z_F zT164) 6 zP164_0 [x1, x2, x3] S = f_m_isIn [x1, x2, x3] S := zE164a.trans (by
  simp only [z_cv]
  rfl)
theorem zM164 : z_met 164 3 [(0, (1, 0), (0, 0)), (0, (2, 0), (0, 0)), (0, (3, 0), (0, 0))] f_m_isIn := z_met_ev zH164 (fun _ _ h => absurd h List.not_mem_nil) rfl zG164 (by decide +kernel) (fun L S hn => match L, hn with
  | [x1, x2, x3], _ => zE164)
def zW164 : List Nat := []
theorem zK164 : z_kp 3 zW164 f_m_isIn := z_kp_ev (KT := []) (.n) (z_h163 rfl) (by decide +kernel) (fun L S hn => match L, hn with
  | [x1, x2, x3], _ => zE164)

-- m_film (168)
def zT168 : ZT := [(163, 2, [(52, (0, 0), (0, 0)), (0, (1, 0), (0, 0)), (0, (2, 0), (0, 0))], f_m_isThrown), (164, 3, [(0, (1, 0), (0, 0)), (0, (2, 0), (0, 0)), (0, (3, 0), (0, 0))], f_m_isIn), (165, 1, [(0, (1, 0), (0, 0))], f_m_isForm)]
theorem zH168 : z_ok zT168 := .c zM163 (.c zM164 (.c zM165 .n))
theorem zF168_163 : z_F zT168 163 = f_m_isThrown := id rfl
theorem zF168_164 : z_F zT168 164 = f_m_isIn := id rfl
theorem zF168_165 : z_F zT168 165 = f_m_isForm := id rfl
def zP168_0 : List ZO := [(7, [(165, 0), (1, 0)]), (3, [(0, 0), (2, 0), (4, 0), (0, 0)]), (13, [(163, 0), (0, 0), (0, 1), (0, 1)]), (0, [(0, 0)]), (7, [(164, 0), (2, 0), (0, 1), (0, 300)]), (3, [(0, 0), (2, 0), (5, 0), (0, 0)]), (13, [(163, 0), (0, 0), (0, 1), (0, 1)]), (0, [(0, 0)]), (7, [(164, 0), (3, 0), (0, 0), (0, 9)]), (3, [(1, 0), (17, 0), (6, 0), (0, 0)]), (13, [(163, 0), (0, 0), (0, 0), (0, 1)]), (5, [(3244, 0), (0, 0), (0, 0), (0, 0)]), (3, [(1, 0), (12, 0), (7, 0), (0, 20)]), (13, [(163, 0), (0, 0), (0, 0), (0, 2)]), (5, [(3244, 0), (0, 0), (0, 0), (0, 0)]), (6, [(3264, 0), (2, 0), (0, 0), (0, 0), (8, 0), (1, 0)]), (5, [(3244, 0), (0, 0), (0, 0), (0, 0)]), (6, [(3328, 0), (0, 0), (0, 0), (0, 0), (9, 0), (2, 0)]), (5, [(3244, 0), (0, 0), (0, 0), (0, 0)]), (6, [(3392, 0), (0, 0), (0, 0), (0, 0), (10, 0), (3, 0)]), (5, [(3244, 0), (0, 0), (0, 0), (0, 0)]), (6, [(3456, 0), (0, 0), (0, 0), (0, 0), (11, 0), (0, 3)]), (5, [(3244, 0), (0, 0), (0, 0), (0, 0)]), (6, [(3520, 0), (0, 0), (0, 0), (0, 0), (12, 0), (0, (-1))]), (2, [(118, 0), (0, 0)]), (13, [(163, 0), (0, 0), (0, 1), (0, 2)]), (0, [(0, 0)]), (13, [(163, 0), (0, 0), (0, 1), (0, 1)]), (0, [(0, 0)])]
def zP168_118 : List ZO := [(3, [(3, 0), (6, 0), (1, 0), (0, 8)]), (5, [(3244, 0), (0, 0), (0, 0), (0, 0)]), (4, [(0, 0), (2, 0), (0, 1)]), (6, [(3244, 0), (0, 0), (0, 0), (0, 0), (0, 0), (3, 0)]), (5, [(3244, 0), (0, 0), (0, 0), (0, 0)]), (4, [(1, 0), (4, 0), (0, 1)]), (0, [(5, 0)]), (5, [(3244, 0), (0, 0), (0, 0), (0, 0)]), (6, [(4160, 0), (0, 0), (2, 0), (0, 0), (1, 0), (0, (-1))]), (4, [(0, 0), (1, 0), (0, 1)]), (2, [(118, 0), (3, 0)])]
def zD168 : ZD := [(0, 3, [some (52, (0, 0), (0, 0)), some (0, (1, 0), (0, 0)), some (0, (2, 0), (0, 0)), some (0, (3, 0), (0, 0)), none], 30, zP168_0), (118, 1, [some (52, (0, 0), (0, 0)), none, none, none, some (0, (1, 0), (0, 0))], 12, zP168_118)]
theorem zG168 : z_chk zT168 [(163, 0)] 168 zD168 = true := by decide +kernel
noncomputable def g_m_film (R : ZR) : ZR := z_psi (z_st (z_F zT168) zD168) R
noncomputable def f_m_film : ZFn := fun L S => g_m_film ((1000, L), S)
theorem zM168 : z_met 168 3 [(52, (0, 0), (0, 0)), (0, (1, 0), (0, 0)), (0, (2, 0), (0, 0)), (0, (3, 0), (0, 0))] f_m_film := z_met_psi zH168 (fun _ _ h => by rw [List.mem_singleton] at h; cases h; exact fun _ _ => rfl) rfl zG168
theorem zE168_0 {x1 x2 x3 : Int} {S : ZS} : z_st (z_F zT168) zD168 0 [x1, x2, x3] S = (bif decide ((v_m_isForm x1 S) = 0) then ((0, [0]), (e_upd S r_m_thrown 0 0 0 1)) else (bif decide ((v_m_isIn x2 1 300 S) = 0) then ((0, [0]), (e_upd S r_m_thrown 0 0 0 1)) else (bif !decide ((v_m_isIn x3 0 9 S) = 0) then (bif !decide ((S r_m_films 0 0 0) = 20) then ((1118, [0]), (e_upd (e_upd (e_upd (e_upd (e_upd (e_upd (e_upd S r_m_thrown 0 0 0 0) r_m_thrown 0 0 0 0) r_m_forms 0 0 (S r_m_films 0 0 0) (e_nar 2 x1)) r_m_minutes 0 0 (S r_m_films 0 0 0) x2) r_m_lands 0 0 (S r_m_films 0 0 0) x3) r_m_still 0 0 (S r_m_films 0 0 0) 3) r_m_sections 0 0 (S r_m_films 0 0 0) (-1))) else ((0, [0]), (e_upd (e_upd S r_m_thrown 0 0 0 0) r_m_thrown 0 0 0 2))) else ((0, [0]), (e_upd S r_m_thrown 0 0 0 1))))) := (id rfl : z_st (z_F zT168) zD168 0 [x1, x2, x3] S = z_ev (z_F zT168) 30 zP168_0 [x1, x2, x3] S).trans (by
  simp -implicitDefEqProofs only [zP168_0, zF168_163, zF168_164, zF168_165, zpI0, zpI1, zpIc, pF_m_isIn, pF_m_isForm, Nat.zero_add, Nat.reduceAdd, Nat.reduceBEq, Int.reduceToNat, z_e0, z_e1, z_e2, z_e3, z_e4, z_e5, z_e6, z_e7, z_e8, z_e11, z_e13, o_v0, o_v1, o_v2, List.cons_append, List.nil_append, List.map_cons, List.map_nil, List.drop_succ_cons, List.drop_zero, List.take_succ_cons, List.take_zero, e_c0, e_c1, e_c2, e_c3, e_c4, e_c5, e_b0, e_b1, e_b2, e_b3, e_b4, e_b5, e_b6, e_b7, e_b8, e_b9, e_b10, e_b11, e_b12, e_b13, e_b14, e_b15, e_b16, e_b17, e_n0, e_bnd, e_un]
  try rfl)
theorem g_m_film_0 {x1 x2 x3 : Int} {S : ZS} : g_m_film ((1000, [x1, x2, x3]), S) = (bif decide ((v_m_isForm x1 S) = 0) then ((0, [0]), (e_upd S r_m_thrown 0 0 0 1)) else (bif decide ((v_m_isIn x2 1 300 S) = 0) then ((0, [0]), (e_upd S r_m_thrown 0 0 0 1)) else (bif !decide ((v_m_isIn x3 0 9 S) = 0) then (bif !decide ((S r_m_films 0 0 0) = 20) then (g_m_film ((1118, [0]), (e_upd (e_upd (e_upd (e_upd (e_upd (e_upd (e_upd S r_m_thrown 0 0 0 0) r_m_thrown 0 0 0 0) r_m_forms 0 0 (S r_m_films 0 0 0) (e_nar 2 x1)) r_m_minutes 0 0 (S r_m_films 0 0 0) x2) r_m_lands 0 0 (S r_m_films 0 0 0) x3) r_m_still 0 0 (S r_m_films 0 0 0) 3) r_m_sections 0 0 (S r_m_films 0 0 0) (-1)))) else ((0, [0]), (e_upd (e_upd S r_m_thrown 0 0 0 0) r_m_thrown 0 0 0 2))) else ((0, [0]), (e_upd S r_m_thrown 0 0 0 1))))) := by
  unfold g_m_film
  refine ((z_psi_go (pc := 0)).trans (congrArg _ zE168_0)).trans ?_
  try simp only [z_psi_c, z_psi_b, z_psi_n, Nat.reduceLT, decide_true]
theorem zE168_118 {x1 : Int} {S : ZS} : z_st (z_F zT168) zD168 118 [x1] S = (bif decide (8 ≤ x1) then ((0, [(e_wr (((e_upd S r_m_films 0 0 0 (e_wr ((S r_m_films 0 0 0) + 1))) r_m_films 0 0 0) - 1))]), (e_upd S r_m_films 0 0 0 (e_wr ((S r_m_films 0 0 0) + 1)))) else ((1118, [(e_wr (x1 + 1))]), (e_upd S r_m_scores_r (S r_m_films 0 0 0) 0 x1 (-1)))) := (id rfl : z_st (z_F zT168) zD168 118 [x1] S = z_ev (z_F zT168) 12 zP168_118 [x1] S).trans (id rfl)
theorem g_m_film_118 {x1 : Int} {S : ZS} : g_m_film ((1118, [x1]), S) = (bif decide (8 ≤ x1) then ((0, [(e_wr (((e_upd S r_m_films 0 0 0 (e_wr ((S r_m_films 0 0 0) + 1))) r_m_films 0 0 0) - 1))]), (e_upd S r_m_films 0 0 0 (e_wr ((S r_m_films 0 0 0) + 1)))) else (g_m_film ((1118, [(e_wr (x1 + 1))]), (e_upd S r_m_scores_r (S r_m_films 0 0 0) 0 x1 (-1))))) := by
  unfold g_m_film
  refine ((z_psi_go (pc := 118)).trans (congrArg _ zE168_118)).trans ?_
  try simp only [z_psi_c, z_psi_b, z_psi_n, Nat.reduceLT, decide_true]
def zW168 : List Nat := [r_m_films, r_m_thrown, r_m_forms, r_m_minutes, r_m_lands, r_m_still, r_m_sections, r_m_scores_r]
theorem zK168 : z_kp 3 zW168 f_m_film := fun L S hL hc r i j k hr => z_psi_kp (KT := [(163, 2, zW163), (164, 3, zW164), (165, 1, zW165)]) (F := z_F zT168) (W := zW168) (D := zD168) (.c zF168_163 zK163 (.c zF168_164 zK164 (.c zF168_165 zK165 .n))) (fun _ _ => Or.inl rfl) (by decide +kernel) _ hc r i j k hr

-- Readings_addReader (59)
def zT59 : ZT := []
theorem zH59 : z_ok zT59 := .n
def zP59_0 : List ZO := [(5, [(1669, 0), (0, 0), (0, 0), (0, 0)]), (6, [(1728, 0), (0, 0), (0, 0), (0, 0), (2, 0), (1, 0)]), (5, [(1669, 0), (0, 0), (0, 0), (0, 0)]), (4, [(0, 0), (3, 0), (0, 1)]), (6, [(1669, 0), (0, 0), (0, 0), (0, 0), (0, 0), (4, 0)]), (5, [(1669, 0), (0, 0), (0, 0), (0, 0)]), (4, [(1, 0), (5, 0), (0, 1)]), (0, [(6, 0)])]
def zC59 : ZC := [(0, 1, [some (28, (0, 0), (0, 0)), some (0, (1, 0), (0, 0))])]
theorem zG59 : z_go zC59 (z_A zT59) [] 59 400 true 9 zP59_0 0 [some (28, (0, 0), (0, 0)), some (0, (1, 0), (0, 0))] [] 1 = true := by decide +kernel
def f_Readings_addReader : ZFn := fun L S => match L with
  | [x1] => ((0, [(e_wr (((e_upd (e_upd S r_Readings_lands 0 0 (S r_Readings_readerCount 0 0 0) x1) r_Readings_readerCount 0 0 0 (e_wr ((S r_Readings_readerCount 0 0 0) + 1))) r_Readings_readerCount 0 0 0) - 1))]), (e_upd (e_upd S r_Readings_lands 0 0 (S r_Readings_readerCount 0 0 0) x1) r_Readings_readerCount 0 0 0 (e_wr ((S r_Readings_readerCount 0 0 0) + 1))))
  | _ => ((0, []), S)
theorem zE59 {x1 : Int} {S : ZS} : z_ev (z_F zT59) 9 zP59_0 [x1] S = f_Readings_addReader [x1] S := id rfl
theorem zM59 : z_met 59 1 [(28, (0, 0), (0, 0)), (0, (1, 0), (0, 0))] f_Readings_addReader := z_met_ev zH59 (fun _ _ h => absurd h List.not_mem_nil) rfl zG59 (by decide +kernel) (fun L S hn => match L, hn with
  | [x1], _ => zE59)
def zW59 : List Nat := [r_Readings_readerCount, r_Readings_lands]
theorem zK59 : z_kp 1 zW59 f_Readings_addReader := z_kp_ev (KT := []) (.n) (z_h163 rfl) (by decide +kernel) (fun L S hn => match L, hn with
  | [x1], _ => zE59)

-- x_reader (91)
def zT91 : ZT := [(59, 1, [(28, (0, 0), (0, 0)), (0, (1, 0), (0, 0))], f_Readings_addReader), (138, 3, [(0, (1, 0), (0, 0)), (0, (2, 0), (0, 0)), (0, (3, 0), (0, 0))], f_x_isWithin)]
theorem zH91 : z_ok zT91 := .c zM59 (.c zM138 .n)
theorem zF91_59 : z_F zT91 59 = f_Readings_addReader := id rfl
theorem zF91_138 : z_F zT91 138 = f_x_isWithin := id rfl
def zP91_0 : List ZO := [(7, [(138, 0), (1, 0), (0, 0), (0, 9)]), (3, [(1, 0), (5, 0), (2, 0), (0, 0)]), (5, [(1669, 0), (0, 0), (0, 0), (0, 0)]), (3, [(2, 0), (2, 0), (3, 0), (0, 8)]), (7, [(59, 0), (1, 0)]), (0, [(4, 0)]), (1, [(2, 0)]), (1, [(1, 0)])]
def zC91 : ZC := [(0, 1, [some (2, (0, 0), (0, 0)), some (0, (1, 0), (0, 0))])]
theorem zG91 : z_go zC91 (z_A zT91) [] 91 400 true 9 zP91_0 0 [some (2, (0, 0), (0, 0)), some (0, (1, 0), (0, 0))] [] 1 = true := by decide +kernel
def f_x_reader : ZFn := fun L S => match L with
  | [x1] => (bif !decide ((v_x_isWithin x1 0 9 S) = 0) then (bif decide ((S r_Readings_readerCount 0 0 0) < 8) then (e_bind (f_Readings_addReader [x1] S) (fun v1 S1 => ((0, [v1]), S1))) else ((3, []), S)) else ((2, []), S))
  | _ => ((0, []), S)
theorem zE91 {x1 : Int} {S : ZS} : z_ev (z_F zT91) 9 zP91_0 [x1] S = f_x_reader [x1] S := id rfl
theorem zM91 : z_met 91 1 [(2, (0, 0), (0, 0)), (0, (1, 0), (0, 0))] f_x_reader := z_met_ev zH91 (fun _ _ h => absurd h List.not_mem_nil) rfl zG91 (by decide +kernel) (fun L S hn => match L, hn with
  | [x1], _ => zE91)
def zW91 : List Nat := [r_Readings_readerCount, r_Readings_lands]
theorem zK91 : z_kp 1 zW91 f_x_reader := z_kp_ev (KT := [(59, 1, zW59), (138, 3, zW138)]) (.c zF91_59 zK59 (.c zF91_138 zK138 .n)) (z_h163 rfl) (by decide +kernel) (fun L S hn => match L, hn with
  | [x1], _ => zE91)

-- w_reader (257)
def zT257 : ZT := [(91, 1, [(2, (0, 0), (0, 0)), (0, (1, 0), (0, 0))], f_x_reader)]
theorem zH257 : z_ok zT257 := .c zM91 .n
theorem zF257_91 : z_F zT257 91 = f_x_reader := id rfl
def zP257_0 : List ZO := [(11, [(91, 0), (2, 0), (1, 2), (2, 3), (1, 0)]), (6, [(6976, 0), (0, 0), (0, 0), (0, 0), (0, 0), (2, 0)]), (0, [(0, 0)]), (0, [(0, 1)]), (0, [(0, 2)])]
def zC257 : ZC := [(0, 1, [some (2, (0, 0), (0, 0)), some (0, (1, 0), (0, 0)), some (111, (0, 0), (0, 0)), none])]
theorem zG257 : z_go zC257 (z_A zT257) [] 257 400 true 6 zP257_0 0 [some (2, (0, 0), (0, 0)), some (0, (1, 0), (0, 0)), some (111, (0, 0), (0, 0)), none] [] 1 = true := by decide +kernel
def f_w_reader : ZFn := fun L S => match L with
  | [x1] => (e_try (f_x_reader [x1] S) (fun v1 S1 => ((0, [0]), (e_upd S1 r_out 0 0 0 v1))) [(1, 1), (2, 2)])
  | _ => ((0, []), S)
theorem zE257 {x1 : Int} {S : ZS} : z_ev (z_F zT257) 6 zP257_0 [x1] S = f_w_reader [x1] S := id rfl
theorem zM257 : z_met 257 1 [(2, (0, 0), (0, 0)), (0, (1, 0), (0, 0)), (111, (0, 0), (0, 0))] f_w_reader := z_met_ev zH257 (fun _ _ h => absurd h List.not_mem_nil) rfl zG257 (by decide +kernel) (fun L S hn => match L, hn with
  | [x1], _ => zE257)
def zW257 : List Nat := [r_Readings_readerCount, r_Readings_lands, r_out]
theorem zK257 : z_kp 1 zW257 f_w_reader := z_kp_ev (KT := [(91, 1, zW91)]) (.c zF257_91 zK91 .n) (z_h163 rfl) (by decide +kernel) (fun L S hn => match L, hn with
  | [x1], _ => zE257)

-- m_reader (169)
def zT169 : ZT := [(163, 2, [(52, (0, 0), (0, 0)), (0, (1, 0), (0, 0)), (0, (2, 0), (0, 0))], f_m_isThrown), (164, 3, [(0, (1, 0), (0, 0)), (0, (2, 0), (0, 0)), (0, (3, 0), (0, 0))], f_m_isIn)]
theorem zH169 : z_ok zT169 := .c zM163 (.c zM164 .n)
theorem zF169_163 : z_F zT169 163 = f_m_isThrown := id rfl
theorem zF169_164 : z_F zT169 164 = f_m_isIn := id rfl
def zP169_0 : List ZO := [(7, [(164, 0), (1, 0), (0, 0), (0, 9)]), (3, [(1, 0), (14, 0), (2, 0), (0, 0)]), (13, [(163, 0), (0, 0), (0, 0), (0, 1)]), (5, [(3245, 0), (0, 0), (0, 0), (0, 0)]), (3, [(1, 0), (9, 0), (3, 0), (0, 8)]), (13, [(163, 0), (0, 0), (0, 0), (0, 2)]), (5, [(3245, 0), (0, 0), (0, 0), (0, 0)]), (6, [(3840, 0), (0, 0), (0, 0), (0, 0), (4, 0), (1, 0)]), (5, [(3245, 0), (0, 0), (0, 0), (0, 0)]), (4, [(0, 0), (5, 0), (0, 1)]), (6, [(3245, 0), (0, 0), (0, 0), (0, 0), (0, 0), (6, 0)]), (5, [(3245, 0), (0, 0), (0, 0), (0, 0)]), (4, [(1, 0), (7, 0), (0, 1)]), (0, [(8, 0)]), (13, [(163, 0), (0, 0), (0, 1), (0, 2)]), (0, [(0, 0)]), (13, [(163, 0), (0, 0), (0, 1), (0, 1)]), (0, [(0, 0)])]
def zC169 : ZC := [(0, 1, [some (52, (0, 0), (0, 0)), some (0, (1, 0), (0, 0))])]
theorem zG169 : z_go zC169 (z_A zT169) [(163, 0)] 169 400 true 19 zP169_0 0 [some (52, (0, 0), (0, 0)), some (0, (1, 0), (0, 0))] [] 1 = true := by decide +kernel
def f_m_reader : ZFn := fun L S => match L with
  | [x1] => (bif !decide ((v_m_isIn x1 0 9 S) = 0) then (bif !decide ((S r_m_readers 0 0 0) = 8) then ((0, [(e_wr (((e_upd (e_upd (e_upd (e_upd S r_m_thrown 0 0 0 0) r_m_thrown 0 0 0 0) r_m_readerLands 0 0 (S r_m_readers 0 0 0) x1) r_m_readers 0 0 0 (e_wr ((S r_m_readers 0 0 0) + 1))) r_m_readers 0 0 0) - 1))]), (e_upd (e_upd (e_upd (e_upd S r_m_thrown 0 0 0 0) r_m_thrown 0 0 0 0) r_m_readerLands 0 0 (S r_m_readers 0 0 0) x1) r_m_readers 0 0 0 (e_wr ((S r_m_readers 0 0 0) + 1)))) else ((0, [0]), (e_upd (e_upd S r_m_thrown 0 0 0 0) r_m_thrown 0 0 0 2))) else ((0, [0]), (e_upd S r_m_thrown 0 0 0 1)))
  | _ => ((0, []), S)
theorem zE169 {x1 : Int} {S : ZS} : z_ev (z_F zT169) 19 zP169_0 [x1] S = f_m_reader [x1] S := by
  simp -implicitDefEqProofs only [zP169_0, zF169_163, zF169_164, zpI0, zpI1, zpIc, pF_m_isIn, Nat.zero_add, Nat.reduceAdd, Nat.reduceBEq, Int.reduceToNat, z_e0, z_e1, z_e2, z_e3, z_e4, z_e5, z_e6, z_e7, z_e8, z_e11, z_e13, o_v0, o_v1, o_v2, List.cons_append, List.nil_append, List.map_cons, List.map_nil, List.drop_succ_cons, List.drop_zero, List.take_succ_cons, List.take_zero, e_c0, e_c1, e_c2, e_c3, e_c4, e_c5, e_b0, e_b1, e_b2, e_b3, e_b4, e_b5, e_b6, e_b7, e_b8, e_b9, e_b10, e_b11, e_b12, e_b13, e_b14, e_b15, e_b16, e_b17, e_n0, e_bnd, e_un]
  try rfl
theorem zM169 : z_met 169 1 [(52, (0, 0), (0, 0)), (0, (1, 0), (0, 0))] f_m_reader := z_met_ev zH169 (fun _ _ h => by rw [List.mem_singleton] at h; cases h; exact fun _ _ => rfl) rfl zG169 (by decide +kernel) (fun L S hn => match L, hn with
  | [x1], _ => zE169)
def zW169 : List Nat := [r_m_readers, r_m_thrown, r_m_readerLands]
theorem zK169 : z_kp 1 zW169 f_m_reader := z_kp_ev (KT := [(163, 2, zW163), (164, 3, zW164)]) (.c zF169_163 zK163 (.c zF169_164 zK164 .n)) (fun _ _ => Or.inl rfl) (by decide +kernel) (fun L S hn => match L, hn with
  | [x1], _ => zE169)

-- x_checkNumber (142)
def zT142 : ZT := [(138, 3, [(0, (1, 0), (0, 0)), (0, (2, 0), (0, 0)), (0, (3, 0), (0, 0))], f_x_isWithin)]
theorem zH142 : z_ok zT142 := .c zM138 .n
theorem zF142_138 : z_F zT142 138 = f_x_isWithin := id rfl
def zP142_0 : List ZO := [(4, [(1, 0), (2, 0), (0, 1)]), (7, [(138, 0), (1, 0), (0, 0), (3, 0)]), (3, [(1, 0), (1, 0), (4, 0), (0, 0)]), (0, []), (1, [(0, 0)])]
def zC142 : ZC := [(0, 2, [some (0, (1, 0), (0, 0)), some (0, (2, 0), (0, 0))])]
theorem zG142 : z_go zC142 (z_A zT142) [] 142 400 true 6 zP142_0 0 [some (0, (1, 0), (0, 0)), some (0, (2, 0), (0, 0))] [] 2 = true := by decide +kernel
def f_x_checkNumber : ZFn := fun L S => match L with
  | [x1, x2] => (bif !decide ((v_x_isWithin x1 0 (e_wr (x2 - 1)) S) = 0) then ((0, []), S) else ((1, []), S))
  | _ => ((0, []), S)
theorem zE142 {x1 x2 : Int} {S : ZS} : z_ev (z_F zT142) 6 zP142_0 [x1, x2] S = f_x_checkNumber [x1, x2] S := id rfl
theorem zM142 : z_met 142 2 [(0, (1, 0), (0, 0)), (0, (2, 0), (0, 0))] f_x_checkNumber := z_met_ev zH142 (fun _ _ h => absurd h List.not_mem_nil) rfl zG142 (by decide +kernel) (fun L S hn => match L, hn with
  | [x1, x2], _ => zE142)
def zW142 : List Nat := []
theorem zK142 : z_kp 2 zW142 f_x_checkNumber := z_kp_ev (KT := [(138, 3, zW138)]) (.c zF142_138 zK138 .n) (z_h163 rfl) (by decide +kernel) (fun L S hn => match L, hn with
  | [x1, x2], _ => zE142)

-- x_checkFilm (143)
def zT143 : ZT := [(142, 2, [(0, (1, 0), (0, 0)), (0, (2, 0), (0, 0))], f_x_checkNumber)]
theorem zH143 : z_ok zT143 := .c zM142 .n
theorem zF143_142 : z_F zT143 142 = f_x_checkNumber := id rfl
def zP143_0 : List ZO := [(5, [(4, 0), (0, 0), (0, 0), (0, 0)]), (7, [(142, 0), (1, 0), (2, 0)]), (0, [])]
def zC143 : ZC := [(0, 1, [some (2, (0, 0), (0, 0)), some (0, (1, 0), (0, 0))])]
theorem zG143 : z_go zC143 (z_A zT143) [] 143 400 true 4 zP143_0 0 [some (2, (0, 0), (0, 0)), some (0, (1, 0), (0, 0))] [] 1 = true := by decide +kernel
def f_x_checkFilm : ZFn := fun L S => match L with
  | [x1] => (e_bind (f_x_checkNumber [x1, (S r_x_filmCount 0 0 0)] S) (fun v1 S1 => ((0, []), S1)))
  | _ => ((0, []), S)
theorem zE143 {x1 : Int} {S : ZS} : z_ev (z_F zT143) 4 zP143_0 [x1] S = f_x_checkFilm [x1] S := id rfl
theorem zM143 : z_met 143 1 [(2, (0, 0), (0, 0)), (0, (1, 0), (0, 0))] f_x_checkFilm := z_met_ev zH143 (fun _ _ h => absurd h List.not_mem_nil) rfl zG143 (by decide +kernel) (fun L S hn => match L, hn with
  | [x1], _ => zE143)
def zW143 : List Nat := []
theorem zK143 : z_kp 1 zW143 f_x_checkFilm := z_kp_ev (KT := [(142, 2, zW142)]) (.c zF143_142 zK142 .n) (z_h163 rfl) (by decide +kernel) (fun L S hn => match L, hn with
  | [x1], _ => zE143)

-- Readings_isFree (60)
def zT60 : ZT := []
theorem zH60 : z_ok zT60 := .n
def zP60_0 : List ZO := [(5, [(1728, 0), (0, 0), (0, 0), (3, 0)]), (3, [(0, 0), (1, 0), (4, 0), (2, 0)]), (0, [(0, 0)]), (5, [(2048, 0), (1, 0), (0, 0), (3, 0)]), (3, [(1, 0), (1, 0), (5, 0), (0, (-2))]), (0, [(0, 0)]), (0, [(0, 1)])]
def zC60 : ZC := [(0, 3, [some (28, (0, 0), (0, 0)), some (0, (1, 0), (0, 0)), some (0, (2, 0), (0, 0)), some (0, (3, 0), (0, 0))])]
theorem zG60 : z_go zC60 (z_A zT60) [] 60 400 true 8 zP60_0 0 [some (28, (0, 0), (0, 0)), some (0, (1, 0), (0, 0)), some (0, (2, 0), (0, 0)), some (0, (3, 0), (0, 0))] [] 3 = true := by decide +kernel
def v_Readings_isFree (x1 x2 x3 : Int) (S : ZS) : Int := (bif decide ((S r_Readings_lands 0 0 x3) = x2) then 0 else (bif !decide ((S r_Readings_marks_r x1 0 x3) = (-2)) then 0 else 1))
def f_Readings_isFree : ZFn := fun L S => match L with
  | [x1, x2, x3] => ((0, [v_Readings_isFree x1 x2 x3 S]), S)
  | _ => ((0, []), S)
theorem pF_Readings_isFree {x1 x2 x3 : Int} {S : ZS} : f_Readings_isFree [x1, x2, x3] S = ((0, [v_Readings_isFree x1 x2 x3 S]), S) := id rfl
theorem zE60a {x1 x2 x3 : Int} {S : ZS} : z_ev (z_F zT60) 8 zP60_0 [x1, x2, x3] S = (bif decide ((S r_Readings_lands 0 0 x3) = x2) then ((0, [0]), S) else (bif !decide ((S r_Readings_marks_r x1 0 x3) = (-2)) then ((0, [0]), S) else ((0, [1]), S))) := id rfl
theorem zE60 {x1 x2 x3 : Int} {S : ZS} : z_ev (z_F zT60) 8 zP60_0 [x1, x2, x3] S = f_Readings_isFree [x1, x2, x3] S := zE60a.trans (by
  simp only [z_cv]
  rfl)
theorem zM60 : z_met 60 3 [(28, (0, 0), (0, 0)), (0, (1, 0), (0, 0)), (0, (2, 0), (0, 0)), (0, (3, 0), (0, 0))] f_Readings_isFree := z_met_ev zH60 (fun _ _ h => absurd h List.not_mem_nil) rfl zG60 (by decide +kernel) (fun L S hn => match L, hn with
  | [x1, x2, x3], _ => zE60)
def zW60 : List Nat := []
theorem zK60 : z_kp 3 zW60 f_Readings_isFree := z_kp_ev (KT := []) (.n) (z_h163 rfl) (by decide +kernel) (fun L S hn => match L, hn with
  | [x1, x2, x3], _ => zE60)

-- Readings_countFree (61)
def zT61 : ZT := [(60, 3, [(28, (0, 0), (0, 0)), (0, (1, 0), (0, 0)), (0, (2, 0), (0, 0)), (0, (3, 0), (0, 0))], f_Readings_isFree)]
theorem zH61 : z_ok zT61 := .c zM60 .n
theorem zF61_60 : z_F zT61 60 = f_Readings_isFree := id rfl
def zP61_0 : List ZO := [(2, [(5, 0), (1, 0), (2, 0), (0, 0), (0, 0)])]
def zP61_5 : List ZO := [(5, [(1669, 0), (0, 0), (0, 0), (0, 0)]), (3, [(3, 0), (1, 0), (4, 0), (5, 0)]), (0, [(3, 0)]), (7, [(60, 0), (1, 0), (2, 0), (4, 0)]), (3, [(0, 0), (2, 0), (6, 0), (0, 0)]), (4, [(0, 0), (4, 0), (0, 1)]), (2, [(5, 0), (1, 0), (2, 0), (3, 0), (7, 0)]), (4, [(0, 0), (3, 0), (0, 1)]), (4, [(0, 0), (4, 0), (0, 1)]), (2, [(5, 0), (1, 0), (2, 0), (7, 0), (8, 0)])]
def zD61 : ZD := [(0, 2, [some (28, (0, 0), (0, 0)), some (0, (1, 0), (0, 0)), some (0, (2, 0), (0, 0)), none, none], 2, zP61_0), (5, 4, [some (28, (0, 0), (0, 0)), some (0, (1, 0), (0, 0)), some (0, (2, 0), (0, 0)), some (0, (3, 0), (0, 0)), some (0, (4, 0), (0, 0))], 11, zP61_5)]
theorem zG61 : z_chk zT61 [] 61 zD61 = true := by decide +kernel
noncomputable def g_Readings_countFree (R : ZR) : ZR := z_psi (z_st (z_F zT61) zD61) R
noncomputable def f_Readings_countFree : ZFn := fun L S => g_Readings_countFree ((1000, L), S)
theorem zM61 : z_met 61 2 [(28, (0, 0), (0, 0)), (0, (1, 0), (0, 0)), (0, (2, 0), (0, 0))] f_Readings_countFree := z_met_psi zH61 (fun _ _ h => absurd h List.not_mem_nil) rfl zG61
theorem zE61_0 {x1 x2 : Int} {S : ZS} : z_st (z_F zT61) zD61 0 [x1, x2] S = ((1005, [x1, x2, 0, 0]), S) := (id rfl : z_st (z_F zT61) zD61 0 [x1, x2] S = z_ev (z_F zT61) 2 zP61_0 [x1, x2] S).trans (id rfl)
theorem g_Readings_countFree_0 {x1 x2 : Int} {S : ZS} : g_Readings_countFree ((1000, [x1, x2]), S) = (g_Readings_countFree ((1005, [x1, x2, 0, 0]), S)) := by
  unfold g_Readings_countFree
  refine ((z_psi_go (pc := 0)).trans (congrArg _ zE61_0)).trans ?_
  try simp only [z_psi_c, z_psi_b, z_psi_n, Nat.reduceLT, decide_true]
theorem zE61_5 {x1 x2 x3 x4 : Int} {S : ZS} : z_st (z_F zT61) zD61 5 [x1, x2, x3, x4] S = (bif decide ((S r_Readings_readerCount 0 0 0) ≤ x4) then ((0, [x3]), S) else (bif decide ((v_Readings_isFree x1 x2 x4 S) = 0) then ((1005, [x1, x2, x3, (e_wr (x4 + 1))]), S) else ((1005, [x1, x2, (e_wr (x3 + 1)), (e_wr (x4 + 1))]), S))) := (id rfl : z_st (z_F zT61) zD61 5 [x1, x2, x3, x4] S = z_ev (z_F zT61) 11 zP61_5 [x1, x2, x3, x4] S).trans (id rfl)
theorem g_Readings_countFree_5 {x1 x2 x3 x4 : Int} {S : ZS} : g_Readings_countFree ((1005, [x1, x2, x3, x4]), S) = (bif decide ((S r_Readings_readerCount 0 0 0) ≤ x4) then ((0, [x3]), S) else (bif decide ((v_Readings_isFree x1 x2 x4 S) = 0) then (g_Readings_countFree ((1005, [x1, x2, x3, (e_wr (x4 + 1))]), S)) else (g_Readings_countFree ((1005, [x1, x2, (e_wr (x3 + 1)), (e_wr (x4 + 1))]), S)))) := by
  unfold g_Readings_countFree
  refine ((z_psi_go (pc := 5)).trans (congrArg _ zE61_5)).trans ?_
  try simp only [z_psi_c, z_psi_b, z_psi_n, Nat.reduceLT, decide_true]
def zW61 : List Nat := []
theorem zK61 : z_kp 2 zW61 f_Readings_countFree := fun L S hL hc r i j k hr => z_psi_kp (KT := [(60, 3, zW60)]) (F := z_F zT61) (W := zW61) (D := zD61) (.c zF61_60 zK60 .n) (z_h163 rfl) (by decide +kernel) _ hc r i j k hr

-- Readings_countDealt (63)
def zT63 : ZT := []
theorem zH63 : z_ok zT63 := .n
def zP63_0 : List ZO := [(2, [(4, 0), (1, 0), (0, 0), (0, 0)])]
def zP63_4 : List ZO := [(5, [(1669, 0), (0, 0), (0, 0), (0, 0)]), (3, [(3, 0), (1, 0), (3, 0), (4, 0)]), (0, [(2, 0)]), (5, [(2048, 0), (1, 0), (0, 0), (3, 0)]), (3, [(0, 0), (2, 0), (5, 0), (0, (-2))]), (4, [(0, 0), (3, 0), (0, 1)]), (2, [(4, 0), (1, 0), (2, 0), (6, 0)]), (4, [(0, 0), (2, 0), (0, 1)]), (4, [(0, 0), (3, 0), (0, 1)]), (2, [(4, 0), (1, 0), (6, 0), (7, 0)])]
def zD63 : ZD := [(0, 1, [some (28, (0, 0), (0, 0)), some (0, (1, 0), (0, 0)), none, none], 2, zP63_0), (4, 3, [some (28, (0, 0), (0, 0)), some (0, (1, 0), (0, 0)), some (0, (2, 0), (0, 0)), some (0, (3, 0), (0, 0))], 11, zP63_4)]
theorem zG63 : z_chk zT63 [] 63 zD63 = true := by decide +kernel
noncomputable def g_Readings_countDealt (R : ZR) : ZR := z_psi (z_st (z_F zT63) zD63) R
noncomputable def f_Readings_countDealt : ZFn := fun L S => g_Readings_countDealt ((1000, L), S)
theorem zM63 : z_met 63 1 [(28, (0, 0), (0, 0)), (0, (1, 0), (0, 0))] f_Readings_countDealt := z_met_psi zH63 (fun _ _ h => absurd h List.not_mem_nil) rfl zG63
theorem zE63_0 {x1 : Int} {S : ZS} : z_st (z_F zT63) zD63 0 [x1] S = ((1004, [x1, 0, 0]), S) := (id rfl : z_st (z_F zT63) zD63 0 [x1] S = z_ev (z_F zT63) 2 zP63_0 [x1] S).trans (id rfl)
theorem g_Readings_countDealt_0 {x1 : Int} {S : ZS} : g_Readings_countDealt ((1000, [x1]), S) = (g_Readings_countDealt ((1004, [x1, 0, 0]), S)) := by
  unfold g_Readings_countDealt
  refine ((z_psi_go (pc := 0)).trans (congrArg _ zE63_0)).trans ?_
  try simp only [z_psi_c, z_psi_b, z_psi_n, Nat.reduceLT, decide_true]
theorem zE63_4 {x1 x2 x3 : Int} {S : ZS} : z_st (z_F zT63) zD63 4 [x1, x2, x3] S = (bif decide ((S r_Readings_readerCount 0 0 0) ≤ x3) then ((0, [x2]), S) else (bif decide ((S r_Readings_marks_r x1 0 x3) = (-2)) then ((1004, [x1, x2, (e_wr (x3 + 1))]), S) else ((1004, [x1, (e_wr (x2 + 1)), (e_wr (x3 + 1))]), S))) := (id rfl : z_st (z_F zT63) zD63 4 [x1, x2, x3] S = z_ev (z_F zT63) 11 zP63_4 [x1, x2, x3] S).trans (id rfl)
theorem g_Readings_countDealt_4 {x1 x2 x3 : Int} {S : ZS} : g_Readings_countDealt ((1004, [x1, x2, x3]), S) = (bif decide ((S r_Readings_readerCount 0 0 0) ≤ x3) then ((0, [x2]), S) else (bif decide ((S r_Readings_marks_r x1 0 x3) = (-2)) then (g_Readings_countDealt ((1004, [x1, x2, (e_wr (x3 + 1))]), S)) else (g_Readings_countDealt ((1004, [x1, (e_wr (x2 + 1)), (e_wr (x3 + 1))]), S)))) := by
  unfold g_Readings_countDealt
  refine ((z_psi_go (pc := 4)).trans (congrArg _ zE63_4)).trans ?_
  try simp only [z_psi_c, z_psi_b, z_psi_n, Nat.reduceLT, decide_true]
def zW63 : List Nat := []
theorem zK63 : z_kp 1 zW63 f_Readings_countDealt := fun L S hL hc r i j k hr => z_psi_kp (KT := []) (F := z_F zT63) (W := zW63) (D := zD63) (.n) (z_h163 rfl) (by decide +kernel) _ hc r i j k hr

-- Readings_dealOnce (62)
def zT62 : ZT := [(60, 3, [(28, (0, 0), (0, 0)), (0, (1, 0), (0, 0)), (0, (2, 0), (0, 0)), (0, (3, 0), (0, 0))], f_Readings_isFree)]
theorem zH62 : z_ok zT62 := .c zM60 .n
theorem zF62_60 : z_F zT62 60 = f_Readings_isFree := id rfl
def zP62_0 : List ZO := [(2, [(5, 0), (1, 0), (2, 0), (0, (-1)), (0, 0)])]
def zP62_5 : List ZO := [(5, [(1669, 0), (0, 0), (0, 0), (0, 0)]), (3, [(3, 0), (7, 0), (4, 0), (5, 0)]), (3, [(0, 0), (1, 0), (3, 0), (0, (-1))]), (0, []), (6, [(2048, 0), (0, 0), (1, 0), (0, 0), (3, 0), (0, (-1))]), (5, [(1792, 0), (0, 0), (0, 0), (3, 0)]), (4, [(0, 0), (6, 0), (0, 1)]), (6, [(1792, 0), (0, 0), (0, 0), (0, 0), (3, 0), (7, 0)]), (0, []), (7, [(60, 0), (1, 0), (2, 0), (4, 0)]), (3, [(0, 0), (2, 0), (6, 0), (0, 0)]), (4, [(0, 0), (4, 0), (0, 1)]), (2, [(5, 0), (1, 0), (2, 0), (3, 0), (7, 0)]), (3, [(0, 0), (2, 0), (3, 0), (0, (-1))]), (4, [(0, 0), (4, 0), (0, 1)]), (2, [(5, 0), (1, 0), (2, 0), (4, 0), (7, 0)]), (5, [(1792, 0), (0, 0), (0, 0), (4, 0)]), (5, [(1792, 0), (0, 0), (0, 0), (3, 0)]), (3, [(3, 0), (2, 0), (7, 0), (8, 0)]), (4, [(0, 0), (4, 0), (0, 1)]), (2, [(5, 0), (1, 0), (2, 0), (3, 0), (9, 0)]), (4, [(0, 0), (4, 0), (0, 1)]), (2, [(5, 0), (1, 0), (2, 0), (4, 0), (9, 0)])]
def zD62 : ZD := [(0, 2, [some (28, (0, 0), (0, 0)), some (0, (1, 0), (0, 0)), some (0, (2, 0), (0, 0)), none, none], 2, zP62_0), (5, 4, [some (28, (0, 0), (0, 0)), some (0, (1, 0), (0, 0)), some (0, (2, 0), (0, 0)), some (0, (3, 0), (0, 0)), some (0, (4, 0), (0, 0))], 24, zP62_5)]
theorem zG62 : z_chk zT62 [] 62 zD62 = true := by decide +kernel
noncomputable def g_Readings_dealOnce (R : ZR) : ZR := z_psi (z_st (z_F zT62) zD62) R
noncomputable def f_Readings_dealOnce : ZFn := fun L S => g_Readings_dealOnce ((1000, L), S)
theorem zM62 : z_met 62 2 [(28, (0, 0), (0, 0)), (0, (1, 0), (0, 0)), (0, (2, 0), (0, 0))] f_Readings_dealOnce := z_met_psi zH62 (fun _ _ h => absurd h List.not_mem_nil) rfl zG62
theorem zE62_0 {x1 x2 : Int} {S : ZS} : z_st (z_F zT62) zD62 0 [x1, x2] S = ((1005, [x1, x2, (-1), 0]), S) := (id rfl : z_st (z_F zT62) zD62 0 [x1, x2] S = z_ev (z_F zT62) 2 zP62_0 [x1, x2] S).trans (id rfl)
theorem g_Readings_dealOnce_0 {x1 x2 : Int} {S : ZS} : g_Readings_dealOnce ((1000, [x1, x2]), S) = (g_Readings_dealOnce ((1005, [x1, x2, (-1), 0]), S)) := by
  unfold g_Readings_dealOnce
  refine ((z_psi_go (pc := 0)).trans (congrArg _ zE62_0)).trans ?_
  try simp only [z_psi_c, z_psi_b, z_psi_n, Nat.reduceLT, decide_true]
theorem zE62_5 {x1 x2 x3 x4 : Int} {S : ZS} : z_st (z_F zT62) zD62 5 [x1, x2, x3, x4] S = (bif decide ((S r_Readings_readerCount 0 0 0) ≤ x4) then (bif decide (x3 = (-1)) then ((0, []), S) else ((0, []), (e_upd (e_upd S r_Readings_marks_r x1 0 x3 (-1)) r_Readings_dealtFilms 0 0 x3 (e_wr ((S r_Readings_dealtFilms 0 0 x3) + 1))))) else (bif decide ((v_Readings_isFree x1 x2 x4 S) = 0) then ((1005, [x1, x2, x3, (e_wr (x4 + 1))]), S) else (bif decide (x3 = (-1)) then ((1005, [x1, x2, x4, (e_wr (x4 + 1))]), S) else (bif decide ((S r_Readings_dealtFilms 0 0 x3) ≤ (S r_Readings_dealtFilms 0 0 x4)) then ((1005, [x1, x2, x3, (e_wr (x4 + 1))]), S) else ((1005, [x1, x2, x4, (e_wr (x4 + 1))]), S))))) := (id rfl : z_st (z_F zT62) zD62 5 [x1, x2, x3, x4] S = z_ev (z_F zT62) 24 zP62_5 [x1, x2, x3, x4] S).trans (by
  simp -implicitDefEqProofs only [zP62_5, zF62_60, pF_Readings_isFree, Nat.zero_add, Nat.reduceAdd, Nat.reduceBEq, Int.reduceToNat, z_e0, z_e1, z_e2, z_e3, z_e4, z_e5, z_e6, z_e7, z_e8, z_e11, z_e13, o_v0, o_v1, o_v2, List.cons_append, List.nil_append, List.map_cons, List.map_nil, List.drop_succ_cons, List.drop_zero, List.take_succ_cons, List.take_zero, e_c0, e_c1, e_c2, e_c3, e_c4, e_c5, e_b0, e_b1, e_b2, e_b3, e_b4, e_b5, e_b6, e_b7, e_b8, e_b9, e_b10, e_b11, e_b12, e_b13, e_b14, e_b15, e_b16, e_b17, e_n0, e_bnd, e_un]
  try rfl)
theorem g_Readings_dealOnce_5 {x1 x2 x3 x4 : Int} {S : ZS} : g_Readings_dealOnce ((1005, [x1, x2, x3, x4]), S) = (bif decide ((S r_Readings_readerCount 0 0 0) ≤ x4) then (bif decide (x3 = (-1)) then ((0, []), S) else ((0, []), (e_upd (e_upd S r_Readings_marks_r x1 0 x3 (-1)) r_Readings_dealtFilms 0 0 x3 (e_wr ((S r_Readings_dealtFilms 0 0 x3) + 1))))) else (bif decide ((v_Readings_isFree x1 x2 x4 S) = 0) then (g_Readings_dealOnce ((1005, [x1, x2, x3, (e_wr (x4 + 1))]), S)) else (bif decide (x3 = (-1)) then (g_Readings_dealOnce ((1005, [x1, x2, x4, (e_wr (x4 + 1))]), S)) else (bif decide ((S r_Readings_dealtFilms 0 0 x3) ≤ (S r_Readings_dealtFilms 0 0 x4)) then (g_Readings_dealOnce ((1005, [x1, x2, x3, (e_wr (x4 + 1))]), S)) else (g_Readings_dealOnce ((1005, [x1, x2, x4, (e_wr (x4 + 1))]), S)))))) := by
  unfold g_Readings_dealOnce
  refine ((z_psi_go (pc := 5)).trans (congrArg _ zE62_5)).trans ?_
  try simp only [z_psi_c, z_psi_b, z_psi_n, Nat.reduceLT, decide_true]
def zW62 : List Nat := [r_Readings_dealtFilms, r_Readings_marks_r]
theorem zK62 : z_kp 2 zW62 f_Readings_dealOnce := fun L S hL hc r i j k hr => z_psi_kp (KT := [(60, 3, zW60)]) (F := z_F zT62) (W := zW62) (D := zD62) (.c zF62_60 zK60 .n) (z_h163 rfl) (by decide +kernel) _ hc r i j k hr

-- x_deal (92)
noncomputable def zT92 : ZT := [(61, 2, [(28, (0, 0), (0, 0)), (0, (1, 0), (0, 0)), (0, (2, 0), (0, 0))], f_Readings_countFree), (62, 2, [(28, (0, 0), (0, 0)), (0, (1, 0), (0, 0)), (0, (2, 0), (0, 0))], f_Readings_dealOnce), (63, 1, [(28, (0, 0), (0, 0)), (0, (1, 0), (0, 0))], f_Readings_countDealt), (138, 3, [(0, (1, 0), (0, 0)), (0, (2, 0), (0, 0)), (0, (3, 0), (0, 0))], f_x_isWithin), (143, 1, [(2, (0, 0), (0, 0)), (0, (1, 0), (0, 0))], f_x_checkFilm)]
theorem zH92 : z_ok zT92 := .c zM61 (.c zM62 (.c zM63 (.c zM138 (.c zM143 .n))))
theorem zF92_61 : z_F zT92 61 = f_Readings_countFree := id rfl
theorem zF92_62 : z_F zT92 62 = f_Readings_dealOnce := id rfl
theorem zF92_63 : z_F zT92 63 = f_Readings_countDealt := id rfl
theorem zF92_138 : z_F zT92 138 = f_x_isWithin := id rfl
theorem zF92_143 : z_F zT92 143 = f_x_checkFilm := id rfl
def zP92_0 : List ZO := [(7, [(143, 0), (1, 0)]), (7, [(138, 0), (2, 0), (0, 1), (0, 8)]), (3, [(1, 0), (5, 0), (4, 0), (0, 0)]), (5, [(194, 0), (1, 0), (0, 0), (0, 0)]), (7, [(61, 0), (1, 0), (5, 0)]), (3, [(3, 0), (1, 0), (6, 0), (2, 0)]), (2, [(61, 0), (1, 0), (2, 0), (5, 0), (0, 0)]), (1, [(3, 0)]), (1, [(1, 0)])]
def zP92_61 : List ZO := [(3, [(3, 0), (2, 0), (4, 0), (2, 0)]), (7, [(63, 0), (1, 0)]), (0, [(5, 0)]), (7, [(62, 0), (1, 0), (3, 0)]), (4, [(0, 0), (4, 0), (0, 1)]), (2, [(61, 0), (1, 0), (2, 0), (3, 0), (6, 0)])]
def zD92 : ZD := [(0, 2, [some (2, (0, 0), (0, 0)), some (0, (1, 0), (0, 0)), some (0, (2, 0), (0, 0)), none, none], 10, zP92_0), (61, 4, [some (2, (0, 0), (0, 0)), some (0, (1, 0), (0, 0)), some (0, (2, 0), (0, 0)), some (0, (3, 0), (0, 0)), some (0, (4, 0), (0, 0))], 7, zP92_61)]
theorem zG92 : z_chk zT92 [] 92 zD92 = true := by decide +kernel
noncomputable def g_x_deal (R : ZR) : ZR := z_psi (z_st (z_F zT92) zD92) R
noncomputable def f_x_deal : ZFn := fun L S => g_x_deal ((1000, L), S)
theorem zM92 : z_met 92 2 [(2, (0, 0), (0, 0)), (0, (1, 0), (0, 0)), (0, (2, 0), (0, 0))] f_x_deal := z_met_psi zH92 (fun _ _ h => absurd h List.not_mem_nil) rfl zG92
theorem zE92_0 {x1 x2 : Int} {S : ZS} : z_st (z_F zT92) zD92 0 [x1, x2] S = (e_bind (f_x_checkFilm [x1] S) (fun v1 S1 => (bif !decide ((v_x_isWithin x2 1 8 S1) = 0) then (e_bind (f_Readings_countFree [x1, (S1 r_Film_land x1 0 0)] S1) (fun v2 S2 => (bif decide (x2 ≤ v2) then ((1061, [x1, x2, (S1 r_Film_land x1 0 0), 0]), S2) else ((4, []), S2)))) else ((2, []), S1)))) := (id rfl : z_st (z_F zT92) zD92 0 [x1, x2] S = z_ev (z_F zT92) 10 zP92_0 [x1, x2] S).trans (id rfl)
theorem g_x_deal_0 {x1 x2 : Int} {S : ZS} : g_x_deal ((1000, [x1, x2]), S) = (e_bind (f_x_checkFilm [x1] S) (fun v1 S1 => (bif !decide ((v_x_isWithin x2 1 8 S1) = 0) then (e_bind (f_Readings_countFree [x1, (S1 r_Film_land x1 0 0)] S1) (fun v2 S2 => (bif decide (x2 ≤ v2) then (g_x_deal ((1061, [x1, x2, (S1 r_Film_land x1 0 0), 0]), S2)) else ((4, []), S2)))) else ((2, []), S1)))) := by
  unfold g_x_deal
  refine ((z_psi_go (pc := 0)).trans (congrArg _ zE92_0)).trans ?_
  try simp only [z_psi_c, z_psi_b, z_psi_n, Nat.reduceLT, decide_true]
theorem zE92_61 {x1 x2 x3 x4 : Int} {S : ZS} : z_st (z_F zT92) zD92 61 [x1, x2, x3, x4] S = (bif decide (x2 ≤ x4) then (e_bind (f_Readings_countDealt [x1] S) (fun v1 S1 => ((0, [v1]), S1))) else (e_bind (f_Readings_dealOnce [x1, x3] S) (fun v2 S2 => ((1061, [x1, x2, x3, (e_wr (x4 + 1))]), S2)))) := (id rfl : z_st (z_F zT92) zD92 61 [x1, x2, x3, x4] S = z_ev (z_F zT92) 7 zP92_61 [x1, x2, x3, x4] S).trans (id rfl)
theorem g_x_deal_61 {x1 x2 x3 x4 : Int} {S : ZS} : g_x_deal ((1061, [x1, x2, x3, x4]), S) = (bif decide (x2 ≤ x4) then (e_bind (f_Readings_countDealt [x1] S) (fun v1 S1 => ((0, [v1]), S1))) else (e_bind (f_Readings_dealOnce [x1, x3] S) (fun v2 S2 => (g_x_deal ((1061, [x1, x2, x3, (e_wr (x4 + 1))]), S2))))) := by
  unfold g_x_deal
  refine ((z_psi_go (pc := 61)).trans (congrArg _ zE92_61)).trans ?_
  try simp only [z_psi_c, z_psi_b, z_psi_n, Nat.reduceLT, decide_true]
def zW92 : List Nat := [r_Readings_dealtFilms, r_Readings_marks_r]
theorem zK92 : z_kp 2 zW92 f_x_deal := fun L S hL hc r i j k hr => z_psi_kp (KT := [(61, 2, zW61), (62, 2, zW62), (63, 1, zW63), (138, 3, zW138), (143, 1, zW143)]) (F := z_F zT92) (W := zW92) (D := zD92) (.c zF92_61 zK61 (.c zF92_62 zK62 (.c zF92_63 zK63 (.c zF92_138 zK138 (.c zF92_143 zK143 .n))))) (z_h163 rfl) (by decide +kernel) _ hc r i j k hr

-- w_deal (258)
noncomputable def zT258 : ZT := [(92, 2, [(2, (0, 0), (0, 0)), (0, (1, 0), (0, 0)), (0, (2, 0), (0, 0))], f_x_deal)]
theorem zH258 : z_ok zT258 := .c zM92 .n
theorem zF258_92 : z_F zT258 92 = f_x_deal := id rfl
def zP258_0 : List ZO := [(11, [(92, 0), (3, 0), (0, 2), (1, 3), (3, 4), (1, 0), (2, 0)]), (6, [(6976, 0), (0, 0), (0, 0), (0, 0), (0, 0), (3, 0)]), (0, [(0, 0)]), (0, [(0, 1)]), (0, [(0, 2)]), (0, [(0, 3)])]
def zC258 : ZC := [(0, 2, [some (2, (0, 0), (0, 0)), some (0, (1, 0), (0, 0)), some (0, (2, 0), (0, 0)), some (111, (0, 0), (0, 0)), none])]
theorem zG258 : z_go zC258 (z_A zT258) [] 258 400 true 7 zP258_0 0 [some (2, (0, 0), (0, 0)), some (0, (1, 0), (0, 0)), some (0, (2, 0), (0, 0)), some (111, (0, 0), (0, 0)), none] [] 2 = true := by decide +kernel
noncomputable def f_w_deal : ZFn := fun L S => match L with
  | [x1, x2] => (e_try (f_x_deal [x1, x2] S) (fun v1 S1 => ((0, [0]), (e_upd S1 r_out 0 0 0 v1))) [(0, 1), (1, 2), (3, 3)])
  | _ => ((0, []), S)
theorem zE258 {x1 x2 : Int} {S : ZS} : z_ev (z_F zT258) 7 zP258_0 [x1, x2] S = f_w_deal [x1, x2] S := id rfl
theorem zM258 : z_met 258 2 [(2, (0, 0), (0, 0)), (0, (1, 0), (0, 0)), (0, (2, 0), (0, 0)), (111, (0, 0), (0, 0))] f_w_deal := z_met_ev zH258 (fun _ _ h => absurd h List.not_mem_nil) rfl zG258 (by decide +kernel) (fun L S hn => match L, hn with
  | [x1, x2], _ => zE258)
def zW258 : List Nat := [r_Readings_dealtFilms, r_Readings_marks_r, r_out]
theorem zK258 : z_kp 2 zW258 f_w_deal := z_kp_ev (KT := [(92, 2, zW92)]) (.c zF258_92 zK92 .n) (z_h163 rfl) (by decide +kernel) (fun L S hn => match L, hn with
  | [x1, x2], _ => zE258)

-- m_isNoFilm (166)
def zT166 : ZT := [(164, 3, [(0, (1, 0), (0, 0)), (0, (2, 0), (0, 0)), (0, (3, 0), (0, 0))], f_m_isIn)]
theorem zH166 : z_ok zT166 := .c zM164 .n
theorem zF166_164 : z_F zT166 164 = f_m_isIn := id rfl
def zP166_0 : List ZO := [(5, [(3244, 0), (0, 0), (0, 0), (0, 0)]), (4, [(1, 0), (2, 0), (0, 1)]), (7, [(164, 0), (1, 0), (0, 0), (3, 0)]), (3, [(1, 0), (1, 0), (4, 0), (0, 0)]), (0, [(0, 0)]), (0, [(0, 1)])]
def zC166 : ZC := [(0, 1, [some (52, (0, 0), (0, 0)), some (0, (1, 0), (0, 0))])]
theorem zG166 : z_go zC166 (z_A zT166) [] 166 400 true 7 zP166_0 0 [some (52, (0, 0), (0, 0)), some (0, (1, 0), (0, 0))] [] 1 = true := by decide +kernel
def v_m_isNoFilm (x1 : Int) (S : ZS) : Int := (bif !decide ((v_m_isIn x1 0 (e_wr ((S r_m_films 0 0 0) - 1)) S) = 0) then 0 else 1)
def f_m_isNoFilm : ZFn := fun L S => match L with
  | [x1] => ((0, [v_m_isNoFilm x1 S]), S)
  | _ => ((0, []), S)
theorem pF_m_isNoFilm {x1 : Int} {S : ZS} : f_m_isNoFilm [x1] S = ((0, [v_m_isNoFilm x1 S]), S) := id rfl
theorem zE166a {x1 : Int} {S : ZS} : z_ev (z_F zT166) 7 zP166_0 [x1] S = (bif !decide ((v_m_isIn x1 0 (e_wr ((S r_m_films 0 0 0) - 1)) S) = 0) then ((0, [0]), S) else ((0, [1]), S)) := id rfl
theorem zE166 {x1 : Int} {S : ZS} : z_ev (z_F zT166) 7 zP166_0 [x1] S = f_m_isNoFilm [x1] S := zE166a.trans (by
  simp only [z_cv]
  rfl)
theorem zM166 : z_met 166 1 [(52, (0, 0), (0, 0)), (0, (1, 0), (0, 0))] f_m_isNoFilm := z_met_ev zH166 (fun _ _ h => absurd h List.not_mem_nil) rfl zG166 (by decide +kernel) (fun L S hn => match L, hn with
  | [x1], _ => zE166)
def zW166 : List Nat := []
theorem zK166 : z_kp 1 zW166 f_m_isNoFilm := z_kp_ev (KT := [(164, 3, zW164)]) (.c zF166_164 zK164 .n) (z_h163 rfl) (by decide +kernel) (fun L S hn => match L, hn with
  | [x1], _ => zE166)

-- m_mayRead (170)
def zT170 : ZT := []
theorem zH170 : z_ok zT170 := .n
def zP170_0 : List ZO := [(5, [(3840, 0), (0, 0), (0, 0), (2, 0)]), (5, [(3392, 0), (0, 0), (0, 0), (1, 0)]), (3, [(0, 0), (1, 0), (3, 0), (4, 0)]), (0, [(0, 0)]), (5, [(4032, 0), (1, 0), (0, 0), (2, 0)]), (3, [(1, 0), (1, 0), (5, 0), (0, 0)]), (0, [(0, 0)]), (0, [(0, 1)])]
def zC170 : ZC := [(0, 2, [some (52, (0, 0), (0, 0)), some (0, (1, 0), (0, 0)), some (0, (2, 0), (0, 0))])]
theorem zG170 : z_go zC170 (z_A zT170) [] 170 400 true 9 zP170_0 0 [some (52, (0, 0), (0, 0)), some (0, (1, 0), (0, 0)), some (0, (2, 0), (0, 0))] [] 2 = true := by decide +kernel
def v_m_mayRead (x1 x2 : Int) (S : ZS) : Int := (bif decide ((S r_m_readerLands 0 0 x2) = (S r_m_lands 0 0 x1)) then 0 else (bif !decide ((S r_m_areDealt_r x1 0 x2) = 0) then 0 else 1))
def f_m_mayRead : ZFn := fun L S => match L with
  | [x1, x2] => ((0, [v_m_mayRead x1 x2 S]), S)
  | _ => ((0, []), S)
theorem pF_m_mayRead {x1 x2 : Int} {S : ZS} : f_m_mayRead [x1, x2] S = ((0, [v_m_mayRead x1 x2 S]), S) := id rfl
theorem zE170a {x1 x2 : Int} {S : ZS} : z_ev (z_F zT170) 9 zP170_0 [x1, x2] S = (bif decide ((S r_m_readerLands 0 0 x2) = (S r_m_lands 0 0 x1)) then ((0, [0]), S) else (bif !decide ((S r_m_areDealt_r x1 0 x2) = 0) then ((0, [0]), S) else ((0, [1]), S))) := id rfl
theorem zE170 {x1 x2 : Int} {S : ZS} : z_ev (z_F zT170) 9 zP170_0 [x1, x2] S = f_m_mayRead [x1, x2] S := zE170a.trans (by
  simp only [z_cv]
  rfl)
theorem zM170 : z_met 170 2 [(52, (0, 0), (0, 0)), (0, (1, 0), (0, 0)), (0, (2, 0), (0, 0))] f_m_mayRead := z_met_ev zH170 (fun _ _ h => absurd h List.not_mem_nil) rfl zG170 (by decide +kernel) (fun L S hn => match L, hn with
  | [x1, x2], _ => zE170)
def zW170 : List Nat := []
theorem zK170 : z_kp 2 zW170 f_m_mayRead := z_kp_ev (KT := []) (.n) (z_h163 rfl) (by decide +kernel) (fun L S hn => match L, hn with
  | [x1, x2], _ => zE170)

-- m_deal (171)
def zT171 : ZT := [(163, 2, [(52, (0, 0), (0, 0)), (0, (1, 0), (0, 0)), (0, (2, 0), (0, 0))], f_m_isThrown), (164, 3, [(0, (1, 0), (0, 0)), (0, (2, 0), (0, 0)), (0, (3, 0), (0, 0))], f_m_isIn), (166, 1, [(52, (0, 0), (0, 0)), (0, (1, 0), (0, 0))], f_m_isNoFilm), (170, 2, [(52, (0, 0), (0, 0)), (0, (1, 0), (0, 0)), (0, (2, 0), (0, 0))], f_m_mayRead)]
theorem zH171 : z_ok zT171 := .c zM163 (.c zM164 (.c zM166 (.c zM170 .n)))
theorem zF171_163 : z_F zT171 163 = f_m_isThrown := id rfl
theorem zF171_164 : z_F zT171 164 = f_m_isIn := id rfl
theorem zF171_166 : z_F zT171 166 = f_m_isNoFilm := id rfl
theorem zF171_170 : z_F zT171 170 = f_m_mayRead := id rfl
def zP171_0 : List ZO := [(7, [(166, 0), (1, 0)]), (13, [(163, 0), (0, 0), (3, 0), (0, 1)]), (3, [(1, 0), (1, 0), (3, 0), (0, 0)]), (0, [(0, 0)]), (7, [(164, 0), (2, 0), (0, 1), (0, 8)]), (3, [(1, 0), (2, 0), (4, 0), (0, 0)]), (13, [(163, 0), (0, 0), (0, 0), (0, 2)]), (2, [(43, 0), (1, 0), (2, 0), (0, 0), (0, 0)]), (13, [(163, 0), (0, 0), (0, 1), (0, 2)]), (0, [(0, 0)])]
def zP171_43 : List ZO := [(5, [(3245, 0), (0, 0), (0, 0), (0, 0)]), (3, [(3, 0), (5, 0), (4, 0), (5, 0)]), (3, [(3, 0), (2, 0), (3, 0), (2, 0)]), (13, [(163, 0), (0, 0), (0, 0), (0, 3)]), (2, [(99, 0), (1, 0), (2, 0), (0, 0)]), (13, [(163, 0), (0, 0), (0, 1), (0, 3)]), (0, [(0, 0)]), (7, [(170, 0), (1, 0), (4, 0)]), (3, [(0, 0), (3, 0), (6, 0), (0, 0)]), (4, [(0, 0), (3, 0), (0, 0)]), (4, [(0, 0), (4, 0), (0, 1)]), (2, [(43, 0), (1, 0), (2, 0), (7, 0), (8, 0)]), (4, [(0, 0), (3, 0), (0, 1)]), (4, [(0, 0), (4, 0), (0, 1)]), (2, [(43, 0), (1, 0), (2, 0), (7, 0), (8, 0)])]
def zP171_99 : List ZO := [(3, [(3, 0), (1, 0), (3, 0), (2, 0)]), (2, [(200, 0), (1, 0), (0, 0), (0, 0)]), (2, [(111, 0), (1, 0), (2, 0), (3, 0), (0, (-1)), (0, 0)])]
def zP171_111 : List ZO := [(5, [(3245, 0), (0, 0), (0, 0), (0, 0)]), (3, [(3, 0), (6, 0), (5, 0), (6, 0)]), (6, [(4032, 0), (1, 0), (1, 0), (0, 0), (4, 0), (0, 1)]), (5, [(3904, 0), (0, 0), (0, 0), (4, 0)]), (4, [(0, 0), (7, 0), (0, 1)]), (6, [(3904, 0), (0, 0), (0, 0), (0, 0), (4, 0), (8, 0)]), (4, [(0, 0), (3, 0), (0, 1)]), (2, [(99, 0), (1, 0), (2, 0), (9, 0)]), (7, [(170, 0), (1, 0), (5, 0)]), (3, [(0, 0), (2, 0), (7, 0), (0, 0)]), (4, [(0, 0), (5, 0), (0, 1)]), (2, [(111, 0), (1, 0), (2, 0), (3, 0), (4, 0), (8, 0)]), (3, [(2, 0), (2, 0), (4, 0), (0, 0)]), (4, [(0, 0), (5, 0), (0, 1)]), (2, [(111, 0), (1, 0), (2, 0), (3, 0), (5, 0), (8, 0)]), (5, [(3904, 0), (0, 0), (0, 0), (5, 0)]), (5, [(3904, 0), (0, 0), (0, 0), (4, 0)]), (3, [(3, 0), (2, 0), (8, 0), (9, 0)]), (4, [(0, 0), (5, 0), (0, 1)]), (2, [(111, 0), (1, 0), (2, 0), (3, 0), (4, 0), (10, 0)]), (4, [(0, 0), (5, 0), (0, 1)]), (2, [(111, 0), (1, 0), (2, 0), (3, 0), (5, 0), (10, 0)])]
def zP171_200 : List ZO := [(5, [(3245, 0), (0, 0), (0, 0), (0, 0)]), (3, [(3, 0), (1, 0), (3, 0), (4, 0)]), (0, [(2, 0)]), (5, [(4032, 0), (1, 0), (0, 0), (3, 0)]), (3, [(0, 0), (3, 0), (5, 0), (0, 0)]), (4, [(0, 0), (2, 0), (0, 0)]), (4, [(0, 0), (3, 0), (0, 1)]), (2, [(200, 0), (1, 0), (6, 0), (7, 0)]), (4, [(0, 0), (2, 0), (0, 1)]), (4, [(0, 0), (3, 0), (0, 1)]), (2, [(200, 0), (1, 0), (6, 0), (7, 0)])]
def zD171 : ZD := [(0, 2, [some (52, (0, 0), (0, 0)), some (0, (1, 0), (0, 0)), some (0, (2, 0), (0, 0)), none, none, none, none], 11, zP171_0), (43, 4, [some (52, (0, 0), (0, 0)), some (0, (1, 0), (0, 0)), some (0, (2, 0), (0, 0)), some (0, (3, 0), (0, 0)), some (0, (4, 0), (0, 0)), none, none], 16, zP171_43), (99, 3, [some (52, (0, 0), (0, 0)), some (0, (1, 0), (0, 0)), some (0, (2, 0), (0, 0)), none, some (0, (3, 0), (0, 0)), none, none], 4, zP171_99), (111, 5, [some (52, (0, 0), (0, 0)), some (0, (1, 0), (0, 0)), some (0, (2, 0), (0, 0)), none, some (0, (3, 0), (0, 0)), some (0, (4, 0), (0, 0)), some (0, (5, 0), (0, 0))], 23, zP171_111), (200, 3, [some (52, (0, 0), (0, 0)), some (0, (1, 0), (0, 0)), none, none, some (0, (2, 0), (0, 0)), some (0, (3, 0), (0, 0)), none], 12, zP171_200)]
theorem zG171 : z_chk zT171 [(163, 0)] 171 zD171 = true := by decide +kernel
noncomputable def g_m_deal (R : ZR) : ZR := z_psi (z_st (z_F zT171) zD171) R
noncomputable def f_m_deal : ZFn := fun L S => g_m_deal ((1000, L), S)
theorem zM171 : z_met 171 2 [(52, (0, 0), (0, 0)), (0, (1, 0), (0, 0)), (0, (2, 0), (0, 0))] f_m_deal := z_met_psi zH171 (fun _ _ h => by rw [List.mem_singleton] at h; cases h; exact fun _ _ => rfl) rfl zG171
theorem zE171_0 {x1 x2 : Int} {S : ZS} : z_st (z_F zT171) zD171 0 [x1, x2] S = (bif !decide ((v_m_isNoFilm x1 S) = 0) then ((0, [0]), (e_upd S r_m_thrown 0 0 0 (bif !decide ((v_m_isNoFilm x1 S) = 0) then 1 else 0))) else (bif !decide ((v_m_isIn x2 1 8 (e_upd S r_m_thrown 0 0 0 (bif !decide ((v_m_isNoFilm x1 S) = 0) then 1 else 0))) = 0) then ((1043, [x1, x2, 0, 0]), (e_upd (e_upd S r_m_thrown 0 0 0 (bif !decide ((v_m_isNoFilm x1 S) = 0) then 1 else 0)) r_m_thrown 0 0 0 0)) else ((0, [0]), (e_upd (e_upd S r_m_thrown 0 0 0 (bif !decide ((v_m_isNoFilm x1 S) = 0) then 1 else 0)) r_m_thrown 0 0 0 2)))) := (id rfl : z_st (z_F zT171) zD171 0 [x1, x2] S = z_ev (z_F zT171) 11 zP171_0 [x1, x2] S).trans (id rfl)
theorem g_m_deal_0 {x1 x2 : Int} {S : ZS} : g_m_deal ((1000, [x1, x2]), S) = (bif !decide ((v_m_isNoFilm x1 S) = 0) then ((0, [0]), (e_upd S r_m_thrown 0 0 0 (bif !decide ((v_m_isNoFilm x1 S) = 0) then 1 else 0))) else (bif !decide ((v_m_isIn x2 1 8 (e_upd S r_m_thrown 0 0 0 (bif !decide ((v_m_isNoFilm x1 S) = 0) then 1 else 0))) = 0) then (g_m_deal ((1043, [x1, x2, 0, 0]), (e_upd (e_upd S r_m_thrown 0 0 0 (bif !decide ((v_m_isNoFilm x1 S) = 0) then 1 else 0)) r_m_thrown 0 0 0 0))) else ((0, [0]), (e_upd (e_upd S r_m_thrown 0 0 0 (bif !decide ((v_m_isNoFilm x1 S) = 0) then 1 else 0)) r_m_thrown 0 0 0 2)))) := by
  unfold g_m_deal
  refine ((z_psi_go (pc := 0)).trans (congrArg _ zE171_0)).trans ?_
  try simp only [z_psi_c, z_psi_b, z_psi_n, Nat.reduceLT, decide_true]
theorem zE171_43 {x1 x2 x3 x4 : Int} {S : ZS} : z_st (z_F zT171) zD171 43 [x1, x2, x3, x4] S = (bif decide ((S r_m_readers 0 0 0) ≤ x4) then (bif decide (x2 ≤ x3) then ((1099, [x1, x2, 0]), (e_upd S r_m_thrown 0 0 0 0)) else ((0, [0]), (e_upd S r_m_thrown 0 0 0 3))) else (bif decide ((v_m_mayRead x1 x4 S) = 0) then ((1043, [x1, x2, (e_wr (x3 + 0)), (e_wr (x4 + 1))]), S) else ((1043, [x1, x2, (e_wr (x3 + 1)), (e_wr (x4 + 1))]), S))) := (id rfl : z_st (z_F zT171) zD171 43 [x1, x2, x3, x4] S = z_ev (z_F zT171) 16 zP171_43 [x1, x2, x3, x4] S).trans (by
  simp -implicitDefEqProofs only [zP171_43, zF171_163, zF171_164, zF171_166, zF171_170, zpI0, zpI1, zpIc, pF_m_isIn, pF_m_isNoFilm, pF_m_mayRead, Nat.zero_add, Nat.reduceAdd, Nat.reduceBEq, Int.reduceToNat, z_e0, z_e1, z_e2, z_e3, z_e4, z_e5, z_e6, z_e7, z_e8, z_e11, z_e13, o_v0, o_v1, o_v2, List.cons_append, List.nil_append, List.map_cons, List.map_nil, List.drop_succ_cons, List.drop_zero, List.take_succ_cons, List.take_zero, e_c0, e_c1, e_c2, e_c3, e_c4, e_c5, e_b0, e_b1, e_b2, e_b3, e_b4, e_b5, e_b6, e_b7, e_b8, e_b9, e_b10, e_b11, e_b12, e_b13, e_b14, e_b15, e_b16, e_b17, e_n0, e_bnd, e_un]
  try rfl)
theorem g_m_deal_43 {x1 x2 x3 x4 : Int} {S : ZS} : g_m_deal ((1043, [x1, x2, x3, x4]), S) = (bif decide ((S r_m_readers 0 0 0) ≤ x4) then (bif decide (x2 ≤ x3) then (g_m_deal ((1099, [x1, x2, 0]), (e_upd S r_m_thrown 0 0 0 0))) else ((0, [0]), (e_upd S r_m_thrown 0 0 0 3))) else (bif decide ((v_m_mayRead x1 x4 S) = 0) then (g_m_deal ((1043, [x1, x2, (e_wr (x3 + 0)), (e_wr (x4 + 1))]), S)) else (g_m_deal ((1043, [x1, x2, (e_wr (x3 + 1)), (e_wr (x4 + 1))]), S)))) := by
  unfold g_m_deal
  refine ((z_psi_go (pc := 43)).trans (congrArg _ zE171_43)).trans ?_
  try simp only [z_psi_c, z_psi_b, z_psi_n, Nat.reduceLT, decide_true]
theorem zE171_99 {x1 x2 x3 : Int} {S : ZS} : z_st (z_F zT171) zD171 99 [x1, x2, x3] S = (bif decide (x2 ≤ x3) then ((1200, [x1, 0, 0]), S) else ((1111, [x1, x2, x3, (-1), 0]), S)) := (id rfl : z_st (z_F zT171) zD171 99 [x1, x2, x3] S = z_ev (z_F zT171) 4 zP171_99 [x1, x2, x3] S).trans (id rfl)
theorem g_m_deal_99 {x1 x2 x3 : Int} {S : ZS} : g_m_deal ((1099, [x1, x2, x3]), S) = (bif decide (x2 ≤ x3) then (g_m_deal ((1200, [x1, 0, 0]), S)) else (g_m_deal ((1111, [x1, x2, x3, (-1), 0]), S))) := by
  unfold g_m_deal
  refine ((z_psi_go (pc := 99)).trans (congrArg _ zE171_99)).trans ?_
  try simp only [z_psi_c, z_psi_b, z_psi_n, Nat.reduceLT, decide_true]
theorem zE171_111 {x1 x2 x3 x4 x5 : Int} {S : ZS} : z_st (z_F zT171) zD171 111 [x1, x2, x3, x4, x5] S = (bif decide ((S r_m_readers 0 0 0) ≤ x5) then ((1099, [x1, x2, (e_wr (x3 + 1))]), (e_upd (e_upd S r_m_areDealt_r x1 0 x4 (e_nar 1 1)) r_m_dealtMany 0 0 x4 (e_wr ((S r_m_dealtMany 0 0 x4) + 1)))) else (bif decide ((v_m_mayRead x1 x5 S) = 0) then ((1111, [x1, x2, x3, x4, (e_wr (x5 + 1))]), S) else (bif decide (x4 < 0) then ((1111, [x1, x2, x3, x5, (e_wr (x5 + 1))]), S) else (bif decide ((S r_m_dealtMany 0 0 x4) ≤ (S r_m_dealtMany 0 0 x5)) then ((1111, [x1, x2, x3, x4, (e_wr (x5 + 1))]), S) else ((1111, [x1, x2, x3, x5, (e_wr (x5 + 1))]), S))))) := (id rfl : z_st (z_F zT171) zD171 111 [x1, x2, x3, x4, x5] S = z_ev (z_F zT171) 23 zP171_111 [x1, x2, x3, x4, x5] S).trans (by
  simp -implicitDefEqProofs only [zP171_111, zF171_163, zF171_164, zF171_166, zF171_170, zpI0, zpI1, zpIc, pF_m_isIn, pF_m_isNoFilm, pF_m_mayRead, Nat.zero_add, Nat.reduceAdd, Nat.reduceBEq, Int.reduceToNat, z_e0, z_e1, z_e2, z_e3, z_e4, z_e5, z_e6, z_e7, z_e8, z_e11, z_e13, o_v0, o_v1, o_v2, List.cons_append, List.nil_append, List.map_cons, List.map_nil, List.drop_succ_cons, List.drop_zero, List.take_succ_cons, List.take_zero, e_c0, e_c1, e_c2, e_c3, e_c4, e_c5, e_b0, e_b1, e_b2, e_b3, e_b4, e_b5, e_b6, e_b7, e_b8, e_b9, e_b10, e_b11, e_b12, e_b13, e_b14, e_b15, e_b16, e_b17, e_n0, e_bnd, e_un]
  try rfl)
theorem g_m_deal_111 {x1 x2 x3 x4 x5 : Int} {S : ZS} : g_m_deal ((1111, [x1, x2, x3, x4, x5]), S) = (bif decide ((S r_m_readers 0 0 0) ≤ x5) then (g_m_deal ((1099, [x1, x2, (e_wr (x3 + 1))]), (e_upd (e_upd S r_m_areDealt_r x1 0 x4 (e_nar 1 1)) r_m_dealtMany 0 0 x4 (e_wr ((S r_m_dealtMany 0 0 x4) + 1))))) else (bif decide ((v_m_mayRead x1 x5 S) = 0) then (g_m_deal ((1111, [x1, x2, x3, x4, (e_wr (x5 + 1))]), S)) else (bif decide (x4 < 0) then (g_m_deal ((1111, [x1, x2, x3, x5, (e_wr (x5 + 1))]), S)) else (bif decide ((S r_m_dealtMany 0 0 x4) ≤ (S r_m_dealtMany 0 0 x5)) then (g_m_deal ((1111, [x1, x2, x3, x4, (e_wr (x5 + 1))]), S)) else (g_m_deal ((1111, [x1, x2, x3, x5, (e_wr (x5 + 1))]), S)))))) := by
  unfold g_m_deal
  refine ((z_psi_go (pc := 111)).trans (congrArg _ zE171_111)).trans ?_
  try simp only [z_psi_c, z_psi_b, z_psi_n, Nat.reduceLT, decide_true]
theorem zE171_200 {x1 x2 x3 : Int} {S : ZS} : z_st (z_F zT171) zD171 200 [x1, x2, x3] S = (bif decide ((S r_m_readers 0 0 0) ≤ x3) then ((0, [x2]), S) else (bif decide ((S r_m_areDealt_r x1 0 x3) = 0) then ((1200, [x1, (e_wr (x2 + 0)), (e_wr (x3 + 1))]), S) else ((1200, [x1, (e_wr (x2 + 1)), (e_wr (x3 + 1))]), S))) := (id rfl : z_st (z_F zT171) zD171 200 [x1, x2, x3] S = z_ev (z_F zT171) 12 zP171_200 [x1, x2, x3] S).trans (id rfl)
theorem g_m_deal_200 {x1 x2 x3 : Int} {S : ZS} : g_m_deal ((1200, [x1, x2, x3]), S) = (bif decide ((S r_m_readers 0 0 0) ≤ x3) then ((0, [x2]), S) else (bif decide ((S r_m_areDealt_r x1 0 x3) = 0) then (g_m_deal ((1200, [x1, (e_wr (x2 + 0)), (e_wr (x3 + 1))]), S)) else (g_m_deal ((1200, [x1, (e_wr (x2 + 1)), (e_wr (x3 + 1))]), S)))) := by
  unfold g_m_deal
  refine ((z_psi_go (pc := 200)).trans (congrArg _ zE171_200)).trans ?_
  try simp only [z_psi_c, z_psi_b, z_psi_n, Nat.reduceLT, decide_true]
def zW171 : List Nat := [r_m_thrown, r_m_dealtMany, r_m_areDealt_r]
theorem zK171 : z_kp 2 zW171 f_m_deal := fun L S hL hc r i j k hr => z_psi_kp (KT := [(163, 2, zW163), (164, 3, zW164), (166, 1, zW166), (170, 2, zW170)]) (F := z_F zT171) (W := zW171) (D := zD171) (.c zF171_163 zK163 (.c zF171_164 zK164 (.c zF171_166 zK166 (.c zF171_170 zK170 .n)))) (fun _ _ => Or.inl rfl) (by decide +kernel) _ hc r i j k hr

-- x_checkReader (144)
def zT144 : ZT := [(142, 2, [(0, (1, 0), (0, 0)), (0, (2, 0), (0, 0))], f_x_checkNumber)]
theorem zH144 : z_ok zT144 := .c zM142 .n
theorem zF144_142 : z_F zT144 142 = f_x_checkNumber := id rfl
def zP144_0 : List ZO := [(5, [(1669, 0), (0, 0), (0, 0), (0, 0)]), (7, [(142, 0), (1, 0), (2, 0)]), (0, [])]
def zC144 : ZC := [(0, 1, [some (2, (0, 0), (0, 0)), some (0, (1, 0), (0, 0))])]
theorem zG144 : z_go zC144 (z_A zT144) [] 144 400 true 4 zP144_0 0 [some (2, (0, 0), (0, 0)), some (0, (1, 0), (0, 0))] [] 1 = true := by decide +kernel
def f_x_checkReader : ZFn := fun L S => match L with
  | [x1] => (e_bind (f_x_checkNumber [x1, (S r_Readings_readerCount 0 0 0)] S) (fun v1 S1 => ((0, []), S1)))
  | _ => ((0, []), S)
theorem zE144 {x1 : Int} {S : ZS} : z_ev (z_F zT144) 4 zP144_0 [x1] S = f_x_checkReader [x1] S := id rfl
theorem zM144 : z_met 144 1 [(2, (0, 0), (0, 0)), (0, (1, 0), (0, 0))] f_x_checkReader := z_met_ev zH144 (fun _ _ h => absurd h List.not_mem_nil) rfl zG144 (by decide +kernel) (fun L S hn => match L, hn with
  | [x1], _ => zE144)
def zW144 : List Nat := []
theorem zK144 : z_kp 1 zW144 f_x_checkReader := z_kp_ev (KT := [(142, 2, zW142)]) (.c zF144_142 zK142 .n) (z_h163 rfl) (by decide +kernel) (fun L S hn => match L, hn with
  | [x1], _ => zE144)

-- x_isDealt (93)
def zT93 : ZT := [(143, 1, [(2, (0, 0), (0, 0)), (0, (1, 0), (0, 0))], f_x_checkFilm), (144, 1, [(2, (0, 0), (0, 0)), (0, (1, 0), (0, 0))], f_x_checkReader)]
theorem zH93 : z_ok zT93 := .c zM143 (.c zM144 .n)
theorem zF93_143 : z_F zT93 143 = f_x_checkFilm := id rfl
theorem zF93_144 : z_F zT93 144 = f_x_checkReader := id rfl
def zP93_0 : List ZO := [(7, [(143, 0), (1, 0)]), (7, [(144, 0), (2, 0)]), (5, [(2048, 0), (1, 0), (0, 0), (2, 0)]), (3, [(0, 0), (1, 0), (5, 0), (0, (-2))]), (0, [(0, 0)]), (0, [(0, 1)])]
def zC93 : ZC := [(0, 2, [some (2, (0, 0), (0, 0)), some (0, (1, 0), (0, 0)), some (0, (2, 0), (0, 0))])]
theorem zG93 : z_go zC93 (z_A zT93) [] 93 400 true 7 zP93_0 0 [some (2, (0, 0), (0, 0)), some (0, (1, 0), (0, 0)), some (0, (2, 0), (0, 0))] [] 2 = true := by decide +kernel
def f_x_isDealt : ZFn := fun L S => match L with
  | [x1, x2] => (e_bind (f_x_checkFilm [x1] S) (fun v1 S1 => (e_bind (f_x_checkReader [x2] S1) (fun v2 S2 => (bif decide ((S2 r_Readings_marks_r x1 0 x2) = (-2)) then ((0, [0]), S2) else ((0, [1]), S2))))))
  | _ => ((0, []), S)
theorem zE93 {x1 x2 : Int} {S : ZS} : z_ev (z_F zT93) 7 zP93_0 [x1, x2] S = f_x_isDealt [x1, x2] S := id rfl
theorem zM93 : z_met 93 2 [(2, (0, 0), (0, 0)), (0, (1, 0), (0, 0)), (0, (2, 0), (0, 0))] f_x_isDealt := z_met_ev zH93 (fun _ _ h => absurd h List.not_mem_nil) rfl zG93 (by decide +kernel) (fun L S hn => match L, hn with
  | [x1, x2], _ => zE93)
def zW93 : List Nat := []
theorem zK93 : z_kp 2 zW93 f_x_isDealt := z_kp_ev (KT := [(143, 1, zW143), (144, 1, zW144)]) (.c zF93_143 zK143 (.c zF93_144 zK144 .n)) (z_h163 rfl) (by decide +kernel) (fun L S hn => match L, hn with
  | [x1, x2], _ => zE93)

-- w_isDealt (259)
def zT259 : ZT := [(93, 2, [(2, (0, 0), (0, 0)), (0, (1, 0), (0, 0)), (0, (2, 0), (0, 0))], f_x_isDealt)]
theorem zH259 : z_ok zT259 := .c zM93 .n
theorem zF259_93 : z_F zT259 93 = f_x_isDealt := id rfl
def zP259_0 : List ZO := [(11, [(93, 0), (1, 0), (0, 5), (1, 0), (2, 0)]), (3, [(0, 0), (2, 0), (3, 0), (0, 0)]), (6, [(6976, 0), (0, 0), (0, 0), (0, 0), (0, 0), (0, 0)]), (0, [(0, 0)]), (6, [(6976, 0), (0, 0), (0, 0), (0, 0), (0, 0), (0, 1)]), (0, [(0, 0)]), (0, [(0, 1)])]
def zC259 : ZC := [(0, 2, [some (2, (0, 0), (0, 0)), some (0, (1, 0), (0, 0)), some (0, (2, 0), (0, 0)), some (111, (0, 0), (0, 0)), none])]
theorem zG259 : z_go zC259 (z_A zT259) [] 259 400 true 8 zP259_0 0 [some (2, (0, 0), (0, 0)), some (0, (1, 0), (0, 0)), some (0, (2, 0), (0, 0)), some (111, (0, 0), (0, 0)), none] [] 2 = true := by decide +kernel
def f_w_isDealt : ZFn := fun L S => match L with
  | [x1, x2] => (e_try (f_x_isDealt [x1, x2] S) (fun v1 S1 => (bif decide (v1 = 0) then ((0, [0]), (e_upd S1 r_out 0 0 0 0)) else ((0, [0]), (e_upd S1 r_out 0 0 0 1)))) [(0, 1)])
  | _ => ((0, []), S)
theorem zE259 {x1 x2 : Int} {S : ZS} : z_ev (z_F zT259) 8 zP259_0 [x1, x2] S = f_w_isDealt [x1, x2] S := id rfl
theorem zM259 : z_met 259 2 [(2, (0, 0), (0, 0)), (0, (1, 0), (0, 0)), (0, (2, 0), (0, 0)), (111, (0, 0), (0, 0))] f_w_isDealt := z_met_ev zH259 (fun _ _ h => absurd h List.not_mem_nil) rfl zG259 (by decide +kernel) (fun L S hn => match L, hn with
  | [x1, x2], _ => zE259)
def zW259 : List Nat := [r_out]
theorem zK259 : z_kp 2 zW259 f_w_isDealt := z_kp_ev (KT := [(93, 2, zW93)]) (.c zF259_93 zK93 .n) (z_h163 rfl) (by decide +kernel) (fun L S hn => match L, hn with
  | [x1, x2], _ => zE259)

-- m_isNoReader (172)
def zT172 : ZT := [(163, 2, [(52, (0, 0), (0, 0)), (0, (1, 0), (0, 0)), (0, (2, 0), (0, 0))], f_m_isThrown), (164, 3, [(0, (1, 0), (0, 0)), (0, (2, 0), (0, 0)), (0, (3, 0), (0, 0))], f_m_isIn), (166, 1, [(52, (0, 0), (0, 0)), (0, (1, 0), (0, 0))], f_m_isNoFilm)]
theorem zH172 : z_ok zT172 := .c zM163 (.c zM164 (.c zM166 .n))
theorem zF172_163 : z_F zT172 163 = f_m_isThrown := id rfl
theorem zF172_164 : z_F zT172 164 = f_m_isIn := id rfl
theorem zF172_166 : z_F zT172 166 = f_m_isNoFilm := id rfl
def zP172_0 : List ZO := [(7, [(166, 0), (1, 0)]), (3, [(1, 0), (2, 0), (3, 0), (0, 0)]), (13, [(163, 0), (0, 0), (0, 1), (0, 1)]), (0, [(0, 1)]), (5, [(3245, 0), (0, 0), (0, 0), (0, 0)]), (4, [(1, 0), (4, 0), (0, 1)]), (7, [(164, 0), (2, 0), (0, 0), (5, 0)]), (3, [(1, 0), (2, 0), (6, 0), (0, 0)]), (13, [(163, 0), (0, 0), (0, 0), (0, 1)]), (0, [(0, 0)]), (13, [(163, 0), (0, 0), (0, 1), (0, 1)]), (0, [(0, 1)])]
def zC172 : ZC := [(0, 2, [some (52, (0, 0), (0, 0)), some (0, (1, 0), (0, 0)), some (0, (2, 0), (0, 0))])]
theorem zG172 : z_go zC172 (z_A zT172) [(163, 0)] 172 400 true 13 zP172_0 0 [some (52, (0, 0), (0, 0)), some (0, (1, 0), (0, 0)), some (0, (2, 0), (0, 0))] [] 2 = true := by decide +kernel
def f_m_isNoReader : ZFn := fun L S => match L with
  | [x1, x2] => (bif !decide ((v_m_isNoFilm x1 S) = 0) then ((0, [1]), (e_upd S r_m_thrown 0 0 0 1)) else (bif !decide ((v_m_isIn x2 0 (e_wr ((S r_m_readers 0 0 0) - 1)) S) = 0) then ((0, [0]), (e_upd S r_m_thrown 0 0 0 0)) else ((0, [1]), (e_upd S r_m_thrown 0 0 0 1))))
  | _ => ((0, []), S)
theorem zE172 {x1 x2 : Int} {S : ZS} : z_ev (z_F zT172) 13 zP172_0 [x1, x2] S = f_m_isNoReader [x1, x2] S := id rfl
theorem zM172 : z_met 172 2 [(52, (0, 0), (0, 0)), (0, (1, 0), (0, 0)), (0, (2, 0), (0, 0))] f_m_isNoReader := z_met_ev zH172 (fun _ _ h => by rw [List.mem_singleton] at h; cases h; exact fun _ _ => rfl) rfl zG172 (by decide +kernel) (fun L S hn => match L, hn with
  | [x1, x2], _ => zE172)
def zW172 : List Nat := [r_m_thrown]
theorem zK172 : z_kp 2 zW172 f_m_isNoReader := z_kp_ev (KT := [(163, 2, zW163), (164, 3, zW164), (166, 1, zW166)]) (.c zF172_163 zK163 (.c zF172_164 zK164 (.c zF172_166 zK166 .n))) (fun _ _ => Or.inl rfl) (by decide +kernel) (fun L S hn => match L, hn with
  | [x1, x2], _ => zE172)

-- m_isDealt (173)
def zT173 : ZT := [(172, 2, [(52, (0, 0), (0, 0)), (0, (1, 0), (0, 0)), (0, (2, 0), (0, 0))], f_m_isNoReader)]
theorem zH173 : z_ok zT173 := .c zM172 .n
theorem zF173_172 : z_F zT173 172 = f_m_isNoReader := id rfl
def zP173_0 : List ZO := [(7, [(172, 0), (1, 0), (2, 0)]), (3, [(1, 0), (1, 0), (3, 0), (0, 0)]), (0, [(0, 0)]), (5, [(4032, 0), (1, 0), (0, 0), (2, 0)]), (3, [(0, 0), (1, 0), (4, 0), (0, 0)]), (0, [(0, 0)]), (0, [(0, 1)])]
def zC173 : ZC := [(0, 2, [some (52, (0, 0), (0, 0)), some (0, (1, 0), (0, 0)), some (0, (2, 0), (0, 0))])]
theorem zG173 : z_go zC173 (z_A zT173) [] 173 400 true 8 zP173_0 0 [some (52, (0, 0), (0, 0)), some (0, (1, 0), (0, 0)), some (0, (2, 0), (0, 0))] [] 2 = true := by decide +kernel
def f_m_isDealt : ZFn := fun L S => match L with
  | [x1, x2] => (e_bind (f_m_isNoReader [x1, x2] S) (fun v1 S1 => (bif !decide (v1 = 0) then ((0, [0]), S1) else (bif decide ((S1 r_m_areDealt_r x1 0 x2) = 0) then ((0, [0]), S1) else ((0, [1]), S1)))))
  | _ => ((0, []), S)
theorem zE173 {x1 x2 : Int} {S : ZS} : z_ev (z_F zT173) 8 zP173_0 [x1, x2] S = f_m_isDealt [x1, x2] S := id rfl
theorem zM173 : z_met 173 2 [(52, (0, 0), (0, 0)), (0, (1, 0), (0, 0)), (0, (2, 0), (0, 0))] f_m_isDealt := z_met_ev zH173 (fun _ _ h => absurd h List.not_mem_nil) rfl zG173 (by decide +kernel) (fun L S hn => match L, hn with
  | [x1, x2], _ => zE173)
def zW173 : List Nat := [r_m_thrown]
theorem zK173 : z_kp 2 zW173 f_m_isDealt := z_kp_ev (KT := [(172, 2, zW172)]) (.c zF173_172 zK172 .n) (z_h163 rfl) (by decide +kernel) (fun L S hn => match L, hn with
  | [x1, x2], _ => zE173)

-- Readings_tell (64)
def zT64 : ZT := []
theorem zH64 : z_ok zT64 := .n
def zP64_0 : List ZO := [(6, [(2048, 0), (0, 0), (1, 0), (0, 0), (2, 0), (3, 0)]), (5, [(1856, 0), (0, 0), (0, 0), (2, 0)]), (4, [(0, 0), (4, 0), (0, 1)]), (6, [(1856, 0), (0, 0), (0, 0), (0, 0), (2, 0), (5, 0)]), (5, [(1920, 0), (0, 0), (0, 0), (2, 0)]), (4, [(0, 0), (6, 0), (3, 0)]), (6, [(1920, 0), (0, 0), (0, 0), (0, 0), (2, 0), (7, 0)]), (0, [])]
def zC64 : ZC := [(0, 3, [some (28, (0, 0), (0, 0)), some (0, (1, 0), (0, 0)), some (0, (2, 0), (0, 0)), some (0, (3, 0), (0, 0))])]
theorem zG64 : z_go zC64 (z_A zT64) [] 64 400 true 9 zP64_0 0 [some (28, (0, 0), (0, 0)), some (0, (1, 0), (0, 0)), some (0, (2, 0), (0, 0)), some (0, (3, 0), (0, 0))] [] 3 = true := by decide +kernel
def f_Readings_tell : ZFn := fun L S => match L with
  | [x1, x2, x3] => ((0, []), (e_upd (e_upd (e_upd S r_Readings_marks_r x1 0 x2 x3) r_Readings_toldScores 0 0 x2 (e_wr ((S r_Readings_toldScores 0 0 x2) + 1))) r_Readings_sums 0 0 x2 (e_wr ((S r_Readings_sums 0 0 x2) + x3))))
  | _ => ((0, []), S)
theorem zE64 {x1 x2 x3 : Int} {S : ZS} : z_ev (z_F zT64) 9 zP64_0 [x1, x2, x3] S = f_Readings_tell [x1, x2, x3] S := id rfl
theorem zM64 : z_met 64 3 [(28, (0, 0), (0, 0)), (0, (1, 0), (0, 0)), (0, (2, 0), (0, 0)), (0, (3, 0), (0, 0))] f_Readings_tell := z_met_ev zH64 (fun _ _ h => absurd h List.not_mem_nil) rfl zG64 (by decide +kernel) (fun L S hn => match L, hn with
  | [x1, x2, x3], _ => zE64)
def zW64 : List Nat := [r_Readings_toldScores, r_Readings_sums, r_Readings_marks_r]
theorem zK64 : z_kp 3 zW64 f_Readings_tell := z_kp_ev (KT := []) (.n) (z_h163 rfl) (by decide +kernel) (fun L S hn => match L, hn with
  | [x1, x2, x3], _ => zE64)

-- Readings_countTold (65)
def zT65 : ZT := []
theorem zH65 : z_ok zT65 := .n
def zP65_0 : List ZO := [(2, [(4, 0), (1, 0), (0, 0), (0, 0)])]
def zP65_4 : List ZO := [(5, [(1669, 0), (0, 0), (0, 0), (0, 0)]), (3, [(3, 0), (1, 0), (3, 0), (4, 0)]), (0, [(2, 0)]), (5, [(2048, 0), (1, 0), (0, 0), (3, 0)]), (3, [(2, 0), (2, 0), (5, 0), (0, 0)]), (4, [(0, 0), (3, 0), (0, 1)]), (2, [(4, 0), (1, 0), (2, 0), (6, 0)]), (4, [(0, 0), (2, 0), (0, 1)]), (4, [(0, 0), (3, 0), (0, 1)]), (2, [(4, 0), (1, 0), (6, 0), (7, 0)])]
def zD65 : ZD := [(0, 1, [some (28, (0, 0), (0, 0)), some (0, (1, 0), (0, 0)), none, none], 2, zP65_0), (4, 3, [some (28, (0, 0), (0, 0)), some (0, (1, 0), (0, 0)), some (0, (2, 0), (0, 0)), some (0, (3, 0), (0, 0))], 11, zP65_4)]
theorem zG65 : z_chk zT65 [] 65 zD65 = true := by decide +kernel
noncomputable def g_Readings_countTold (R : ZR) : ZR := z_psi (z_st (z_F zT65) zD65) R
noncomputable def f_Readings_countTold : ZFn := fun L S => g_Readings_countTold ((1000, L), S)
theorem zM65 : z_met 65 1 [(28, (0, 0), (0, 0)), (0, (1, 0), (0, 0))] f_Readings_countTold := z_met_psi zH65 (fun _ _ h => absurd h List.not_mem_nil) rfl zG65
theorem zE65_0 {x1 : Int} {S : ZS} : z_st (z_F zT65) zD65 0 [x1] S = ((1004, [x1, 0, 0]), S) := (id rfl : z_st (z_F zT65) zD65 0 [x1] S = z_ev (z_F zT65) 2 zP65_0 [x1] S).trans (id rfl)
theorem g_Readings_countTold_0 {x1 : Int} {S : ZS} : g_Readings_countTold ((1000, [x1]), S) = (g_Readings_countTold ((1004, [x1, 0, 0]), S)) := by
  unfold g_Readings_countTold
  refine ((z_psi_go (pc := 0)).trans (congrArg _ zE65_0)).trans ?_
  try simp only [z_psi_c, z_psi_b, z_psi_n, Nat.reduceLT, decide_true]
theorem zE65_4 {x1 x2 x3 : Int} {S : ZS} : z_st (z_F zT65) zD65 4 [x1, x2, x3] S = (bif decide ((S r_Readings_readerCount 0 0 0) ≤ x3) then ((0, [x2]), S) else (bif decide ((S r_Readings_marks_r x1 0 x3) < 0) then ((1004, [x1, x2, (e_wr (x3 + 1))]), S) else ((1004, [x1, (e_wr (x2 + 1)), (e_wr (x3 + 1))]), S))) := (id rfl : z_st (z_F zT65) zD65 4 [x1, x2, x3] S = z_ev (z_F zT65) 11 zP65_4 [x1, x2, x3] S).trans (id rfl)
theorem g_Readings_countTold_4 {x1 x2 x3 : Int} {S : ZS} : g_Readings_countTold ((1004, [x1, x2, x3]), S) = (bif decide ((S r_Readings_readerCount 0 0 0) ≤ x3) then ((0, [x2]), S) else (bif decide ((S r_Readings_marks_r x1 0 x3) < 0) then (g_Readings_countTold ((1004, [x1, x2, (e_wr (x3 + 1))]), S)) else (g_Readings_countTold ((1004, [x1, (e_wr (x2 + 1)), (e_wr (x3 + 1))]), S)))) := by
  unfold g_Readings_countTold
  refine ((z_psi_go (pc := 4)).trans (congrArg _ zE65_4)).trans ?_
  try simp only [z_psi_c, z_psi_b, z_psi_n, Nat.reduceLT, decide_true]
def zW65 : List Nat := []
theorem zK65 : z_kp 1 zW65 f_Readings_countTold := fun L S hL hc r i j k hr => z_psi_kp (KT := []) (F := z_F zT65) (W := zW65) (D := zD65) (.n) (z_h163 rfl) (by decide +kernel) _ hc r i j k hr

-- x_read (94)
noncomputable def zT94 : ZT := [(64, 3, [(28, (0, 0), (0, 0)), (0, (1, 0), (0, 0)), (0, (2, 0), (0, 0)), (0, (3, 0), (0, 0))], f_Readings_tell), (65, 1, [(28, (0, 0), (0, 0)), (0, (1, 0), (0, 0))], f_Readings_countTold), (138, 3, [(0, (1, 0), (0, 0)), (0, (2, 0), (0, 0)), (0, (3, 0), (0, 0))], f_x_isWithin), (143, 1, [(2, (0, 0), (0, 0)), (0, (1, 0), (0, 0))], f_x_checkFilm), (144, 1, [(2, (0, 0), (0, 0)), (0, (1, 0), (0, 0))], f_x_checkReader)]
theorem zH94 : z_ok zT94 := .c zM64 (.c zM65 (.c zM138 (.c zM143 (.c zM144 .n))))
theorem zF94_64 : z_F zT94 64 = f_Readings_tell := id rfl
theorem zF94_65 : z_F zT94 65 = f_Readings_countTold := id rfl
theorem zF94_138 : z_F zT94 138 = f_x_isWithin := id rfl
theorem zF94_143 : z_F zT94 143 = f_x_checkFilm := id rfl
theorem zF94_144 : z_F zT94 144 = f_x_checkReader := id rfl
def zP94_0 : List ZO := [(7, [(143, 0), (1, 0)]), (7, [(144, 0), (2, 0)]), (7, [(138, 0), (3, 0), (0, 0), (0, 100)]), (3, [(1, 0), (6, 0), (6, 0), (0, 0)]), (5, [(2048, 0), (1, 0), (0, 0), (2, 0)]), (3, [(0, 0), (3, 0), (7, 0), (0, (-1))]), (7, [(64, 0), (1, 0), (2, 0), (3, 0)]), (7, [(65, 0), (1, 0)]), (0, [(9, 0)]), (1, [(3, 0)]), (1, [(1, 0)])]
def zC94 : ZC := [(0, 3, [some (2, (0, 0), (0, 0)), some (0, (1, 0), (0, 0)), some (0, (2, 0), (0, 0)), some (0, (3, 0), (0, 0))])]
theorem zG94 : z_go zC94 (z_A zT94) [] 94 400 true 12 zP94_0 0 [some (2, (0, 0), (0, 0)), some (0, (1, 0), (0, 0)), some (0, (2, 0), (0, 0)), some (0, (3, 0), (0, 0))] [] 3 = true := by decide +kernel
noncomputable def f_x_read : ZFn := fun L S => match L with
  | [x1, x2, x3] => (e_bind (f_x_checkFilm [x1] S) (fun v1 S1 => (e_bind (f_x_checkReader [x2] S1) (fun v2 S2 => (bif !decide ((v_x_isWithin x3 0 100 S2) = 0) then (bif decide ((S2 r_Readings_marks_r x1 0 x2) = (-1)) then (e_bind (f_Readings_tell [x1, x2, x3] S2) (fun v3 S3 => (e_bind (f_Readings_countTold [x1] S3) (fun v4 S4 => ((0, [v4]), S4))))) else ((4, []), S2)) else ((2, []), S2))))))
  | _ => ((0, []), S)
theorem zE94 {x1 x2 x3 : Int} {S : ZS} : z_ev (z_F zT94) 12 zP94_0 [x1, x2, x3] S = f_x_read [x1, x2, x3] S := id rfl
theorem zM94 : z_met 94 3 [(2, (0, 0), (0, 0)), (0, (1, 0), (0, 0)), (0, (2, 0), (0, 0)), (0, (3, 0), (0, 0))] f_x_read := z_met_ev zH94 (fun _ _ h => absurd h List.not_mem_nil) rfl zG94 (by decide +kernel) (fun L S hn => match L, hn with
  | [x1, x2, x3], _ => zE94)
def zW94 : List Nat := [r_Readings_toldScores, r_Readings_sums, r_Readings_marks_r]
theorem zK94 : z_kp 3 zW94 f_x_read := z_kp_ev (KT := [(64, 3, zW64), (65, 1, zW65), (138, 3, zW138), (143, 1, zW143), (144, 1, zW144)]) (.c zF94_64 zK64 (.c zF94_65 zK65 (.c zF94_138 zK138 (.c zF94_143 zK143 (.c zF94_144 zK144 .n))))) (z_h163 rfl) (by decide +kernel) (fun L S hn => match L, hn with
  | [x1, x2, x3], _ => zE94)

-- w_read (260)
noncomputable def zT260 : ZT := [(94, 3, [(2, (0, 0), (0, 0)), (0, (1, 0), (0, 0)), (0, (2, 0), (0, 0)), (0, (3, 0), (0, 0))], f_x_read)]
theorem zH260 : z_ok zT260 := .c zM94 .n
theorem zF260_94 : z_F zT260 94 = f_x_read := id rfl
def zP260_0 : List ZO := [(11, [(94, 0), (3, 0), (0, 2), (1, 3), (3, 4), (1, 0), (2, 0), (3, 0)]), (6, [(6976, 0), (0, 0), (0, 0), (0, 0), (0, 0), (4, 0)]), (0, [(0, 0)]), (0, [(0, 1)]), (0, [(0, 2)]), (0, [(0, 3)])]
def zC260 : ZC := [(0, 3, [some (2, (0, 0), (0, 0)), some (0, (1, 0), (0, 0)), some (0, (2, 0), (0, 0)), some (0, (3, 0), (0, 0)), some (111, (0, 0), (0, 0)), none])]
theorem zG260 : z_go zC260 (z_A zT260) [] 260 400 true 7 zP260_0 0 [some (2, (0, 0), (0, 0)), some (0, (1, 0), (0, 0)), some (0, (2, 0), (0, 0)), some (0, (3, 0), (0, 0)), some (111, (0, 0), (0, 0)), none] [] 3 = true := by decide +kernel
noncomputable def f_w_read : ZFn := fun L S => match L with
  | [x1, x2, x3] => (e_try (f_x_read [x1, x2, x3] S) (fun v1 S1 => ((0, [0]), (e_upd S1 r_out 0 0 0 v1))) [(0, 1), (1, 2), (3, 3)])
  | _ => ((0, []), S)
theorem zE260 {x1 x2 x3 : Int} {S : ZS} : z_ev (z_F zT260) 7 zP260_0 [x1, x2, x3] S = f_w_read [x1, x2, x3] S := id rfl
theorem zM260 : z_met 260 3 [(2, (0, 0), (0, 0)), (0, (1, 0), (0, 0)), (0, (2, 0), (0, 0)), (0, (3, 0), (0, 0)), (111, (0, 0), (0, 0))] f_w_read := z_met_ev zH260 (fun _ _ h => absurd h List.not_mem_nil) rfl zG260 (by decide +kernel) (fun L S hn => match L, hn with
  | [x1, x2, x3], _ => zE260)
def zW260 : List Nat := [r_Readings_toldScores, r_Readings_sums, r_Readings_marks_r, r_out]
theorem zK260 : z_kp 3 zW260 f_w_read := z_kp_ev (KT := [(94, 3, zW94)]) (.c zF260_94 zK94 .n) (z_h163 rfl) (by decide +kernel) (fun L S hn => match L, hn with
  | [x1, x2, x3], _ => zE260)

-- m_scoreMany (174)
def zT174 : ZT := []
theorem zH174 : z_ok zT174 := .n
def zP174_0 : List ZO := [(2, [(4, 0), (1, 0), (0, 0), (0, 0)])]
def zP174_4 : List ZO := [(5, [(3245, 0), (0, 0), (0, 0), (0, 0)]), (3, [(3, 0), (1, 0), (3, 0), (4, 0)]), (0, [(2, 0)]), (5, [(4160, 0), (1, 0), (0, 0), (3, 0)]), (3, [(2, 0), (3, 0), (5, 0), (0, 0)]), (4, [(0, 0), (2, 0), (0, 0)]), (4, [(0, 0), (3, 0), (0, 1)]), (2, [(4, 0), (1, 0), (6, 0), (7, 0)]), (4, [(0, 0), (2, 0), (0, 1)]), (4, [(0, 0), (3, 0), (0, 1)]), (2, [(4, 0), (1, 0), (6, 0), (7, 0)])]
def zD174 : ZD := [(0, 1, [some (52, (0, 0), (0, 0)), some (0, (1, 0), (0, 0)), none, none], 2, zP174_0), (4, 3, [some (52, (0, 0), (0, 0)), some (0, (1, 0), (0, 0)), some (0, (2, 0), (0, 0)), some (0, (3, 0), (0, 0))], 12, zP174_4)]
theorem zG174 : z_chk zT174 [] 174 zD174 = true := by decide +kernel
noncomputable def g_m_scoreMany (R : ZR) : ZR := z_psi (z_st (z_F zT174) zD174) R
noncomputable def f_m_scoreMany : ZFn := fun L S => g_m_scoreMany ((1000, L), S)
theorem zM174 : z_met 174 1 [(52, (0, 0), (0, 0)), (0, (1, 0), (0, 0))] f_m_scoreMany := z_met_psi zH174 (fun _ _ h => absurd h List.not_mem_nil) rfl zG174
theorem zE174_0 {x1 : Int} {S : ZS} : z_st (z_F zT174) zD174 0 [x1] S = ((1004, [x1, 0, 0]), S) := (id rfl : z_st (z_F zT174) zD174 0 [x1] S = z_ev (z_F zT174) 2 zP174_0 [x1] S).trans (id rfl)
theorem g_m_scoreMany_0 {x1 : Int} {S : ZS} : g_m_scoreMany ((1000, [x1]), S) = (g_m_scoreMany ((1004, [x1, 0, 0]), S)) := by
  unfold g_m_scoreMany
  refine ((z_psi_go (pc := 0)).trans (congrArg _ zE174_0)).trans ?_
  try simp only [z_psi_c, z_psi_b, z_psi_n, Nat.reduceLT, decide_true]
theorem zE174_4 {x1 x2 x3 : Int} {S : ZS} : z_st (z_F zT174) zD174 4 [x1, x2, x3] S = (bif decide ((S r_m_readers 0 0 0) ≤ x3) then ((0, [x2]), S) else (bif decide ((S r_m_scores_r x1 0 x3) < 0) then ((1004, [x1, (e_wr (x2 + 0)), (e_wr (x3 + 1))]), S) else ((1004, [x1, (e_wr (x2 + 1)), (e_wr (x3 + 1))]), S))) := (id rfl : z_st (z_F zT174) zD174 4 [x1, x2, x3] S = z_ev (z_F zT174) 12 zP174_4 [x1, x2, x3] S).trans (id rfl)
theorem g_m_scoreMany_4 {x1 x2 x3 : Int} {S : ZS} : g_m_scoreMany ((1004, [x1, x2, x3]), S) = (bif decide ((S r_m_readers 0 0 0) ≤ x3) then ((0, [x2]), S) else (bif decide ((S r_m_scores_r x1 0 x3) < 0) then (g_m_scoreMany ((1004, [x1, (e_wr (x2 + 0)), (e_wr (x3 + 1))]), S)) else (g_m_scoreMany ((1004, [x1, (e_wr (x2 + 1)), (e_wr (x3 + 1))]), S)))) := by
  unfold g_m_scoreMany
  refine ((z_psi_go (pc := 4)).trans (congrArg _ zE174_4)).trans ?_
  try simp only [z_psi_c, z_psi_b, z_psi_n, Nat.reduceLT, decide_true]
def zW174 : List Nat := []
theorem zK174 : z_kp 1 zW174 f_m_scoreMany := fun L S hL hc r i j k hr => z_psi_kp (KT := []) (F := z_F zT174) (W := zW174) (D := zD174) (.n) (z_h163 rfl) (by decide +kernel) _ hc r i j k hr

-- m_read (175)
noncomputable def zT175 : ZT := [(163, 2, [(52, (0, 0), (0, 0)), (0, (1, 0), (0, 0)), (0, (2, 0), (0, 0))], f_m_isThrown), (164, 3, [(0, (1, 0), (0, 0)), (0, (2, 0), (0, 0)), (0, (3, 0), (0, 0))], f_m_isIn), (172, 2, [(52, (0, 0), (0, 0)), (0, (1, 0), (0, 0)), (0, (2, 0), (0, 0))], f_m_isNoReader), (174, 1, [(52, (0, 0), (0, 0)), (0, (1, 0), (0, 0))], f_m_scoreMany)]
theorem zH175 : z_ok zT175 := .c zM163 (.c zM164 (.c zM172 (.c zM174 .n)))
theorem zF175_163 : z_F zT175 163 = f_m_isThrown := id rfl
theorem zF175_164 : z_F zT175 164 = f_m_isIn := id rfl
theorem zF175_172 : z_F zT175 172 = f_m_isNoReader := id rfl
theorem zF175_174 : z_F zT175 174 = f_m_scoreMany := id rfl
def zP175_0 : List ZO := [(7, [(172, 0), (1, 0), (2, 0)]), (3, [(1, 0), (1, 0), (4, 0), (0, 0)]), (0, [(0, 0)]), (7, [(164, 0), (3, 0), (0, 0), (0, 100)]), (3, [(1, 0), (13, 0), (5, 0), (0, 0)]), (13, [(163, 0), (0, 0), (0, 0), (0, 2)]), (5, [(4032, 0), (1, 0), (0, 0), (2, 0)]), (3, [(0, 0), (2, 0), (6, 0), (0, 0)]), (13, [(163, 0), (0, 0), (0, 1), (0, 3)]), (0, [(0, 0)]), (5, [(4160, 0), (1, 0), (0, 0), (2, 0)]), (3, [(2, 0), (4, 0), (7, 0), (0, 0)]), (13, [(163, 0), (0, 0), (0, 0), (0, 3)]), (6, [(4160, 0), (0, 0), (1, 0), (0, 0), (2, 0), (3, 0)]), (7, [(174, 0), (1, 0)]), (0, [(8, 0)]), (13, [(163, 0), (0, 0), (0, 1), (0, 3)]), (0, [(0, 0)]), (13, [(163, 0), (0, 0), (0, 1), (0, 2)]), (0, [(0, 0)])]
def zC175 : ZC := [(0, 3, [some (52, (0, 0), (0, 0)), some (0, (1, 0), (0, 0)), some (0, (2, 0), (0, 0)), some (0, (3, 0), (0, 0))])]
theorem zG175 : z_go zC175 (z_A zT175) [(163, 0)] 175 400 true 21 zP175_0 0 [some (52, (0, 0), (0, 0)), some (0, (1, 0), (0, 0)), some (0, (2, 0), (0, 0)), some (0, (3, 0), (0, 0))] [] 3 = true := by decide +kernel
noncomputable def f_m_read : ZFn := fun L S => match L with
  | [x1, x2, x3] => (e_bind (f_m_isNoReader [x1, x2] S) (fun v1 S1 => (bif !decide (v1 = 0) then ((0, [0]), S1) else (bif !decide ((v_m_isIn x3 0 100 S1) = 0) then (bif decide ((S1 r_m_areDealt_r x1 0 x2) = 0) then ((0, [0]), (e_upd (e_upd S1 r_m_thrown 0 0 0 0) r_m_thrown 0 0 0 3)) else (bif decide ((S1 r_m_scores_r x1 0 x2) < 0) then (e_bind (f_m_scoreMany [x1] (e_upd (e_upd (e_upd S1 r_m_thrown 0 0 0 0) r_m_thrown 0 0 0 0) r_m_scores_r x1 0 x2 x3)) (fun v2 S2 => ((0, [v2]), S2))) else ((0, [0]), (e_upd (e_upd S1 r_m_thrown 0 0 0 0) r_m_thrown 0 0 0 3)))) else ((0, [0]), (e_upd S1 r_m_thrown 0 0 0 2))))))
  | _ => ((0, []), S)
theorem zE175 {x1 x2 x3 : Int} {S : ZS} : z_ev (z_F zT175) 21 zP175_0 [x1, x2, x3] S = f_m_read [x1, x2, x3] S := by
  simp -implicitDefEqProofs only [zP175_0, zF175_163, zF175_164, zF175_172, zF175_174, zpI0, zpI1, zpIc, pF_m_isIn, Nat.zero_add, Nat.reduceAdd, Nat.reduceBEq, Int.reduceToNat, z_e0, z_e1, z_e2, z_e3, z_e4, z_e5, z_e6, z_e7, z_e8, z_e11, z_e13, o_v0, o_v1, o_v2, List.cons_append, List.nil_append, List.map_cons, List.map_nil, List.drop_succ_cons, List.drop_zero, List.take_succ_cons, List.take_zero, e_c0, e_c1, e_c2, e_c3, e_c4, e_c5, e_b0, e_b1, e_b2, e_b3, e_b4, e_b5, e_b6, e_b7, e_b8, e_b9, e_b10, e_b11, e_b12, e_b13, e_b14, e_b15, e_b16, e_b17, e_n0, e_bnd, e_un]
  try rfl
theorem zM175 : z_met 175 3 [(52, (0, 0), (0, 0)), (0, (1, 0), (0, 0)), (0, (2, 0), (0, 0)), (0, (3, 0), (0, 0))] f_m_read := z_met_ev zH175 (fun _ _ h => by rw [List.mem_singleton] at h; cases h; exact fun _ _ => rfl) rfl zG175 (by decide +kernel) (fun L S hn => match L, hn with
  | [x1, x2, x3], _ => zE175)
def zW175 : List Nat := [r_m_thrown, r_m_scores_r]
theorem zK175 : z_kp 3 zW175 f_m_read := z_kp_ev (KT := [(163, 2, zW163), (164, 3, zW164), (172, 2, zW172), (174, 1, zW174)]) (.c zF175_163 zK163 (.c zF175_164 zK164 (.c zF175_172 zK172 (.c zF175_174 zK174 .n)))) (fun _ _ => Or.inl rfl) (by decide +kernel) (fun L S hn => match L, hn with
  | [x1, x2, x3], _ => zE175)

-- Readings_evenScore (66)
def zT66 : ZT := []
theorem zH66 : z_ok zT66 := .n
def zP66_0 : List ZO := [(5, [(1856, 0), (0, 0), (0, 0), (2, 0)]), (3, [(1, 0), (7, 0), (3, 0), (0, 0)]), (5, [(1920, 0), (0, 0), (0, 0), (2, 0)]), (5, [(1856, 0), (0, 0), (0, 0), (2, 0)]), (4, [(3, 0), (4, 0), (5, 0)]), (5, [(2048, 0), (1, 0), (0, 0), (2, 0)]), (4, [(1, 0), (7, 0), (6, 0)]), (4, [(0, 0), (8, 0), (0, 50)]), (0, [(9, 0)]), (5, [(2048, 0), (1, 0), (0, 0), (2, 0)]), (4, [(1, 0), (4, 0), (0, 0)]), (4, [(0, 0), (5, 0), (0, 50)]), (0, [(6, 0)])]
def zC66 : ZC := [(0, 2, [some (28, (0, 0), (0, 0)), some (0, (1, 0), (0, 0)), some (0, (2, 0), (0, 0)), none])]
theorem zG66 : z_go zC66 (z_A zT66) [] 66 400 true 14 zP66_0 0 [some (28, (0, 0), (0, 0)), some (0, (1, 0), (0, 0)), some (0, (2, 0), (0, 0)), none] [] 2 = true := by decide +kernel
def v_Readings_evenScore (x1 x2 : Int) (S : ZS) : Int := (bif !decide ((S r_Readings_toldScores 0 0 x2) = 0) then (e_wr ((e_wr ((S r_Readings_marks_r x1 0 x2) - (e_div (S r_Readings_sums 0 0 x2) (S r_Readings_toldScores 0 0 x2)))) + 50)) else (e_wr ((e_wr ((S r_Readings_marks_r x1 0 x2) - 0)) + 50)))
def f_Readings_evenScore : ZFn := fun L S => match L with
  | [x1, x2] => ((0, [v_Readings_evenScore x1 x2 S]), S)
  | _ => ((0, []), S)
theorem pF_Readings_evenScore {x1 x2 : Int} {S : ZS} : f_Readings_evenScore [x1, x2] S = ((0, [v_Readings_evenScore x1 x2 S]), S) := id rfl
theorem zE66a {x1 x2 : Int} {S : ZS} : z_ev (z_F zT66) 14 zP66_0 [x1, x2] S = (bif !decide ((S r_Readings_toldScores 0 0 x2) = 0) then ((0, [(e_wr ((e_wr ((S r_Readings_marks_r x1 0 x2) - (e_div (S r_Readings_sums 0 0 x2) (S r_Readings_toldScores 0 0 x2)))) + 50))]), S) else ((0, [(e_wr ((e_wr ((S r_Readings_marks_r x1 0 x2) - 0)) + 50))]), S)) := by
  simp -implicitDefEqProofs only [zP66_0, Nat.zero_add, Nat.reduceAdd, Nat.reduceBEq, Int.reduceToNat, z_e0, z_e1, z_e2, z_e3, z_e4, z_e5, z_e6, z_e7, z_e8, z_e11, z_e13, o_v0, o_v1, o_v2, List.cons_append, List.nil_append, List.map_cons, List.map_nil, List.drop_succ_cons, List.drop_zero, List.take_succ_cons, List.take_zero, e_c0, e_c1, e_c2, e_c3, e_c4, e_c5, e_b0, e_b1, e_b2, e_b3, e_b4, e_b5, e_b6, e_b7, e_b8, e_b9, e_b10, e_b11, e_b12, e_b13, e_b14, e_b15, e_b16, e_b17, e_n0, e_bnd, e_un]
  try rfl
theorem zE66 {x1 x2 : Int} {S : ZS} : z_ev (z_F zT66) 14 zP66_0 [x1, x2] S = f_Readings_evenScore [x1, x2] S := zE66a.trans (by
  simp only [z_cv]
  rfl)
theorem zM66 : z_met 66 2 [(28, (0, 0), (0, 0)), (0, (1, 0), (0, 0)), (0, (2, 0), (0, 0))] f_Readings_evenScore := z_met_ev zH66 (fun _ _ h => absurd h List.not_mem_nil) rfl zG66 (by decide +kernel) (fun L S hn => match L, hn with
  | [x1, x2], _ => zE66)
def zW66 : List Nat := []
theorem zK66 : z_kp 2 zW66 f_Readings_evenScore := z_kp_ev (KT := []) (.n) (z_h163 rfl) (by decide +kernel) (fun L S hn => match L, hn with
  | [x1, x2], _ => zE66)
