/-! What the texts of the methods use -/
theorem z_cv {b : Bool} {x y : Int} {S : ZS} : (bif b then (((0, [x]), S) : ZR) else ((0, [y]), S)) = ((0, [bif b then x else y]), S) := by cases b <;> rfl
def e_tr (c : Nat) (S : ZS) : List (Nat × Int) → ZR
  | [] => ((c % 1000, []), S)
  | e :: t => bif e.1 + 1 == c then ((0, [e.2]), S) else e_tr c S t
def e_try (R : ZR) (k : Int → ZS → ZR) (hs : List (Nat × Int)) : ZR := bif R.1.1 == 0 then k (R.1.2.getD 0 0) R.2 else e_tr R.1.1 R.2 hs
section ZE
variable {F : Nat → ZFn} {n : Nat} {p : List ZO} {ν : List Int} {S : ZS}
theorem z_e0 {xs : List ZN} : z_ev F (n + 1) ((0, xs) :: p) ν S = ((0, xs.map (o_v ν)), S) := id rfl
theorem z_e1 {k : ZN} : z_ev F (n + 1) ((1, [k]) :: p) ν S = ((k.1 + 1, []), S) := id rfl
theorem z_e2 {k : Nat} {z : Int} {xs : List ZN} : z_ev F (n + 1) ((2, (k, z) :: xs) :: p) ν S = ((1000 + k, xs.map (o_v ν)), S) := id rfl
theorem z_e3 {c sk : Nat} {z z' : Int} {x y : ZN} : z_ev F (n + 1) ((3, [(c, z), (sk, z'), x, y]) :: p) ν S = bif e_cmp c (o_v ν x) (o_v ν y) then z_ev F n p ν S else z_ev F n (p.drop sk) ν S := id rfl
theorem z_e4 {o : Nat} {z : Int} {x y : ZN} : z_ev F (n + 1) ((4, [(o, z), x, y]) :: p) ν S = z_ev F n p (ν ++ [e_bin o (o_v ν x) (o_v ν y)]) S := id rfl
theorem z_e5 {r : Nat} {z : Int} {i j k : ZN} : z_ev F (n + 1) ((5, [(r, z), i, j, k]) :: p) ν S = z_ev F n p (ν ++ [S r (o_v ν i) (o_v ν j) (o_v ν k)]) S := id rfl
theorem z_e6 {r md : Nat} {z z' : Int} {i j k v : ZN} : z_ev F (n + 1) ((6, [(r, z), (md, z'), i, j, k, v]) :: p) ν S = z_ev F n p ν (e_upd S r (o_v ν i) (o_v ν j) (o_v ν k) (e_nar md (o_v ν v))) := id rfl
theorem z_e7 {mt : Nat} {z : Int} {xs : List ZN} : z_ev F (n + 1) ((7, (mt, z) :: xs) :: p) ν S = e_bind (F mt (xs.map (o_v ν)) S) (fun v S1 => z_ev F n p (ν ++ [v]) S1) := id rfl
theorem z_e8 : z_ev F (n + 1) ((8, []) :: p) ν S = z_ev F n p (ν ++ [S z_rA 0 0 0]) (e_upd S z_rA 0 0 0 (S z_rA 0 0 0 + 1)) := id rfl
theorem z_e13 {mt kk : Nat} {z z' : Int} {xs : List ZN} : z_ev F (n + 1) ((13, (mt, z) :: (kk, z') :: xs) :: p) ν S = z_ev F n p ν (F mt (xs.map (o_v ν)) S).2 := id rfl
theorem o_v0 {z : Int} : o_v ν (0, z) = z := id rfl
theorem o_v1 {a z : Int} : o_v (a :: ν) (1, z) = a := id rfl
theorem o_v2 {a z : Int} {k : Nat} : o_v (a :: ν) (k + 2, z) = o_v ν (k + 1, z) := id rfl
theorem e_bnd {z : Int} {k : Int → ZS → ZR} : e_bind ((0, [z]), S) k = k z S := id rfl
theorem e_bnd0 {k : Int → ZS → ZR} : e_bind ((0, []), S) k = k 0 S := id rfl
theorem e_un {r r' : Nat} {i j k i' j' k' z : Int} (h : (r' == r) = false) : e_upd S r i j k z r' i' j' k' = S r' i' j' k' := if_neg (fun q => by rw [q.1, beq_self_eq_true] at h; cases h)
theorem z_e11 {mt m : Nat} {z z' : Int} {xs : List ZN} : z_ev F (n + 1) ((11, (mt, z) :: (m, z') :: xs) :: p) ν S = e_bindX (F mt ((xs.drop m).map (o_v ν)) S) (fun v S1 => z_ev F n p (ν ++ [v]) S1) (xs.take m) (fun o S1 => z_ev F n (p.drop o) ν S1) := id rfl
theorem e_b0 {x y : Int} : e_bin 0 x y = e_wr (x + y) := id rfl
theorem e_b1 {x y : Int} : e_bin 1 x y = e_wr (x - y) := id rfl
theorem e_b2 {x y : Int} : e_bin 2 x y = e_wr (x * y) := id rfl
theorem e_b3 {x y : Int} : e_bin 3 x y = e_div x y := id rfl
theorem e_b4 {x y : Int} : e_bin 4 x y = e_wr (x - e_wr (e_div x y * y)) := id rfl
theorem e_b5 {x y : Int} : e_bin 5 x y = e_and x y := id rfl
theorem e_b6 {x y : Int} : e_bin 6 x y = e_or x y := id rfl
theorem e_b7 {x y : Int} : e_bin 7 x y = if y < x then y else x := id rfl
theorem e_b8 {x y : Int} : e_bin 8 x y = if x < y then y else x := id rfl
theorem e_b9 {x y : Int} : e_bin 9 x y = e_i2c x := id rfl
theorem e_b10 {x y : Int} : e_bin 10 x y = e_wl (x + y) := id rfl
theorem e_b11 {x y : Int} : e_bin 11 x y = e_wl (x * y) := id rfl
theorem e_b12 {x y : Int} : e_bin 12 x y = e_lcmp x y := id rfl
theorem e_b13 {x y : Int} : e_bin 13 x y = e_i2f x := id rfl
theorem e_b14 {x y : Int} : e_bin 14 x y = e_i2d x := id rfl
theorem e_b15 {x y : Int} : e_bin 15 x y = e_f2d x := id rfl
theorem e_b16 {x y : Int} : e_bin 16 x y = e_fdiv x y := id rfl
theorem e_b17 {x y : Int} : e_bin 17 x y = e_ddiv x y := id rfl
theorem e_n0 {x : Int} : e_nar 0 x = x := id rfl
theorem e_c0 {x y : Int} : e_cmp 0 x y = decide (x = y) := id rfl
theorem e_c1 {x y : Int} : e_cmp 1 x y = !decide (x = y) := id rfl
theorem e_c2 {x y : Int} : e_cmp 2 x y = decide (x < y) := id rfl
theorem e_c3 {x y : Int} : e_cmp 3 x y = decide (y ≤ x) := id rfl
theorem e_c4 {x y : Int} : e_cmp 4 x y = decide (y < x) := id rfl
theorem e_c5 {x y : Int} : e_cmp 5 x y = decide (x ≤ y) := id rfl
end ZE
theorem z_psi_c {st : Nat → List Int → ZS → ZR} {b : Bool} {R R' : ZR} : z_psi st (bif b then R else R') = bif b then z_psi st R else z_psi st R' := by cases b <;> rfl
theorem z_psi_n {st : Nat → List Int → ZS → ZR} {k : Nat} {l : List Int} {S : ZS} (h : decide (k < 1000) = true) : z_psi st ((k, l), S) = ((k, l), S) := z_psi_fin (of_decide_eq_true h)
theorem z_psi_b {st : Nat → List Int → ZS → ZR} {R : ZR} {k : Int → ZS → ZR} : z_psi st (e_bind R k) = e_bind R (fun v S => z_psi st (k v S)) := by
  unfold e_bind
  rw [z_psi_c]
  rw [z_psi_fin (R := ((R.1.1 % 1000, []), R.2)) (Nat.mod_lt _ (by decide))]
