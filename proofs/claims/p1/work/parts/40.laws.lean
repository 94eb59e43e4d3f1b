/-! The law's own runs -/
def x_E : SE := List.replicate 8 [(-2147483648, 2147483647)] ++ (List.replicate 8 [(0, 65535)] ++ List.replicate 8 [(0, 63)])
def x_hL (L : Nat) : AH := [(19, (List.range L).map Value.retAddr)]
def x_tab : List XE := [x_eX11, x_eX12]
def x_gd (o : SE × AR) : Bool := match o.2.1 with
  | .inl (some (.int v)) => decide (v = 1) && (Nat.ble o.2.2.2.1 600006 && Nat.ble o.2.2.2.2 7302087)
  | _ => false
def x_good (o : Option (List (SE × AR))) : Bool := match o with
  | some l => l.all x_gd
  | none => false
noncomputable def x_op (a b : Int) : Bool := x_good (x_run x_tab 13 3000 (x_E.set 16 [(a, b)]) 301 [.ref 0] (x_hL 6))
noncomputable def x_opr (a lo hi : Int) : Bool := x_good (x_run x_tab 13 3000 ((x_E.set 16 [(a, a)]).set 1 [(lo, hi)]) 301 [.ref 0] (x_hL 6))
noncomputable def x_sh (L : Nat) : Bool := x_good (x_run x_tab 13 3000 x_E 301 [.ref 0] (x_hL L))
