/-! Runs as functions of a flat state. The state: a region's number (64 times the family, and the place in an object), two indices of the cell, the place in an array. -/
abbrev ZS : Type := Nat → Int → Int → Int → Int
/-- how a run ends: (0, the result), (k + 1, []) exception k, (1000 + pc, locals) at a cut; and the state then -/
abbrev ZR : Type := (Nat × List Int) × ZS
/-- (0, z) the number z; (n + 1, _) the n-th symbol -/
abbrev ZN : Type := Nat × Int
/-- (0, x, _) a number, (1, x, _) one of two words; (f + 2, x, y) the cell of family f at x, y -/
abbrev ZV : Type := Nat × ZN × ZN
/-- an operation: its kind, its operands -/
abbrev ZO : Type := Nat × List ZN
def e_v (v : Value) : Int := match v with
  | .int x => x.toInt
  | .long x => x.toInt
  | .float x => (x.toNat : Int)
  | .double x => (x.toNat : Int)
  | _ => 0
def e_at (h : AH) (a s : Nat) : Int := match h[a]? with
  | some c => (match c.2[s]? with
    | some v => e_v v
    | none => 0)
  | none => 0
def e_len (h : AH) (a : Nat) : Int := match h[a]? with
  | some c => c.2.length.toInt32.toInt
  | none => 0
def e_upd (S : ZS) (ρ : Nat) (i j k z : Int) : ZS := fun ρ' i' j' k' => if ρ' = ρ ∧ (i' = i ∧ (j' = j ∧ k' = k)) then z else S ρ' i' j' k'
/-- the cell of a family at two indices -/
def z_ad (f : Nat) (i j : Int) : Option Nat := match z_tab[f]? with
  | some row => if 0 ≤ i ∧ (row.1.2.1.2 = 0 ∨ i < row.1.2.1.2) ∧ 0 ≤ j ∧ j < row.1.2.2.2 then some (row.1.1 + row.1.2.1.1 * i.toNat + row.1.2.2.1 * j.toNat) else none
  | none => none
def z_new : Nat := 51
def z_rA : Nat := 3328
def z_N0 : Nat := 365
/-- the place of a cell that a region's rest and an index name -/
def z_slot (f s : Nat) (k : Int) : Option Nat := match z_tab[f]? with
  | some row => if row.2.1 = 0 then (if k = 0 ∧ s < 63 then some s else none) else (if s = 0 ∧ 0 ≤ k then some k.toNat else none)
  | none => none
/-- the flat state of a heap -/
def z_al (h : AH) : ZS := fun ρ i j k => if ρ = z_rA then (if i = 0 ∧ j = 0 ∧ k = 0 then (h.length : Int) - z_N0 else 0) else match z_ad (ρ / 64) i j with
  | some a => (match z_slot (ρ / 64) (ρ % 64) k with
    | some s => e_at h a s
    | none => if ρ % 64 = 63 ∧ k = 0 ∧ ρ / 64 ≠ z_new then e_len h a else 0)
  | none => 0
/-- where a place of an object points -/
def z_po (f s : Nat) : Option Nat := match z_tab[f]? with
  | some row => if row.2.1 = 0 then (match row.2.2[s]? with
    | some (g + 1, _) => some g
    | _ => none) else none
  | none => none
/-- where the places of an array point, and which index they tell -/
def z_pa (f : Nat) : Option (Nat × Nat) := match z_tab[f]? with
  | some row => if row.2.1 = 0 then none else (match row.2.2 with
    | [(g + 1, p)] => some (g, p)
    | _ => none)
  | none => none
/-- the pointers of a heap are the table's -/
def z_PI (h : AH) : Prop := z_N0 ≤ h.length ∧ ∀ (f : Nat) (i j : Int) (a t : Nat) (vs : List Value), z_ad f i j = some a → h[a]? = some (t, vs) → (∀ (s g : Nat) (v : Value), z_po f s = some g → vs[s]? = some v → ∃ b, v = .ref b ∧ z_ad g i j = some b) ∧ ∀ (g p e : Nat) (v : Value), z_pa f = some (g, p) → vs[e]? = some v → ∃ b, v = .ref b ∧ z_ad g (if p = 1 then (e : Int) else i) (if p = 1 then j else (e : Int)) = some b
/-! Arithmetic -/
def e_wr (x : Int) : Int := x.bmod (2 ^ 32)
def e_wl (x : Int) : Int := x.bmod (2 ^ 64)
def e_div (x y : Int) : Int := e_wr (x.tdiv y)
def e_cmp (c : Nat) (x y : Int) : Bool := match c with
  | 0 => decide (x = y)
  | 1 => !decide (x = y)
  | 2 => decide (x < y)
  | 3 => decide (y ≤ x)
  | 4 => decide (y < x)
  | _ => decide (x ≤ y)
def e_and (x y : Int) : Int := (Int32.ofInt x &&& Int32.ofInt y).toInt
def e_or (x y : Int) : Int := (Int32.ofInt x ||| Int32.ofInt y).toInt
def e_i2c (x : Int) : Int := ((Int32.ofInt x).toUInt32 % 65536).toInt32.toInt
def e_lcmp (x y : Int) : Int := if x > y then 1 else if x = y then 0 else -1
def e_i2f (x : Int) : Int := ((FP.i2f (Int32.ofInt x)).toNat : Int)
def e_i2d (x : Int) : Int := ((FP.i2d (Int32.ofInt x)).toNat : Int)
def e_f2d (x : Int) : Int := ((FP.f2d (UInt32.ofNat x.toNat)).toNat : Int)
def e_fdiv (x y : Int) : Int := ((FP.fdiv (UInt32.ofNat x.toNat) (UInt32.ofNat y.toNat)).toNat : Int)
def e_ddiv (x y : Int) : Int := ((FP.ddiv (UInt64.ofNat x.toNat) (UInt64.ofNat y.toNat)).toNat : Int)
def e_dcmp (op : CmpOp) (x y : Int) : Int := (Op.cmpValue (FP.dcmp (UInt64.ofNat x.toNat) (UInt64.ofNat y.toNat)) op).toInt
def e_fcmp (op : CmpOp) (x y : Int) : Int := (Op.cmpValue (FP.fcmp (UInt32.ofNat x.toNat) (UInt32.ofNat y.toNat)) op).toInt
def e_bin (op : Nat) (x y : Int) : Int := match op with
  | 0 => e_wr (x + y)
  | 1 => e_wr (x - y)
  | 2 => e_wr (x * y)
  | 3 => e_div x y
  | 4 => e_wr (x - e_wr (e_div x y * y))
  | 5 => e_and x y
  | 6 => e_or x y
  | 7 => if y < x then y else x
  | 8 => if x < y then y else x
  | 9 => e_i2c x
  | 10 => e_wl (x + y)
  | 11 => e_wl (x * y)
  | 12 => e_lcmp x y
  | 13 => e_i2f x
  | 14 => e_i2d x
  | 15 => e_f2d x
  | 16 => e_fdiv x y
  | 17 => e_ddiv x y
  | 18 => e_dcmp .g x y
  | 19 => e_dcmp .l x y
  | 20 => e_fcmp .g x y
  | _ => e_fcmp .l x y
def e_nar (md : Nat) (z : Int) : Int := match md with
  | 0 => z
  | 1 => e_v (narrow .boolean (.int (Int32.ofInt z)))
  | _ => e_v (narrow .char (.int (Int32.ofInt z)))
def e_acp (S : ZS) (ρ : Nat) (x y sp : Int) (ρ' : Nat) (x' y' dp n : Int) : ZS := fun r i j k => if r = ρ' ∧ (i = x' ∧ (j = y' ∧ (dp ≤ k ∧ k < dp + n))) then S ρ x y (k - dp + sp) else S r i j k
def e_sw (x lo : Int) (ts : List ZN) (d : Nat) : Nat := if x < lo ∨ lo + ts.length ≤ x then d else (ts.getD (x - lo).toNat (d, 0)).1
def e_bind (R : ZR) (k : Int → ZS → ZR) : ZR := bif R.1.1 == 0 then k (R.1.2.getD 0 0) R.2 else ((R.1.1 % 1000, []), R.2)
def e_hs (c : Nat) (f : Nat → ZR) (S : ZS) : List ZN → ZR
  | [] => ((c % 1000, []), S)
  | e :: t => bif e.1 + 1 == c then f e.2.toNat else e_hs c f S t
def e_bindX (R : ZR) (k : Int → ZS → ZR) (hs : List ZN) (f : Nat → ZS → ZR) : ZR := bif R.1.1 == 0 then k (R.1.2.getD 0 0) R.2 else e_hs R.1.1 (fun o => f o R.2) R.2 hs
/-! Programs over a flat state -/
def o_v (ν : List Int) (x : ZN) : Int := match x.1 with
  | 0 => x.2
  | n + 1 => ν.getD n 0
/-- what a method does to a flat state -/
abbrev ZFn : Type := List Int → ZS → ZR
def z_ev (F : Nat → ZFn) : Nat → List ZO → List Int → ZS → ZR
  | 0, _, _, S => ((0, []), S)
  | _ + 1, [], _, S => ((0, []), S)
  | n + 1, op :: p, ν, S => match op with
    | (0, xs) => ((0, xs.map (o_v ν)), S)
    | (1, [k]) => ((k.1 + 1, []), S)
    | (2, pc :: xs) => ((1000 + pc.1, xs.map (o_v ν)), S)
    | (3, [c, sk, x, y]) => bif e_cmp c.1 (o_v ν x) (o_v ν y) then z_ev F n p ν S else z_ev F n (p.drop sk.1) ν S
    | (4, [o, x, y]) => z_ev F n p (ν ++ [e_bin o.1 (o_v ν x) (o_v ν y)]) S
    | (5, [r, i, j, k]) => z_ev F n p (ν ++ [S r.1 (o_v ν i) (o_v ν j) (o_v ν k)]) S
    | (6, [r, md, i, j, k, v]) => z_ev F n p ν (e_upd S r.1 (o_v ν i) (o_v ν j) (o_v ν k) (e_nar md.1 (o_v ν v)))
    | (7, mt :: xs) => e_bind (F mt.1 (xs.map (o_v ν)) S) (fun v S1 => z_ev F n p (ν ++ [v]) S1)
    | (8, []) => z_ev F n p (ν ++ [S z_rA 0 0 0]) (e_upd S z_rA 0 0 0 (S z_rA 0 0 0 + 1))
    | (9, [r, x, y, sp, r', x', y', dp, m]) => z_ev F n p ν (e_acp S r.1 (o_v ν x) (o_v ν y) (o_v ν sp) r'.1 (o_v ν x') (o_v ν y') (o_v ν dp) (o_v ν m))
    | (10, x :: lo :: m :: d :: xs) => ((1000 + e_sw (o_v ν x) lo.2 (xs.take m.1) d.1, (xs.drop m.1).map (o_v ν)), S)
    | (13, mt :: _ :: xs) => z_ev F n p ν (F mt.1 (xs.map (o_v ν)) S).2
    | (11, mt :: m :: xs) => e_bindX (F mt.1 ((xs.drop m.1).map (o_v ν)) S) (fun v S1 => z_ev F n p (ν ++ [v]) S1) (xs.take m.1) (fun o S1 => z_ev F n (p.drop o) ν S1)
    | _ => ((0, []), S)
