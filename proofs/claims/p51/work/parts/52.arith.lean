/-! Arithmetic on values known in part -/
def b_full : Int × Int := (-2147483648, 2147483647)
def b_aiv (op : Nat) (ix iy : Int × Int) : Int × Int := match op with
  | 0 => if 0 ≤ ix.1 ∧ ix.2 ≤ 65535 then ix else (0, 65535)
  | 1 => (ix.1 + iy.1, ix.2 + iy.2)
  | 2 => (ix.1 - iy.2, ix.2 - iy.1)
  | 3 => if ix.1 = ix.2 ∧ 0 ≤ ix.1 then (ix.1 * iy.1, ix.1 * iy.2) else if iy.1 = iy.2 ∧ 0 ≤ iy.1 then (ix.1 * iy.1, ix.2 * iy.1) else b_full
  | 4 => if 0 ≤ ix.1 ∧ 1 ≤ iy.1 ∧ iy.1 = iy.2 then (ix.1 / iy.1, ix.2 / iy.1) else b_full
  | 5 => if 0 ≤ ix.1 ∧ 1 ≤ iy.1 ∧ iy.1 = iy.2 then (0, if ix.2 ≤ iy.1 - 1 then ix.2 else iy.1 - 1) else b_full
  | 6 => if 0 ≤ iy.1 then (0, iy.2) else if 0 ≤ ix.1 then (0, ix.2) else b_full
  | 7 => if 0 ≤ ix.1 ∧ ix.2 ≤ 1 ∧ 0 ≤ iy.1 ∧ iy.2 ≤ 1 then (0, 1) else b_full
  | 8 => (if ix.1 ≤ iy.1 then ix.1 else iy.1, if ix.2 ≤ iy.2 then ix.2 else iy.2)
  | _ => (if ix.1 ≤ iy.1 then iy.1 else ix.1, if ix.2 ≤ iy.2 then iy.2 else ix.2)
theorem b_bm {z : Int} (h1 : -2147483648 ≤ z) (h2 : z ≤ 2147483647) : z.bmod (2 ^ 32) = z := by
  have e : ((2 ^ 32 : Nat) : Int) = 4294967296 := rfl
  exact Int.bmod_eq_of_le_mul_two (by rw [e]; omega) (by rw [e]; omega)
theorem b_fullI (x : Int32) : b_full.1 ≤ x.toInt ∧ x.toInt ≤ b_full.2 := b_32 x
theorem b_in32_ok {q : Int × Int} (h : b_in32 q = true) : -2147483648 ≤ q.1 ∧ q.2 ≤ 2147483647 := by
  unfold b_in32 at h
  rw [Bool.and_eq_true, decide_eq_true_eq, decide_eq_true_eq] at h
  exact h
theorem b_andle {X Y : Int32} {m : Int} (h0 : 0 ≤ Y.toInt) (h1 : Y.toInt ≤ m) : 0 ≤ (X &&& Y).toInt ∧ (X &&& Y).toInt ≤ m := by
  have hm := b_32 Y
  have hn : Y.toBitVec.toNat = Y.toInt.toNat := by
    have e : Y.toInt = (Y.toBitVec.toNat : Int) ∨ Y.toInt = (Y.toBitVec.toNat : Int) - 4294967296 := by
      have : Y.toInt = Y.toBitVec.toInt := rfl
      rw [this, BitVec.toInt_eq_toNat_cond]
      split
      · exact Or.inl rfl
      · exact Or.inr rfl
    have hl : Y.toBitVec.toNat < 4294967296 := Y.toBitVec.isLt
    omega
  have h2 : (X &&& Y).toBitVec.toNat ≤ Y.toInt.toNat := by
    have : (X &&& Y).toBitVec.toNat = X.toBitVec.toNat &&& Y.toBitVec.toNat := by simp
    rw [this, hn]
    exact Nat.and_le_right
  have h : (X &&& Y).toInt = (((X &&& Y).toBitVec.toNat : Nat) : Int) := by
    conv => lhs; rw [← s_bv (X &&& Y)]
    rw [nI_toInt (by omega)]
  rw [h]
  omega
theorem b_bit {x : Int32} (h0 : 0 ≤ x.toInt) (h1 : x.toInt ≤ 1) : x = 0 ∨ x = 1 := by
  have : x.toInt = 0 ∨ x.toInt = 1 := by omega
  rcases this with h | h
  · exact Or.inl (Int32.toInt_inj.mp (h.trans (by decide)))
  · exact Or.inr (Int32.toInt_inj.mp (h.trans (by decide)))
theorem b_divI {X Y : Int32} (hx : 0 ≤ X.toInt) (hy : 1 ≤ Y.toInt) : (X / Y).toInt = X.toInt / Y.toInt := by
  rw [Int32.toInt_div_of_ne_right X Y (fun e => by rw [e] at hy; exact absurd hy (by decide))]
  exact Int.tdiv_eq_ediv_of_nonneg hx
theorem b_aiv9 {n : Nat} {ix iy : Int × Int} : b_aiv (n + 9) ix iy = (if ix.1 ≤ iy.1 then iy.1 else ix.1, if ix.2 ≤ iy.2 then iy.2 else ix.2) := by
  unfold b_aiv
  split <;> first | rfl | (exfalso; omega)
theorem b_f29 {n : Nat} {X Y : Int32} : b_f2 (n + 9) X Y = if X < Y then Y else X := by
  unfold b_f2
  split <;> first | rfl | (exfalso; omega)
theorem b_aiv_ok {op : Nat} {ix iy : Int × Int} {X Y : Int32} (hx : ix.1 ≤ X.toInt ∧ X.toInt ≤ ix.2) (hy : iy.1 ≤ Y.toInt ∧ Y.toInt ≤ iy.2) (hin : b_in32 (b_aiv op ix iy) = true) : (b_aiv op ix iy).1 ≤ (b_f2 op X Y).toInt ∧ (b_f2 op X Y).toInt ≤ (b_aiv op ix iy).2 := by
  have bx := b_32 X
  have by_ := b_32 Y
  have hin := b_in32_ok hin
  match op with
  | 0 =>
    have e : b_aiv 0 ix iy = if 0 ≤ ix.1 ∧ ix.2 ≤ 65535 then ix else (0, 65535) := rfl
    rw [e]
    show _ ≤ (s_i2c X).toInt ∧ (s_i2c X).toInt ≤ _
    split
    · rename_i hc
      rw [s_i2c_id (by omega) (by omega)]
      exact hx
    · obtain ⟨q, hq, h1, h2⟩ := s_i2c_in X
      simp only [List.mem_cons, List.not_mem_nil, or_false] at hq
      subst hq
      exact ⟨h1, h2⟩
  | 1 =>
    have hin : -2147483648 ≤ ix.1 + iy.1 ∧ ix.2 + iy.2 ≤ 2147483647 := hin
    show ix.1 + iy.1 ≤ (X + Y).toInt ∧ (X + Y).toInt ≤ ix.2 + iy.2
    rw [Int32.toInt_add, b_bm (by omega) (by omega)]
    omega
  | 2 =>
    have hin : -2147483648 ≤ ix.1 - iy.2 ∧ ix.2 - iy.1 ≤ 2147483647 := hin
    show ix.1 - iy.2 ≤ (X - Y).toInt ∧ (X - Y).toInt ≤ ix.2 - iy.1
    rw [Int32.toInt_sub, b_bm (by omega) (by omega)]
    omega
  | 3 =>
    have e : b_aiv 3 ix iy = if ix.1 = ix.2 ∧ 0 ≤ ix.1 then (ix.1 * iy.1, ix.1 * iy.2) else if iy.1 = iy.2 ∧ 0 ≤ iy.1 then (ix.1 * iy.1, ix.2 * iy.1) else b_full := rfl
    rw [e] at hin ⊢
    show _ ≤ (X * Y).toInt ∧ (X * Y).toInt ≤ _
    split at hin
    · rename_i hc
      rw [if_pos hc]
      dsimp only at hin ⊢
      have e : X.toInt = ix.1 := by omega
      have k1 := Int.mul_le_mul_of_nonneg_left hy.1 hc.2
      have k2 := Int.mul_le_mul_of_nonneg_left hy.2 hc.2
      rw [Int32.toInt_mul, e, b_bm (by omega) (by omega)]
      exact ⟨k1, k2⟩
    · rename_i hc
      rw [if_neg hc]
      split at hin
      · rename_i hc
        rw [if_pos hc]
        dsimp only at hin ⊢
        have e : Y.toInt = iy.1 := by omega
        have k1 := Int.mul_le_mul_of_nonneg_right hx.1 hc.2
        have k2 := Int.mul_le_mul_of_nonneg_right hx.2 hc.2
        rw [Int32.toInt_mul, e, b_bm (by omega) (by omega)]
        exact ⟨k1, k2⟩
      · rename_i hc
        rw [if_neg hc]
        exact b_fullI _
  | 4 =>
    have e : b_aiv 4 ix iy = if 0 ≤ ix.1 ∧ 1 ≤ iy.1 ∧ iy.1 = iy.2 then (ix.1 / iy.1, ix.2 / iy.1) else b_full := rfl
    rw [e]
    show _ ≤ (X / Y).toInt ∧ (X / Y).toInt ≤ _
    split
    · rename_i hc
      have e : Y.toInt = iy.1 := by omega
      rw [b_divI (by omega) (by omega), e]
      exact ⟨Int.ediv_le_ediv (by omega) hx.1, Int.ediv_le_ediv (by omega) hx.2⟩
    · exact b_fullI _
  | 5 =>
    have e : b_aiv 5 ix iy = if 0 ≤ ix.1 ∧ 1 ≤ iy.1 ∧ iy.1 = iy.2 then (0, if ix.2 ≤ iy.1 - 1 then ix.2 else iy.1 - 1) else b_full := rfl
    rw [e]
    show _ ≤ (X - X / Y * Y).toInt ∧ (X - X / Y * Y).toInt ≤ _
    split
    · rename_i hc
      have e : Y.toInt = iy.1 := by omega
      have hd : (X / Y).toInt = X.toInt / iy.1 := by rw [b_divI (by omega) (by omega), e]
      have k1 : X.toInt / iy.1 * iy.1 + X.toInt % iy.1 = X.toInt := Int.ediv_mul_add_emod X.toInt iy.1
      have k2 : 0 ≤ X.toInt % iy.1 := Int.emod_nonneg _ (by omega)
      have k3 : X.toInt % iy.1 < iy.1 := Int.emod_lt_of_pos _ (by omega)
      have k4 : 0 ≤ X.toInt / iy.1 := Int.ediv_nonneg (by omega) (by omega)
      have k5 : 0 ≤ X.toInt / iy.1 * iy.1 := Int.mul_nonneg k4 (by omega)
      have k6 : (X - X / Y * Y).toInt = X.toInt % iy.1 := by
        rw [Int32.toInt_sub, Int32.toInt_mul, hd, e, b_bm (z := X.toInt / iy.1 * iy.1) (by omega) (by omega), b_bm (by omega) (by omega)]
        omega
      rw [k6]
      dsimp only
      split <;> omega
    · exact b_fullI _
  | 6 =>
    have e : b_aiv 6 ix iy = if 0 ≤ iy.1 then (0, iy.2) else if 0 ≤ ix.1 then (0, ix.2) else b_full := rfl
    rw [e]
    show _ ≤ (X &&& Y).toInt ∧ (X &&& Y).toInt ≤ _
    split
    · rename_i hc
      exact b_andle (by omega) hy.2
    · split
      · rw [Int32.and_comm]
        exact b_andle (by omega) hx.2
      · exact b_fullI _
  | 7 =>
    have e : b_aiv 7 ix iy = if 0 ≤ ix.1 ∧ ix.2 ≤ 1 ∧ 0 ≤ iy.1 ∧ iy.2 ≤ 1 then (0, 1) else b_full := rfl
    rw [e]
    show _ ≤ (X ||| Y).toInt ∧ (X ||| Y).toInt ≤ _
    split
    · rename_i hc
      rcases b_bit (x := X) (by omega) (by omega) with rfl | rfl <;> rcases b_bit (x := Y) (by omega) (by omega) with rfl | rfl <;> decide
    · exact b_fullI _
  | 8 =>
    have k := @Int32.lt_iff_toInt_lt Y X
    show (if ix.1 ≤ iy.1 then ix.1 else iy.1) ≤ (if Y < X then Y else X).toInt ∧ (if Y < X then Y else X).toInt ≤ (if ix.2 ≤ iy.2 then ix.2 else iy.2)
    by_cases q : Y < X
    · rw [if_pos q]
      have q2 := k.mp q
      split <;> split <;> omega
    · rw [if_neg q]
      have q2 : ¬ Y.toInt < X.toInt := fun z => q (k.mpr z)
      split <;> split <;> omega
  | n + 9 =>
    have k := @Int32.lt_iff_toInt_lt X Y
    rw [b_aiv9, b_f29]
    dsimp only
    by_cases q : X < Y
    · rw [if_pos q]
      have q2 := k.mp q
      split <;> split <;> omega
    · rw [if_neg q]
      have q2 : ¬ X.toInt < Y.toInt := fun z => q (k.mpr z)
      split <;> split <;> omega
section BA
variable {K : BH} {ν : BN} {h0 h : AH} {G : BG}
def b_rq (op : Nat) (ix iy : Int × Int) : Int × Int := if b_in32 (b_aiv op ix iy) = true then b_aiv op ix iy else b_full
/-- a fresh symbol for an operation's result, or the one of before -/
def b_res (G : BG) (op : Nat) (x y : BV) : BV × BG := match G.2.2.2.1.find? (fun o => o.1 == op && (o.2.1 == x && o.2.2.1 == y)) with
  | some o => (o.2.2.2, G)
  | none => ((1, G.1.length, 0), b_addO (b_add G (0, (b_rq op (b_iv G.1 x) (b_iv G.1 y)).1, (b_rq op (b_iv G.1 x) (b_iv G.1 y)).2)) (op, x, y, (1, G.1.length, 0)))
/-- what an operation on one more symbol came to: a value and what is known then -/
def b_out (K : BH) (ν : BN) (h0 h : AH) (G : BG) (o : BV × BG) (v : Value) : Prop := ∃ ν', b_ext G.1.length o.2.1.length ν ν' ∧ b_G K ν' h0 h o.2 ∧ b_v o.2.1.length ν' o.1 v
theorem b_res_ok (g : b_G K ν h0 h G) {op : Nat} {x y : BV} {X Y : Int32} (hx : b_i G.1.length ν x X.toInt) (hy : b_i G.1.length ν y Y.toInt) : b_out K ν h0 h G (b_res G op x y) (.int (b_f2 op X Y)) := by
  unfold b_res
  split
  · rename_i o ho
    have h1 := g.2.2.2.1 o (List.mem_of_find?_eq_some ho)
    have h2 := List.find?_some ho
    simp only [Bool.and_eq_true, beq_iff_eq] at h2
    obtain ⟨e1, e2, e3⟩ := h2
    obtain ⟨X', Y', k1, k2, k3⟩ := h1
    rw [e2] at k1
    rw [e3] at k2
    rw [e1] at k3
    have f1 : X' = X := Int32.toInt_inj.mp (k1.fn hx)
    have f2 : Y' = Y := Int32.toInt_inj.mp (k2.fn hy)
    subst f1 f2
    exact ⟨ν, b_ext.rf, g, k3⟩
  · have ix := b_iv_ok g.1 hx
    have iy := b_iv_ok g.1 hy
    have hq : (b_rq op (b_iv G.1 x) (b_iv G.1 y)).1 ≤ (b_f2 op X Y).toInt ∧ (b_f2 op X Y).toInt ≤ (b_rq op (b_iv G.1 x) (b_iv G.1 y)).2 := by
      unfold b_rq
      split
      · rename_i hin
        exact b_aiv_ok ix iy hin
      · exact b_fullI _
    generalize b_rq op (b_iv G.1 x) (b_iv G.1 y) = q at hq ⊢
    obtain ⟨g1, e1⟩ := g.add (q := (0, q.1, q.2)) (z := (b_f2 op X Y).toInt) (by unfold b_q; rw [if_pos rfl]; exact hq)
    have hl : (b_add G (0, q.1, q.2)).1.length = G.1.length + 1 := by show (G.1 ++ [_]).length = _; rw [List.length_append]; rfl
    have hr : b_i (b_add G (0, q.1, q.2)).1.length (b_nu ν G.1.length (b_f2 op X Y).toInt) (1, G.1.length, 0) (b_f2 op X Y).toInt := Or.inr ⟨rfl, by rw [hl]; exact Nat.lt_succ_self _, by show _ = b_nu _ _ _ G.1.length + 0; rw [b_nu_n, Int.add_zero]⟩
    exact ⟨_, e1, g1.addO ⟨X, Y, hx.ext e1, hy.ext e1, hr⟩, hr⟩
/-- an operation -/
def b_ar (G : BG) (op : Nat) (x y : BV) : BV × BG := match op with
  | 1 => if y.1 = 0 ∧ b_in32 ((b_iv G.1 x).1 + y.2.2, (b_iv G.1 x).2 + y.2.2) = true then ((x.1, x.2.1, x.2.2 + y.2.2), G)
    else if x.1 = 0 ∧ b_in32 ((b_iv G.1 y).1 + x.2.2, (b_iv G.1 y).2 + x.2.2) = true then ((y.1, y.2.1, y.2.2 + x.2.2), G)
    else b_res G 1 x y
  | 2 => if y.1 = 0 ∧ b_in32 ((b_iv G.1 x).1 - y.2.2, (b_iv G.1 x).2 - y.2.2) = true then ((x.1, x.2.1, x.2.2 - y.2.2), G)
    else b_res G 2 x y
  | 0 => if 0 ≤ (b_iv G.1 x).1 ∧ (b_iv G.1 x).2 ≤ 65535 then (x, G) else b_res G 0 x y
  | 7 => if (b_iv G.1 y).1 = 0 ∧ (b_iv G.1 y).2 = 0 then (x, G)
    else if ((b_iv G.1 y).1 = 1 ∧ (b_iv G.1 y).2 = 1) ∧ (0 ≤ (b_iv G.1 x).1 ∧ (b_iv G.1 x).2 ≤ 1) then ((0, 0, 1), G)
    else b_res G 7 x y
  | 6 => if (b_iv G.1 y).1 = 0 ∧ (b_iv G.1 y).2 = 0 then ((0, 0, 0), G)
    else if ((b_iv G.1 y).1 = 1 ∧ (b_iv G.1 y).2 = 1) ∧ (0 ≤ (b_iv G.1 x).1 ∧ (b_iv G.1 x).2 ≤ 1) then (x, G)
    else b_res G 6 x y
  | op => b_res G op x y
theorem b_i.sh {N : Nat} {b : BV} {z c : Int} (h : b_i N ν b z) : b_i N ν (b.1, b.2.1, b.2.2 + c) (z + c) := by
  rcases h with ⟨h1, h2⟩ | ⟨h1, h2, h3⟩
  · exact Or.inl ⟨h1, by rw [h2]⟩
  · exact Or.inr ⟨h1, h2, by show z + c = ν b.2.1 + (b.2.2 + c); omega⟩
theorem b_i.sg {N : Nat} {b : BV} {z c : Int} (h : b_i N ν b z) : b_i N ν (b.1, b.2.1, b.2.2 - c) (z - c) := by
  rcases h with ⟨h1, h2⟩ | ⟨h1, h2, h3⟩
  · exact Or.inl ⟨h1, by rw [h2]⟩
  · exact Or.inr ⟨h1, h2, by show z - c = ν b.2.1 + (b.2.2 - c); omega⟩
theorem b_i.c0 {N : Nat} {b : BV} {z : Int} (h : b_i N ν b z) (h0 : b.1 = 0) : z = b.2.2 := by
  rcases h with ⟨h1, h2⟩ | ⟨h1, h2, h3⟩
  · exact h2
  · omega
theorem b_ar_ok (g : b_G K ν h0 h G) {op : Nat} {x y : BV} {X Y : Int32} (hx : b_i G.1.length ν x X.toInt) (hy : b_i G.1.length ν y Y.toInt) : b_out K ν h0 h G (b_ar G op x y) (.int (b_f2 op X Y)) := by
  have ix := b_iv_ok g.1 hx
  have iy := b_iv_ok g.1 hy
  unfold b_ar
  split
  · split
    · rename_i hc
      have hin := b_in32_ok hc.2
      dsimp only at hin
      have ey := hy.c0 hc.1
      refine ⟨ν, b_ext.rf, g, ?_⟩
      show b_i _ ν _ (X + Y).toInt
      rw [Int32.toInt_add, b_bm (by omega) (by omega), ey]
      exact hx.sh
    · split
      · rename_i hc
        have hin := b_in32_ok hc.2
        dsimp only at hin
        have ex := hx.c0 hc.1
        refine ⟨ν, b_ext.rf, g, ?_⟩
        show b_i _ ν _ (X + Y).toInt
        rw [Int32.toInt_add, b_bm (by omega) (by omega), ex]
        have k := hy.sh (c := x.2.2)
        rw [Int.add_comm Y.toInt] at k
        exact k
      · exact b_res_ok g hx hy
  · split
    · rename_i hc
      have hin := b_in32_ok hc.2
      dsimp only at hin
      have ey := hy.c0 hc.1
      refine ⟨ν, b_ext.rf, g, ?_⟩
      show b_i _ ν _ (X - Y).toInt
      rw [Int32.toInt_sub, b_bm (by omega) (by omega), ey]
      exact hx.sg
    · exact b_res_ok g hx hy
  · split
    · rename_i hc
      refine ⟨ν, b_ext.rf, g, ?_⟩
      show b_i _ ν _ (s_i2c X).toInt
      rw [s_i2c_id (by omega) (by omega)]
      exact hx
    · exact b_res_ok g hx hy
  · split
    · rename_i hc
      refine ⟨ν, b_ext.rf, g, ?_⟩
      have e : Y = 0 := Int32.toInt_inj.mp (by have : (0 : Int32).toInt = 0 := by decide
                                               omega)
      show b_i _ ν _ (X ||| Y).toInt
      rw [e, show X ||| (0 : Int32) = X by simp]
      exact hx
    · split
      · rename_i hc
        refine ⟨ν, b_ext.rf, g, ?_⟩
        have z0 : (0 : Int32).toInt = 0 := by decide
        have z1 : (1 : Int32).toInt = 1 := by decide
        have e : Y = 1 := Int32.toInt_inj.mp (by omega)
        have e2 : X = 0 ∨ X = 1 := by
          by_cases q : X.toInt < 1
          · exact Or.inl (Int32.toInt_inj.mp (by omega))
          · exact Or.inr (Int32.toInt_inj.mp (by omega))
        show b_i _ ν _ (X ||| Y).toInt
        rw [e]
        rcases e2 with e2 | e2
        · rw [e2]
          exact Or.inl ⟨rfl, (by decide : ((0 : Int32) ||| 1).toInt = 1)⟩
        · rw [e2]
          exact Or.inl ⟨rfl, (by decide : ((1 : Int32) ||| 1).toInt = 1)⟩
      · exact b_res_ok g hx hy
  · split
    · rename_i hc
      refine ⟨ν, b_ext.rf, g, ?_⟩
      have e : Y = 0 := Int32.toInt_inj.mp (by have : (0 : Int32).toInt = 0 := by decide
                                               omega)
      show b_i _ ν _ (X &&& Y).toInt
      rw [e, show X &&& (0 : Int32) = 0 by simp]
      exact Or.inl ⟨rfl, (by decide : (0 : Int32).toInt = 0)⟩
    · split
      · rename_i hc
        refine ⟨ν, b_ext.rf, g, ?_⟩
        have z0 : (0 : Int32).toInt = 0 := by decide
        have z1 : (1 : Int32).toInt = 1 := by decide
        have e : Y = 1 := Int32.toInt_inj.mp (by omega)
        have e2 : X = 0 ∨ X = 1 := by
          by_cases q : X.toInt < 1
          · exact Or.inl (Int32.toInt_inj.mp (by omega))
          · exact Or.inr (Int32.toInt_inj.mp (by omega))
        have e3 : X &&& (1 : Int32) = X := by rcases e2 with e2 | e2 <;> rw [e2] <;> decide
        show b_i _ ν _ (X &&& Y).toInt
        rw [e, e3]
        exact hx
      · exact b_res_ok g hx hy
  · exact b_res_ok g hx hy
end BA
