/-! Conditions: what they say of the symbols -/
def b_hiQ (G : BG) (n : Nat) (v : Int) : Option BG := match G.1[n]? with
  | some (0, lo, hi) => if lo ≤ v then some (if v < hi then (G.1.set n (0, lo, v), G.2) else G) else none
  | _ => some G
def b_loQ (G : BG) (n : Nat) (v : Int) : Option BG := match G.1[n]? with
  | some (0, lo, hi) => if v ≤ hi then some (if lo < v then (G.1.set n (0, v, hi), G.2) else G) else none
  | _ => some G
/-- what the constraints say of upper bounds -/
def b_pr : BC → BG → Option BG
  | [], G => some G
  | d :: l, G => match G.1[d.2.1]? with
    | some (0, _, hi) => (b_hiQ G d.1 (hi + d.2.2)).bind (b_pr l)
    | _ => b_pr l G
def b_le0 (G : BG) (x y : BV) (c : Int) : Option BG :=
  if x.1 = 0 then (if y.1 = 0 then (if x.2.2 ≤ y.2.2 + c then some G else none) else b_loQ G y.2.1 (x.2.2 - c - y.2.2))
  else if y.1 = 0 then b_hiQ G x.2.1 (y.2.2 + c - x.2.2)
  else if x.2.1 = y.2.1 then (if x.2.2 ≤ y.2.2 + c then some G else none)
  else if (G.2.2.1.any fun d => d.1 == y.2.1 && (d.2.1 == x.2.1 && decide (d.2.2 + (y.2.2 + c - x.2.2) < 0))) = true then none
  else match G.1[x.2.1]?, G.1[y.2.1]? with
    | some (0, lo, _), some (0, _, hi) => (b_hiQ G x.2.1 (hi + (y.2.2 + c - x.2.2))).bind fun G1 => (b_loQ G1 y.2.1 (lo - (y.2.2 + c - x.2.2))).map fun G2 => b_addC G2 (x.2.1, y.2.1, y.2.2 + c - x.2.2)
    | _, _ => some G
/-- x is at most y plus c -/
def b_le (G : BG) (x y : BV) (c : Int) : Option BG := (b_le0 G x y c).bind fun G' => b_pr G'.2.2.1 G'
def b_nq (G : BG) (x y : BV) : Option BG :=
  if (b_iv G.1 x).1 = (b_iv G.1 x).2 ∧ (b_iv G.1 y).1 = (b_iv G.1 y).2 ∧ (b_iv G.1 x).1 = (b_iv G.1 y).1 then none
  else if x.1 = 1 ∧ y.1 = 1 ∧ x.2.1 = y.2.1 ∧ x.2.2 = y.2.2 then none
  else if (b_iv G.1 y).1 = (b_iv G.1 y).2 ∧ (b_iv G.1 y).1 = (b_iv G.1 x).1 then b_le G y x (-1)
  else if (b_iv G.1 y).1 = (b_iv G.1 y).2 ∧ (b_iv G.1 y).1 = (b_iv G.1 x).2 then b_le G x y (-1)
  else some G
def b_as (c : Jvm.ClassFile.Cond) (G : BG) (x y : BV) : Option BG := match c with
  | .eq => (b_le G x y 0).bind fun G => b_le G y x 0
  | .ne => b_nq G x y
  | .lt => b_le G x y (-1)
  | .ge => b_le G y x 0
  | .gt => b_le G y x (-1)
  | .le => b_le G x y 0
def b_not (c : Jvm.ClassFile.Cond) : Jvm.ClassFile.Cond := match c with
  | .eq => .ne
  | .ne => .eq
  | .lt => .ge
  | .ge => .lt
  | .gt => .le
  | .le => .gt
section BC
variable {K : BH} {ν : BN} {h0 h : AH} {G : BG}
/-- what a condition leaves -/
def b_still (K : BH) (ν : BN) (h0 h : AH) (G : BG) (o : Option BG) : Prop := ∃ G', o = some G' ∧ b_G K ν h0 h G' ∧ G'.1.length = G.1.length
theorem b_still.id (g : b_G K ν h0 h G) : b_still K ν h0 h G (some G) := ⟨G, rfl, g, rfl⟩
theorem b_setQ (g : b_G K ν h0 h G) {n : Nat} {lo hi : Int} (h1 : lo ≤ ν n) (h2 : ν n ≤ hi) : b_G K ν h0 h (G.1.set n (0, lo, hi), G.2) ∧ (G.1.set n (0, lo, hi)).length = G.1.length := by
  have e : (G.1.set n (0, lo, hi)).length = G.1.length := List.length_set ..
  obtain ⟨g1, g2, g3, g4, g5⟩ := g
  refine ⟨⟨fun k p hp => ?_, fun f hf => ?_, fun c hc => ?_, fun o ho => ?_, g5⟩, e⟩
  · rw [List.getElem?_set] at hp
    split at hp
    · rename_i hk
      subst hk
      split at hp
      · cases hp
        unfold b_q
        rw [if_pos rfl]
        exact ⟨h1, h2⟩
      · cases hp
    · exact g1 k p hp
  · show b_fa (G.1.set n (0, lo, hi)).length ν h f
    rw [e]; exact g2 f hf
  · show b_co (G.1.set n (0, lo, hi)).length ν c
    rw [e]; exact g3 c hc
  · show b_op (G.1.set n (0, lo, hi)).length ν o
    rw [e]; exact g4 o ho
theorem b_hiQ_ok (g : b_G K ν h0 h G) {n : Nat} {v : Int} (hv : ν n ≤ v) : b_still K ν h0 h G (b_hiQ G n v) := by
  unfold b_hiQ
  split
  · rename_i lo hi he
    have hq := g.1 _ _ he
    unfold b_q at hq
    rw [if_pos rfl] at hq
    dsimp only at hq
    rw [if_pos (show lo ≤ v by omega)]
    split
    · obtain ⟨k1, k2⟩ := b_setQ g (n := n) hq.1 hv
      exact ⟨_, rfl, k1, k2⟩
    · exact b_still.id g
  · exact b_still.id g
theorem b_loQ_ok (g : b_G K ν h0 h G) {n : Nat} {v : Int} (hv : v ≤ ν n) : b_still K ν h0 h G (b_loQ G n v) := by
  unfold b_loQ
  split
  · rename_i lo hi he
    have hq := g.1 _ _ he
    unfold b_q at hq
    rw [if_pos rfl] at hq
    dsimp only at hq
    rw [if_pos (show v ≤ hi by omega)]
    split
    · obtain ⟨k1, k2⟩ := b_setQ g (n := n) hv hq.2
      exact ⟨_, rfl, k1, k2⟩
    · exact b_still.id g
  · exact b_still.id g
theorem b_le0_ok (g : b_G K ν h0 h G) {x y : BV} {zx zy c : Int} (hx : b_i G.1.length ν x zx) (hy : b_i G.1.length ν y zy) (hc : zx ≤ zy + c) : b_still K ν h0 h G (b_le0 G x y c) := by
  unfold b_le0
  rcases hx with ⟨x1, x2⟩ | ⟨x1, x2, x3⟩ <;> rcases hy with ⟨y1, y2⟩ | ⟨y1, y2, y3⟩
  · rw [if_pos x1, if_pos y1, if_pos (by omega)]
    exact b_still.id g
  · rw [if_pos x1, if_neg (by omega)]
    exact b_loQ_ok g (by omega)
  · rw [if_neg (by omega), if_pos y1]
    exact b_hiQ_ok g (by omega)
  · rw [if_neg (by omega), if_neg (by omega)]
    split
    · rename_i e
      rw [e] at x3
      rw [if_pos (by omega)]
      exact b_still.id g
    · split
      · rename_i e
        exfalso
        obtain ⟨d, d1, d2⟩ := List.any_eq_true.mp e
        simp only [Bool.and_eq_true, beq_iff_eq, decide_eq_true_eq] at d2
        have d3 := (g.2.2.1 d d1).2.2
        rw [d2.1, d2.2.1] at d3
        omega
      · split
        · rename_i lo _ _ hi ex ey
          have qx := g.1 _ _ ex
          have qy := g.1 _ _ ey
          unfold b_q at qx qy
          rw [if_pos rfl] at qx qy
          dsimp only at qx qy
          obtain ⟨G1, e1, g1, l1⟩ := b_hiQ_ok g (n := x.2.1) (v := hi + (y.2.2 + c - x.2.2)) (by omega)
          obtain ⟨G2, e2, g2, l2⟩ := b_loQ_ok g1 (n := y.2.1) (v := lo - (y.2.2 + c - x.2.2)) (by omega)
          rw [e1]
          show b_still K ν h0 h G (Option.map _ (b_loQ G1 _ _))
          rw [e2]
          exact ⟨_, rfl, g2.addC ⟨by rw [l2, l1]; exact x2, by rw [l2, l1]; exact y2, by show ν x.2.1 ≤ ν y.2.1 + (y.2.2 + c - x.2.2); omega⟩, l2.trans l1⟩
        · exact b_still.id g
theorem b_pr_ok : ∀ {l : BC} {G : BG}, b_G K ν h0 h G → (∀ d ∈ l, ν d.1 ≤ ν d.2.1 + d.2.2) → b_still K ν h0 h G (b_pr l G)
  | [], G, g, _ => b_still.id g
  | d :: l, G, g, hd => by
    rw [b_pr]
    split
    · rename_i lo hi he
      have hq := g.1 _ _ he
      unfold b_q at hq
      rw [if_pos rfl] at hq
      dsimp only at hq
      have hd0 := hd d List.mem_cons_self
      obtain ⟨G1, k1, g1, l1⟩ := b_hiQ_ok g (n := d.1) (v := hi + d.2.2) (by omega)
      obtain ⟨G2, k2, g2, l2⟩ := b_pr_ok g1 (fun d' hd' => hd d' (List.mem_cons_of_mem _ hd'))
      rw [k1]
      exact ⟨G2, k2, g2, l2.trans l1⟩
    · exact b_pr_ok g (fun d' hd' => hd d' (List.mem_cons_of_mem _ hd'))
theorem b_le_ok (g : b_G K ν h0 h G) {x y : BV} {zx zy c : Int} (hx : b_i G.1.length ν x zx) (hy : b_i G.1.length ν y zy) (hc : zx ≤ zy + c) : b_still K ν h0 h G (b_le G x y c) := by
  unfold b_le
  obtain ⟨G1, k1, g1, l1⟩ := b_le0_ok g hx hy hc
  obtain ⟨G2, k2, g2, l2⟩ := b_pr_ok g1 (l := G1.2.2.1) (fun d hd => (g1.2.2.1 d hd).2.2)
  rw [k1]
  exact ⟨G2, k2, g2, l2.trans l1⟩
theorem b_nq_ok (g : b_G K ν h0 h G) {x y : BV} {X Y : Int32} (hx : b_i G.1.length ν x X.toInt) (hy : b_i G.1.length ν y Y.toInt) (hc : X.toInt ≠ Y.toInt) : b_still K ν h0 h G (b_nq G x y) := by
  have ix := b_iv_ok g.1 hx
  have iy := b_iv_ok g.1 hy
  unfold b_nq
  split
  · exfalso; omega
  · split
    · rename_i e
      exfalso
      rcases hx with ⟨x1, x2⟩ | ⟨x1, x2, x3⟩ <;> rcases hy with ⟨y1, y2⟩ | ⟨y1, y2, y3⟩
      · omega
      · omega
      · omega
      · rw [e.2.2.1, e.2.2.2] at x3
        omega
    · split
      · exact b_le_ok g hy hx (by omega)
      · split
        · exact b_le_ok g hx hy (by omega)
        · exact b_still.id g
theorem b_as_ok (g : b_G K ν h0 h G) {c : Jvm.ClassFile.Cond} {x y : BV} {X Y : Int32} (hx : b_i G.1.length ν x X.toInt) (hy : b_i G.1.length ν y Y.toInt) (hc : a_if2 c X Y = true) : b_still K ν h0 h G (b_as c G x y) := by
  have e1 : (X = Y) ↔ X.toInt = Y.toInt := Int32.toInt_inj.symm
  have e2 : (X < Y) ↔ X.toInt < Y.toInt := Int32.lt_iff_toInt_lt
  have e3 : (Y ≤ X) ↔ Y.toInt ≤ X.toInt := Int32.le_iff_toInt_le
  have e4 : (Y < X) ↔ Y.toInt < X.toInt := Int32.lt_iff_toInt_lt
  have e5 : (X ≤ Y) ↔ X.toInt ≤ Y.toInt := Int32.le_iff_toInt_le
  cases c <;> simp only [a_if2, b_as, decide_eq_true_eq, Bool.not_eq_true', decide_eq_false_iff_not, e1, e2, e3, e4, e5] at hc ⊢
  · obtain ⟨G1, k1, g1, l1⟩ := b_le_ok g (c := 0) hx hy (by omega)
    rw [k1]
    obtain ⟨G2, k2, g2, l2⟩ := b_le_ok g1 (c := 0) (by rw [l1]; exact hy) (by rw [l1]; exact hx) (by omega)
    exact ⟨G2, k2, g2, l2.trans l1⟩
  · exact b_nq_ok g hx hy hc
  · exact b_le_ok g hx hy (by omega)
  · exact b_le_ok g hy hx (by omega)
  · exact b_le_ok g hy hx (by omega)
  · exact b_le_ok g hx hy (by omega)
theorem b_not_ok (c : Jvm.ClassFile.Cond) (x y : Int32) : a_if2 (b_not c) x y = !a_if2 c x y := by
  have e2 : (x < y) ↔ x.toInt < y.toInt := Int32.lt_iff_toInt_lt
  have e3 : (y ≤ x) ↔ y.toInt ≤ x.toInt := Int32.le_iff_toInt_le
  have e4 : (y < x) ↔ y.toInt < x.toInt := Int32.lt_iff_toInt_lt
  have e5 : (x ≤ y) ↔ x.toInt ≤ y.toInt := Int32.le_iff_toInt_le
  cases c <;> simp only [a_if2, b_not, e2, e3, e4, e5, Bool.not_not]
  · by_cases q : x.toInt < y.toInt
    · rw [decide_eq_true q, decide_eq_false (by omega)]; rfl
    · rw [decide_eq_false q, decide_eq_true (by omega)]; rfl
  · by_cases q : x.toInt < y.toInt
    · rw [decide_eq_true q, decide_eq_false (by omega)]; rfl
    · rw [decide_eq_false q, decide_eq_true (by omega)]; rfl
  · by_cases q : x.toInt ≤ y.toInt
    · rw [decide_eq_true q, decide_eq_false (by omega)]; rfl
    · rw [decide_eq_false q, decide_eq_true (by omega)]; rfl
  · by_cases q : x.toInt ≤ y.toInt
    · rw [decide_eq_true q, decide_eq_false (by omega)]; rfl
    · rw [decide_eq_false q, decide_eq_true (by omega)]; rfl
/-- an int that isn't 0 is below or above it; so are two symbols where (0, 0, 0) stands among the constraints -/
def b_asL (c : Jvm.ClassFile.Cond) (G : BG) (x y : BV) : List BG := if c = .ne ∧ ((y.1 = 0 ∧ y.2.2 = 0 ∧ (b_iv G.1 x).1 < 0 ∧ 0 < (b_iv G.1 x).2) ∨ (x.1 = 1 ∧ y.1 = 1 ∧ x.2.1 ≠ y.2.1 ∧ G.2.2.1.contains (0, 0, 0) = true) ∨ (y.1 = 0 ∧ (b_iv G.1 x).1 < y.2.2 ∧ y.2.2 < (b_iv G.1 x).2 ∧ G.2.2.1.contains (0, 0, 1) = true)) then (b_le G x y (-1)).toList ++ (b_le G y x (-1)).toList else (b_as c G x y).toList
theorem b_asL_ok (g : b_G K ν h0 h G) {c : Jvm.ClassFile.Cond} {x y : BV} {X Y : Int32} (hx : b_i G.1.length ν x X.toInt) (hy : b_i G.1.length ν y Y.toInt) (hc : a_if2 c X Y = true) : ∃ G' ∈ b_asL c G x y, b_G K ν h0 h G' ∧ G'.1.length = G.1.length := by
  unfold b_asL
  split
  · rename_i e
    obtain ⟨rfl, -⟩ := e
    have hne : X.toInt ≠ Y.toInt := fun q => by
      have q2 : X = Y := Int32.toInt_inj.mp q
      rw [q2] at hc
      simp [a_if2] at hc
    rcases Int.lt_or_gt_of_ne hne with q | q
    · obtain ⟨G1, k1, g1, l1⟩ := b_le_ok g (c := -1) hx hy (by omega)
      refine ⟨G1, List.mem_append_left _ ?_, g1, l1⟩
      rw [k1]
      exact List.mem_cons_self
    · obtain ⟨G1, k1, g1, l1⟩ := b_le_ok g (c := -1) hy hx (by omega)
      refine ⟨G1, List.mem_append_right _ ?_, g1, l1⟩
      rw [k1]
      exact List.mem_cons_self
  · obtain ⟨G1, k1, g1, l1⟩ := b_as_ok g hx hy hc
    refine ⟨G1, ?_, g1, l1⟩
    rw [k1]
    exact List.mem_cons_self
/-- the ways of a branch: where each goes on, and what is known there -/
def b_cnd (G : BG) (c : Jvm.ClassFile.Cond) (x y : BV) (t n : Nat) : List (Nat × BG) := (b_asL c G x y).map (fun G => (t, G)) ++ (b_asL (b_not c) G x y).map (fun G => (n, G))
theorem b_cnd_ok (g : b_G K ν h0 h G) {c : Jvm.ClassFile.Cond} {x y : BV} {X Y : Int32} (hx : b_i G.1.length ν x X.toInt) (hy : b_i G.1.length ν y Y.toInt) {t n : Nat} : ∃ o ∈ b_cnd G c x y t n, o.1 = (if a_if2 c X Y = true then t else n) ∧ b_G K ν h0 h o.2 ∧ o.2.1.length = G.1.length := by
  by_cases hc : a_if2 c X Y = true
  · obtain ⟨G1, k1, g1, l1⟩ := b_asL_ok g hx hy hc
    exact ⟨(t, G1), List.mem_append_left _ (List.mem_map.mpr ⟨G1, k1, rfl⟩), (if_pos hc).symm, g1, l1⟩
  · have hc2 : a_if2 (b_not c) X Y = true := by rw [b_not_ok]; simpa using hc
    obtain ⟨G1, k1, g1, l1⟩ := b_asL_ok g hx hy hc2
    exact ⟨(n, G1), List.mem_append_right _ (List.mem_map.mpr ⟨G1, k1, rfl⟩), (if_neg hc).symm, g1, l1⟩
/-- a difference, with what the constraints say of it -/
def b_rf1 (G0 G : BG) (r x y : BV) : BG := if r.1 = 1 ∧ x.1 = 1 ∧ y.1 = 1 ∧ b_in32 (b_aiv 2 (b_iv G0.1 x) (b_iv G0.1 y)) = true then (match G.2.2.1.find? (fun d => d.1 == y.2.1 && d.2.1 == x.2.1) with
  | some d => (b_loQ G r.2.1 (x.2.2 - y.2.2 - d.2.2 - r.2.2)).getD G
  | none => G) else G
def b_arx (G : BG) (op : Nat) (x y : BV) : BV × BG := if op = 2 then (match b_ar G 2 x y with
  | (r, G') => (r, b_rf1 G G' r x y)) else b_ar G op x y
theorem b_arx_ok (g : b_G K ν h0 h G) {op : Nat} {x y : BV} {X Y : Int32} (hx : b_i G.1.length ν x X.toInt) (hy : b_i G.1.length ν y Y.toInt) : b_out K ν h0 h G (b_arx G op x y) (.int (b_f2 op X Y)) := by
  unfold b_arx
  split
  · rename_i e
    subst e
    have k := b_ar_ok (op := 2) g hx hy
    generalize b_ar G 2 x y = o at k
    obtain ⟨r, G'⟩ := o
    obtain ⟨ν', x1, g1, v1⟩ := k
    have x1 : b_ext G.1.length G'.1.length ν ν' := x1
    have g1 : b_G K ν' h0 h G' := g1
    have v1 : b_v G'.1.length ν' r (.int (X - Y)) := v1
    dsimp only
    have keep : b_out K ν h0 h G (r, G') (.int (X - Y)) := ⟨ν', x1, g1, v1⟩
    unfold b_rf1
    split
    · rename_i hc
      obtain ⟨r1, r2, r3, r4⟩ := hc
      split
      · rename_i d hd
        have d1 := (g1.2.2.1 d (List.mem_of_find?_eq_some hd)).2.2
        have d2 := List.find?_some hd
        simp only [Bool.and_eq_true, beq_iff_eq] at d2
        rw [d2.1, d2.2] at d1
        have ix := b_iv_ok g.1 hx
        have iy := b_iv_ok g.1 hy
        have hin := b_in32_ok r4
        have hin : -2147483648 ≤ (b_iv G.1 x).1 - (b_iv G.1 y).2 ∧ (b_iv G.1 x).2 - (b_iv G.1 y).1 ≤ 2147483647 := hin
        have e1 : (X - Y).toInt = X.toInt - Y.toInt := by rw [Int32.toInt_sub, b_bm (by omega) (by omega)]
        have vr : (X - Y).toInt = ν' r.2.1 + r.2.2 := by
          have v1 : b_i G'.1.length ν' r (X - Y).toInt := v1
          rcases v1 with ⟨q, -⟩ | ⟨-, -, q⟩
          · omega
          · exact q
        have vx : X.toInt = ν' x.2.1 + x.2.2 := by
          rcases hx.ext x1 with ⟨q, -⟩ | ⟨-, -, q⟩
          · omega
          · exact q
        have vy : Y.toInt = ν' y.2.1 + y.2.2 := by
          rcases hy.ext x1 with ⟨q, -⟩ | ⟨-, -, q⟩
          · omega
          · exact q
        obtain ⟨G2, k2, g2, l2⟩ := b_loQ_ok g1 (n := r.2.1) (v := x.2.2 - y.2.2 - d.2.2 - r.2.2) (by omega)
        rw [k2]
        refine ⟨ν', ?_, g2, ?_⟩
        · show b_ext _ G2.1.length _ _
          rw [l2]; exact x1
        · show b_v G2.1.length _ _ _
          rw [l2]; exact v1
      · exact keep
    · exact keep
  · exact b_ar_ok g hx hy
end BC
