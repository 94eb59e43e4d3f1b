/-! Loads and stores on values known in part -/
section BP
variable (K : BH)
def b_gr (E : BQ) (b : BV) : Option Nat := if b.1 = 2 then K.1 b.2.1 else if b.1 = 3 then (match E[b.2.1]? with
  | some (g + 1, lo, _) => if lo = 0 then some g else none
  | _ => none) else none
def b_row (E : BQ) (b : BV) : Option (Nat × BR) := (b_gr K E b).bind fun g => (K.2.1 g).map fun row => (g, row)
/-- what a place of a type holds -/
def b_ld (G : BG) (base slot : BV) (ty : BT) : Option (BV × BG) := match G.2.1.find? (fun f => f.1 == base && f.2.1 == slot) with
  | some f => some (f.2.2, G)
  | none => match ty.1 with
    | 0 => some ((1, G.1.length, 0), b_addF (b_add G (0, ty.2.1, ty.2.2)) (base, slot, (1, G.1.length, 0)))
    | 1 => if 0 ≤ ty.2.1 then some ((2, ty.2.1.toNat, 0), G) else none
    | 2 => some ((3, G.1.length, 0), b_addF (b_add G (ty.2.1.toNat + 1, 0, 0)) (base, slot, (3, G.1.length, 0)))
    | 3 => some ((4, 0, 0), G)
    | 4 => some ((6, 0, 0), G)
    | _ => none
/-- an index lies in an array -/
def b_inb (G : BG) (row : BR) (base idx : BV) : Bool := decide (idx.1 < 2) && (decide (0 ≤ (b_iv G.1 idx).1) && (if row.2.2.1 = 1 then decide ((b_iv G.1 idx).2 < row.2.1) else
  (decide (row.2.2.1 = 2) && (decide (idx.1 = 1) && G.2.1.any fun f => f.1 == base && (f.2.1.1 == 9 && (f.2.2.1 == 1 && G.2.2.1.any fun c => c.1 == idx.2.1 && (c.2.1 == f.2.2.2.1 && decide (idx.2.2 + c.2.2 < f.2.2.2.2))))))))
/-- a value is of a place's type -/
def b_fit (E : BQ) (v : BV) (ty : BT) : Bool := match ty.1 with
  | 0 => decide (v.1 < 2) && (decide (ty.2.1 ≤ (b_iv E v).1) && decide ((b_iv E v).2 ≤ ty.2.2))
  | 3 => decide (v.1 = 4 ∨ v.1 = 7 ∨ v.1 = 8)
  | 4 => decide (v.1 = 6 ∨ v.1 = 11)
  | _ => false
/-- the (group, field) that a fact speaks of -/
def b_fk (E : BQ) (f : BV × BV × BV) : Option (Nat × Nat) := (b_row K E f.1).bind fun q => if q.2.2.2.1 = 0 then (if f.2.1.1 = 0 then some (q.1, f.2.1.2.2.toNat) else none) else some (q.1, 0)
def b_kp (E : BQ) (w : Nat × Nat) (f : BV × BV × BV) : Bool := f.2.1.1 == 9 || (match b_fk K E f with
  | some k => !(k == w)
  | none => false)
/-- bounds of a whole number -/
def b_bnd (E : BQ) (b : BV) : Option (Int × Int) := if b.1 = 0 then some (b.2.2, b.2.2) else if b.1 = 1 then (match E[b.2.1]? with
  | some (0, lo, hi) => some (lo + b.2.2, hi + b.2.2)
  | _ => none) else none
/-- surely less -/
def b_sl (G : BG) (x y : BV) : Bool := (match b_bnd G.1 x, b_bnd G.1 y with
  | some p, some q => decide (p.2 < q.1)
  | _, _ => false) || (decide (x.1 = 1) && (decide (y.1 = 1) && ((decide (x.2.1 = y.2.1) && decide (x.2.2 < y.2.2)) || G.2.2.1.any fun c => decide (c.1 = x.2.1) && (decide (c.2.1 = y.2.1) && decide (c.2.2 + x.2.2 < y.2.2)))))
def b_rl (G : BG) (x y : BV) : Bool := decide (x.1 = 3) && (decide (y.1 = 3) && G.2.2.1.any fun c => decide (c.1 = x.2.1) && (decide (c.2.1 = y.2.1) && decide (c.2.2 < 0)))
/-- surely other cells -/
def b_rn (G : BG) (x y : BV) : Bool := (decide (x.1 = 2) && (decide (y.1 = 2) && decide (x.2.1 ≠ y.2.1))) || (b_rl G x y || b_rl G y x)
/-- a fact of a place that is surely another -/
def b_dif (G : BG) (base slot : BV) (f : BV × BV × BV) : Bool := G.2.2.1.contains (0, 0, 2) && (decide (f.2.1.1 ≠ 9) && (b_rn G base f.1 || (b_sl G slot f.2.1 || b_sl G f.2.1 slot)))
def b_put (G : BG) (w : Nat × Nat) (base slot v : BV) : BG := (G.1, (if v.1 < 2 ∨ 6 < v.1 then [(base, slot, v)] else []) ++ G.2.1.filter (fun f => b_kp K G.1 w f || b_dif G base slot f), G.2.2.1, G.2.2.2.1, if G.2.2.2.2.contains w = true then G.2.2.2.2 else w :: G.2.2.2.2)
end BP
section BP2
variable {K : BH} {ν : BN} {h0 h : AH} {G : BG}
theorem b_gr_ok {N : Nat} {E : BQ} {b : BV} {a g : Nat} (hs : b_sat K E ν) (hb : b_r N ν b a) (hg : b_gr K E b = some g) : K.1 a = some g := by
  unfold b_gr at hg
  rcases hb with ⟨h1, h2⟩ | ⟨h1, h2, h3⟩
  · rw [if_pos h1] at hg
    rw [h2]; exact hg
  · rw [if_neg (by omega), if_pos h1] at hg
    split at hg
    · rename_i q lo _ he
      split at hg
      · rename_i e0
        cases hg
        have k := hs _ _ he
        unfold b_q at k
        rw [if_neg (by dsimp only; omega)] at k
        obtain ⟨a', k1, k2⟩ := k
        have e : a = a' := by omega
        rw [e]
        exact k2 e0
      · cases hg
    · cases hg
theorem b_row_ok {N : Nat} {E : BQ} {b : BV} {a : Nat} {q : Nat × BR} (hs : b_sat K E ν) (hb : b_r N ν b a) (hg : b_row K E b = some q) : K.1 a = some q.1 ∧ K.2.1 q.1 = some q.2 := by
  unfold b_row at hg
  rw [Option.bind_eq_some_iff] at hg
  obtain ⟨g, h1, h2⟩ := hg
  rw [Option.map_eq_some_iff] at h2
  obtain ⟨row, h3, rfl⟩ := h2
  exact ⟨b_gr_ok hs hb h1, h3⟩
theorem b_row_rf {E : BQ} {b : BV} {q : Nat × BR} (hg : b_row K E b = some q) : b.1 = 2 ∨ b.1 = 3 := by
  unfold b_row b_gr at hg
  rw [Option.bind_eq_some_iff] at hg
  obtain ⟨g, h1, h2⟩ := hg
  split at h1
  · rename_i e; exact Or.inl e
  · split at h1
    · rename_i e; exact Or.inr e
    · cases h1
theorem b_ld_ok (g : b_G K ν h0 h G) {base slot : BV} {ty : BT} {a t j : Nat} {vs : List Value} {v : Value} {o : BV × BG} (hb : b_r G.1.length ν base a) (ha : h[a]? = some (t, vs)) (hs : b_i G.1.length ν slot j) (hv : vs[j]? = some v) (ht : b_st K ty v) (ho : b_ld G base slot ty = some o) : b_out K ν h0 h G o v := by
  have s9 : ¬ slot.1 = 9 := by rcases hs with ⟨e, -⟩ | ⟨e, -⟩ <;> omega
  unfold b_ld at ho
  split at ho
  · rename_i f hf
    cases ho
    have h1 := g.2.1 f (List.mem_of_find?_eq_some hf)
    have h2 := List.find?_some hf
    simp only [Bool.and_eq_true, beq_iff_eq] at h2
    obtain ⟨a', t', vs', k1, k2, k3⟩ := h1
    rw [h2.1] at k1
    have e1 := k1.fn hb
    subst e1
    rw [ha] at k2
    cases k2
    rw [if_neg (by rw [h2.2]; exact s9)] at k3
    obtain ⟨j', v', m1, m2, m3⟩ := k3
    rw [h2.2] at m1
    have e2 : (j' : Int) = (j : Int) := m1.fn hs
    have e3 : j' = j := by omega
    subst e3
    rw [hv] at m2
    cases m2
    exact ⟨ν, b_ext.rf, g, m3⟩
  · have key : ∀ (q : Nat × Int × Int) (z : Int) (b : BV), b_q K q z → b_v (G.1.length + 1) (b_nu ν G.1.length z) b v → b_out K ν h0 h G (b, b_addF (b_add G q) (base, slot, b)) v := by
      intro q z b hq hbv
      obtain ⟨g1, e1⟩ := g.add hq
      have hl : (b_add G q).1.length = G.1.length + 1 := by show (G.1 ++ [_]).length = _; rw [List.length_append]; rfl
      have hbv' : b_v (b_add G q).1.length (b_nu ν G.1.length z) b v := by rw [hl]; exact hbv
      exact ⟨_, e1, g1.addF ⟨a, t, vs, hb.ext e1, ha, by rw [if_neg (show ¬ (base, slot, b).2.1.1 = 9 from s9)]; exact ⟨j, v, hs.ext e1, hv, hbv'⟩⟩, hbv'⟩
    unfold b_st at ht
    split at ho
    · rename_i e0
      rw [e0] at ht
      cases ho
      cases v <;> first | exact ht.elim | skip
      rename_i x
      exact key _ x.toInt _ (by unfold b_q; rw [if_pos rfl]; exact ht) (Or.inr ⟨rfl, Nat.lt_succ_self _, by show _ = b_nu _ _ _ G.1.length + 0; rw [b_nu_n, Int.add_zero]⟩)
    · rename_i e0
      rw [e0] at ht
      split at ho
      · rename_i h0
        cases ho
        cases v <;> first | exact ht.elim | skip
        rename_i x
        have ht : (x : Int) = ty.2.1 := ht
        refine ⟨ν, b_ext.rf, g, Or.inl ⟨rfl, ?_⟩⟩
        show x = ty.2.1.toNat
        rw [← ht]
        rfl
      · cases ho
    · rename_i e0
      rw [e0] at ht
      cases ho
      cases v <;> first | exact ht.elim | skip
      rename_i x
      obtain ⟨gg, k1, k2⟩ := ht
      exact key _ (x : Int) _ (by unfold b_q; rw [if_neg (by dsimp only; omega)]; exact ⟨x, rfl, fun _ => by rw [k2]; congr 1; show gg = ty.2.1.toNat + 1 - 1; omega⟩) (Or.inr ⟨rfl, Nat.lt_succ_self _, by show _ = b_nu _ _ _ G.1.length; rw [b_nu_n]⟩)
    · rename_i e0
      rw [e0] at ht
      cases ho
      cases v <;> first | exact ht.elim | skip
      exact ⟨ν, b_ext.rf, g, Or.inl rfl⟩
    · rename_i e0
      rw [e0] at ht
      cases ho
      cases v <;> first | exact ht.elim | skip
      exact ⟨ν, b_ext.rf, g, Or.inl rfl⟩
    · cases ho
theorem b_inb_ok (g : b_G K ν h0 h G) {row : BR} {base idx : BV} {a t : Nat} {vs : List Value} {j : Int32} (hb : b_r G.1.length ν base a) (ha : h[a]? = some (t, vs)) (hlen : row.2.2.1 ≠ 2 → vs.length = row.2.1) (hj : b_i G.1.length ν idx j.toInt) (hi : b_inb G row base idx = true) : 0 ≤ j.toInt ∧ j.toInt < (vs.length : Int) := by
  have iv := b_iv_ok g.1 hj
  unfold b_inb at hi
  rw [Bool.and_eq_true, decide_eq_true_eq, Bool.and_eq_true, decide_eq_true_eq] at hi
  obtain ⟨-, h1, h2⟩ := hi
  refine ⟨by omega, ?_⟩
  split at h2
  · rename_i e
    rw [hlen (by omega)]
    have := of_decide_eq_true h2
    omega
  · rw [Bool.and_eq_true, decide_eq_true_eq, Bool.and_eq_true, decide_eq_true_eq] at h2
    obtain ⟨-, k1, k2⟩ := h2
    obtain ⟨f, f1, f2⟩ := List.any_eq_true.mp k2
    simp only [Bool.and_eq_true, beq_iff_eq] at f2
    obtain ⟨e1, e2, e3, e4⟩ := f2
    obtain ⟨c, c1, c2⟩ := List.any_eq_true.mp e4
    simp only [Bool.and_eq_true, beq_iff_eq, decide_eq_true_eq] at c2
    obtain ⟨a', t', vs', m1, m2, m3⟩ := g.2.1 f f1
    rw [e1] at m1
    have e5 := m1.fn hb
    subst e5
    rw [ha] at m2
    cases m2
    rw [if_pos e2] at m3
    have c3 := (g.2.2.1 c c1).2.2
    rw [c2.1, c2.2.1] at c3
    rcases m3 with ⟨q1, q2⟩ | ⟨q1, q2, q3⟩
    · omega
    · rcases hj with ⟨p1, p2⟩ | ⟨p1, p2, p3⟩
      · omega
      · omega
theorem b_fit_ok {E : BQ} {v : BV} {ty : BT} {x : Value} (hs : b_sat K E ν) (hv : b_v E.length ν v x) (hf : b_fit E v ty = true) : b_st K ty x := by
  unfold b_fit at hf
  unfold b_st
  split at hf
  · rename_i e
    rw [e]
    rw [Bool.and_eq_true, decide_eq_true_eq, Bool.and_eq_true, decide_eq_true_eq, decide_eq_true_eq] at hf
    obtain ⟨x, rfl, hx⟩ := hv.int hf.1
    have iv := b_iv_ok hs hx
    exact ⟨by omega, by omega⟩
  · rename_i e
    rw [e]
    obtain ⟨x, rfl⟩ := hv.long (of_decide_eq_true hf)
    trivial
  · rename_i e
    rw [e]
    obtain ⟨x, rfl⟩ := hv.dbl (of_decide_eq_true hf)
    trivial
  · cases hf
theorem b_T.put (H : b_T K h) {a n : Nat} {t : Nat} {vs : List Value} {v : Value} (ha : h[a]? = some (t, vs)) (hv : ∀ g row ty, K.1 a = some g → K.2.1 g = some row → b_ty row n = some ty → b_st K ty v) : b_T K (h.set a (t, vs.set n v)) := by
  intro a' g row h1 h2
  obtain ⟨us, k1, k2, k3⟩ := H a' g row h1 h2
  by_cases e : a' = a
  · subst e
    rw [ha] at k1
    cases k1
    refine ⟨vs.set n v, ?_, fun q => by rw [List.length_set]; exact k2 q, fun j w ty hj hty => ?_⟩
    · rw [List.getElem?_set_self (List.getElem?_eq_some_iff.mp ha).1]
    · rw [List.getElem?_set] at hj
      split at hj
      · rename_i e2
        subst e2
        split at hj
        · cases hj
          exact hv g row ty h1 h2 hty
        · cases hj
      · exact k3 j w ty hj hty
  · exact ⟨us, by rw [List.getElem?_set_ne (Ne.symm e)]; exact k1, k2, k3⟩
theorem b_frm.put {W : BW} (F : b_frm K W h0 h) {a n t : Nat} {vs : List Value} {v : Value} {w : Nat × Nat} (ha : h[a]? = some (t, vs)) (hk : b_key K a n = some w) : b_frm K (if W.contains w = true then W else w :: W) h0 (h.set a (t, vs.set n v)) := by
  intro a' c hc
  obtain ⟨us, k1, k2, k3⟩ := F a' c hc
  have key : ∀ w', w' ∈ W ∨ w' = w → w' ∈ (if W.contains w = true then W else w :: W) := by
    intro w' hw
    split
    · rename_i q
      rcases hw with q2 | q2
      · exact q2
      · rw [q2]
        simpa using q
    · rcases hw with q2 | q2
      · exact List.mem_cons_of_mem _ q2
      · rw [q2]; exact List.mem_cons_self
  by_cases e : a' = a
  · subst e
    rw [ha] at k1
    cases k1
    refine ⟨vs.set n v, by rw [List.getElem?_set_self (List.getElem?_eq_some_iff.mp ha).1], by rw [List.length_set]; exact k2, fun j hj => ?_⟩
    have hn : ¬ n = j := fun q => by subst q; exact hj w (key w (Or.inr rfl)) hk
    rw [List.getElem?_set_ne hn]
    exact k3 j (fun w' hw' => hj w' (key w' (Or.inl hw')))
  · exact ⟨us, by rw [List.getElem?_set_ne (Ne.symm e)]; exact k1, k2, fun j hj => k3 j (fun w' hw' => hj w' (key w' (Or.inl hw')))⟩
theorem b_H.put (hJ : b_JF K) (H : b_H K h) {a n : Nat} {t : Nat} {vs : List Value} {v : Value} {w : Nat × Nat} (ha : h[a]? = some (t, vs)) (hk : b_key K a n = some w) (hw : K.2.2.1.contains w = false) (hv : ∀ g row ty, K.1 a = some g → K.2.1 g = some row → b_ty row n = some ty → b_st K ty v) : b_H K (h.set a (t, vs.set n v)) := by
  refine ⟨H.1.put ha hv, hJ [w] h _ (fun w' hw' => ?_) ?_ H.2⟩
  · simp only [List.mem_cons, List.not_mem_nil, or_false] at hw'
    rw [hw']
    intro q
    simp [q] at hw
  · have f0 : b_frm K [] h h := fun a c hc => ⟨c.2, hc, rfl, fun _ _ => rfl⟩
    have f1 := f0.put (v := v) ha hk
    simpa using f1
theorem b_fk_ok (g : b_G K ν h0 h G) {f : BV × BV × BV} {k : Nat × Nat} (hk : b_fk K G.1 f = some k) {a j : Nat} (ha : b_r G.1.length ν f.1 a) (hj : b_i G.1.length ν f.2.1 j) : b_key K a j = some k := by
  unfold b_fk at hk
  rw [Option.bind_eq_some_iff] at hk
  obtain ⟨q, h1, h2⟩ := hk
  obtain ⟨k1, k2⟩ := b_row_ok g.1 ha h1
  unfold b_key
  rw [k1]
  dsimp only
  rw [k2]
  dsimp only
  split at h2
  · rename_i e
    rw [if_pos e]
    split at h2
    · rename_i e2
      cases h2
      have := hj.c0 e2
      congr 2
      omega
    · cases h2
  · rename_i e
    rw [if_neg e]
    exact h2
/-- facts that a write leaves -/
theorem b_kp_ok (g : b_G K ν h0 h G) {f : BV × BV × BV} {w : Nat × Nat} (hf : b_fa G.1.length ν h f) (hk : b_kp K G.1 w f = true) {h' : AH} (hh : ∀ (a t : Nat) (vs : List Value), h[a]? = some (t, vs) → ∃ us, h'[a]? = some (t, us) ∧ us.length = vs.length ∧ ∀ j, b_key K a j ≠ some w → us[j]? = vs[j]?) : b_fa G.1.length ν h' f := by
  obtain ⟨a, t, vs, k1, k2, k3⟩ := hf
  obtain ⟨us, u1, u2, u3⟩ := hh a t vs k2
  refine ⟨a, t, us, k1, u1, ?_⟩
  unfold b_kp at hk
  split at k3
  · rename_i e
    rw [if_pos e, u2]; exact k3
  · rename_i e
    rw [if_neg e]
    obtain ⟨j, v, m1, m2, m3⟩ := k3
    refine ⟨j, v, m1, ?_, m3⟩
    have e9 : (f.2.1.1 == 9) = false := by simpa using e
    rw [e9, Bool.false_or] at hk
    split at hk
    · rename_i k hfk
      have hkey := b_fk_ok g hfk k1 m1
      rw [u3 j (fun q => by rw [hkey] at q; cases q; simp at hk)]
      exact m2
    · cases hk
theorem b_bnd_ok {N : Nat} {E : BQ} {b : BV} {z : Int} {p : Int × Int} (hs : b_sat K E ν) (h : b_i N ν b z) (hb : b_bnd E b = some p) : p.1 ≤ z ∧ z ≤ p.2 := by
  unfold b_bnd at hb
  rcases h with ⟨h1, h2⟩ | ⟨h1, h2, h3⟩
  · rw [if_pos h1] at hb
    cases hb
    exact ⟨by dsimp only; omega, by dsimp only; omega⟩
  · rw [if_neg (by omega), if_pos h1] at hb
    split at hb
    · rename_i lo hi he
      cases hb
      have k := hs _ _ he
      unfold b_q at k
      rw [if_pos rfl] at k
      dsimp only at k ⊢
      exact ⟨by omega, by omega⟩
    · cases hb
theorem b_sl_ok (g : b_G K ν h0 h G) {x y : BV} {X Y : Int} (hx : b_i G.1.length ν x X) (hy : b_i G.1.length ν y Y) (hl : b_sl G x y = true) : X < Y := by
  unfold b_sl at hl
  rw [Bool.or_eq_true] at hl
  rcases hl with hl | hl
  · split at hl
    · rename_i p q hp hq
      have i1 := b_bnd_ok g.1 hx hp
      have i2 := b_bnd_ok g.1 hy hq
      have := of_decide_eq_true hl
      omega
    · cases hl
  · rw [Bool.and_eq_true, Bool.and_eq_true, Bool.or_eq_true, decide_eq_true_eq, decide_eq_true_eq] at hl
    obtain ⟨x1, y1, hl⟩ := hl
    have hx : X = ν x.2.1 + x.2.2 := by rcases hx with ⟨q, -⟩ | ⟨-, -, q⟩ <;> omega
    have hy : Y = ν y.2.1 + y.2.2 := by rcases hy with ⟨q, -⟩ | ⟨-, -, q⟩ <;> omega
    rcases hl with hl | hl
    · rw [Bool.and_eq_true, decide_eq_true_eq, decide_eq_true_eq] at hl
      rw [hx, hy, hl.1]
      omega
    · obtain ⟨c, c1, c2⟩ := List.any_eq_true.mp hl
      rw [Bool.and_eq_true, Bool.and_eq_true, decide_eq_true_eq, decide_eq_true_eq, decide_eq_true_eq] at c2
      have c3 := (g.2.2.1 c c1).2.2
      rw [c2.1, c2.2.1] at c3
      omega
theorem b_rl_ok (g : b_G K ν h0 h G) {x y : BV} {a b : Nat} (hx : b_r G.1.length ν x a) (hy : b_r G.1.length ν y b) (hl : b_rl G x y = true) : a < b := by
  unfold b_rl at hl
  rw [Bool.and_eq_true, Bool.and_eq_true, decide_eq_true_eq, decide_eq_true_eq] at hl
  obtain ⟨x1, y1, hl⟩ := hl
  have hx : (a : Int) = ν x.2.1 := by rcases hx with ⟨q, -⟩ | ⟨-, -, q⟩ <;> omega
  have hy : (b : Int) = ν y.2.1 := by rcases hy with ⟨q, -⟩ | ⟨-, -, q⟩ <;> omega
  obtain ⟨c, c1, c2⟩ := List.any_eq_true.mp hl
  rw [Bool.and_eq_true, Bool.and_eq_true, decide_eq_true_eq, decide_eq_true_eq, decide_eq_true_eq] at c2
  have c3 := (g.2.2.1 c c1).2.2
  rw [c2.1, c2.2.1] at c3
  omega
theorem b_rn_ok (g : b_G K ν h0 h G) {x y : BV} {a b : Nat} (hx : b_r G.1.length ν x a) (hy : b_r G.1.length ν y b) (hl : b_rn G x y = true) : a ≠ b := by
  unfold b_rn at hl
  rw [Bool.or_eq_true, Bool.or_eq_true] at hl
  rcases hl with hl | hl | hl
  · rw [Bool.and_eq_true, Bool.and_eq_true, decide_eq_true_eq, decide_eq_true_eq, decide_eq_true_eq] at hl
    obtain ⟨x1, y1, hl⟩ := hl
    have hx : a = x.2.1 := by rcases hx with ⟨-, q⟩ | ⟨q, -⟩ <;> omega
    have hy : b = y.2.1 := by rcases hy with ⟨-, q⟩ | ⟨q, -⟩ <;> omega
    rw [hx, hy]
    exact hl
  · exact Nat.ne_of_lt (b_rl_ok g hx hy hl)
  · exact Nat.ne_of_gt (b_rl_ok g hy hx hl)
theorem b_dif_ok (g : b_G K ν h0 h G) {base slot : BV} {f : BV × BV × BV} {a n t : Nat} {vs : List Value} {v : Value} (hf : b_fa G.1.length ν h f) (hb : b_r G.1.length ν base a) (ha : h[a]? = some (t, vs)) (hs : b_i G.1.length ν slot n) (hd : b_dif G base slot f = true) : b_fa G.1.length ν (h.set a (t, vs.set n v)) f := by
  have hal := (List.getElem?_eq_some_iff.mp ha).1
  obtain ⟨a', t', vs', k1, k2, k3⟩ := hf
  unfold b_dif at hd
  rw [Bool.and_eq_true, Bool.and_eq_true, Bool.or_eq_true, Bool.or_eq_true, decide_eq_true_eq] at hd
  obtain ⟨-, f9, hd⟩ := hd
  rw [if_neg f9] at k3
  obtain ⟨j, v', m1, m2, m3⟩ := k3
  by_cases e : a' = a
  · subst e
    rw [ha] at k2
    cases k2
    have hnj : ¬ n = j := fun q => by
      subst q
      rcases hd with hd | hd | hd
      · exact b_rn_ok g hb k1 hd rfl
      · have := b_sl_ok g hs m1 hd
        omega
      · have := b_sl_ok g m1 hs hd
        omega
    exact ⟨a', t, vs.set n v, k1, List.getElem?_set_self hal, by rw [if_neg f9]; exact ⟨j, v', m1, by rw [List.getElem?_set_ne hnj]; exact m2, m3⟩⟩
  · exact ⟨a', t', vs', k1, by rw [List.getElem?_set_ne (Ne.symm e)]; exact k2, by rw [if_neg f9]; exact ⟨j, v', m1, m2, m3⟩⟩
theorem b_put_ok (hJ : b_JF K) (g : b_G K ν h0 h G) {base slot : BV} {a n t : Nat} {vs : List Value} {b : BV} {v : Value} {w : Nat × Nat} (hb : b_r G.1.length ν base a) (ha : h[a]? = some (t, vs)) (hs : b_i G.1.length ν slot n) (hn : n < vs.length) (hbv : b_v G.1.length ν b v) (hk : b_key K a n = some w) (hw : K.2.2.1.contains w = false) (hv : ∀ g row ty, K.1 a = some g → K.2.1 g = some row → b_ty row n = some ty → b_st K ty v) : b_G K ν h0 (h.set a (t, vs.set n v)) (b_put K G w base slot b) := by
  have s9 : ¬ slot.1 = 9 := by rcases hs with ⟨e, -⟩ | ⟨e, -⟩ <;> omega
  have hal := (List.getElem?_eq_some_iff.mp ha).1
  refine ⟨g.1, fun f hf => ?_, g.2.2.1, g.2.2.2.1, g.2.2.2.2.1.put hJ ha hk hw hv, g.2.2.2.2.2.put ha hk⟩
  have hf : f ∈ (if b.1 < 2 ∨ 6 < b.1 then [(base, slot, b)] else []) ++ G.2.1.filter (fun f => b_kp K G.1 w f || b_dif G base slot f) := hf
  rcases List.mem_append.mp hf with q | q
  · split at q
    · simp only [List.mem_cons, List.not_mem_nil, or_false] at q
      subst q
      exact ⟨a, t, vs.set n v, hb, List.getElem?_set_self hal, by rw [if_neg (show ¬ (base, slot, b).2.1.1 = 9 from s9)]; exact ⟨n, v, hs, List.getElem?_set_self hn, hbv⟩⟩
    · cases q
  · obtain ⟨q1, q2⟩ := List.mem_filter.mp q
    have q2 : (b_kp K G.1 w f || b_dif G base slot f) = true := q2
    rw [Bool.or_eq_true] at q2
    rcases q2 with q2 | q2
    case inr => exact b_dif_ok g (g.2.1 f q1) hb ha hs q2
    refine b_kp_ok g (g.2.1 f q1) q2 (fun a' t' vs' h' => ?_)
    by_cases e : a' = a
    · subst e
      rw [ha] at h'
      cases h'
      refine ⟨vs.set n v, List.getElem?_set_self hal, List.length_set .., fun j hj => ?_⟩
      have hnj : ¬ n = j := fun q => by subst q; exact hj hk
      rw [List.getElem?_set_ne hnj]
    · exact ⟨vs', by rw [List.getElem?_set_ne (Ne.symm e)]; exact h', rfl, fun _ _ => rfl⟩
end BP2
