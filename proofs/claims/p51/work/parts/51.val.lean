/-! Values known in part. BV: (0, _, k) the int k; (1, n, k) the int symbol n plus k; (2, a, _) the reference a; (3, n, _) a reference symbol; 4, 6 any long, double, 5 a float that is a number, (10, z, _), (11, z, _) a float, a double out of an int that isn't 0 where z = 1; (7, n, k), (8, _, k) a long like 1 and 0. N symbols have been given, ν says their values. -/
abbrev BV : Type := Nat × Nat × Int
/-- a symbol's own: (0, lo, hi) an int from lo to hi; (g + 1, 0, _) a reference of group g; (_ + 1, 1, _) any reference -/
abbrev BQ : Type := List (Nat × Int × Int)
/-- (base, place, value): what a cell holds at a place; place (9, 0, 0): its length -/
abbrev BF : Type := List (BV × BV × BV)
/-- (a, b, c): symbol a is at most symbol b plus c -/
abbrev BC : Type := List (Nat × Nat × Int)
/-- (operation, x, y, result) -/
abbrev BO : Type := List (Nat × BV × BV × BV)
/-- the places that may have been written: (group, field) -/
abbrev BW : Type := List (Nat × Nat)
abbrev BG : Type := BQ × BF × BC × BO × BW
abbrev BL : Type := List (Option BV)
abbrev BN : Type := Nat → Int
def b_i (N : Nat) (ν : BN) (b : BV) (z : Int) : Prop := (b.1 = 0 ∧ z = b.2.2) ∨ (b.1 = 1 ∧ b.2.1 < N ∧ z = ν b.2.1 + b.2.2)
def b_r (N : Nat) (ν : BN) (b : BV) (a : Nat) : Prop := (b.1 = 2 ∧ a = b.2.1) ∨ (b.1 = 3 ∧ b.2.1 < N ∧ (a : Int) = ν b.2.1)
def b_v (N : Nat) (ν : BN) (b : BV) (v : Value) : Prop := match v with
  | .int x => b_i N ν b x.toInt
  | .ref a => b_r N ν b a
  | .long x => b.1 = 4 ∨ (b.1 = 8 ∧ x.toInt = b.2.2) ∨ (b.1 = 7 ∧ b.2.1 < N ∧ x.toInt = ν b.2.1 + b.2.2)
  | .float f => (b.1 = 5 ∧ Jvm.FP.Core.fIsNaN f = false) ∨ (b.1 = 10 ∧ ∃ X : Int32, f = FP.i2f X ∧ (b.2.1 = 1 → X ≠ 0))
  | .double f => b.1 = 6 ∨ (b.1 = 11 ∧ ∃ X : Int32, f = FP.i2d X ∧ (b.2.1 = 1 → X ≠ 0))
  | _ => False
def b_ext (N N' : Nat) (ν ν' : BN) : Prop := N ≤ N' ∧ ∀ n, n < N → ν' n = ν n
theorem b_ext.rf {N : Nat} {ν : BN} : b_ext N N ν ν := ⟨Nat.le_refl _, fun _ _ => rfl⟩
theorem b_ext.tr {N N' N'' : Nat} {ν ν' ν'' : BN} (h : b_ext N N' ν ν') (g : b_ext N' N'' ν' ν'') : b_ext N N'' ν ν'' := ⟨Nat.le_trans h.1 g.1, fun n hn => (g.2 n (Nat.lt_of_lt_of_le hn h.1)).trans (h.2 n hn)⟩
section BX
variable {N N' : Nat} {ν ν' : BN} {b : BV}
theorem b_i.ext (x : b_ext N N' ν ν') {z : Int} (h : b_i N ν b z) : b_i N' ν' b z := by
  rcases h with h | ⟨h1, h2, h3⟩
  · exact Or.inl h
  · exact Or.inr ⟨h1, Nat.lt_of_lt_of_le h2 x.1, by rw [x.2 _ h2]; exact h3⟩
theorem b_r.ext (x : b_ext N N' ν ν') {a : Nat} (h : b_r N ν b a) : b_r N' ν' b a := by
  rcases h with h | ⟨h1, h2, h3⟩
  · exact Or.inl h
  · exact Or.inr ⟨h1, Nat.lt_of_lt_of_le h2 x.1, by rw [x.2 _ h2]; exact h3⟩
theorem b_v.ext (x : b_ext N N' ν ν') {v : Value} (h : b_v N ν b v) : b_v N' ν' b v := by
  cases v with
  | int _ => exact b_i.ext x h
  | ref _ => exact b_r.ext x h
  | long y =>
    rcases h with h | h | ⟨h1, h2, h3⟩
    · exact Or.inl h
    · exact Or.inr (Or.inl h)
    · exact Or.inr (Or.inr ⟨h1, Nat.lt_of_lt_of_le h2 x.1, by rw [x.2 _ h2]; exact h3⟩)
  | _ => exact h
theorem b_i.fn {z z' : Int} (h : b_i N ν b z) (g : b_i N ν b z') : z = z' := by
  rcases h with ⟨h1, h2⟩ | ⟨h1, h2, h3⟩ <;> rcases g with ⟨g1, g2⟩ | ⟨g1, g2, g3⟩ <;> omega
theorem b_r.fn {a a' : Nat} (h : b_r N ν b a) (g : b_r N ν b a') : a = a' := by
  rcases h with ⟨h1, h2⟩ | ⟨h1, h2, h3⟩ <;> rcases g with ⟨g1, g2⟩ | ⟨g1, g2, g3⟩ <;> omega
theorem b_v.int {v : Value} (h : b_v N ν b v) (hk : b.1 < 2) : ∃ x, v = .int x ∧ b_i N ν b x.toInt := by
  cases v with
  | int x => exact ⟨x, rfl, h⟩
  | ref a => rcases h with ⟨h1, -⟩ | ⟨h1, -⟩ <;> omega
  | long x => rcases h with h | ⟨h, -⟩ | ⟨h, -⟩ <;> omega
  | float x => rcases h with ⟨h, -⟩ | ⟨h, -⟩ <;> omega
  | double x => rcases h with h | ⟨h, -⟩ <;> omega
  | _ => exact h.elim
theorem b_v.ref {v : Value} (h : b_v N ν b v) (hk : b.1 = 2 ∨ b.1 = 3) : ∃ a, v = .ref a ∧ b_r N ν b a := by
  cases v with
  | ref a => exact ⟨a, rfl, h⟩
  | int x => rcases h with ⟨h1, -⟩ | ⟨h1, -⟩ <;> omega
  | long x => rcases h with h | ⟨h, -⟩ | ⟨h, -⟩ <;> omega
  | float x => rcases h with ⟨h, -⟩ | ⟨h, -⟩ <;> omega
  | double x => rcases h with h | ⟨h, -⟩ <;> omega
  | _ => exact h.elim
theorem b_v.long {v : Value} (h : b_v N ν b v) (hk : b.1 = 4 ∨ b.1 = 7 ∨ b.1 = 8) : ∃ x, v = .long x := by
  cases v with
  | long x => exact ⟨x, rfl⟩
  | int x => rcases h with ⟨h1, -⟩ | ⟨h1, -⟩ <;> omega
  | ref a => rcases h with ⟨h1, -⟩ | ⟨h1, -⟩ <;> omega
  | float x => rcases h with ⟨h, -⟩ | ⟨h, -⟩ <;> omega
  | double x => rcases h with h | ⟨h, -⟩ <;> omega
  | _ => exact h.elim
theorem b_v.dbl {v : Value} (h : b_v N ν b v) (hk : b.1 = 6 ∨ b.1 = 11) : ∃ x, v = .double x := by
  cases v with
  | double x => exact ⟨x, rfl⟩
  | int x => rcases h with ⟨h1, -⟩ | ⟨h1, -⟩ <;> omega
  | ref a => rcases h with ⟨h1, -⟩ | ⟨h1, -⟩ <;> omega
  | float x => rcases h with ⟨h, -⟩ | ⟨h, -⟩ <;> omega
  | long x => rcases h with h | ⟨h, -⟩ | ⟨h, -⟩ <;> omega
  | _ => exact h.elim
def b_two (b : BV) : Bool := b.1 == 4 || (b.1 == 6 || (b.1 == 7 || (b.1 == 8 || b.1 == 11)))
/-- how many words it takes -/
theorem b_v.cat {v : Value} (h : b_v N ν b v) : v.category = if b_two b = true then 2 else 1 := by
  unfold b_two
  cases v with
  | int x => rcases h with ⟨h1, -⟩ | ⟨h1, -⟩ <;> rw [h1] <;> rfl
  | ref a => rcases h with ⟨h1, -⟩ | ⟨h1, -⟩ <;> rw [h1] <;> rfl
  | long x => rcases h with h | ⟨h, -⟩ | ⟨h, -⟩ <;> rw [h] <;> rfl
  | float x => rcases h with ⟨h, -⟩ | ⟨h, -⟩ <;> rw [h] <;> rfl
  | double x => rcases h with h | ⟨h, -⟩ <;> rw [h] <;> rfl
  | _ => exact h.elim
def b_kd (b : BV) : Nat := if b.1 < 2 then 0 else if b.1 < 4 then 4 else if b.1 = 5 ∨ b.1 = 10 then 2 else if b.1 = 6 ∨ b.1 = 11 then 3 else 1
theorem b_v.kind {v : Value} (h : b_v N ν b v) : a_kind v = b_kd b := by
  unfold b_kd
  cases v with
  | int x => rcases h with ⟨h1, -⟩ | ⟨h1, -⟩ <;> rw [h1] <;> rfl
  | ref a => rcases h with ⟨h1, -⟩ | ⟨h1, -⟩ <;> rw [h1] <;> rfl
  | long x => rcases h with h | ⟨h, -⟩ | ⟨h, -⟩ <;> rw [h] <;> rfl
  | float x => rcases h with ⟨h, -⟩ | ⟨h, -⟩ <;> rw [h] <;> rfl
  | double x => rcases h with h | ⟨h, -⟩ <;> rw [h] <;> rfl
  | _ => exact h.elim
end BX
/-! The heap's types: cell by cell a group, group by group (tag, length, 0 an object / 1 an array / 2 an array of any length, the places' types: one for an array) -/
/-- a place's type: (0, lo, hi) an int; (1, a, _) the reference a; (2, g, _) a reference of group g; (3, _, _) a long; (4, _, _) a double -/
abbrev BT : Type := Nat × Int × Int
abbrev BR : Type := Nat × Nat × Nat × List BT
/-- the cells' groups, the groups; places that stay as they are, and what is known of them -/
abbrev BH : Type := (Nat → Option Nat) × (Nat → Option BR) × BW × (AH → Prop)
def b_ty (row : BR) (j : Nat) : Option BT := if row.2.2.1 = 0 then row.2.2.2[j]? else row.2.2.2[0]?
section BH
variable (K : BH)
def b_st (ty : BT) (v : Value) : Prop := match ty.1, v with
  | 0, .int x => ty.2.1 ≤ x.toInt ∧ x.toInt ≤ ty.2.2
  | 1, .ref a => (a : Int) = ty.2.1
  | 2, .ref a => ∃ g : Nat, (g : Int) = ty.2.1 ∧ K.1 a = some g
  | 3, .long _ => True
  | 4, .double _ => True
  | _, _ => False
def b_T (h : AH) : Prop := ∀ (a g : Nat) (row : BR), K.1 a = some g → K.2.1 g = some row → ∃ vs, h[a]? = some (row.1, vs) ∧ (row.2.2.1 ≠ 2 → vs.length = row.2.1) ∧ ∀ (j : Nat) (v : Value) (ty : BT), vs[j]? = some v → b_ty row j = some ty → b_st K ty v
def b_H (h : AH) : Prop := b_T K h ∧ K.2.2.2 h
def b_q (q : Nat × Int × Int) (z : Int) : Prop := if q.1 = 0 then q.2.1 ≤ z ∧ z ≤ q.2.2 else ∃ a : Nat, z = (a : Int) ∧ (q.2.1 = 0 → K.1 a = some (q.1 - 1))
def b_sat (E : BQ) (ν : BN) : Prop := ∀ (n : Nat) (q : Nat × Int × Int), E[n]? = some q → b_q K q (ν n)
def b_fa (N : Nat) (ν : BN) (h : AH) (f : BV × BV × BV) : Prop := ∃ (a t : Nat) (vs : List Value), b_r N ν f.1 a ∧ h[a]? = some (t, vs) ∧ if f.2.1.1 = 9 then b_i N ν f.2.2 vs.length else ∃ (j : Nat) (v : Value), b_i N ν f.2.1 j ∧ vs[j]? = some v ∧ b_v N ν f.2.2 v
def b_co (N : Nat) (ν : BN) (c : Nat × Nat × Int) : Prop := c.1 < N ∧ c.2.1 < N ∧ ν c.1 ≤ ν c.2.1 + c.2.2
def b_f2 (op : Nat) (x y : Int32) : Int32 := match op with
  | 0 => s_i2c x
  | 1 => x + y
  | 2 => x - y
  | 3 => x * y
  | 4 => x / y
  | 5 => x - x / y * y
  | 6 => x &&& y
  | 7 => x ||| y
  | 8 => if y < x then y else x
  | _ => if x < y then y else x
def b_op (N : Nat) (ν : BN) (o : Nat × BV × BV × BV) : Prop := ∃ x y : Int32, b_i N ν o.2.1 x.toInt ∧ b_i N ν o.2.2.1 y.toInt ∧ b_i N ν o.2.2.2 (b_f2 o.1 x y).toInt
/-- which (group, field) a place is -/
def b_key (a j : Nat) : Option (Nat × Nat) := match K.1 a with
  | some g => match K.2.1 g with
    | some row => some (g, if row.2.2.1 = 0 then j else 0)
    | none => none
  | none => none
def b_frm (W : BW) (h0 h : AH) : Prop := ∀ (a : Nat) (c : AC), h0[a]? = some c → ∃ vs, h[a]? = some (c.1, vs) ∧ vs.length = c.2.length ∧ ∀ j, (∀ w ∈ W, b_key K a j ≠ some w) → vs[j]? = c.2[j]?
/-- what is known of the places that stay holds as long as they stay -/
def b_JF : Prop := ∀ (W : BW) (h h' : AH), (∀ w, w ∈ W → w ∉ K.2.2.1) → b_frm K W h h' → K.2.2.2 h → K.2.2.2 h'
/-- what is known along a run that began with the heap h0 -/
def b_G (ν : BN) (h0 h : AH) (G : BG) : Prop := b_sat K G.1 ν ∧ (∀ f ∈ G.2.1, b_fa G.1.length ν h f) ∧ (∀ c ∈ G.2.2.1, b_co G.1.length ν c) ∧ (∀ o ∈ G.2.2.2.1, b_op G.1.length ν o) ∧ b_H K h ∧ b_frm K G.2.2.2.2 h0 h
def b_L (N : Nat) (ν : BN) (bl : BL) (al : AL) : Prop := bl.length = al.length ∧ ∀ (i : Nat) (b : BV), bl[i]? = some (some b) → ∃ v, a_get al i = some v ∧ b_v N ν b v
def b_S (N : Nat) (ν : BN) (bs : List BV) (st : List Value) : Prop := bs.length = st.length ∧ ∀ (i : Nat) (b : BV), bs[i]? = some b → ∃ v, st[i]? = some v ∧ b_v N ν b v
end BH
section BX2
variable {K : BH} {N N' : Nat} {ν ν' : BN}
theorem b_L.ext (x : b_ext N N' ν ν') {bl : BL} {al : AL} (h : b_L N ν bl al) : b_L N' ν' bl al := ⟨h.1, fun i b hb => by
  obtain ⟨v, h1, h2⟩ := h.2 i b hb
  exact ⟨v, h1, h2.ext x⟩⟩
theorem b_S.nil : b_S N ν [] [] := ⟨rfl, fun i b hb => by cases hb⟩
theorem b_S.cons {b : BV} {bs : List BV} {v : Value} {st : List Value} (h1 : b_v N ν b v) (h2 : b_S N ν bs st) : b_S N ν (b :: bs) (v :: st) := ⟨by rw [List.length_cons, List.length_cons, h2.1], fun i b' hb => by
  cases i with
  | zero => cases hb; exact ⟨v, rfl, h1⟩
  | succ i => exact h2.2 i b' hb⟩
theorem b_S.inv {b : BV} {bs : List BV} {st : List Value} (h : b_S N ν (b :: bs) st) : ∃ v st', st = v :: st' ∧ b_v N ν b v ∧ b_S N ν bs st' := by
  cases st with
  | nil => cases h.1
  | cons v st' =>
    obtain ⟨v', h1, h2⟩ := h.2 0 b rfl
    cases h1
    exact ⟨v, st', rfl, h2, Nat.succ.inj h.1, fun i b' hb => h.2 (i + 1) b' hb⟩
theorem b_S.inv0 {st : List Value} (h : b_S N ν [] st) : st = [] := List.eq_nil_of_length_eq_zero h.1.symm
theorem b_S.ext (x : b_ext N N' ν ν') {bs : List BV} {st : List Value} (h : b_S N ν bs st) : b_S N' ν' bs st := ⟨h.1, fun i b hb => by
  obtain ⟨v, h1, h2⟩ := h.2 i b hb
  exact ⟨v, h1, h2.ext x⟩⟩
theorem b_fa.ext (x : b_ext N N' ν ν') {h : AH} {f : BV × BV × BV} (g : b_fa N ν h f) : b_fa N' ν' h f := by
  obtain ⟨a, t, vs, h1, h2, h3⟩ := g
  refine ⟨a, t, vs, h1.ext x, h2, ?_⟩
  split at h3
  · rename_i e
    rw [if_pos e]
    exact h3.ext x
  · rename_i e
    rw [if_neg e]
    obtain ⟨j, v, g1, g2, g3⟩ := h3
    exact ⟨j, v, g1.ext x, g2, g3.ext x⟩
theorem b_co.ext (x : b_ext N N' ν ν') {c : Nat × Nat × Int} (g : b_co N ν c) : b_co N' ν' c := ⟨Nat.lt_of_lt_of_le g.1 x.1, Nat.lt_of_lt_of_le g.2.1 x.1, by rw [x.2 _ g.1, x.2 _ g.2.1]; exact g.2.2⟩
theorem b_op.ext (x : b_ext N N' ν ν') {o : Nat × BV × BV × BV} (g : b_op N ν o) : b_op N' ν' o := by
  obtain ⟨u, w, h1, h2, h3⟩ := g
  exact ⟨u, w, h1.ext x, h2.ext x, h3.ext x⟩
/-- one more symbol -/
def b_nu (ν : BN) (N : Nat) (z : Int) : BN := fun n => if n = N then z else ν n
theorem b_nu_ext {z : Int} : b_ext N (N + 1) ν (b_nu ν N z) := ⟨Nat.le_succ _, fun n hn => if_neg (Nat.ne_of_lt hn)⟩
theorem b_nu_n {z : Int} : b_nu ν N z N = z := if_pos rfl
def b_add (G : BG) (q : Nat × Int × Int) : BG := (G.1 ++ [q], G.2)
theorem b_G.add {h0 h : AH} {G : BG} {q : Nat × Int × Int} {z : Int} (g : b_G K ν h0 h G) (hq : b_q K q z) : b_G K (b_nu ν G.1.length z) h0 h (b_add G q) ∧ b_ext G.1.length (b_add G q).1.length ν (b_nu ν G.1.length z) := by
  have e : (b_add G q).1.length = G.1.length + 1 := by show (G.1 ++ [q]).length = _; rw [List.length_append]; rfl
  have x : b_ext G.1.length (b_add G q).1.length ν (b_nu ν G.1.length z) := by rw [e]; exact b_nu_ext
  obtain ⟨g1, g2, g3, g4, g5⟩ := g
  refine ⟨⟨fun n p hp => ?_, fun f hf => (g2 f hf).ext x, fun c hc => (g3 c hc).ext x, fun o ho => (g4 o ho).ext x, g5⟩, x⟩
  have hp : (G.1 ++ [q])[n]? = some p := hp
  rcases Nat.lt_or_ge n G.1.length with hn | hn
  · rw [List.getElem?_append_left hn] at hp
    rw [x.2 n hn]
    exact g1 n p hp
  · rw [List.getElem?_append_right hn] at hp
    have h1 := (List.getElem?_eq_some_iff.mp hp).1
    simp only [List.length_singleton] at h1
    have h2 : n = G.1.length := by omega
    subst h2
    rw [Nat.sub_self] at hp
    cases hp
    rw [b_nu_n]
    exact hq
/-- one more fact, constraint, operation -/
def b_addF (G : BG) (f : BV × BV × BV) : BG := (G.1, f :: G.2.1, G.2.2)
def b_addC (G : BG) (c : Nat × Nat × Int) : BG := (G.1, G.2.1, c :: G.2.2.1, G.2.2.2)
def b_addO (G : BG) (o : Nat × BV × BV × BV) : BG := (G.1, G.2.1, G.2.2.1, o :: G.2.2.2.1, G.2.2.2.2)
theorem b_G.addF {h0 h : AH} {G : BG} {f : BV × BV × BV} (g : b_G K ν h0 h G) (hf : b_fa G.1.length ν h f) : b_G K ν h0 h (b_addF G f) := ⟨g.1, fun f' hf' => (List.mem_cons.mp hf').elim (fun e => by rw [e]; exact hf) (g.2.1 f'), g.2.2⟩
theorem b_G.addC {h0 h : AH} {G : BG} {c : Nat × Nat × Int} (g : b_G K ν h0 h G) (hc : b_co G.1.length ν c) : b_G K ν h0 h (b_addC G c) := ⟨g.1, g.2.1, fun f' hf' => (List.mem_cons.mp hf').elim (fun e => by rw [e]; exact hc) (g.2.2.1 f'), g.2.2.2⟩
theorem b_G.addO {h0 h : AH} {G : BG} {o : Nat × BV × BV × BV} (g : b_G K ν h0 h G) (hc : b_op G.1.length ν o) : b_G K ν h0 h (b_addO G o) := ⟨g.1, g.2.1, g.2.2.1, fun f' hf' => (List.mem_cons.mp hf').elim (fun e => by rw [e]; exact hc) (g.2.2.2.1 f'), g.2.2.2.2⟩
/-- where an int lies -/
def b_iv (E : BQ) (b : BV) : Int × Int := if b.1 = 0 then (b.2.2, b.2.2) else match E[b.2.1]? with
  | some (0, lo, hi) => (lo + b.2.2, hi + b.2.2)
  | _ => (-2147483648, 2147483647)
def b_in32 (q : Int × Int) : Bool := decide (-2147483648 ≤ q.1) && decide (q.2 ≤ 2147483647)
theorem b_32 (x : Int32) : -2147483648 ≤ x.toInt ∧ x.toInt ≤ 2147483647 := by
  have h1 := Int32.le_toInt x
  have h2 := Int32.toInt_lt x
  omega
theorem b_iv_ok {E : BQ} {b : BV} {x : Int32} (hs : b_sat K E ν) (h : b_i E.length ν b x.toInt) : (b_iv E b).1 ≤ x.toInt ∧ x.toInt ≤ (b_iv E b).2 := by
  unfold b_iv
  rcases h with ⟨h1, h2⟩ | ⟨h1, h2, h3⟩
  · rw [if_pos h1]
    exact ⟨by rw [h2]; exact Int.le_refl _, by rw [h2]; exact Int.le_refl _⟩
  · rw [if_neg (by omega)]
    split
    · rename_i lo hi he
      have := hs _ _ he
      unfold b_q at this
      rw [if_pos rfl] at this
      dsimp only at this ⊢
      omega
    · exact b_32 x
end BX2
