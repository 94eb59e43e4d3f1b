/-! The symbolic machine: a symbol's values lie in a set of intervals; a branch on a symbol splits. Symbols below 8 are free; 8 + n is n as a char; 16 + n is n & 63. -/
abbrev SS : Type := List (Int × Int)
abbrev SE : Type := List SS
def s_in (S : SS) (x : Int) : Prop := ∃ q ∈ S, q.1 ≤ x ∧ x ≤ q.2
def s_sat (E : SE) (ρ : GV) : Prop := ∀ (k : Nat) (S : SS), E[k]? = some S → s_in S (ρ.1 k).toInt
def s_i2c (x : Int32) : Int32 := (x.toUInt32 % 65536).toInt32
def s_fix (ρ : GV) : Prop := ∀ n, n < 8 → ρ.1 (8 + n) = s_i2c (ρ.1 n) ∧ ρ.1 (16 + n) = ρ.1 n &&& 63
def s_get (E : SE) (k : Nat) : SS := (E[k]?).getD []
theorem s_sat.get {E : SE} {ρ : GV} (h : s_sat E ρ) {k : Nat} (hk : k < E.length) : s_in (s_get E k) (ρ.1 k).toInt := by
  unfold s_get
  rw [List.getElem?_eq_getElem hk]
  exact h k _ (List.getElem?_eq_getElem hk)
theorem s_sat.upd {E : SE} {ρ : GV} (h : s_sat E ρ) {k : Nat} {S : SS} (hS : s_in S (ρ.1 k).toInt) : s_sat (E.set k S) ρ := by
  intro j T hj
  rw [List.getElem?_set] at hj
  split at hj
  · rename_i e
    subst e
    split at hj
    · cases hj; exact hS
    · cases hj
  · exact h j T hj
def s_le (S : SS) (c : Int) : SS := S.filterMap (fun q => if q.1 ≤ c then some (q.1, if q.2 ≤ c then q.2 else c) else none)
def s_ge (S : SS) (c : Int) : SS := S.filterMap (fun q => if c ≤ q.2 then some (if c ≤ q.1 then q.1 else c, q.2) else none)
def s_eqs (S : SS) (c : Int) : SS := if (S.any fun q => decide (q.1 ≤ c) && decide (c ≤ q.2)) = true then [(c, c)] else []
def s_nes (S : SS) (c : Int) : SS := S.flatMap (fun q => if q.1 ≤ c ∧ c ≤ q.2 then (if q.1 < c then [(q.1, c - 1)] else []) ++ (if c < q.2 then [(c + 1, q.2)] else []) else [q])
theorem s_le_ok {S : SS} {c x : Int} (h : s_in S x) (hx : x ≤ c) : s_in (s_le S c) x := by
  obtain ⟨q, hq, h1, h2⟩ := h
  refine ⟨(q.1, if q.2 ≤ c then q.2 else c), List.mem_filterMap.mpr ⟨q, hq, if_pos (by omega)⟩, h1, ?_⟩
  dsimp only
  split <;> omega
theorem s_ge_ok {S : SS} {c x : Int} (h : s_in S x) (hx : c ≤ x) : s_in (s_ge S c) x := by
  obtain ⟨q, hq, h1, h2⟩ := h
  refine ⟨(if c ≤ q.1 then q.1 else c, q.2), List.mem_filterMap.mpr ⟨q, hq, if_pos (by omega)⟩, ?_, h2⟩
  dsimp only
  split <;> omega
theorem s_eqs_ok {S : SS} {c x : Int} (h : s_in S x) (hx : x = c) : s_in (s_eqs S c) x := by
  obtain ⟨q, hq, h1, h2⟩ := h
  unfold s_eqs
  rw [if_pos (List.any_eq_true.mpr ⟨q, hq, by rw [Bool.and_eq_true, decide_eq_true_eq, decide_eq_true_eq]; omega⟩)]
  exact ⟨(c, c), List.mem_cons_self, by dsimp only; omega, by dsimp only; omega⟩
theorem s_nes_ok {S : SS} {c x : Int} (h : s_in S x) (hx : ¬ x = c) : s_in (s_nes S c) x := by
  obtain ⟨q, hq, h1, h2⟩ := h
  unfold s_nes
  by_cases hc : q.1 ≤ c ∧ c ≤ q.2
  · rcases Int.lt_or_gt_of_ne hx with g | g
    · exact ⟨(q.1, c - 1), List.mem_flatMap.mpr ⟨q, hq, by rw [if_pos hc, if_pos (by omega)]; simp⟩, h1, by dsimp only; omega⟩
    · exact ⟨(c + 1, q.2), List.mem_flatMap.mpr ⟨q, hq, by rw [if_pos hc, if_pos (show c < q.2 by omega)]; simp⟩, by dsimp only; omega, h2⟩
  · exact ⟨q, List.mem_flatMap.mpr ⟨q, hq, by rw [if_neg hc]; simp⟩, h1, h2⟩
/-- where a symbol of S stands to c: the values for yes, for no -/
def s_cnd (k : Jvm.ClassFile.Cond) (S : SS) (c : Int) : SS × SS := match k with
  | .eq => (s_eqs S c, s_nes S c)
  | .ne => (s_nes S c, s_eqs S c)
  | .lt => (s_le S (c - 1), s_ge S c)
  | .ge => (s_ge S c, s_le S (c - 1))
  | .gt => (s_ge S (c + 1), s_le S c)
  | .le => (s_le S c, s_ge S (c + 1))
theorem s_cnd_ok {k : Jvm.ClassFile.Cond} {S : SS} {x c : Int32} (h : s_in S x.toInt) : (a_if2 k x c = true → s_in (s_cnd k S c.toInt).1 x.toInt) ∧ (a_if2 k x c = false → s_in (s_cnd k S c.toInt).2 x.toInt) := by
  have e1 : (x = c) ↔ x.toInt = c.toInt := Int32.toInt_inj.symm
  have e2 : (x < c) ↔ x.toInt < c.toInt := Int32.lt_iff_toInt_lt
  have e3 : (c ≤ x) ↔ c.toInt ≤ x.toInt := Int32.le_iff_toInt_le
  have e4 : (c < x) ↔ c.toInt < x.toInt := Int32.lt_iff_toInt_lt
  have e5 : (x ≤ c) ↔ x.toInt ≤ c.toInt := Int32.le_iff_toInt_le
  cases k <;> simp only [a_if2, s_cnd, decide_eq_true_eq, decide_eq_false_iff_not, Bool.not_eq_true', Bool.not_eq_false', e1, e2, e3, e4, e5]
  · exact ⟨s_eqs_ok h, s_nes_ok h⟩
  · exact ⟨s_nes_ok h, s_eqs_ok h⟩
  · exact ⟨fun g => s_le_ok h (by omega), fun g => s_ge_ok h (by omega)⟩
  · exact ⟨fun g => s_ge_ok h g, fun g => s_le_ok h (by omega)⟩
  · exact ⟨fun g => s_ge_ok h (by omega), fun g => s_le_ok h (by omega)⟩
  · exact ⟨fun g => s_le_ok h g, fun g => s_ge_ok h (by omega)⟩
def s_flip (k : Jvm.ClassFile.Cond) : Jvm.ClassFile.Cond := match k with
  | .eq => .eq
  | .ne => .ne
  | .lt => .gt
  | .ge => .le
  | .gt => .lt
  | .le => .ge
theorem s_flip_ok (k : Jvm.ClassFile.Cond) (x y : Int32) : a_if2 k x y = a_if2 (s_flip k) y x := by
  have e : decide (x = y) = decide (y = x) := by simp [eq_comm]
  cases k <;> simp only [a_if2, s_flip, e]
theorem s_if1 (k : Jvm.ClassFile.Cond) (x : Int32) : a_if1 k x = a_if2 k x 0 := by cases k <;> rfl
/-- the two ways of a branch, those that can be -/
def s_two (E : SE) (n : Nat) (q : SS × SS) (T F : AS) : List (SE × AS) := (if q.1.isEmpty = true then [] else [(E.set n q.1, T)]) ++ (if q.2.isEmpty = true then [] else [(E.set n q.2, F)])
theorem s_ne {S : SS} {x : Int} (h : s_in S x) : ¬ S.isEmpty = true := by
  obtain ⟨q, hq, -⟩ := h
  intro hn
  rw [List.isEmpty_iff.mp hn] at hq
  cases hq
theorem s_two_ok {E : SE} {ρ : GV} (hs : s_sat E ρ) {n : Nat} {q : SS × SS} {T F : AS} {b : Bool} (h1 : b = true → s_in q.1 (ρ.1 n).toInt) (h2 : b = false → s_in q.2 (ρ.1 n).toInt) : ∃ o ∈ s_two E n q T F, s_sat o.1 ρ ∧ o.2 = if b = true then T else F := by
  cases b with
  | true =>
    have h := h1 rfl
    exact ⟨(E.set n q.1, T), by unfold s_two; rw [if_neg (s_ne h)]; simp, hs.upd h, rfl⟩
  | false =>
    have h := h2 rfl
    exact ⟨(E.set n q.2, F), by unfold s_two; rw [if_neg (show ¬ q.2.isEmpty = true from s_ne h)]; simp, hs.upd h, rfl⟩
/-- all values of a set, if they are few -/
def s_vals (S : SS) : List Int := S.flatMap fun q => (List.range (q.2 - q.1 + 1).toNat).map fun (k : Nat) => q.1 + (k : Int)
theorem s_vals_ok {S : SS} {x : Int} (h : s_in S x) : x ∈ s_vals S := by
  obtain ⟨q, hq, h1, h2⟩ := h
  exact List.mem_flatMap.mpr ⟨q, hq, List.mem_map.mpr ⟨(x - q.1).toNat, List.mem_range.mpr (by omega), by omega⟩⟩
def s_few (S : SS) : Bool := decide ((S.map fun q => q.2 - q.1 + 1).sum ≤ 128)
/-- all values lie from a to b -/
def s_sub (S : SS) (a b : Int) : Bool := S.all fun q => decide (a ≤ q.1) && decide (q.2 ≤ b)
theorem s_sub_ok {S : SS} {a b x : Int} (h : s_in S x) (hs : s_sub S a b = true) : a ≤ x ∧ x ≤ b := by
  obtain ⟨q, hq, h1, h2⟩ := h
  have := List.all_eq_true.mp hs q hq
  rw [Bool.and_eq_true, decide_eq_true_eq, decide_eq_true_eq] at this
  omega
/-- a type takes all values of a set as they are -/
def s_fit (ty : FieldType) (S : SS) : Bool := match ty with
  | .int => true
  | .char => s_sub S 0 65535
  | .boolean => s_sub S 0 1
  | _ => false
theorem s_nat {x : Int32} {n : Nat} (h1 : 0 ≤ x.toInt) (h2 : x.toInt ≤ (n : Int)) (hn : n < 2 ^ 31) : ∃ j : Nat, j ≤ n ∧ x = nI j := by
  refine ⟨x.toInt.toNat, by omega, Int32.toInt_inj.mp ?_⟩
  rw [nI_toInt (by omega)]
  omega
theorem s_bv (y : Int32) : nI y.toBitVec.toNat = y := by
  apply Int32.toBitVec_inj.mp
  simp [nI]
theorem s_bvn {j : Nat} (h : j < 2 ^ 31) : (nI j).toBitVec.toNat = j := by
  simp [nI]
  omega
theorem s_i2c_in (x : Int32) : s_in [(0, 65535)] (s_i2c x).toInt := by
  have h : (s_i2c x).toInt = ((x.toBitVec.toNat % 65536 : Nat) : Int) := by
    unfold s_i2c
    rw [pk_char, nI_toInt (by omega)]
  exact ⟨(0, 65535), List.mem_cons_self, by rw [h]; omega, by rw [h]; dsimp only; omega⟩
theorem s_i2c_id {x : Int32} (h1 : 0 ≤ x.toInt) (h2 : x.toInt ≤ 65535) : s_i2c x = x := by
  obtain ⟨j, hj, rfl⟩ := s_nat (n := 65535) h1 h2 (by decide)
  unfold s_i2c
  rw [pk_char, s_bvn (by omega), Nat.mod_eq_of_lt (by omega)]
theorem s_and_in (x : Int32) : s_in [(0, 63)] (x &&& 63).toInt := by
  have h1 : (x &&& 63).toBitVec.toNat ≤ 63 := by
    have : (x &&& 63).toBitVec.toNat = x.toBitVec.toNat &&& 63 := by simp
    rw [this]
    exact Nat.and_le_right
  have h : (x &&& 63).toInt = (((x &&& 63).toBitVec.toNat : Nat) : Int) := by
    conv => lhs; rw [← s_bv (x &&& 63)]
    rw [nI_toInt (by omega)]
  exact ⟨(0, 63), List.mem_cons_self, by rw [h]; omega, by rw [h]; dsimp only; omega⟩
theorem s_fit_ok {ty : FieldType} {S : SS} {x : Int32} (h : s_in S x.toInt) (hf : s_fit ty S = true) : narrow ty (.int x) = .int x ∧ fits ty (.int x) = true := by
  cases ty <;> simp only [s_fit] at hf <;> first | (cases hf; done) | skip
  · obtain ⟨h1, h2⟩ := s_sub_ok h hf
    obtain ⟨j, hj, rfl⟩ := s_nat (n := 65535) h1 h2 (by decide)
    exact pk_charN (q := j) (by omega)
  · exact ⟨rfl, rfl⟩
  · obtain ⟨h1, h2⟩ := s_sub_ok h hf
    obtain ⟨j, hj, rfl⟩ := s_nat (n := 1) h1 h2 (by decide)
    have : j = 0 ∨ j = 1 := by omega
    rcases this with rfl | rfl <;> exact ⟨by decide, by decide⟩
/-- which symbol on the stack must be made a number: the top one (false), the second (true) -/
def s_con (i : Instr) (st : List Value) : Option (Nat × Bool) := match i, st with
  | .tableswitch .., .retAddr n :: _ => some (n, false)
  | .iadd, .retAddr n :: _ => some (n, false)
  | .isub, .retAddr n :: _ => some (n, false)
  | .imul, .retAddr n :: _ => some (n, false)
  | .i2l, .retAddr n :: _ => some (n, false)
  | .iaload, .retAddr n :: _ => some (n, false)
  | .baload, .retAddr n :: _ => some (n, false)
  | .caload, .retAddr n :: _ => some (n, false)
  | .aaload, .retAddr n :: _ => some (n, false)
  | .iadd, .int _ :: .retAddr n :: _ => some (n, true)
  | .isub, .int _ :: .retAddr n :: _ => some (n, true)
  | .imul, .int _ :: .retAddr n :: _ => some (n, true)
  | .idiv, .retAddr n :: _ => some (n, false)
  | .irem, .retAddr n :: _ => some (n, false)
  | .idiv, .int _ :: .retAddr n :: _ => some (n, true)
  | .irem, .int _ :: .retAddr n :: _ => some (n, true)
  | .iastore, _ :: .retAddr n :: _ => some (n, true)
  | .bastore, _ :: .retAddr n :: _ => some (n, true)
  | .castore, _ :: .retAddr n :: _ => some (n, true)
  | .aastore, _ :: .retAddr n :: _ => some (n, true)
  | _, _ => none
def s_put (b : Bool) (v : Value) (st : List Value) : List Value := match b, st with
  | false, _ :: st => v :: st
  | true, u :: _ :: st => u :: v :: st
  | _, st => st
def s_seq {α : Type} : List (Option α) → Option (List α)
  | [] => some []
  | none :: _ => none
  | some a :: l => (s_seq l).map (a :: ·)
theorem s_seq_in {α : Type} : ∀ {l : List (Option α)} {r : List α}, s_seq l = some r → ∀ {o : Option α}, o ∈ l → ∃ a ∈ r, o = some a
  | [], r, h, o, ho => absurd ho List.not_mem_nil
  | none :: l, r, h, o, ho => by cases h
  | some a :: l, r, h, o, ho => by
    rw [s_seq, Option.map_eq_some_iff] at h
    obtain ⟨r', h1, rfl⟩ := h
    rcases List.mem_cons.mp ho with rfl | ho
    · exact ⟨a, List.mem_cons_self, rfl⟩
    · obtain ⟨b, hb, e⟩ := s_seq_in h1 ho
      exact ⟨b, List.mem_cons_of_mem _ hb, e⟩
def s_gen (E : SE) (own : Nat) (ini : Bool) (i : Instr) (len pc : Nat) (al : AL) (st : List Value) (h : AH) : Option (List (SE × AS)) :=
  match a_load i with
  | some (k, kd) => (match a_get al k with
    | some (.retAddr n) => if kd = 0 then some [(E, (pc + len, al, .retAddr n :: st, h, 0, 0))] else none
    | _ => (a_stp own ini i len pc al st h).map fun r => [(E, r)])
  | none => match a_store i, st with
    | some (k, kd), .retAddr n :: st => if kd = 0 ∧ k < al.length then some [(E, (pc + len, a_set1 al k (.retAddr n), st, h, 0, 0))] else none
    | _, st => (a_stp own ini i len pc al st h).map fun r => [(E, r)]
def s_stp (E : SE) (own : Nat) (ini : Bool) (i : Instr) (len pc : Nat) (al : AL) (st : List Value) (h : AH) : Option (List (SE × AS)) :=
  match s_con i st with
  | some (n, b) => if n < E.length ∧ s_few (s_get E n) = true then s_seq ((s_vals (s_get E n)).map fun v => (a_stp own ini i len pc al (s_put b (.int (Int32.ofInt v)) st) h).map fun r => (E.set n [(v, v)], r)) else none
  | none => match i, st with
    | .ifCond c off, .retAddr n :: st => if n < E.length then (a_tgt pc off).map (fun t => s_two E n (s_cnd c (s_get E n) 0) (t, al, st, h, 0, 0) (pc + 3, al, st, h, 0, 0)) else none
    | .if_icmp c off, .int y :: .retAddr n :: st => if n < E.length then (a_tgt pc off).map (fun t => s_two E n (s_cnd c (s_get E n) y.toInt) (t, al, st, h, 0, 0) (pc + 3, al, st, h, 0, 0)) else none
    | .if_icmp c off, .retAddr n :: .int x :: st => if n < E.length then (a_tgt pc off).map (fun t => s_two E n (s_cnd (s_flip c) (s_get E n) x.toInt) (t, al, st, h, 0, 0) (pc + 3, al, st, h, 0, 0)) else none
    | .if_icmp _ off, .retAddr _ :: .retAddr _ :: st => (a_tgt pc off).map (fun t => [(E, (t, al, st, h, 0, 0)), (E, (pc + 3, al, st, h, 0, 0))])
    | .i2c, .retAddr n :: st => if n < 8 then some [(E, (pc + 1, al, .retAddr (8 + n) :: st, h, 0, 0))] else if n < E.length ∧ s_sub (s_get E n) 0 65535 = true then some [(E, (pc + 1, al, .retAddr n :: st, h, 0, 0))] else none
    | .iand, .int c :: .retAddr n :: st => if n < 8 ∧ c = 63 then some [(E, (pc + 1, al, .retAddr (16 + n) :: st, h, 0, 0))] else none
    | .putfield idx, .retAddr n :: .ref a :: st => match a_field own idx with
      | some (ci, k) => match h[a]? with
        | some (t, vs) => if t = ci ∧ k < vs.length ∧ n < E.length ∧ s_fit (a_fty ci k) (s_get E n) = true ∧ ((a_cT ci k).2.2.2 = false ∨ (ini = true ∧ own = ci)) then some [(E, (pc + 3, al, st, h.set a (t, vs.set k (.retAddr n)), 0, 0))] else none
        | none => none
      | none => none
    | .iastore, .retAddr n :: .int j :: .ref a :: st => match h[a]? with
      | some (t, vs) => if t ≠ 19 ∧ a_aty t = some .int then (a_ix j vs.length).map (fun k => [(E, (pc + 1, al, st, h.set a (t, vs.set k (.retAddr n)), 0, 0))]) else none
      | none => none
    | .castore, .retAddr n :: .int j :: .ref a :: st => match h[a]? with
      | some (t, vs) => if a_aty t = some .char ∧ n < E.length ∧ s_fit .char (s_get E n) = true then (a_ix j vs.length).map (fun k => [(E, (pc + 1, al, st, h.set a (t, vs.set k (.retAddr n)), 0, 0))]) else none
      | none => none
    | i, st => s_gen E own ini i len pc al st h
/-! its steps are the abstract machine's -/
section SY
variable {ρ : GV} {E : SE}
theorem s_put_g {i : Instr} {st : List Value} {n : Nat} {b : Bool} (hc : s_con i st = some (n, b)) : g_S ρ (s_put b (.int (ρ.1 n)) st) = g_S ρ st := by
  unfold s_con at hc
  split at hc <;> cases hc <;> rfl
theorem s_gen_ok (hs : s_sat E ρ) {own : Nat} {ini : Bool} {i : Instr} {len pc : Nat} {al : AL} {st : List Value} {h : AH} {outs : List (SE × AS)} (hlen : a_isSw i = false → len = a_len i) (hr : s_gen E own ini i len pc al st h = some outs) : ∃ o ∈ outs, s_sat o.1 ρ ∧ a_stp own ini i len pc (g_A ρ al) (g_S ρ st) (g_H ρ h) = some (g_R ρ o.2) := by
  have gen : ∀ {X : Option (List (SE × AS))}, X = ((a_stp own ini i len pc al st h).map fun r => [(E, r)]) → X = some outs → ∃ o ∈ outs, s_sat o.1 ρ ∧ a_stp own ini i len pc (g_A ρ al) (g_S ρ st) (g_H ρ h) = some (g_R ρ o.2) := by
    intro X e1 e2
    rw [e1, Option.map_eq_some_iff] at e2
    obtain ⟨r, h1, rfl⟩ := e2
    exact ⟨(E, r), List.mem_cons_self, hs, g_stp h1⟩
  unfold s_gen at hr
  split at hr
  · rename_i k kd hl
    split at hr
    · rename_i n hg
      split at hr
      · rename_i hk
        subst hk
        cases hr
        have hst : a_stage i = 1 := by
          cases i <;> first | rfl | (simp only [a_load] at hl; cases hl; done)
        have hsw : a_isSw i = false := by
          cases i <;> first | rfl | cases hst
        have hl2 := hlen hsw
        refine ⟨_, List.mem_cons_self, hs, a_by1 hl2 ?_⟩
        have hc0 : a_const i = none := by
          cases i <;> first | rfl | (simp only [a_load] at hl; cases hl; done)
        unfold a_st1
        rw [hc0]
        dsimp only
        rw [hl]
        dsimp only
        rw [g_get_some hg]
        show (if a_kind (Value.int (ρ.1 n)) = 0 then _ else _) = _
        rw [if_pos (show a_kind (Value.int (ρ.1 n)) = 0 from rfl), hl2]; rfl
      · cases hr
    · exact gen rfl hr
  · rename_i hl
    split at hr
    · rename_i k kd n st' hst0
      split at hr
      · rename_i hk
        obtain ⟨hk, hkl⟩ := hk
        subst hk
        cases hr
        have hst : a_stage i = 1 := by
          cases i <;> first | rfl | (simp only [a_store] at hst0; cases hst0; done)
        have hsw : a_isSw i = false := by
          cases i <;> first | rfl | cases hst
        have hl2 := hlen hsw
        refine ⟨_, List.mem_cons_self, hs, a_by1 hl2 ?_⟩
        have hc0 : a_const i = none := by
          cases i <;> first | rfl | (simp only [a_store] at hst0; cases hst0; done)
        unfold a_st1
        rw [hc0]
        dsimp only
        rw [hl]
        dsimp only
        rw [hst0]
        show (if a_kind (Value.int (ρ.1 n)) = 0 then (a_sto (g_A ρ al) k (.int (ρ.1 n))).map _ else _) = _
        have e : a_sto (g_A ρ al) k (.int (ρ.1 n)) = some (a_set1 (g_A ρ al) k (.int (ρ.1 n))) := by
          unfold a_sto
          rw [if_neg (show ¬ (Value.int (ρ.1 n)).category = 2 from (by decide : ¬ (1 : Nat) = 2)), if_pos (by rw [g_len]; exact hkl)]
        rw [if_pos (show a_kind (Value.int (ρ.1 n)) = 0 from rfl), e, hl2]
        show some (_, _, _, _, _, _) = some (_, g_A ρ (a_set1 al k (.retAddr n)), _, _, _, _)
        rw [g_set1]; rfl
      · cases hr
    · exact gen rfl hr
set_option maxHeartbeats 2000000 in
theorem s_stp_ok (hρ : s_fix ρ) (hs : s_sat E ρ) {own : Nat} {ini : Bool} {i : Instr} {len pc : Nat} {al : AL} {st : List Value} {h : AH} {outs : List (SE × AS)} (hlen : a_isSw i = false → len = a_len i) (hr : s_stp E own ini i len pc al st h = some outs) : ∃ o ∈ outs, s_sat o.1 ρ ∧ a_stp own ini i len pc (g_A ρ al) (g_S ρ st) (g_H ρ h) = some (g_R ρ o.2) := by
  unfold s_stp at hr
  split at hr
  · rename_i n b hc
    split at hr
    · rename_i hn
      have hin := hs.get hn.1
      obtain ⟨a, ha, e⟩ := s_seq_in hr (List.mem_map.mpr ⟨(ρ.1 n).toInt, s_vals_ok hin, rfl⟩)
      rw [Option.map_eq_some_iff] at e
      obtain ⟨r, h1, rfl⟩ := e
      have e2 : Int32.ofInt (ρ.1 n).toInt = ρ.1 n := Int32.ofInt_toInt _
      rw [e2] at h1
      have h2 := g_stp (ρ := ρ) h1
      rw [s_put_g hc] at h2
      exact ⟨_, ha, hs.upd ⟨((ρ.1 n).toInt, (ρ.1 n).toInt), List.mem_cons_self, Int.le_refl _, Int.le_refl _⟩, h2⟩
    · cases hr
  · split at hr
    · -- ifCond
      rename_i c off n st' _
      split at hr
      · rename_i hn
        rw [Option.map_eq_some_iff] at hr
        obtain ⟨t, h1, rfl⟩ := hr
        have hin := hs.get hn
        have hc := s_cnd_ok (k := c) (c := 0) hin
        obtain ⟨o, ho, h2, h3⟩ := s_two_ok (T := (t, al, st', h, 0, 0)) (F := (pc + 3, al, st', h, 0, 0)) hs hc.1 hc.2
        refine ⟨o, ho, h2, a_by1 (hlen rfl) ?_⟩
        show (a_br pc (a_if1 c (ρ.1 n)) off).map _ = _
        rw [s_if1]
        unfold a_br
        rw [h1, h3]
        cases a_if2 c (ρ.1 n) 0 <;> rfl
      · cases hr
    · -- if_icmp, the symbol first
      rename_i c off y n st' _
      split at hr
      · rename_i hn
        rw [Option.map_eq_some_iff] at hr
        obtain ⟨t, h1, rfl⟩ := hr
        have hin := hs.get hn
        have hc := s_cnd_ok (k := c) (c := y) hin
        obtain ⟨o, ho, h2, h3⟩ := s_two_ok (T := (t, al, st', h, 0, 0)) (F := (pc + 3, al, st', h, 0, 0)) hs hc.1 hc.2
        refine ⟨o, ho, h2, a_by1 (hlen rfl) ?_⟩
        show (a_br pc (a_if2 c (ρ.1 n) y) off).map _ = _
        unfold a_br
        rw [h1, h3]
        cases a_if2 c (ρ.1 n) y <;> rfl
      · cases hr
    · -- if_icmp, the symbol second
      rename_i c off n x st' _
      split at hr
      · rename_i hn
        rw [Option.map_eq_some_iff] at hr
        obtain ⟨t, h1, rfl⟩ := hr
        have hin := hs.get hn
        have hc := s_cnd_ok (k := s_flip c) (c := x) hin
        obtain ⟨o, ho, h2, h3⟩ := s_two_ok (T := (t, al, st', h, 0, 0)) (F := (pc + 3, al, st', h, 0, 0)) hs hc.1 hc.2
        refine ⟨o, ho, h2, a_by1 (hlen rfl) ?_⟩
        show (a_br pc (a_if2 c x (ρ.1 n)) off).map _ = _
        rw [s_flip_ok]
        unfold a_br
        rw [h1, h3]
        cases a_if2 (s_flip c) (ρ.1 n) x <;> rfl
      · cases hr
    · -- if_icmp, both
      rename_i c off m n st' _
      rw [Option.map_eq_some_iff] at hr
      obtain ⟨t, h1, rfl⟩ := hr
      have key : a_st1 (.if_icmp c off) pc (g_A ρ al) (.int (ρ.1 m) :: .int (ρ.1 n) :: g_S ρ st') (g_H ρ h) = some (g_R ρ (if a_if2 c (ρ.1 n) (ρ.1 m) = true then (t, al, st', h, 0, 0) else (pc + 3, al, st', h, 0, 0))) := by
        show (a_br pc (a_if2 c (ρ.1 n) (ρ.1 m)) off).map _ = _
        unfold a_br
        rw [h1]
        cases a_if2 c (ρ.1 n) (ρ.1 m) <;> rfl
      have key2 := a_by1 (own := own) (ini := ini) (hlen rfl) key
      cases hb : a_if2 c (ρ.1 n) (ρ.1 m) with
      | true => rw [hb] at key2; exact ⟨_, List.mem_cons_self, hs, key2⟩
      | false => rw [hb] at key2; exact ⟨_, List.mem_cons_of_mem _ List.mem_cons_self, hs, key2⟩
    · -- i2c
      rename_i n st' _
      split at hr
      · rename_i hn
        cases hr
        refine ⟨_, List.mem_cons_self, hs, a_by2 (hlen rfl) ?_⟩
        show some (_, _, Value.int (s_i2c (ρ.1 n)) :: _, _, _, _) = some (_, _, Value.int (ρ.1 (8 + n)) :: _, _, _, _)
        rw [(hρ n hn).1]
      · split at hr
        · rename_i hn
          cases hr
          refine ⟨_, List.mem_cons_self, hs, a_by2 (hlen rfl) ?_⟩
          obtain ⟨g1, g2⟩ := s_sub_ok (hs.get hn.1) hn.2
          show some (_, _, Value.int (s_i2c (ρ.1 n)) :: _, _, _, _) = some (_, _, Value.int (ρ.1 n) :: _, _, _, _)
          rw [s_i2c_id g1 g2]
        · cases hr
    · -- iand
      rename_i c n st' _
      split at hr
      · rename_i hn
        cases hr
        refine ⟨_, List.mem_cons_self, hs, a_by2 (hlen rfl) ?_⟩
        show some (_, _, Value.int (ρ.1 n &&& c) :: _, _, _, _) = some (_, _, Value.int (ρ.1 (16 + n)) :: _, _, _, _)
        rw [(hρ n hn.1).2, hn.2]
      · cases hr
    · -- putfield
      rename_i idx n a st' _
      split at hr
      · rename_i ci k hf
        split at hr
        · rename_i t vs ha
          split at hr
          · rename_i ht
            cases hr
            obtain ⟨f1, f2⟩ := s_fit_ok (hs.get ht.2.2.1) ht.2.2.2.1
            refine ⟨_, List.mem_cons_self, hs, a_by4 (hlen rfl) ?_⟩
            show (match a_field own idx with
              | some (ci, k) => match (g_H ρ h)[a]? with
                | some (t, vs) => if t = ci ∧ k < vs.length ∧ narrow (a_fty ci k) (Value.int (ρ.1 n)) = Value.int (ρ.1 n) ∧ fits (a_fty ci k) (Value.int (ρ.1 n)) = true ∧ ((a_cT ci k).2.2.2 = false ∨ (ini = true ∧ own = ci)) then some (pc + 3, g_A ρ al, g_S ρ st', (g_H ρ h).set a (t, vs.set k (Value.int (ρ.1 n))), 0, 0) else none
                | none => none
              | none => none) = _
            rw [hf]
            dsimp only
            rw [g_cel ha (by have := (a_field_in hf).2.2; have := ht.1; omega)]
            dsimp only
            rw [List.length_map, if_pos ⟨ht.1, ht.2.1, f1, f2, ht.2.2.2.2⟩]
            show _ = some (_, _, _, g_H ρ (h.set a (t, vs.set k (.retAddr n))), _, _)
            rw [g_setH _ _ _ _ _ _ (by have := (a_field_in hf).2.2; have := ht.1; omega)]; rfl
          · cases hr
        · cases hr
      · cases hr
    · -- iastore
      rename_i n j a st' _
      split at hr
      · rename_i t vs ha
        split at hr
        · rename_i ht
          rw [Option.map_eq_some_iff] at hr
          obtain ⟨k, h1, rfl⟩ := hr
          refine ⟨_, List.mem_cons_self, hs, a_by4 (hlen rfl) ?_⟩
          show (match (g_H ρ h)[a]? with
            | some (t, vs) => match (if t ≠ 19 ∧ a_aty t = some FieldType.int then some (Value.int (ρ.1 n)) else none) with
              | some v => (a_ix j vs.length).map (fun n => (pc + 1, g_A ρ al, g_S ρ st', (g_H ρ h).set a (t, vs.set n v), 0, 0))
              | none => none
            | none => none) = _
          rw [g_cel ha (g_ty99 ht.2)]
          dsimp only
          rw [if_pos ht]
          dsimp only
          rw [List.length_map, h1]
          show some (_, _, _, _, _, _) = some (_, _, _, g_H ρ (h.set a (t, vs.set k (.retAddr n))), _, _)
          rw [g_setH _ _ _ _ _ _ (g_ty99 ht.2)]; rfl
        · cases hr
      · cases hr
    · -- castore
      rename_i n j a st' _
      split at hr
      · rename_i t vs ha
        split at hr
        · rename_i ht
          rw [Option.map_eq_some_iff] at hr
          obtain ⟨k, h1, rfl⟩ := hr
          obtain ⟨f1, f2⟩ := s_fit_ok (hs.get ht.2.1) ht.2.2
          refine ⟨_, List.mem_cons_self, hs, a_by4 (hlen rfl) ?_⟩
          show (match (g_H ρ h)[a]? with
            | some (t, vs) => match (if a_aty t = some FieldType.char then some (narrow .char (.int (ρ.1 n))) else none) with
              | some v => (a_ix j vs.length).map (fun n => (pc + 1, g_A ρ al, g_S ρ st', (g_H ρ h).set a (t, vs.set n v), 0, 0))
              | none => none
            | none => none) = _
          rw [g_cel ha (g_ty99 ht.1), f1]
          dsimp only
          rw [if_pos ht.1]
          dsimp only
          rw [List.length_map, h1]
          show some (_, _, _, _, _, _) = some (_, _, _, g_H ρ (h.set a (t, vs.set k (.retAddr n))), _, _)
          rw [g_setH _ _ _ _ _ _ (g_ty99 ht.1)]; rfl
        · cases hr
      · cases hr
    · exact s_gen_ok hs hlen hr
end SY
