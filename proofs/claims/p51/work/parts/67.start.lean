/-! The heap behind the constructors has its types -/
def c_stB (ty : BT) (v : Value) : Bool := match ty.1, v with
  | 0, .int x => decide (ty.2.1 ≤ x.toInt) && decide (x.toInt ≤ ty.2.2)
  | 1, .ref a => decide ((a : Int) = ty.2.1)
  | 2, .ref a => (match c_gt[a]? with
    | some g => decide ((g : Int) = ty.2.1)
    | none => false)
  | 3, .long _ => true
  | 4, .double _ => true
  | _, _ => false
theorem c_stB_ok {ty : BT} {v : Value} (h : c_stB ty v = true) : b_st c_K ty v := by
  unfold c_stB at h
  unfold b_st
  split at h
  · rename_i _ e
    rw [e]
    rw [Bool.and_eq_true, decide_eq_true_eq, decide_eq_true_eq] at h
    exact h
  · rename_i _ e
    rw [e]
    have h := of_decide_eq_true h
    exact h
  · rename_i _ e
    rw [e]
    split at h
    · rename_i g hg
      exact ⟨g, of_decide_eq_true h, hg⟩
    · cases h
  · rename_i _ e
    rw [e]
    trivial
  · rename_i _ e
    rw [e]
    trivial
  · cases h
def c_vsB (row : BR) : Nat → List Value → Bool
  | _, [] => true
  | j, v :: vs => (match b_ty row j with
    | some ty => c_stB ty v
    | none => true) && c_vsB row (j + 1) vs
theorem c_vsB_ok {row : BR} : ∀ {k : Nat} {vs : List Value}, c_vsB row k vs = true → ∀ (j : Nat) (v : Value) (ty : BT), vs[j]? = some v → b_ty row (k + j) = some ty → b_st c_K ty v
  | k, [], h, j, v, ty, hv, _ => by cases hv
  | k, w :: vs, h, j, v, ty, hv, ht => by
    rw [c_vsB, Bool.and_eq_true] at h
    cases j with
    | zero =>
      cases hv
      have ht : b_ty row k = some ty := ht
      rw [ht] at h
      exact c_stB_ok h.1
    | succ j => exact c_vsB_ok h.2 j v ty hv (by rw [show k + 1 + j = k + (j + 1) by omega]; exact ht)
def c_TB : List Nat → AH → Bool
  | [], _ => true
  | g :: gs, c :: h => (match c_gp[g]? with
    | some row => decide (c.1 = row.1) && (decide (row.2.2.1 = 2) || decide (c.2.length = row.2.1)) && c_vsB row 0 c.2
    | none => true) && c_TB gs h
  | _ :: _, [] => false
theorem c_TB_ok : ∀ {gs : List Nat} {h : AH}, c_TB gs h = true → ∀ (a g : Nat) (row : BR), gs[a]? = some g → c_gp[g]? = some row → ∃ vs, h[a]? = some (row.1, vs) ∧ (row.2.2.1 ≠ 2 → vs.length = row.2.1) ∧ ∀ (j : Nat) (v : Value) (ty : BT), vs[j]? = some v → b_ty row j = some ty → b_st c_K ty v
  | [], h, _, a, g, row, ha, _ => by cases ha
  | g0 :: gs, [], hb, _, _, _, _, _ => by cases hb
  | g0 :: gs, c :: h, hb, a, g, row, ha, hr => by
    rw [c_TB, Bool.and_eq_true] at hb
    cases a with
    | zero =>
      cases ha
      rw [hr] at hb
      have h1 := hb.1
      dsimp only at h1
      rw [Bool.and_eq_true, Bool.and_eq_true, decide_eq_true_eq, Bool.or_eq_true, decide_eq_true_eq, decide_eq_true_eq] at h1
      obtain ⟨⟨e1, e2⟩, e3⟩ := h1
      obtain ⟨t, vs⟩ := c
      have e1 : t = row.1 := e1
      subst e1
      exact ⟨vs, rfl, fun q => e2.resolve_left q, fun j v ty hv ht => c_vsB_ok e3 j v ty hv (by rw [Nat.zero_add]; exact ht)⟩
    | succ a => exact c_TB_ok hb.2 a g row ha hr
def c_h0 : AH := x_oX11
set_option maxRecDepth 100000 in
theorem c_h0B : c_TB c_gt.tail c_h0 = true := by decide +kernel
theorem c_gt0 : ∃ g, c_gt = g :: c_gt.tail ∧ c_gp[g]? = some (19, 0, 2, [(0, -2147483648, 2147483647)]) := ⟨_, rfl, rfl⟩
theorem c_T0 {vs : List Value} (h2 : ∀ v ∈ vs, ∃ x : Int32, v = .int x) : b_T c_K ((19, vs) :: c_h0) := by
  intro a g row hg hr
  obtain ⟨g0, e1, e2⟩ := c_gt0
  have hg : c_gt[a]? = some g := hg
  have hr : c_gp[g]? = some row := hr
  rw [e1] at hg
  cases a with
  | zero =>
    cases hg
    rw [e2] at hr
    cases hr
    refine ⟨vs, rfl, fun q => absurd rfl q, fun j v ty hv ht => ?_⟩
    cases ht
    obtain ⟨x, rfl⟩ := h2 v (List.mem_of_getElem? hv)
    exact b_32 x
  | succ a => exact c_TB_ok c_h0B a g row hg hr
theorem c_cons {x : AC} {l : AH} {n : Nat} : (x :: l)[n + 1]? = l[n]? := rfl
theorem c_H0 {vs : List Value} (h2 : ∀ v ∈ vs, ∃ x : Int32, v = .int x) : b_H c_K ((19, vs) :: c_h0) := ⟨c_T0 h2, trivial⟩
