/-! The symbolic run with hints: the code goes by as a list, and a number beside each instruction says which kind of step to try first. The numbers prove nothing: a wrong one only costs. -/
abbrev CL : Type := List (Nat × Instr × Nat)
def t_kind (v : Value) : Nat := match v with
  | .retAddr _ => 0
  | v => a_kind v
def t_fast (mi own : Nat) (ini : Bool) (i : Instr) (len pc : Nat) (al : AL) (st : List Value) (h : AH) : Nat → Option AS
  | 0 => none
  | 1 => match a_load i with
    | some (n, kd) => (match a_get al n with
      | some v => bif Nat.beq (t_kind v) kd then some (pc + len, al, v :: st, h, 0, 0) else none
      | none => none)
    | none => none
  | 2 => match a_const i with
    | some v => some (pc + len, al, v :: st, h, 0, 0)
    | none => none
  | 3 => match a_store i, st with
    | some (n, kd), v :: st => bif Nat.beq (t_kind v) kd then (a_sto al n v).map (fun al' => (pc + len, al', st, h, 0, 0)) else none
    | _, _ => none
  | 4 => a_st1 i pc al st h
  | 5 => a_st4 own ini i pc al st h
  | 6 => a_st2 i pc al st h
  | 7 => a_st3 i pc al st h
  | 8 => match a_trw mi pc i st, a_call own i st h with
    | none, none => a_st5 own i pc al st h
    | _, _ => none
  | 9 => t_st6 own i pc al st h
  | _ => none
section TR
variable {ρ : GV}
theorem t_kind_g (v : Value) : a_kind (g_v ρ v) = t_kind v := by cases v <;> rfl
theorem t_side {mi own pc : Nat} {i : Instr} {st : List Value} {h : AH} (h0 : a_stage i ≠ 0) (h5 : a_stage i ≠ 5) : a_trw mi pc i st = none ∧ a_call own i st h = none :=
  ⟨a_opt (fun _ hk => h5 (a_trw_stage hk)), a_opt (fun _ hk => (a_call_stage hk).elim h0 h5)⟩
theorem t_beq {a b : Nat} (h : Nat.beq a b = true) : a = b := Nat.eq_of_beq_eq_true h
theorem t_bif {α : Type} {b : Bool} {x : Option α} {r : α} (h : (bif b then x else none) = some r) : b = true ∧ x = some r := by
  cases b with
  | true => exact ⟨rfl, h⟩
  | false => cases h
theorem t_fast_ok {mi own : Nat} {ini : Bool} {i : Instr} {len pc : Nat} {al : AL} {st : List Value} {h : AH} {r : AS} (hlen : a_isSw i = false → len = a_len i) : ∀ {k : Nat}, t_fast mi own ini i len pc al st h k = some r →
    a_stp own ini i len pc (g_A ρ al) (g_S ρ st) (g_H ρ h) = some (g_R ρ r) ∧ a_trw mi pc i (g_S ρ st) = none ∧ a_call own i (g_S ρ st) (g_H ρ h) = none := by
  intro k hr
  have hsw : ∀ {n : Nat}, a_stage i = n → n ≠ 7 → a_isSw i = false := by
    intro n h1 h2
    cases i <;> first | rfl | (subst h1; exact absurd rfl h2)
  unfold t_fast at hr
  split at hr
  · cases hr
  · -- load
    split at hr
    · rename_i n kd hl
      split at hr
      · rename_i v hg
        obtain ⟨hk, e⟩ := t_bif hr
        cases e
        have hs : a_stage i = 1 := by
          cases i <;> first | rfl | (simp only [a_load] at hl; cases hl; done)
        have hc0 : a_const i = none := by
          cases i <;> first | rfl | (simp only [a_load] at hl; cases hl; done)
        have hl2 := hlen (hsw hs (by decide))
        refine ⟨a_by1 hl2 ?_, t_side (by rw [hs]; decide) (by rw [hs]; decide)⟩
        unfold a_st1
        rw [hc0]
        dsimp only
        rw [hl]
        dsimp only
        rw [g_get_some hg]
        dsimp only
        rw [if_pos ((t_kind_g v).trans (t_beq hk)), hl2]; rfl
      · cases hr
    · cases hr
  · -- constant
    split at hr
    · rename_i v hv
      cases hr
      have hs : a_stage i = 1 := by
        cases i <;> first | rfl | (simp only [a_const] at hv; cases hv; done)
      have hl2 := hlen (hsw hs (by decide))
      refine ⟨a_by1 hl2 ?_, t_side (by rw [hs]; decide) (by rw [hs]; decide)⟩
      have h1 : a_st1 i pc al st h = some (pc + a_len i, al, v :: st, h, 0, 0) := by
        unfold a_st1
        rw [hv]
      rw [g_st1 h1, hl2]
    · cases hr
  · -- store
    split at hr
    · rename_i n kd v st' hl
      obtain ⟨hk, e⟩ := t_bif hr
      rw [Option.map_eq_some_iff] at e
      obtain ⟨al', e1, rfl⟩ := e
      have hs : a_stage i = 1 := by
        cases i <;> first | rfl | (simp only [a_store] at hl; cases hl; done)
      have hc0 : a_const i = none := by
        cases i <;> first | rfl | (simp only [a_store] at hl; cases hl; done)
      have hc1 : a_load i = none := by
        cases i <;> first | rfl | (simp only [a_store] at hl; cases hl; done)
      have hl2 := hlen (hsw hs (by decide))
      refine ⟨a_by1 hl2 ?_, t_side (by rw [hs]; decide) (by rw [hs]; decide)⟩
      unfold a_st1
      rw [hc0]
      dsimp only
      rw [hc1]
      dsimp only
      rw [hl]
      show (if a_kind (g_v ρ v) = kd then (a_sto (g_A ρ al) n (g_v ρ v)).map _ else _) = _
      rw [if_pos ((t_kind_g v).trans (t_beq hk)), g_sto e1, hl2]; rfl
    · cases hr
  · have hs := a_n1 hr
    exact ⟨a_by1 (hlen (hsw hs (by decide))) (g_st1 hr), t_side (by rw [hs]; decide) (by rw [hs]; decide)⟩
  · have hs := a_n4 hr
    exact ⟨a_by4 (hlen (hsw hs (by decide))) (g_st4 hr), t_side (by rw [hs]; decide) (by rw [hs]; decide)⟩
  · have hs := a_n2 hr
    exact ⟨a_by2 (hlen (hsw hs (by decide))) (g_st2 hr), t_side (by rw [hs]; decide) (by rw [hs]; decide)⟩
  · have hs := a_n3 hr
    exact ⟨a_by3 (hlen (hsw hs (by decide))) (g_st3 hr), t_side (by rw [hs]; decide) (by rw [hs]; decide)⟩
  · split at hr
    · rename_i e1 e2
      have hs := a_n5 hr
      exact ⟨a_by5 (hlen (hsw hs (by decide))) (g_st5 hr), by rw [g_trw]; exact e1, g_call_none e2 (by rw [hs]; decide)⟩
    · cases hr
  · have hr := t_st6_eq hr
    have hs := a_n6 hr
    exact ⟨a_by6 (hlen (hsw hs (by decide))) (g_st6 hr), t_side (by rw [hs]; decide) (by rw [hs]; decide)⟩
  · cases hr
end TR
