/-! sectionOf, giveUp -/
theorem zAr.out {c m : ZS} (h : zAr c m) {z : Int} : zAr (e_upd c r_out 0 0 0 z) m := zAr_rel.uc h (by decide)
theorem zAr.thr {c m : ZS} (h : zAr c m) {z : Int} : zAr c (e_upd m r_m_thrown 0 0 0 z) := zAr_rel.um h (by decide)
theorem q_writes0 {l f : Int} {m : ZS} (n0 : 0 ≤ m r_m_lineMany 0 0 0) (n1 : m r_m_lineMany 0 0 0 ≤ 400) : f_m_writes [l, f] m = ((0, []), (f_m_writes [l, f] m).2) := by
  rw [q_writes n0 n1]
theorem q_add0 {l f : Int} {c : ZS} : f_Archive_add [l, f] c = ((0, []), (f_Archive_add [l, f] c).2) := rfl
theorem q_writes_o {l f : Int} {m : ZS} (n0 : 0 ≤ m r_m_lineMany 0 0 0) (n1 : m r_m_lineMany 0 0 0 ≤ 400) {r : Nat} (hr : zArM.contains r = false) : (f_m_writes [l, f] m).2 r = m r := by
  funext i j k
  have h1 : (r == r_m_lineMany) = false := by
    cases e : r == r_m_lineMany with
    | false => rfl
    | true => rw [beq_iff_eq] at e; rw [e] at hr; exact absurd hr (by decide)
  have h2 : (r == r_m_letters) = false := by
    cases e : r == r_m_letters with
    | false => rfl
    | true => rw [beq_iff_eq] at e; rw [e] at hr; exact absurd hr (by decide)
  have h3 : (r == r_m_lineFilms) = false := by
    cases e : r == r_m_lineFilms with
    | false => rfl
    | true => rw [beq_iff_eq] at e; rw [e] at hr; exact absurd hr (by decide)
  rw [q_writes n0 n1]
  dsimp only
  split
  · rw [e_un h1, e_un h3, e_un h2, e_un h1, e_an h3, e_an h2]
  · rw [e_un h1, e_un h3, e_un h2]
theorem q_add_o {l f : Int} {c : ZS} {r : Nat} (hr : zArC.contains r = false) : (f_Archive_add [l, f] c).2 r = c r := by
  funext i j k
  have h1 : (r == r_Archive_lineCount) = false := by
    cases e : r == r_Archive_lineCount with
    | false => rfl
    | true => rw [beq_iff_eq] at e; rw [e] at hr; exact absurd hr (by decide)
  have h2 : (r == r_Archive_letters) = false := by
    cases e : r == r_Archive_letters with
    | false => rfl
    | true => rw [beq_iff_eq] at e; rw [e] at hr; exact absurd hr (by decide)
  have h3 : (r == r_Archive_filmOf) = false := by
    cases e : r == r_Archive_filmOf with
    | false => rfl
    | true => rw [beq_iff_eq] at e; rw [e] at hr; exact absurd hr (by decide)
  have h4 : (r == r_Archive_next) = false := by
    cases e : r == r_Archive_next with
    | false => rfl
    | true => rw [beq_iff_eq] at e; rw [e] at hr; exact absurd hr (by decide)
  show e_upd _ _ _ _ _ _ r i j k = _
  rw [e_un h1, e_un h4, e_un h3, e_un h2]
/-- an entry of the archive leaves every other relation as it is -/
theorem zRel.add {R : ZS → ZS → Prop} {KC KM : List Nat} (hr : zRel R KC KM) (hC : (KC.all fun r => !zArC.contains r) = true) (hM : (KM.all fun r => !zArM.contains r) = true) {l f : Int} {c m : ZS} (n0 : 0 ≤ m r_m_lineMany 0 0 0) (n1 : m r_m_lineMany 0 0 0 ≤ 400) (h : R c m) : R (f_Archive_add [l, f] c).2 (f_m_writes [l, f] m).2 := hr h (fun r hq => q_add_o (by have := List.all_eq_true.mp hC r hq; simpa using this)) (fun r hq => q_writes_o n0 n1 (by have := List.all_eq_true.mp hM r hq; simpa using this))
