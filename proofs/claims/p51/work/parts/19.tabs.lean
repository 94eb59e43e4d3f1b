/-! What the tables say of the methods, the calls, the throws: by evaluation -/
theorem a_chk_app (A B : List (ByteArray × List (Nat × Instr × Nat))) : a_chk (A ++ B) = (a_chk A && a_chk B) := List.all_append
theorem a_chk_prog : a_chk a_prog = true := by
  unfold a_prog
  simp only [a_chk_app, a_chk_prog_0, a_chk_prog_1, a_chk_prog_2, a_chk_prog_3, a_chk_prog_4, Bool.and_self]
theorem a_find_in {l : List (Nat × Instr × Nat)} {pc : Nat} {x : Instr × Nat} (h : (l.find? (fun e => Nat.beq e.1 pc)).map (fun e => e.2) = some x) : (pc, x) ∈ l := by
  rw [Option.map_eq_some_iff] at h
  obtain ⟨e, h1, h2⟩ := h
  have h3 : Nat.beq e.1 pc = true := List.find?_some (p := fun e : Nat × Instr × Nat => Nat.beq e.1 pc) h1
  have h3 : e.1 = pc := Nat.eq_of_beq_eq_true h3
  have h4 := List.mem_of_find?_eq_some h1
  obtain ⟨e1, e2⟩ := e
  simp only at h2 h3
  subst h2; subst h3
  exact h4
theorem a_lawC_in : ∀ c ∈ a_lawC, ∀ e ∈ c.2, e ∈ a_lawP := by
  have e : a_lawP = (a_lawC.map fun c => c.2).flatten := by
    simp only [a_lawC, a_lawP, List.map_cons, List.map_nil, List.flatten_cons, List.flatten_nil, List.append_nil]
  rw [e]
  exact fun c hc x hx => List.mem_flatten.mpr ⟨c.2, List.mem_map.mpr ⟨c, hc, rfl⟩, hx⟩
theorem a_ins_in {mi pc : Nat} {i : Instr} {len : Nat} (h : a_ins mi pc = some (i, len)) : (pc, i, len) ∈ a_codeL mi := by
  unfold a_ins at h
  unfold a_codeL
  by_cases hm : mi = 96
  · rw [if_pos hm]
    rw [hm] at h
    have h : a_insL pc = some (i, len) := h
    unfold a_insL at h
    split at h
    · rename_i c hc
      exact a_lawC_in c (List.mem_of_find?_eq_some hc) _ (a_find_in h)
    · cases h
  · rw [if_neg hm]
    have hb : Nat.beq mi 96 = false := by
      cases e : Nat.beq mi 96 with
      | false => rfl
      | true => exact absurd (Nat.eq_of_beq_eq_true e) hm
    rw [hb] at h
    exact a_find_in h
theorem a_code_in {mi : Nat} {e : Nat × Instr × Nat} (h : e ∈ a_codeL mi) : mi ≠ 96 → (a_codeB mi, a_codeL mi) ∈ a_prog := by
  intro hm
  unfold a_codeL at h
  rw [if_neg hm] at h
  unfold a_codeB a_codeL
  rw [if_neg hm, if_neg hm]
  exact a_prow_in h
theorem a_ins_ok {mi pc : Nat} {i : Instr} {len : Nat} (h : a_ins mi pc = some (i, len)) : decode (a_codeB mi) pc = .ok (i, len) := by
  have h1 := a_ins_in h
  have key : ∀ (b : ByteArray) (L : List (Nat × Instr × Nat)), a_chk [(b, L)] = true → (pc, i, len) ∈ L → decode b pc = .ok (i, len) := by
    intro b L hc hm
    simp only [a_chk, List.all_cons, List.all_nil, Bool.and_true] at hc
    have := List.all_eq_true.mp hc _ hm
    exact of_decide_eq_true this
  by_cases hm : mi = 96
  · subst hm
    have e1 : a_codeL 96 = a_lawP := if_pos rfl
    have e2 : a_codeB 96 = code := if_pos rfl
    rw [e1] at h1
    rw [e2]
    exact key _ _ a_chk_lawP h1
  · have h2 := a_code_in h1 hm
    refine key _ (a_codeL mi) ?_ h1
    have := List.all_eq_true.mp a_chk_prog _ h2
    simp only [a_chk, List.all_cons, List.all_nil, Bool.and_true]
    exact this
def a_isSw (i : Instr) : Bool := match i with
  | .tableswitch .. => true
  | _ => false
def a_lenB (L : List (Nat × Instr × Nat)) : Bool := L.all fun e => a_isSw e.2.1 || decide (e.2.2 = a_len e.2.1)
theorem a_len_law : a_lenB a_lawP = true := by decide +kernel
theorem a_len_prog : (a_prog.all fun m => a_lenB m.2) = true := by decide +kernel
theorem a_ins_len {mi pc : Nat} {i : Instr} {len : Nat} (h : a_ins mi pc = some (i, len)) (hs : a_isSw i = false) : len = a_len i := by
  have h1 := a_ins_in h
  have key : a_lenB (a_codeL mi) = true := by
    by_cases hm : mi = 96
    · subst hm
      have e1 : a_codeL 96 = a_lawP := if_pos rfl
      rw [e1]; exact a_len_law
    · exact List.all_eq_true.mp a_len_prog _ (a_code_in h1 hm)
  have := List.all_eq_true.mp key _ h1
  simp only [hs, Bool.false_or, decide_eq_true_eq] at this
  exact this
