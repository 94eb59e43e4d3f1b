/-! What the tables say of the methods, the calls, the throws: by evaluation -/
theorem a_chk_app (A B : List (ByteArray × List (Nat × Instr × Nat))) : a_chk (A ++ B) = (a_chk A && a_chk B) := List.all_append
theorem a_chk_prog : a_chk a_prog = true := by
  unfold a_prog
  simp only [a_chk_app, a_chk_prog_0, a_chk_prog_1, a_chk_prog_2, a_chk_prog_3, a_chk_prog_4, a_chk_prog_5, a_chk_prog_6, a_chk_prog_7, a_chk_prog_8, a_chk_prog_9, a_chk_prog_10, a_chk_prog_11, a_chk_prog_12, a_chk_prog_13, a_chk_prog_14, a_chk_prog_15, Bool.and_self]
theorem a_ins_in {mi pc : Nat} {i : Instr} {len : Nat} (h : a_ins mi pc = some (i, len)) : (pc, i, len) ∈ a_codeL mi := by
  unfold a_ins at h
  rw [Option.map_eq_some_iff] at h
  obtain ⟨e, h1, h2⟩ := h
  have h3 := List.find?_some h1
  simp only [beq_iff_eq] at h3
  have h4 := List.mem_of_find?_eq_some h1
  obtain ⟨e1, e2⟩ := e
  simp only at h2 h3
  subst h2; subst h3
  exact h4
theorem a_code_in {mi : Nat} {e : Nat × Instr × Nat} (h : e ∈ a_codeL mi) : mi ≠ 301 → (a_codeB mi, a_codeL mi) ∈ a_prog := by
  intro hm
  unfold a_codeL at h
  rw [if_neg hm] at h
  unfold a_codeB a_codeL
  rw [if_neg hm, if_neg hm]
  rw [List.getD_eq_getElem?_getD] at h ⊢
  cases hq : a_prog[mi]? with
  | none => rw [hq] at h; exact absurd h List.not_mem_nil
  | some x => exact List.mem_of_getElem? hq
theorem a_ins_ok {mi pc : Nat} {i : Instr} {len : Nat} (h : a_ins mi pc = some (i, len)) : decode (a_codeB mi) pc = .ok (i, len) := by
  have h1 := a_ins_in h
  have key : ∀ (b : ByteArray) (L : List (Nat × Instr × Nat)), a_chk [(b, L)] = true → (pc, i, len) ∈ L → decode b pc = .ok (i, len) := by
    intro b L hc hm
    simp only [a_chk, List.all_cons, List.all_nil, Bool.and_true] at hc
    have := List.all_eq_true.mp hc _ hm
    exact of_decide_eq_true this
  by_cases hm : mi = 301
  · subst hm
    have e1 : a_codeL 301 = a_lawP := if_pos rfl
    have e2 : a_codeB 301 = code := if_pos rfl
    rw [e1] at h1
    rw [e2]
    exact key _ _ a_chk_lawP h1
  · have h2 := a_code_in h1 hm
    refine key _ (a_codeL mi) ?_ h1
    have := List.all_eq_true.mp a_chk_prog _ h2
    simp only [a_chk, List.all_cons, List.all_nil, Bool.and_true]
    exact this
def a_isSw (i : Instr) : Bool := match i with
  | .tableswitch .. => true
  | _ => false
def a_lenB (L : List (Nat × Instr × Nat)) : Bool := L.all fun e => a_isSw e.2.1 || decide (e.2.2 = a_len e.2.1)
theorem a_len_law : a_lenB a_lawP = true := by decide +kernel
theorem a_len_prog : (a_prog.all fun m => a_lenB m.2) = true := by decide +kernel
theorem a_ins_len {mi pc : Nat} {i : Instr} {len : Nat} (h : a_ins mi pc = some (i, len)) (hs : a_isSw i = false) : len = a_len i := by
  have h1 := a_ins_in h
  have key : a_lenB (a_codeL mi) = true := by
    by_cases hm : mi = 301
    · subst hm
      have e1 : a_codeL 301 = a_lawP := if_pos rfl
      rw [e1]; exact a_len_law
    · exact List.all_eq_true.mp a_len_prog _ (a_code_in h1 hm)
  have := List.all_eq_true.mp key _ h1
  simp only [hs, Bool.false_or, decide_eq_true_eq] at this
  exact this
def a_hh (mi : Nat) : List (Nat × Nat × Nat × Nat) := (a_hnd mi).map (fun x => (x.1, x.2.1, x.2.2.1, x.2.2.2.1))
noncomputable def a_cw (mi : Nat) : Cond := if (a_hnd mi).isEmpty = true then .code (a_y mi) (a_codeB mi) (a_mxl mi) (a_rty mi) else .codeWith (a_y mi) (a_codeB mi) (a_mxl mi) (a_rty mi) (a_hh mi)
noncomputable def f_cwF (mi : Nat) : Option Cond := (a_chs (a_mrow mi).2.2.2.2.2.2.2.1)[(a_mrow mi).2.2.2.2.2.2.2.2]?
noncomputable def f_cwG (mi : Nat) : Option Cond := some (a_cw mi)
noncomputable def f_hF (mi : Nat) : List (Option Cond) := (a_hnd mi).map fun x => (a_chs x.2.2.2.2.2.1)[x.2.2.2.2.2.2]?
noncomputable def f_hG (mi : Nat) : List (Option Cond) := f_lst (fun x => some (Cond.classLink (a_cN (a_own mi)) x.2.2.2.1 (a_exN x.2.2.2.2.1))) (a_hnd mi)
noncomputable def f_mR (mi : Nat) : Bool := goodWord (a_cw mi) && (decide (a_mxl mi ≤ 41) && (decide (a_own mi < 14) && (a_hnd mi).all fun x => goodWord (.classLink (a_cN (a_own mi)) x.2.2.2.1 (a_exN x.2.2.2.2.1)) && (decide (x.2.2.2.1 ≠ 0) && decide (x.2.2.2.2.1 < 6))))
theorem f_plainC : ∀ c, c < 14 → plainName (a_cN c) = true ∧ (a_cN c ≠ "java/lang/invoke/MethodHandle" ∧ a_cN c ≠ "java/lang/invoke/VarHandle") := by decide +kernel
set_option maxRecDepth 100000 in
theorem f_cwE0 : (List.range' 0 16).map f_cwF = f_lst f_cwG (List.range' 0 16) := by eq_refl
set_option maxRecDepth 100000 in
theorem f_hE0 : (List.range' 0 16).map f_hF = f_lst f_hG (List.range' 0 16) := by eq_refl
theorem f_mR0 : ((List.range' 0 16).all f_mR) = true := by decide +kernel
set_option maxRecDepth 100000 in
theorem f_cwE16 : (List.range' 16 16).map f_cwF = f_lst f_cwG (List.range' 16 16) := by eq_refl
set_option maxRecDepth 100000 in
theorem f_hE16 : (List.range' 16 16).map f_hF = f_lst f_hG (List.range' 16 16) := by eq_refl
theorem f_mR16 : ((List.range' 16 16).all f_mR) = true := by decide +kernel
set_option maxRecDepth 100000 in
theorem f_cwE32 : (List.range' 32 16).map f_cwF = f_lst f_cwG (List.range' 32 16) := by eq_refl
set_option maxRecDepth 100000 in
theorem f_hE32 : (List.range' 32 16).map f_hF = f_lst f_hG (List.range' 32 16) := by eq_refl
theorem f_mR32 : ((List.range' 32 16).all f_mR) = true := by decide +kernel
set_option maxRecDepth 100000 in
theorem f_cwE48 : (List.range' 48 16).map f_cwF = f_lst f_cwG (List.range' 48 16) := by eq_refl
set_option maxRecDepth 100000 in
theorem f_hE48 : (List.range' 48 16).map f_hF = f_lst f_hG (List.range' 48 16) := by eq_refl
theorem f_mR48 : ((List.range' 48 16).all f_mR) = true := by decide +kernel
set_option maxRecDepth 100000 in
theorem f_cwE64 : (List.range' 64 16).map f_cwF = f_lst f_cwG (List.range' 64 16) := by eq_refl
set_option maxRecDepth 100000 in
theorem f_hE64 : (List.range' 64 16).map f_hF = f_lst f_hG (List.range' 64 16) := by eq_refl
theorem f_mR64 : ((List.range' 64 16).all f_mR) = true := by decide +kernel
set_option maxRecDepth 100000 in
theorem f_cwE80 : (List.range' 80 16).map f_cwF = f_lst f_cwG (List.range' 80 16) := by eq_refl
set_option maxRecDepth 100000 in
theorem f_hE80 : (List.range' 80 16).map f_hF = f_lst f_hG (List.range' 80 16) := by eq_refl
theorem f_mR80 : ((List.range' 80 16).all f_mR) = true := by decide +kernel
set_option maxRecDepth 100000 in
theorem f_cwE96 : (List.range' 96 16).map f_cwF = f_lst f_cwG (List.range' 96 16) := by eq_refl
set_option maxRecDepth 100000 in
theorem f_hE96 : (List.range' 96 16).map f_hF = f_lst f_hG (List.range' 96 16) := by eq_refl
theorem f_mR96 : ((List.range' 96 16).all f_mR) = true := by decide +kernel
set_option maxRecDepth 100000 in
theorem f_cwE112 : (List.range' 112 16).map f_cwF = f_lst f_cwG (List.range' 112 16) := by eq_refl
set_option maxRecDepth 100000 in
theorem f_hE112 : (List.range' 112 16).map f_hF = f_lst f_hG (List.range' 112 16) := by eq_refl
theorem f_mR112 : ((List.range' 112 16).all f_mR) = true := by decide +kernel
set_option maxRecDepth 100000 in
theorem f_cwE128 : (List.range' 128 16).map f_cwF = f_lst f_cwG (List.range' 128 16) := by eq_refl
set_option maxRecDepth 100000 in
theorem f_hE128 : (List.range' 128 16).map f_hF = f_lst f_hG (List.range' 128 16) := by eq_refl
theorem f_mR128 : ((List.range' 128 16).all f_mR) = true := by decide +kernel
set_option maxRecDepth 100000 in
theorem f_cwE144 : (List.range' 144 16).map f_cwF = f_lst f_cwG (List.range' 144 16) := by eq_refl
set_option maxRecDepth 100000 in
theorem f_hE144 : (List.range' 144 16).map f_hF = f_lst f_hG (List.range' 144 16) := by eq_refl
theorem f_mR144 : ((List.range' 144 16).all f_mR) = true := by decide +kernel
set_option maxRecDepth 100000 in
theorem f_cwE160 : (List.range' 160 16).map f_cwF = f_lst f_cwG (List.range' 160 16) := by eq_refl
set_option maxRecDepth 100000 in
theorem f_hE160 : (List.range' 160 16).map f_hF = f_lst f_hG (List.range' 160 16) := by eq_refl
theorem f_mR160 : ((List.range' 160 16).all f_mR) = true := by decide +kernel
set_option maxRecDepth 100000 in
theorem f_cwE176 : (List.range' 176 16).map f_cwF = f_lst f_cwG (List.range' 176 16) := by eq_refl
set_option maxRecDepth 100000 in
theorem f_hE176 : (List.range' 176 16).map f_hF = f_lst f_hG (List.range' 176 16) := by eq_refl
theorem f_mR176 : ((List.range' 176 16).all f_mR) = true := by decide +kernel
set_option maxRecDepth 100000 in
theorem f_cwE192 : (List.range' 192 16).map f_cwF = f_lst f_cwG (List.range' 192 16) := by eq_refl
set_option maxRecDepth 100000 in
theorem f_hE192 : (List.range' 192 16).map f_hF = f_lst f_hG (List.range' 192 16) := by eq_refl
theorem f_mR192 : ((List.range' 192 16).all f_mR) = true := by decide +kernel
set_option maxRecDepth 100000 in
theorem f_cwE208 : (List.range' 208 16).map f_cwF = f_lst f_cwG (List.range' 208 16) := by eq_refl
set_option maxRecDepth 100000 in
theorem f_hE208 : (List.range' 208 16).map f_hF = f_lst f_hG (List.range' 208 16) := by eq_refl
theorem f_mR208 : ((List.range' 208 16).all f_mR) = true := by decide +kernel
set_option maxRecDepth 100000 in
theorem f_cwE224 : (List.range' 224 16).map f_cwF = f_lst f_cwG (List.range' 224 16) := by eq_refl
set_option maxRecDepth 100000 in
theorem f_hE224 : (List.range' 224 16).map f_hF = f_lst f_hG (List.range' 224 16) := by eq_refl
theorem f_mR224 : ((List.range' 224 16).all f_mR) = true := by decide +kernel
set_option maxRecDepth 100000 in
theorem f_cwE240 : (List.range' 240 16).map f_cwF = f_lst f_cwG (List.range' 240 16) := by eq_refl
set_option maxRecDepth 100000 in
theorem f_hE240 : (List.range' 240 16).map f_hF = f_lst f_hG (List.range' 240 16) := by eq_refl
theorem f_mR240 : ((List.range' 240 16).all f_mR) = true := by decide +kernel
set_option maxRecDepth 100000 in
theorem f_cwE256 : (List.range' 256 16).map f_cwF = f_lst f_cwG (List.range' 256 16) := by eq_refl
set_option maxRecDepth 100000 in
theorem f_hE256 : (List.range' 256 16).map f_hF = f_lst f_hG (List.range' 256 16) := by eq_refl
theorem f_mR256 : ((List.range' 256 16).all f_mR) = true := by decide +kernel
set_option maxRecDepth 100000 in
theorem f_cwE272 : (List.range' 272 16).map f_cwF = f_lst f_cwG (List.range' 272 16) := by eq_refl
set_option maxRecDepth 100000 in
theorem f_hE272 : (List.range' 272 16).map f_hF = f_lst f_hG (List.range' 272 16) := by eq_refl
theorem f_mR272 : ((List.range' 272 16).all f_mR) = true := by decide +kernel
set_option maxRecDepth 100000 in
theorem f_cwE288 : (List.range' 288 13).map f_cwF = f_lst f_cwG (List.range' 288 13) := by eq_refl
set_option maxRecDepth 100000 in
theorem f_hE288 : (List.range' 288 13).map f_hF = f_lst f_hG (List.range' 288 13) := by eq_refl
theorem f_mR288 : ((List.range' 288 13).all f_mR) = true := by decide +kernel
theorem f_cwA {mi : Nat} (h : mi < 301) : f_cwF mi = f_cwG mi := by
  rcases Nat.lt_or_ge mi 16 with q | q
  · exact f_lst_at f_cwE0 (List.mem_range'_1.mpr ⟨by omega, by omega⟩)
  rcases Nat.lt_or_ge mi 32 with q | q
  · exact f_lst_at f_cwE16 (List.mem_range'_1.mpr ⟨by omega, by omega⟩)
  rcases Nat.lt_or_ge mi 48 with q | q
  · exact f_lst_at f_cwE32 (List.mem_range'_1.mpr ⟨by omega, by omega⟩)
  rcases Nat.lt_or_ge mi 64 with q | q
  · exact f_lst_at f_cwE48 (List.mem_range'_1.mpr ⟨by omega, by omega⟩)
  rcases Nat.lt_or_ge mi 80 with q | q
  · exact f_lst_at f_cwE64 (List.mem_range'_1.mpr ⟨by omega, by omega⟩)
  rcases Nat.lt_or_ge mi 96 with q | q
  · exact f_lst_at f_cwE80 (List.mem_range'_1.mpr ⟨by omega, by omega⟩)
  rcases Nat.lt_or_ge mi 112 with q | q
  · exact f_lst_at f_cwE96 (List.mem_range'_1.mpr ⟨by omega, by omega⟩)
  rcases Nat.lt_or_ge mi 128 with q | q
  · exact f_lst_at f_cwE112 (List.mem_range'_1.mpr ⟨by omega, by omega⟩)
  rcases Nat.lt_or_ge mi 144 with q | q
  · exact f_lst_at f_cwE128 (List.mem_range'_1.mpr ⟨by omega, by omega⟩)
  rcases Nat.lt_or_ge mi 160 with q | q
  · exact f_lst_at f_cwE144 (List.mem_range'_1.mpr ⟨by omega, by omega⟩)
  rcases Nat.lt_or_ge mi 176 with q | q
  · exact f_lst_at f_cwE160 (List.mem_range'_1.mpr ⟨by omega, by omega⟩)
  rcases Nat.lt_or_ge mi 192 with q | q
  · exact f_lst_at f_cwE176 (List.mem_range'_1.mpr ⟨by omega, by omega⟩)
  rcases Nat.lt_or_ge mi 208 with q | q
  · exact f_lst_at f_cwE192 (List.mem_range'_1.mpr ⟨by omega, by omega⟩)
  rcases Nat.lt_or_ge mi 224 with q | q
  · exact f_lst_at f_cwE208 (List.mem_range'_1.mpr ⟨by omega, by omega⟩)
  rcases Nat.lt_or_ge mi 240 with q | q
  · exact f_lst_at f_cwE224 (List.mem_range'_1.mpr ⟨by omega, by omega⟩)
  rcases Nat.lt_or_ge mi 256 with q | q
  · exact f_lst_at f_cwE240 (List.mem_range'_1.mpr ⟨by omega, by omega⟩)
  rcases Nat.lt_or_ge mi 272 with q | q
  · exact f_lst_at f_cwE256 (List.mem_range'_1.mpr ⟨by omega, by omega⟩)
  rcases Nat.lt_or_ge mi 288 with q | q
  · exact f_lst_at f_cwE272 (List.mem_range'_1.mpr ⟨by omega, by omega⟩)
  exact f_lst_at f_cwE288 (List.mem_range'_1.mpr ⟨by omega, by omega⟩)
theorem f_hA {mi : Nat} (h : mi < 301) : f_hF mi = f_hG mi := by
  rcases Nat.lt_or_ge mi 16 with q | q
  · exact f_lst_at f_hE0 (List.mem_range'_1.mpr ⟨by omega, by omega⟩)
  rcases Nat.lt_or_ge mi 32 with q | q
  · exact f_lst_at f_hE16 (List.mem_range'_1.mpr ⟨by omega, by omega⟩)
  rcases Nat.lt_or_ge mi 48 with q | q
  · exact f_lst_at f_hE32 (List.mem_range'_1.mpr ⟨by omega, by omega⟩)
  rcases Nat.lt_or_ge mi 64 with q | q
  · exact f_lst_at f_hE48 (List.mem_range'_1.mpr ⟨by omega, by omega⟩)
  rcases Nat.lt_or_ge mi 80 with q | q
  · exact f_lst_at f_hE64 (List.mem_range'_1.mpr ⟨by omega, by omega⟩)
  rcases Nat.lt_or_ge mi 96 with q | q
  · exact f_lst_at f_hE80 (List.mem_range'_1.mpr ⟨by omega, by omega⟩)
  rcases Nat.lt_or_ge mi 112 with q | q
  · exact f_lst_at f_hE96 (List.mem_range'_1.mpr ⟨by omega, by omega⟩)
  rcases Nat.lt_or_ge mi 128 with q | q
  · exact f_lst_at f_hE112 (List.mem_range'_1.mpr ⟨by omega, by omega⟩)
  rcases Nat.lt_or_ge mi 144 with q | q
  · exact f_lst_at f_hE128 (List.mem_range'_1.mpr ⟨by omega, by omega⟩)
  rcases Nat.lt_or_ge mi 160 with q | q
  · exact f_lst_at f_hE144 (List.mem_range'_1.mpr ⟨by omega, by omega⟩)
  rcases Nat.lt_or_ge mi 176 with q | q
  · exact f_lst_at f_hE160 (List.mem_range'_1.mpr ⟨by omega, by omega⟩)
  rcases Nat.lt_or_ge mi 192 with q | q
  · exact f_lst_at f_hE176 (List.mem_range'_1.mpr ⟨by omega, by omega⟩)
  rcases Nat.lt_or_ge mi 208 with q | q
  · exact f_lst_at f_hE192 (List.mem_range'_1.mpr ⟨by omega, by omega⟩)
  rcases Nat.lt_or_ge mi 224 with q | q
  · exact f_lst_at f_hE208 (List.mem_range'_1.mpr ⟨by omega, by omega⟩)
  rcases Nat.lt_or_ge mi 240 with q | q
  · exact f_lst_at f_hE224 (List.mem_range'_1.mpr ⟨by omega, by omega⟩)
  rcases Nat.lt_or_ge mi 256 with q | q
  · exact f_lst_at f_hE240 (List.mem_range'_1.mpr ⟨by omega, by omega⟩)
  rcases Nat.lt_or_ge mi 272 with q | q
  · exact f_lst_at f_hE256 (List.mem_range'_1.mpr ⟨by omega, by omega⟩)
  rcases Nat.lt_or_ge mi 288 with q | q
  · exact f_lst_at f_hE272 (List.mem_range'_1.mpr ⟨by omega, by omega⟩)
  exact f_lst_at f_hE288 (List.mem_range'_1.mpr ⟨by omega, by omega⟩)
theorem f_mA {mi : Nat} (h : mi < 301) : f_mR mi = true := by
  rcases Nat.lt_or_ge mi 16 with q | q
  · exact List.all_eq_true.mp f_mR0 mi (List.mem_range'_1.mpr ⟨by omega, by omega⟩)
  rcases Nat.lt_or_ge mi 32 with q | q
  · exact List.all_eq_true.mp f_mR16 mi (List.mem_range'_1.mpr ⟨by omega, by omega⟩)
  rcases Nat.lt_or_ge mi 48 with q | q
  · exact List.all_eq_true.mp f_mR32 mi (List.mem_range'_1.mpr ⟨by omega, by omega⟩)
  rcases Nat.lt_or_ge mi 64 with q | q
  · exact List.all_eq_true.mp f_mR48 mi (List.mem_range'_1.mpr ⟨by omega, by omega⟩)
  rcases Nat.lt_or_ge mi 80 with q | q
  · exact List.all_eq_true.mp f_mR64 mi (List.mem_range'_1.mpr ⟨by omega, by omega⟩)
  rcases Nat.lt_or_ge mi 96 with q | q
  · exact List.all_eq_true.mp f_mR80 mi (List.mem_range'_1.mpr ⟨by omega, by omega⟩)
  rcases Nat.lt_or_ge mi 112 with q | q
  · exact List.all_eq_true.mp f_mR96 mi (List.mem_range'_1.mpr ⟨by omega, by omega⟩)
  rcases Nat.lt_or_ge mi 128 with q | q
  · exact List.all_eq_true.mp f_mR112 mi (List.mem_range'_1.mpr ⟨by omega, by omega⟩)
  rcases Nat.lt_or_ge mi 144 with q | q
  · exact List.all_eq_true.mp f_mR128 mi (List.mem_range'_1.mpr ⟨by omega, by omega⟩)
  rcases Nat.lt_or_ge mi 160 with q | q
  · exact List.all_eq_true.mp f_mR144 mi (List.mem_range'_1.mpr ⟨by omega, by omega⟩)
  rcases Nat.lt_or_ge mi 176 with q | q
  · exact List.all_eq_true.mp f_mR160 mi (List.mem_range'_1.mpr ⟨by omega, by omega⟩)
  rcases Nat.lt_or_ge mi 192 with q | q
  · exact List.all_eq_true.mp f_mR176 mi (List.mem_range'_1.mpr ⟨by omega, by omega⟩)
  rcases Nat.lt_or_ge mi 208 with q | q
  · exact List.all_eq_true.mp f_mR192 mi (List.mem_range'_1.mpr ⟨by omega, by omega⟩)
  rcases Nat.lt_or_ge mi 224 with q | q
  · exact List.all_eq_true.mp f_mR208 mi (List.mem_range'_1.mpr ⟨by omega, by omega⟩)
  rcases Nat.lt_or_ge mi 240 with q | q
  · exact List.all_eq_true.mp f_mR224 mi (List.mem_range'_1.mpr ⟨by omega, by omega⟩)
  rcases Nat.lt_or_ge mi 256 with q | q
  · exact List.all_eq_true.mp f_mR240 mi (List.mem_range'_1.mpr ⟨by omega, by omega⟩)
  rcases Nat.lt_or_ge mi 272 with q | q
  · exact List.all_eq_true.mp f_mR256 mi (List.mem_range'_1.mpr ⟨by omega, by omega⟩)
  rcases Nat.lt_or_ge mi 288 with q | q
  · exact List.all_eq_true.mp f_mR272 mi (List.mem_range'_1.mpr ⟨by omega, by omega⟩)
  exact List.all_eq_true.mp f_mR288 mi (List.mem_range'_1.mpr ⟨by omega, by omega⟩)
theorem a_cw_in {mi : Nat} (h : mi < 301) : a_cw mi ∈ a_wG := by
  have k := f_mA h
  unfold f_mR at k
  rw [Bool.and_eq_true] at k
  exact a_wG_of (a_chs_in (List.mem_of_getElem? (f_cwA h))) k.1
theorem a_plain {mi : Nat} (h : mi < 301) : plainName (a_y mi).cls = true ∧ ((a_y mi).cls ≠ "java/lang/invoke/MethodHandle" ∧ (a_y mi).cls ≠ "java/lang/invoke/VarHandle") ∧ a_mxl mi ≤ 41 := by
  have k := f_mA h
  unfold f_mR at k
  simp only [Bool.and_eq_true, decide_eq_true_eq] at k
  have c := f_plainC (a_own mi) k.2.2.1
  exact ⟨c.1, c.2, k.2.1⟩
theorem a_hnd_in {mi : Nat} (h : mi < 301) {x : Nat × Nat × Nat × Nat × Nat × Nat × Nat} (hx : x ∈ a_hnd mi) : Cond.classLink (a_cN (a_own mi)) x.2.2.2.1 (a_exN x.2.2.2.2.1) ∈ a_wG ∧ x.2.2.2.1 ≠ 0 ∧ x.2.2.2.2.1 < 6 := by
  have k := f_mA h
  unfold f_mR at k
  rw [Bool.and_eq_true, Bool.and_eq_true, Bool.and_eq_true] at k
  have k2 := List.all_eq_true.mp k.2.2.2 x hx
  simp only [Bool.and_eq_true, decide_eq_true_eq] at k2
  have k3 := f_lst_at (f_hA h) hx
  exact ⟨a_wG_of (a_chs_in (List.mem_of_getElem? k3)) k2.1, k2.2.1, k2.2.2⟩
abbrev AI : Type := Nat × Nat × Nat × (Nat × Nat) × (Nat × Nat) × (Nat × Nat) × (Nat × Nat)
def a_np (mt : Nat) : Option Nat := (parseMethodDescriptor (a_dsc mt)).map (fun d => d.parameters.length)
def a_invB (own : Nat) (e : AI) : Bool := decide (e.2.2.1 < 301) && (a_at e.2.2.2.2.2.2 (.initialized (a_y e.2.2.1).cls) && (match e.2.1 with
  | 0 => a_at e.2.2.2.1 (.methodLink (a_cN own) e.1 (a_y e.2.2.1)) && (a_at e.2.2.2.2.1 (.instanceMethod (a_y e.2.2.1)) && (a_at e.2.2.2.2.2.1 (.selects (a_y e.2.2.1).cls (a_y e.2.2.1) (a_y e.2.2.1)) && (decide ((a_np e.2.2.1).map (· + 1) = some (a_nrg e.2.2.1)) && ((a_hnd e.2.2.1).isEmpty && decide (a_own e.2.2.1 < 13)))))
  | 1 => a_at e.2.2.2.1 (.methodLink (a_cN own) e.1 (a_y e.2.2.1)) && (a_at e.2.2.2.2.1 (.static (a_y e.2.2.1)) && decide (a_np e.2.2.1 = some (a_nrg e.2.2.1)))
  | 2 => a_at e.2.2.2.1 (.methodLink (a_cN own) e.1 (a_y e.2.2.1)) && (a_at e.2.2.2.2.1 (.instanceMethod (a_y e.2.2.1)) && (decide (a_nam e.2.2.1 = "<init>") && (decide (a_rty e.2.2.1 = none) && (decide ((a_np e.2.2.1).map (· + 1) = some (a_nrg e.2.2.1)) && (a_hnd e.2.2.1).isEmpty))))
  | 3 => decide ((a_chs e.2.2.2.1.1)[e.2.2.2.1.2]? = some (.methodLinkNest (a_cN own) e.1 (a_y e.2.2.1) "Juryreel")) && (a_at e.2.2.2.2.1 (.instanceMethod (a_y e.2.2.1)) && (decide (a_nam e.2.2.1 = "<init>") && (decide (a_rty e.2.2.1 = none) && (decide ((a_np e.2.2.1).map (· + 1) = some (a_nrg e.2.2.1)) && (a_hnd e.2.2.1).isEmpty))))
  | _ => false))
def f_npL : List Nat := [0, 2, 1, 0, 2, 1, 2, 1, 2, 2, 2, 2, 1, 2, 3, 1, 1, 2, 2, 2, 0, 0, 1, 0, 3, 1, 2, 0, 0, 0, 0, 1, 4, 4, 3, 3, 3, 1, 2, 1, 1, 1, 2, 1, 1, 1, 0, 2, 0, 2, 1, 0, 2, 3, 2, 0, 1, 3, 0, 1, 3, 2, 2, 1, 3, 1, 2, 1, 1, 0, 5, 5, 4, 3, 0, 0, 5, 1, 0, 0, 4, 2, 1, 1, 0, 0, 2, 4, 3, 0, 3, 1, 2, 2, 3, 2, 1, 1, 2, 5, 1, 1, 1, 1, 1, 2, 3, 4, 3, 3, 1, 2, 1, 2, 1, 0, 1, 2, 1, 1, 2, 1, 2, 2, 2, 3, 1, 0, 2, 1, 1, 5, 3, 2, 0, 0, 0, 0, 3, 1, 1, 1, 2, 1, 1, 1, 2, 1, 1, 1, 1, 3, 0, 1, 3, 1, 1, 2, 1, 2, 0, 0, 0, 2, 3, 1, 1, 2, 3, 1, 2, 2, 2, 2, 1, 3, 2, 2, 1, 1, 1, 1, 1, 1, 2, 5, 1, 1, 1, 2, 1, 1, 1, 1, 1, 2, 1, 1, 3, 4, 3, 3, 1, 1, 1, 2, 3, 3, 1, 3, 1, 1, 1, 2, 1, 2, 1, 0, 3, 3, 2, 1, 2, 1, 1, 2, 2, 2, 1, 2, 2, 2, 2, 3, 1, 0, 1, 2, 2, 2, 3, 2, 3, 2, 1, 1, 1, 1, 1, 5, 3, 2, 0, 0, 0, 0, 5, 3, 4, 4, 5, 4, 3, 3, 4, 7, 3, 3, 3, 3, 3, 4, 5, 6, 5, 5, 3, 4, 3, 4, 3, 3, 4, 3, 3, 4, 3, 4, 4, 4, 5, 3, 4, 3, 3, 7, 5, 4, 2, 2, 0]
def f_npG (mi : Nat) : Option Nat := some (f_npL.getD mi 0)
set_option maxRecDepth 100000 in
theorem f_npE0 : (List.range' 0 16).map a_np = f_lst f_npG (List.range' 0 16) := by eq_refl
set_option maxRecDepth 100000 in
theorem f_npE16 : (List.range' 16 16).map a_np = f_lst f_npG (List.range' 16 16) := by eq_refl
set_option maxRecDepth 100000 in
theorem f_npE32 : (List.range' 32 16).map a_np = f_lst f_npG (List.range' 32 16) := by eq_refl
set_option maxRecDepth 100000 in
theorem f_npE48 : (List.range' 48 16).map a_np = f_lst f_npG (List.range' 48 16) := by eq_refl
set_option maxRecDepth 100000 in
theorem f_npE64 : (List.range' 64 16).map a_np = f_lst f_npG (List.range' 64 16) := by eq_refl
set_option maxRecDepth 100000 in
theorem f_npE80 : (List.range' 80 16).map a_np = f_lst f_npG (List.range' 80 16) := by eq_refl
set_option maxRecDepth 100000 in
theorem f_npE96 : (List.range' 96 16).map a_np = f_lst f_npG (List.range' 96 16) := by eq_refl
set_option maxRecDepth 100000 in
theorem f_npE112 : (List.range' 112 16).map a_np = f_lst f_npG (List.range' 112 16) := by eq_refl
set_option maxRecDepth 100000 in
theorem f_npE128 : (List.range' 128 16).map a_np = f_lst f_npG (List.range' 128 16) := by eq_refl
set_option maxRecDepth 100000 in
theorem f_npE144 : (List.range' 144 16).map a_np = f_lst f_npG (List.range' 144 16) := by eq_refl
set_option maxRecDepth 100000 in
theorem f_npE160 : (List.range' 160 16).map a_np = f_lst f_npG (List.range' 160 16) := by eq_refl
set_option maxRecDepth 100000 in
theorem f_npE176 : (List.range' 176 16).map a_np = f_lst f_npG (List.range' 176 16) := by eq_refl
set_option maxRecDepth 100000 in
theorem f_npE192 : (List.range' 192 16).map a_np = f_lst f_npG (List.range' 192 16) := by eq_refl
set_option maxRecDepth 100000 in
theorem f_npE208 : (List.range' 208 16).map a_np = f_lst f_npG (List.range' 208 16) := by eq_refl
set_option maxRecDepth 100000 in
theorem f_npE224 : (List.range' 224 16).map a_np = f_lst f_npG (List.range' 224 16) := by eq_refl
set_option maxRecDepth 100000 in
theorem f_npE240 : (List.range' 240 16).map a_np = f_lst f_npG (List.range' 240 16) := by eq_refl
set_option maxRecDepth 100000 in
theorem f_npE256 : (List.range' 256 16).map a_np = f_lst f_npG (List.range' 256 16) := by eq_refl
set_option maxRecDepth 100000 in
theorem f_npE272 : (List.range' 272 16).map a_np = f_lst f_npG (List.range' 272 16) := by eq_refl
set_option maxRecDepth 100000 in
theorem f_npE288 : (List.range' 288 13).map a_np = f_lst f_npG (List.range' 288 13) := by eq_refl
theorem f_npA {mi : Nat} (h : mi < 301) : a_np mi = f_npG mi := by
  rcases Nat.lt_or_ge mi 16 with q | q
  · exact f_lst_at f_npE0 (List.mem_range'_1.mpr ⟨by omega, by omega⟩)
  rcases Nat.lt_or_ge mi 32 with q | q
  · exact f_lst_at f_npE16 (List.mem_range'_1.mpr ⟨by omega, by omega⟩)
  rcases Nat.lt_or_ge mi 48 with q | q
  · exact f_lst_at f_npE32 (List.mem_range'_1.mpr ⟨by omega, by omega⟩)
  rcases Nat.lt_or_ge mi 64 with q | q
  · exact f_lst_at f_npE48 (List.mem_range'_1.mpr ⟨by omega, by omega⟩)
  rcases Nat.lt_or_ge mi 80 with q | q
  · exact f_lst_at f_npE64 (List.mem_range'_1.mpr ⟨by omega, by omega⟩)
  rcases Nat.lt_or_ge mi 96 with q | q
  · exact f_lst_at f_npE80 (List.mem_range'_1.mpr ⟨by omega, by omega⟩)
  rcases Nat.lt_or_ge mi 112 with q | q
  · exact f_lst_at f_npE96 (List.mem_range'_1.mpr ⟨by omega, by omega⟩)
  rcases Nat.lt_or_ge mi 128 with q | q
  · exact f_lst_at f_npE112 (List.mem_range'_1.mpr ⟨by omega, by omega⟩)
  rcases Nat.lt_or_ge mi 144 with q | q
  · exact f_lst_at f_npE128 (List.mem_range'_1.mpr ⟨by omega, by omega⟩)
  rcases Nat.lt_or_ge mi 160 with q | q
  · exact f_lst_at f_npE144 (List.mem_range'_1.mpr ⟨by omega, by omega⟩)
  rcases Nat.lt_or_ge mi 176 with q | q
  · exact f_lst_at f_npE160 (List.mem_range'_1.mpr ⟨by omega, by omega⟩)
  rcases Nat.lt_or_ge mi 192 with q | q
  · exact f_lst_at f_npE176 (List.mem_range'_1.mpr ⟨by omega, by omega⟩)
  rcases Nat.lt_or_ge mi 208 with q | q
  · exact f_lst_at f_npE192 (List.mem_range'_1.mpr ⟨by omega, by omega⟩)
  rcases Nat.lt_or_ge mi 224 with q | q
  · exact f_lst_at f_npE208 (List.mem_range'_1.mpr ⟨by omega, by omega⟩)
  rcases Nat.lt_or_ge mi 240 with q | q
  · exact f_lst_at f_npE224 (List.mem_range'_1.mpr ⟨by omega, by omega⟩)
  rcases Nat.lt_or_ge mi 256 with q | q
  · exact f_lst_at f_npE240 (List.mem_range'_1.mpr ⟨by omega, by omega⟩)
  rcases Nat.lt_or_ge mi 272 with q | q
  · exact f_lst_at f_npE256 (List.mem_range'_1.mpr ⟨by omega, by omega⟩)
  rcases Nat.lt_or_ge mi 288 with q | q
  · exact f_lst_at f_npE272 (List.mem_range'_1.mpr ⟨by omega, by omega⟩)
  exact f_lst_at f_npE288 (List.mem_range'_1.mpr ⟨by omega, by omega⟩)
noncomputable def f_ivF (e : AI) : List (Option Cond) := match e.2.1 with
  | 0 => [(a_chs e.2.2.2.2.2.2.1)[e.2.2.2.2.2.2.2]?, (a_chs e.2.2.2.1.1)[e.2.2.2.1.2]?, (a_chs e.2.2.2.2.1.1)[e.2.2.2.2.1.2]?, (a_chs e.2.2.2.2.2.1.1)[e.2.2.2.2.2.1.2]?]
  | _ => [(a_chs e.2.2.2.2.2.2.1)[e.2.2.2.2.2.2.2]?, (a_chs e.2.2.2.1.1)[e.2.2.2.1.2]?, (a_chs e.2.2.2.2.1.1)[e.2.2.2.2.1.2]?]
noncomputable def f_ivG (own : Nat) (e : AI) : List (Option Cond) := match e.2.1 with
  | 0 => [some (.initialized (a_y e.2.2.1).cls), some (.methodLink (a_cN own) e.1 (a_y e.2.2.1)), some (.instanceMethod (a_y e.2.2.1)), some (.selects (a_y e.2.2.1).cls (a_y e.2.2.1) (a_y e.2.2.1))]
  | 1 => [some (.initialized (a_y e.2.2.1).cls), some (.methodLink (a_cN own) e.1 (a_y e.2.2.1)), some (.static (a_y e.2.2.1))]
  | 2 => [some (.initialized (a_y e.2.2.1).cls), some (.methodLink (a_cN own) e.1 (a_y e.2.2.1)), some (.instanceMethod (a_y e.2.2.1))]
  | 3 => [some (.initialized (a_y e.2.2.1).cls), some (.methodLinkNest (a_cN own) e.1 (a_y e.2.2.1) "Juryreel"), some (.instanceMethod (a_y e.2.2.1))]
  | _ => []
noncomputable def f_ivR (own : Nat) (e : AI) : Bool := decide (e.2.2.1 < 301) && (goodWord (.initialized (a_y e.2.2.1).cls) && (match e.2.1 with
  | 0 => (goodWord (.methodLink (a_cN own) e.1 (a_y e.2.2.1)) && (goodWord (.instanceMethod (a_y e.2.2.1)) && goodWord (.selects (a_y e.2.2.1).cls (a_y e.2.2.1) (a_y e.2.2.1)))) && (decide ((f_npG e.2.2.1).map (· + 1) = some (a_nrg e.2.2.1)) && ((a_hnd e.2.2.1).isEmpty && decide (a_own e.2.2.1 < 13)))
  | 1 => (goodWord (.methodLink (a_cN own) e.1 (a_y e.2.2.1)) && goodWord (.static (a_y e.2.2.1))) && decide (f_npG e.2.2.1 = some (a_nrg e.2.2.1))
  | 2 => (goodWord (.methodLink (a_cN own) e.1 (a_y e.2.2.1)) && goodWord (.instanceMethod (a_y e.2.2.1))) && (decide (a_nam e.2.2.1 = "<init>") && (decide (a_rty e.2.2.1 = none) && (decide ((f_npG e.2.2.1).map (· + 1) = some (a_nrg e.2.2.1)) && (a_hnd e.2.2.1).isEmpty)))
  | 3 => goodWord (.instanceMethod (a_y e.2.2.1)) && (decide (a_nam e.2.2.1 = "<init>") && (decide (a_rty e.2.2.1 = none) && (decide ((f_npG e.2.2.1).map (· + 1) = some (a_nrg e.2.2.1)) && (a_hnd e.2.2.1).isEmpty)))
  | _ => false))
theorem f_ivRok : a_all a_inv f_ivR = true := by decide +kernel
set_option maxRecDepth 100000 in
theorem f_ivE0 : (a_of a_inv 0).map f_ivF = f_lst (f_ivG 0) (a_of a_inv 0) := by eq_refl
set_option maxRecDepth 100000 in
theorem f_ivE1 : (a_of a_inv 1).map f_ivF = f_lst (f_ivG 1) (a_of a_inv 1) := by eq_refl
set_option maxRecDepth 100000 in
theorem f_ivE2 : (a_of a_inv 2).map f_ivF = f_lst (f_ivG 2) (a_of a_inv 2) := by eq_refl
set_option maxRecDepth 100000 in
theorem f_ivE3 : (a_of a_inv 3).map f_ivF = f_lst (f_ivG 3) (a_of a_inv 3) := by eq_refl
set_option maxRecDepth 100000 in
theorem f_ivE4 : (a_of a_inv 4).map f_ivF = f_lst (f_ivG 4) (a_of a_inv 4) := by eq_refl
set_option maxRecDepth 100000 in
theorem f_ivE5 : (a_of a_inv 5).map f_ivF = f_lst (f_ivG 5) (a_of a_inv 5) := by eq_refl
set_option maxRecDepth 100000 in
theorem f_ivE6 : (a_of a_inv 6).map f_ivF = f_lst (f_ivG 6) (a_of a_inv 6) := by eq_refl
set_option maxRecDepth 100000 in
theorem f_ivE7 : (a_of a_inv 7).map f_ivF = f_lst (f_ivG 7) (a_of a_inv 7) := by eq_refl
set_option maxRecDepth 100000 in
theorem f_ivE8 : (a_of a_inv 8).map f_ivF = f_lst (f_ivG 8) (a_of a_inv 8) := by eq_refl
set_option maxRecDepth 100000 in
theorem f_ivE9 : (a_of a_inv 9).map f_ivF = f_lst (f_ivG 9) (a_of a_inv 9) := by eq_refl
set_option maxRecDepth 100000 in
theorem f_ivE10 : (a_of a_inv 10).map f_ivF = f_lst (f_ivG 10) (a_of a_inv 10) := by eq_refl
set_option maxRecDepth 100000 in
theorem f_ivE11 : (a_of a_inv 11).map f_ivF = f_lst (f_ivG 11) (a_of a_inv 11) := by eq_refl
set_option maxRecDepth 100000 in
theorem f_ivE12 : (a_of a_inv 12).map f_ivF = f_lst (f_ivG 12) (a_of a_inv 12) := by eq_refl
set_option maxRecDepth 100000 in
theorem f_ivE13 : (a_of a_inv 13).map f_ivF = f_lst (f_ivG 13) (a_of a_inv 13) := by eq_refl
theorem a_inv_ok : a_all a_inv a_invB = true := f_all_in 14 (by decide) fun own ho e he => by
  have r := a_all_of f_ivRok he
  have k : f_ivF e = f_ivG own e := by
    match own, ho with
    | 0, _ => exact f_lst_at f_ivE0 he
    | 1, _ => exact f_lst_at f_ivE1 he
    | 2, _ => exact f_lst_at f_ivE2 he
    | 3, _ => exact f_lst_at f_ivE3 he
    | 4, _ => exact f_lst_at f_ivE4 he
    | 5, _ => exact f_lst_at f_ivE5 he
    | 6, _ => exact f_lst_at f_ivE6 he
    | 7, _ => exact f_lst_at f_ivE7 he
    | 8, _ => exact f_lst_at f_ivE8 he
    | 9, _ => exact f_lst_at f_ivE9 he
    | 10, _ => exact f_lst_at f_ivE10 he
    | 11, _ => exact f_lst_at f_ivE11 he
    | 12, _ => exact f_lst_at f_ivE12 he
    | 13, _ => exact f_lst_at f_ivE13 he
    | n + 14, ho => omega
  obtain ⟨idx, kd, mt, w1, w2, w3, w4⟩ := e
  unfold f_ivR at r
  unfold f_ivF f_ivG at k
  unfold a_invB
  dsimp only at r k ⊢
  rw [Bool.and_eq_true, Bool.and_eq_true, decide_eq_true_eq] at r
  obtain ⟨r1, r2, r3⟩ := r
  have np := f_npA r1
  rw [Bool.and_eq_true, Bool.and_eq_true, decide_eq_true_eq]
  match kd, k, r3 with
  | 0, k, r3 =>
    (try dsimp only at k r3 ⊢)
    injection k with k1 k
    injection k with k2 k
    injection k with k3 k
    injection k with k4 k
    simp only [Bool.and_eq_true, decide_eq_true_eq] at r3 ⊢
    rw [np]
    exact ⟨r1, a_at_of k1 r2, a_at_of k2 r3.1.1, a_at_of k3 r3.1.2.1, a_at_of k4 r3.1.2.2, r3.2.1, r3.2.2.1, r3.2.2.2⟩
  | 1, k, r3 =>
    (try dsimp only at k r3 ⊢)
    injection k with k1 k
    injection k with k2 k
    injection k with k3 k
    simp only [Bool.and_eq_true, decide_eq_true_eq] at r3 ⊢
    rw [np]
    exact ⟨r1, a_at_of k1 r2, a_at_of k2 r3.1.1, a_at_of k3 r3.1.2, r3.2⟩
  | 2, k, r3 =>
    (try dsimp only at k r3 ⊢)
    injection k with k1 k
    injection k with k2 k
    injection k with k3 k
    simp only [Bool.and_eq_true, decide_eq_true_eq] at r3 ⊢
    rw [np]
    exact ⟨r1, a_at_of k1 r2, a_at_of k2 r3.1.1, a_at_of k3 r3.1.2, r3.2.1, r3.2.2.1, r3.2.2.2.1, r3.2.2.2.2⟩
  | 3, k, r3 =>
    (try dsimp only at k r3 ⊢)
    injection k with k1 k
    injection k with k2 k
    injection k with k3 k
    simp only [Bool.and_eq_true, decide_eq_true_eq] at r3 ⊢
    rw [np]
    exact ⟨r1, a_at_of k1 r2, k2, a_at_of k3 r3.1, r3.2.1, r3.2.2.1, r3.2.2.2.1, r3.2.2.2.2⟩
  | n + 4, k, r3 => exact absurd r3 (by intro q; cases q)
/-- throws: class, pool numbers of class and constructor, exception, pool number of its superclass's constructor -/
def a_thx : List (Nat × Nat × Nat × Nat × Nat) := [(11, 101, 105, 2, 7), (11, 136, 140, 3, 7), (11, 166, 170, 4, 13), (11, 539, 543, 5, 7), (11, 561, 565, 0, 7), (11, 94, 98, 1, 7)]
def a_byt (ix : Nat) : ByteArray := if ix = 13 then ⟨#[0x2a, 0x2b, 0xb7, 0x00, 0x0d, 0xb1]⟩ else ⟨#[0x2a, 0x2b, 0xb7, 0x00, 0x07, 0xb1]⟩
def a_thxW (r : Nat × Nat × Nat × Nat × Nat) : List Cond := Cond.classLink (a_cN r.1) r.2.1 (a_exN r.2.2.2.1) :: Cond.initialized (a_exN r.2.2.2.1) :: a_at5 (a_cN r.1) r.2.2.1 (a_exN r.2.2.2.1) r.2.2.2.2 (a_byt r.2.2.2.2)
def a_thxB (r : Nat × Nat × Nat × Nat × Nat) : Bool := (a_thxW r).all fun w => vx_ot w && (goodWord w || a_ng w)
theorem a_thx_ok : a_thx.all a_thxB = true := by decide +kernel
theorem a_thx_in0 : ∀ w ∈ a_thxW (11, 101, 105, 2, 7), w ∈ lw_tbl := by decide +kernel
theorem a_thx_in1 : ∀ w ∈ a_thxW (11, 136, 140, 3, 7), w ∈ lw_tbl := by decide +kernel
theorem a_thx_in2 : ∀ w ∈ a_thxW (11, 166, 170, 4, 13), w ∈ lw_tbl := by decide +kernel
theorem a_thx_in3 : ∀ w ∈ a_thxW (11, 539, 543, 5, 7), w ∈ lw_tbl := by decide +kernel
theorem a_thx_in4 : ∀ w ∈ a_thxW (11, 561, 565, 0, 7), w ∈ lw_tbl := by decide +kernel
theorem a_thx_in5 : ∀ w ∈ a_thxW (11, 94, 98, 1, 7), w ∈ lw_tbl := by decide +kernel
theorem a_thx_in {r : Nat × Nat × Nat × Nat × Nat} (h : r ∈ a_thx) : ∀ w ∈ a_thxW r, w ∈ lw_tbl := by
  simp only [a_thx, List.mem_cons, List.not_mem_nil, or_false] at h
  rcases h with rfl | rfl | rfl | rfl | rfl | rfl
  · exact a_thx_in0
  · exact a_thx_in1
  · exact a_thx_in2
  · exact a_thx_in3
  · exact a_thx_in4
  · exact a_thx_in5
theorem a_byt_ok : ∀ r ∈ a_thx, decode (a_byt r.2.2.2.2) 0 = .ok (.aload_n 0, 1) ∧ decode (a_byt r.2.2.2.2) 1 = .ok (.aload_n 1, 1) ∧ decode (a_byt r.2.2.2.2) 2 = .ok (.invokespecial r.2.2.2.2, 3) ∧ decode (a_byt r.2.2.2.2) 5 = .ok (.return_, 1) ∧ r.2.2.2.1 < 6 := by decide +kernel
theorem a_fit : ∀ k, k < 6 → Bundle.fit (a_exN k) = true := by decide +kernel
/-- the row of a throw -/
def a_thk (r : AT) : Option (Nat × Nat × Nat × Nat × Nat) := a_thx.find? fun q => q.1 == r.2.2.1 && (q.2.1 == r.2.2.2.1 && (q.2.2.1 == r.2.2.2.2.2.2.1 && q.2.2.2.1 == r.2.2.2.2.2.2.2.1))
noncomputable def a_thrB (r : AT) : Bool := (a_thk r).isSome && (decide (a_own r.1 = r.2.2.1) && ((a_hnd r.1).isEmpty && (decide (a_ins r.1 r.2.1 = some (.new r.2.2.2.1, 3)) && (decide (a_ins r.1 (r.2.1 + 3) = some (.dup, 1)) &&
  (if r.2.2.2.2.2.1 = true then decide (a_ins r.1 (r.2.1 + 4) = some (.ldc_w r.2.2.2.2.1, 3)) && (decide (a_ins r.1 (r.2.1 + 7) = some (.invokespecial r.2.2.2.2.2.2.1, 3)) && decide (a_ins r.1 (r.2.1 + 10) = some (.athrow, 1)))
  else decide (a_ins r.1 (r.2.1 + 4) = some (.ldc r.2.2.2.2.1, 2)) && (decide (a_ins r.1 (r.2.1 + 6) = some (.invokespecial r.2.2.2.2.2.2.1, 3)) && decide (a_ins r.1 (r.2.1 + 9) = some (.athrow, 1))))))))
theorem a_thr_ok : a_thr.all a_thrB = true := by decide +kernel
