/-! What the tables say of the methods, the calls, the throws: by evaluation -/
theorem a_chk_app (A B : List (ByteArray × List (Nat × Instr × Nat))) : a_chk (A ++ B) = (a_chk A && a_chk B) := List.all_append
theorem a_chk_prog : a_chk a_prog = true := by
  unfold a_prog
  simp only [a_chk_app, a_chk_prog_0, a_chk_prog_1, a_chk_prog_2, a_chk_prog_3, a_chk_prog_4, a_chk_prog_5, a_chk_prog_6, a_chk_prog_7, a_chk_prog_8, a_chk_prog_9, a_chk_prog_10, a_chk_prog_11, a_chk_prog_12, a_chk_prog_13, a_chk_prog_14, a_chk_prog_15, Bool.and_self]
theorem a_ins_in {mi pc : Nat} {i : Instr} {len : Nat} (h : a_ins mi pc = some (i, len)) : (pc, i, len) ∈ a_codeL mi := by
  unfold a_ins at h
  rw [Option.map_eq_some_iff] at h
  obtain ⟨e, h1, h2⟩ := h
  have h3 := List.find?_some h1
  simp only [beq_iff_eq] at h3
  have h4 := List.mem_of_find?_eq_some h1
  obtain ⟨e1, e2⟩ := e
  simp only at h2 h3
  subst h2; subst h3
  exact h4
theorem a_code_in {mi : Nat} {e : Nat × Instr × Nat} (h : e ∈ a_codeL mi) : mi ≠ 301 → (a_codeB mi, a_codeL mi) ∈ a_prog := by
  intro hm
  unfold a_codeL at h
  rw [if_neg hm] at h
  unfold a_codeB a_codeL
  rw [if_neg hm, if_neg hm]
  rw [List.getD_eq_getElem?_getD] at h ⊢
  cases hq : a_prog[mi]? with
  | none => rw [hq] at h; exact absurd h List.not_mem_nil
  | some x => exact List.mem_of_getElem? hq
theorem a_ins_ok {mi pc : Nat} {i : Instr} {len : Nat} (h : a_ins mi pc = some (i, len)) : decode (a_codeB mi) pc = .ok (i, len) := by
  have h1 := a_ins_in h
  have key : ∀ (b : ByteArray) (L : List (Nat × Instr × Nat)), a_chk [(b, L)] = true → (pc, i, len) ∈ L → decode b pc = .ok (i, len) := by
    intro b L hc hm
    simp only [a_chk, List.all_cons, List.all_nil, Bool.and_true] at hc
    have := List.all_eq_true.mp hc _ hm
    exact of_decide_eq_true this
  by_cases hm : mi = 301
  · subst hm
    have e1 : a_codeL 301 = a_lawP := if_pos rfl
    have e2 : a_codeB 301 = code := if_pos rfl
    rw [e1] at h1
    rw [e2]
    exact key _ _ a_chk_lawP h1
  · have h2 := a_code_in h1 hm
    refine key _ (a_codeL mi) ?_ h1
    have := List.all_eq_true.mp a_chk_prog _ h2
    simp only [a_chk, List.all_cons, List.all_nil, Bool.and_true]
    exact this
def a_isSw (i : Instr) : Bool := match i with
  | .tableswitch .. => true
  | _ => false
def a_lenB (L : List (Nat × Instr × Nat)) : Bool := L.all fun e => a_isSw e.2.1 || decide (e.2.2 = a_len e.2.1)
theorem a_len_law : a_lenB a_lawP = true := by decide +kernel
theorem a_len_prog : (a_prog.all fun m => a_lenB m.2) = true := by decide +kernel
theorem a_ins_len {mi pc : Nat} {i : Instr} {len : Nat} (h : a_ins mi pc = some (i, len)) (hs : a_isSw i = false) : len = a_len i := by
  have h1 := a_ins_in h
  have key : a_lenB (a_codeL mi) = true := by
    by_cases hm : mi = 301
    · subst hm
      have e1 : a_codeL 301 = a_lawP := if_pos rfl
      rw [e1]; exact a_len_law
    · exact List.all_eq_true.mp a_len_prog _ (a_code_in h1 hm)
  have := List.all_eq_true.mp key _ h1
  simp only [hs, Bool.false_or, decide_eq_true_eq] at this
  exact this
def a_hh (mi : Nat) : List (Nat × Nat × Nat × Nat) := (a_hnd mi).map (fun x => (x.1, x.2.1, x.2.2.1, x.2.2.2.1))
noncomputable def a_cw (mi : Nat) : Cond := if (a_hnd mi).isEmpty = true then .code (a_y mi) (a_codeB mi) (a_mxl mi) (a_rty mi) else .codeWith (a_y mi) (a_codeB mi) (a_mxl mi) (a_rty mi) (a_hh mi)
noncomputable def a_mthB (mi : Nat) : Bool := a_at (a_mrow mi).2.2.2.2.2.2.2 (a_cw mi) && (plainName (a_y mi).cls && (decide ((a_y mi).cls ≠ "java/lang/invoke/MethodHandle") && (decide ((a_y mi).cls ≠ "java/lang/invoke/VarHandle") && (decide (a_mxl mi ≤ 41) &&
  (a_hnd mi).all fun x => a_at (x.2.2.2.2.2.1, x.2.2.2.2.2.2) (.classLink (a_cN (a_own mi)) x.2.2.2.1 (a_exN x.2.2.2.2.1)) && (decide (x.2.2.2.1 ≠ 0) && decide (x.2.2.2.2.1 < 6))))))
theorem a_mth_0 : ((List.range' 0 16).all a_mthB) = true := by decide +kernel
theorem a_mth_16 : ((List.range' 16 16).all a_mthB) = true := by decide +kernel
theorem a_mth_32 : ((List.range' 32 16).all a_mthB) = true := by decide +kernel
theorem a_mth_48 : ((List.range' 48 16).all a_mthB) = true := by decide +kernel
theorem a_mth_64 : ((List.range' 64 16).all a_mthB) = true := by decide +kernel
theorem a_mth_80 : ((List.range' 80 16).all a_mthB) = true := by decide +kernel
theorem a_mth_96 : ((List.range' 96 16).all a_mthB) = true := by decide +kernel
theorem a_mth_112 : ((List.range' 112 16).all a_mthB) = true := by decide +kernel
theorem a_mth_128 : ((List.range' 128 16).all a_mthB) = true := by decide +kernel
theorem a_mth_144 : ((List.range' 144 16).all a_mthB) = true := by decide +kernel
theorem a_mth_160 : ((List.range' 160 16).all a_mthB) = true := by decide +kernel
theorem a_mth_176 : ((List.range' 176 16).all a_mthB) = true := by decide +kernel
theorem a_mth_192 : ((List.range' 192 16).all a_mthB) = true := by decide +kernel
theorem a_mth_208 : ((List.range' 208 16).all a_mthB) = true := by decide +kernel
theorem a_mth_224 : ((List.range' 224 16).all a_mthB) = true := by decide +kernel
theorem a_mth_240 : ((List.range' 240 16).all a_mthB) = true := by decide +kernel
theorem a_mth_256 : ((List.range' 256 16).all a_mthB) = true := by decide +kernel
theorem a_mth_272 : ((List.range' 272 16).all a_mthB) = true := by decide +kernel
theorem a_mth_288 : ((List.range' 288 13).all a_mthB) = true := by decide +kernel
theorem a_mth_at {mi : Nat} (h : mi < 301) : a_mthB mi = true := by
  have key : ∀ (k n : Nat), ((List.range' k n).all a_mthB) = true → k ≤ mi → mi < k + n → a_mthB mi = true := fun k n hk h1 h2 => List.all_eq_true.mp hk mi (List.mem_range'_1.mpr ⟨h1, h2⟩)
  rcases Nat.lt_or_ge mi 16 with q | q
  · exact key 0 16 a_mth_0 (by omega) (by omega)
  rcases Nat.lt_or_ge mi 32 with q | q
  · exact key 16 16 a_mth_16 (by omega) (by omega)
  rcases Nat.lt_or_ge mi 48 with q | q
  · exact key 32 16 a_mth_32 (by omega) (by omega)
  rcases Nat.lt_or_ge mi 64 with q | q
  · exact key 48 16 a_mth_48 (by omega) (by omega)
  rcases Nat.lt_or_ge mi 80 with q | q
  · exact key 64 16 a_mth_64 (by omega) (by omega)
  rcases Nat.lt_or_ge mi 96 with q | q
  · exact key 80 16 a_mth_80 (by omega) (by omega)
  rcases Nat.lt_or_ge mi 112 with q | q
  · exact key 96 16 a_mth_96 (by omega) (by omega)
  rcases Nat.lt_or_ge mi 128 with q | q
  · exact key 112 16 a_mth_112 (by omega) (by omega)
  rcases Nat.lt_or_ge mi 144 with q | q
  · exact key 128 16 a_mth_128 (by omega) (by omega)
  rcases Nat.lt_or_ge mi 160 with q | q
  · exact key 144 16 a_mth_144 (by omega) (by omega)
  rcases Nat.lt_or_ge mi 176 with q | q
  · exact key 160 16 a_mth_160 (by omega) (by omega)
  rcases Nat.lt_or_ge mi 192 with q | q
  · exact key 176 16 a_mth_176 (by omega) (by omega)
  rcases Nat.lt_or_ge mi 208 with q | q
  · exact key 192 16 a_mth_192 (by omega) (by omega)
  rcases Nat.lt_or_ge mi 224 with q | q
  · exact key 208 16 a_mth_208 (by omega) (by omega)
  rcases Nat.lt_or_ge mi 240 with q | q
  · exact key 224 16 a_mth_224 (by omega) (by omega)
  rcases Nat.lt_or_ge mi 256 with q | q
  · exact key 240 16 a_mth_240 (by omega) (by omega)
  rcases Nat.lt_or_ge mi 272 with q | q
  · exact key 256 16 a_mth_256 (by omega) (by omega)
  rcases Nat.lt_or_ge mi 288 with q | q
  · exact key 272 16 a_mth_272 (by omega) (by omega)
  exact key 288 13 a_mth_288 (by omega) (by omega)
theorem a_cw_in {mi : Nat} (h : mi < 301) : a_cw mi ∈ a_wG := by
  have := a_mth_at h
  unfold a_mthB at this
  rw [Bool.and_eq_true] at this
  exact a_at_in this.1
theorem a_plain {mi : Nat} (h : mi < 301) : plainName (a_y mi).cls = true ∧ ((a_y mi).cls ≠ "java/lang/invoke/MethodHandle" ∧ (a_y mi).cls ≠ "java/lang/invoke/VarHandle") ∧ a_mxl mi ≤ 41 := by
  have := a_mth_at h
  unfold a_mthB at this
  simp only [Bool.and_eq_true, decide_eq_true_eq] at this
  exact ⟨this.2.1, ⟨this.2.2.1, this.2.2.2.1⟩, this.2.2.2.2.1⟩
theorem a_hnd_in {mi : Nat} (h : mi < 301) {x : Nat × Nat × Nat × Nat × Nat × Nat × Nat} (hx : x ∈ a_hnd mi) : Cond.classLink (a_cN (a_own mi)) x.2.2.2.1 (a_exN x.2.2.2.2.1) ∈ a_wG ∧ x.2.2.2.1 ≠ 0 ∧ x.2.2.2.2.1 < 6 := by
  have h1 := a_mth_at h
  unfold a_mthB at h1
  simp only [Bool.and_eq_true, decide_eq_true_eq] at h1
  have h2 := List.all_eq_true.mp h1.2.2.2.2.2 x hx
  simp only [Bool.and_eq_true, decide_eq_true_eq] at h2
  exact ⟨a_at_in h2.1, h2.2.1, h2.2.2⟩
abbrev AI : Type := Nat × Nat × Nat × (Nat × Nat) × (Nat × Nat) × (Nat × Nat) × (Nat × Nat)
def a_np (mt : Nat) : Option Nat := (parseMethodDescriptor (a_dsc mt)).map (fun d => d.parameters.length)
def a_invB (own : Nat) (e : AI) : Bool := decide (e.2.2.1 < 301) && (a_at e.2.2.2.2.2.2 (.initialized (a_y e.2.2.1).cls) && (match e.2.1 with
  | 0 => a_at e.2.2.2.1 (.methodLink (a_cN own) e.1 (a_y e.2.2.1)) && (a_at e.2.2.2.2.1 (.instanceMethod (a_y e.2.2.1)) && (a_at e.2.2.2.2.2.1 (.selects (a_y e.2.2.1).cls (a_y e.2.2.1) (a_y e.2.2.1)) && (decide ((a_np e.2.2.1).map (· + 1) = some (a_nrg e.2.2.1)) && ((a_hnd e.2.2.1).isEmpty && decide (a_own e.2.2.1 < 13)))))
  | 1 => a_at e.2.2.2.1 (.methodLink (a_cN own) e.1 (a_y e.2.2.1)) && (a_at e.2.2.2.2.1 (.static (a_y e.2.2.1)) && decide (a_np e.2.2.1 = some (a_nrg e.2.2.1)))
  | 2 => a_at e.2.2.2.1 (.methodLink (a_cN own) e.1 (a_y e.2.2.1)) && (a_at e.2.2.2.2.1 (.instanceMethod (a_y e.2.2.1)) && (decide (a_nam e.2.2.1 = "<init>") && (decide (a_rty e.2.2.1 = none) && (decide ((a_np e.2.2.1).map (· + 1) = some (a_nrg e.2.2.1)) && (a_hnd e.2.2.1).isEmpty))))
  | 3 => decide ((a_chs e.2.2.2.1.1)[e.2.2.2.1.2]? = some (.methodLinkNest (a_cN own) e.1 (a_y e.2.2.1) "Juryreel")) && (a_at e.2.2.2.2.1 (.instanceMethod (a_y e.2.2.1)) && (decide (a_nam e.2.2.1 = "<init>") && (decide (a_rty e.2.2.1 = none) && (decide ((a_np e.2.2.1).map (· + 1) = some (a_nrg e.2.2.1)) && (a_hnd e.2.2.1).isEmpty))))
  | _ => false))
theorem a_inv_ok : a_all a_inv a_invB = true := by decide +kernel
/-- throws: class, pool numbers of class and constructor, exception, pool number of its superclass's constructor -/
def a_thx : List (Nat × Nat × Nat × Nat × Nat) := [(11, 101, 105, 2, 7), (11, 136, 140, 3, 7), (11, 166, 170, 4, 13), (11, 539, 543, 5, 7), (11, 561, 565, 0, 7), (11, 94, 98, 1, 7)]
def a_byt (ix : Nat) : ByteArray := if ix = 13 then ⟨#[0x2a, 0x2b, 0xb7, 0x00, 0x0d, 0xb1]⟩ else ⟨#[0x2a, 0x2b, 0xb7, 0x00, 0x07, 0xb1]⟩
def a_thxW (r : Nat × Nat × Nat × Nat × Nat) : List Cond := Cond.classLink (a_cN r.1) r.2.1 (a_exN r.2.2.2.1) :: Cond.initialized (a_exN r.2.2.2.1) :: a_at5 (a_cN r.1) r.2.2.1 (a_exN r.2.2.2.1) r.2.2.2.2 (a_byt r.2.2.2.2)
def a_thxB (r : Nat × Nat × Nat × Nat × Nat) : Bool := (a_thxW r).all fun w => vx_ot w && (goodWord w || a_ng w)
theorem a_thx_ok : a_thx.all a_thxB = true := by decide +kernel
theorem a_thx_in0 : ∀ w ∈ a_thxW (11, 101, 105, 2, 7), w ∈ lw_tbl := by decide +kernel
theorem a_thx_in1 : ∀ w ∈ a_thxW (11, 136, 140, 3, 7), w ∈ lw_tbl := by decide +kernel
theorem a_thx_in2 : ∀ w ∈ a_thxW (11, 166, 170, 4, 13), w ∈ lw_tbl := by decide +kernel
theorem a_thx_in3 : ∀ w ∈ a_thxW (11, 539, 543, 5, 7), w ∈ lw_tbl := by decide +kernel
theorem a_thx_in4 : ∀ w ∈ a_thxW (11, 561, 565, 0, 7), w ∈ lw_tbl := by decide +kernel
theorem a_thx_in5 : ∀ w ∈ a_thxW (11, 94, 98, 1, 7), w ∈ lw_tbl := by decide +kernel
theorem a_thx_in {r : Nat × Nat × Nat × Nat × Nat} (h : r ∈ a_thx) : ∀ w ∈ a_thxW r, w ∈ lw_tbl := by
  simp only [a_thx, List.mem_cons, List.not_mem_nil, or_false] at h
  rcases h with rfl | rfl | rfl | rfl | rfl | rfl
  · exact a_thx_in0
  · exact a_thx_in1
  · exact a_thx_in2
  · exact a_thx_in3
  · exact a_thx_in4
  · exact a_thx_in5
theorem a_byt_ok : ∀ r ∈ a_thx, decode (a_byt r.2.2.2.2) 0 = .ok (.aload_n 0, 1) ∧ decode (a_byt r.2.2.2.2) 1 = .ok (.aload_n 1, 1) ∧ decode (a_byt r.2.2.2.2) 2 = .ok (.invokespecial r.2.2.2.2, 3) ∧ decode (a_byt r.2.2.2.2) 5 = .ok (.return_, 1) ∧ r.2.2.2.1 < 6 := by decide +kernel
theorem a_fit : ∀ k, k < 6 → Bundle.fit (a_exN k) = true := by decide +kernel
/-- the row of a throw -/
def a_thk (r : AT) : Option (Nat × Nat × Nat × Nat × Nat) := a_thx.find? fun q => q.1 == r.2.2.1 && (q.2.1 == r.2.2.2.1 && (q.2.2.1 == r.2.2.2.2.2.2.1 && q.2.2.2.1 == r.2.2.2.2.2.2.2.1))
noncomputable def a_thrB (r : AT) : Bool := (a_thk r).isSome && (decide (a_own r.1 = r.2.2.1) && ((a_hnd r.1).isEmpty && (decide (a_ins r.1 r.2.1 = some (.new r.2.2.2.1, 3)) && (decide (a_ins r.1 (r.2.1 + 3) = some (.dup, 1)) &&
  (if r.2.2.2.2.2.1 = true then decide (a_ins r.1 (r.2.1 + 4) = some (.ldc_w r.2.2.2.2.1, 3)) && (decide (a_ins r.1 (r.2.1 + 7) = some (.invokespecial r.2.2.2.2.2.2.1, 3)) && decide (a_ins r.1 (r.2.1 + 10) = some (.athrow, 1)))
  else decide (a_ins r.1 (r.2.1 + 4) = some (.ldc r.2.2.2.2.1, 2)) && (decide (a_ins r.1 (r.2.1 + 6) = some (.invokespecial r.2.2.2.2.2.2.1, 3)) && decide (a_ins r.1 (r.2.1 + 9) = some (.athrow, 1))))))))
theorem a_thr_ok : a_thr.all a_thrB = true := by decide +kernel
