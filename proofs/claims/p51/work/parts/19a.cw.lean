/-! What the tables say, on (wip/g3/fast.py) -/
def a_hh (mi : Nat) : List (Nat × Nat × Nat × Nat) := (a_hnd mi).map (fun x => (x.1, x.2.1, x.2.2.1, x.2.2.2.1))
noncomputable def a_cw (mi : Nat) : Cond := if (a_hnd mi).isEmpty = true then .code (a_y mi) (a_codeB mi) (a_mxl mi) (a_rty mi) else .codeWith (a_y mi) (a_codeB mi) (a_mxl mi) (a_rty mi) (a_hh mi)
noncomputable def f_cwF (mi : Nat) : Option Cond := (a_chs (a_mrow mi).2.2.2.2.2.2.2.1)[(a_mrow mi).2.2.2.2.2.2.2.2]?
noncomputable def f_cwG (mi : Nat) : Option Cond := some (a_cw mi)
noncomputable def f_hF (mi : Nat) : List (Option Cond) := (a_hnd mi).map fun x => (a_chs x.2.2.2.2.2.1)[x.2.2.2.2.2.2]?
noncomputable def f_hG (mi : Nat) : List (Option Cond) := f_lst (fun x => some (Cond.classLink (a_cN (a_own mi)) x.2.2.2.1 (a_exN x.2.2.2.2.1))) (a_hnd mi)
noncomputable def f_mR (mi : Nat) : Bool := goodWord (a_cw mi) && (decide (a_mxl mi ≤ 41) && (decide (a_own mi < 14) && (a_hnd mi).all fun x => goodWord (.classLink (a_cN (a_own mi)) x.2.2.2.1 (a_exN x.2.2.2.2.1)) && (decide (x.2.2.2.1 ≠ 0) && decide (x.2.2.2.2.1 < 5))))
theorem f_plainC : ∀ c, c < 14 → plainName (a_cN c) = true ∧ (a_cN c ≠ "java/lang/invoke/MethodHandle" ∧ a_cN c ≠ "java/lang/invoke/VarHandle") := by decide +kernel
set_option maxRecDepth 100000 in
theorem f_cwE0 : (List.range' 0 16).map f_cwF = f_lst f_cwG (List.range' 0 16) := by eq_refl
set_option maxRecDepth 100000 in
theorem f_hE0 : (List.range' 0 16).map f_hF = f_lst f_hG (List.range' 0 16) := by eq_refl
theorem f_mR0 : ((List.range' 0 16).all f_mR) = true := by decide +kernel
set_option maxRecDepth 100000 in
theorem f_cwE16 : (List.range' 16 16).map f_cwF = f_lst f_cwG (List.range' 16 16) := by eq_refl
set_option maxRecDepth 100000 in
theorem f_hE16 : (List.range' 16 16).map f_hF = f_lst f_hG (List.range' 16 16) := by eq_refl
theorem f_mR16 : ((List.range' 16 16).all f_mR) = true := by decide +kernel
set_option maxRecDepth 100000 in
theorem f_cwE32 : (List.range' 32 16).map f_cwF = f_lst f_cwG (List.range' 32 16) := by eq_refl
set_option maxRecDepth 100000 in
theorem f_hE32 : (List.range' 32 16).map f_hF = f_lst f_hG (List.range' 32 16) := by eq_refl
theorem f_mR32 : ((List.range' 32 16).all f_mR) = true := by decide +kernel
set_option maxRecDepth 100000 in
theorem f_cwE48 : (List.range' 48 16).map f_cwF = f_lst f_cwG (List.range' 48 16) := by eq_refl
set_option maxRecDepth 100000 in
theorem f_hE48 : (List.range' 48 16).map f_hF = f_lst f_hG (List.range' 48 16) := by eq_refl
theorem f_mR48 : ((List.range' 48 16).all f_mR) = true := by decide +kernel
set_option maxRecDepth 100000 in
theorem f_cwE64 : (List.range' 64 16).map f_cwF = f_lst f_cwG (List.range' 64 16) := by eq_refl
set_option maxRecDepth 100000 in
theorem f_hE64 : (List.range' 64 16).map f_hF = f_lst f_hG (List.range' 64 16) := by eq_refl
theorem f_mR64 : ((List.range' 64 16).all f_mR) = true := by decide +kernel
set_option maxRecDepth 100000 in
theorem f_cwE80 : (List.range' 80 16).map f_cwF = f_lst f_cwG (List.range' 80 16) := by eq_refl
set_option maxRecDepth 100000 in
theorem f_hE80 : (List.range' 80 16).map f_hF = f_lst f_hG (List.range' 80 16) := by eq_refl
theorem f_mR80 : ((List.range' 80 16).all f_mR) = true := by decide +kernel
theorem f_cwA {mi : Nat} (h : mi < 96) : f_cwF mi = f_cwG mi := by
  rcases Nat.lt_or_ge mi 16 with q | q
  · exact f_lst_at f_cwE0 (List.mem_range'_1.mpr ⟨by omega, by omega⟩)
  rcases Nat.lt_or_ge mi 32 with q | q
  · exact f_lst_at f_cwE16 (List.mem_range'_1.mpr ⟨by omega, by omega⟩)
  rcases Nat.lt_or_ge mi 48 with q | q
  · exact f_lst_at f_cwE32 (List.mem_range'_1.mpr ⟨by omega, by omega⟩)
  rcases Nat.lt_or_ge mi 64 with q | q
  · exact f_lst_at f_cwE48 (List.mem_range'_1.mpr ⟨by omega, by omega⟩)
  rcases Nat.lt_or_ge mi 80 with q | q
  · exact f_lst_at f_cwE64 (List.mem_range'_1.mpr ⟨by omega, by omega⟩)
  exact f_lst_at f_cwE80 (List.mem_range'_1.mpr ⟨by omega, by omega⟩)
theorem f_hA {mi : Nat} (h : mi < 96) : f_hF mi = f_hG mi := by
  rcases Nat.lt_or_ge mi 16 with q | q
  · exact f_lst_at f_hE0 (List.mem_range'_1.mpr ⟨by omega, by omega⟩)
  rcases Nat.lt_or_ge mi 32 with q | q
  · exact f_lst_at f_hE16 (List.mem_range'_1.mpr ⟨by omega, by omega⟩)
  rcases Nat.lt_or_ge mi 48 with q | q
  · exact f_lst_at f_hE32 (List.mem_range'_1.mpr ⟨by omega, by omega⟩)
  rcases Nat.lt_or_ge mi 64 with q | q
  · exact f_lst_at f_hE48 (List.mem_range'_1.mpr ⟨by omega, by omega⟩)
  rcases Nat.lt_or_ge mi 80 with q | q
  · exact f_lst_at f_hE64 (List.mem_range'_1.mpr ⟨by omega, by omega⟩)
  exact f_lst_at f_hE80 (List.mem_range'_1.mpr ⟨by omega, by omega⟩)
theorem f_mA {mi : Nat} (h : mi < 96) : f_mR mi = true := by
  rcases Nat.lt_or_ge mi 16 with q | q
  · exact List.all_eq_true.mp f_mR0 mi (List.mem_range'_1.mpr ⟨by omega, by omega⟩)
  rcases Nat.lt_or_ge mi 32 with q | q
  · exact List.all_eq_true.mp f_mR16 mi (List.mem_range'_1.mpr ⟨by omega, by omega⟩)
  rcases Nat.lt_or_ge mi 48 with q | q
  · exact List.all_eq_true.mp f_mR32 mi (List.mem_range'_1.mpr ⟨by omega, by omega⟩)
  rcases Nat.lt_or_ge mi 64 with q | q
  · exact List.all_eq_true.mp f_mR48 mi (List.mem_range'_1.mpr ⟨by omega, by omega⟩)
  rcases Nat.lt_or_ge mi 80 with q | q
  · exact List.all_eq_true.mp f_mR64 mi (List.mem_range'_1.mpr ⟨by omega, by omega⟩)
  exact List.all_eq_true.mp f_mR80 mi (List.mem_range'_1.mpr ⟨by omega, by omega⟩)
theorem a_cw_in {mi : Nat} (h : mi < 96) : a_cw mi ∈ a_wG := by
  have k := f_mA h
  unfold f_mR at k
  rw [Bool.and_eq_true] at k
  exact a_wG_of (a_chs_in (List.mem_of_getElem? (f_cwA h))) k.1
theorem a_plain {mi : Nat} (h : mi < 96) : plainName (a_y mi).cls = true ∧ ((a_y mi).cls ≠ "java/lang/invoke/MethodHandle" ∧ (a_y mi).cls ≠ "java/lang/invoke/VarHandle") ∧ a_mxl mi ≤ 41 := by
  have k := f_mA h
  unfold f_mR at k
  simp only [Bool.and_eq_true, decide_eq_true_eq] at k
  have c := f_plainC (a_own mi) k.2.2.1
  exact ⟨c.1, c.2, k.2.1⟩
theorem a_hnd_in {mi : Nat} (h : mi < 96) {x : Nat × Nat × Nat × Nat × Nat × Nat × Nat} (hx : x ∈ a_hnd mi) : Cond.classLink (a_cN (a_own mi)) x.2.2.2.1 (a_exN x.2.2.2.2.1) ∈ a_wG ∧ x.2.2.2.1 ≠ 0 ∧ x.2.2.2.2.1 < 5 := by
  have k := f_mA h
  unfold f_mR at k
  rw [Bool.and_eq_true, Bool.and_eq_true, Bool.and_eq_true] at k
  have k2 := List.all_eq_true.mp k.2.2.2 x hx
  simp only [Bool.and_eq_true, decide_eq_true_eq] at k2
  have k3 := f_lst_at (f_hA h) hx
  exact ⟨a_wG_of (a_chs_in (List.mem_of_getElem? k3)) k2.1, k2.2.1, k2.2.2⟩
