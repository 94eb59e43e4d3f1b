/-! What the tables say, on (wip/g3/fast.py) -/
def a_hh (mi : Nat) : List (Nat × Nat × Nat × Nat) := (a_hnd mi).map (fun x => (x.1, x.2.1, x.2.2.1, x.2.2.2.1))
noncomputable def a_cw (mi : Nat) : Cond := if (a_hnd mi).isEmpty = true then .code (a_y mi) (a_codeB mi) (a_mxl mi) (a_rty mi) else .codeWith (a_y mi) (a_codeB mi) (a_mxl mi) (a_rty mi) (a_hh mi)
noncomputable def f_cwF (mi : Nat) : Option Cond := (a_chs (a_mrow mi).2.2.2.2.2.2.2.1)[(a_mrow mi).2.2.2.2.2.2.2.2]?
noncomputable def f_cwG (mi : Nat) : Option Cond := some (a_cw mi)
noncomputable def f_hF (mi : Nat) : List (Option Cond) := (a_hnd mi).map fun x => (a_chs x.2.2.2.2.2.1)[x.2.2.2.2.2.2]?
noncomputable def f_hG (mi : Nat) : List (Option Cond) := f_lst (fun x => some (Cond.classLink (a_cN (a_own mi)) x.2.2.2.1 (a_exN x.2.2.2.2.1))) (a_hnd mi)
noncomputable def f_mR (mi : Nat) : Bool := goodWord (a_cw mi) && (decide (a_mxl mi ≤ 41) && (decide (a_own mi < 14) && (a_hnd mi).all fun x => goodWord (.classLink (a_cN (a_own mi)) x.2.2.2.1 (a_exN x.2.2.2.2.1)) && (decide (x.2.2.2.1 ≠ 0) && decide (x.2.2.2.2.1 < 6))))
theorem f_plainC : ∀ c, c < 14 → plainName (a_cN c) = true ∧ (a_cN c ≠ "java/lang/invoke/MethodHandle" ∧ a_cN c ≠ "java/lang/invoke/VarHandle") := by decide +kernel
set_option maxRecDepth 100000 in
theorem f_cwE0 : (List.range' 0 16).map f_cwF = f_lst f_cwG (List.range' 0 16) := by eq_refl
set_option maxRecDepth 100000 in
theorem f_hE0 : (List.range' 0 16).map f_hF = f_lst f_hG (List.range' 0 16) := by eq_refl
theorem f_mR0 : ((List.range' 0 16).all f_mR) = true := by decide +kernel
set_option maxRecDepth 100000 in
theorem f_cwE16 : (List.range' 16 16).map f_cwF = f_lst f_cwG (List.range' 16 16) := by eq_refl
set_option maxRecDepth 100000 in
theorem f_hE16 : (List.range' 16 16).map f_hF = f_lst f_hG (List.range' 16 16) := by eq_refl
theorem f_mR16 : ((List.range' 16 16).all f_mR) = true := by decide +kernel
set_option maxRecDepth 100000 in
theorem f_cwE32 : (List.range' 32 16).map f_cwF = f_lst f_cwG (List.range' 32 16) := by eq_refl
set_option maxRecDepth 100000 in
theorem f_hE32 : (List.range' 32 16).map f_hF = f_lst f_hG (List.range' 32 16) := by eq_refl
theorem f_mR32 : ((List.range' 32 16).all f_mR) = true := by decide +kernel
set_option maxRecDepth 100000 in
theorem f_cwE48 : (List.range' 48 16).map f_cwF = f_lst f_cwG (List.range' 48 16) := by eq_refl
set_option maxRecDepth 100000 in
theorem f_hE48 : (List.range' 48 16).map f_hF = f_lst f_hG (List.range' 48 16) := by eq_refl
theorem f_mR48 : ((List.range' 48 16).all f_mR) = true := by decide +kernel
set_option maxRecDepth 100000 in
theorem f_cwE64 : (List.range' 64 16).map f_cwF = f_lst f_cwG (List.range' 64 16) := by eq_refl
set_option maxRecDepth 100000 in
theorem f_hE64 : (List.range' 64 16).map f_hF = f_lst f_hG (List.range' 64 16) := by eq_refl
theorem f_mR64 : ((List.range' 64 16).all f_mR) = true := by decide +kernel
set_option maxRecDepth 100000 in
theorem f_cwE80 : (List.range' 80 16).map f_cwF = f_lst f_cwG (List.range' 80 16) := by eq_refl
set_option maxRecDepth 100000 in
theorem f_hE80 : (List.range' 80 16).map f_hF = f_lst f_hG (List.range' 80 16) := by eq_refl
theorem f_mR80 : ((List.range' 80 16).all f_mR) = true := by decide +kernel
set_option maxRecDepth 100000 in
theorem f_cwE96 : (List.range' 96 16).map f_cwF = f_lst f_cwG (List.range' 96 16) := by eq_refl
set_option maxRecDepth 100000 in
theorem f_hE96 : (List.range' 96 16).map f_hF = f_lst f_hG (List.range' 96 16) := by eq_refl
theorem f_mR96 : ((List.range' 96 16).all f_mR) = true := by decide +kernel
set_option maxRecDepth 100000 in
theorem f_cwE112 : (List.range' 112 16).map f_cwF = f_lst f_cwG (List.range' 112 16) := by eq_refl
set_option maxRecDepth 100000 in
theorem f_hE112 : (List.range' 112 16).map f_hF = f_lst f_hG (List.range' 112 16) := by eq_refl
theorem f_mR112 : ((List.range' 112 16).all f_mR) = true := by decide +kernel
set_option maxRecDepth 100000 in
theorem f_cwE128 : (List.range' 128 16).map f_cwF = f_lst f_cwG (List.range' 128 16) := by eq_refl
set_option maxRecDepth 100000 in
theorem f_hE128 : (List.range' 128 16).map f_hF = f_lst f_hG (List.range' 128 16) := by eq_refl
theorem f_mR128 : ((List.range' 128 16).all f_mR) = true := by decide +kernel
set_option maxRecDepth 100000 in
theorem f_cwE144 : (List.range' 144 16).map f_cwF = f_lst f_cwG (List.range' 144 16) := by eq_refl
set_option maxRecDepth 100000 in
theorem f_hE144 : (List.range' 144 16).map f_hF = f_lst f_hG (List.range' 144 16) := by eq_refl
theorem f_mR144 : ((List.range' 144 16).all f_mR) = true := by decide +kernel
set_option maxRecDepth 100000 in
theorem f_cwE160 : (List.range' 160 16).map f_cwF = f_lst f_cwG (List.range' 160 16) := by eq_refl
set_option maxRecDepth 100000 in
theorem f_hE160 : (List.range' 160 16).map f_hF = f_lst f_hG (List.range' 160 16) := by eq_refl
theorem f_mR160 : ((List.range' 160 16).all f_mR) = true := by decide +kernel
set_option maxRecDepth 100000 in
theorem f_cwE176 : (List.range' 176 16).map f_cwF = f_lst f_cwG (List.range' 176 16) := by eq_refl
set_option maxRecDepth 100000 in
theorem f_hE176 : (List.range' 176 16).map f_hF = f_lst f_hG (List.range' 176 16) := by eq_refl
theorem f_mR176 : ((List.range' 176 16).all f_mR) = true := by decide +kernel
set_option maxRecDepth 100000 in
theorem f_cwE192 : (List.range' 192 16).map f_cwF = f_lst f_cwG (List.range' 192 16) := by eq_refl
set_option maxRecDepth 100000 in
theorem f_hE192 : (List.range' 192 16).map f_hF = f_lst f_hG (List.range' 192 16) := by eq_refl
theorem f_mR192 : ((List.range' 192 16).all f_mR) = true := by decide +kernel
set_option maxRecDepth 100000 in
theorem f_cwE208 : (List.range' 208 16).map f_cwF = f_lst f_cwG (List.range' 208 16) := by eq_refl
set_option maxRecDepth 100000 in
theorem f_hE208 : (List.range' 208 16).map f_hF = f_lst f_hG (List.range' 208 16) := by eq_refl
theorem f_mR208 : ((List.range' 208 16).all f_mR) = true := by decide +kernel
set_option maxRecDepth 100000 in
theorem f_cwE224 : (List.range' 224 16).map f_cwF = f_lst f_cwG (List.range' 224 16) := by eq_refl
set_option maxRecDepth 100000 in
theorem f_hE224 : (List.range' 224 16).map f_hF = f_lst f_hG (List.range' 224 16) := by eq_refl
theorem f_mR224 : ((List.range' 224 16).all f_mR) = true := by decide +kernel
set_option maxRecDepth 100000 in
theorem f_cwE240 : (List.range' 240 16).map f_cwF = f_lst f_cwG (List.range' 240 16) := by eq_refl
set_option maxRecDepth 100000 in
theorem f_hE240 : (List.range' 240 16).map f_hF = f_lst f_hG (List.range' 240 16) := by eq_refl
theorem f_mR240 : ((List.range' 240 16).all f_mR) = true := by decide +kernel
set_option maxRecDepth 100000 in
theorem f_cwE256 : (List.range' 256 16).map f_cwF = f_lst f_cwG (List.range' 256 16) := by eq_refl
set_option maxRecDepth 100000 in
theorem f_hE256 : (List.range' 256 16).map f_hF = f_lst f_hG (List.range' 256 16) := by eq_refl
theorem f_mR256 : ((List.range' 256 16).all f_mR) = true := by decide +kernel
set_option maxRecDepth 100000 in
theorem f_cwE272 : (List.range' 272 16).map f_cwF = f_lst f_cwG (List.range' 272 16) := by eq_refl
set_option maxRecDepth 100000 in
theorem f_hE272 : (List.range' 272 16).map f_hF = f_lst f_hG (List.range' 272 16) := by eq_refl
theorem f_mR272 : ((List.range' 272 16).all f_mR) = true := by decide +kernel
set_option maxRecDepth 100000 in
theorem f_cwE288 : (List.range' 288 12).map f_cwF = f_lst f_cwG (List.range' 288 12) := by eq_refl
set_option maxRecDepth 100000 in
theorem f_hE288 : (List.range' 288 12).map f_hF = f_lst f_hG (List.range' 288 12) := by eq_refl
theorem f_mR288 : ((List.range' 288 12).all f_mR) = true := by decide +kernel
theorem f_cwA {mi : Nat} (h : mi < 300) : f_cwF mi = f_cwG mi := by
  rcases Nat.lt_or_ge mi 16 with q | q
  · exact f_lst_at f_cwE0 (List.mem_range'_1.mpr ⟨by omega, by omega⟩)
  rcases Nat.lt_or_ge mi 32 with q | q
  · exact f_lst_at f_cwE16 (List.mem_range'_1.mpr ⟨by omega, by omega⟩)
  rcases Nat.lt_or_ge mi 48 with q | q
  · exact f_lst_at f_cwE32 (List.mem_range'_1.mpr ⟨by omega, by omega⟩)
  rcases Nat.lt_or_ge mi 64 with q | q
  · exact f_lst_at f_cwE48 (List.mem_range'_1.mpr ⟨by omega, by omega⟩)
  rcases Nat.lt_or_ge mi 80 with q | q
  · exact f_lst_at f_cwE64 (List.mem_range'_1.mpr ⟨by omega, by omega⟩)
  rcases Nat.lt_or_ge mi 96 with q | q
  · exact f_lst_at f_cwE80 (List.mem_range'_1.mpr ⟨by omega, by omega⟩)
  rcases Nat.lt_or_ge mi 112 with q | q
  · exact f_lst_at f_cwE96 (List.mem_range'_1.mpr ⟨by omega, by omega⟩)
  rcases Nat.lt_or_ge mi 128 with q | q
  · exact f_lst_at f_cwE112 (List.mem_range'_1.mpr ⟨by omega, by omega⟩)
  rcases Nat.lt_or_ge mi 144 with q | q
  · exact f_lst_at f_cwE128 (List.mem_range'_1.mpr ⟨by omega, by omega⟩)
  rcases Nat.lt_or_ge mi 160 with q | q
  · exact f_lst_at f_cwE144 (List.mem_range'_1.mpr ⟨by omega, by omega⟩)
  rcases Nat.lt_or_ge mi 176 with q | q
  · exact f_lst_at f_cwE160 (List.mem_range'_1.mpr ⟨by omega, by omega⟩)
  rcases Nat.lt_or_ge mi 192 with q | q
  · exact f_lst_at f_cwE176 (List.mem_range'_1.mpr ⟨by omega, by omega⟩)
  rcases Nat.lt_or_ge mi 208 with q | q
  · exact f_lst_at f_cwE192 (List.mem_range'_1.mpr ⟨by omega, by omega⟩)
  rcases Nat.lt_or_ge mi 224 with q | q
  · exact f_lst_at f_cwE208 (List.mem_range'_1.mpr ⟨by omega, by omega⟩)
  rcases Nat.lt_or_ge mi 240 with q | q
  · exact f_lst_at f_cwE224 (List.mem_range'_1.mpr ⟨by omega, by omega⟩)
  rcases Nat.lt_or_ge mi 256 with q | q
  · exact f_lst_at f_cwE240 (List.mem_range'_1.mpr ⟨by omega, by omega⟩)
  rcases Nat.lt_or_ge mi 272 with q | q
  · exact f_lst_at f_cwE256 (List.mem_range'_1.mpr ⟨by omega, by omega⟩)
  rcases Nat.lt_or_ge mi 288 with q | q
  · exact f_lst_at f_cwE272 (List.mem_range'_1.mpr ⟨by omega, by omega⟩)
  exact f_lst_at f_cwE288 (List.mem_range'_1.mpr ⟨by omega, by omega⟩)
theorem f_hA {mi : Nat} (h : mi < 300) : f_hF mi = f_hG mi := by
  rcases Nat.lt_or_ge mi 16 with q | q
  · exact f_lst_at f_hE0 (List.mem_range'_1.mpr ⟨by omega, by omega⟩)
  rcases Nat.lt_or_ge mi 32 with q | q
  · exact f_lst_at f_hE16 (List.mem_range'_1.mpr ⟨by omega, by omega⟩)
  rcases Nat.lt_or_ge mi 48 with q | q
  · exact f_lst_at f_hE32 (List.mem_range'_1.mpr ⟨by omega, by omega⟩)
  rcases Nat.lt_or_ge mi 64 with q | q
  · exact f_lst_at f_hE48 (List.mem_range'_1.mpr ⟨by omega, by omega⟩)
  rcases Nat.lt_or_ge mi 80 with q | q
  · exact f_lst_at f_hE64 (List.mem_range'_1.mpr ⟨by omega, by omega⟩)
  rcases Nat.lt_or_ge mi 96 with q | q
  · exact f_lst_at f_hE80 (List.mem_range'_1.mpr ⟨by omega, by omega⟩)
  rcases Nat.lt_or_ge mi 112 with q | q
  · exact f_lst_at f_hE96 (List.mem_range'_1.mpr ⟨by omega, by omega⟩)
  rcases Nat.lt_or_ge mi 128 with q | q
  · exact f_lst_at f_hE112 (List.mem_range'_1.mpr ⟨by omega, by omega⟩)
  rcases Nat.lt_or_ge mi 144 with q | q
  · exact f_lst_at f_hE128 (List.mem_range'_1.mpr ⟨by omega, by omega⟩)
  rcases Nat.lt_or_ge mi 160 with q | q
  · exact f_lst_at f_hE144 (List.mem_range'_1.mpr ⟨by omega, by omega⟩)
  rcases Nat.lt_or_ge mi 176 with q | q
  · exact f_lst_at f_hE160 (List.mem_range'_1.mpr ⟨by omega, by omega⟩)
  rcases Nat.lt_or_ge mi 192 with q | q
  · exact f_lst_at f_hE176 (List.mem_range'_1.mpr ⟨by omega, by omega⟩)
  rcases Nat.lt_or_ge mi 208 with q | q
  · exact f_lst_at f_hE192 (List.mem_range'_1.mpr ⟨by omega, by omega⟩)
  rcases Nat.lt_or_ge mi 224 with q | q
  · exact f_lst_at f_hE208 (List.mem_range'_1.mpr ⟨by omega, by omega⟩)
  rcases Nat.lt_or_ge mi 240 with q | q
  · exact f_lst_at f_hE224 (List.mem_range'_1.mpr ⟨by omega, by omega⟩)
  rcases Nat.lt_or_ge mi 256 with q | q
  · exact f_lst_at f_hE240 (List.mem_range'_1.mpr ⟨by omega, by omega⟩)
  rcases Nat.lt_or_ge mi 272 with q | q
  · exact f_lst_at f_hE256 (List.mem_range'_1.mpr ⟨by omega, by omega⟩)
  rcases Nat.lt_or_ge mi 288 with q | q
  · exact f_lst_at f_hE272 (List.mem_range'_1.mpr ⟨by omega, by omega⟩)
  exact f_lst_at f_hE288 (List.mem_range'_1.mpr ⟨by omega, by omega⟩)
theorem f_mA {mi : Nat} (h : mi < 300) : f_mR mi = true := by
  rcases Nat.lt_or_ge mi 16 with q | q
  · exact List.all_eq_true.mp f_mR0 mi (List.mem_range'_1.mpr ⟨by omega, by omega⟩)
  rcases Nat.lt_or_ge mi 32 with q | q
  · exact List.all_eq_true.mp f_mR16 mi (List.mem_range'_1.mpr ⟨by omega, by omega⟩)
  rcases Nat.lt_or_ge mi 48 with q | q
  · exact List.all_eq_true.mp f_mR32 mi (List.mem_range'_1.mpr ⟨by omega, by omega⟩)
  rcases Nat.lt_or_ge mi 64 with q | q
  · exact List.all_eq_true.mp f_mR48 mi (List.mem_range'_1.mpr ⟨by omega, by omega⟩)
  rcases Nat.lt_or_ge mi 80 with q | q
  · exact List.all_eq_true.mp f_mR64 mi (List.mem_range'_1.mpr ⟨by omega, by omega⟩)
  rcases Nat.lt_or_ge mi 96 with q | q
  · exact List.all_eq_true.mp f_mR80 mi (List.mem_range'_1.mpr ⟨by omega, by omega⟩)
  rcases Nat.lt_or_ge mi 112 with q | q
  · exact List.all_eq_true.mp f_mR96 mi (List.mem_range'_1.mpr ⟨by omega, by omega⟩)
  rcases Nat.lt_or_ge mi 128 with q | q
  · exact List.all_eq_true.mp f_mR112 mi (List.mem_range'_1.mpr ⟨by omega, by omega⟩)
  rcases Nat.lt_or_ge mi 144 with q | q
  · exact List.all_eq_true.mp f_mR128 mi (List.mem_range'_1.mpr ⟨by omega, by omega⟩)
  rcases Nat.lt_or_ge mi 160 with q | q
  · exact List.all_eq_true.mp f_mR144 mi (List.mem_range'_1.mpr ⟨by omega, by omega⟩)
  rcases Nat.lt_or_ge mi 176 with q | q
  · exact List.all_eq_true.mp f_mR160 mi (List.mem_range'_1.mpr ⟨by omega, by omega⟩)
  rcases Nat.lt_or_ge mi 192 with q | q
  · exact List.all_eq_true.mp f_mR176 mi (List.mem_range'_1.mpr ⟨by omega, by omega⟩)
  rcases Nat.lt_or_ge mi 208 with q | q
  · exact List.all_eq_true.mp f_mR192 mi (List.mem_range'_1.mpr ⟨by omega, by omega⟩)
  rcases Nat.lt_or_ge mi 224 with q | q
  · exact List.all_eq_true.mp f_mR208 mi (List.mem_range'_1.mpr ⟨by omega, by omega⟩)
  rcases Nat.lt_or_ge mi 240 with q | q
  · exact List.all_eq_true.mp f_mR224 mi (List.mem_range'_1.mpr ⟨by omega, by omega⟩)
  rcases Nat.lt_or_ge mi 256 with q | q
  · exact List.all_eq_true.mp f_mR240 mi (List.mem_range'_1.mpr ⟨by omega, by omega⟩)
  rcases Nat.lt_or_ge mi 272 with q | q
  · exact List.all_eq_true.mp f_mR256 mi (List.mem_range'_1.mpr ⟨by omega, by omega⟩)
  rcases Nat.lt_or_ge mi 288 with q | q
  · exact List.all_eq_true.mp f_mR272 mi (List.mem_range'_1.mpr ⟨by omega, by omega⟩)
  exact List.all_eq_true.mp f_mR288 mi (List.mem_range'_1.mpr ⟨by omega, by omega⟩)
theorem a_cw_in {mi : Nat} (h : mi < 300) : a_cw mi ∈ a_wG := by
  have k := f_mA h
  unfold f_mR at k
  rw [Bool.and_eq_true] at k
  exact a_wG_of (a_chs_in (List.mem_of_getElem? (f_cwA h))) k.1
theorem a_plain {mi : Nat} (h : mi < 300) : plainName (a_y mi).cls = true ∧ ((a_y mi).cls ≠ "java/lang/invoke/MethodHandle" ∧ (a_y mi).cls ≠ "java/lang/invoke/VarHandle") ∧ a_mxl mi ≤ 41 := by
  have k := f_mA h
  unfold f_mR at k
  simp only [Bool.and_eq_true, decide_eq_true_eq] at k
  have c := f_plainC (a_own mi) k.2.2.1
  exact ⟨c.1, c.2, k.2.1⟩
theorem a_hnd_in {mi : Nat} (h : mi < 300) {x : Nat × Nat × Nat × Nat × Nat × Nat × Nat} (hx : x ∈ a_hnd mi) : Cond.classLink (a_cN (a_own mi)) x.2.2.2.1 (a_exN x.2.2.2.2.1) ∈ a_wG ∧ x.2.2.2.1 ≠ 0 ∧ x.2.2.2.2.1 < 6 := by
  have k := f_mA h
  unfold f_mR at k
  rw [Bool.and_eq_true, Bool.and_eq_true, Bool.and_eq_true] at k
  have k2 := List.all_eq_true.mp k.2.2.2 x hx
  simp only [Bool.and_eq_true, decide_eq_true_eq] at k2
  have k3 := f_lst_at (f_hA h) hx
  exact ⟨a_wG_of (a_chs_in (List.mem_of_getElem? k3)) k2.1, k2.2.1, k2.2.2⟩
