/-! What the tables say, on (wip/g3/fast.py) -/
/-- throws: class, pool numbers of class and constructor, exception, pool number of its superclass's constructor -/
def a_thx : List (Nat × Nat × Nat × Nat × Nat) := [(11, 101, 105, 2, 7), (11, 136, 140, 3, 7), (11, 166, 170, 4, 13), (11, 539, 543, 5, 7), (11, 561, 565, 0, 7), (11, 94, 98, 1, 7)]
def a_byt (ix : Nat) : ByteArray := if ix = 13 then ⟨#[0x2a, 0x2b, 0xb7, 0x00, 0x0d, 0xb1]⟩ else ⟨#[0x2a, 0x2b, 0xb7, 0x00, 0x07, 0xb1]⟩
def a_thxW (r : Nat × Nat × Nat × Nat × Nat) : List Cond := Cond.classLink (a_cN r.1) r.2.1 (a_exN r.2.2.2.1) :: Cond.initialized (a_exN r.2.2.2.1) :: a_at5 (a_cN r.1) r.2.2.1 (a_exN r.2.2.2.1) r.2.2.2.2 (a_byt r.2.2.2.2)
def a_thxB (r : Nat × Nat × Nat × Nat × Nat) : Bool := (a_thxW r).all fun w => vx_ot w && (goodWord w || a_ng w)
theorem a_thx_ok : a_thx.all a_thxB = true := by decide +kernel
theorem a_thx_in0 : ∀ w ∈ a_thxW (11, 101, 105, 2, 7), w ∈ lw_tbl := by decide +kernel
theorem a_thx_in1 : ∀ w ∈ a_thxW (11, 136, 140, 3, 7), w ∈ lw_tbl := by decide +kernel
theorem a_thx_in2 : ∀ w ∈ a_thxW (11, 166, 170, 4, 13), w ∈ lw_tbl := by decide +kernel
theorem a_thx_in3 : ∀ w ∈ a_thxW (11, 539, 543, 5, 7), w ∈ lw_tbl := by decide +kernel
theorem a_thx_in4 : ∀ w ∈ a_thxW (11, 561, 565, 0, 7), w ∈ lw_tbl := by decide +kernel
theorem a_thx_in5 : ∀ w ∈ a_thxW (11, 94, 98, 1, 7), w ∈ lw_tbl := by decide +kernel
theorem a_thx_in {r : Nat × Nat × Nat × Nat × Nat} (h : r ∈ a_thx) : ∀ w ∈ a_thxW r, w ∈ lw_tbl := by
  simp only [a_thx, List.mem_cons, List.not_mem_nil, or_false] at h
  rcases h with rfl | rfl | rfl | rfl | rfl | rfl
  · exact a_thx_in0
  · exact a_thx_in1
  · exact a_thx_in2
  · exact a_thx_in3
  · exact a_thx_in4
  · exact a_thx_in5
theorem a_byt_ok : ∀ r ∈ a_thx, decode (a_byt r.2.2.2.2) 0 = .ok (.aload_n 0, 1) ∧ decode (a_byt r.2.2.2.2) 1 = .ok (.aload_n 1, 1) ∧ decode (a_byt r.2.2.2.2) 2 = .ok (.invokespecial r.2.2.2.2, 3) ∧ decode (a_byt r.2.2.2.2) 5 = .ok (.return_, 1) ∧ r.2.2.2.1 < 6 := by decide +kernel
theorem a_fit : ∀ k, k < 6 → Bundle.fit (a_exN k) = true := by decide +kernel
/-- the row of a throw -/
def a_thk (r : AT) : Option (Nat × Nat × Nat × Nat × Nat) := a_thx.find? fun q => q.1 == r.2.2.1 && (q.2.1 == r.2.2.2.1 && (q.2.2.1 == r.2.2.2.2.2.2.1 && q.2.2.2.1 == r.2.2.2.2.2.2.2.1))
noncomputable def a_thrB (r : AT) : Bool := (a_thk r).isSome && (decide (a_own r.1 = r.2.2.1) && ((a_hnd r.1).isEmpty && (decide (a_ins r.1 r.2.1 = some (.new r.2.2.2.1, 3)) && (decide (a_ins r.1 (r.2.1 + 3) = some (.dup, 1)) &&
  (if r.2.2.2.2.2.1 = true then decide (a_ins r.1 (r.2.1 + 4) = some (.ldc_w r.2.2.2.2.1, 3)) && (decide (a_ins r.1 (r.2.1 + 7) = some (.invokespecial r.2.2.2.2.2.2.1, 3)) && decide (a_ins r.1 (r.2.1 + 10) = some (.athrow, 1)))
  else decide (a_ins r.1 (r.2.1 + 4) = some (.ldc r.2.2.2.2.1, 2)) && (decide (a_ins r.1 (r.2.1 + 6) = some (.invokespecial r.2.2.2.2.2.2.1, 3)) && decide (a_ins r.1 (r.2.1 + 9) = some (.athrow, 1))))))))
theorem a_thr_ok : a_thr.all a_thrB = true := by decide +kernel
