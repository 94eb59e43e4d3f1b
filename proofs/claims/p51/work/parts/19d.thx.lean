/-! What the tables say, on (wip/g3/fast.py) -/
/-- throws: class, pool numbers of class and constructor, exception, pool number of its superclass's constructor -/
def a_thx : List (Nat × Nat × Nat × Nat × Nat) := [(11, 101, 105, 2, 7), (11, 136, 140, 3, 7), (11, 166, 170, 4, 13), (11, 561, 565, 0, 7), (11, 94, 98, 1, 7)]
def a_byt (ix : Nat) : ByteArray := if ix = 13 then ⟨#[0x2a, 0x2b, 0xb7, 0x00, 0x0d, 0xb1]⟩ else ⟨#[0x2a, 0x2b, 0xb7, 0x00, 0x07, 0xb1]⟩
def a_thxW (r : Nat × Nat × Nat × Nat × Nat) : List Cond := Cond.classLink (a_cN r.1) r.2.1 (a_exN r.2.2.2.1) :: Cond.initialized (a_exN r.2.2.2.1) :: a_at5 (a_cN r.1) r.2.2.1 (a_exN r.2.2.2.1) r.2.2.2.2 (a_byt r.2.2.2.2)
def a_thxB (r : Nat × Nat × Nat × Nat × Nat) : Bool := (a_thxW r).all fun w => vx_ot w && (goodWord w || a_ng w)
def a_thxF (q : Nat × Nat) : Option Cond := (a_chs q.1)[q.2]?
theorem a_thx_at {r : Nat × Nat × Nat × Nat × Nat} {idx : List (Nat × Nat)} (h : idx.map a_thxF = f_lst some (a_thxW r)) : ∀ w ∈ a_thxW r, w ∈ lw_tbl := fun w hw => by
  rw [f_lst_map] at h
  have : some w ∈ (a_thxW r).map some := List.mem_map.mpr ⟨w, hw, rfl⟩
  rw [← h] at this
  obtain ⟨q, -, hq⟩ := List.mem_map.mp this
  exact a_chs_in (List.mem_of_getElem? hq)
theorem a_thx_ok : a_thx.all a_thxB = true := by decide +kernel
set_option maxRecDepth 100000 in
theorem a_thx_E0 : [(3, 195), (1, 17), (1, 13), (2, 208), (2, 217), (2, 224), (2, 227), (2, 229), (2, 209), (2, 210), (1, 30), (1, 31), (2, 211), (2, 216), (2, 225), (3, 5), (2, 198), (3, 6), (2, 200), (3, 7), (2, 202), (2, 212), (2, 214), (2, 204), (3, 1), (3, 2), (3, 4), (2, 204), (3, 206), (3, 207), (3, 208), (2, 235), (2, 190), (2, 235), (2, 236), (2, 237), (2, 238), (2, 192), (2, 238), (2, 239), (3, 0), (3, 1), (2, 194), (3, 205), (3, 196), (3, 197), (3, 198), (2, 221), (3, 199), (3, 200), (3, 201), (3, 202), (2, 207), (2, 206), (3, 203)].map a_thxF = f_lst some (a_thxW (11, 101, 105, 2, 7)) := by eq_refl
theorem a_thx_in0 : ∀ w ∈ a_thxW (11, 101, 105, 2, 7), w ∈ lw_tbl := a_thx_at a_thx_E0
set_option maxRecDepth 100000 in
theorem a_thx_E1 : [(4, 28), (1, 21), (1, 13), (2, 208), (2, 217), (2, 224), (2, 227), (2, 229), (2, 209), (2, 210), (1, 30), (1, 31), (2, 211), (2, 216), (2, 225), (3, 5), (2, 198), (3, 6), (2, 200), (3, 7), (2, 202), (2, 212), (2, 214), (2, 204), (3, 1), (3, 2), (3, 4), (2, 204), (4, 39), (4, 40), (4, 41), (2, 235), (2, 190), (2, 235), (2, 236), (2, 237), (2, 238), (2, 192), (2, 238), (2, 239), (3, 0), (3, 1), (2, 194), (4, 38), (4, 29), (4, 30), (4, 31), (2, 222), (4, 32), (4, 33), (4, 34), (4, 35), (2, 207), (2, 206), (4, 36)].map a_thxF = f_lst some (a_thxW (11, 136, 140, 3, 7)) := by eq_refl
theorem a_thx_in1 : ∀ w ∈ a_thxW (11, 136, 140, 3, 7), w ∈ lw_tbl := a_thx_at a_thx_E1
set_option maxRecDepth 100000 in
theorem a_thx_E2 : [(4, 78), (1, 22), (1, 13), (2, 208), (2, 217), (2, 224), (2, 227), (2, 229), (2, 209), (2, 210), (1, 30), (1, 31), (2, 211), (2, 216), (2, 225), (3, 5), (2, 198), (3, 6), (2, 200), (3, 7), (2, 202), (2, 212), (2, 214), (2, 204), (3, 1), (3, 2), (3, 4), (2, 204), (4, 89), (4, 90), (4, 91), (2, 235), (2, 190), (2, 235), (2, 236), (2, 237), (2, 238), (2, 192), (2, 238), (2, 239), (3, 0), (3, 1), (2, 194), (4, 88), (4, 79), (4, 80), (4, 81), (2, 223), (4, 82), (4, 83), (4, 84), (4, 85), (2, 207), (2, 206), (4, 86)].map a_thxF = f_lst some (a_thxW (11, 166, 170, 4, 13)) := by eq_refl
theorem a_thx_in2 : ∀ w ∈ a_thxW (11, 166, 170, 4, 13), w ∈ lw_tbl := a_thx_at a_thx_E2
set_option maxRecDepth 100000 in
theorem a_thx_E3 : [(2, 186), (1, 18), (1, 13), (2, 208), (2, 217), (2, 224), (2, 227), (2, 229), (2, 209), (2, 210), (1, 30), (1, 31), (2, 211), (2, 216), (2, 225), (3, 5), (2, 198), (3, 6), (2, 200), (3, 7), (2, 202), (2, 212), (2, 214), (2, 204), (3, 1), (3, 2), (3, 4), (2, 204), (2, 232), (2, 233), (2, 234), (2, 235), (2, 190), (2, 235), (2, 236), (2, 237), (2, 238), (2, 192), (2, 238), (2, 239), (3, 0), (3, 1), (2, 194), (2, 231), (2, 187), (2, 188), (2, 195), (2, 196), (2, 197), (2, 199), (2, 201), (2, 203), (2, 207), (2, 206), (2, 205)].map a_thxF = f_lst some (a_thxW (11, 561, 565, 0, 7)) := by eq_refl
theorem a_thx_in3 : ∀ w ∈ a_thxW (11, 561, 565, 0, 7), w ∈ lw_tbl := a_thx_at a_thx_E3
set_option maxRecDepth 100000 in
theorem a_thx_E4 : [(3, 179), (1, 16), (1, 13), (2, 208), (2, 217), (2, 224), (2, 227), (2, 229), (2, 209), (2, 210), (1, 30), (1, 31), (2, 211), (2, 216), (2, 225), (3, 5), (2, 198), (3, 6), (2, 200), (3, 7), (2, 202), (2, 212), (2, 214), (2, 204), (3, 1), (3, 2), (3, 4), (2, 204), (3, 190), (3, 191), (3, 192), (2, 235), (2, 190), (2, 235), (2, 236), (2, 237), (2, 238), (2, 192), (2, 238), (2, 239), (3, 0), (3, 1), (2, 194), (3, 189), (3, 180), (3, 181), (3, 182), (2, 220), (3, 183), (3, 184), (3, 185), (3, 186), (2, 207), (2, 206), (3, 187)].map a_thxF = f_lst some (a_thxW (11, 94, 98, 1, 7)) := by eq_refl
theorem a_thx_in4 : ∀ w ∈ a_thxW (11, 94, 98, 1, 7), w ∈ lw_tbl := a_thx_at a_thx_E4
theorem a_thx_in {r : Nat × Nat × Nat × Nat × Nat} (h : r ∈ a_thx) : ∀ w ∈ a_thxW r, w ∈ lw_tbl := by
  simp only [a_thx, List.mem_cons, List.not_mem_nil, or_false] at h
  rcases h with rfl | rfl | rfl | rfl | rfl
  · exact a_thx_in0
  · exact a_thx_in1
  · exact a_thx_in2
  · exact a_thx_in3
  · exact a_thx_in4
theorem a_byt_ok : ∀ r ∈ a_thx, decode (a_byt r.2.2.2.2) 0 = .ok (.aload_n 0, 1) ∧ decode (a_byt r.2.2.2.2) 1 = .ok (.aload_n 1, 1) ∧ decode (a_byt r.2.2.2.2) 2 = .ok (.invokespecial r.2.2.2.2, 3) ∧ decode (a_byt r.2.2.2.2) 5 = .ok (.return_, 1) ∧ r.2.2.2.1 < 6 := by decide +kernel
theorem a_fit : ∀ k, k < 6 → Bundle.fit (a_exN k) = true := by decide +kernel
/-- the row of a throw -/
def a_thk (r : AT) : Option (Nat × Nat × Nat × Nat × Nat) := a_thx.find? fun q => q.1 == r.2.2.1 && (q.2.1 == r.2.2.2.1 && (q.2.2.1 == r.2.2.2.2.2.2.1 && q.2.2.2.1 == r.2.2.2.2.2.2.2.1))
noncomputable def a_thrB (r : AT) : Bool := (a_thk r).isSome && (decide (a_own r.1 = r.2.2.1) && ((a_hnd r.1).isEmpty && (decide (a_ins r.1 r.2.1 = some (.new r.2.2.2.1, 3)) && (decide (a_ins r.1 (r.2.1 + 3) = some (.dup, 1)) &&
  (if r.2.2.2.2.2.1 = true then decide (a_ins r.1 (r.2.1 + 4) = some (.ldc_w r.2.2.2.2.1, 3)) && (decide (a_ins r.1 (r.2.1 + 7) = some (.invokespecial r.2.2.2.2.2.2.1, 3)) && decide (a_ins r.1 (r.2.1 + 10) = some (.athrow, 1)))
  else decide (a_ins r.1 (r.2.1 + 4) = some (.ldc r.2.2.2.2.1, 2)) && (decide (a_ins r.1 (r.2.1 + 6) = some (.invokespecial r.2.2.2.2.2.2.1, 3)) && decide (a_ins r.1 (r.2.1 + 9) = some (.athrow, 1))))))))
theorem a_thr_ok : a_thr.all a_thrB = true := by decide +kernel
