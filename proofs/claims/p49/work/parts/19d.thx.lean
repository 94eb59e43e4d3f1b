/-! What the tables say, on (wip/g3/fast.py) -/
/-- throws: class, pool numbers of class and constructor, exception, pool number of its superclass's constructor -/
def a_thx : List (Nat × Nat × Nat × Nat × Nat) := [(11, 101, 105, 2, 7), (11, 136, 140, 3, 7), (11, 166, 170, 4, 13), (11, 539, 543, 5, 7), (11, 561, 565, 0, 7), (11, 94, 98, 1, 7)]
def a_byt (ix : Nat) : ByteArray := if ix = 13 then ⟨#[0x2a, 0x2b, 0xb7, 0x00, 0x0d, 0xb1]⟩ else ⟨#[0x2a, 0x2b, 0xb7, 0x00, 0x07, 0xb1]⟩
def a_thxW (r : Nat × Nat × Nat × Nat × Nat) : List Cond := Cond.classLink (a_cN r.1) r.2.1 (a_exN r.2.2.2.1) :: Cond.initialized (a_exN r.2.2.2.1) :: a_at5 (a_cN r.1) r.2.2.1 (a_exN r.2.2.2.1) r.2.2.2.2 (a_byt r.2.2.2.2)
def a_thxB (r : Nat × Nat × Nat × Nat × Nat) : Bool := (a_thxW r).all fun w => vx_ot w && (goodWord w || a_ng w)
def a_thxF (q : Nat × Nat) : Option Cond := (a_chs q.1)[q.2]?
theorem a_thx_at {r : Nat × Nat × Nat × Nat × Nat} {idx : List (Nat × Nat)} (h : idx.map a_thxF = f_lst some (a_thxW r)) : ∀ w ∈ a_thxW r, w ∈ lw_tbl := fun w hw => by
  rw [f_lst_map] at h
  have : some w ∈ (a_thxW r).map some := List.mem_map.mpr ⟨w, hw, rfl⟩
  rw [← h] at this
  obtain ⟨q, -, hq⟩ := List.mem_map.mp this
  exact a_chs_in (List.mem_of_getElem? hq)
theorem a_thx_ok : a_thx.all a_thxB = true := by decide +kernel
set_option maxRecDepth 100000 in
theorem a_thx_E0 : [(3, 206), (1, 18), (1, 14), (3, 156), (3, 165), (3, 173), (3, 176), (3, 178), (3, 157), (3, 158), (1, 33), (1, 34), (3, 159), (3, 164), (3, 174), (3, 194), (3, 146), (3, 195), (3, 148), (3, 196), (3, 150), (3, 160), (3, 162), (3, 152), (3, 190), (3, 191), (3, 193), (3, 152), (3, 217), (3, 218), (3, 219), (3, 184), (3, 138), (3, 184), (3, 185), (3, 186), (3, 187), (3, 140), (3, 187), (3, 188), (3, 189), (3, 190), (3, 142), (3, 216), (3, 207), (3, 208), (3, 209), (3, 169), (3, 210), (3, 211), (3, 212), (3, 213), (3, 155), (3, 154), (3, 214)].map a_thxF = f_lst some (a_thxW (11, 101, 105, 2, 7)) := by eq_refl
theorem a_thx_in0 : ∀ w ∈ a_thxW (11, 101, 105, 2, 7), w ∈ lw_tbl := a_thx_at a_thx_E0
set_option maxRecDepth 100000 in
theorem a_thx_E1 : [(4, 60), (1, 22), (1, 14), (3, 156), (3, 165), (3, 173), (3, 176), (3, 178), (3, 157), (3, 158), (1, 33), (1, 34), (3, 159), (3, 164), (3, 174), (3, 194), (3, 146), (3, 195), (3, 148), (3, 196), (3, 150), (3, 160), (3, 162), (3, 152), (3, 190), (3, 191), (3, 193), (3, 152), (4, 71), (4, 72), (4, 73), (3, 184), (3, 138), (3, 184), (3, 185), (3, 186), (3, 187), (3, 140), (3, 187), (3, 188), (3, 189), (3, 190), (3, 142), (4, 70), (4, 61), (4, 62), (4, 63), (3, 171), (4, 64), (4, 65), (4, 66), (4, 67), (3, 155), (3, 154), (4, 68)].map a_thxF = f_lst some (a_thxW (11, 136, 140, 3, 7)) := by eq_refl
theorem a_thx_in1 : ∀ w ∈ a_thxW (11, 136, 140, 3, 7), w ∈ lw_tbl := a_thx_at a_thx_E1
set_option maxRecDepth 100000 in
theorem a_thx_E2 : [(4, 120), (1, 23), (1, 14), (3, 156), (3, 165), (3, 173), (3, 176), (3, 178), (3, 157), (3, 158), (1, 33), (1, 34), (3, 159), (3, 164), (3, 174), (3, 194), (3, 146), (3, 195), (3, 148), (3, 196), (3, 150), (3, 160), (3, 162), (3, 152), (3, 190), (3, 191), (3, 193), (3, 152), (4, 131), (4, 132), (4, 133), (3, 184), (3, 138), (3, 184), (3, 185), (3, 186), (3, 187), (3, 140), (3, 187), (3, 188), (3, 189), (3, 190), (3, 142), (4, 130), (4, 121), (4, 122), (4, 123), (3, 172), (4, 124), (4, 125), (4, 126), (4, 127), (3, 155), (3, 154), (4, 128)].map a_thxF = f_lst some (a_thxW (11, 166, 170, 4, 13)) := by eq_refl
theorem a_thx_in2 : ∀ w ∈ a_thxW (11, 166, 170, 4, 13), w ∈ lw_tbl := a_thx_at a_thx_E2
set_option maxRecDepth 100000 in
theorem a_thx_E3 : [(6, 218), (1, 26), (1, 14), (3, 156), (3, 165), (3, 173), (3, 176), (3, 178), (3, 157), (3, 158), (1, 33), (1, 34), (3, 159), (3, 164), (3, 174), (3, 194), (3, 146), (3, 195), (3, 148), (3, 196), (3, 150), (3, 160), (3, 162), (3, 152), (3, 190), (3, 191), (3, 193), (3, 152), (6, 198), (6, 199), (6, 200), (3, 184), (3, 138), (3, 184), (3, 185), (3, 186), (3, 187), (3, 140), (3, 187), (3, 188), (3, 189), (3, 190), (3, 142), (6, 220), (6, 197), (6, 208), (6, 209), (3, 167), (6, 203), (6, 204), (6, 206), (6, 202), (3, 155), (3, 154), (6, 201)].map a_thxF = f_lst some (a_thxW (11, 539, 543, 5, 7)) := by eq_refl
theorem a_thx_in3 : ∀ w ∈ a_thxW (11, 539, 543, 5, 7), w ∈ lw_tbl := a_thx_at a_thx_E3
set_option maxRecDepth 100000 in
theorem a_thx_E4 : [(4, 38), (1, 19), (1, 14), (3, 156), (3, 165), (3, 173), (3, 176), (3, 178), (3, 157), (3, 158), (1, 33), (1, 34), (3, 159), (3, 164), (3, 174), (3, 194), (3, 146), (3, 195), (3, 148), (3, 196), (3, 150), (3, 160), (3, 162), (3, 152), (3, 190), (3, 191), (3, 193), (3, 152), (4, 7), (4, 8), (4, 9), (3, 184), (3, 138), (3, 184), (3, 185), (3, 186), (3, 187), (3, 140), (3, 187), (3, 188), (3, 189), (3, 190), (3, 142), (4, 48), (4, 39), (4, 40), (4, 41), (3, 170), (4, 42), (4, 43), (4, 44), (4, 45), (3, 155), (3, 154), (4, 46)].map a_thxF = f_lst some (a_thxW (11, 561, 565, 0, 7)) := by eq_refl
theorem a_thx_in4 : ∀ w ∈ a_thxW (11, 561, 565, 0, 7), w ∈ lw_tbl := a_thx_at a_thx_E4
set_option maxRecDepth 100000 in
theorem a_thx_E5 : [(3, 134), (1, 17), (1, 14), (3, 156), (3, 165), (3, 173), (3, 176), (3, 178), (3, 157), (3, 158), (1, 33), (1, 34), (3, 159), (3, 164), (3, 174), (3, 194), (3, 146), (3, 195), (3, 148), (3, 196), (3, 150), (3, 160), (3, 162), (3, 152), (3, 190), (3, 191), (3, 193), (3, 152), (3, 181), (3, 182), (3, 183), (3, 184), (3, 138), (3, 184), (3, 185), (3, 186), (3, 187), (3, 140), (3, 187), (3, 188), (3, 189), (3, 190), (3, 142), (3, 180), (3, 135), (3, 136), (3, 143), (3, 144), (3, 145), (3, 147), (3, 149), (3, 151), (3, 155), (3, 154), (3, 153)].map a_thxF = f_lst some (a_thxW (11, 94, 98, 1, 7)) := by eq_refl
theorem a_thx_in5 : ∀ w ∈ a_thxW (11, 94, 98, 1, 7), w ∈ lw_tbl := a_thx_at a_thx_E5
theorem a_thx_in {r : Nat × Nat × Nat × Nat × Nat} (h : r ∈ a_thx) : ∀ w ∈ a_thxW r, w ∈ lw_tbl := by
  simp only [a_thx, List.mem_cons, List.not_mem_nil, or_false] at h
  rcases h with rfl | rfl | rfl | rfl | rfl | rfl
  · exact a_thx_in0
  · exact a_thx_in1
  · exact a_thx_in2
  · exact a_thx_in3
  · exact a_thx_in4
  · exact a_thx_in5
theorem a_byt_ok : ∀ r ∈ a_thx, decode (a_byt r.2.2.2.2) 0 = .ok (.aload_n 0, 1) ∧ decode (a_byt r.2.2.2.2) 1 = .ok (.aload_n 1, 1) ∧ decode (a_byt r.2.2.2.2) 2 = .ok (.invokespecial r.2.2.2.2, 3) ∧ decode (a_byt r.2.2.2.2) 5 = .ok (.return_, 1) ∧ r.2.2.2.1 < 6 := by decide +kernel
theorem a_fit : ∀ k, k < 6 → Bundle.fit (a_exN k) = true := by decide +kernel
/-- the row of a throw -/
def a_thk (r : AT) : Option (Nat × Nat × Nat × Nat × Nat) := a_thx.find? fun q => q.1 == r.2.2.1 && (q.2.1 == r.2.2.2.1 && (q.2.2.1 == r.2.2.2.2.2.2.1 && q.2.2.2.1 == r.2.2.2.2.2.2.2.1))
noncomputable def a_thrB (r : AT) : Bool := (a_thk r).isSome && (decide (a_own r.1 = r.2.2.1) && ((a_hnd r.1).isEmpty && (decide (a_ins r.1 r.2.1 = some (.new r.2.2.2.1, 3)) && (decide (a_ins r.1 (r.2.1 + 3) = some (.dup, 1)) &&
  (if r.2.2.2.2.2.1 = true then decide (a_ins r.1 (r.2.1 + 4) = some (.ldc_w r.2.2.2.2.1, 3)) && (decide (a_ins r.1 (r.2.1 + 7) = some (.invokespecial r.2.2.2.2.2.2.1, 3)) && decide (a_ins r.1 (r.2.1 + 10) = some (.athrow, 1)))
  else decide (a_ins r.1 (r.2.1 + 4) = some (.ldc r.2.2.2.2.1, 2)) && (decide (a_ins r.1 (r.2.1 + 6) = some (.invokespecial r.2.2.2.2.2.2.1, 3)) && decide (a_ins r.1 (r.2.1 + 9) = some (.athrow, 1))))))))
theorem a_thr_ok : a_thr.all a_thrB = true := by decide +kernel
