/-! What the tables say, on (wip/g3/fast.py) -/
abbrev AI : Type := Nat × Nat × Nat × (Nat × Nat) × (Nat × Nat) × (Nat × Nat) × (Nat × Nat)
def a_np (mt : Nat) : Option Nat := (parseMethodDescriptor (a_dsc mt)).map (fun d => d.parameters.length)
def a_invB (own : Nat) (e : AI) : Bool := decide (e.2.2.1 < 300) && (a_at e.2.2.2.2.2.2 (.initialized (a_y e.2.2.1).cls) && (match e.2.1 with
  | 0 => a_at e.2.2.2.1 (.methodLink (a_cN own) e.1 (a_y e.2.2.1)) && (a_at e.2.2.2.2.1 (.instanceMethod (a_y e.2.2.1)) && (a_at e.2.2.2.2.2.1 (.selects (a_y e.2.2.1).cls (a_y e.2.2.1) (a_y e.2.2.1)) && (decide ((a_np e.2.2.1).map (· + 1) = some (a_nrg e.2.2.1)) && ((a_hnd e.2.2.1).isEmpty && decide (a_own e.2.2.1 < 13)))))
  | 1 => a_at e.2.2.2.1 (.methodLink (a_cN own) e.1 (a_y e.2.2.1)) && (a_at e.2.2.2.2.1 (.static (a_y e.2.2.1)) && decide (a_np e.2.2.1 = some (a_nrg e.2.2.1)))
  | 2 => a_at e.2.2.2.1 (.methodLink (a_cN own) e.1 (a_y e.2.2.1)) && (a_at e.2.2.2.2.1 (.instanceMethod (a_y e.2.2.1)) && (decide (a_nam e.2.2.1 = "<init>") && (decide (a_rty e.2.2.1 = none) && (decide ((a_np e.2.2.1).map (· + 1) = some (a_nrg e.2.2.1)) && (a_hnd e.2.2.1).isEmpty))))
  | 3 => decide ((a_chs e.2.2.2.1.1)[e.2.2.2.1.2]? = some (.methodLinkNest (a_cN own) e.1 (a_y e.2.2.1) "Juryreel")) && (a_at e.2.2.2.2.1 (.instanceMethod (a_y e.2.2.1)) && (decide (a_nam e.2.2.1 = "<init>") && (decide (a_rty e.2.2.1 = none) && (decide ((a_np e.2.2.1).map (· + 1) = some (a_nrg e.2.2.1)) && (a_hnd e.2.2.1).isEmpty))))
  | _ => false))
def f_npL : List Nat := [0, 2, 1, 0, 2, 1, 2, 1, 2, 2, 2, 2, 1, 2, 3, 1, 1, 2, 2, 2, 0, 0, 1, 0, 3, 1, 2, 0, 0, 0, 0, 1, 4, 4, 3, 3, 3, 1, 2, 1, 1, 1, 2, 1, 1, 1, 0, 2, 0, 2, 1, 0, 2, 3, 2, 0, 1, 3, 0, 1, 3, 2, 2, 1, 3, 1, 2, 1, 1, 0, 5, 5, 4, 3, 0, 0, 5, 1, 0, 0, 4, 2, 1, 1, 0, 0, 2, 4, 3, 0, 3, 1, 2, 2, 3, 2, 1, 1, 2, 5, 1, 1, 1, 1, 1, 2, 3, 4, 3, 3, 1, 2, 1, 2, 1, 0, 1, 2, 1, 1, 2, 1, 2, 2, 2, 3, 1, 0, 2, 1, 1, 5, 3, 2, 0, 0, 0, 0, 3, 1, 1, 1, 2, 1, 1, 1, 2, 1, 1, 1, 1, 3, 0, 1, 3, 1, 1, 2, 1, 2, 0, 0, 0, 2, 3, 1, 1, 2, 3, 1, 2, 2, 2, 2, 1, 3, 2, 2, 1, 1, 1, 1, 1, 1, 2, 5, 1, 1, 1, 2, 1, 1, 1, 1, 1, 2, 1, 1, 3, 4, 3, 3, 1, 1, 1, 2, 3, 3, 1, 3, 1, 1, 1, 2, 1, 2, 1, 0, 3, 3, 2, 1, 2, 1, 1, 2, 2, 2, 1, 2, 2, 2, 2, 3, 1, 0, 1, 2, 2, 2, 3, 2, 3, 2, 1, 1, 1, 1, 1, 5, 3, 2, 0, 0, 0, 0, 5, 3, 4, 4, 5, 4, 3, 3, 4, 7, 3, 3, 3, 3, 3, 4, 5, 6, 5, 5, 3, 4, 3, 4, 3, 3, 4, 3, 3, 4, 3, 4, 4, 4, 5, 3, 4, 3, 3, 7, 5, 4, 2, 2]
def f_npG (mi : Nat) : Option Nat := some (f_npL.getD mi 0)
set_option maxRecDepth 100000 in
theorem f_npE0 : (List.range' 0 16).map a_np = f_lst f_npG (List.range' 0 16) := by eq_refl
set_option maxRecDepth 100000 in
theorem f_npE16 : (List.range' 16 16).map a_np = f_lst f_npG (List.range' 16 16) := by eq_refl
set_option maxRecDepth 100000 in
theorem f_npE32 : (List.range' 32 16).map a_np = f_lst f_npG (List.range' 32 16) := by eq_refl
set_option maxRecDepth 100000 in
theorem f_npE48 : (List.range' 48 16).map a_np = f_lst f_npG (List.range' 48 16) := by eq_refl
set_option maxRecDepth 100000 in
theorem f_npE64 : (List.range' 64 16).map a_np = f_lst f_npG (List.range' 64 16) := by eq_refl
set_option maxRecDepth 100000 in
theorem f_npE80 : (List.range' 80 16).map a_np = f_lst f_npG (List.range' 80 16) := by eq_refl
set_option maxRecDepth 100000 in
theorem f_npE96 : (List.range' 96 16).map a_np = f_lst f_npG (List.range' 96 16) := by eq_refl
set_option maxRecDepth 100000 in
theorem f_npE112 : (List.range' 112 16).map a_np = f_lst f_npG (List.range' 112 16) := by eq_refl
set_option maxRecDepth 100000 in
theorem f_npE128 : (List.range' 128 16).map a_np = f_lst f_npG (List.range' 128 16) := by eq_refl
set_option maxRecDepth 100000 in
theorem f_npE144 : (List.range' 144 16).map a_np = f_lst f_npG (List.range' 144 16) := by eq_refl
set_option maxRecDepth 100000 in
theorem f_npE160 : (List.range' 160 16).map a_np = f_lst f_npG (List.range' 160 16) := by eq_refl
set_option maxRecDepth 100000 in
theorem f_npE176 : (List.range' 176 16).map a_np = f_lst f_npG (List.range' 176 16) := by eq_refl
set_option maxRecDepth 100000 in
theorem f_npE192 : (List.range' 192 16).map a_np = f_lst f_npG (List.range' 192 16) := by eq_refl
set_option maxRecDepth 100000 in
theorem f_npE208 : (List.range' 208 16).map a_np = f_lst f_npG (List.range' 208 16) := by eq_refl
set_option maxRecDepth 100000 in
theorem f_npE224 : (List.range' 224 16).map a_np = f_lst f_npG (List.range' 224 16) := by eq_refl
set_option maxRecDepth 100000 in
theorem f_npE240 : (List.range' 240 16).map a_np = f_lst f_npG (List.range' 240 16) := by eq_refl
set_option maxRecDepth 100000 in
theorem f_npE256 : (List.range' 256 16).map a_np = f_lst f_npG (List.range' 256 16) := by eq_refl
set_option maxRecDepth 100000 in
theorem f_npE272 : (List.range' 272 16).map a_np = f_lst f_npG (List.range' 272 16) := by eq_refl
set_option maxRecDepth 100000 in
theorem f_npE288 : (List.range' 288 12).map a_np = f_lst f_npG (List.range' 288 12) := by eq_refl
theorem f_npA {mi : Nat} (h : mi < 300) : a_np mi = f_npG mi := by
  rcases Nat.lt_or_ge mi 16 with q | q
  · exact f_lst_at f_npE0 (List.mem_range'_1.mpr ⟨by omega, by omega⟩)
  rcases Nat.lt_or_ge mi 32 with q | q
  · exact f_lst_at f_npE16 (List.mem_range'_1.mpr ⟨by omega, by omega⟩)
  rcases Nat.lt_or_ge mi 48 with q | q
  · exact f_lst_at f_npE32 (List.mem_range'_1.mpr ⟨by omega, by omega⟩)
  rcases Nat.lt_or_ge mi 64 with q | q
  · exact f_lst_at f_npE48 (List.mem_range'_1.mpr ⟨by omega, by omega⟩)
  rcases Nat.lt_or_ge mi 80 with q | q
  · exact f_lst_at f_npE64 (List.mem_range'_1.mpr ⟨by omega, by omega⟩)
  rcases Nat.lt_or_ge mi 96 with q | q
  · exact f_lst_at f_npE80 (List.mem_range'_1.mpr ⟨by omega, by omega⟩)
  rcases Nat.lt_or_ge mi 112 with q | q
  · exact f_lst_at f_npE96 (List.mem_range'_1.mpr ⟨by omega, by omega⟩)
  rcases Nat.lt_or_ge mi 128 with q | q
  · exact f_lst_at f_npE112 (List.mem_range'_1.mpr ⟨by omega, by omega⟩)
  rcases Nat.lt_or_ge mi 144 with q | q
  · exact f_lst_at f_npE128 (List.mem_range'_1.mpr ⟨by omega, by omega⟩)
  rcases Nat.lt_or_ge mi 160 with q | q
  · exact f_lst_at f_npE144 (List.mem_range'_1.mpr ⟨by omega, by omega⟩)
  rcases Nat.lt_or_ge mi 176 with q | q
  · exact f_lst_at f_npE160 (List.mem_range'_1.mpr ⟨by omega, by omega⟩)
  rcases Nat.lt_or_ge mi 192 with q | q
  · exact f_lst_at f_npE176 (List.mem_range'_1.mpr ⟨by omega, by omega⟩)
  rcases Nat.lt_or_ge mi 208 with q | q
  · exact f_lst_at f_npE192 (List.mem_range'_1.mpr ⟨by omega, by omega⟩)
  rcases Nat.lt_or_ge mi 224 with q | q
  · exact f_lst_at f_npE208 (List.mem_range'_1.mpr ⟨by omega, by omega⟩)
  rcases Nat.lt_or_ge mi 240 with q | q
  · exact f_lst_at f_npE224 (List.mem_range'_1.mpr ⟨by omega, by omega⟩)
  rcases Nat.lt_or_ge mi 256 with q | q
  · exact f_lst_at f_npE240 (List.mem_range'_1.mpr ⟨by omega, by omega⟩)
  rcases Nat.lt_or_ge mi 272 with q | q
  · exact f_lst_at f_npE256 (List.mem_range'_1.mpr ⟨by omega, by omega⟩)
  rcases Nat.lt_or_ge mi 288 with q | q
  · exact f_lst_at f_npE272 (List.mem_range'_1.mpr ⟨by omega, by omega⟩)
  exact f_lst_at f_npE288 (List.mem_range'_1.mpr ⟨by omega, by omega⟩)
