/-! What the tables say, on (wip/g3/fast.py) -/
abbrev AI : Type := Nat × Nat × Nat × (Nat × Nat) × (Nat × Nat) × (Nat × Nat) × (Nat × Nat)
def a_np (mt : Nat) : Option Nat := (parseMethodDescriptor (a_dsc mt)).map (fun d => d.parameters.length)
def a_invB (own : Nat) (e : AI) : Bool := decide (e.2.2.1 < 96) && (a_at e.2.2.2.2.2.2 (.initialized (a_y e.2.2.1).cls) && (match e.2.1 with
  | 0 => a_at e.2.2.2.1 (.methodLink (a_cN own) e.1 (a_y e.2.2.1)) && (a_at e.2.2.2.2.1 (.instanceMethod (a_y e.2.2.1)) && (a_at e.2.2.2.2.2.1 (.selects (a_y e.2.2.1).cls (a_y e.2.2.1) (a_y e.2.2.1)) && (decide ((a_np e.2.2.1).map (· + 1) = some (a_nrg e.2.2.1)) && ((a_hnd e.2.2.1).isEmpty && decide (a_own e.2.2.1 < 12)))))
  | 1 => a_at e.2.2.2.1 (.methodLink (a_cN own) e.1 (a_y e.2.2.1)) && (a_at e.2.2.2.2.1 (.static (a_y e.2.2.1)) && decide (a_np e.2.2.1 = some (a_nrg e.2.2.1)))
  | 2 => a_at e.2.2.2.1 (.methodLink (a_cN own) e.1 (a_y e.2.2.1)) && (a_at e.2.2.2.2.1 (.instanceMethod (a_y e.2.2.1)) && (decide (a_nam e.2.2.1 = "<init>") && (decide (a_rty e.2.2.1 = none) && (decide ((a_np e.2.2.1).map (· + 1) = some (a_nrg e.2.2.1)) && (a_hnd e.2.2.1).isEmpty))))
  | 3 => decide ((a_chs e.2.2.2.1.1)[e.2.2.2.1.2]? = some (.methodLinkNest (a_cN own) e.1 (a_y e.2.2.1) "Juryreel")) && (a_at e.2.2.2.2.1 (.instanceMethod (a_y e.2.2.1)) && (decide (a_nam e.2.2.1 = "<init>") && (decide (a_rty e.2.2.1 = none) && (decide ((a_np e.2.2.1).map (· + 1) = some (a_nrg e.2.2.1)) && (a_hnd e.2.2.1).isEmpty))))
  | _ => false))
def f_npL : List Nat := [0, 2, 0, 2, 1, 2, 1, 2, 2, 2, 2, 1, 2, 3, 1, 1, 2, 2, 2, 0, 0, 1, 0, 3, 1, 2, 0, 2, 0, 2, 1, 0, 0, 0, 1, 3, 2, 2, 1, 3, 1, 2, 1, 1, 0, 5, 0, 0, 5, 0, 2, 0, 0, 0, 3, 1, 2, 2, 3, 2, 1, 1, 2, 5, 1, 1, 1, 0, 3, 1, 1, 1, 2, 1, 1, 1, 3, 0, 3, 1, 1, 0, 0, 2, 4, 2, 3, 4, 3, 2, 3, 6, 2, 2, 2, 3]
def f_npG (mi : Nat) : Option Nat := some (f_npL.getD mi 0)
set_option maxRecDepth 100000 in
theorem f_npE0 : (List.range' 0 16).map a_np = f_lst f_npG (List.range' 0 16) := by eq_refl
set_option maxRecDepth 100000 in
theorem f_npE16 : (List.range' 16 16).map a_np = f_lst f_npG (List.range' 16 16) := by eq_refl
set_option maxRecDepth 100000 in
theorem f_npE32 : (List.range' 32 16).map a_np = f_lst f_npG (List.range' 32 16) := by eq_refl
set_option maxRecDepth 100000 in
theorem f_npE48 : (List.range' 48 16).map a_np = f_lst f_npG (List.range' 48 16) := by eq_refl
set_option maxRecDepth 100000 in
theorem f_npE64 : (List.range' 64 16).map a_np = f_lst f_npG (List.range' 64 16) := by eq_refl
set_option maxRecDepth 100000 in
theorem f_npE80 : (List.range' 80 16).map a_np = f_lst f_npG (List.range' 80 16) := by eq_refl
theorem f_npA {mi : Nat} (h : mi < 96) : a_np mi = f_npG mi := by
  rcases Nat.lt_or_ge mi 16 with q | q
  · exact f_lst_at f_npE0 (List.mem_range'_1.mpr ⟨by omega, by omega⟩)
  rcases Nat.lt_or_ge mi 32 with q | q
  · exact f_lst_at f_npE16 (List.mem_range'_1.mpr ⟨by omega, by omega⟩)
  rcases Nat.lt_or_ge mi 48 with q | q
  · exact f_lst_at f_npE32 (List.mem_range'_1.mpr ⟨by omega, by omega⟩)
  rcases Nat.lt_or_ge mi 64 with q | q
  · exact f_lst_at f_npE48 (List.mem_range'_1.mpr ⟨by omega, by omega⟩)
  rcases Nat.lt_or_ge mi 80 with q | q
  · exact f_lst_at f_npE64 (List.mem_range'_1.mpr ⟨by omega, by omega⟩)
  exact f_lst_at f_npE80 (List.mem_range'_1.mpr ⟨by omega, by omega⟩)
