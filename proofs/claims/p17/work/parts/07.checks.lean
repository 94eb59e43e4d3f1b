/-! The tables' words are among the Statement's -/
def a_at (w : Nat × Nat) (x : Cond) : Bool := decide ((a_chs w.1)[w.2]? = some x) && goodWord x
def a_wG : List Cond := lw_tbl.filter goodWord
theorem a_wG_of {x : Cond} (h : x ∈ lw_tbl) (g : goodWord x = true) : x ∈ a_wG := List.mem_filter.mpr ⟨h, g⟩
theorem a_at_in {w : Nat × Nat} {x : Cond} (h : a_at w x = true) : x ∈ a_wG := by
  unfold a_at at h
  rw [Bool.and_eq_true, decide_eq_true_eq] at h
  exact a_wG_of (a_chs_in (List.mem_of_getElem? h.1)) h.2
theorem a_wG_good : GoodIn a_wG a_wG := fun w hw => ⟨hw, good_of_word (List.mem_filter.mp hw).2⟩
/-- rows of a table of lists, each with the number of its class -/
def a_all {α : Type} (t : List (List α)) (p : Nat → α → Bool) : Bool := t.zipIdx.all fun q => q.1.all (p q.2)
theorem a_all_of {α : Type} {t : List (List α)} {p : Nat → α → Bool} (h : a_all t p = true) {own : Nat} {e : α} (he : e ∈ a_of t own) : p own e = true := by
  unfold a_of at he
  rw [List.getD_eq_getElem?_getD] at he
  cases ht : t[own]? with
  | none => rw [ht] at he; exact absurd he List.not_mem_nil
  | some l =>
    rw [ht] at he
    unfold a_all at h
    rw [List.all_eq_true] at h
    have h1 := h (l, own) (by rw [List.mem_zipIdx_iff_getElem?]; exact ht)
    rw [List.all_eq_true] at h1
    exact h1 e he
def a_fieldW (own : Nat) (e : Nat × Nat × Nat × Nat × Nat) : Bool := a_at e.2.2.2 (.fieldLink (a_cN own) e.1 (a_cN e.2.1) (a_cT e.2.1 e.2.2.1).2.1 (a_cT e.2.1 e.2.2.1).2.2.1) && (decide (e.2.2.1 < a_cl e.2.1) && decide (e.2.1 < 13))
theorem a_fld_ok : a_all a_fld a_fieldW = true := by decide +kernel
def a_wsC (c : Nat) : List Cond := u_ws (a_cN c) (a_cT c) (a_cl c)
theorem a_wsC_ok : ∀ c, c < 13 → ∀ w ∈ a_wsC c, w ∈ lw_tbl ∧ goodWord w = true := by decide +kernel
