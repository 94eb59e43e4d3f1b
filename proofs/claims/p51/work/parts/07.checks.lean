/-! The tables' words are among the Statement's -/
def a_at (w : Nat × Nat) (x : Cond) : Bool := decide ((a_chs w.1)[w.2]? = some x) && goodWord x
def a_wG : List Cond := lw_tbl.filter goodWord
theorem a_wG_of {x : Cond} (h : x ∈ lw_tbl) (g : goodWord x = true) : x ∈ a_wG := List.mem_filter.mpr ⟨h, g⟩
theorem a_at_in {w : Nat × Nat} {x : Cond} (h : a_at w x = true) : x ∈ a_wG := by
  unfold a_at at h
  rw [Bool.and_eq_true, decide_eq_true_eq] at h
  exact a_wG_of (a_chs_in (List.mem_of_getElem? h.1)) h.2
theorem a_wG_good : GoodIn a_wG a_wG := fun w hw => ⟨hw, good_of_word (List.mem_filter.mp hw).2⟩
/-- rows of a table of lists, each with the number of its class -/
def a_all {α : Type} (t : List (List α)) (p : Nat → α → Bool) : Bool := t.zipIdx.all fun q => q.1.all (p q.2)
theorem a_all_of {α : Type} {t : List (List α)} {p : Nat → α → Bool} (h : a_all t p = true) {own : Nat} {e : α} (he : e ∈ a_of t own) : p own e = true := by
  unfold a_of at he
  rw [List.getD_eq_getElem?_getD] at he
  cases ht : t[own]? with
  | none => rw [ht] at he; exact absurd he List.not_mem_nil
  | some l =>
    rw [ht] at he
    unfold a_all at h
    rw [List.all_eq_true] at h
    have h1 := h (l, own) (by rw [List.mem_zipIdx_iff_getElem?]; exact ht)
    rw [List.all_eq_true] at h1
    exact h1 e he
def a_fieldW (own : Nat) (e : Nat × Nat × Nat × Nat × Nat) : Bool := a_at e.2.2.2 (.fieldLink (a_cN own) e.1 (a_cN e.2.1) (a_cT e.2.1 e.2.2.1).2.1 (a_cT e.2.1 e.2.2.1).2.2.1) && (decide (e.2.2.1 < a_cl e.2.1) && decide (e.2.1 < 12))
theorem a_at_of {w : Nat × Nat} {x : Cond} (h : (a_chs w.1)[w.2]? = some x) (g : goodWord x = true) : a_at w x = true := by
  unfold a_at
  rw [Bool.and_eq_true, decide_eq_true_eq]
  exact ⟨h, g⟩
/-- a list made otherwise than by map, so that the kernel looks at its members -/
def f_lst {α β : Type} (f : α → β) : List α → List β
  | [] => []
  | a :: l => f a :: f_lst f l
theorem f_lst_map {α β : Type} {f : α → β} : ∀ {l : List α}, f_lst f l = l.map f
  | [] => rfl
  | a :: l => by rw [f_lst, f_lst_map]; rfl
theorem f_lst_at {α β : Type} {f g : α → β} {l : List α} (h : l.map f = f_lst g l) {a : α} (ha : a ∈ l) : f a = g a := by
  rw [f_lst_map] at h
  exact List.map_inj_left.mp h a ha
def f_fldF (e : Nat × Nat × Nat × Nat × Nat) : Option Cond := (a_chs e.2.2.2.1)[e.2.2.2.2]?
def f_fldG (own : Nat) (e : Nat × Nat × Nat × Nat × Nat) : Option Cond := some (.fieldLink (a_cN own) e.1 (a_cN e.2.1) (a_cT e.2.1 e.2.2.1).2.1 (a_cT e.2.1 e.2.2.1).2.2.1)
set_option maxRecDepth 100000 in
theorem f_fldE0 : (a_of a_fld 0).map f_fldF = f_lst (f_fldG 0) (a_of a_fld 0) := by eq_refl
set_option maxRecDepth 100000 in
theorem f_fldE1 : (a_of a_fld 1).map f_fldF = f_lst (f_fldG 1) (a_of a_fld 1) := by eq_refl
set_option maxRecDepth 100000 in
theorem f_fldE2 : (a_of a_fld 2).map f_fldF = f_lst (f_fldG 2) (a_of a_fld 2) := by eq_refl
set_option maxRecDepth 100000 in
theorem f_fldE3 : (a_of a_fld 3).map f_fldF = f_lst (f_fldG 3) (a_of a_fld 3) := by eq_refl
set_option maxRecDepth 100000 in
theorem f_fldE4 : (a_of a_fld 4).map f_fldF = f_lst (f_fldG 4) (a_of a_fld 4) := by eq_refl
set_option maxRecDepth 100000 in
theorem f_fldE5 : (a_of a_fld 5).map f_fldF = f_lst (f_fldG 5) (a_of a_fld 5) := by eq_refl
set_option maxRecDepth 100000 in
theorem f_fldE6 : (a_of a_fld 6).map f_fldF = f_lst (f_fldG 6) (a_of a_fld 6) := by eq_refl
set_option maxRecDepth 100000 in
theorem f_fldE7 : (a_of a_fld 7).map f_fldF = f_lst (f_fldG 7) (a_of a_fld 7) := by eq_refl
set_option maxRecDepth 100000 in
theorem f_fldE8 : (a_of a_fld 8).map f_fldF = f_lst (f_fldG 8) (a_of a_fld 8) := by eq_refl
set_option maxRecDepth 100000 in
theorem f_fldE9 : (a_of a_fld 9).map f_fldF = f_lst (f_fldG 9) (a_of a_fld 9) := by eq_refl
set_option maxRecDepth 100000 in
theorem f_fldE10 : (a_of a_fld 10).map f_fldF = f_lst (f_fldG 10) (a_of a_fld 10) := by eq_refl
set_option maxRecDepth 100000 in
theorem f_fldE11 : (a_of a_fld 11).map f_fldF = f_lst (f_fldG 11) (a_of a_fld 11) := by eq_refl
set_option maxRecDepth 100000 in
theorem f_fldE12 : (a_of a_fld 12).map f_fldF = f_lst (f_fldG 12) (a_of a_fld 12) := by eq_refl
set_option maxRecDepth 100000 in
theorem f_fldE13 : (a_of a_fld 13).map f_fldF = f_lst (f_fldG 13) (a_of a_fld 13) := by eq_refl
def f_fldR (own : Nat) (e : Nat × Nat × Nat × Nat × Nat) : Bool := goodWord (.fieldLink (a_cN own) e.1 (a_cN e.2.1) (a_cT e.2.1 e.2.2.1).2.1 (a_cT e.2.1 e.2.2.1).2.2.1) && (decide (e.2.2.1 < a_cl e.2.1) && decide (e.2.1 < 12))
theorem f_fldRok : a_all a_fld f_fldR = true := by decide +kernel
theorem f_all_in {α : Type} {t : List (List α)} {p : Nat → α → Bool} (n : Nat) (hn : t.length = n) (h : ∀ own, own < n → ∀ e ∈ a_of t own, p own e = true) : a_all t p = true := by
  unfold a_all
  refine List.all_eq_true.mpr fun q hq => List.all_eq_true.mpr fun e he => ?_
  obtain ⟨l, own⟩ := q
  rw [List.mem_zipIdx_iff_getElem?] at hq
  refine h own ?_ e ?_
  · rw [← hn]
    exact (List.getElem?_eq_some_iff.mp hq).1
  · unfold a_of
    rw [List.getD_eq_getElem?_getD]
    have hq : t[own]? = some l := hq
    rw [hq]
    exact he
theorem a_fld_ok : a_all a_fld a_fieldW = true := f_all_in 14 (by decide) fun own ho e he => by
  have r := a_all_of f_fldRok he
  unfold f_fldR at r
  rw [Bool.and_eq_true] at r
  have k : f_fldF e = f_fldG own e := by
    match own, ho with
    | 0, _ => exact f_lst_at f_fldE0 he
    | 1, _ => exact f_lst_at f_fldE1 he
    | 2, _ => exact f_lst_at f_fldE2 he
    | 3, _ => exact f_lst_at f_fldE3 he
    | 4, _ => exact f_lst_at f_fldE4 he
    | 5, _ => exact f_lst_at f_fldE5 he
    | 6, _ => exact f_lst_at f_fldE6 he
    | 7, _ => exact f_lst_at f_fldE7 he
    | 8, _ => exact f_lst_at f_fldE8 he
    | 9, _ => exact f_lst_at f_fldE9 he
    | 10, _ => exact f_lst_at f_fldE10 he
    | 11, _ => exact f_lst_at f_fldE11 he
    | 12, _ => exact f_lst_at f_fldE12 he
    | 13, _ => exact f_lst_at f_fldE13 he
    | n + 14, ho => omega
  unfold a_fieldW
  rw [Bool.and_eq_true]
  exact ⟨a_at_of k r.1, r.2⟩
def a_wsC (c : Nat) : List Cond := u_ws (a_cN c) (a_cT c) (a_cl c)
theorem a_wsC_ok : ∀ c, c < 12 → ∀ w ∈ a_wsC c, w ∈ lw_tbl ∧ goodWord w = true := by decide +kernel
