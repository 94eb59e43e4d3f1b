/-! What the tables say, on (wip/g3/fast.py) -/
noncomputable def f_ivF (e : AI) : List (Option Cond) := match e.2.1 with
  | 0 => [(a_chs e.2.2.2.2.2.2.1)[e.2.2.2.2.2.2.2]?, (a_chs e.2.2.2.1.1)[e.2.2.2.1.2]?, (a_chs e.2.2.2.2.1.1)[e.2.2.2.2.1.2]?, (a_chs e.2.2.2.2.2.1.1)[e.2.2.2.2.2.1.2]?]
  | _ => [(a_chs e.2.2.2.2.2.2.1)[e.2.2.2.2.2.2.2]?, (a_chs e.2.2.2.1.1)[e.2.2.2.1.2]?, (a_chs e.2.2.2.2.1.1)[e.2.2.2.2.1.2]?]
noncomputable def f_ivG (own : Nat) (e : AI) : List (Option Cond) := match e.2.1 with
  | 0 => [some (.initialized (a_y e.2.2.1).cls), some (.methodLink (a_cN own) e.1 (a_y e.2.2.1)), some (.instanceMethod (a_y e.2.2.1)), some (.selects (a_y e.2.2.1).cls (a_y e.2.2.1) (a_y e.2.2.1))]
  | 1 => [some (.initialized (a_y e.2.2.1).cls), some (.methodLink (a_cN own) e.1 (a_y e.2.2.1)), some (.static (a_y e.2.2.1))]
  | 2 => [some (.initialized (a_y e.2.2.1).cls), some (.methodLink (a_cN own) e.1 (a_y e.2.2.1)), some (.instanceMethod (a_y e.2.2.1))]
  | 3 => [some (.initialized (a_y e.2.2.1).cls), some (.methodLinkNest (a_cN own) e.1 (a_y e.2.2.1) "Juryreel"), some (.instanceMethod (a_y e.2.2.1))]
  | _ => []
noncomputable def f_ivR (own : Nat) (e : AI) : Bool := decide (e.2.2.1 < 96) && (goodWord (.initialized (a_y e.2.2.1).cls) && (match e.2.1 with
  | 0 => (goodWord (.methodLink (a_cN own) e.1 (a_y e.2.2.1)) && (goodWord (.instanceMethod (a_y e.2.2.1)) && goodWord (.selects (a_y e.2.2.1).cls (a_y e.2.2.1) (a_y e.2.2.1)))) && (decide ((f_npG e.2.2.1).map (· + 1) = some (a_nrg e.2.2.1)) && ((a_hnd e.2.2.1).isEmpty && decide (a_own e.2.2.1 < 12)))
  | 1 => (goodWord (.methodLink (a_cN own) e.1 (a_y e.2.2.1)) && goodWord (.static (a_y e.2.2.1))) && decide (f_npG e.2.2.1 = some (a_nrg e.2.2.1))
  | 2 => (goodWord (.methodLink (a_cN own) e.1 (a_y e.2.2.1)) && goodWord (.instanceMethod (a_y e.2.2.1))) && (decide (a_nam e.2.2.1 = "<init>") && (decide (a_rty e.2.2.1 = none) && (decide ((f_npG e.2.2.1).map (· + 1) = some (a_nrg e.2.2.1)) && (a_hnd e.2.2.1).isEmpty)))
  | 3 => goodWord (.instanceMethod (a_y e.2.2.1)) && (decide (a_nam e.2.2.1 = "<init>") && (decide (a_rty e.2.2.1 = none) && (decide ((f_npG e.2.2.1).map (· + 1) = some (a_nrg e.2.2.1)) && (a_hnd e.2.2.1).isEmpty)))
  | _ => false))
theorem f_ivRok : a_all a_inv f_ivR = true := by decide +kernel
set_option maxRecDepth 100000 in
theorem f_ivE0 : (a_of a_inv 0).map f_ivF = f_lst (f_ivG 0) (a_of a_inv 0) := by eq_refl
set_option maxRecDepth 100000 in
theorem f_ivE1 : (a_of a_inv 1).map f_ivF = f_lst (f_ivG 1) (a_of a_inv 1) := by eq_refl
set_option maxRecDepth 100000 in
theorem f_ivE2 : (a_of a_inv 2).map f_ivF = f_lst (f_ivG 2) (a_of a_inv 2) := by eq_refl
set_option maxRecDepth 100000 in
theorem f_ivE3 : (a_of a_inv 3).map f_ivF = f_lst (f_ivG 3) (a_of a_inv 3) := by eq_refl
set_option maxRecDepth 100000 in
theorem f_ivE4 : (a_of a_inv 4).map f_ivF = f_lst (f_ivG 4) (a_of a_inv 4) := by eq_refl
set_option maxRecDepth 100000 in
theorem f_ivE5 : (a_of a_inv 5).map f_ivF = f_lst (f_ivG 5) (a_of a_inv 5) := by eq_refl
set_option maxRecDepth 100000 in
theorem f_ivE6 : (a_of a_inv 6).map f_ivF = f_lst (f_ivG 6) (a_of a_inv 6) := by eq_refl
set_option maxRecDepth 100000 in
theorem f_ivE7 : (a_of a_inv 7).map f_ivF = f_lst (f_ivG 7) (a_of a_inv 7) := by eq_refl
set_option maxRecDepth 100000 in
theorem f_ivE8 : (a_of a_inv 8).map f_ivF = f_lst (f_ivG 8) (a_of a_inv 8) := by eq_refl
set_option maxRecDepth 100000 in
theorem f_ivE9 : (a_of a_inv 9).map f_ivF = f_lst (f_ivG 9) (a_of a_inv 9) := by eq_refl
set_option maxRecDepth 100000 in
theorem f_ivE10 : (a_of a_inv 10).map f_ivF = f_lst (f_ivG 10) (a_of a_inv 10) := by eq_refl
set_option maxRecDepth 100000 in
theorem f_ivE11 : (a_of a_inv 11).map f_ivF = f_lst (f_ivG 11) (a_of a_inv 11) := by eq_refl
set_option maxRecDepth 100000 in
theorem f_ivE12 : (a_of a_inv 12).map f_ivF = f_lst (f_ivG 12) (a_of a_inv 12) := by eq_refl
set_option maxRecDepth 100000 in
theorem f_ivE13 : (a_of a_inv 13).map f_ivF = f_lst (f_ivG 13) (a_of a_inv 13) := by eq_refl
theorem a_inv_ok : a_all a_inv a_invB = true := f_all_in 14 (by decide) fun own ho e he => by
  have r := a_all_of f_ivRok he
  have k : f_ivF e = f_ivG own e := by
    match own, ho with
    | 0, _ => exact f_lst_at f_ivE0 he
    | 1, _ => exact f_lst_at f_ivE1 he
    | 2, _ => exact f_lst_at f_ivE2 he
    | 3, _ => exact f_lst_at f_ivE3 he
    | 4, _ => exact f_lst_at f_ivE4 he
    | 5, _ => exact f_lst_at f_ivE5 he
    | 6, _ => exact f_lst_at f_ivE6 he
    | 7, _ => exact f_lst_at f_ivE7 he
    | 8, _ => exact f_lst_at f_ivE8 he
    | 9, _ => exact f_lst_at f_ivE9 he
    | 10, _ => exact f_lst_at f_ivE10 he
    | 11, _ => exact f_lst_at f_ivE11 he
    | 12, _ => exact f_lst_at f_ivE12 he
    | 13, _ => exact f_lst_at f_ivE13 he
    | n + 14, ho => omega
  obtain ⟨idx, kd, mt, w1, w2, w3, w4⟩ := e
  unfold f_ivR at r
  unfold f_ivF f_ivG at k
  unfold a_invB
  dsimp only at r k ⊢
  rw [Bool.and_eq_true, Bool.and_eq_true, decide_eq_true_eq] at r
  obtain ⟨r1, r2, r3⟩ := r
  have np := f_npA r1
  rw [Bool.and_eq_true, Bool.and_eq_true, decide_eq_true_eq]
  match kd, k, r3 with
  | 0, k, r3 =>
    (try dsimp only at k r3 ⊢)
    injection k with k1 k
    injection k with k2 k
    injection k with k3 k
    injection k with k4 k
    simp only [Bool.and_eq_true, decide_eq_true_eq] at r3 ⊢
    rw [np]
    exact ⟨r1, a_at_of k1 r2, a_at_of k2 r3.1.1, a_at_of k3 r3.1.2.1, a_at_of k4 r3.1.2.2, r3.2.1, r3.2.2.1, r3.2.2.2⟩
  | 1, k, r3 =>
    (try dsimp only at k r3 ⊢)
    injection k with k1 k
    injection k with k2 k
    injection k with k3 k
    simp only [Bool.and_eq_true, decide_eq_true_eq] at r3 ⊢
    rw [np]
    exact ⟨r1, a_at_of k1 r2, a_at_of k2 r3.1.1, a_at_of k3 r3.1.2, r3.2⟩
  | 2, k, r3 =>
    (try dsimp only at k r3 ⊢)
    injection k with k1 k
    injection k with k2 k
    injection k with k3 k
    simp only [Bool.and_eq_true, decide_eq_true_eq] at r3 ⊢
    rw [np]
    exact ⟨r1, a_at_of k1 r2, a_at_of k2 r3.1.1, a_at_of k3 r3.1.2, r3.2.1, r3.2.2.1, r3.2.2.2.1, r3.2.2.2.2⟩
  | 3, k, r3 =>
    (try dsimp only at k r3 ⊢)
    injection k with k1 k
    injection k with k2 k
    injection k with k3 k
    simp only [Bool.and_eq_true, decide_eq_true_eq] at r3 ⊢
    rw [np]
    exact ⟨r1, a_at_of k1 r2, k2, a_at_of k3 r3.1, r3.2.1, r3.2.2.1, r3.2.2.2.1, r3.2.2.2.2⟩
  | n + 4, k, r3 => exact absurd r3 (by intro q; cases q)
