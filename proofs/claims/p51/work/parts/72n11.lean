/-! The class alone, by program (wip/p51/extract.py) from u04 u05 u05b v01 v02 v03 v04 v05 v06 v07 v08 w01 w02 w03 w04 w05 w06 w07 w09 w40 w41 w42 w43 w44 y01 y02 y03 y04 y05 -/
theorem q_isForm {x : Int} {S : ZS} : v_x_isForm x S = if x = 102 ∨ x = 115 ∨ x = 100 then 1 else 0 := by
  unfold v_x_isForm
  simp only [zb_d, zb_n]
  repeat' split
  all_goals first | rfl | omega
theorem zcnt_sum {p : Int → Bool} : ∀ (j : Nat) (k : Int), zcnt p j k = zsum (fun i => if p i = true then 1 else 0) j k
  | 0, _ => rfl
  | j + 1, k => by rw [zcnt, zsum, zcnt_sum j]
theorem z_post_b {Q : AH → Prop} {C : ZC} {mi f : Nat} {X : ZX} {R : ZR} {k : Int → ZS → ZR} (h : z_post Q C mi f X (e_bind R k)) (hX : ∃ y, X.1.1 = (0, [y])) : R.1.1 = 0 ∧ z_post Q C mi f X (k (R.1.2.getD 0 0) R.2) := by
  unfold e_bind at h
  cases hb : (R.1.1 == 0) with
  | true =>
    rw [hb] at h
    exact ⟨by simpa using hb, h⟩
  | false =>
    rw [hb] at h
    exfalso
    obtain ⟨y, hy⟩ := hX
    have := (h.1 (Nat.mod_lt _ (by decide))).1
    rw [this] at hy
    have hy : ((R.1.1 % 1000, []) : Nat × List Int) = (0, [y]) := hy
    rw [Prod.mk.injEq] at hy
    cases hy.2
theorem z_post_g {Q : AH → Prop} {C : ZC} {mi f pc : Nat} {X : ZX} {L : List Int} {S : ZS} (h : z_post Q C mi f X ((1000 + pc, L), S)) : ∃ f', f' < f ∧ z_goes Q C mi f' pc L S X := by
  obtain ⟨f', h1, h2⟩ := h.2 (Nat.le_add_right _ _)
  refine ⟨f', h1, ?_⟩
  have h2 : z_goes Q C mi f' (1000 + pc - 1000) L S X := h2
  rw [Nat.add_sub_cancel_left] at h2
  exact h2
theorem z_post_r {Q : AH → Prop} {C : ZC} {mi f c : Nat} {X : ZX} {l : List Int} {S : ZS} (hc : c < 1000) (h : z_post Q C mi f X ((c, l), S)) : X.1 = ((c, l), S) := (h.1 hc).1
/-- regions that a method doesn't write -/
def z_dis (W K : List Nat) : Bool := K.all fun r => !(W.contains r)
theorem z_kp.r {nv : Nat} {W : List Nat} {φ : ZFn} (h : z_kp nv W φ) {L : List Int} (hL : L.length = nv) {S : ZS} (h0 : (φ L S).1.1 = 0) {r : Nat} (hr : W.contains r = false) : (φ L S).2 r = S r := by
  funext i j k
  exact h L S hL (by rw [h0]; decide) r i j k hr
theorem z_dis_ok {W K : List Nat} (h : z_dis W K = true) {r : Nat} (hr : r ∈ K) : W.contains r = false := by
  have := List.all_eq_true.mp h r hr
  simpa using this
theorem e_sw_in {x lo : Int} {ts : List ZN} {d : Nat} : e_sw x lo ts d = d ∨ ∃ t ∈ ts, e_sw x lo ts d = t.1 := by
  unfold e_sw
  split
  · exact Or.inl rfl
  · rw [List.getD_eq_getElem?_getD]
    cases h : ts[(x - lo).toNat]? with
    | none => exact Or.inl rfl
    | some t => exact Or.inr ⟨t, List.mem_of_getElem? h, rfl⟩
/-- a bound answer: the value is the one behind -/
theorem e_bind_ok {R : ZR} {k : Int → ZS → ZR} {v : Int} {S2 : ZS} (h : e_bind R k = ((0, [v]), S2)) : R.1.1 = 0 ∧ k (R.1.2.getD 0 0) R.2 = ((0, [v]), S2) := by
  unfold e_bind at h
  cases hb : (R.1.1 == 0) with
  | true =>
    rw [hb] at h
    exact ⟨by simpa using hb, h⟩
  | false =>
    rw [hb] at h
    have h : (((R.1.1 % 1000, []) : Nat × List Int), R.2) = ((0, [v]), S2) := h
    exact absurd (congrArg (fun q => q.1.2) h) (by intro q; cases q)
/-- a boolean's values -/
theorem e_bool {b : Bool} {R R' : ZR} {v : Int} {S2 : ZS} (h : (bif b then R else R') = ((0, [v]), S2)) (h1 : R = ((0, [v]), S2) → v = 0 ∨ v = 1) (h2 : R' = ((0, [v]), S2) → v = 0 ∨ v = 1) : v = 0 ∨ v = 1 := by
  cases b
  · exact h2 h
  · exact h1 h
theorem e_bool0 {S S2 : ZS} {v : Int} (h : (((0, [0]) : Nat × List Int), S) = ((0, [v]), S2)) : v = 0 ∨ v = 1 := by
  cases h
  exact Or.inl rfl
theorem e_bool1 {S S2 : ZS} {v : Int} (h : (((0, [1]) : Nat × List Int), S) = ((0, [v]), S2)) : v = 0 ∨ v = 1 := by
  cases h
  exact Or.inr rfl
def zRel (R : ZS → ZS → Prop) (KC KM : List Nat) : Prop := ∀ {c m c' m' : ZS}, R c m → (∀ r ∈ KC, c' r = c r) → (∀ r ∈ KM, m' r = m r) → R c' m'
def zAnd (R R' : ZS → ZS → Prop) : ZS → ZS → Prop := fun c m => R c m ∧ R' c m
theorem zRel.and {R R' : ZS → ZS → Prop} {KC KM KC' KM' : List Nat} (h : zRel R KC KM) (h' : zRel R' KC' KM') : zRel (zAnd R R') (KC ++ KC') (KM ++ KM') := fun q hc hm => ⟨h q.1 (fun r hr => hc r (List.mem_append_left _ hr)) (fun r hr => hm r (List.mem_append_left _ hr)), h' q.2 (fun r hr => hc r (List.mem_append_right _ hr)) (fun r hr => hm r (List.mem_append_right _ hr))⟩
/-- one call that leaves the relation's regions alone -/
theorem zRel.keep {R : ZS → ZS → Prop} {KC KM : List Nat} (hr : zRel R KC KM) {nv : Nat} {W : List Nat} {φ : ZFn} (h : z_kp nv W φ) {L : List Int} (hL : L.length = nv) {S : ZS} (h0 : (φ L S).1.1 = 0) (hd : z_dis W (KC ++ KM) = true) (hR : R S S) : R (φ L S).2 (φ L S).2 := hr hR (fun r hq => h.r hL h0 (z_dis_ok hd (List.mem_append_left _ hq))) (fun r hq => h.r hL h0 (z_dis_ok hd (List.mem_append_right _ hq)))
def zFsC : List Nat := [r_x_filmCount, r_Film_form, r_Film_minutes, r_Film_stillIs, r_Film_section, r_Film_promise]
/-- a write that a relation doesn't see -/
theorem zRel.uc {R : ZS → ZS → Prop} {KC KM : List Nat} (hr : zRel R KC KM) {c m : ZS} (h : R c m) {q : Nat} {i j k z : Int} (hq : KC.contains q = false) : R (e_upd c q i j k z) m := hr h (fun r hr' => by
  funext x y w
  exact e_un (by
    cases e : r == q with
    | false => rfl
    | true =>
      rw [beq_iff_eq] at e
      rw [e, ← List.contains_iff_mem] at hr'
      rw [hr'] at hq
      cases hq)) (fun _ _ => rfl)
theorem zRel.um {R : ZS → ZS → Prop} {KC KM : List Nat} (hr : zRel R KC KM) {c m : ZS} (h : R c m) {q : Nat} {i j k z : Int} (hq : KM.contains q = false) : R c (e_upd m q i j k z) := hr h (fun _ _ => rfl) (fun r hr' => by
  funext x y w
  exact e_un (by
    cases e : r == q with
    | false => rfl
    | true =>
      rw [beq_iff_eq] at e
      rw [e, ← List.contains_iff_mem] at hr'
      rw [hr'] at hq
      cases hq))
def zlv (w : Int) : Int := if w = 97 then 2 else if w = 108 then 1 else 0
def zmn (a b : Int) : Int := if a < b then a else b
def zpl (x : Int) : Int := if x = 119 then 3 else if x = 108 then 2 else if x = 116 then 1 else if x = 45 then 0 else -1
theorem q_level {x : Int} {S : ZS} : v_x_levelOf x S = zpl x := by
  unfold v_x_levelOf zpl
  simp only [zb_n]
theorem zpl_r {x : Int} : zpl x = -1 ∨ 0 ≤ zpl x := by
  unfold zpl
  repeat' split
  all_goals omega
abbrev zSec (x1 x2 x3 x4 x5 : Int) : Prop := (1 ≤ x1 ∧ x1 ≤ 9) ∧ (1 ≤ x2 ∧ x2 ≤ 2000) ∧ (0 ≤ x3 ∧ x3 ≤ 100) ∧ (x4 = 45 ∨ x4 = 102 ∨ x4 = 115 ∨ x4 = 100) ∧ zpl x5 ≠ -1
def zSeC : List Nat := [r_x_sectionCount, r_Section_quota, r_Section_budget, r_Section_least, r_Section_form, r_Section_premiere]
theorem e_an {S : ZS} {r r' ρ : Nat} {x y sp x' y' dp n i j k : Int} (h : (ρ == r') = false) : e_acp S r x y sp r' x' y' dp n ρ i j k = S ρ i j k := if_neg fun q => by
  rw [q.1, beq_self_eq_true] at h
  cases h
theorem e_as {S : ZS} {r r' : Nat} {x y sp x' y' dp n k : Int} : e_acp S r x y sp r' x' y' dp n r' x' y' k = if dp ≤ k ∧ k < dp + n then S r x y (k - dp + sp) else S r' x' y' k := by
  unfold e_acp
  by_cases h : dp ≤ k ∧ k < dp + n
  · rw [if_pos ⟨rfl, rfl, rfl, h⟩, if_pos h]
  · rw [if_neg (fun q => h q.2.2.2), if_neg h]
def zix (p : Int) : Int := if p < 0 then p + 400 else p
def zArC : List Nat := [r_Archive_lineCount, r_Archive_next, r_Archive_letters, r_Archive_filmOf]
theorem q_next {x : Int} (h0 : 0 ≤ x) (h1 : x < 400) : e_wr ((e_wr (x + 1)) - e_wr (e_div (e_wr (x + 1)) 400 * 400)) = if x = 399 then 0 else x + 1 := by
  rw [e_wr_id (x := x + 1) (by omega) (by omega)]
  unfold e_div
  rw [Int.tdiv_eq_ediv_of_nonneg (by omega)]
  by_cases q : x = 399
  · subst q
    decide
  · have : (x + 1) / 400 = 0 := by omega
    rw [this, if_neg q, e_wr_id (x := (0 : Int)) (by omega) (by omega), Int.zero_mul, e_wr_id (x := (0 : Int)) (by omega) (by omega), Int.sub_zero, e_wr_id (by omega) (by omega)]
theorem q_add {l f : Int} {c : ZS} (n0 : 0 ≤ c r_Archive_lineCount 0 0 0) (n1 : c r_Archive_lineCount 0 0 0 ≤ 400) (x0 : 0 ≤ c r_Archive_next 0 0 0) (x1 : c r_Archive_next 0 0 0 < 400) : f_Archive_add [l, f] c = ((0, []), e_upd (e_upd (e_upd (e_upd c r_Archive_letters 0 0 (c r_Archive_next 0 0 0) (e_nar 2 l)) r_Archive_filmOf 0 0 (c r_Archive_next 0 0 0) f) r_Archive_next 0 0 0 (if c r_Archive_next 0 0 0 = 399 then 0 else c r_Archive_next 0 0 0 + 1)) r_Archive_lineCount 0 0 0 (if c r_Archive_lineCount 0 0 0 = 400 then 400 else c r_Archive_lineCount 0 0 0 + 1)) := by
  unfold f_Archive_add
  dsimp only
  rw [q_next x0 x1, e_wr_id (x := c r_Archive_lineCount 0 0 0 + 1) (by omega) (by omega)]
  by_cases q : c r_Archive_lineCount 0 0 0 = 400
  · rw [if_pos (show 400 < c r_Archive_lineCount 0 0 0 + 1 by omega), if_pos q]
  · rw [if_neg (show ¬ 400 < c r_Archive_lineCount 0 0 0 + 1 by omega), if_neg q]
theorem q_add0 {l f : Int} {c : ZS} : f_Archive_add [l, f] c = ((0, []), (f_Archive_add [l, f] c).2) := rfl
theorem q_add_o {l f : Int} {c : ZS} {r : Nat} (hr : zArC.contains r = false) : (f_Archive_add [l, f] c).2 r = c r := by
  funext i j k
  have h1 : (r == r_Archive_lineCount) = false := by
    cases e : r == r_Archive_lineCount with
    | false => rfl
    | true => rw [beq_iff_eq] at e; rw [e] at hr; exact absurd hr (by decide)
  have h2 : (r == r_Archive_letters) = false := by
    cases e : r == r_Archive_letters with
    | false => rfl
    | true => rw [beq_iff_eq] at e; rw [e] at hr; exact absurd hr (by decide)
  have h3 : (r == r_Archive_filmOf) = false := by
    cases e : r == r_Archive_filmOf with
    | false => rfl
    | true => rw [beq_iff_eq] at e; rw [e] at hr; exact absurd hr (by decide)
  have h4 : (r == r_Archive_next) = false := by
    cases e : r == r_Archive_next with
    | false => rfl
    | true => rw [beq_iff_eq] at e; rw [e] at hr; exact absurd hr (by decide)
  show e_upd _ _ _ _ _ _ r i j k = _
  rw [e_un h1, e_un h4, e_un h3, e_un h2]
def zany (p : Int → Bool) : Nat → Int → Bool
  | 0, _ => false
  | j + 1, k => p k || zany p j (k + 1)
theorem zany_iff {p : Int → Bool} : ∀ (j : Nat) (k : Int), zany p j k = true ↔ ∃ i, k ≤ i ∧ i < k + j ∧ p i = true
  | 0, k => by
    rw [zany]
    exact ⟨fun h => absurd h (by decide), fun ⟨i, h1, h2, _⟩ => by omega⟩
  | j + 1, k => by
    rw [zany, Bool.or_eq_true, zany_iff j (k + 1)]
    constructor
    · rintro (h | ⟨i, h1, h2, h3⟩)
      · exact ⟨k, by omega, by omega, h⟩
      · exact ⟨i, by omega, by omega, h3⟩
    · rintro ⟨i, h1, h2, h3⟩
      by_cases e : i = k
      · exact Or.inl (e ▸ h3)
      · exact Or.inr ⟨i, by omega, by omega, h3⟩
theorem zany_cg {p q : Int → Bool} : ∀ (j : Nat) (k : Int), (∀ i, k ≤ i → i < k + j → p i = q i) → zany p j k = zany q j k
  | 0, _, _ => rfl
  | j + 1, k, h => by rw [zany, zany, h k (Int.le_refl _) (by omega), zany_cg j (k + 1) (fun i a b => h i (by omega) (by omega))]
/-- a loop that ends at the first -/
theorem zl_any {n : Int} {p : Int → Bool} {A B : ZR} {G : Int → ZR} (hE : ∀ k, k = n → G k = B) (hG : ∀ k, 0 ≤ k → k < n → G k = if p k = true then A else G (k + 1)) : ∀ (j : Nat) (k : Int), 0 ≤ k → k + j = n → G k = if zany p j k = true then A else B
  | 0, k, h1, h2 => by
    rw [hE k (by omega), zany, if_neg (by decide)]
  | j + 1, k, h1, h2 => by
    rw [hG k h1 (by omega), zany, zl_any hE hG j (k + 1) (by omega) (by omega)]
    cases p k
    · rw [if_neg (by decide), Bool.false_or]
    · rw [if_pos rfl, Bool.true_or, if_pos rfl]
/-- a loop that goes on and sets -/
theorem zl_set {n z : Int} {p : Int → Bool} {P : Int → Prop} (hz : P z) {fin : Int → ZR} {G : Int → Int → ZR} (hE : ∀ x k, k = n → P x → G x k = fin x) (hG : ∀ x k, 0 ≤ k → k < n → P x → G x k = G (if p k = true then z else x) (k + 1)) : ∀ (j : Nat) (x k : Int), 0 ≤ k → k + j = n → P x → G x k = fin (if zany p j k = true then z else x)
  | 0, x, k, h1, h2, h3 => by
    rw [hE x k (by omega) h3, zany, if_neg (by decide)]
  | j + 1, x, k, h1, h2, h3 => by
    rw [hG x k h1 (by omega) h3, zany]
    cases p k
    · rw [if_neg (by decide), Bool.false_or]
      exact zl_set hz hE hG j x (k + 1) (by omega) (by omega) h3
    · rw [if_pos rfl, Bool.true_or, if_pos rfl, zl_set hz hE hG j z (k + 1) (by omega) (by omega) hz]
      congr 1
      split <;> rfl
def zbit (x : Int) : Prop := x = 0 ∨ x = 1
theorem zbit0 : zbit 0 := Or.inl rfl
theorem zbit1 : zbit 1 := Or.inr rfl
theorem e_or0 {x : Int} (h : zbit x) : e_or x 0 = x := by
  rcases h with rfl | rfl <;> decide +kernel
theorem e_or1 {x : Int} (h : zbit x) : e_or x 1 = 1 := by
  rcases h with rfl | rfl <;> decide +kernel
theorem e_and0 {x : Int} (h : zbit x) : e_and x 0 = 0 := by
  rcases h with rfl | rfl <;> decide +kernel
theorem e_and1 {x : Int} (h : zbit x) : e_and x 1 = x := by
  rcases h with rfl | rfl <;> decide +kernel
def zb (b : Bool) : Int := if b = true then 1 else 0
theorem zb_bit {b : Bool} : zbit (zb b) := by
  cases b
  · exact zbit0
  · exact zbit1
theorem zb0 {b : Bool} : zb b = 0 ↔ b = false := by
  cases b <;> decide
/-- the states behind an entry of the archive -/
def zcA (l f : Int) (c : ZS) : ZS := (f_Archive_add [l, f] c).2
theorem q_zcA {l f : Int} {c : ZS} : f_Archive_add [l, f] c = ((0, []), zcA l f c) := rfl
theorem zcA_o {l f : Int} {c : ZS} {r : Nat} (hr : zArC.contains r = false) : (zcA l f c) r = c r := q_add_o hr
def z_nin (K W : List Nat) : Bool := K.all fun r => !(W.contains r)
theorem z_nin_ok {K W : List Nat} (h : z_nin K W = true) {r : Nat} (hr : r ∈ K) : W.contains r = false := by
  have := List.all_eq_true.mp h r hr
  simpa using this
theorem zRel.zcA {R : ZS → ZS → Prop} {KC KM : List Nat} (hr : zRel R KC KM) (hd : z_nin KC zArC = true) {l f : Int} {c m : ZS} (h : R c m) : R (zcA l f c) m := hr h (fun r hq => zcA_o (z_nin_ok hd hq)) (fun _ _ => rfl)
/-- both sides give one value and leave their states as they are -/
def zV (A B : ZR) (c m : ZS) : Prop := ∃ v, A = ((0, [v]), c) ∧ B = ((0, [v]), m)

def zWdC : List Nat := [r_Film_isWithdrawn]
def zSwC : List Nat := [r_Grid_showCount, r_Show_film, r_Show_screen, r_Show_first, r_Show_length, r_Show_cause, r_x_filmCount, r_Film_minutes]
def zToM : List Nat := []
def zSsC : List Nat := [r_Show_isSeated]
def zln (c : ZS) (f : Int) : Int := if 150 < c r_Film_minutes f 0 0 then 2 else 1
theorem zln_r {c : ZS} {f : Int} : 1 ≤ zln c f ∧ zln c f ≤ 2 := by
  unfold zln
  split <;> omega
/-- whether a show is one of a time from x on, so long -/
def zin (c : ZS) (i x n : Int) : Bool := decide (c r_Show_cause i 0 0 = 45 ∧ c r_Show_first i 0 0 < x + n ∧ x < c r_Show_first i 0 0 + zln c (c r_Show_film i 0 0))
theorem q_section {s : Int} {S : ZS} (h0 : 0 ≤ S r_x_sectionCount 0 0 0) (h1 : S r_x_sectionCount 0 0 0 ≤ 1000) : f_x_checkSection [s] S = if 0 ≤ s ∧ s < S r_x_sectionCount 0 0 0 then ((0, []), S) else ((1, []), S) := by
  show e_bind (f_x_checkNumber [s, S r_x_sectionCount 0 0 0] S) (fun _ S1 => ((0, []), S1)) = _
  rw [q_num h0 h1, e_b_if]
  rfl
theorem zif0 {p : Prop} [Decidable p] : ((if p then (1 : Int) else 0) = 0) ↔ ¬ p := by
  by_cases h : p <;> simp [h]
/-- a show hinders a film on a screen, whatever the time -/
def zhd (c : ZS) (f s i : Int) : Bool := decide (c r_Show_screen i 0 0 = s ∨ c r_Show_film i 0 0 = f ∨ c r_Film_section (c r_Show_film i 0 0) 0 0 = c r_Film_section f 0 0)
def zhin (c : ZS) (f s x n i : Int) : Bool := zin c i x n && zhd c f s i
def zfre (c : ZS) (f s x n : Int) : Bool := !zany (zhin c f s x n) (c r_Grid_showCount 0 0 0).toNat 0
theorem zfre1 {c : ZS} {f s x : Int} : zfre c f s x 1 = !zany (zhin c f s x 1) (c r_Grid_showCount 0 0 0).toNat 0 := rfl
theorem zfre2 {c : ZS} {f s x : Int} : zfre c f s x 2 = (!zany (zhin c f s x 1) (c r_Grid_showCount 0 0 0).toNat 0 && !zany (zhin c f s (x + 1) 1) (c r_Grid_showCount 0 0 0).toNat 0) := by
  have e : zany (zhin c f s x 2) (c r_Grid_showCount 0 0 0).toNat 0 = (zany (zhin c f s x 1) (c r_Grid_showCount 0 0 0).toNat 0 || zany (zhin c f s (x + 1) 1) (c r_Grid_showCount 0 0 0).toNat 0) := by
    have hi : ∀ i, zhin c f s x 2 i = (zhin c f s x 1 i || zhin c f s (x + 1) 1 i) := fun i => by
      have hr := zln_r (c := c) (f := c r_Show_film i 0 0)
      unfold zhin zin
      rw [← Bool.and_or_distrib_right, ← Bool.decide_or]
      congr 1
      apply decide_eq_decide.mpr
      omega
    rw [Bool.eq_iff_iff, Bool.or_eq_true, zany_iff, zany_iff, zany_iff]
    constructor
    · rintro ⟨i, h1, h2, h3⟩
      rw [hi, Bool.or_eq_true] at h3
      rcases h3 with h3 | h3
      · exact Or.inl ⟨i, h1, h2, h3⟩
      · exact Or.inr ⟨i, h1, h2, h3⟩
    · rintro (⟨i, h1, h2, h3⟩ | ⟨i, h1, h2, h3⟩)
      · exact ⟨i, h1, h2, by rw [hi, h3, Bool.true_or]⟩
      · exact ⟨i, h1, h2, by rw [hi, h3, Bool.or_true]⟩
  unfold zfre
  rw [e, Bool.not_or]
/-- the states behind a show that is set -/
def zsC (f s x : Int) (c : ZS) : ZS := zcA 115 f (e_upd (e_upd (e_upd (e_upd (e_upd c r_Show_film (c r_Grid_showCount 0 0 0) 0 0 f) r_Show_screen (c r_Grid_showCount 0 0 0) 0 0 s) r_Show_first (c r_Grid_showCount 0 0 0) 0 0 x) r_Show_length (c r_Grid_showCount 0 0 0) 0 0 (zln c f)) r_Grid_showCount 0 0 0 (c r_Grid_showCount 0 0 0 + 1))
theorem zsC_o {f s x : Int} {c : ZS} {r : Nat} (h : ([r_Show_film, r_Show_screen, r_Show_first, r_Show_length, r_Grid_showCount] ++ zArC).contains r = false) : (zsC f s x c) r = c r := by
  have hn : ∀ q, q ∈ [r_Show_film, r_Show_screen, r_Show_first, r_Show_length, r_Grid_showCount] ++ zArC → (r == q) = false := fun q hq => by
    cases e : r == q with
    | false => rfl
    | true =>
      rw [beq_iff_eq] at e
      rw [e, ← Bool.not_eq_true] at h
      exact absurd (List.contains_iff_mem.mpr hq) h
  unfold zsC
  rw [zcA_o (by
    cases e : zArC.contains r with
    | false => rfl
    | true =>
      exfalso
      rw [List.contains_iff_mem] at e
      have := hn r (List.mem_append_right _ e)
      rw [beq_self_eq_true] at this
      cases this)]
  funext i j k
  rw [e_un (hn _ (by decide)), e_un (hn _ (by decide)), e_un (hn _ (by decide)), e_un (hn _ (by decide)), e_un (hn _ (by decide))]
/-- what a call that sets shows leaves as it is -/
def zsW : List Nat := [r_Show_film, r_Show_screen, r_Show_first, r_Show_length, r_Grid_showCount] ++ zArC
noncomputable def zSc (c : ZS) (f : Int) : Int := (f_Readings_meanOfEven [f] c).1.2.getD 0 0
def zTd (c : ZS) (f : Int) : Bool := decide (0 < zcnt (fun k => decide (0 ≤ c r_Readings_marks_r f 0 k)) (c r_Readings_readerCount 0 0 0).toNat 0)
theorem q_chosen {c : ZS} {f V s : Int} (h : f_x_canBeChosen [f, V, s] c = ((0, [1]), c)) : c r_Film_section f 0 0 = -1 ∧ c r_Film_isWithdrawn f 0 0 = 0 := by
  unfold f_x_canBeChosen at h
  dsimp only at h
  rw [zb_n] at h
  by_cases q1 : c r_Film_section f 0 0 = -1
  · rw [if_pos q1, zb_n] at h
    by_cases q2 : c r_Film_isWithdrawn f 0 0 = 0
    · exact ⟨q1, q2⟩
    · rw [if_neg q2] at h
      have h2 : (0 : Int) = 1 := congrArg (fun q : ZR => q.1.2.getD 0 0) h
      omega
  · rw [if_neg q1] at h
    have h2 : (0 : Int) = 1 := congrArg (fun q : ZR => q.1.2.getD 0 0) h
    omega
def zIv (I Q : Nat → List Int → ZS → Prop) (R : ZR) : Prop := (R.1.1 < 1000 → R.1.1 ≠ 999 → Q R.1.1 R.1.2 R.2) ∧ (1000 ≤ R.1.1 → I (R.1.1 - 1000) R.1.2 R.2)
theorem z_psi_inv {st : Nat → List Int → ZS → ZR} {I Q : Nat → List Int → ZS → Prop} (h : ∀ pc L S, I pc L S → zIv I Q (st pc L S)) {R : ZR} (hR : zIv I Q R) (hc : (z_psi st R).1.1 ≠ 999) : Q (z_psi st R).1.1 (z_psi st R).1.2 (z_psi st R).2 := by
  have it : ∀ (n : Nat) (R : ZR), zIv I Q R → (z_it st n R).1.1 < 1000 → (z_it st n R).1.1 ≠ 999 → Q (z_it st n R).1.1 (z_it st n R).1.2 (z_it st n R).2 := by
    intro n
    induction n with
    | zero =>
      intro R hR h1 h2
      exact hR.1 h1 h2
    | succ n ih =>
      intro R hR h1 h2
      by_cases c : R.1.1 < 1000
      · rw [z_it_fin c] at h1 h2 ⊢
        exact hR.1 h1 h2
      · rw [z_it_go c] at h1 h2 ⊢
        exact ih _ (h _ _ _ (hR.2 (by omega))) h1 h2
  by_cases q : ∃ n, (z_it st n R).1.1 < 1000
  · obtain ⟨n, hn⟩ := q
    rw [z_psi_of hn] at hc ⊢
    exact it n R hR hn hc
  · exfalso
    apply hc
    unfold z_psi
    rw [dif_neg q]
section
variable {I Q : Nat → List Int → ZS → Prop}
theorem zIv.e {k : Nat} {l : List Int} {S : ZS} (hk : k < 1000) (h : Q k l S) : zIv I Q ((k, l), S) := ⟨fun _ _ => h, fun h' => by
  have h' : 1000 ≤ k := h'
  omega⟩
theorem zIv.c {pc : Nat} {L : List Int} {S : ZS} (h : I pc L S) : zIv I Q ((1000 + pc, L), S) := ⟨fun h' => by
  have h' : 1000 + pc < 1000 := h'
  omega, fun _ => by
  show I (1000 + pc - 1000) L S
  rw [Nat.add_sub_cancel_left]
  exact h⟩
theorem zIv.b {R : ZR} {k : Int → ZS → ZR} (h0 : R.1.1 = 0 → zIv I Q (k (R.1.2.getD 0 0) R.2)) (h1 : R.1.1 ≠ 0 → R.1.1 % 1000 ≠ 999 → Q (R.1.1 % 1000) [] R.2) : zIv I Q (e_bind R k) := by
  unfold e_bind
  cases hb : (R.1.1 == 0) with
  | true => exact h0 (by simpa using hb)
  | false =>
    have hn : R.1.1 ≠ 0 := by simpa using hb
    refine ⟨fun _ h => h1 hn h, fun h => ?_⟩
    have h : 1000 ≤ R.1.1 % 1000 := h
    omega
theorem zIv.i {p : Prop} [Decidable p] {A B : ZR} (h1 : p → zIv I Q A) (h2 : ¬ p → zIv I Q B) : zIv I Q (if p then A else B) := by
  split
  · exact h1 ‹_›
  · exact h2 ‹_›
theorem zIv.out {R : ZR} (h : zIv (fun _ _ _ => False) Q R) (hc : R.1.1 ≠ 999) : Q R.1.1 R.1.2 R.2 := h.1 (by
  by_cases q : R.1.1 < 1000
  · exact q
  · exact absurd (h.2 (by omega)) id) hc
end
theorem e_tr_s {c : Nat} {S : ZS} : ∀ (hs : List (Nat × Int)), (e_tr c S hs).2 = S
  | [] => rfl
  | e :: t => by
    rw [e_tr]
    cases (e.1 + 1 == c)
    · exact e_tr_s t
    · rfl
theorem e_tr_9 {S : ZS} : ∀ (hs : List (Nat × Int)), (hs.all fun e => decide (e.1 < 900)) = true → (e_tr 999 S hs).1.1 = 999
  | [], _ => rfl
  | e :: t, h => by
    rw [List.all_cons, Bool.and_eq_true, decide_eq_true_eq] at h
    rw [e_tr]
    have q : (e.1 + 1 == 999) = false := by
      rw [beq_eq_false_iff_ne]
      omega
    rw [q]
    exact e_tr_9 t h.2
/-- a relation between the states before and behind that goes through a wrapper -/
theorem zIv.t {T : ZS → ZS → Prop} {S0 : ZS} {R : ZR} {k : Int → ZS → ZR} {hs : List (Nat × Int)} (hh : (hs.all fun e => decide (e.1 < 900)) = true) (hR : R.1.1 ≠ 999 → T S0 R.2) (hk : ∀ v S1, T S0 S1 → T S0 (k v S1).2) (hc : (e_try R k hs).1.1 ≠ 999) : T S0 (e_try R k hs).2 := by
  unfold e_try at hc ⊢
  cases hb : (R.1.1 == 0) with
  | true =>
    have h0 : R.1.1 = 0 := by simpa using hb
    exact hk _ _ (hR (by rw [h0]; decide))
  | false =>
    rw [hb] at hc
    have h9 : R.1.1 ≠ 999 := fun q => by
      rw [q] at hc
      exact hc (e_tr_9 hs hh)
    show T S0 (e_tr R.1.1 R.2 hs).2
    rw [e_tr_s]
    exact hR h9
/-- shows stay what they are, and what is gone stays gone -/
def zG (S S' : ZS) : Prop := S r_Grid_showCount 0 0 0 ≤ S' r_Grid_showCount 0 0 0 ∧ ∀ i, 0 ≤ i → i < S r_Grid_showCount 0 0 0 → S' r_Show_film i 0 0 = S r_Show_film i 0 0 ∧ S' r_Show_screen i 0 0 = S r_Show_screen i 0 0 ∧ S' r_Show_first i 0 0 = S r_Show_first i 0 0 ∧ S' r_Show_length i 0 0 = S r_Show_length i 0 0 ∧ (S' r_Show_cause i 0 0 = 45 → S r_Show_cause i 0 0 = 45)
def zGK : List Nat := [r_Grid_showCount, r_Show_film, r_Show_screen, r_Show_first, r_Show_length, r_Show_cause]
theorem zG.of {S S' : ZS} (h : ∀ r ∈ zGK, S' r = S r) : zG S S' := by
  unfold zG
  rw [h r_Grid_showCount (by decide), h r_Show_film (by decide), h r_Show_screen (by decide), h r_Show_first (by decide), h r_Show_length (by decide), h r_Show_cause (by decide)]
  exact ⟨Int.le_refl _, fun i _ _ => ⟨rfl, rfl, rfl, rfl, fun h => h⟩⟩
theorem zG.refl {S : ZS} : zG S S := zG.of (fun _ _ => rfl)
theorem zG.trans {S S' S2 : ZS} (h : zG S S') (h' : zG S' S2) : zG S S2 := ⟨Int.le_trans h.1 h'.1, fun i i0 i1 => by
  obtain ⟨a1, a2, a3, a4, a5⟩ := h.2 i i0 i1
  have := h.1
  obtain ⟨b1, b2, b3, b4, b5⟩ := h'.2 i i0 (by omega)
  exact ⟨b1.trans a1, b2.trans a2, b3.trans a3, b4.trans a4, fun q => a5 (b5 q)⟩⟩
theorem zG.kp {nv : Nat} {W : List Nat} {φ : ZFn} (h : z_kp nv W φ) (hd : z_dis W zGK = true) {L : List Int} {S : ZS} (hL : L.length = nv) (hc : (φ L S).1.1 ≠ 999) : zG S (φ L S).2 := zG.of (fun r hr => funext fun i => funext fun j => funext fun k => h L S hL hc r i j k (z_dis_ok hd hr))
theorem zG.u {S S' : ZS} (h : zG S S') {r : Nat} {i j k z : Int} (hr : zGK.contains r = false) : zG S (e_upd S' r i j k z) := h.trans (zG.of fun r' hr' => funext fun a => funext fun b => funext fun d => e_un (by
  cases e : r' == r with
  | false => rfl
  | true =>
    rw [beq_iff_eq] at e
    rw [e] at hr'
    rw [List.contains_iff_mem.mpr hr'] at hr
    cases hr))
theorem zG.b {I : Nat → List Int → ZS → Prop} {S0 S' : ZS} {R : ZR} {k : Int → ZS → ZR} (hR : R.1.1 ≠ 999 → zG S' R.2) (hG : zG S0 S') (h0 : ∀ v S1, zG S0 S1 → zIv I (fun _ _ S => zG S0 S) (k v S1)) : zIv I (fun _ _ S => zG S0 S) (e_bind R k) := zIv.b (fun h => h0 _ _ (hG.trans (hR (by rw [h]; decide)))) (fun _ h => hG.trans (hR (fun q => by rw [q] at h; exact h (by decide))))
theorem e_wr_up {x : Int} (h : x < 60) : x ≤ e_wr (x + 1) := by
  by_cases q : -2147483648 ≤ x + 1
  · rw [e_wr_id q (by omega)]
    omega
  · have : -((2 ^ 32 : Nat) / 2 : Int) ≤ e_wr (x + 1) := Int.le_bmod (by decide)
    have e : ((2 ^ 32 : Nat) / 2 : Int) = 2147483648 := by decide
    rw [e] at this
    omega
theorem zcnt_no {p : Int → Bool} : ∀ (j : Nat) (k : Int), (∀ i, k ≤ i → i < k + j → p i = false) → zcnt p j k = 0
  | 0, _, _ => rfl
  | j + 1, k, h => by
    rw [zcnt, h k (Int.le_refl _) (by omega), if_neg (by decide), zcnt_no j (k + 1) (fun i a b => h i (by omega) (by omega))]
    rfl
theorem zcnt_more {p q : Int → Bool} {b : Int} : ∀ (j : Nat) (k : Int), (∀ i, k ≤ i → i < k + j → i ≠ b → q i = p i) → zcnt q j k ≤ zcnt p j k + 1
  | 0, _, _ => by
    rw [zcnt, zcnt]
    decide
  | j + 1, k, h => by
    rw [zcnt, zcnt]
    by_cases e : k = b
    · rw [zcnt_cg (p := q) (q := p) j (k + 1) (fun i a c => h i (by omega) (by omega) (by omega))]
      split <;> split <;> omega
    · have := zcnt_more (p := p) (q := q) (b := b) j (k + 1) (fun i a c => h i (by omega) (by omega))
      rw [h k (Int.le_refl _) (by omega) e]
      omega
/-- how many have a seat -/
def zsc (c : ZS) (i : Int) : Int := zcnt (fun p => !decide (c r_Show_isSeated i 0 p = 0)) 16 0
/-- two shows that stand have an hour together -/
def zlap (c : ZS) (i j : Int) : Prop := c r_Show_cause i 0 0 = 45 ∧ c r_Show_cause j 0 0 = 45 ∧ c r_Show_first i 0 0 < c r_Show_first j 0 0 + c r_Show_length j 0 0 ∧ c r_Show_first j 0 0 < c r_Show_first i 0 0 + c r_Show_length i 0 0
def zKsM : List Nat := []
/-- seats given to those that wait for one show -/
def zSg (c : ZS) (s w : Int) (g : Int) (S : ZS) : Prop := (∀ r, [r_Show_isSeated].contains r = false → S r = c r) ∧ (∀ i p, i ≠ s → S r_Show_isSeated i 0 p = c r_Show_isSeated i 0 p) ∧ (0 ≤ g ∧ g ≤ w) ∧ zsc S s ≤ g ∧ ∀ i p, 0 ≤ i → i < c r_Grid_showCount 0 0 0 → i ≠ s → 0 ≤ p → p < 16 → zlap c i s → S r_Show_isSeated s 0 p = 0 ∨ c r_Show_isSeated i 0 p = 0
theorem q_countSeats {c : ZS} {i : Int} : f_Show_countSeats [i] c = ((0, [zsc c i]), c) := by
  show g_Show_countSeats ((1000, [i]), c) = _
  rw [g_Show_countSeats_0]
  refine (zl_cnt (n := 16) (p := fun p => !decide (c r_Show_isSeated i 0 p = 0)) (fin := fun x => ((0, [x]), c)) (G := fun x k => g_Show_countSeats ((1004, [i, x, k]), c)) (fun x k e => ?_) (fun x k k0 k1 x0 x1 => ?_) 16 0 0 (Int.le_refl _) (by decide) (Int.le_refl _) (Int.le_refl _)).trans ?_
  · rw [g_Show_countSeats_4, zb_d, if_pos (by omega)]
  · have hk : e_wr (k + 1) = k + 1 := e_wr_id (by omega) (by omega)
    have hx : e_wr (x + 1) = x + 1 := e_wr_id (by omega) (by omega)
    rw [g_Show_countSeats_4, zb_d, if_neg (by omega), zb_d, hk, hx]
    by_cases q : c r_Show_isSeated i 0 k = 0
    · rw [if_pos q, decide_eq_true q, if_neg (by decide)]
    · rw [if_neg q, decide_eq_false q, if_pos (by rfl)]
  · rw [Int.zero_add]
    rfl
theorem zsum_no {w : Int → Int} : ∀ (j : Nat) (k : Int), (∀ i, k ≤ i → i < k + j → w i = 0) → zsum w j k = 0
  | 0, _, _ => rfl
  | j + 1, k, h => by
    rw [zsum, h k (Int.le_refl _) (by omega), zsum_no j (k + 1) (fun i a b => h i (by omega) (by omega))]
    rfl
theorem zsum_mono {v w : Int → Int} : ∀ (j : Nat) (k : Int), (∀ i, k ≤ i → i < k + j → v i ≤ w i) → zsum v j k ≤ zsum w j k
  | 0, _, _ => Int.le_refl _
  | j + 1, k, h => by
    have h1 := h k (Int.le_refl _) (by omega)
    have h2 := zsum_mono (v := v) (w := w) j (k + 1) (fun i a b => h i (by omega) (by omega))
    rw [zsum, zsum]
    omega
def zKn (c : ZS) (k : Int) : Int := zcnt (fun f => decide (c r_Film_section f 0 0 = k)) (c r_x_filmCount 0 0 0).toNat 0
def zKm (c : ZS) (k : Int) : Int := zsum (fun f => if c r_Film_section f 0 0 = k then c r_Film_minutes f 0 0 else 0) (c r_x_filmCount 0 0 0).toNat 0
def zKq (c _m : ZS) : Prop := ((0 ≤ c r_x_filmCount 0 0 0 ∧ c r_x_filmCount 0 0 0 ≤ 20) ∧ 0 ≤ c r_x_sectionCount 0 0 0 ∧ c r_x_sectionCount 0 0 0 ≤ 5) ∧ (∀ f, 0 ≤ f → f < c r_x_filmCount 0 0 0 → (0 ≤ c r_Film_minutes f 0 0 ∧ c r_Film_minutes f 0 0 ≤ 300) ∧ c r_Film_section f 0 0 < c r_x_sectionCount 0 0 0) ∧ ∀ k, 0 ≤ k → k < c r_x_sectionCount 0 0 0 → zKn c k ≤ c r_Section_quota k 0 0 ∧ zKm c k ≤ c r_Section_budget k 0 0
def zKqC : List Nat := [r_x_filmCount, r_x_sectionCount, r_Film_minutes, r_Film_section, r_Section_quota, r_Section_budget]
def zKqM : List Nat := []
theorem zKq_rel : zRel zKq zKqC zKqM := fun {c m c' m'} h hc hm => by
  unfold zKq zKn zKm
  rw [hc r_x_filmCount (by decide), hc r_x_sectionCount (by decide), hc r_Film_minutes (by decide), hc r_Film_section (by decide), hc r_Section_quota (by decide), hc r_Section_budget (by decide)]
  exact h
theorem zRel.kpC {R : ZS → ZS → Prop} {KC KM : List Nat} (hr : zRel R KC KM) {nv : Nat} {W : List Nat} {φ : ZFn} (h : z_kp nv W φ) (hd : z_dis W KC = true) {L : List Int} {S m : ZS} (hL : L.length = nv) (hR : R S m) (hc : (φ L S).1.1 ≠ 999) : R (φ L S).2 m := hr hR (fun r hq => funext fun i => funext fun j => funext fun k => h L S hL hc r i j k (z_dis_ok hd hq)) (fun _ _ => rfl)
/-- a call in a stretch: what holds of the state behind it -/
theorem zIv.bT {I : Nat → List Int → ZS → Prop} {T : ZS → Prop} {R : ZR} {k : Int → ZS → ZR} (hR : R.1.1 ≠ 999 → T R.2) (h0 : ∀ v S1, T S1 → zIv I (fun _ _ S => T S) (k v S1)) : zIv I (fun _ _ S => T S) (e_bind R k) := zIv.b (fun h => h0 _ _ (hR (by rw [h]; decide))) (fun _ h => hR (fun q => by rw [q] at h; exact h (by decide)))
theorem q_filmsC {c m : ZS} (h : zKq c m) {k : Int} : f_x_filmsIn [k] c = ((0, [zKn c k]), c) := by
  obtain ⟨⟨⟨a1, a2⟩, -⟩, -⟩ := h
  show g_x_filmsIn ((1000, [k]), c) = _
  rw [g_x_filmsIn_0]
  refine (zl_cnt (n := c r_x_filmCount 0 0 0) (p := fun f => decide (c r_Film_section f 0 0 = k)) (fin := fun x => ((0, [x]), c)) (G := fun x j => g_x_filmsIn ((1004, [k, x, j]), c)) (fun x j e => ?_) (fun x j k0 k1 x0 x1 => ?_) (c r_x_filmCount 0 0 0).toNat 0 0 (Int.le_refl _) (by omega) (Int.le_refl _) (Int.le_refl _)).trans ?_
  · rw [g_x_filmsIn_4, zb_d, if_pos (by omega)]
  · have hk : e_wr (j + 1) = j + 1 := e_wr_id (by omega) (by omega)
    have hx : e_wr (x + 1) = x + 1 := e_wr_id (by omega) (by omega)
    rw [g_x_filmsIn_4, zb_d, if_neg (by omega), zb_n, hk, hx]
    by_cases q : c r_Film_section j 0 0 = k
    · rw [if_pos q, decide_eq_true q, if_pos rfl]
    · rw [if_neg q, decide_eq_false q, if_neg (by decide)]
  · rw [Int.zero_add]
    rfl
theorem q_minutesC {c m : ZS} (h : zKq c m) {k : Int} : f_x_minutesIn [k] c = ((0, [zKm c k]), c) ∧ 0 ≤ zKm c k ∧ zKm c k ≤ 6000 := by
  obtain ⟨⟨⟨a1, a2⟩, -⟩, hf, -⟩ := h
  have key : ∀ (t : Nat) (j x : Int), 0 ≤ j → j + t = c r_x_filmCount 0 0 0 → 0 ≤ x → x ≤ 300 * j → g_x_minutesIn ((1004, [k, x, j]), c) = ((0, [x + zsum (fun f => if c r_Film_section f 0 0 = k then c r_Film_minutes f 0 0 else 0) t j]), c) := by
    intro t
    induction t with
    | zero =>
      intro j x j0 j1 x0 x1
      rw [g_x_minutesIn_4, zb_d, if_pos (by omega), zsum, Int.add_zero]
    | succ t ih =>
      intro j x j0 j1 x0 x1
      have hk : e_wr (j + 1) = j + 1 := e_wr_id (by omega) (by omega)
      obtain ⟨⟨z1, z2⟩, -⟩ := hf j j0 (by omega)
      have hx : e_wr (x + c r_Film_minutes j 0 0) = x + c r_Film_minutes j 0 0 := e_wr_id (by omega) (by omega)
      rw [g_x_minutesIn_4, zb_d, if_neg (by omega), zb_n, hk, hx, zsum, ← Int.add_assoc]
      by_cases q : c r_Film_section j 0 0 = k
      · rw [if_pos q, if_pos q]
        exact ih (j + 1) _ (by omega) (by omega) (by omega) (by omega)
      · rw [if_neg q, if_neg q, Int.add_zero]
        exact ih (j + 1) x (by omega) (by omega) x0 (by omega)
  constructor
  · show g_x_minutesIn ((1000, [k]), c) = _
    rw [g_x_minutesIn_0, key (c r_x_filmCount 0 0 0).toNat 0 0 (Int.le_refl _) (by omega) (Int.le_refl _) (by omega), Int.zero_add]
    rfl
  · have := zsum_le (w := fun f => if c r_Film_section f 0 0 = k then c r_Film_minutes f 0 0 else 0) (lo := 0) (hi := 300) (c r_x_filmCount 0 0 0).toNat 0 (fun i i0 i1 => by
      obtain ⟨⟨z1, z2⟩, -⟩ := hf i i0 (by omega)
      split <;> omega)
    unfold zKm
    omega
/-- what a film has that can be chosen -/
def zKc (c : ZS) (f s : Int) : Prop := c r_Film_section f 0 0 = -1 ∧ zKn c s < c r_Section_quota s 0 0 ∧ (0 ≤ f → f < c r_x_filmCount 0 0 0 → zKm c s + c r_Film_minutes f 0 0 ≤ c r_Section_budget s 0 0)
theorem q_canChoose {f w s : Int} {c m : ZS} (h : zKq c m) (hc : (f_x_canBeChosen [f, w, s] c).1.1 ≠ 999) : (f_x_canBeChosen [f, w, s] c).1.1 = 0 → (f_x_canBeChosen [f, w, s] c).1.2.getD 0 0 ≠ 0 → zKc c f s := by
  refine zIv.out (Q := fun k l _ => k = 0 → l.getD 0 0 ≠ 0 → zKc c f s) ?_ hc
  have no : ∀ S, zIv (fun _ _ _ => False) (fun k l _ => k = 0 → l.getD 0 0 ≠ 0 → zKc c f s) (((0, [0]), S) : ZR) := fun S => zIv.e (by decide) (fun _ z => absurd rfl z)
  unfold f_x_canBeChosen
  dsimp only
  simp only [zb_n, zb_d]
  refine zIv.i (fun h1 => ?_) (fun _ => no _)
  refine zIv.i (fun _ => ?_) (fun _ => no _)
  refine zIv.b (fun e0 => ?_) (fun _ _ => fun _ z => absurd rfl z)
  · have fr : ∀ r, (f_Readings_spread [f] c).2 r = c r := fun r => funext fun i => funext fun j => funext fun k => zK43 [f] c rfl (by rw [e0]; decide) r i j k rfl
    generalize (f_Readings_spread [f] c).2 = S1 at fr
    have hS1 : S1 = c := funext fr
    subst hS1
    obtain ⟨m1, m2, m3⟩ := q_minutesC h (k := s)
    rw [q_filmsC h, e_bnd, m1, e_bnd]
    have fin : zIv (fun _ _ _ => False) (fun k l _ => k = 0 → l.getD 0 0 ≠ 0 → zKc S1 f s) (if S1 r_Section_quota s 0 0 ≤ zKn S1 s then ((0, [0]), S1) else if S1 r_Section_budget s 0 0 < e_wr (zKm S1 s + S1 r_Film_minutes f 0 0) then ((0, [0]), S1) else ((0, [1]), S1)) := by
      refine zIv.i (fun _ => no _) (fun h2 => ?_)
      refine zIv.i (fun _ => no _) (fun h3 => ?_)
      refine zIv.e (by decide) (fun _ _ => ⟨h1, by omega, fun f0 f1 => ?_⟩)
      obtain ⟨⟨z1, z2⟩, -⟩ := h.2.1 f f0 f1
      rw [e_wr_id (by omega) (by omega)] at h3
      omega
    refine zIv.i (fun _ => no _) (fun _ => ?_)
    refine zIv.i (fun _ => ?_) (fun _ => ?_)
    · refine zIv.i (fun _ => no _) (fun _ => ?_)
      refine zIv.i (fun _ => no _) (fun _ => ?_)
      exact fin
    · refine zIv.i (fun _ => ?_) (fun _ => no _)
      refine zIv.i (fun _ => no _) (fun _ => ?_)
      refine zIv.i (fun _ => no _) (fun _ => ?_)
      exact fin
theorem zKq_enter {f s z l : Int} {c m : ZS} (h : zKq c m) (s0 : 0 ≤ s) (s1 : s < c r_x_sectionCount 0 0 0) (hk : zKc c f s) : zKq (zcA l f (f_Film_enter [f, s, z] c).2) m := by
  obtain ⟨⟨⟨a1, a2⟩, b1, b2⟩, hf, hq⟩ := h
  obtain ⟨k1, k2, k3⟩ := hk
  unfold f_Film_enter
  unfold zKq zKn zKm
  simp (decide := true) only [zcA_o, e_un, e_ur, and_true]
  refine ⟨⟨⟨a1, a2⟩, b1, b2⟩, fun g g0 g1 => ?_, fun k q0 q1 => ?_⟩
  · obtain ⟨z1, z2⟩ := hf g g0 g1
    refine ⟨z1, ?_⟩
    split
    · exact s1
    · exact z2
  · obtain ⟨j2, j3⟩ := hq k q0 q1
    unfold zKn at j2 k2
    unfold zKm at j3 k3
    by_cases hin : 0 ≤ f ∧ f < c r_x_filmCount 0 0 0
    · by_cases q : k = s
      · subst q
        have e1 := zcnt_one (p := fun g => decide ((if g = f then k else c r_Film_section g 0 0) = k)) (b := f) (by
          show decide ((if f = f then k else c r_Film_section f 0 0) = k) = true
          rw [if_pos rfl]
          exact decide_eq_true rfl) (c r_x_filmCount 0 0 0).toNat 0 hin.1 (by omega)
        have e2 := zcnt_cg (p := fun i => (fun g => decide ((if g = f then k else c r_Film_section g 0 0) = k)) i && decide (i ≠ f)) (q := fun g => decide (c r_Film_section g 0 0 = k)) (c r_x_filmCount 0 0 0).toNat 0 (fun i i0 i1 => by
          show (decide ((if i = f then k else c r_Film_section i 0 0) = k) && decide (i ≠ f)) = decide (c r_Film_section i 0 0 = k)
          by_cases w : i = f
          · rw [decide_eq_false (show ¬ i ≠ f from fun z => z w), Bool.and_false, w, k1, decide_eq_false (by omega)]
          · rw [if_neg w, decide_eq_true w, Bool.and_true])
        have e3 := zsum_cg (v := fun g => if (if g = f then k else c r_Film_section g 0 0) = k then c r_Film_minutes g 0 0 else 0) (w := fun i => if i = f then c r_Film_minutes f 0 0 else (fun g => if c r_Film_section g 0 0 = k then c r_Film_minutes g 0 0 else 0) i) (c r_x_filmCount 0 0 0).toNat 0 (fun i i0 i1 => by
          show (if (if i = f then k else c r_Film_section i 0 0) = k then c r_Film_minutes i 0 0 else 0) = if i = f then c r_Film_minutes f 0 0 else (if c r_Film_section i 0 0 = k then c r_Film_minutes i 0 0 else 0)
          by_cases w : i = f
          · rw [if_pos w, if_pos rfl, if_pos w, w]
          · rw [if_neg w, if_neg w])
        have e4 := zsum_upd (w := fun g => if c r_Film_section g 0 0 = k then c r_Film_minutes g 0 0 else 0) (b := f) (z := c r_Film_minutes f 0 0) (c r_x_filmCount 0 0 0).toNat 0 hin.1 (by omega)
        have e5 : (if c r_Film_section f 0 0 = k then c r_Film_minutes f 0 0 else 0) = 0 := if_neg (by omega)
        have k3 := k3 hin.1 hin.2
        rw [e2] at e1
        rw [e5] at e4
        refine ⟨?_, ?_⟩
        · (try dsimp only at e1)
          omega
        · rw [e3, e4]
          omega
      · rw [zcnt_cg (q := fun g => decide (c r_Film_section g 0 0 = k)) _ 0 (fun i i0 i1 => by
          by_cases w : i = f
          · rw [if_pos w, w, k1, decide_eq_false (fun z => q z.symm), decide_eq_false (by omega)]
          · rw [if_neg w]), zsum_cg (w := fun g => if c r_Film_section g 0 0 = k then c r_Film_minutes g 0 0 else 0) _ 0 (fun i i0 i1 => by
          by_cases w : i = f
          · rw [if_pos w, w, k1, if_neg (fun z => q z.symm), if_neg (by omega)]
          · rw [if_neg w])]
        exact ⟨j2, j3⟩
    · rw [zcnt_cg (q := fun g => decide (c r_Film_section g 0 0 = k)) _ 0 (fun i i0 i1 => by rw [if_neg (by omega)]), zsum_cg (w := fun g => if c r_Film_section g 0 0 = k then c r_Film_minutes g 0 0 else 0) _ 0 (fun i i0 i1 => by rw [if_neg (show ¬ i = f by omega)])]
      exact ⟨j2, j3⟩
theorem q_sectionsKept {c m : ZS} (h : zKq c m) : f_x_areSectionsKept [] c = ((0, [1]), c) := by
  obtain ⟨⟨-, b1, b2⟩, -, hk⟩ := id h
  have key : ∀ (t : Nat) (k : Int), 0 ≤ k → k + t = c r_x_sectionCount 0 0 0 → g_x_areSectionsKept ((1002, [k]), c) = ((0, [1]), c) := by
    intro t
    induction t with
    | zero =>
      intro k k0 k1
      rw [g_x_areSectionsKept_2, zb_d, if_pos (by omega)]
    | succ t ih =>
      intro k k0 k1
      have hk1 : e_wr (k + 1) = k + 1 := e_wr_id (by omega) (by omega)
      obtain ⟨k2, k3⟩ := hk k k0 (by omega)
      rw [g_x_areSectionsKept_2, zb_d, if_neg (by omega), q_filmsC h, e_bnd, zb_d, if_neg (by omega), (q_minutesC h).1, e_bnd, zb_d, if_pos k3, hk1]
      exact ih (k + 1) (by omega) (by omega)
  show g_x_areSectionsKept ((1000, []), c) = _
  rw [g_x_areSectionsKept_0]
  exact key (c r_x_sectionCount 0 0 0).toNat 0 (Int.le_refl _) (by omega)

theorem y_any_app {p : Int → Bool} : ∀ (j : Nat) (k : Int), zany p (j + 1) k = (zany p j k || p (k + j))
  | 0, k => by
    have e : k + ((0 : Nat) : Int) = k := by omega
    rw [zany, zany, zany, e, Bool.or_false, Bool.false_or]
  | j + 1, k => by
    have e : k + 1 + (j : Int) = k + ((j + 1 : Nat) : Int) := by omega
    rw [zany, y_any_app j (k + 1), zany, e, Bool.or_assoc]
def y_pos (b : Int → Int) (f : Int) : Nat → Int → Int
  | 0, _ => -1
  | t + 1, k => if b k = f then k else y_pos b f t (k + 1)
def y_fst (b o : Int → Int) : Nat → Int → Int
  | 0, _ => -1
  | t + 1, k => if o (b k) = 0 then b k else y_fst b o t (k + 1)
theorem y_pos_r {b : Int → Int} {f : Int} : ∀ (t : Nat) (k : Int), (y_pos b f t k = -1 ∧ ∀ i, k ≤ i → i < k + t → b i ≠ f) ∨ (k ≤ y_pos b f t k ∧ y_pos b f t k < k + t ∧ b (y_pos b f t k) = f)
  | 0, k => Or.inl ⟨rfl, fun i _ _ => by omega⟩
  | t + 1, k => by
    rw [y_pos]
    by_cases e : b k = f
    · rw [if_pos e]
      exact Or.inr ⟨Int.le_refl _, by omega, e⟩
    · rw [if_neg e]
      rcases y_pos_r (b := b) (f := f) t (k + 1) with ⟨h1, h2⟩ | ⟨h1, h2, h3⟩
      · refine Or.inl ⟨h1, fun i i0 i1 => ?_⟩
        by_cases q : i = k
        · rw [q]
          exact e
        · exact h2 i (by omega) (by omega)
      · exact Or.inr ⟨by omega, by omega, h3⟩
theorem y_fst_r {b o : Int → Int} : ∀ (t : Nat) (k : Int), y_fst b o t k = -1 ∨ (o (y_fst b o t k) = 0 ∧ ∃ i, k ≤ i ∧ i < k + t ∧ b i = y_fst b o t k)
  | 0, k => Or.inl rfl
  | t + 1, k => by
    rw [y_fst]
    by_cases e : o (b k) = 0
    · rw [if_pos e]
      exact Or.inr ⟨e, k, Int.le_refl _, by omega, rfl⟩
    · rw [if_neg e]
      rcases y_fst_r (b := b) (o := o) t (k + 1) with h | ⟨h1, i, i0, i1, i2⟩
      · exact Or.inl h
      · exact Or.inr ⟨h1, i, by omega, by omega, i2⟩
/-- ballots of a section: sizes, films, no film twice -/
def y_W (c : ZS) (s : Int) : Prop := (0 ≤ c r_Section_jurorCount s 0 0 ∧ c r_Section_jurorCount s 0 0 ≤ 5) ∧ ∀ j, 0 ≤ j → j < c r_Section_jurorCount s 0 0 → (0 ≤ c r_Juror_ballotSize s j 0 ∧ c r_Juror_ballotSize s j 0 ≤ 9) ∧ (∀ k, 0 ≤ k → k < c r_Juror_ballotSize s j 0 → 0 ≤ c r_Juror_ballot s j k ∧ c r_Juror_ballot s j k < 20) ∧ ∀ k l, 0 ≤ k → k < l → l < c r_Juror_ballotSize s j 0 → c r_Juror_ballot s j k ≠ c r_Juror_ballot s j l
def y_K : List Nat := [r_Count_isOut, r_Count_tally, r_Count_isOnBallot, r_Count_leads_r]
/-- a state like c but for the count's own arrays; who is out: o -/
def y_S (c : ZS) (o : Int → Int) (C : ZS) : Prop := (∀ r, y_K.contains r = false → C r = c r) ∧ ∀ f, 0 ≤ f → f < 20 → C r_Count_isOut 0 0 f = o f
abbrev y_P (c : ZS) (s j f : Int) : Int := y_pos (fun k => c r_Juror_ballot s j k) f (c r_Juror_ballotSize s j 0).toNat 0
abbrev y_F (c : ZS) (s : Int) (o : Int → Int) (j : Int) : Int := y_fst (fun k => c r_Juror_ballot s j k) o (c r_Juror_ballotSize s j 0).toNat 0
abbrev y_nb (c : ZS) (s : Int) (o : Int → Int) (j k : Int) : Bool := decide (o (c r_Juror_ballot s j k) = 0)
def y_pt (c : ZS) (s : Int) (o : Int → Int) (j f : Int) : Int := if y_P c s j f = -1 then 0 else zcnt (y_nb c s o j) (c r_Juror_ballotSize s j 0 - (y_P c s j f + 1)).toNat (y_P c s j f + 1)
def y_ld (c : ZS) (s j f g : Int) : Int := if y_P c s j f = -1 then 0 else if y_P c s j g = -1 then 0 else if y_P c s j g ≤ y_P c s j f then -1 else 1
def y_rk (c : ZS) (s : Int) (o : Int → Int) (f : Int) : Bool := decide (o f = 0) && zany (fun j => !decide (y_P c s j f = -1)) (c r_Section_jurorCount s 0 0).toNat 0
def y_fs (c : ZS) (s : Int) (o : Int → Int) (f : Int) : Int := zcnt (fun j => decide (y_F c s o j = f)) (c r_Section_jurorCount s 0 0).toNat 0
def y_ps (c : ZS) (s : Int) (o : Int → Int) (f : Int) : Int := zsum (fun j => y_pt c s o j f) (c r_Section_jurorCount s 0 0).toNat 0
def y_le (c : ZS) (s f g : Int) : Int := zsum (fun j => y_ld c s j f g) (c r_Section_jurorCount s 0 0).toNat 0
def y_vo (c : ZS) (s : Int) (o : Int → Int) : Int := zcnt (fun j => !decide (y_F c s o j = -1)) (c r_Section_jurorCount s 0 0).toNat 0
section
variable {c C : ZS} {o : Int → Int} {s j : Int}
theorem y_P_r (hW : y_W c s) (j0 : 0 ≤ j) (j1 : j < c r_Section_jurorCount s 0 0) {f : Int} : y_P c s j f = -1 ∨ (0 ≤ y_P c s j f ∧ y_P c s j f < c r_Juror_ballotSize s j 0 ∧ c r_Juror_ballot s j (y_P c s j f) = f) := by
  obtain ⟨⟨n0, n1⟩, -⟩ := hW.2 j j0 j1
  rcases y_pos_r (b := fun k => c r_Juror_ballot s j k) (f := f) (c r_Juror_ballotSize s j 0).toNat 0 with ⟨h, -⟩ | ⟨h1, h2, h3⟩
  · exact Or.inl h
  · have h2 : y_P c s j f < 0 + ((c r_Juror_ballotSize s j 0).toNat : Int) := h2
    exact Or.inr ⟨h1, by omega, h3⟩
theorem y_P_at (hW : y_W c s) (j0 : 0 ≤ j) (j1 : j < c r_Section_jurorCount s 0 0) {k : Int} (k0 : 0 ≤ k) (k1 : k < c r_Juror_ballotSize s j 0) : y_P c s j (c r_Juror_ballot s j k) = k := by
  obtain ⟨⟨n0, n1⟩, -, inj⟩ := hW.2 j j0 j1
  rcases y_pos_r (b := fun k => c r_Juror_ballot s j k) (f := c r_Juror_ballot s j k) (c r_Juror_ballotSize s j 0).toNat 0 with ⟨-, h⟩ | ⟨h1, h2, h3⟩
  · exact absurd rfl (h k k0 (by omega))
  · show y_pos (fun k => c r_Juror_ballot s j k) (c r_Juror_ballot s j k) (c r_Juror_ballotSize s j 0).toNat 0 = k
    generalize y_pos (fun k => c r_Juror_ballot s j k) (c r_Juror_ballot s j k) (c r_Juror_ballotSize s j 0).toNat 0 = p at h1 h2 h3
    have h3 : c r_Juror_ballot s j p = c r_Juror_ballot s j k := h3
    by_cases a : p < k
    · exact absurd h3 (inj p k h1 a k1)
    · by_cases b : k < p
      · exact absurd h3.symm (inj k p k0 b (by omega))
      · omega
theorem y_firstOn (hW : y_W c s) (hS : y_S c o C) (j0 : 0 ≤ j) (j1 : j < c r_Section_jurorCount s 0 0) : f_Count_firstOn [s, j] C = ((0, [y_F c s o j]), C) := by
  obtain ⟨⟨n0, n1⟩, hb, -⟩ := hW.2 j j0 j1
  have e1 := hS.1 r_Juror_ballotSize (by decide)
  have e2 := hS.1 r_Juror_ballot (by decide)
  have key : ∀ (t : Nat) (k : Int), 0 ≤ k → k + t = c r_Juror_ballotSize s j 0 → g_Count_firstOn ((1002, [s, j, k]), C) = ((0, [y_fst (fun k => c r_Juror_ballot s j k) o t k]), C) := by
    intro t
    induction t with
    | zero =>
      intro k k0 k1
      rw [g_Count_firstOn_2, zb_d, e1, if_pos (by omega)]
      rfl
    | succ t ih =>
      intro k k0 k1
      have hk : e_wr (k + 1) = k + 1 := e_wr_id (by omega) (by omega)
      obtain ⟨b0, b1⟩ := hb k k0 (by omega)
      rw [g_Count_firstOn_2, zb_d, e1, if_neg (by omega), zb_n, e2, hS.2 _ b0 b1, hk, y_fst]
      by_cases q : o (c r_Juror_ballot s j k) = 0
      · simp only [if_pos q]
      · simp only [if_neg q]
        exact ih (k + 1) (by omega) (by omega)
  show g_Count_firstOn ((1000, [s, j]), C) = _
  rw [g_Count_firstOn_0]
  exact key (c r_Juror_ballotSize s j 0).toNat 0 (Int.le_refl _) (by omega)
theorem y_placeOn (hW : y_W c s) (hS : y_S c o C) (j0 : 0 ≤ j) (j1 : j < c r_Section_jurorCount s 0 0) {f : Int} : f_Count_placeOn [s, j, f] C = ((0, [y_P c s j f]), C) := by
  obtain ⟨⟨n0, n1⟩, -⟩ := hW.2 j j0 j1
  have e1 := hS.1 r_Juror_ballotSize (by decide)
  have e2 := hS.1 r_Juror_ballot (by decide)
  have key : ∀ (t : Nat) (k : Int), 0 ≤ k → k + t = c r_Juror_ballotSize s j 0 → g_Count_placeOn ((1002, [s, j, f, k]), C) = ((0, [y_pos (fun k => c r_Juror_ballot s j k) f t k]), C) := by
    intro t
    induction t with
    | zero =>
      intro k k0 k1
      rw [g_Count_placeOn_2, zb_d, e1, if_pos (by omega)]
      rfl
    | succ t ih =>
      intro k k0 k1
      have hk : e_wr (k + 1) = k + 1 := e_wr_id (by omega) (by omega)
      rw [g_Count_placeOn_2, zb_d, e1, if_neg (by omega), zb_n, e2, hk, y_pos]
      by_cases q : c r_Juror_ballot s j k = f
      · simp only [if_pos q]
      · simp only [if_neg q]
        exact ih (k + 1) (by omega) (by omega)
  show g_Count_placeOn ((1000, [s, j, f]), C) = _
  rw [g_Count_placeOn_0]
  exact key (c r_Juror_ballotSize s j 0).toNat 0 (Int.le_refl _) (by omega)
theorem y_isRanked (hW : y_W c s) (hS : y_S c o C) {f : Int} (f0 : 0 ≤ f) (f1 : f < 20) : f_Count_isRanked [s, f] C = ((0, [zb (y_rk c s o f)]), C) := by
  obtain ⟨u0, u1⟩ := hW.1
  have e1 := hS.1 r_Section_jurorCount (by decide)
  have e2 := hS.2 f f0 f1
  show g_Count_isRanked ((1000, [s, f]), C) = _
  rw [g_Count_isRanked_0]
  refine (zl_any (n := c r_Section_jurorCount s 0 0) (p := fun j => decide (o f = 0) && !decide (y_P c s j f = -1)) (A := ((0, [1]), C)) (B := ((0, [0]), C)) (G := fun k => g_Count_isRanked ((1002, [s, f, k]), C)) (fun k hk => ?_) (fun k k0 k1 => ?_) (c r_Section_jurorCount s 0 0).toNat 0 (Int.le_refl _) (by omega)).trans ?_
  · rw [g_Count_isRanked_2, zb_d, e1, if_pos (by omega)]
  · have hk : e_wr (k + 1) = k + 1 := e_wr_id (by omega) (by omega)
    rw [g_Count_isRanked_2, zb_d, e1, if_neg (by omega), zb_n, y_placeOn hW hS k0 k1, e_bnd, zb_d, e2, hk]
    by_cases q : o f = 0
    · rw [if_pos q, decide_eq_true q, Bool.true_and]
      by_cases w : y_P c s k f = -1
      · rw [if_pos w, decide_eq_true w, if_neg (by decide)]
      · rw [if_neg w, decide_eq_false w, if_pos (by rfl)]
    · rw [if_neg q, decide_eq_false q, Bool.false_and, if_neg (by decide)]
  · have e : zany (fun j => decide (o f = 0) && !decide (y_P c s j f = -1)) (c r_Section_jurorCount s 0 0).toNat 0 = y_rk c s o f := by
      unfold y_rk
      by_cases q : o f = 0
      · rw [decide_eq_true q, Bool.true_and]
        exact zany_cg _ 0 (fun i _ _ => Bool.true_and _)
      · rw [decide_eq_false q, Bool.false_and]
        cases e : zany (fun j => false && !decide (y_P c s j f = -1)) (c r_Section_jurorCount s 0 0).toNat 0 with
        | false => rfl
        | true =>
          obtain ⟨i, -, -, hi⟩ := (zany_iff _ _).mp e
          rw [Bool.false_and] at hi
          cases hi
    rw [e]
    unfold zb
    split <;> rfl
theorem y_firstsOf (hW : y_W c s) (hS : y_S c o C) {f : Int} : f_Count_firstsOf [s, f] C = ((0, [y_fs c s o f]), C) := by
  obtain ⟨u0, u1⟩ := hW.1
  have e1 := hS.1 r_Section_jurorCount (by decide)
  show g_Count_firstsOf ((1000, [s, f]), C) = _
  rw [g_Count_firstsOf_0]
  refine (zl_cnt (n := c r_Section_jurorCount s 0 0) (p := fun j => decide (y_F c s o j = f)) (fin := fun x => ((0, [x]), C)) (G := fun x k => g_Count_firstsOf ((1005, [s, f, x, k]), C)) (fun x k e => ?_) (fun x k k0 k1 x0 x1 => ?_) (c r_Section_jurorCount s 0 0).toNat 0 0 (Int.le_refl _) (by omega) (Int.le_refl _) (Int.le_refl _)).trans ?_
  · rw [g_Count_firstsOf_5, zb_d, e1, if_pos (by omega)]
  · have hk : e_wr (k + 1) = k + 1 := e_wr_id (by omega) (by omega)
    have hx : e_wr (x + 1) = x + 1 := e_wr_id (by omega) (by omega)
    rw [g_Count_firstsOf_5, zb_d, e1, if_neg (by omega), y_firstOn hW hS k0 k1, e_bnd, zb_n, hk, hx]
    by_cases q : y_F c s o k = f
    · rw [if_pos q, decide_eq_true q, if_pos rfl]
    · rw [if_neg q, decide_eq_false q, if_neg (by decide)]
  · rw [Int.zero_add]
    rfl
theorem y_pt_r (hW : y_W c s) (j0 : 0 ≤ j) (j1 : j < c r_Section_jurorCount s 0 0) {f : Int} : 0 ≤ y_pt c s o j f ∧ y_pt c s o j f ≤ 9 := by
  obtain ⟨⟨n0, n1⟩, -⟩ := hW.2 j j0 j1
  have hp := y_P_r hW j0 j1 (f := f)
  have hz := zcnt_le (y_nb c s o j) (c r_Juror_ballotSize s j 0 - (y_P c s j f + 1)).toNat (y_P c s j f + 1)
  unfold y_pt
  split <;> omega
theorem y_pointsOf (hW : y_W c s) (hS : y_S c o C) {f : Int} : f_Count_pointsOf [s, f] C = ((0, [y_ps c s o f]), C) := by
  obtain ⟨u0, u1⟩ := hW.1
  have e1 := hS.1 r_Section_jurorCount (by decide)
  have e2 := hS.1 r_Juror_ballotSize (by decide)
  have e3 := hS.1 r_Juror_ballot (by decide)
  have key : ∀ (t : Nat) (k x : Int), 0 ≤ k → k + t = c r_Section_jurorCount s 0 0 → 0 ≤ x → x ≤ 9 * k → g_Count_pointsOf ((1005, [s, f, x, k]), C) = ((0, [x + zsum (fun j => y_pt c s o j f) t k]), C) := by
    intro t
    induction t with
    | zero =>
      intro k x k0 k1 x0 x1
      rw [g_Count_pointsOf_5, zb_d, e1, if_pos (by omega), zsum, Int.add_zero]
    | succ t ih =>
      intro k x k0 k1 x0 x1
      have hk : e_wr (k + 1) = k + 1 := e_wr_id (by omega) (by omega)
      obtain ⟨⟨n0, n1⟩, hb, -⟩ := hW.2 k k0 (by omega)
      have hp := y_P_r hW k0 (show k < c r_Section_jurorCount s 0 0 by omega) (f := f)
      have hq : e_wr (y_P c s k f + 1) = y_P c s k f + 1 := e_wr_id (by omega) (by omega)
      have hr := y_pt_r (o := o) hW k0 (show k < c r_Section_jurorCount s 0 0 by omega) (f := f)
      rw [g_Count_pointsOf_5, zb_d, e1, if_neg (by omega), y_placeOn hW hS k0 (by omega), e_bnd, hq, zsum, ← Int.add_assoc]
      by_cases q : y_P c s k f = -1
      · have hz : y_pt c s o k f = 0 := if_pos q
        rw [g_Count_pointsOf_38, zb_d, if_pos q, hk, hz, Int.add_zero]
        exact ih (k + 1) x (by omega) (by omega) x0 (by omega)
      · have inner : ∀ (u : Nat) (y x : Int), 0 ≤ y → y + u = c r_Juror_ballotSize s k 0 → 0 ≤ x → x ≤ 9 * k + y → g_Count_pointsOf ((1038, [s, f, x, k, s, k, y_P c s k f, y]), C) = g_Count_pointsOf ((1005, [s, f, x + zcnt (y_nb c s o k) u y, k + 1]), C) := by
          intro u
          induction u with
          | zero =>
            intro y x y0 y1 x0 x1
            rw [g_Count_pointsOf_38, zb_d, if_neg q, zb_d, e2, if_pos (by omega), hk, zcnt, Int.add_zero]
          | succ u ihu =>
            intro y x y0 y1 x0 x1
            have hy : e_wr (y + 1) = y + 1 := e_wr_id (by omega) (by omega)
            have hx : e_wr (x + 1) = x + 1 := e_wr_id (by omega) (by omega)
            obtain ⟨b0, b1⟩ := hb y y0 (by omega)
            rw [g_Count_pointsOf_38, zb_d, if_neg q, zb_d, e2, if_neg (by omega), zb_n, e3, hS.2 _ b0 b1, hy, hx, zcnt]
            by_cases w : o (c r_Juror_ballot s k y) = 0
            · rw [if_pos w, if_pos (decide_eq_true w), ← Int.add_assoc]
              exact ihu (y + 1) (x + 1) (by omega) (by omega) (by omega) (by omega)
            · rw [if_neg w, if_neg (show ¬ decide (o (c r_Juror_ballot s k y) = 0) = true by rw [decide_eq_false w]; decide), Int.zero_add]
              exact ihu (y + 1) x (by omega) (by omega) x0 (by omega)
        have hz : y_pt c s o k f = zcnt (y_nb c s o k) (c r_Juror_ballotSize s k 0 - (y_P c s k f + 1)).toNat (y_P c s k f + 1) := if_neg q
        rw [inner (c r_Juror_ballotSize s k 0 - (y_P c s k f + 1)).toNat (y_P c s k f + 1) x (by omega) (by omega) x0 (by omega), ← hz]
        exact ih (k + 1) _ (by omega) (by omega) (by omega) (by omega)
  show g_Count_pointsOf ((1000, [s, f]), C) = _
  rw [g_Count_pointsOf_0, key (c r_Section_jurorCount s 0 0).toNat 0 0 (Int.le_refl _) (by omega) (Int.le_refl _) (by omega), Int.zero_add]
  rfl
theorem y_ld_r {f g : Int} : -1 ≤ y_ld c s j f g ∧ y_ld c s j f g ≤ 1 := by
  unfold y_ld
  repeat' split
  all_goals omega
theorem y_leadOf (hW : y_W c s) (hS : y_S c o C) {f g : Int} : f_Count_leadOf [s, f, g] C = ((0, [y_le c s f g]), C) := by
  obtain ⟨u0, u1⟩ := hW.1
  have e1 := hS.1 r_Section_jurorCount (by decide)
  have key : ∀ (t : Nat) (k x : Int), 0 ≤ k → k + t = c r_Section_jurorCount s 0 0 → -k ≤ x → x ≤ k → g_Count_leadOf ((1006, [s, f, g, x, k]), C) = ((0, [x + zsum (fun j => y_ld c s j f g) t k]), C) := by
    intro t
    induction t with
    | zero =>
      intro k x k0 k1 x0 x1
      rw [g_Count_leadOf_6, zb_d, e1, if_pos (by omega), zsum, Int.add_zero]
    | succ t ih =>
      intro k x k0 k1 x0 x1
      have hk : e_wr (k + 1) = k + 1 := e_wr_id (by omega) (by omega)
      have hx1 : e_wr (x + 1) = x + 1 := e_wr_id (by omega) (by omega)
      have hx2 : e_wr (x + -1) = x + -1 := e_wr_id (by omega) (by omega)
      have e6 := g_Count_leadOf_6 (x1 := s) (x2 := f) (x3 := g) (x4 := x) (x5 := k) (S := C)
      rw [zb_d, e1, if_neg (by omega), y_placeOn hW hS k0 (by omega), e_bnd, y_placeOn hW hS k0 (by omega), e_bnd, zb_d, zb_d, zb_d, hk, hx1, hx2] at e6
      have step : g_Count_leadOf ((1006, [s, f, g, x, k]), C) = g_Count_leadOf ((1006, [s, f, g, x + y_ld c s k f g, k + 1]), C) := by
        rw [e6]
        unfold y_ld
        by_cases q1 : y_P c s k f = -1
        · simp only [if_pos q1, Int.add_zero]
        · by_cases q2 : y_P c s k g = -1
          · simp only [if_neg q1, if_pos q2, Int.add_zero]
          · by_cases q3 : y_P c s k g ≤ y_P c s k f
            · simp only [if_neg q1, if_neg q2, if_pos q3]
            · simp only [if_neg q1, if_neg q2, if_neg q3]
      have hr := y_ld_r (c := c) (s := s) (j := k) (f := f) (g := g)
      rw [step, zsum, ← Int.add_assoc]
      exact ih (k + 1) _ (by omega) (by omega) (by omega) (by omega)
  show g_Count_leadOf ((1000, [s, f, g]), C) = _
  rw [g_Count_leadOf_0, key (c r_Section_jurorCount s 0 0).toNat 0 0 (Int.le_refl _) (by omega) (by omega) (by omega), Int.zero_add]
  rfl
end

/-- the first of those with the most -/
def y_Best (p : Int → Bool) (v : Int → Int) (w : Int) : Prop := (w = -1 ∧ ∀ f, 0 ≤ f → f < 20 → p f = false) ∨ ((0 ≤ w ∧ w < 20) ∧ p w = true ∧ ∀ f, 0 ≤ f → f < 20 → p f = true → v f ≤ v w ∧ (f < w → v f < v w))
theorem y_Best_u {p : Int → Bool} {v : Int → Int} {w w' : Int} (h : y_Best p v w) (h' : y_Best p v w') : w = w' := by
  rcases h with ⟨h1, h2⟩ | ⟨⟨h1, h2⟩, h3, h4⟩
  · rcases h' with ⟨h1', -⟩ | ⟨⟨h1', h2'⟩, h3', -⟩
    · omega
    · rw [h2 w' h1' h2'] at h3'
      cases h3'
  · rcases h' with ⟨-, h2'⟩ | ⟨⟨h1', h2'⟩, h3', h4'⟩
    · rw [h2' w h1 h2] at h3
      cases h3
    · obtain ⟨a1, a2⟩ := h4 w' h1' h2' h3'
      obtain ⟨b1, b2⟩ := h4' w h1 h2 h3
      by_cases e : w < w'
      · have := b2 e
        omega
      · by_cases e2 : w' < w
        · have := a2 e2
          omega
        · omega
theorem y_Best_cg {p q : Int → Bool} {v u : Int → Int} {w : Int} (hp : ∀ f, 0 ≤ f → f < 20 → p f = q f) (hv : ∀ f, 0 ≤ f → f < 20 → p f = true → v f = u f) (h : y_Best p v w) : y_Best q u w := by
  rcases h with ⟨h1, h2⟩ | ⟨⟨h1, h2⟩, h3, h4⟩
  · exact Or.inl ⟨h1, fun f f0 f1 => by rw [← hp f f0 f1]; exact h2 f f0 f1⟩
  · refine Or.inr ⟨⟨h1, h2⟩, by rw [← hp w h1 h2]; exact h3, fun f f0 f1 hf => ?_⟩
    rw [← hp f f0 f1] at hf
    rw [← hv f f0 f1 hf, ← hv w h1 h2 h3]
    exact h4 f f0 f1 hf
/-- the first of all -/
def y_One (D : Int → Bool) (w : Int) : Prop := (w = -1 ∧ ∀ f, 0 ≤ f → f < 20 → D f = false) ∨ ((0 ≤ w ∧ w < 20) ∧ D w = true ∧ ∀ f, 0 ≤ f → f < w → D f = false)
theorem y_One_u {D D' : Int → Bool} {w w' : Int} (hD : ∀ f, 0 ≤ f → f < 20 → D f = D' f) (h : y_One D w) (h' : y_One D' w') : w = w' := by
  rcases h with ⟨h1, h2⟩ | ⟨⟨h1, h2⟩, h3, h4⟩
  · rcases h' with ⟨h1', -⟩ | ⟨⟨h1', h2'⟩, h3', -⟩
    · omega
    · rw [← hD w' h1' h2', h2 w' h1' h2'] at h3'
      cases h3'
  · rcases h' with ⟨-, h2'⟩ | ⟨⟨h1', h2'⟩, h3', h4'⟩
    · rw [hD w h1 h2, h2' w h1 h2] at h3
      cases h3
    · by_cases e : w < w'
      · rw [hD w h1 h2, h4' w h1 e] at h3
        cases h3
      · by_cases e2 : w' < w
        · rw [← hD w' h1' h2', h4 w' h1' e2] at h3'
          cases h3'
        · omega
/-- the last of those with the fewest -/
def y_Wst (p : Int → Bool) (v : Int → Int) (w : Int) : Prop := (0 ≤ w ∧ w < 20) ∧ p w = true ∧ ∀ f, 0 ≤ f → f < 20 → p f = true → v w ≤ v f ∧ (w < f → v w < v f)
theorem y_Wst_u {p : Int → Bool} {v : Int → Int} {w w' : Int} (h : y_Wst p v w) (h' : y_Wst p v w') : w = w' := by
  obtain ⟨⟨h1, h2⟩, h3, h4⟩ := h
  obtain ⟨⟨h1', h2'⟩, h3', h4'⟩ := h'
  obtain ⟨a1, a2⟩ := h4 w' h1' h2' h3'
  obtain ⟨b1, b2⟩ := h4' w h1 h2 h3
  by_cases e : w < w'
  · have := a2 e
    omega
  · by_cases e2 : w' < w
    · have := b2 e2
      omega
    · omega
def y_vl (x : Int) (c : ZS) (s : Int) (o : Int → Int) (f : Int) : Int := if x = 0 then y_fs c s o f else y_ps c s o f
section
variable {c C : ZS} {o : Int → Int} {s : Int}
theorem y_fs_r (hW : y_W c s) {f : Int} : 0 ≤ y_fs c s o f ∧ y_fs c s o f ≤ 5 := by
  obtain ⟨u0, u1⟩ := hW.1
  have := zcnt_le (fun j => decide (y_F c s o j = f)) (c r_Section_jurorCount s 0 0).toNat 0
  unfold y_fs
  omega
theorem y_ps_r (hW : y_W c s) {f : Int} : 0 ≤ y_ps c s o f := by
  obtain ⟨u0, u1⟩ := hW.1
  have := zsum_le (w := fun j => y_pt c s o j f) (lo := 0) (hi := 9) (c r_Section_jurorCount s 0 0).toNat 0 (fun i i0 i1 => y_pt_r hW i0 (by omega))
  unfold y_ps
  omega
theorem y_vl_r (hW : y_W c s) {x f : Int} : 0 ≤ y_vl x c s o f := by
  unfold y_vl
  split
  · exact (y_fs_r hW).1
  · exact y_ps_r hW
theorem y_withMost (hW : y_W c s) (hS : y_S c o C) {x : Int} (hx : x = 0 ∨ x = 1) : ∃ w, f_Count_withMost [s, x] C = ((0, [w]), C) ∧ y_Best (y_rk c s o) (y_vl x c s o) w := by
  have key : ∀ (t : Nat) (k w y : Int), 0 ≤ k → k + t = 20 → ((w = -1 ∧ y = -1 ∧ ∀ f, 0 ≤ f → f < k → y_rk c s o f = false) ∨ ((0 ≤ w ∧ w < k) ∧ y_rk c s o w = true ∧ y = y_vl x c s o w ∧ ∀ f, 0 ≤ f → f < k → y_rk c s o f = true → y_vl x c s o f ≤ y_vl x c s o w ∧ (f < w → y_vl x c s o f < y_vl x c s o w))) → ∃ w', g_Count_withMost ((1008, [s, x, w, y, k]), C) = ((0, [w']), C) ∧ y_Best (y_rk c s o) (y_vl x c s o) w' := by
    intro t
    induction t with
    | zero =>
      intro k w y k0 k1 hi
      have e : k = 20 := by omega
      refine ⟨w, by rw [g_Count_withMost_8, zb_d, if_pos (by omega)], ?_⟩
      rw [e] at hi
      rcases hi with ⟨i1, -, i3⟩ | ⟨i1, i2, -, i4⟩
      · exact Or.inl ⟨i1, i3⟩
      · exact Or.inr ⟨i1, i2, i4⟩
    | succ t ih =>
      intro k w y k0 k1 hi
      have hk : e_wr (k + 1) = k + 1 := e_wr_id (by omega) (by omega)
      have e8 : g_Count_withMost ((1008, [s, x, w, y, k]), C) = if y_rk c s o k = true then (if y_vl x c s o k ≤ y then g_Count_withMost ((1008, [s, x, w, y, k + 1]), C) else g_Count_withMost ((1008, [s, x, k, y_vl x c s o k, k + 1]), C)) else g_Count_withMost ((1008, [s, x, w, y, k + 1]), C) := by
        rw [g_Count_withMost_8, zb_d, if_neg (by omega), y_isRanked hW hS k0 (by omega), e_bnd, zb_d, zb_d, y_firstsOf hW hS, e_bnd, zb_d, y_pointsOf hW hS, e_bnd, zb_d, hk]
        unfold y_vl
        cases y_rk c s o k
        · rfl
        · rcases hx with rfl | rfl <;> rfl
      rw [e8]
      have hn := y_vl_r (o := o) hW (x := x) (f := k)
      by_cases q : y_rk c s o k = true
      · rw [if_pos q]
        rcases hi with ⟨rfl, rfl, i3⟩ | ⟨⟨i0, i1⟩, i2, i3, i4⟩
        · rw [if_neg (by omega)]
          refine ih (k + 1) k _ (by omega) (by omega) (Or.inr ⟨⟨k0, by omega⟩, q, rfl, fun f f0 f1 hf => ?_⟩)
          by_cases z : f = k
          · rw [z]
            exact ⟨Int.le_refl _, fun z => absurd z (by omega)⟩
          · rw [i3 f f0 (by omega)] at hf
            cases hf
        · rw [i3]
          by_cases v : y_vl x c s o k ≤ y_vl x c s o w
          · rw [if_pos v, ← i3]
            refine ih (k + 1) w y (by omega) (by omega) (Or.inr ⟨⟨i0, by omega⟩, i2, i3, fun f f0 f1 hf => ?_⟩)
            by_cases z : f = k
            · rw [z]
              exact ⟨v, fun z => by omega⟩
            · exact i4 f f0 (by omega) hf
          · rw [if_neg v]
            refine ih (k + 1) k _ (by omega) (by omega) (Or.inr ⟨⟨k0, by omega⟩, q, rfl, fun f f0 f1 hf => ?_⟩)
            by_cases z : f = k
            · rw [z]
              exact ⟨Int.le_refl _, fun z => absurd z (by omega)⟩
            · obtain ⟨j1, -⟩ := i4 f f0 (by omega) hf
              exact ⟨by omega, fun _ => by omega⟩
      · rw [if_neg q]
        have q' : y_rk c s o k = false := by simpa using q
        refine ih (k + 1) w y (by omega) (by omega) ?_
        rcases hi with ⟨i1, i2, i3⟩ | ⟨⟨i0, i1⟩, i2, i3, i4⟩
        · refine Or.inl ⟨i1, i2, fun f f0 f1 => ?_⟩
          by_cases z : f = k
          · rw [z]
            exact q'
          · exact i3 f f0 (by omega)
        · refine Or.inr ⟨⟨i0, by omega⟩, i2, i3, fun f f0 f1 hf => ?_⟩
          by_cases z : f = k
          · rw [z] at hf
            exact absurd hf q
          · exact i4 f f0 (by omega) hf
  show ∃ w, g_Count_withMost ((1000, [s, x]), C) = ((0, [w]), C) ∧ _
  rw [g_Count_withMost_0]
  exact key 20 0 (-1) (-1) (Int.le_refl _) (by decide) (Or.inl ⟨rfl, rfl, fun f _ _ => by omega⟩)
/-- who isn't beaten by a film -/
def y_lo (c : ZS) (s : Int) (o : Int → Int) (f g : Int) : Bool := decide (g ≠ f) && (y_rk c s o g && decide (y_le c s f g ≤ 0))
def y_D (c : ZS) (s : Int) (o : Int → Int) (f : Int) : Bool := y_rk c s o f && !zany (y_lo c s o f) 20 0
theorem y_wins (hW : y_W c s) (hS : y_S c o C) {f : Int} : f_Count_winsEachDuel [s, f] C = ((0, [zb (!zany (y_lo c s o f) 20 0)]), C) := by
  show g_Count_winsEachDuel ((1000, [s, f]), C) = _
  rw [g_Count_winsEachDuel_0]
  refine (zl_any (n := 20) (p := y_lo c s o f) (A := ((0, [0]), C)) (B := ((0, [1]), C)) (G := fun k => g_Count_winsEachDuel ((1002, [s, f, k]), C)) (fun k hk => ?_) (fun k k0 k1 => ?_) 20 0 (Int.le_refl _) (by omega)).trans ?_
  · rw [g_Count_winsEachDuel_2, zb_d, if_pos (by omega)]
  · have hk : e_wr (k + 1) = k + 1 := e_wr_id (by omega) (by omega)
    rw [g_Count_winsEachDuel_2, zb_d, if_neg (by omega), zb_d, y_isRanked hW hS k0 k1, e_bnd, zb_d, y_leadOf hW hS, e_bnd, zb_d, hk]
    unfold y_lo
    by_cases q1 : k = f
    · rw [if_pos q1, decide_eq_false (fun z => z q1), Bool.false_and, if_neg (by decide)]
    · rw [if_neg q1, decide_eq_true (show k ≠ f from q1), Bool.true_and]
      cases y_rk c s o k
      · rw [if_pos (by rfl), Bool.false_and, if_neg (by decide)]
      · rw [if_neg (by decide), Bool.true_and]
        by_cases q2 : 0 < y_le c s f k
        · rw [if_pos q2, decide_eq_false (by omega), if_neg (by decide)]
        · rw [if_neg q2, decide_eq_true (by omega), if_pos rfl]
  · unfold zb
    cases zany (y_lo c s o f) 20 0 <;> rfl
theorem y_byDuels (hW : y_W c s) (hS : y_S c o C) : ∃ d w, f_Count_byDuels [s] C = ((0, [if d = -1 then w else d]), C) ∧ y_One (y_D c s o) d ∧ y_Best (y_rk c s o) (y_vl 1 c s o) w := by
  obtain ⟨w, w1, w2⟩ := y_withMost hW hS (Or.inr rfl)
  have key : ∀ (t : Nat) (k : Int), 0 ≤ k → k + t = 20 → (∀ f, 0 ≤ f → f < k → y_D c s o f = false) → ∃ d, g_Count_byDuels ((1002, [s, k]), C) = ((0, [if d = -1 then w else d]), C) ∧ y_One (y_D c s o) d := by
    intro t
    induction t with
    | zero =>
      intro k k0 k1 hi
      have e : k = 20 := by omega
      rw [e] at hi
      refine ⟨-1, ?_, Or.inl ⟨rfl, hi⟩⟩
      rw [g_Count_byDuels_2, zb_d, if_pos (by omega), w1, e_bnd, if_pos rfl]
    | succ t ih =>
      intro k k0 k1 hi
      have hk : e_wr (k + 1) = k + 1 := e_wr_id (by omega) (by omega)
      rw [g_Count_byDuels_2, zb_d, if_neg (by omega), y_isRanked hW hS k0 (by omega), e_bnd, zb_d, y_wins hW hS, e_bnd, zb_d, hk]
      have hD : y_D c s o k = (y_rk c s o k && !zany (y_lo c s o k) 20 0) := rfl
      have next : y_D c s o k = false → ∃ d, g_Count_byDuels ((1002, [s, k + 1]), C) = ((0, [if d = -1 then w else d]), C) ∧ y_One (y_D c s o) d := fun hf => ih (k + 1) (by omega) (by omega) (fun f f0 f1 => by
        by_cases z : f = k
        · rw [z]
          exact hf
        · exact hi f f0 (by omega))
      cases e1 : y_rk c s o k
      · rw [if_pos (by rfl)]
        exact next (by rw [hD, e1]; rfl)
      · rw [if_neg (by decide)]
        cases e2 : zany (y_lo c s o k) 20 0
        · rw [if_neg (by decide)]
          refine ⟨k, by rw [if_neg (by omega)], Or.inr ⟨⟨k0, by omega⟩, by rw [hD, e1, e2]; rfl, hi⟩⟩
        · rw [if_pos (by rfl)]
          exact next (by rw [hD, e1, e2]; rfl)
  show ∃ d w, g_Count_byDuels ((1000, [s]), C) = ((0, [if d = -1 then w else d]), C) ∧ _
  rw [g_Count_byDuels_0]
  obtain ⟨d, d1, d2⟩ := key 20 0 (Int.le_refl _) (by decide) (fun f _ _ => by omega)
  exact ⟨d, w, d1, d2, w2⟩
theorem y_fewest (hW : y_W c s) (hS : y_S c o C) (hne : ∃ f, 0 ≤ f ∧ f < 20 ∧ y_rk c s o f = true) : ∃ g, f_Count_withFewestFirsts [s] C = ((0, [g]), C) ∧ y_Wst (y_rk c s o) (y_fs c s o) g := by
  have key : ∀ (t : Nat) (k w y : Int), 0 ≤ k → k + t = 20 → ((w = 0 ∧ y = 6 ∧ ∃ f, k ≤ f ∧ f < 20 ∧ y_rk c s o f = true) ∧ (∀ f, 0 ≤ f → f < k → y_rk c s o f = false) ∨ ((0 ≤ w ∧ w < k) ∧ y_rk c s o w = true ∧ y = y_fs c s o w ∧ ∀ f, 0 ≤ f → f < k → y_rk c s o f = true → y_fs c s o w ≤ y_fs c s o f ∧ (w < f → y_fs c s o w < y_fs c s o f))) → ∃ g, g_Count_withFewestFirsts ((1008, [s, w, y, k]), C) = ((0, [g]), C) ∧ y_Wst (y_rk c s o) (y_fs c s o) g := by
    intro t
    induction t with
    | zero =>
      intro k w y k0 k1 hi
      have e : k = 20 := by omega
      rw [e] at hi
      rcases hi with ⟨⟨-, -, f, f0, f1, -⟩, -⟩ | ⟨⟨i0, i1⟩, i2, -, i4⟩
      · omega
      · exact ⟨w, by rw [g_Count_withFewestFirsts_8, zb_d, if_pos (by omega)], ⟨i0, i1⟩, i2, i4⟩
    | succ t ih =>
      intro k w y k0 k1 hi
      have hk : e_wr (k + 1) = k + 1 := e_wr_id (by omega) (by omega)
      have h5 := y_fs_r (o := o) hW (f := k)
      have e8 := g_Count_withFewestFirsts_8 (x1 := s) (x2 := w) (x3 := y) (x4 := k) (S := C)
      rw [zb_d, if_neg (by omega), y_isRanked hW hS k0 (by omega), e_bnd, zb_d, y_firstsOf hW hS, e_bnd, zb_d, y_firstsOf hW hS, e_bnd, hk] at e8
      rw [e8]
      by_cases q : y_rk c s o k = true
      · rw [q, if_neg (by decide)]
        rcases hi with ⟨⟨rfl, rfl, -⟩, i3⟩ | ⟨⟨i0, i1⟩, i2, i3, i4⟩
        · rw [if_neg (by omega)]
          refine ih (k + 1) k _ (by omega) (by omega) (Or.inr ⟨⟨k0, by omega⟩, q, rfl, fun f f0 f1 hf => ?_⟩)
          by_cases z : f = k
          · rw [z]
            exact ⟨Int.le_refl _, fun z => absurd z (by omega)⟩
          · rw [i3 f f0 (by omega)] at hf
            cases hf
        · rw [i3]
          by_cases v : y_fs c s o w < y_fs c s o k
          · rw [if_pos v, ← i3]
            refine ih (k + 1) w y (by omega) (by omega) (Or.inr ⟨⟨i0, by omega⟩, i2, i3, fun f f0 f1 hf => ?_⟩)
            by_cases z : f = k
            · rw [z]
              exact ⟨by omega, fun _ => v⟩
            · exact i4 f f0 (by omega) hf
          · rw [if_neg v]
            refine ih (k + 1) k _ (by omega) (by omega) (Or.inr ⟨⟨k0, by omega⟩, q, rfl, fun f f0 f1 hf => ?_⟩)
            by_cases z : f = k
            · rw [z]
              exact ⟨Int.le_refl _, fun z => absurd z (by omega)⟩
            · obtain ⟨j1, -⟩ := i4 f f0 (by omega) hf
              exact ⟨by omega, fun _ => by omega⟩
      · have q' : y_rk c s o k = false := by simpa using q
        rw [q', if_pos (by rfl)]
        refine ih (k + 1) w y (by omega) (by omega) ?_
        rcases hi with ⟨⟨i1, i2, f, f0, f1, f2⟩, i3⟩ | ⟨⟨i0, i1⟩, i2, i3, i4⟩
        · refine Or.inl ⟨⟨i1, i2, f, ?_, f1, f2⟩, fun f f0 f1 => ?_⟩
          · by_cases e : f = k
            · rw [e] at f2
              exact absurd f2 q
            · omega
          · by_cases z : f = k
            · rw [z]
              exact q'
            · exact i3 f f0 (by omega)
        · refine Or.inr ⟨⟨i0, by omega⟩, i2, i3, fun f f0 f1 hf => ?_⟩
          by_cases z : f = k
          · rw [z] at hf
            exact absurd hf q
          · exact i4 f f0 (by omega) hf
  obtain ⟨f, f0, f1, f2⟩ := hne
  obtain ⟨g, g1, g2⟩ := key 20 0 0 6 (Int.le_refl _) (by decide) (Or.inl ⟨⟨rfl, rfl, f, f0, f1, f2⟩, fun f _ _ => by omega⟩)
  refine ⟨g, ?_, g2⟩
  show g_Count_withFewestFirsts ((1000, [s]), C) = _
  rw [g_Count_withFewestFirsts_0]
  exact g1
end

theorem y_S.k {c C C' : ZS} {o : Int → Int} (h : y_S c o C) (hk : ∀ r, [r_Count_tally, r_Count_isOnBallot, r_Count_leads_r].contains r = false → C' r = C r) : y_S c o C' := by
  refine ⟨fun r hr => ?_, fun f f0 f1 => ?_⟩
  · rw [← h.1 r hr]
    refine hk r ?_
    cases e : [r_Count_tally, r_Count_isOnBallot, r_Count_leads_r].contains r with
    | false => rfl
    | true =>
      have e : r ∈ [r_Count_tally, r_Count_isOnBallot, r_Count_leads_r] := by simpa using e
      have : r ∈ y_K := List.mem_cons_of_mem _ e
      rw [List.contains_iff_mem.mpr this] at hr
      cases hr
  · rw [hk r_Count_isOut (by decide)]
    exact h.2 f f0 f1
theorem y_upd {S : ZS} {r : Nat} {i j k z : Int} (h : [r_Count_tally, r_Count_isOnBallot, r_Count_leads_r].contains r = true) {r' : Nat} (h' : [r_Count_tally, r_Count_isOnBallot, r_Count_leads_r].contains r' = false) : e_upd S r i j k z r' = S r' := by
  funext a b d
  exact e_un (by
    cases e : r' == r with
    | false => rfl
    | true => rw [beq_iff_eq] at e; rw [e, h] at h'; cases h')
theorem y_S.u {c C : ZS} {o : Int → Int} (h : y_S c o C) {r : Nat} {i j k z : Int} (hr : [r_Count_tally, r_Count_isOnBallot, r_Count_leads_r].contains r = true) : y_S c o (e_upd C r i j k z) := h.k fun _ h' => y_upd hr h'
/-- what one ballot says of a duel, as long as only its places from i on are read -/
def y_lc (c : ZS) (s : Int) (o : Int → Int) (j i f g : Int) : Int := if y_P c s j f = -1 then 0 else if y_P c s j g = -1 then 0 else if y_P c s j f < y_P c s j g then (if i ≤ y_P c s j g ∧ o g = 0 then 1 else 0) else (if i ≤ y_P c s j f ∧ o f = 0 then -1 else 0)
/-- the arrays when the places from i on of a ballot are read; C: the state before -/
def y_T (c : ZS) (s : Int) (o : Int → Int) (j x : Int) (C : ZS) (i : Int) (S : ZS) : Prop := y_S c o S ∧ (∀ f, 0 ≤ f → f < 20 → S r_Count_isOnBallot 0 0 f = if i ≤ y_P c s j f ∧ o f = 0 then 1 else C r_Count_isOnBallot 0 0 f) ∧ (∀ f, 0 ≤ f → f < 20 → S r_Count_tally 0 0 f = C r_Count_tally 0 0 f + if x ≠ 0 ∧ (i ≤ y_P c s j f ∧ o f = 0) then y_pt c s o j f else 0) ∧ ∀ f g, 0 ≤ f → f < 20 → 0 ≤ g → g < 20 → f ≠ g → S r_Count_leads_r f 0 g = C r_Count_leads_r f 0 g + y_lc c s o j i f g
section
variable {c C : ZS} {o : Int → Int} {s j x : Int}
theorem y_tallyBallot (hW : y_W c s) (hS : y_S c o C) (j0 : 0 ≤ j) (j1 : j < c r_Section_jurorCount s 0 0) (hB : ∀ f, 0 ≤ f → f < 20 → 0 ≤ C r_Count_tally 0 0 f ∧ C r_Count_tally 0 0 f ≤ 100) (hL : ∀ f g, 0 ≤ f → f < 20 → 0 ≤ g → g < 20 → f ≠ g → -100 ≤ C r_Count_leads_r f 0 g ∧ C r_Count_leads_r f 0 g ≤ 100) : ∃ C', f_Count_tallyBallot [s, j, x] C = ((0, [zb (!decide (y_F c s o j = -1))]), C') ∧ y_S c o C' ∧ (∀ f, 0 ≤ f → f < 20 → C' r_Count_isOnBallot 0 0 f = if 0 ≤ y_P c s j f ∧ o f = 0 then 1 else C r_Count_isOnBallot 0 0 f) ∧ (∀ f, 0 ≤ f → f < 20 → C' r_Count_tally 0 0 f = C r_Count_tally 0 0 f + if x = 0 then (if y_F c s o j = f then 1 else 0) else (if o f = 0 then y_pt c s o j f else 0)) ∧ ∀ f g, 0 ≤ f → f < 20 → 0 ≤ g → g < 20 → f ≠ g → C' r_Count_leads_r f 0 g = C r_Count_leads_r f 0 g + y_lc c s o j 0 f g := by
  obtain ⟨⟨n0, n1⟩, hb, inj⟩ := hW.2 j j0 j1
  have hP := fun f => y_P_r hW j0 j1 (f := f)
  have key : ∀ (t : Nat) (i : Int) (S : ZS) (u : Nat), i = t → i + u = c r_Juror_ballotSize s j 0 → y_T c s o j x C i S → ∃ C', g_Count_tallyBallot ((1013, [s, j, x, zcnt (y_nb c s o j) u i, y_fst (fun k => c r_Juror_ballot s j k) o u i, i - 1]), S) = ((0, [zb (!decide (y_F c s o j = -1))]), C') ∧ y_S c o C' ∧ (∀ f, 0 ≤ f → f < 20 → C' r_Count_isOnBallot 0 0 f = if 0 ≤ y_P c s j f ∧ o f = 0 then 1 else C r_Count_isOnBallot 0 0 f) ∧ (∀ f, 0 ≤ f → f < 20 → C' r_Count_tally 0 0 f = C r_Count_tally 0 0 f + if x = 0 then (if y_F c s o j = f then 1 else 0) else (if o f = 0 then y_pt c s o j f else 0)) ∧ ∀ f g, 0 ≤ f → f < 20 → 0 ≤ g → g < 20 → f ≠ g → C' r_Count_leads_r f 0 g = C r_Count_leads_r f 0 g + y_lc c s o j 0 f g := by
    intro t
    induction t with
    | zero =>
      intro i S u i0 iu hT
      have e0 : i = 0 := by omega
      subst e0
      have eu : u = (c r_Juror_ballotSize s j 0).toNat := by omega
      subst eu
      obtain ⟨tS, tO, tT, tL⟩ := hT
      have ptz : ∀ f, ¬ 0 ≤ y_P c s j f → y_pt c s o j f = 0 := fun f hf => by
        have := hP f
        unfold y_pt
        rw [if_pos (by omega)]
      have eF : y_fst (fun k => c r_Juror_ballot s j k) o (c r_Juror_ballotSize s j 0).toNat 0 = y_F c s o j := rfl
      have hF := y_fst_r (b := fun k => c r_Juror_ballot s j k) (o := o) (c r_Juror_ballotSize s j 0).toNat 0
      rw [eF] at hF ⊢
      rw [g_Count_tallyBallot_13, zb_d, if_pos (by omega)]
      simp only [zb_d, zb_n]
      by_cases q : y_F c s o j = -1
      · simp only [if_pos q, decide_eq_true q]
        refine ⟨S, rfl, tS, tO, fun f f0 f1 => ?_, tL⟩
        rw [tT f f0 f1]
        by_cases hx : x = 0
        · rw [if_neg (fun z => z.1 hx), if_pos hx, if_neg (by omega)]
        · rw [if_neg hx]
          by_cases hf : 0 ≤ y_P c s j f ∧ o f = 0
          · rw [if_pos ⟨hx, hf⟩, if_pos hf.2]
          · rw [if_neg (fun z => hf z.2)]
            by_cases ho : o f = 0
            · rw [if_pos ho, ptz f (fun z => hf ⟨z, ho⟩)]
            · rw [if_neg ho]
      · simp only [if_neg q, decide_eq_false q]
        by_cases hx : x = 0
        · simp only [if_pos hx]
          rcases hF with hF | ⟨hF, k, k0, k1, hk⟩
          · exact absurd hF q
          · obtain ⟨b0, b1⟩ := hb k k0 (by omega)
            have hk : c r_Juror_ballot s j k = y_F c s o j := hk
            rw [hk] at b0 b1
            have tF := tT (y_F c s o j) b0 b1
            rw [if_neg (fun z => z.1 hx), Int.add_zero] at tF
            obtain ⟨c0, c1⟩ := hB (y_F c s o j) b0 b1
            have hw : e_wr (S r_Count_tally 0 0 (y_F c s o j) + 1) = S r_Count_tally 0 0 (y_F c s o j) + 1 := e_wr_id (by omega) (by omega)
            refine ⟨_, rfl, tS.u (by decide), fun f f0 f1 => ?_, fun f f0 f1 => ?_, fun f g f0 f1 g0 g1 fg => ?_⟩
            · rw [e_un (by decide)]
              exact tO f f0 f1
            · rw [e_ur, hw, tF]
              by_cases z : f = y_F c s o j
              · rw [if_pos ⟨rfl, rfl, z⟩, if_pos z.symm, z]
              · rw [if_neg (fun y => z y.2.2), if_neg (fun y => z y.symm), tT f f0 f1, if_neg (fun y => y.1 hx)]
            · rw [e_un (by decide)]
              exact tL f g f0 f1 g0 g1 fg
        · simp only [if_neg hx]
          refine ⟨S, rfl, tS, tO, fun f f0 f1 => ?_, tL⟩
          rw [tT f f0 f1]
          by_cases hf : 0 ≤ y_P c s j f ∧ o f = 0
          · rw [if_pos ⟨hx, hf⟩, if_pos hf.2]
          · rw [if_neg (fun z => hf z.2)]
            by_cases ho : o f = 0
            · rw [if_pos ho, ptz f (fun z => hf ⟨z, ho⟩)]
            · rw [if_neg ho]
    | succ t ih =>
      intro i S u i0 iu hT
      obtain ⟨k, hk⟩ : ∃ k : Int, k = i - 1 := ⟨_, rfl⟩
      have hi : i = k + 1 := by omega
      subst hi
      have k0 : 0 ≤ k := by omega
      have k1 : k < c r_Juror_ballotSize s j 0 := by omega
      obtain ⟨tS, tO, tT, tL⟩ := id hT
      obtain ⟨b0, b1⟩ := hb k k0 k1
      have e1 := tS.1 r_Juror_ballot (by decide)
      have ew : e_wr (k + -1) = k - 1 := by rw [e_wr_id (by omega) (by omega)]; omega
      have at' : y_P c s j (c r_Juror_ballot s j k) = k := y_P_at hW j0 j1 k0 k1
      have ek : k + 1 - 1 = k := by omega
      have only : ∀ f, y_P c s j f = k → f = c r_Juror_ballot s j k := fun f hf => by
        rcases hP f with h | ⟨-, -, h⟩
        · omega
        · rw [hf] at h
          exact h.symm
      have e13 := g_Count_tallyBallot_13 (x1 := s) (x2 := j) (x3 := x) (x4 := zcnt (y_nb c s o j) u (k + 1)) (x5 := y_fst (fun k => c r_Juror_ballot s j k) o u (k + 1)) (x6 := k) (S := S)
      rw [zb_d, if_neg (by omega), zb_n, e1, tS.2 _ b0 b1, ew, zb_d] at e13
      rw [ek, e13]
      by_cases q : o (c r_Juror_ballot s j k) = 0
      · rw [if_pos q]
        have hz := zcnt_le (y_nb c s o j) u (k + 1)
        have hw4 : e_wr (zcnt (y_nb c s o j) u (k + 1) + 1) = zcnt (y_nb c s o j) (u + 1) k := by
          rw [e_wr_id (by omega) (by omega), zcnt, if_pos (decide_eq_true q)]
          omega
        have hpt : y_pt c s o j (c r_Juror_ballot s j k) = zcnt (y_nb c s o j) u (k + 1) := by
          unfold y_pt
          rw [at', if_neg (by omega), show (c r_Juror_ballotSize s j 0 - (k + 1)).toNat = u by omega]
        have hfst : y_fst (fun k => c r_Juror_ballot s j k) o (u + 1) k = c r_Juror_ballot s j k := by
          rw [y_fst]
          exact if_pos q
        have tH := tT (c r_Juror_ballot s j k) b0 b1
        rw [at', if_neg (fun z => by omega), Int.add_zero] at tH
        obtain ⟨c0, c1⟩ := hB _ b0 b1
        have hwA : e_wr (S r_Count_tally 0 0 (c r_Juror_ballot s j k) + 0) = S r_Count_tally 0 0 (c r_Juror_ballot s j k) := by rw [Int.add_zero]; exact e_wr_id (by omega) (by omega)
        have hwB : e_wr (S r_Count_tally 0 0 (c r_Juror_ballot s j k) + zcnt (y_nb c s o j) u (k + 1)) = S r_Count_tally 0 0 (c r_Juror_ballot s j k) + zcnt (y_nb c s o j) u (k + 1) := e_wr_id (by omega) (by omega)
        rw [hw4, hwA, hwB, e_nb1]
        have inner : ∀ (v : Nat) (l : Int) (S' : ZS), 0 ≤ l → l + v = k → y_S c o S' → (∀ f, 0 ≤ f → f < 20 → S' r_Count_isOnBallot 0 0 f = if k ≤ y_P c s j f ∧ o f = 0 then 1 else C r_Count_isOnBallot 0 0 f) → (∀ f, 0 ≤ f → f < 20 → S' r_Count_tally 0 0 f = C r_Count_tally 0 0 f + if x ≠ 0 ∧ (k ≤ y_P c s j f ∧ o f = 0) then y_pt c s o j f else 0) → (∀ f g, 0 ≤ f → f < 20 → 0 ≤ g → g < 20 → f ≠ g → S' r_Count_leads_r f 0 g = C r_Count_leads_r f 0 g + y_lc c s o j (k + 1) f g + (if y_P c s j g = k ∧ (0 ≤ y_P c s j f ∧ y_P c s j f < l) then 1 else 0) - (if y_P c s j f = k ∧ (0 ≤ y_P c s j g ∧ y_P c s j g < l) then 1 else 0)) → ∃ S2, g_Count_tallyBallot ((1074, [s, j, x, zcnt (y_nb c s o j) (u + 1) k, c r_Juror_ballot s j k, k, c r_Juror_ballot s j k, l]), S') = g_Count_tallyBallot ((1013, [s, j, x, zcnt (y_nb c s o j) (u + 1) k, c r_Juror_ballot s j k, k - 1]), S2) ∧ y_T c s o j x C k S2 := by
          intro v
          induction v with
          | zero =>
            intro l S' l0 lv vS vO vT vL
            have el : l = k := by omega
            subst el
            refine ⟨S', by rw [g_Count_tallyBallot_74, zb_d, if_pos (Int.le_refl _), ew], vS, vO, vT, fun f g f0 f1 g0 g1 fg => ?_⟩
            rw [vL f g f0 f1 g0 g1 fg]
            have pf := hP f
            have pg := hP g
            have of' := only f
            have og' := only g
            have oo : ∀ f, y_P c s j f = l → o f = 0 := fun f hf => by rw [only f hf]; exact q
            have oof := oo f
            have oog := oo g
            have ne : ¬ (y_P c s j f = l ∧ y_P c s j g = l) := fun z => fg ((only f z.1).trans (only g z.2).symm)
            have nab : 0 ≤ y_P c s j f → y_P c s j f ≠ y_P c s j g := fun z w => by
              rcases pf with pf | ⟨-, -, pf⟩
              · omega
              · rcases pg with pg | ⟨-, -, pg⟩
                · omega
                · rw [w, pg] at pf
                  exact fg pf.symm
            unfold y_lc
            by_cases h1 : y_P c s j f = -1
            · simp only [if_pos h1]
              rw [if_neg (by omega), if_neg (by omega)]
              omega
            · by_cases h2 : y_P c s j g = -1
              · simp only [if_neg h1, if_pos h2]
                rw [if_neg (by omega), if_neg (by omega)]
                omega
              · simp only [if_neg h1, if_neg h2]
                by_cases h3 : y_P c s j f < y_P c s j g
                · simp only [if_pos h3]
                  rw [if_neg (show ¬ (y_P c s j f = l ∧ (0 ≤ y_P c s j g ∧ y_P c s j g < l)) by omega)]
                  by_cases h4 : y_P c s j g = l
                  · have := oog h4
                    rw [if_neg (by omega), if_pos (show y_P c s j g = l ∧ (0 ≤ y_P c s j f ∧ y_P c s j f < l) by omega), if_pos (by omega)]
                    omega
                  · rw [if_neg (show ¬ (y_P c s j g = l ∧ (0 ≤ y_P c s j f ∧ y_P c s j f < l)) by omega)]
                    by_cases h5 : l + 1 ≤ y_P c s j g ∧ o g = 0
                    · rw [if_pos h5, if_pos (by omega)]
                      omega
                    · rw [if_neg h5, if_neg (by omega)]
                      omega
                · simp only [if_neg h3]
                  have h3' := nab (by omega)
                  rw [if_neg (show ¬ (y_P c s j g = l ∧ (0 ≤ y_P c s j f ∧ y_P c s j f < l)) by omega)]
                  by_cases h4 : y_P c s j f = l
                  · have := oof h4
                    rw [if_neg (by omega), if_pos (show y_P c s j f = l ∧ (0 ≤ y_P c s j g ∧ y_P c s j g < l) by omega), if_pos (by omega)]
                    omega
                  · rw [if_neg (show ¬ (y_P c s j f = l ∧ (0 ≤ y_P c s j g ∧ y_P c s j g < l)) by omega)]
                    by_cases h5 : l + 1 ≤ y_P c s j f ∧ o f = 0
                    · rw [if_pos h5, if_pos (by omega)]
                      omega
                    · rw [if_neg h5, if_neg (by omega)]
                      omega
          | succ v ihv =>
            intro l S' l0 lv vS vO vT vL
            have hl : e_wr (l + 1) = l + 1 := e_wr_id (by omega) (by omega)
            have hne : c r_Juror_ballot s j l ≠ c r_Juror_ballot s j k := inj l k l0 (by omega) k1
            obtain ⟨d0, d1⟩ := hb l l0 (by omega)
            have atl : y_P c s j (c r_Juror_ballot s j l) = l := y_P_at hW j0 j1 l0 (by omega)
            have e2 := vS.1 r_Juror_ballot (by decide)
            have lcr : ∀ f g, -1 ≤ y_lc c s o j (k + 1) f g ∧ y_lc c s o j (k + 1) f g ≤ 1 := fun f g => by
              unfold y_lc
              repeat' split
              all_goals omega
            have w1 := vL _ _ d0 d1 b0 b1 hne
            have w2 := vL _ _ b0 b1 d0 d1 (Ne.symm hne)
            have r1 := hL _ _ d0 d1 b0 b1 hne
            have r2 := hL _ _ b0 b1 d0 d1 (Ne.symm hne)
            have s1 := lcr (c r_Juror_ballot s j l) (c r_Juror_ballot s j k)
            have s2 := lcr (c r_Juror_ballot s j k) (c r_Juror_ballot s j l)
            rw [atl, at', if_neg (by omega), if_neg (by omega)] at w1
            rw [atl, at', if_neg (by omega), if_neg (by omega)] at w2
            have x1 : e_wr (S' r_Count_leads_r (c r_Juror_ballot s j l) 0 (c r_Juror_ballot s j k) + 1) = S' r_Count_leads_r (c r_Juror_ballot s j l) 0 (c r_Juror_ballot s j k) + 1 := e_wr_id (by omega) (by omega)
            have x2 : e_wr (S' r_Count_leads_r (c r_Juror_ballot s j k) 0 (c r_Juror_ballot s j l) - 1) = S' r_Count_leads_r (c r_Juror_ballot s j k) 0 (c r_Juror_ballot s j l) - 1 := e_wr_id (by omega) (by omega)
            have eq := g_Count_tallyBallot_74 (x1 := s) (x2 := j) (x3 := x) (x4 := zcnt (y_nb c s o j) (u + 1) k) (x5 := c r_Juror_ballot s j k) (x6 := k) (x7 := c r_Juror_ballot s j k) (x8 := l) (S := S')
            rw [zb_d, if_neg (by omega), e2, e_ur, if_neg (fun z => hne z.1.symm), x1, x2, hl] at eq
            rw [eq]
            refine ihv (l + 1) _ (by omega) (by omega) ((vS.u (by decide)).u (by decide)) (fun f f0 f1 => ?_) (fun f f0 f1 => ?_) (fun f g f0 f1 g0 g1 fg => ?_)
            · rw [e_un (by decide), e_un (by decide)]
              exact vO f f0 f1
            · rw [e_un (by decide), e_un (by decide)]
              exact vT f f0 f1
            · have pf := hP f
              have pg := hP g
              have onl : ∀ f, y_P c s j f = l → f = c r_Juror_ballot s j l := fun f hf => by
                rcases hP f with h | ⟨-, -, h⟩
                · omega
                · rw [hf] at h
                  exact h.symm
              rw [e_ur, e_ur]
              by_cases z1 : f = c r_Juror_ballot s j k ∧ (0 : Int) = 0 ∧ g = c r_Juror_ballot s j l
              · rw [if_pos z1, w2, z1.1, z1.2.2, atl, at', if_neg (by omega), if_pos (by omega)]
                omega
              · rw [if_neg z1]
                by_cases z2 : f = c r_Juror_ballot s j l ∧ (0 : Int) = 0 ∧ g = c r_Juror_ballot s j k
                · rw [if_pos z2, w1, z2.1, z2.2.2, atl, at', if_pos (by omega), if_neg (by omega)]
                  omega
                · rw [if_neg z2, vL f g f0 f1 g0 g1 fg]
                  have y1 : ¬ (y_P c s j f = k ∧ y_P c s j g = l) := fun z => z1 ⟨only f z.1, rfl, onl g z.2⟩
                  have y2 : ¬ (y_P c s j f = l ∧ y_P c s j g = k) := fun z => z2 ⟨onl f z.1, rfl, only g z.2⟩
                  congr 1
                  · congr 1
                    by_cases h : y_P c s j g = k ∧ (0 ≤ y_P c s j f ∧ y_P c s j f < l)
                    · rw [if_pos h, if_pos (by omega)]
                    · rw [if_neg h, if_neg (by omega)]
                  · by_cases h : y_P c s j f = k ∧ (0 ≤ y_P c s j g ∧ y_P c s j g < l)
                    · rw [if_pos h, if_pos (by omega)]
                    · rw [if_neg h, if_neg (by omega)]
        have start : ∀ z, (z = if x = 0 then S r_Count_tally 0 0 (c r_Juror_ballot s j k) else S r_Count_tally 0 0 (c r_Juror_ballot s j k) + zcnt (y_nb c s o j) u (k + 1)) → ∃ S2, g_Count_tallyBallot ((1074, [s, j, x, zcnt (y_nb c s o j) (u + 1) k, c r_Juror_ballot s j k, k, c r_Juror_ballot s j k, 0]), e_upd (e_upd S r_Count_isOnBallot 0 0 (c r_Juror_ballot s j k) 1) r_Count_tally 0 0 (c r_Juror_ballot s j k) z) = g_Count_tallyBallot ((1013, [s, j, x, zcnt (y_nb c s o j) (u + 1) k, c r_Juror_ballot s j k, k - 1]), S2) ∧ y_T c s o j x C k S2 := fun z hz => by
          refine inner k.toNat 0 _ (Int.le_refl _) (by omega) ((tS.u (by decide)).u (by decide)) (fun f f0 f1 => ?_) (fun f f0 f1 => ?_) (fun f g f0 f1 g0 g1 fg => ?_)
          · rw [e_un (by decide), e_ur]
            by_cases w : f = c r_Juror_ballot s j k
            · rw [if_pos ⟨rfl, rfl, w⟩, w, at', if_pos ⟨Int.le_refl _, q⟩]
            · rw [if_neg (fun y => w y.2.2), tO f f0 f1]
              have hne : y_P c s j f ≠ k := fun y => w (only f y)
              by_cases h : k + 1 ≤ y_P c s j f ∧ o f = 0
              · rw [if_pos h, if_pos ⟨by omega, h.2⟩]
              · rw [if_neg h, if_neg (fun y => h ⟨by omega, y.2⟩)]
          · rw [e_ur]
            by_cases w : f = c r_Juror_ballot s j k
            · rw [if_pos ⟨rfl, rfl, w⟩, hz, w, at', tH, hpt]
              by_cases hx : x = 0
              · rw [if_pos hx, if_neg (fun y => y.1 hx), Int.add_zero]
              · rw [if_neg hx, if_pos ⟨hx, Int.le_refl _, q⟩]
            · rw [if_neg (fun y => w y.2.2), e_un (by decide), tT f f0 f1]
              have hne : y_P c s j f ≠ k := fun y => w (only f y)
              by_cases h : x ≠ 0 ∧ (k + 1 ≤ y_P c s j f ∧ o f = 0)
              · rw [if_pos h, if_pos ⟨h.1, by omega, h.2.2⟩]
              · rw [if_neg h, if_neg (fun y => h ⟨y.1, by omega, y.2.2⟩)]
          · rw [e_un (by decide), e_un (by decide), tL f g f0 f1 g0 g1 fg, if_neg (by omega), if_neg (by omega)]
            omega
        by_cases hx : x = 0
        · rw [if_pos hx]
          obtain ⟨S2, h1, h2⟩ := start (S r_Count_tally 0 0 (c r_Juror_ballot s j k)) (by rw [if_pos hx])
          rw [h1]
          have := ih k S2 (u + 1) (by omega) (by omega) h2
          rw [hfst] at this
          exact this
        · rw [if_neg hx]
          obtain ⟨S2, h1, h2⟩ := start (S r_Count_tally 0 0 (c r_Juror_ballot s j k) + zcnt (y_nb c s o j) u (k + 1)) (by rw [if_neg hx])
          rw [h1]
          have := ih k S2 (u + 1) (by omega) (by omega) h2
          rw [hfst] at this
          exact this
      · rw [if_neg q]
        have hz4 : zcnt (y_nb c s o j) (u + 1) k = zcnt (y_nb c s o j) u (k + 1) := by
          rw [zcnt, if_neg (show ¬ decide (o (c r_Juror_ballot s j k) = 0) = true by rw [decide_eq_false q]; decide), Int.zero_add]
        have hfst : y_fst (fun k => c r_Juror_ballot s j k) o (u + 1) k = y_fst (fun k => c r_Juror_ballot s j k) o u (k + 1) := by
          rw [y_fst]
          exact if_neg q
        have no : ∀ f, o f = 0 → y_P c s j f ≠ k := fun f ho hf => by
          rw [only f hf] at ho
          exact q ho
        have hT' : y_T c s o j x C k S := by
          refine ⟨tS, fun f f0 f1 => ?_, fun f f0 f1 => ?_, fun f g f0 f1 g0 g1 fg => ?_⟩
          · rw [tO f f0 f1]
            have := no f
            by_cases h : k + 1 ≤ y_P c s j f ∧ o f = 0
            · rw [if_pos h, if_pos ⟨by omega, h.2⟩]
            · rw [if_neg h, if_neg (fun y => h ⟨by have := this y.2; omega, y.2⟩)]
          · rw [tT f f0 f1]
            have := no f
            by_cases h : x ≠ 0 ∧ (k + 1 ≤ y_P c s j f ∧ o f = 0)
            · rw [if_pos h, if_pos ⟨h.1, by omega, h.2.2⟩]
            · rw [if_neg h, if_neg (fun y => h ⟨y.1, by have := this y.2.2; omega, y.2.2⟩)]
          · rw [tL f g f0 f1 g0 g1 fg]
            have nf := no f
            have ng := no g
            unfold y_lc
            congr 1
            by_cases h1 : y_P c s j f = -1
            · simp only [if_pos h1]
            · by_cases h2 : y_P c s j g = -1
              · simp only [if_neg h1, if_pos h2]
              · simp only [if_neg h1, if_neg h2]
                by_cases h3 : y_P c s j f < y_P c s j g
                · simp only [if_pos h3]
                  by_cases h : k + 1 ≤ y_P c s j g ∧ o g = 0
                  · rw [if_pos h, if_pos ⟨by omega, h.2⟩]
                  · rw [if_neg h, if_neg (fun y => h ⟨by have := ng y.2; omega, y.2⟩)]
                · simp only [if_neg h3]
                  by_cases h : k + 1 ≤ y_P c s j f ∧ o f = 0
                  · rw [if_pos h, if_pos ⟨by omega, h.2⟩]
                  · rw [if_neg h, if_neg (fun y => h ⟨by have := nf y.2; omega, y.2⟩)]
        have := ih k S (u + 1) (by omega) (by omega) hT'
        rw [hz4, hfst] at this
        exact this
  show ∃ C', g_Count_tallyBallot ((1000, [s, j, x]), C) = ((0, [zb (!decide (y_F c s o j = -1))]), C') ∧ _
  rw [g_Count_tallyBallot_0, hS.1 r_Juror_ballotSize (by decide), e_wr_id (by omega) (by omega)]
  refine key (c r_Juror_ballotSize s j 0).toNat (c r_Juror_ballotSize s j 0) C 0 (by omega) (by omega) ⟨hS, fun f f0 f1 => ?_, fun f f0 f1 => ?_, fun f g f0 f1 g0 g1 fg => ?_⟩
  · have := hP f
    rw [if_neg (by omega)]
  · have := hP f
    rw [if_neg (by omega), Int.add_zero]
  · have := hP f
    have := hP g
    unfold y_lc
    rw [if_neg (show ¬ (c r_Juror_ballotSize s j 0 ≤ y_P c s j g ∧ o g = 0) by omega), if_neg (show ¬ (c r_Juror_ballotSize s j 0 ≤ y_P c s j f ∧ o f = 0) by omega)]
    repeat' split
    all_goals omega
end

/-- the arrays when the ballots before k are read -/
def y_A (c : ZS) (s : Int) (o : Int → Int) (x k : Int) (S : ZS) : Prop := y_S c o S ∧ (∀ f, 0 ≤ f → f < 20 → S r_Count_isOnBallot 0 0 f = zb (decide (o f = 0) && zany (fun j => !decide (y_P c s j f = -1)) k.toNat 0)) ∧ (∀ f, 0 ≤ f → f < 20 → S r_Count_tally 0 0 f = if x = 0 then zcnt (fun j => decide (y_F c s o j = f)) k.toNat 0 else (if o f = 0 then zsum (fun j => y_pt c s o j f) k.toNat 0 else 0)) ∧ ∀ f g, 0 ≤ f → f < 20 → 0 ≤ g → g < 20 → f ≠ g → S r_Count_leads_r f 0 g = zsum (fun j => y_lc c s o j 0 f g) k.toNat 0
section
variable {c C : ZS} {o : Int → Int} {s x : Int}
theorem y_lc_r {j i f g : Int} : -1 ≤ y_lc c s o j i f g ∧ y_lc c s o j i f g ≤ 1 := by
  unfold y_lc
  repeat' split
  all_goals omega
theorem y_clear (hS : y_S c o C) {v : Int} : ∃ S, g_Count_tallyBallots ((1005, [s, x, v, 0]), C) = g_Count_tallyBallots ((1064, [s, x, v, 0]), S) ∧ y_A c s o x 0 S := by
  have key : ∀ (t : Nat) (f : Int) (S : ZS), 0 ≤ f → f + t = 20 → y_S c o S → (∀ g, 0 ≤ g → g < f → S r_Count_isOnBallot 0 0 g = 0 ∧ S r_Count_tally 0 0 g = 0) → (∀ g h, 0 ≤ g → g < f → 0 ≤ h → h < 20 → S r_Count_leads_r g 0 h = 0) → ∃ S', g_Count_tallyBallots ((1005, [s, x, v, f]), S) = g_Count_tallyBallots ((1064, [s, x, v, 0]), S') ∧ y_A c s o x 0 S' := by
    intro t
    induction t with
    | zero =>
      intro f S f0 f1 h1 h2 h3
      refine ⟨S, by rw [g_Count_tallyBallots_5, zb_d, if_pos (by omega)], h1, fun g g0 g1 => ?_, fun g g0 g1 => ?_, fun g h g0 g1 h0 h1 _ => ?_⟩
      · rw [(h2 g g0 (by omega)).1]
        show (0 : Int) = zb (decide (o g = 0) && false)
        rw [Bool.and_false]
        rfl
      · rw [(h2 g g0 (by omega)).2]
        show (0 : Int) = if x = 0 then 0 else (if o g = 0 then 0 else 0)
        repeat' split
        all_goals rfl
      · exact h3 g h g0 (by omega) h0 h1
    | succ t ih =>
      intro f S f0 f1 h1 h2 h3
      have hf : e_wr (f + 1) = f + 1 := e_wr_id (by omega) (by omega)
      rw [g_Count_tallyBallots_5, zb_d, if_neg (by omega), e_nb0]
      have inner : ∀ (u : Nat) (g : Int) (S' : ZS), 0 ≤ g → g + u = 20 → y_S c o S' → (∀ g, 0 ≤ g → g < f + 1 → S' r_Count_isOnBallot 0 0 g = 0 ∧ S' r_Count_tally 0 0 g = 0) → (∀ h k, 0 ≤ h → h < f → 0 ≤ k → k < 20 → S' r_Count_leads_r h 0 k = 0) → (∀ k, 0 ≤ k → k < g → S' r_Count_leads_r f 0 k = 0) → ∃ S2, g_Count_tallyBallots ((1031, [s, x, v, f, g]), S') = g_Count_tallyBallots ((1005, [s, x, v, f + 1]), S2) ∧ y_S c o S2 ∧ (∀ g, 0 ≤ g → g < f + 1 → S2 r_Count_isOnBallot 0 0 g = 0 ∧ S2 r_Count_tally 0 0 g = 0) ∧ (∀ h k, 0 ≤ h → h < f + 1 → 0 ≤ k → k < 20 → S2 r_Count_leads_r h 0 k = 0) := by
        intro u
        induction u with
        | zero =>
          intro g S' g0 g1 k1 k2 k3 k4
          refine ⟨S', by rw [g_Count_tallyBallots_31, zb_d, if_pos (by omega), hf], k1, k2, fun h k a1 a2 a3 a4 => ?_⟩
          by_cases e : h = f
          · rw [e]
            exact k4 k a3 (by omega)
          · exact k3 h k a1 (by omega) a3 a4
        | succ u ihu =>
          intro g S' g0 g1 k1 k2 k3 k4
          have hg : e_wr (g + 1) = g + 1 := e_wr_id (by omega) (by omega)
          rw [g_Count_tallyBallots_31, zb_d, if_neg (by omega), hg]
          refine ihu (g + 1) _ (by omega) (by omega) (k1.u (by decide)) (fun k a1 a2 => ?_) (fun h k a1 a2 a3 a4 => ?_) (fun k a1 a2 => ?_)
          · rw [e_un (by decide), e_un (by decide)]
            exact k2 k a1 a2
          · rw [e_ur, if_neg (by omega)]
            exact k3 h k a1 a2 a3 a4
          · rw [e_ur]
            by_cases e : k = g
            · rw [if_pos ⟨rfl, rfl, e⟩]
            · rw [if_neg (fun z => e z.2.2)]
              exact k4 k a1 (by omega)
      obtain ⟨S2, a1, a2, a3, a4⟩ := inner 20 0 (e_upd (e_upd S r_Count_tally 0 0 f 0) r_Count_isOnBallot 0 0 f 0) (Int.le_refl _) (by decide) ((h1.u (by decide)).u (by decide)) (fun g g0 g1 => by
        rw [e_ur, e_un (by decide), e_un (by decide), e_ur]
        by_cases e : g = f
        · rw [if_pos ⟨rfl, rfl, e⟩, if_pos ⟨rfl, rfl, e⟩]
          exact ⟨rfl, rfl⟩
        · rw [if_neg (fun z => e z.2.2), if_neg (fun z => e z.2.2)]
          exact h2 g g0 (by omega)) (fun h k b1 b2 b3 b4 => by
        rw [e_un (by decide), e_un (by decide)]
        exact h3 h k b1 b2 b3 b4) (fun k b1 b2 => by omega)
      rw [a1]
      exact ih (f + 1) S2 (by omega) (by omega) a2 a3 a4
  exact key 20 0 C (Int.le_refl _) (by decide) hS (fun g _ _ => by omega) (fun g h _ _ => by omega)
theorem y_tallyBallots (hW : y_W c s) (hS : y_S c o C) : ∃ S, f_Count_tallyBallots [s, x] C = ((0, [y_vo c s o]), S) ∧ y_A c s o x (c r_Section_jurorCount s 0 0) S := by
  obtain ⟨u0, u1⟩ := hW.1
  have key : ∀ (t : Nat) (k v : Int) (S : ZS), 0 ≤ k → k + t = c r_Section_jurorCount s 0 0 → 0 ≤ v → v ≤ k → y_A c s o x k S → ∃ S', g_Count_tallyBallots ((1064, [s, x, v, k]), S) = ((0, [v + zcnt (fun j => !decide (y_F c s o j = -1)) t k]), S') ∧ y_A c s o x (c r_Section_jurorCount s 0 0) S' := by
    intro t
    induction t with
    | zero =>
      intro k v S k0 k1 v0 v1 hA
      have e : k = c r_Section_jurorCount s 0 0 := by omega
      refine ⟨S, ?_, e ▸ hA⟩
      rw [g_Count_tallyBallots_64, zb_d, hA.1.1 r_Section_jurorCount (by decide), if_pos (by omega), zcnt, Int.add_zero]
    | succ t ih =>
      intro k v S k0 k1 v0 v1 hA
      obtain ⟨a1, a2, a3, a4⟩ := hA
      have hk : e_wr (k + 1) = k + 1 := e_wr_id (by omega) (by omega)
      have hv : e_wr (v + 1) = v + 1 := e_wr_id (by omega) (by omega)
      have ek : (k + 1).toNat = k.toNat + 1 := by omega
      have e0 : (0 : Int) + (k.toNat : Int) = k := by omega
      have kJ : k < c r_Section_jurorCount s 0 0 := by omega
      obtain ⟨C', b1, b2, b3, b4, b5⟩ := y_tallyBallot (x := x) hW a1 k0 kJ (fun f f0 f1 => by
        rw [a3 f f0 f1]
        have h1 := zcnt_le (fun j => decide (y_F c s o j = f)) k.toNat 0
        have h2 := zsum_le (w := fun j => y_pt c s o j f) (lo := 0) (hi := 9) k.toNat 0 (fun i i0 i1 => y_pt_r hW i0 (by omega))
        split
        · omega
        · split <;> omega) (fun f g f0 f1 g0 g1 fg => by
        rw [a4 f g f0 f1 g0 g1 fg]
        have h2 := zsum_le (w := fun j => y_lc c s o j 0 f g) (lo := -1) (hi := 1) k.toNat 0 (fun i i0 i1 => y_lc_r)
        omega)
      have hA' : y_A c s o x (k + 1) C' := by
        refine ⟨b2, fun f f0 f1 => ?_, fun f f0 f1 => ?_, fun f g f0 f1 g0 g1 fg => ?_⟩
        · rw [b3 f f0 f1, a2 f f0 f1, ek, y_any_app, e0]
          have hp := y_P_r hW k0 kJ (f := f)
          by_cases ho : o f = 0
          · rw [decide_eq_true ho, Bool.true_and, Bool.true_and]
            by_cases hq : y_P c s k f = -1
            · rw [if_neg (by omega), decide_eq_true hq, Bool.not_true, Bool.or_false]
            · rw [if_pos (by omega), decide_eq_false hq, Bool.not_false, Bool.or_true]
              rfl
          · rw [decide_eq_false ho, Bool.false_and, Bool.false_and, if_neg (fun z => ho z.2)]
        · rw [b4 f f0 f1, a3 f f0 f1, ek]
          by_cases hx : x = 0
          · rw [if_pos hx, if_pos hx, if_pos hx, zcnt_app, e0]
            by_cases hq : y_F c s o k = f
            · rw [if_pos hq, if_pos (decide_eq_true hq)]
            · rw [if_neg hq, if_neg (by rw [decide_eq_false hq]; decide)]
          · rw [if_neg hx, if_neg hx, if_neg hx]
            by_cases ho : o f = 0
            · rw [if_pos ho, if_pos ho, if_pos ho, zsum_app, e0]
            · rw [if_neg ho, if_neg ho, if_neg ho, Int.add_zero]
        · rw [b5 f g f0 f1 g0 g1 fg, a4 f g f0 f1 g0 g1 fg, ek, zsum_app, e0]
      rw [g_Count_tallyBallots_64, zb_d, a1.1 r_Section_jurorCount (by decide), if_neg (by omega), b1, e_bnd, zb_d, hk, hv, zcnt]
      by_cases q : y_F c s o k = -1
      · rw [decide_eq_true q, if_pos (by rfl), if_neg (by decide), Int.zero_add]
        exact ih (k + 1) v C' (by omega) (by omega) v0 (by omega) hA'
      · rw [decide_eq_false q, if_neg (by decide), if_pos (by rfl), ← Int.add_assoc]
        exact ih (k + 1) (v + 1) C' (by omega) (by omega) (by omega) (by omega) hA'
  obtain ⟨S0, h1, h2⟩ := y_clear (s := s) (x := x) (v := 0) hS
  obtain ⟨S, h3, h4⟩ := key (c r_Section_jurorCount s 0 0).toNat 0 0 S0 (Int.le_refl _) (by omega) (Int.le_refl _) (Int.le_refl _) h2
  refine ⟨S, ?_, h4⟩
  show g_Count_tallyBallots ((1000, [s, x]), C) = _
  rw [g_Count_tallyBallots_0, h1, h3, Int.zero_add]
  rfl
theorem y_tallied {S : ZS} : ∃ w, f_Count_tallied [] S = ((0, [w]), S) ∧ y_Best (fun f => !decide (S r_Count_isOnBallot 0 0 f = 0)) (fun f => S r_Count_tally 0 0 f) w := by
  have key : ∀ (t : Nat) (k w : Int), k + 1 = t → k < 20 → ((w = -1 ∧ ∀ f, k < f → f < 20 → S r_Count_isOnBallot 0 0 f = 0) ∨ ((k < w ∧ w < 20) ∧ S r_Count_isOnBallot 0 0 w ≠ 0 ∧ ∀ f, k < f → f < 20 → S r_Count_isOnBallot 0 0 f ≠ 0 → S r_Count_tally 0 0 f ≤ S r_Count_tally 0 0 w ∧ (f < w → S r_Count_tally 0 0 f < S r_Count_tally 0 0 w))) → ∃ w', g_Count_tallied ((1005, [w, k]), S) = ((0, [w']), S) ∧ y_Best (fun f => !decide (S r_Count_isOnBallot 0 0 f = 0)) (fun f => S r_Count_tally 0 0 f) w' := by
    intro t
    induction t with
    | zero =>
      intro k w k0 k1 hi
      refine ⟨w, by rw [g_Count_tallied_5, zb_d, if_pos (by omega)], ?_⟩
      rcases hi with ⟨i1, i2⟩ | ⟨⟨i0, i1⟩, i2, i3⟩
      · exact Or.inl ⟨i1, fun f f0 f1 => by
          show (!decide (S r_Count_isOnBallot 0 0 f = 0)) = false
          rw [decide_eq_true (i2 f (by omega) f1)]
          rfl⟩
      · refine Or.inr ⟨⟨by omega, i1⟩, (show (!decide (S r_Count_isOnBallot 0 0 w = 0)) = true by rw [decide_eq_false i2]; rfl), fun f f0 f1 hf => i3 f (by omega) f1 fun z => ?_⟩
        have hf : (!decide (S r_Count_isOnBallot 0 0 f = 0)) = true := hf
        rw [decide_eq_true z] at hf
        cases hf
    | succ t ih =>
      intro k w k0 k1 hi
      have hk : e_wr (k + -1) = k - 1 := by rw [e_wr_id (by omega) (by omega)]; omega
      rw [g_Count_tallied_5, zb_d, if_neg (by omega), zb_d, zb_d, zb_d, hk]
      by_cases q : S r_Count_isOnBallot 0 0 k = 0
      · rw [if_pos q]
        refine ih (k - 1) w (by omega) (by omega) ?_
        rcases hi with ⟨i1, i2⟩ | ⟨⟨i0, i1⟩, i2, i3⟩
        · refine Or.inl ⟨i1, fun f f0 f1 => ?_⟩
          by_cases z : f = k
          · rw [z]
            exact q
          · exact i2 f (by omega) f1
        · refine Or.inr ⟨⟨by omega, i1⟩, i2, fun f f0 f1 hf => ?_⟩
          by_cases z : f = k
          · rw [z] at hf
            exact absurd q hf
          · exact i3 f (by omega) f1 hf
      · rw [if_neg q]
        rcases hi with ⟨rfl, i2⟩ | ⟨⟨i0, i1⟩, i2, i3⟩
        · rw [if_pos rfl]
          refine ih (k - 1) k (by omega) (by omega) (Or.inr ⟨⟨by omega, k1⟩, q, fun f f0 f1 hf => ?_⟩)
          by_cases z : f = k
          · rw [z]
            exact ⟨Int.le_refl _, fun z => absurd z (by omega)⟩
          · exact absurd (i2 f (by omega) f1) hf
        · rw [if_neg (by omega)]
          by_cases v : S r_Count_tally 0 0 k < S r_Count_tally 0 0 w
          · rw [if_pos v]
            refine ih (k - 1) w (by omega) (by omega) (Or.inr ⟨⟨by omega, i1⟩, i2, fun f f0 f1 hf => ?_⟩)
            by_cases z : f = k
            · rw [z]
              exact ⟨by omega, fun _ => v⟩
            · exact i3 f (by omega) f1 hf
          · rw [if_neg v]
            refine ih (k - 1) k (by omega) (by omega) (Or.inr ⟨⟨by omega, k1⟩, q, fun f f0 f1 hf => ?_⟩)
            by_cases z : f = k
            · rw [z]
              exact ⟨Int.le_refl _, fun z => absurd z (by omega)⟩
            · obtain ⟨j1, -⟩ := i3 f (by omega) f1 hf
              exact ⟨by omega, fun z => by omega⟩
  show ∃ w, g_Count_tallied ((1000, []), S) = ((0, [w]), S) ∧ _
  rw [g_Count_tallied_0]
  exact key 20 19 (-1) (by decide) (by decide) (Or.inl ⟨rfl, fun f f0 f1 => by omega⟩)
/-- what the arrays say when all ballots are read -/
theorem y_A.on {S : ZS} (h : y_A c s o x (c r_Section_jurorCount s 0 0) S) {f : Int} (f0 : 0 ≤ f) (f1 : f < 20) : S r_Count_isOnBallot 0 0 f = zb (y_rk c s o f) := h.2.1 f f0 f1
theorem y_A.ty {S : ZS} (h : y_A c s o x (c r_Section_jurorCount s 0 0) S) {f : Int} (f0 : 0 ≤ f) (f1 : f < 20) (hf : y_rk c s o f = true) : S r_Count_tally 0 0 f = y_vl x c s o f := by
  have ho : o f = 0 := by
    unfold y_rk at hf
    rw [Bool.and_eq_true] at hf
    exact of_decide_eq_true hf.1
  rw [h.2.2.1 f f0 f1]
  unfold y_vl
  by_cases hx : x = 0
  · rw [if_pos hx, if_pos hx]
    rfl
  · rw [if_neg hx, if_neg hx, if_pos ho]
    rfl
theorem y_A.best {S : ZS} (h : y_A c s o x (c r_Section_jurorCount s 0 0) S) : ∃ w, f_Count_tallied [] S = ((0, [w]), S) ∧ y_Best (y_rk c s o) (y_vl x c s o) w := by
  obtain ⟨w, w1, w2⟩ := y_tallied (S := S)
  have on : ∀ f, 0 ≤ f → f < 20 → (!decide (S r_Count_isOnBallot 0 0 f = 0)) = y_rk c s o f := fun f f0 f1 => by
    rw [h.on f0 f1]
    cases y_rk c s o f <;> rfl
  exact ⟨w, w1, y_Best_cg on (fun f f0 f1 hf => by rw [on f f0 f1] at hf; exact h.ty f0 f1 hf) w2⟩
theorem y_reDuels {S : ZS} (h : y_A c s o x (c r_Section_jurorCount s 0 0) S) : ∃ d, f_Count_recountDuels [] S = ((0, [d]), S) ∧ y_One (y_D c s o) d := by
  have lead : ∀ f g, 0 ≤ f → f < 20 → 0 ≤ g → g < 20 → f ≠ g → y_rk c s o f = true → y_rk c s o g = true → S r_Count_leads_r f 0 g = y_le c s f g := fun f g f0 f1 g0 g1 fg hf hg => by
    unfold y_rk at hf hg
    rw [Bool.and_eq_true] at hf hg
    have of' := of_decide_eq_true hf.1
    have og' := of_decide_eq_true hg.1
    rw [h.2.2.2 f g f0 f1 g0 g1 fg]
    unfold y_le
    refine zsum_cg _ 0 (fun j j0 j1 => ?_)
    have hp := y_pos_r (b := fun k => c r_Juror_ballot s j k) (f := f) (c r_Juror_ballotSize s j 0).toNat 0
    have hq := y_pos_r (b := fun k => c r_Juror_ballot s j k) (f := g) (c r_Juror_ballotSize s j 0).toNat 0
    have hp : y_P c s j f = -1 ∨ (0 ≤ y_P c s j f ∧ c r_Juror_ballot s j (y_P c s j f) = f) := by
      rcases hp with hp | hp
      · exact Or.inl hp.1
      · exact Or.inr ⟨hp.1, hp.2.2⟩
    have hq : y_P c s j g = -1 ∨ (0 ≤ y_P c s j g ∧ c r_Juror_ballot s j (y_P c s j g) = g) := by
      rcases hq with hq | hq
      · exact Or.inl hq.1
      · exact Or.inr ⟨hq.1, hq.2.2⟩
    unfold y_lc y_ld
    by_cases h1 : y_P c s j f = -1
    · simp only [if_pos h1]
    · by_cases h2 : y_P c s j g = -1
      · simp only [if_neg h1, if_pos h2]
      · simp only [if_neg h1, if_neg h2]
        by_cases h3 : y_P c s j f < y_P c s j g
        · rw [if_pos h3, if_pos ⟨by omega, og'⟩, if_neg (by omega)]
        · rw [if_neg h3, if_pos ⟨by omega, of'⟩, if_pos (by omega)]
  have key : ∀ (t : Nat) (k : Int), 0 ≤ k → k + t = 20 → (∀ f, 0 ≤ f → f < k → y_D c s o f = false) → ∃ d, g_Count_recountDuels ((1002, [k]), S) = ((0, [d]), S) ∧ y_One (y_D c s o) d := by
    intro t
    induction t with
    | zero =>
      intro k k0 k1 hi
      have e : k = 20 := by omega
      rw [e] at hi
      exact ⟨-1, by rw [g_Count_recountDuels_2, zb_d, if_pos (by omega)], Or.inl ⟨rfl, hi⟩⟩
    | succ t ih =>
      intro k k0 k1 hi
      have hk : e_wr (k + 1) = k + 1 := e_wr_id (by omega) (by omega)
      have hD : y_D c s o k = (y_rk c s o k && !zany (y_lo c s o k) 20 0) := rfl
      have next : y_D c s o k = false → ∃ d, g_Count_recountDuels ((1002, [k + 1]), S) = ((0, [d]), S) ∧ y_One (y_D c s o) d := fun hf => ih (k + 1) (by omega) (by omega) (fun f f0 f1 => by
        by_cases z : f = k
        · rw [z]
          exact hf
        · exact hi f f0 (by omega))
      rw [g_Count_recountDuels_2, zb_d, if_neg (by omega), h.on k0 (by omega)]
      have zero : ∀ (u : Nat) (g : Int), 0 ≤ g → g + u = 20 → g_Count_recountDuels ((1017, [k, 0, g]), S) = g_Count_recountDuels ((1002, [k + 1]), S) := by
        intro u
        induction u with
        | zero =>
          intro g g0 g1
          rw [g_Count_recountDuels_17, zb_d, if_pos (by omega), zb_d, if_pos rfl, hk]
        | succ u ihu =>
          intro g g0 g1
          have hg : e_wr (g + 1) = g + 1 := e_wr_id (by omega) (by omega)
          rw [g_Count_recountDuels_17, zb_d, if_neg (by omega), zb_d, zb_d, zb_d, hg, ite_self, ite_self, ite_self]
          exact ihu (g + 1) (by omega) (by omega)
      cases e1 : y_rk c s o k
      · have := zero 20 0 (Int.le_refl _) (by decide)
        rw [show zb false = 0 from rfl, this]
        exact next (by rw [hD, e1]; rfl)
      · have one : ∀ (u : Nat) (g : Int), 0 ≤ g → g + u = 20 → g_Count_recountDuels ((1017, [k, 1, g]), S) = if zany (y_lo c s o k) u g = true then g_Count_recountDuels ((1002, [k + 1]), S) else ((0, [k]), S) := by
          intro u
          induction u with
          | zero =>
            intro g g0 g1
            rw [g_Count_recountDuels_17, zb_d, if_pos (by omega), zb_d, if_neg (by decide), zany, if_neg (by decide)]
          | succ u ihu =>
            intro g g0 g1
            have hg : e_wr (g + 1) = g + 1 := e_wr_id (by omega) (by omega)
            have e17 := g_Count_recountDuels_17 (x1 := k) (x2 := 1) (x3 := g) (S := S)
            rw [zb_d, if_neg (by omega), zb_d, zb_d, zb_d, hg, h.on g0 (by omega), zero u (g + 1) (by omega) (by omega)] at e17
            rw [e17, zany]
            unfold y_lo
            by_cases q1 : g = k
            · rw [if_pos q1, decide_eq_false (fun z => z q1), Bool.false_and, Bool.false_or]
              exact ihu (g + 1) (by omega) (by omega)
            · rw [if_neg q1, decide_eq_true (show g ≠ k from q1), Bool.true_and]
              cases e2 : y_rk c s o g
              · rw [if_pos (by rfl), Bool.false_and, Bool.false_or]
                exact ihu (g + 1) (by omega) (by omega)
              · rw [if_neg (by decide), Bool.true_and, lead k g k0 (by omega) g0 (by omega) (fun z => q1 z.symm) e1 e2]
                by_cases q2 : 0 < y_le c s k g
                · rw [if_pos q2, decide_eq_false (by omega), Bool.false_or]
                  exact ihu (g + 1) (by omega) (by omega)
                · rw [if_neg q2, decide_eq_true (show y_le c s k g ≤ 0 by omega), Bool.true_or, if_pos rfl]
        rw [show zb true = 1 from rfl, one 20 0 (Int.le_refl _) (by decide)]
        cases e2 : zany (y_lo c s o k) 20 0
        · rw [if_neg (by decide)]
          exact ⟨k, rfl, Or.inr ⟨⟨k0, by omega⟩, by rw [hD, e1, e2]; rfl, hi⟩⟩
        · rw [if_pos rfl]
          exact next (by rw [hD, e1, e2]; rfl)
  show ∃ d, g_Count_recountDuels ((1000, []), S) = ((0, [d]), S) ∧ _
  rw [g_Count_recountDuels_0]
  exact key 20 0 (Int.le_refl _) (by decide) (fun f _ _ => by omega)
end

section
variable {c C D : ZS} {o : Int → Int} {s : Int}
theorem y_none (hW : y_W c s) {w : Int} {v : Int → Int} (h : y_Best (y_rk c s o) v w) : w = -1 ∨ (0 ≤ w ∧ w < 20) ∧ ∃ f, 0 ≤ f ∧ f < 20 ∧ y_rk c s o f = true := by
  rcases h with ⟨h, -⟩ | ⟨h1, h2, -⟩
  · exact Or.inl h
  · exact Or.inr ⟨h1, w, h1.1, h1.2, h2⟩
/-- who goes next, by the arrays -/
theorem y_worst {S : ZS} (hW : y_W c s) (h : y_A c s o 0 (c r_Section_jurorCount s 0 0) S) {x b : Int} (hb : y_Best (y_rk c s o) (y_vl 0 c s o) b) (hn : b ≠ -1) : ∃ g, g_Count_recountRounds ((1050, [s, x, b, 0]), S) = g_Count_recountRounds ((1002, [s, e_wr (x + 1)]), e_upd S r_Count_isOut 0 0 g 1) ∧ y_Wst (y_rk c s o) (y_fs c s o) g := by
  have ty : ∀ f, 0 ≤ f → f < 20 → y_rk c s o f = true → S r_Count_tally 0 0 f = y_fs c s o f := fun f f0 f1 hf => by
    rw [h.ty f0 f1 hf]
    exact if_pos rfl
  rcases hb with ⟨hb, -⟩ | ⟨⟨b0, b1⟩, b2, b3⟩
  · exact absurd hb hn
  · have b3 : ∀ f, 0 ≤ f → f < 20 → y_rk c s o f = true → y_fs c s o f ≤ y_fs c s o b ∧ (f < b → y_fs c s o f < y_fs c s o b) := fun f f0 f1 hf => b3 f f0 f1 hf
    have key : ∀ (t : Nat) (k w : Int), 0 ≤ k → k + t = 20 → (0 ≤ w ∧ w < 20) → y_rk c s o w = true → (∀ f, 0 ≤ f → f < k → y_rk c s o f = true → y_fs c s o w ≤ y_fs c s o f ∧ (w < f → y_fs c s o w < y_fs c s o f)) → ∃ g, g_Count_recountRounds ((1050, [s, x, w, k]), S) = g_Count_recountRounds ((1002, [s, e_wr (x + 1)]), e_upd S r_Count_isOut 0 0 g 1) ∧ y_Wst (y_rk c s o) (y_fs c s o) g := by
      intro t
      induction t with
      | zero =>
        intro k w k0 k1 w0 w1 w2
        have e : k = 20 := by omega
        rw [e] at w2
        exact ⟨w, by rw [g_Count_recountRounds_50, zb_d, if_pos (by omega), e_nb1], w0, w1, w2⟩
      | succ t ih =>
        intro k w k0 k1 w0 w1 w2
        have hk : e_wr (k + 1) = k + 1 := e_wr_id (by omega) (by omega)
        rw [g_Count_recountRounds_50, zb_d, if_neg (by omega), zb_d, zb_d, zb_n, zb_d, hk, h.on k0 (by omega)]
        by_cases q : y_rk c s o k = true
        · rw [q, if_neg (by decide), ty k k0 (by omega) q, ty w w0.1 w0.2 w1]
          -- the new one is k
          have new : y_fs c s o k ≤ y_fs c s o w → ∀ f, 0 ≤ f → f < k + 1 → y_rk c s o f = true → y_fs c s o k ≤ y_fs c s o f ∧ (k < f → y_fs c s o k < y_fs c s o f) := fun hle f f0 f1 hf => by
            by_cases z : f = k
            · rw [z]
              exact ⟨Int.le_refl _, fun z => absurd z (by omega)⟩
            · obtain ⟨j1, -⟩ := w2 f f0 (by omega) hf
              exact ⟨by omega, fun _ => by omega⟩
          have old : (y_fs c s o w < y_fs c s o k ∨ (y_fs c s o w = y_fs c s o k ∧ k ≤ w)) → ∀ f, 0 ≤ f → f < k + 1 → y_rk c s o f = true → y_fs c s o w ≤ y_fs c s o f ∧ (w < f → y_fs c s o w < y_fs c s o f) := fun hle f f0 f1 hf => by
            by_cases z : f = k
            · rw [z]
              exact ⟨by omega, fun _ => by omega⟩
            · exact w2 f f0 (by omega) hf
          by_cases v1 : y_fs c s o k < y_fs c s o w
          · rw [if_pos v1]
            exact ih (k + 1) k (by omega) (by omega) ⟨k0, by omega⟩ q (new (by omega))
          · rw [if_neg v1]
            by_cases v2 : y_fs c s o k = y_fs c s o w
            · rw [if_pos v2]
              by_cases v3 : k ≤ w
              · rw [if_pos v3]
                exact ih (k + 1) w (by omega) (by omega) w0 w1 (old (Or.inr ⟨v2.symm, v3⟩))
              · rw [if_neg v3]
                exact ih (k + 1) k (by omega) (by omega) ⟨k0, by omega⟩ q (new (by omega))
            · rw [if_neg v2]
              exact ih (k + 1) w (by omega) (by omega) w0 w1 (old (Or.inl (by omega)))
        · have q' : y_rk c s o k = false := by simpa using q
          rw [q', if_pos (by rfl)]
          refine ih (k + 1) w (by omega) (by omega) w0 w1 (fun f f0 f1 hf => ?_)
          by_cases z : f = k
          · rw [z] at hf
            exact absurd hf q
          · exact w2 f f0 (by omega) hf
    exact key 20 0 b (Int.le_refl _) (by decide) ⟨b0, b1⟩ b2 (fun f _ _ => by omega)
theorem y_S.w {C : ZS} (h : y_S c o C) {g : Int} : y_S c (fun f => if f = g then 1 else o f) (e_upd C r_Count_isOut 0 0 g 1) := by
  refine ⟨fun r hr => ?_, fun f f0 f1 => ?_⟩
  · rw [← h.1 r hr]
    funext a b d
    exact e_un (by
      cases e : r == r_Count_isOut with
      | false => rfl
      | true => rw [beq_iff_eq] at e; rw [e] at hr; exact absurd hr (by decide))
  · show e_upd C r_Count_isOut 0 0 g 1 r_Count_isOut 0 0 f = if f = g then 1 else o f
    rw [e_ur]
    by_cases z : f = g
    · rw [if_pos ⟨rfl, rfl, z⟩, if_pos z]
    · rw [if_neg (fun y => z y.2.2), if_neg z]
      exact h.2 f f0 f1
theorem y_voting (hW : y_W c s) (hS : y_S c o C) {x : Int} : g_Count_byRounds ((1013, [s, x, 0, 0]), C) = g_Count_byRounds ((1013, [s, x, y_vo c s o, c r_Section_jurorCount s 0 0]), C) := by
  obtain ⟨u0, u1⟩ := hW.1
  have e1 := hS.1 r_Section_jurorCount (by decide)
  have key : ∀ (t : Nat) (v k : Int), 0 ≤ k → k + t = c r_Section_jurorCount s 0 0 → 0 ≤ v → v ≤ k → g_Count_byRounds ((1013, [s, x, v, k]), C) = g_Count_byRounds ((1013, [s, x, v + zcnt (fun j => !decide (y_F c s o j = -1)) t k, c r_Section_jurorCount s 0 0]), C) := by
    intro t
    induction t with
    | zero =>
      intro v k k0 k1 v0 v1
      rw [zcnt, Int.add_zero, show k = c r_Section_jurorCount s 0 0 by omega]
    | succ t ih =>
      intro v k k0 k1 v0 v1
      have hk : e_wr (k + 1) = k + 1 := e_wr_id (by omega) (by omega)
      have hv : e_wr (v + 1) = v + 1 := e_wr_id (by omega) (by omega)
      have eC := g_Count_byRounds_13 (x1 := s) (x2 := x) (x3 := v) (x4 := k) (S := C)
      rw [zb_d, e1, if_neg (by omega), y_firstOn hW hS k0 (by omega), e_bnd, zb_d, hk, hv] at eC
      rw [eC, zcnt]
      by_cases q : y_F c s o k = -1
      · rw [if_pos q, decide_eq_true q, if_neg (by decide), Int.zero_add]
        exact ih v (k + 1) (by omega) (by omega) v0 (by omega)
      · rw [if_neg q, decide_eq_false q, if_pos (by rfl), ← Int.add_assoc]
        exact ih (v + 1) (k + 1) (by omega) (by omega) (by omega) (by omega)
  rw [key (c r_Section_jurorCount s 0 0).toNat 0 0 (Int.le_refl _) (by omega) (Int.le_refl _) (Int.le_refl _), Int.zero_add]
  rfl
theorem y_rounds (hW : y_W c s) : ∀ (t : Nat) (x : Int) (o : Int → Int) (C D : ZS), 0 ≤ x → x + t = 20 → y_S c o C → y_S c o D → ∃ w C' D', g_Count_byRounds ((1002, [s, x]), C) = ((0, [w]), C') ∧ g_Count_recountRounds ((1002, [s, x]), D) = ((0, [w]), D') ∧ (∀ r, y_K.contains r = false → C' r = c r) ∧ (∀ r, y_K.contains r = false → D' r = c r)
  | 0, x, o, C, D, x0, x1, hC, hD => ⟨-1, C, D, by rw [g_Count_byRounds_2, zb_d, if_pos (by omega)], by rw [g_Count_recountRounds_2, zb_d, if_pos (by omega)], hC.1, hD.1⟩
  | t + 1, x, o, C, D, x0, x1, hC, hD => by
    have hx : e_wr (x + 1) = x + 1 := e_wr_id (by omega) (by omega)
    obtain ⟨S, s1, s2⟩ := y_tallyBallots (x := 0) hW hD
    obtain ⟨b, b1, b2⟩ := s2.best
    obtain ⟨b', b1', b2'⟩ := y_withMost hW hC (Or.inl rfl)
    have eb : b' = b := y_Best_u b2' b2
    subst eb
    have e1 := hC.1 r_Section_jurorCount (by decide)
    have eC := g_Count_byRounds_13 (x1 := s) (x2 := x) (x3 := y_vo c s o) (x4 := c r_Section_jurorCount s 0 0) (S := C)
    rw [zb_d, e1, if_pos (Int.le_refl _), b1', e_bnd, zb_d, y_firstsOf hW hC, e_bnd, zb_d] at eC
    have eD := g_Count_recountRounds_2 (x1 := s) (x2 := x) (S := D)
    rw [zb_d, if_neg (by omega), s1, e_bnd, b1, e_bnd, zb_d, zb_d] at eD
    rw [g_Count_byRounds_2, zb_d, if_neg (by omega), y_voting hW hC, eC, eD]
    rcases y_none hW b2 with hb | ⟨⟨hb0, hb1⟩, hne⟩
    · rw [if_pos hb, if_pos hb]
      exact ⟨b', C, S, rfl, rfl, hC.1, s2.1.1⟩
    · have hb : ¬ b' = -1 := by omega
      have hrk : y_rk c s o b' = true := by
        rcases b2 with ⟨z, -⟩ | ⟨-, z, -⟩
        · exact absurd z hb
        · exact z
      have et : S r_Count_tally 0 0 b' = y_fs c s o b' := by
        rw [s2.ty hb0 hb1 hrk]
        exact if_pos rfl
      rw [if_neg hb, if_neg hb, et]
      by_cases q : e_wr (2 * y_fs c s o b') ≤ y_vo c s o
      · rw [if_pos q, if_pos q]
        obtain ⟨g, g1, g2⟩ := y_fewest hW hC hne
        obtain ⟨g', g1', g2'⟩ := y_worst hW s2 (x := x) b2 hb
        have eg : g' = g := y_Wst_u g2' g2
        subst eg
        rw [g1, e_bnd, g1', hx, e_nb1]
        exact y_rounds hW t (x + 1) _ _ _ (by omega) (by omega) hC.w s2.1.w
      · rw [if_neg q, if_neg q]
        exact ⟨b', C, S, rfl, rfl, hC.1, s2.1.1⟩
/-- who is out at first -/
theorem y_drop {c : ZS} (hl : c r_Grid_films_len 0 0 0 = 20) (hb : ∀ f, 0 ≤ f → f < 20 → zbit (c r_Film_isWithdrawn f 0 0)) {C : ZS} (hC : ∀ r, y_K.contains r = false → C r = c r) : ∃ C', f_Count_dropWithdrawn [] C = ((0, []), C') ∧ y_S c (fun f => c r_Film_isWithdrawn f 0 0) C' := by
  have key : ∀ (t : Nat) (k : Int) (S : ZS), 0 ≤ k → k + t = 20 → (∀ r, y_K.contains r = false → S r = c r) → (∀ f, 0 ≤ f → f < k → S r_Count_isOut 0 0 f = c r_Film_isWithdrawn f 0 0) → ∃ C', g_Count_dropWithdrawn ((1002, [k]), S) = ((0, []), C') ∧ y_S c (fun f => c r_Film_isWithdrawn f 0 0) C' := by
    intro t
    induction t with
    | zero =>
      intro k S k0 k1 fr h
      exact ⟨S, by rw [g_Count_dropWithdrawn_2, zb_d, if_pos (by omega)], fr, fun f f0 f1 => h f f0 (by omega)⟩
    | succ t ih =>
      intro k S k0 k1 fr h
      have hk : e_wr (k + 1) = k + 1 := e_wr_id (by omega) (by omega)
      have hn : e_nar 1 (c r_Film_isWithdrawn k 0 0) = c r_Film_isWithdrawn k 0 0 := by
        rcases hb k k0 (by omega) with e | e
        · rw [e]
          exact e_nb0
        · rw [e]
          exact e_nb1
      rw [g_Count_dropWithdrawn_2, zb_d, if_neg (by omega), zb_d, fr r_Grid_films_len (by decide), hl, if_neg (by omega), hk, fr r_Film_isWithdrawn (by decide), hn]
      refine ih (k + 1) _ (by omega) (by omega) (fun r hr => ?_) (fun f f0 f1 => ?_)
      · rw [← fr r hr]
        funext a b d
        exact e_un (by
          cases e : r == r_Count_isOut with
          | false => rfl
          | true => rw [beq_iff_eq] at e; rw [e] at hr; exact absurd hr (by decide))
      · rw [e_ur]
        by_cases e : f = k
        · rw [if_pos ⟨rfl, rfl, e⟩, e]
        · rw [if_neg (fun z => e z.2.2)]
          exact h f f0 (by omega)
  obtain ⟨C', h1, h2⟩ := key 20 0 C (Int.le_refl _) (by decide) hC (fun f _ _ => by omega)
  refine ⟨C', ?_, h2⟩
  show g_Count_dropWithdrawn ((1000, []), C) = _
  rw [g_Count_dropWithdrawn_0]
  exact h1
/-- one section's winner, found twice -/
theorem y_same (hl : c r_Grid_films_len 0 0 0 = 20) (hb : ∀ f, 0 ≤ f → f < 20 → zbit (c r_Film_isWithdrawn f 0 0)) (hW : y_W c s) (hr : c r_Section_rule s 0 0 = 109 ∨ c r_Section_rule s 0 0 = 98 ∨ c r_Section_rule s 0 0 = 99 ∨ c r_Section_rule s 0 0 = 114) {C : ZS} (hC : ∀ r, y_K.contains r = false → C r = c r) : ∃ w C1 C2, f_Count_findWinner [s] C = ((0, [w]), C1) ∧ f_Count_recount [s] C1 = ((0, [w]), C2) ∧ ∀ r, y_K.contains r = false → C2 r = c r := by
  obtain ⟨A, a1, a2⟩ := y_drop hl hb hC
  have rA := a2.1 r_Section_rule (by decide)
  have fw : f_Count_findWinner [s] C = if c r_Section_rule s 0 0 = 98 then f_Count_withMost [s, 1] A else if c r_Section_rule s 0 0 = 99 then f_Count_byDuels [s] A else if c r_Section_rule s 0 0 = 114 then e_bind (f_Count_byRounds [s] A) (fun v S => ((0, [v]), S)) else f_Count_withMost [s, 0] A := by
    unfold f_Count_findWinner
    dsimp only
    rw [a1, e_bnd0]
    simp only [zb_n, rA]
    obtain ⟨w0, h0, -⟩ := y_withMost hW a2 (Or.inl rfl)
    obtain ⟨w1, h1, -⟩ := y_withMost hW a2 (Or.inr rfl)
    obtain ⟨d, w2, h2, -⟩ := y_byDuels hW a2
    rw [h0, h1, h2]
    rfl
  have rc : ∀ {B : ZS}, (∀ r, y_K.contains r = false → B r = c r) → ∃ B', y_S c (fun f => c r_Film_isWithdrawn f 0 0) B' ∧ f_Count_recount [s] B = if c r_Section_rule s 0 0 = 114 then e_bind (f_Count_recountRounds [s] B') (fun v S => ((0, [v]), S)) else (bif decide (c r_Section_rule s 0 0 = 109) then (e_bind (f_Count_tallyBallots [s, 0] B') (fun _ S2 => (bif !decide ((S2 r_Section_rule s 0 0) = 99) then (e_bind (f_Count_tallied [] S2) (fun v3 S3 => ((0, [v3]), S3))) else (e_bind (f_Count_recountDuels [] S2) (fun v4 S4 => (bif !decide (v4 = (-1)) then ((0, [v4]), S4) else (e_bind (f_Count_tallied [] S4) (fun v5 S5 => ((0, [v5]), S5))))))))) else (e_bind (f_Count_tallyBallots [s, 1] B') (fun _ S6 => (bif !decide ((S6 r_Section_rule s 0 0) = 99) then (e_bind (f_Count_tallied [] S6) (fun v7 S7 => ((0, [v7]), S7))) else (e_bind (f_Count_recountDuels [] S6) (fun v8 S8 => (bif !decide (v8 = (-1)) then ((0, [v8]), S8) else (e_bind (f_Count_tallied [] S8) (fun v9 S9 => ((0, [v9]), S9)))))))))) := fun {B} hB => by
    obtain ⟨B', b1, b2⟩ := y_drop hl hb hB
    refine ⟨B', b2, ?_⟩
    unfold f_Count_recount
    dsimp only
    rw [b1, e_bnd0, b2.1 r_Section_rule (by decide), zb_n]
  by_cases h114 : c r_Section_rule s 0 0 = 114
  · rw [if_neg (by omega), if_neg (by omega), if_pos h114] at fw
    -- a first run tells where it ends, a second one with the other side
    obtain ⟨w0, C0, -, r1, -, r3, -⟩ := y_rounds hW 20 0 _ A A (Int.le_refl _) (by decide) a2 a2
    have r1' : f_Count_byRounds [s] A = ((0, [w0]), C0) := by
      show g_Count_byRounds ((1000, [s]), A) = _
      rw [g_Count_byRounds_0]
      exact r1
    rw [r1', e_bnd] at fw
    obtain ⟨B', b1, b2⟩ := rc r3
    rw [if_pos h114] at b2
    obtain ⟨w, C', D', q1, q2, -, q4⟩ := y_rounds hW 20 0 _ A B' (Int.le_refl _) (by decide) a2 b1
    rw [r1] at q1
    have ew : w0 = w := by
      have := congrArg (fun R : ZR => R.1.2) q1
      simp only [List.cons.injEq, and_true] at this
      exact this
    have q2' : f_Count_recountRounds [s] B' = ((0, [w]), D') := by
      show g_Count_recountRounds ((1000, [s]), B') = _
      rw [g_Count_recountRounds_0]
      exact q2
    rw [q2', e_bnd] at b2
    exact ⟨w, C0, D', by rw [fw, ew], b2, q4⟩
  · by_cases h109 : c r_Section_rule s 0 0 = 109
    · rw [if_neg (by omega), if_neg (by omega), if_neg (by omega)] at fw
      obtain ⟨w, w1, w2⟩ := y_withMost hW a2 (Or.inl rfl)
      obtain ⟨B', b1, b2⟩ := rc a2.1
      obtain ⟨S, s1, s2⟩ := y_tallyBallots (x := 0) hW b1
      obtain ⟨w', v1, v2⟩ := s2.best
      rw [if_neg h114, zb_d, if_pos h109, s1, e_bnd, s2.1.1 r_Section_rule (by decide), zb_n, if_neg (by omega), v1, e_bnd] at b2
      exact ⟨w, A, S, fw.trans w1, by rw [b2, y_Best_u v2 w2], s2.1.1⟩
    · by_cases h99 : c r_Section_rule s 0 0 = 99
      · rw [if_neg (by omega), if_pos h99] at fw
        obtain ⟨d, w, w1, w2, w3⟩ := y_byDuels hW a2
        obtain ⟨B', b1, b2⟩ := rc a2.1
        obtain ⟨S, s1, s2⟩ := y_tallyBallots (x := 1) hW b1
        obtain ⟨w', v1, v2⟩ := s2.best
        obtain ⟨d', d1, d2⟩ := y_reDuels s2
        rw [if_neg h114, zb_d, if_neg h109, s1, e_bnd, s2.1.1 r_Section_rule (by decide), zb_n, if_pos h99, d1, e_bnd, zb_n, v1, e_bnd, ← y_One_u (fun _ _ _ => rfl) w2 d2, ← y_Best_u w3 v2] at b2
        refine ⟨_, A, S, fw.trans w1, ?_, s2.1.1⟩
        rw [b2]
        split <;> rfl
      · rw [if_pos (by omega)] at fw
        obtain ⟨w, w1, w2⟩ := y_withMost hW a2 (Or.inr rfl)
        obtain ⟨B', b1, b2⟩ := rc a2.1
        obtain ⟨S, s1, s2⟩ := y_tallyBallots (x := 1) hW b1
        obtain ⟨w', v1, v2⟩ := s2.best
        rw [if_neg h114, zb_d, if_neg h109, s1, e_bnd, s2.1.1 r_Section_rule (by decide), zb_n, if_neg h99, v1, e_bnd] at b2
        exact ⟨w, A, S, fw.trans w1, by rw [b2, y_Best_u v2 w2], s2.1.1⟩
theorem y_winners (hl : c r_Grid_films_len 0 0 0 = 20) (hb : ∀ f, 0 ≤ f → f < 20 → zbit (c r_Film_isWithdrawn f 0 0)) (n0 : 0 ≤ c r_x_sectionCount 0 0 0) (n1 : c r_x_sectionCount 0 0 0 ≤ 5) (hW : ∀ s, 0 ≤ s → s < 5 → y_W c s) (hr : ∀ s, 0 ≤ s → s < 5 → (c r_Section_rule s 0 0 = 109 ∨ c r_Section_rule s 0 0 = 98 ∨ c r_Section_rule s 0 0 = 99 ∨ c r_Section_rule s 0 0 = 114)) : ∃ C, f_x_areWinnersRight [] c = ((0, [1]), C) ∧ ∀ r, y_K.contains r = false → C r = c r := by
  have key : ∀ (t : Nat) (k : Int) (C : ZS), 0 ≤ k → k + t = c r_x_sectionCount 0 0 0 → (∀ r, y_K.contains r = false → C r = c r) → ∃ C', g_x_areWinnersRight ((1002, [k]), C) = ((0, [1]), C') ∧ ∀ r, y_K.contains r = false → C' r = c r := by
    intro t
    induction t with
    | zero =>
      intro k C k0 k1 hC
      exact ⟨C, by rw [g_x_areWinnersRight_2, zb_d, hC r_x_sectionCount (by decide), if_pos (by omega)], hC⟩
    | succ t ih =>
      intro k C k0 k1 hC
      have hk : e_wr (k + 1) = k + 1 := e_wr_id (by omega) (by omega)
      obtain ⟨w, C1, C2, h1, h2, h3⟩ := y_same hl hb (hW k k0 (by omega)) (hr k k0 (by omega)) hC
      rw [g_x_areWinnersRight_2, zb_d, hC r_x_sectionCount (by decide), if_neg (by omega), h1, e_bnd, h2, e_bnd, zb_d, if_pos rfl, hk]
      exact ih (k + 1) C2 (by omega) (by omega) h3
  obtain ⟨C, h1, h2⟩ := key (c r_x_sectionCount 0 0 0).toNat 0 c (Int.le_refl _) (by omega) (fun _ _ => rfl)
  refine ⟨C, ?_, h2⟩
  show g_x_areWinnersRight ((1000, []), c) = _
  rw [g_x_areWinnersRight_0]
  exact h1
end

