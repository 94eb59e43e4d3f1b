/-! part 71uc01 -/
section
/-! Tools for the grid: loops that look for one, the archive's entries -/
def zany (p : Int → Bool) : Nat → Int → Bool
  | 0, _ => false
  | j + 1, k => p k || zany p j (k + 1)
theorem zany_iff {p : Int → Bool} : ∀ (j : Nat) (k : Int), zany p j k = true ↔ ∃ i, k ≤ i ∧ i < k + j ∧ p i = true
  | 0, k => by
    rw [zany]
    exact ⟨fun h => absurd h (by decide), fun ⟨i, h1, h2, _⟩ => by omega⟩
  | j + 1, k => by
    rw [zany, Bool.or_eq_true, zany_iff j (k + 1)]
    constructor
    · rintro (h | ⟨i, h1, h2, h3⟩)
      · exact ⟨k, by omega, by omega, h⟩
      · exact ⟨i, by omega, by omega, h3⟩
    · rintro ⟨i, h1, h2, h3⟩
      by_cases e : i = k
      · exact Or.inl (e ▸ h3)
      · exact Or.inr ⟨i, by omega, by omega, h3⟩
theorem zany_cg {p q : Int → Bool} : ∀ (j : Nat) (k : Int), (∀ i, k ≤ i → i < k + j → p i = q i) → zany p j k = zany q j k
  | 0, _, _ => rfl
  | j + 1, k, h => by rw [zany, zany, h k (Int.le_refl _) (by omega), zany_cg j (k + 1) (fun i a b => h i (by omega) (by omega))]
/-- a loop that ends at the first -/
theorem zl_any {n : Int} {p : Int → Bool} {A B : ZR} {G : Int → ZR} (hE : ∀ k, k = n → G k = B) (hG : ∀ k, 0 ≤ k → k < n → G k = if p k = true then A else G (k + 1)) : ∀ (j : Nat) (k : Int), 0 ≤ k → k + j = n → G k = if zany p j k = true then A else B
  | 0, k, h1, h2 => by
    rw [hE k (by omega), zany, if_neg (by decide)]
  | j + 1, k, h1, h2 => by
    rw [hG k h1 (by omega), zany, zl_any hE hG j (k + 1) (by omega) (by omega)]
    cases p k
    · rw [if_neg (by decide), Bool.false_or]
    · rw [if_pos rfl, Bool.true_or, if_pos rfl]
/-- a loop that goes on and sets -/
theorem zl_set {n z : Int} {p : Int → Bool} {P : Int → Prop} (hz : P z) {fin : Int → ZR} {G : Int → Int → ZR} (hE : ∀ x k, k = n → P x → G x k = fin x) (hG : ∀ x k, 0 ≤ k → k < n → P x → G x k = G (if p k = true then z else x) (k + 1)) : ∀ (j : Nat) (x k : Int), 0 ≤ k → k + j = n → P x → G x k = fin (if zany p j k = true then z else x)
  | 0, x, k, h1, h2, h3 => by
    rw [hE x k (by omega) h3, zany, if_neg (by decide)]
  | j + 1, x, k, h1, h2, h3 => by
    rw [hG x k h1 (by omega) h3, zany]
    cases p k
    · rw [if_neg (by decide), Bool.false_or]
      exact zl_set hz hE hG j x (k + 1) (by omega) (by omega) h3
    · rw [if_pos rfl, Bool.true_or, if_pos rfl, zl_set hz hE hG j z (k + 1) (by omega) (by omega) hz]
      congr 1
      split <;> rfl
def zbit (x : Int) : Prop := x = 0 ∨ x = 1
theorem zbit0 : zbit 0 := Or.inl rfl
theorem zbit1 : zbit 1 := Or.inr rfl
theorem e_or0 {x : Int} (h : zbit x) : e_or x 0 = x := by
  rcases h with rfl | rfl <;> decide +kernel
theorem e_or1 {x : Int} (h : zbit x) : e_or x 1 = 1 := by
  rcases h with rfl | rfl <;> decide +kernel
theorem e_and0 {x : Int} (h : zbit x) : e_and x 0 = 0 := by
  rcases h with rfl | rfl <;> decide +kernel
theorem e_and1 {x : Int} (h : zbit x) : e_and x 1 = x := by
  rcases h with rfl | rfl <;> decide +kernel
def zb (b : Bool) : Int := if b = true then 1 else 0
theorem zb_bit {b : Bool} : zbit (zb b) := by
  cases b
  · exact zbit0
  · exact zbit1
theorem zb0 {b : Bool} : zb b = 0 ↔ b = false := by
  cases b <;> decide
/-- the states behind an entry of the archive -/
def zcA (l f : Int) (c : ZS) : ZS := (f_Archive_add [l, f] c).2
def zmA (l f : Int) (m : ZS) : ZS := (f_m_writes [l, f] m).2
theorem q_zcA {l f : Int} {c : ZS} : f_Archive_add [l, f] c = ((0, []), zcA l f c) := rfl
theorem q_zmA {l f : Int} {m : ZS} : f_m_writes [l, f] m = ((0, []), zmA l f m) := by
  unfold zmA f_m_writes
  dsimp only
  rw [zb_n]
  split <;> rfl
theorem zcA_o {l f : Int} {c : ZS} {r : Nat} (hr : zArC.contains r = false) : (zcA l f c) r = c r := q_add_o hr
theorem zmA_o {l f : Int} {m : ZS} {r : Nat} (hr : zArM.contains r = false) : (zmA l f m) r = m r := by
  funext i j k
  have h1 : (r == r_m_lineMany) = false := by
    cases e : r == r_m_lineMany with
    | false => rfl
    | true => rw [beq_iff_eq] at e; rw [e] at hr; exact absurd hr (by decide)
  have h2 : (r == r_m_letters) = false := by
    cases e : r == r_m_letters with
    | false => rfl
    | true => rw [beq_iff_eq] at e; rw [e] at hr; exact absurd hr (by decide)
  have h3 : (r == r_m_lineFilms) = false := by
    cases e : r == r_m_lineFilms with
    | false => rfl
    | true => rw [beq_iff_eq] at e; rw [e] at hr; exact absurd hr (by decide)
  unfold zmA f_m_writes
  dsimp only
  rw [zb_n]
  split
  · show e_upd (e_upd (e_upd (e_upd (e_acp (e_acp _ _ _ _ _ _ _ _ _ _) _ _ _ _ _ _ _ _ _) _ _ _ _ _) _ _ _ _ _) _ _ _ _ _) _ _ _ _ _ r i j k = _
    rw [e_un h1, e_un h3, e_un h2, e_un h1, e_an h3, e_an h2]
  · show e_upd (e_upd (e_upd _ _ _ _ _ _) _ _ _ _ _) _ _ _ _ _ r i j k = _
    rw [e_un h1, e_un h3, e_un h2]
def z_nin (K W : List Nat) : Bool := K.all fun r => !(W.contains r)
theorem z_nin_ok {K W : List Nat} (h : z_nin K W = true) {r : Nat} (hr : r ∈ K) : W.contains r = false := by
  have := List.all_eq_true.mp h r hr
  simpa using this
theorem zRel.zcA {R : ZS → ZS → Prop} {KC KM : List Nat} (hr : zRel R KC KM) (hd : z_nin KC zArC = true) {l f : Int} {c m : ZS} (h : R c m) : R (zcA l f c) m := hr h (fun r hq => zcA_o (z_nin_ok hd hq)) (fun _ _ => rfl)
theorem zRel.zmA {R : ZS → ZS → Prop} {KC KM : List Nat} (hr : zRel R KC KM) (hd : z_nin KM zArM = true) {l f : Int} {c m : ZS} (h : R c m) : R c (zmA l f m) := hr h (fun _ _ => rfl) (fun r hq => zmA_o (z_nin_ok hd hq))
/-- both sides give one value and leave their states as they are -/
def zV (A B : ZR) (c m : ZS) : Prop := ∃ v, A = ((0, [v]), c) ∧ B = ((0, [v]), m)
end
/-! part 71uc02 -/
section
/-! The relations of the grid, each with the regions that it reads -/
def zWd (c m : ZS) : Prop := ∀ f, 0 ≤ f → f < 20 → m r_m_areWithdrawn 0 0 f = c r_Film_isWithdrawn f 0 0 ∧ zbit (c r_Film_isWithdrawn f 0 0)
def zWdC : List Nat := [r_Film_isWithdrawn]
def zWdM : List Nat := [r_m_areWithdrawn]
theorem zWd_rel : zRel zWd zWdC zWdM := fun {c m c' m'} h hc hm => by
  unfold zWd
  rw [hc r_Film_isWithdrawn (by decide), hm r_m_areWithdrawn (by decide)]
  exact h
theorem zWd.out {c m : ZS} (h : zWd c m) {z : Int} : zWd (e_upd c r_out 0 0 0 z) m := zWd_rel.uc h (by decide)
theorem zWd.thr {c m : ZS} (h : zWd c m) {z : Int} : zWd c (e_upd m r_m_thrown 0 0 0 z) := zWd_rel.um h (by decide)
def zHr (c m : ZS) : Prop := 0 ≤ c r_Grid_hour 0 0 0 ∧ c r_Grid_hour 0 0 0 ≤ 50 ∧ m r_m_hour 0 0 0 = c r_Grid_hour 0 0 0
def zHrC : List Nat := [r_Grid_hour]
def zHrM : List Nat := [r_m_hour]
theorem zHr_rel : zRel zHr zHrC zHrM := fun {c m c' m'} h hc hm => by
  unfold zHr
  rw [hc r_Grid_hour (by decide), hm r_m_hour (by decide)]
  exact h
theorem zHr.out {c m : ZS} (h : zHr c m) {z : Int} : zHr (e_upd c r_out 0 0 0 z) m := zHr_rel.uc h (by decide)
theorem zHr.thr {c m : ZS} (h : zHr c m) {z : Int} : zHr c (e_upd m r_m_thrown 0 0 0 z) := zHr_rel.um h (by decide)
def zSt (c m : ZS) : Prop := ∀ d, 0 ≤ d → d < 10 → m r_m_storms 0 0 d = c r_Grid_isStormy 0 0 d
def zStC : List Nat := [r_Grid_isStormy]
def zStM : List Nat := [r_m_storms]
theorem zSt_rel : zRel zSt zStC zStM := fun {c m c' m'} h hc hm => by
  unfold zSt
  rw [hc r_Grid_isStormy (by decide), hm r_m_storms (by decide)]
  exact h
theorem zSt.out {c m : ZS} (h : zSt c m) {z : Int} : zSt (e_upd c r_out 0 0 0 z) m := zSt_rel.uc h (by decide)
theorem zSt.thr {c m : ZS} (h : zSt c m) {z : Int} : zSt c (e_upd m r_m_thrown 0 0 0 z) := zSt_rel.um h (by decide)
def zVe (c m : ZS) : Prop := (0 ≤ c r_Venue_screenCount 0 0 0 ∧ c r_Venue_screenCount 0 0 0 ≤ 4 ∧ m r_m_screens 0 0 0 = c r_Venue_screenCount 0 0 0) ∧ (∀ s, 0 ≤ s → s < 4 → m r_m_seats 0 0 s = c r_Venue_seats 0 0 s ∧ m r_m_haveGear 0 0 s = c r_Venue_hasGear 0 0 s ∧ zbit (c r_Venue_hasGear 0 0 s)) ∧ (0 ≤ c r_Venue_keyCount 0 0 0 ∧ c r_Venue_keyCount 0 0 0 ≤ 60 ∧ m r_m_keyMany 0 0 0 = c r_Venue_keyCount 0 0 0) ∧ ∀ k, 0 ≤ k → k < c r_Venue_keyCount 0 0 0 → m r_m_keys_r k 0 0 = c r_Venue_keyFilms 0 0 k ∧ m r_m_keys_r k 0 1 = c r_Venue_keyScreens 0 0 k ∧ m r_m_keys_r k 0 2 = c r_Venue_keyFrom 0 0 k ∧ m r_m_keys_r k 0 3 = c r_Venue_keyTo 0 0 k
def zVeC : List Nat := [r_Venue_screenCount, r_Venue_seats, r_Venue_hasGear, r_Venue_keyCount, r_Venue_keyFilms, r_Venue_keyScreens, r_Venue_keyFrom, r_Venue_keyTo]
def zVeM : List Nat := [r_m_screens, r_m_seats, r_m_haveGear, r_m_keyMany, r_m_keys_r]
theorem zVe_rel : zRel zVe zVeC zVeM := fun {c m c' m'} h hc hm => by
  unfold zVe
  rw [hc r_Venue_screenCount (by decide), hc r_Venue_seats (by decide), hc r_Venue_hasGear (by decide), hc r_Venue_keyCount (by decide), hc r_Venue_keyFilms (by decide), hc r_Venue_keyScreens (by decide), hc r_Venue_keyFrom (by decide), hc r_Venue_keyTo (by decide), hm r_m_screens (by decide), hm r_m_seats (by decide), hm r_m_haveGear (by decide), hm r_m_keyMany (by decide), hm r_m_keys_r (by decide)]
  exact h
theorem zVe.out {c m : ZS} (h : zVe c m) {z : Int} : zVe (e_upd c r_out 0 0 0 z) m := zVe_rel.uc h (by decide)
theorem zVe.thr {c m : ZS} (h : zVe c m) {z : Int} : zVe c (e_upd m r_m_thrown 0 0 0 z) := zVe_rel.um h (by decide)
def zPk (c m : ZS) : Prop := ∀ f, 0 ≤ f → f < 20 → (c r_Film_kind f 0 0 = 45 ∧ m r_m_prints 0 0 f = 0) ∨ ((c r_Film_kind f 0 0 = 114 ∨ c r_Film_kind f 0 0 = 100) ∧ m r_m_prints 0 0 f = c r_Film_kind f 0 0)
def zPkC : List Nat := [r_Film_kind]
def zPkM : List Nat := [r_m_prints]
theorem zPk_rel : zRel zPk zPkC zPkM := fun {c m c' m'} h hc hm => by
  unfold zPk
  rw [hc r_Film_kind (by decide), hm r_m_prints (by decide)]
  exact h
theorem zPk.out {c m : ZS} (h : zPk c m) {z : Int} : zPk (e_upd c r_out 0 0 0 z) m := zPk_rel.uc h (by decide)
theorem zPk.thr {c m : ZS} (h : zPk c m) {z : Int} : zPk c (e_upd m r_m_thrown 0 0 0 z) := zPk_rel.um h (by decide)
def zPh (c m : ZS) : Prop := ∀ f, 0 ≤ f → f < 20 → m r_m_printHours 0 0 f = c r_Film_comes f 0 0
def zPhC : List Nat := [r_Film_comes]
def zPhM : List Nat := [r_m_printHours]
theorem zPh_rel : zRel zPh zPhC zPhM := fun {c m c' m'} h hc hm => by
  unfold zPh
  rw [hc r_Film_comes (by decide), hm r_m_printHours (by decide)]
  exact h
theorem zPh.out {c m : ZS} (h : zPh c m) {z : Int} : zPh (e_upd c r_out 0 0 0 z) m := zPh_rel.uc h (by decide)
theorem zPh.thr {c m : ZS} (h : zPh c m) {z : Int} : zPh c (e_upd m r_m_thrown 0 0 0 z) := zPh_rel.um h (by decide)
def zSw (c m : ZS) : Prop := (0 ≤ c r_Grid_showCount 0 0 0 ∧ c r_Grid_showCount 0 0 0 ≤ 60 ∧ m r_m_shows 0 0 0 = c r_Grid_showCount 0 0 0) ∧ (∀ i, 0 ≤ i → i < c r_Grid_showCount 0 0 0 → (m r_m_showFilms 0 0 i = c r_Show_film i 0 0 ∧ 0 ≤ c r_Show_film i 0 0 ∧ c r_Show_film i 0 0 < c r_x_filmCount 0 0 0) ∧ (m r_m_showScreens 0 0 i = c r_Show_screen i 0 0 ∧ 0 ≤ c r_Show_screen i 0 0 ∧ c r_Show_screen i 0 0 < 4) ∧ (m r_m_showHours 0 0 i = c r_Show_first i 0 0 ∧ 0 ≤ c r_Show_first i 0 0 ∧ c r_Show_first i 0 0 < 50) ∧ c r_Show_length i 0 0 = (if 150 < c r_Film_minutes (c r_Show_film i 0 0) 0 0 then 2 else 1)) ∧ ∀ i, 0 ≤ i → i < 60 → ((c r_Show_cause i 0 0 = 45 ∧ m r_m_gone 0 0 i = 0) ∨ ((c r_Show_cause i 0 0 = 115 ∨ c r_Show_cause i 0 0 = 108 ∨ c r_Show_cause i 0 0 = 119) ∧ m r_m_gone 0 0 i = c r_Show_cause i 0 0)) ∧ (c r_Grid_showCount 0 0 0 ≤ i → c r_Show_cause i 0 0 = 45)
def zSwC : List Nat := [r_Grid_showCount, r_Show_film, r_Show_screen, r_Show_first, r_Show_length, r_Show_cause, r_x_filmCount, r_Film_minutes]
def zSwM : List Nat := [r_m_shows, r_m_showFilms, r_m_showScreens, r_m_showHours, r_m_gone]
theorem zSw_rel : zRel zSw zSwC zSwM := fun {c m c' m'} h hc hm => by
  unfold zSw
  rw [hc r_Grid_showCount (by decide), hc r_Show_film (by decide), hc r_Show_screen (by decide), hc r_Show_first (by decide), hc r_Show_length (by decide), hc r_Show_cause (by decide), hc r_x_filmCount (by decide), hc r_Film_minutes (by decide), hm r_m_shows (by decide), hm r_m_showFilms (by decide), hm r_m_showScreens (by decide), hm r_m_showHours (by decide), hm r_m_gone (by decide)]
  exact h
theorem zSw.out {c m : ZS} (h : zSw c m) {z : Int} : zSw (e_upd c r_out 0 0 0 z) m := zSw_rel.uc h (by decide)
theorem zSw.thr {c m : ZS} (h : zSw c m) {z : Int} : zSw c (e_upd m r_m_thrown 0 0 0 z) := zSw_rel.um h (by decide)
def zTo (c m : ZS) : Prop := (∀ i, 0 ≤ i → i < c r_Grid_showCount 0 0 0 → c r_Show_cause i 0 0 = 45 → c r_Grid_hour 0 0 0 < c r_Show_first i 0 0 → 0 ≤ c r_Film_section (c r_Show_film i 0 0) 0 0) ∧ (∀ i, 0 ≤ i → i < c r_Grid_showCount 0 0 0 → 0 ≤ c r_Film_section (c r_Show_film i 0 0) 0 0 ∨ c r_Film_isWithdrawn (c r_Show_film i 0 0) 0 0 ≠ 0) ∧ ∀ i j, 0 ≤ i → i < j → j < c r_Grid_showCount 0 0 0 → c r_Show_cause i 0 0 = 45 → c r_Show_cause j 0 0 = 45 → c r_Show_first i 0 0 < c r_Show_first j 0 0 + c r_Show_length j 0 0 → c r_Show_first j 0 0 < c r_Show_first i 0 0 + c r_Show_length i 0 0 → c r_Show_screen i 0 0 ≠ c r_Show_screen j 0 0 ∧ (c r_Film_section (c r_Show_film i 0 0) 0 0 = -1 ∨ c r_Film_section (c r_Show_film i 0 0) 0 0 ≠ c r_Film_section (c r_Show_film j 0 0) 0 0)
def zToC : List Nat := [r_Grid_showCount, r_Show_cause, r_Grid_hour, r_Show_first, r_Film_section, r_Show_film, r_Film_isWithdrawn, r_Show_length, r_Show_screen]
def zToM : List Nat := []
theorem zTo_rel : zRel zTo zToC zToM := fun {c m c' m'} h hc hm => by
  unfold zTo
  rw [hc r_Grid_showCount (by decide), hc r_Show_cause (by decide), hc r_Grid_hour (by decide), hc r_Show_first (by decide), hc r_Film_section (by decide), hc r_Show_film (by decide), hc r_Film_isWithdrawn (by decide), hc r_Show_length (by decide), hc r_Show_screen (by decide)]
  exact h
theorem zTo.out {c m : ZS} (h : zTo c m) {z : Int} : zTo (e_upd c r_out 0 0 0 z) m := zTo_rel.uc h (by decide)
theorem zTo.thr {c m : ZS} (h : zTo c m) {z : Int} : zTo c (e_upd m r_m_thrown 0 0 0 z) := zTo_rel.um h (by decide)
def zQu (c m : ZS) : Prop := ∀ i, 0 ≤ i → i < 60 → m r_m_areOpened 0 0 i = c r_Show_isOpened i 0 0 ∧ (0 ≤ c r_Show_waiting i 0 0 ∧ c r_Show_waiting i 0 0 ≤ 16 ∧ m r_m_waitMany 0 0 i = c r_Show_waiting i 0 0) ∧ (∀ k, 0 ≤ k → k < c r_Show_waiting i 0 0 → m r_m_waits_r i 0 k = c r_Show_queue i 0 k ∧ 0 ≤ c r_Show_queue i 0 k ∧ c r_Show_queue i 0 k < 16) ∧ (∀ j k, 0 ≤ j → j < k → k < c r_Show_waiting i 0 0 → c r_Show_queue i 0 j ≠ c r_Show_queue i 0 k) ∧ (c r_Grid_showCount 0 0 0 ≤ i → c r_Show_waiting i 0 0 = 0 ∧ c r_Show_isOpened i 0 0 = 0)
def zQuC : List Nat := [r_Show_isOpened, r_Show_waiting, r_Show_queue, r_Grid_showCount]
def zQuM : List Nat := [r_m_areOpened, r_m_waitMany, r_m_waits_r]
theorem zQu_rel : zRel zQu zQuC zQuM := fun {c m c' m'} h hc hm => by
  unfold zQu
  rw [hc r_Show_isOpened (by decide), hc r_Show_waiting (by decide), hc r_Show_queue (by decide), hc r_Grid_showCount (by decide), hm r_m_areOpened (by decide), hm r_m_waitMany (by decide), hm r_m_waits_r (by decide)]
  exact h
theorem zQu.out {c m : ZS} (h : zQu c m) {z : Int} : zQu (e_upd c r_out 0 0 0 z) m := zQu_rel.uc h (by decide)
theorem zQu.thr {c m : ZS} (h : zQu c m) {z : Int} : zQu c (e_upd m r_m_thrown 0 0 0 z) := zQu_rel.um h (by decide)
def zSs (c m : ZS) : Prop := ∀ i p, 0 ≤ i → i < 60 → 0 ≤ p → p < 16 → m r_m_haveSeats_r i 0 p = c r_Show_isSeated i 0 p
def zSsC : List Nat := [r_Show_isSeated]
def zSsM : List Nat := [r_m_haveSeats_r]
theorem zSs_rel : zRel zSs zSsC zSsM := fun {c m c' m'} h hc hm => by
  unfold zSs
  rw [hc r_Show_isSeated (by decide), hm r_m_haveSeats_r (by decide)]
  exact h
theorem zSs.out {c m : ZS} (h : zSs c m) {z : Int} : zSs (e_upd c r_out 0 0 0 z) m := zSs_rel.uc h (by decide)
theorem zSs.thr {c m : ZS} (h : zSs c m) {z : Int} : zSs c (e_upd m r_m_thrown 0 0 0 z) := zSs_rel.um h (by decide)
def zPa (c m : ZS) : Prop := (0 ≤ c r_Passes_passCount 0 0 0 ∧ c r_Passes_passCount 0 0 0 ≤ 16 ∧ m r_m_passes 0 0 0 = c r_Passes_passCount 0 0 0) ∧ ∀ p, 0 ≤ p → p < 16 → m r_m_ranks 0 0 p = c r_Passes_ranks 0 0 p
def zPaC : List Nat := [r_Passes_passCount, r_Passes_ranks]
def zPaM : List Nat := [r_m_passes, r_m_ranks]
theorem zPa_rel : zRel zPa zPaC zPaM := fun {c m c' m'} h hc hm => by
  unfold zPa
  rw [hc r_Passes_passCount (by decide), hc r_Passes_ranks (by decide), hm r_m_passes (by decide), hm r_m_ranks (by decide)]
  exact h
theorem zPa.out {c m : ZS} (h : zPa c m) {z : Int} : zPa (e_upd c r_out 0 0 0 z) m := zPa_rel.uc h (by decide)
theorem zPa.thr {c m : ZS} (h : zPa c m) {z : Int} : zPa c (e_upd m r_m_thrown 0 0 0 z) := zPa_rel.um h (by decide)
end
/-! part 71uc03 -/
section
/-! Shows: state, hours -/
def zln (c : ZS) (f : Int) : Int := if 150 < c r_Film_minutes f 0 0 then 2 else 1
theorem zln_r {c : ZS} {f : Int} : 1 ≤ zln c f ∧ zln c f ≤ 2 := by
  unfold zln
  split <;> omega
theorem q_hoursLong {f : Int} {c : ZS} : v_Film_hoursLong f c = zln c f := by
  unfold v_Film_hoursLong zln
  rw [zb_d]
theorem q_lengthOf {f : Int} {c m : ZS} (h : m r_m_minutes 0 0 f = c r_Film_minutes f 0 0) : v_m_lengthOf f m = zln c f := by
  unfold v_m_lengthOf zln
  rw [zb_d, h]
/-- what stands of a show on both sides -/
theorem zSw.row {c m : ZS} (h : zSw c m) (hf : zFs c m) {i : Int} (i0 : 0 ≤ i) (i1 : i < c r_Grid_showCount 0 0 0) : m r_m_showFilms 0 0 i = c r_Show_film i 0 0 ∧ m r_m_showScreens 0 0 i = c r_Show_screen i 0 0 ∧ m r_m_showHours 0 0 i = c r_Show_first i 0 0 ∧ c r_Show_length i 0 0 = zln c (c r_Show_film i 0 0) ∧ v_m_lengthOf (m r_m_showFilms 0 0 i) m = zln c (c r_Show_film i 0 0) := by
  obtain ⟨-, h2, -⟩ := h
  obtain ⟨⟨a1, a2, a3⟩, ⟨b1, b2, b3⟩, ⟨d1, d2, d3⟩, e⟩ := h2 i i0 i1
  refine ⟨a1, b1, d1, e, ?_⟩
  rw [a1]
  exact q_lengthOf ((hf.1 _ a2 a3).2.1)
theorem q_lastOf {c m : ZS} (h : zSw c m) (hf : zFs c m) {i : Int} (i0 : 0 ≤ i) (i1 : i < c r_Grid_showCount 0 0 0) : v_m_lastOf i m = c r_Show_first i 0 0 + zln c (c r_Show_film i 0 0) - 1 := by
  obtain ⟨a, b, d, e, g⟩ := h.row hf i0 i1
  have hr := zln_r (c := c) (f := c r_Show_film i 0 0)
  obtain ⟨-, -, ⟨-, d2, d3⟩, -⟩ := h.2.1 i i0 i1
  unfold v_m_lastOf
  rw [g, d, e_wr_id (x := c r_Show_first i 0 0 + zln c (c r_Show_film i 0 0)) (by omega) (by omega), e_wr_id (by omega) (by omega)]
theorem q_state {c m : ZS} (h : zSw c m) (hf : zFs c m) (hh : zHr c m) {i : Int} (i0 : 0 ≤ i) (i1 : i < c r_Grid_showCount 0 0 0) : v_m_stateOf i m = v_Grid_stateOf i c ∧ v_Grid_stateOf i c = if c r_Show_cause i 0 0 = 45 then (if c r_Grid_hour 0 0 0 < c r_Show_first i 0 0 then 116 else if c r_Grid_hour 0 0 0 < c r_Show_first i 0 0 + zln c (c r_Show_film i 0 0) then 110 else 111) else c r_Show_cause i 0 0 := by
  obtain ⟨a, b, d, e, g⟩ := h.row hf i0 i1
  have hr := zln_r (c := c) (f := c r_Show_film i 0 0)
  obtain ⟨-, -, ⟨-, d2, d3⟩, -⟩ := h.2.1 i i0 i1
  obtain ⟨x1, x2, x3⟩ := hh
  have hn : c r_Grid_showCount 0 0 0 ≤ 60 := h.1.2.1
  have hc := (h.2.2 i i0 (by omega)).1
  have e2 : v_Grid_stateOf i c = if c r_Show_cause i 0 0 = 45 then (if c r_Grid_hour 0 0 0 < c r_Show_first i 0 0 then 116 else if c r_Grid_hour 0 0 0 < c r_Show_first i 0 0 + zln c (c r_Show_film i 0 0) then 110 else 111) else c r_Show_cause i 0 0 := by
    unfold v_Grid_stateOf
    rw [e, e_wr_id (x := c r_Show_first i 0 0 + zln c (c r_Show_film i 0 0)) (by omega) (by omega)]
    simp only [zb_d]
    repeat' split
    all_goals first | rfl | omega
  refine ⟨?_, e2⟩
  rw [e2]
  unfold v_m_stateOf
  rw [q_lastOf h hf i0 i1, d, x3]
  simp only [zb_d]
  rcases hc with ⟨h1, h2⟩ | ⟨h1, h2⟩
  · rw [h1, h2]
    repeat' split
    all_goals first | rfl | omega
  · rw [if_neg (by omega), if_neg (by omega), h2]
/-- whether a show is one of a time from x on, so long -/
def zin (c : ZS) (i x n : Int) : Bool := decide (c r_Show_cause i 0 0 = 45 ∧ c r_Show_first i 0 0 < x + n ∧ x < c r_Show_first i 0 0 + zln c (c r_Show_film i 0 0))
theorem q_standsIn {c m : ZS} (h : zSw c m) {i x n : Int} (i0 : 0 ≤ i) (i1 : i < c r_Grid_showCount 0 0 0) (x0 : 0 ≤ x) (x1 : x < 100) (n0 : 0 ≤ n) (n1 : n < 100) : v_Show_standsIn i x n c = zb (zin c i x n) := by
  have hr := zln_r (c := c) (f := c r_Show_film i 0 0)
  obtain ⟨-, -, ⟨-, d2, d3⟩, e⟩ := h.2.1 i i0 i1
  have e : c r_Show_length i 0 0 = zln c (c r_Show_film i 0 0) := e
  unfold v_Show_standsIn zb zin
  rw [e, e_wr_id (x := x + n) (by omega) (by omega), e_wr_id (x := c r_Show_first i 0 0 + zln c (c r_Show_film i 0 0)) (by omega) (by omega)]
  simp only [zb_d, zb_n, decide_eq_true_eq]
  repeat' split
  all_goals first | rfl | omega
theorem q_hasHour {c m : ZS} (h : zSw c m) (hf : zFs c m) {i x : Int} (i0 : 0 ≤ i) (i1 : i < c r_Grid_showCount 0 0 0) : v_m_hasHour i x m = zb (zin c i x 1) := by
  obtain ⟨a, b, d, e, g⟩ := h.row hf i0 i1
  have hn : c r_Grid_showCount 0 0 0 ≤ 60 := h.1.2.1
  have hc := (h.2.2 i i0 (by omega)).1
  unfold v_m_hasHour zb zin
  rw [q_lastOf h hf i0 i1, d, q_isIn]
  simp only [zb_d, zb_n, decide_eq_true_eq]
  rcases hc with ⟨h1, h2⟩ | ⟨h1, h2⟩
  · rw [h1, h2]
    repeat' split
    all_goals first | rfl | omega
  · rw [if_neg (by omega), if_neg (by omega)]
theorem q_screen {s : Int} {S : ZS} (h0 : 0 ≤ S r_Venue_screenCount 0 0 0) (h1 : S r_Venue_screenCount 0 0 0 ≤ 1000) : f_x_checkScreen [s] S = if 0 ≤ s ∧ s < S r_Venue_screenCount 0 0 0 then ((0, []), S) else ((1, []), S) := by
  show e_bind (f_x_checkNumber [s, S r_Venue_screenCount 0 0 0] S) (fun _ S1 => ((0, []), S1)) = _
  rw [q_num h0 h1, e_b_if]
  rfl
theorem q_show {s : Int} {S : ZS} (h0 : 0 ≤ S r_Grid_showCount 0 0 0) (h1 : S r_Grid_showCount 0 0 0 ≤ 1000) : f_x_checkShow [s] S = if 0 ≤ s ∧ s < S r_Grid_showCount 0 0 0 then ((0, []), S) else ((1, []), S) := by
  show e_bind (f_x_checkNumber [s, S r_Grid_showCount 0 0 0] S) (fun _ S1 => ((0, []), S1)) = _
  rw [q_num h0 h1, e_b_if]
  rfl
theorem q_pass {s : Int} {S : ZS} (h0 : 0 ≤ S r_Passes_passCount 0 0 0) (h1 : S r_Passes_passCount 0 0 0 ≤ 1000) : f_x_checkPass [s] S = if 0 ≤ s ∧ s < S r_Passes_passCount 0 0 0 then ((0, []), S) else ((1, []), S) := by
  show e_bind (f_x_checkNumber [s, S r_Passes_passCount 0 0 0] S) (fun _ S1 => ((0, []), S1)) = _
  rw [q_num h0 h1, e_b_if]
  rfl
theorem q_section {s : Int} {S : ZS} (h0 : 0 ≤ S r_x_sectionCount 0 0 0) (h1 : S r_x_sectionCount 0 0 0 ≤ 1000) : f_x_checkSection [s] S = if 0 ≤ s ∧ s < S r_x_sectionCount 0 0 0 then ((0, []), S) else ((1, []), S) := by
  show e_bind (f_x_checkNumber [s, S r_x_sectionCount 0 0 0] S) (fun _ S1 => ((0, []), S1)) = _
  rw [q_num h0 h1, e_b_if]
  rfl
theorem q_hour {x : Int} {S : ZS} : f_x_checkHour [x] S = if 0 ≤ x ∧ x ≤ 49 then ((0, []), S) else ((2, []), S) := by
  show (bif !decide (v_x_isWithin x 0 49 S = 0) then _ else _) = _
  rw [zb_n, q_within]
  repeat' split
  all_goals first | rfl | omega
theorem q_noScreen {f : Int} {S : ZS} (h0 : 0 ≤ S r_m_screens 0 0 0) (h1 : S r_m_screens 0 0 0 ≤ 1000) : v_m_isNoScreen f S = if 0 ≤ f ∧ f < S r_m_screens 0 0 0 then 0 else 1 := by
  unfold v_m_isNoScreen
  rw [zb_n, q_isIn, e_wr_id (by omega) (by omega)]
  repeat' split
  all_goals first | rfl | omega
theorem q_noShow {f : Int} {S : ZS} (h0 : 0 ≤ S r_m_shows 0 0 0) (h1 : S r_m_shows 0 0 0 ≤ 1000) : v_m_isNoShow f S = if 0 ≤ f ∧ f < S r_m_shows 0 0 0 then 0 else 1 := by
  unfold v_m_isNoShow
  rw [zb_n, q_isIn, e_wr_id (by omega) (by omega)]
  repeat' split
  all_goals first | rfl | omega
theorem q_noSection {f : Int} {S : ZS} (h0 : 0 ≤ S r_m_sectionMany 0 0 0) (h1 : S r_m_sectionMany 0 0 0 ≤ 1000) : v_m_isNoSection f S = if 0 ≤ f ∧ f < S r_m_sectionMany 0 0 0 then 0 else 1 := by
  unfold v_m_isNoSection
  rw [zb_n, q_isIn, e_wr_id (by omega) (by omega)]
  repeat' split
  all_goals first | rfl | omega
theorem q_isHour {x : Int} {S : ZS} : v_m_isHour x S = if 0 ≤ x ∧ x ≤ 49 then 1 else 0 := by
  unfold v_m_isHour
  exact q_isIn
end
/-! part 71uc04 -/
section
/-! Whether a film can be shown -/
def zky (c : ZS) (f s x k : Int) : Bool := decide (c r_Venue_keyFilms 0 0 k = f ∧ c r_Venue_keyScreens 0 0 k = s ∧ c r_Venue_keyFrom 0 0 k ≤ x ∧ x ≤ c r_Venue_keyTo 0 0 k)
theorem zif0 {p : Prop} [Decidable p] : ((if p then (1 : Int) else 0) = 0) ↔ ¬ p := by
  by_cases h : p <;> simp [h]
def zcan (c : ZS) (f s x t : Int) : Bool := decide (c r_Film_kind f 0 0 ≠ 45) && (decide (t ≤ x) && (if c r_Film_kind f 0 0 = 114 then decide (c r_Venue_hasGear 0 0 s ≠ 0) else zany (zky c f s x) (c r_Venue_keyCount 0 0 0).toNat 0))
theorem q_byKey {c m : ZS} (hv : zVe c m) {f s x : Int} : f_Venue_isOpenedByKey [f, s, x] c = ((0, [zb (zany (zky c f s x) (c r_Venue_keyCount 0 0 0).toNat 0)]), c) := by
  obtain ⟨-, -, ⟨k0, k1, -⟩, -⟩ := hv
  show g_Venue_isOpenedByKey ((1000, [f, s, x]), c) = _
  rw [g_Venue_isOpenedByKey_0]
  refine (zl_any (n := c r_Venue_keyCount 0 0 0) (p := zky c f s x) (A := ((0, [1]), c)) (B := ((0, [0]), c)) (G := fun k => g_Venue_isOpenedByKey ((1003, [f, s, x, k]), c)) (fun k hk => ?_) (fun k h0 h1 => ?_) (c r_Venue_keyCount 0 0 0).toNat 0 (Int.le_refl _) (by omega)).trans ?_
  · rw [g_Venue_isOpenedByKey_3, zb_d, if_pos (by omega)]
  · have hk : e_wr (k + 1) = k + 1 := e_wr_id (by omega) (by omega)
    rw [g_Venue_isOpenedByKey_3, zb_d, if_neg (by omega), hk]
    unfold zky
    simp only [zb_d, zb_n, decide_eq_true_eq]
    repeat' split
    all_goals first | rfl | (exfalso; omega)
  · unfold zb
    split <;> rfl
theorem q_canRun {c m : ZS} (hv : zVe c m) {f s x t : Int} (s0 : 0 ≤ s) (s1 : s < 4) : f_Grid_canRun [f, s, x, t] c = ((0, [zb (zcan c f s x t)]), c) := by
  obtain ⟨-, g, -⟩ := id hv
  obtain ⟨-, -, gb⟩ := g s s0 s1
  show (bif decide (c r_Film_kind f 0 0 = 45) then _ else (bif decide (t ≤ x) then (bif !decide (c r_Film_kind f 0 0 = 114) then e_bind (f_Venue_isOpenedByKey [f, s, x] c) (fun v1 S1 => ((0, [v1]), S1)) else ((0, [c r_Venue_hasGear 0 0 s]), c)) else _)) = _
  rw [q_byKey hv, e_bnd]
  unfold zcan
  simp only [zb_d, zb_n]
  by_cases q1 : c r_Film_kind f 0 0 = 45
  · simp [q1, zb]
  · by_cases q2 : t ≤ x
    · by_cases q3 : c r_Film_kind f 0 0 = 114
      · rw [if_neg q1, if_pos q2, if_pos q3, if_pos q3]
        rcases gb with e | e <;> simp [q1, q2, e, zb]
      · rw [if_neg q1, if_pos q2, if_neg q3, if_neg q3]
        simp [q1, q2]
    · rw [if_neg q1, if_neg q2]
      simp [q2, zb]
theorem q_canShowNow {c m : ZS} (hv : zVe c m) (hk : zPk c m) {f s x : Int} (f0 : 0 ≤ f) (f1 : f < 20) (s0 : 0 ≤ s) (s1 : s < 4) : f_m_canShowNow [f, s, x] m = ((0, [zb (zcan c f s x (m r_m_printHours 0 0 f))]), m) := by
  obtain ⟨-, g, ⟨k0, k1, k2⟩, ky⟩ := id hv
  obtain ⟨-, ge, gb⟩ := g s s0 s1
  have hkf := hk f f0 f1
  show g_m_canShowNow ((1000, [f, s, x]), m) = _
  have loop : ∀ o, zbit o → m r_m_prints 0 0 f = 100 → g_m_canShowNow ((1051, [f, s, x, o, 0]), m) = ((0, [if zany (zky c f s x) (c r_Venue_keyCount 0 0 0).toNat 0 = true then 1 else o]), m) := fun o ho hp => by
    refine zl_set (n := c r_Venue_keyCount 0 0 0) (z := 1) (p := zky c f s x) (P := zbit) zbit1 (fin := fun o => ((0, [o]), m)) (G := fun o k => g_m_canShowNow ((1051, [f, s, x, o, k]), m)) (fun o k e ho => ?_) (fun o k h0 h1 ho => ?_) (c r_Venue_keyCount 0 0 0).toNat o 0 (Int.le_refl _) (by omega) ho
    · rw [g_m_canShowNow_51, zb_d, if_pos (by omega)]
    · have hk1 : e_wr (k + 1) = k + 1 := e_wr_id (by omega) (by omega)
      obtain ⟨y1, y2, y3, y4⟩ := ky k h0 h1
      rw [g_m_canShowNow_51, zb_d, if_neg (by omega), hk1, y1, y2, y3, y4, hp, q_isIn, e_or0 ho, e_or1 ho]
      unfold zky
      simp only [zb_d, zb_n, decide_eq_true_eq, zif0, ↓reduceIte]
      repeat' split
      all_goals first | rfl | (exfalso; omega)
  rw [g_m_canShowNow_0]
  unfold zcan
  simp only [zb_d, zb_n]
  rcases hkf with ⟨q1, q2⟩ | ⟨q1, q2⟩
  · rw [if_pos q2]
    simp [q1, zb]
  · rw [if_neg (by omega)]
    by_cases q3 : m r_m_printHours 0 0 f ≤ x
    · rw [if_pos q3]
      rcases q1 with q1 | q1
      · have e51 : ∀ o, g_m_canShowNow ((1051, [f, s, x, o, 0]), m) = ((0, [o]), m) := fun o => by
          rw [g_m_canShowNow_51]
          simp only [zb_d, zb_n]
          by_cases w : m r_m_keyMany 0 0 0 ≤ 0
          · rw [if_pos w]
          · rw [if_neg w, if_neg (by omega)]
        rw [if_pos (by omega), e51, e51, ge]
        rcases gb with e | e <;> simp [q1, q3, e, zb]
      · rw [if_neg (by omega), loop 0 zbit0 (by omega)]
        simp only [q1, q3]
        unfold zb
        cases zany (zky c f s x) (c r_Venue_keyCount 0 0 0).toNat 0 <;> simp
    · rw [if_neg q3]
      simp [q3, zb]
/-- in all hours of a film's show -/
def zthr (c : ZS) (f s x t : Int) : Bool := zcan c f s x t && (decide (zln c f = 1) || zcan c f s (x + 1) t)
theorem q_canRunThrough {c m : ZS} (hv : zVe c m) {f s x t : Int} (s0 : 0 ≤ s) (s1 : s < 4) (x0 : 0 ≤ x) (x1 : x < 100) : f_Grid_canRunThrough [f, s, x, t] c = ((0, [zb (zthr c f s x t)]), c) := by
  have hr := zln_r (c := c) (f := f)
  have hx1 : e_wr (x + 1) = x + 1 := e_wr_id (by omega) (by omega)
  have hx2 : e_wr (x + 1 + 1) = x + 1 + 1 := e_wr_id (by omega) (by omega)
  show g_Grid_canRunThrough ((1000, [f, s, x, t]), c) = _
  rw [g_Grid_canRunThrough_0, q_hoursLong, e_wr_id (x := x + zln c f) (by omega) (by omega), g_Grid_canRunThrough_16, zb_d, if_neg (by omega), q_canRun hv s0 s1, e_bnd, zb_n, hx1]
  unfold zthr
  cases h1 : zcan c f s x t
  · rfl
  · rw [if_neg (by decide), g_Grid_canRunThrough_16, zb_d]
    by_cases q : zln c f = 1
    · rw [if_pos (by omega), decide_eq_true q]
      rfl
    · rw [if_neg (by omega), q_canRun hv s0 s1, e_bnd, zb_n, hx2, decide_eq_false q]
      cases h2 : zcan c f s (x + 1) t
      · rfl
      · rw [if_neg (by decide), g_Grid_canRunThrough_16, zb_d, if_pos (by omega)]
        rfl
end
/-! part 71uc05 -/
section
/-! Whether a show can be set: both sides -/
/-- a show hinders a film on a screen, whatever the time -/
def zhd (c : ZS) (f s i : Int) : Bool := decide (c r_Show_screen i 0 0 = s ∨ c r_Show_film i 0 0 = f ∨ c r_Film_section (c r_Show_film i 0 0) 0 0 = c r_Film_section f 0 0)
def zhin (c : ZS) (f s x n i : Int) : Bool := zin c i x n && zhd c f s i
def zfre (c : ZS) (f s x n : Int) : Bool := !zany (zhin c f s x n) (c r_Grid_showCount 0 0 0).toNat 0
theorem q_isFree2 {c m : ZS} (h : zSw c m) {f s x : Int} (x0 : 0 ≤ x) (x1 : x < 50) : f_Grid_isFree [f, s, x] c = ((0, [zb (zfre c f s x (zln c f))]), c) := by
  obtain ⟨n0, n1, -⟩ := id h.1
  have hr := zln_r (c := c) (f := f)
  show g_Grid_isFree ((1000, [f, s, x]), c) = _
  rw [g_Grid_isFree_0, q_hoursLong]
  refine (zl_any (n := c r_Grid_showCount 0 0 0) (p := zhin c f s x (zln c f)) (A := ((0, [0]), c)) (B := ((0, [1]), c)) (G := fun k => g_Grid_isFree ((1025, [f, s, x, zln c f, c r_Film_section f 0 0, k]), c)) (fun k hk => ?_) (fun k h0 h1 => ?_) (c r_Grid_showCount 0 0 0).toNat 0 (Int.le_refl _) (by omega)).trans ?_
  · rw [g_Grid_isFree_25, zb_d, if_pos (by omega)]
  · have hk : e_wr (k + 1) = k + 1 := e_wr_id (by omega) (by omega)
    rw [g_Grid_isFree_25, zb_d, if_neg (by omega), q_standsIn h h0 h1 x0 (by omega) (by omega) (by omega), hk]
    unfold zhin
    cases hz : zin c k x (zln c f)
    · rw [zb_d, if_pos (by decide), Bool.false_and, if_neg (by decide)]
    · rw [zb_d, if_neg (by decide), Bool.true_and]
      unfold zhd
      simp only [zb_d, zb_n, decide_eq_true_eq]
      repeat' split
      all_goals first | rfl | (exfalso; omega)
  · unfold zfre zb
    cases zany (zhin c f s x (zln c f)) (c r_Grid_showCount 0 0 0).toNat 0 <;> rfl
/-- the model's inner loop -/
theorem q_mfree {c m : ZS} (h : zSw c m) (hf : zFs c m) {f s x n v y : Int} (f0 : 0 ≤ f) (f1 : f < c r_x_filmCount 0 0 0) (hs : 0 ≤ c r_Film_section f 0 0) (hv : zbit v) : g_m_canSet ((1073, [f, s, x, n, v, y, 0]), m) = g_m_canSet ((1046, [f, s, x, n, if zany (zhin c f s y 1) (c r_Grid_showCount 0 0 0).toNat 0 = true then 0 else v, e_wr (y + 1)]), m) := by
  obtain ⟨n0, n1, n2⟩ := id h.1
  refine zl_set (n := c r_Grid_showCount 0 0 0) (z := 0) (p := zhin c f s y 1) (P := zbit) zbit0 (fin := fun v => g_m_canSet ((1046, [f, s, x, n, v, e_wr (y + 1)]), m)) (G := fun v k => g_m_canSet ((1073, [f, s, x, n, v, y, k]), m)) (fun v k e hv => ?_) (fun v k h0 h1 hv => ?_) (c r_Grid_showCount 0 0 0).toNat v 0 (Int.le_refl _) (by omega) hv
  · rw [g_m_canSet_73, zb_d, if_pos (by omega)]
  · have hk : e_wr (k + 1) = k + 1 := e_wr_id (by omega) (by omega)
    obtain ⟨a, b, d, e, g⟩ := h.row hf h0 h1
    obtain ⟨⟨-, a2, a3⟩, -⟩ := h.2.1 k h0 h1
    have s1 := (hf.1 _ a2 a3).2.2.2
    have s2 := (hf.1 f f0 f1).2.2.2
    rw [g_m_canSet_73, zb_d, if_neg (by omega), hk, q_hasHour h hf h0 h1, a, b, s1, s2, e_and0 hv, e_and1 hv]
    unfold zhin zhd
    cases hz : zin c k y 1
    · rw [Bool.false_and, if_neg (by decide)]
      have hb : zb false = 0 := rfl
      simp only [zb_d, zb_n, hb, ↓reduceIte, ite_self]
    · rw [Bool.true_and]
      have hb : ¬ zb true = 0 := by decide
      simp only [zb_d, zb_n, if_neg hb, decide_eq_true_eq]
      repeat' split
      all_goals first | rfl | (exfalso; omega)
def zset (c : ZS) (f s x : Int) : Bool := decide (c r_Grid_hour 0 0 0 ≤ x ∧ e_wr (e_wr (x - e_wr (e_div x 5 * 5)) + zln c f) ≤ 5 ∧ c r_Grid_isStormy 0 0 (e_div x 5) = 0) && (zthr c f s x (c r_Film_comes f 0 0) && zfre c f s x (zln c f))
theorem q_canBeSet {c m : ZS} (h : zSw c m) (hv : zVe c m) {f s x : Int} (s0 : 0 ≤ s) (s1 : s < 4) (x0 : 0 ≤ x) (x1 : x < 50) : f_Grid_canBeSet [f, s, x] c = ((0, [zb (zset c f s x)]), c) := by
  unfold f_Grid_canBeSet zset
  dsimp only
  rw [q_hoursLong, q_canRunThrough hv s0 s1 x0 (by omega), e_bnd, q_isFree2 h x0 x1, e_bnd]
  simp only [zb_d, zb_n, zb0]
  by_cases q1 : x < c r_Grid_hour 0 0 0
  · rw [if_pos q1, decide_eq_false (by omega)]
    rfl
  · rw [if_neg q1, if_neg (by omega)]
    by_cases q2 : e_wr (e_wr (x - e_wr (e_div x 5 * 5)) + zln c f) ≤ 5
    · rw [if_pos q2]
      by_cases q3 : c r_Grid_isStormy 0 0 (e_div x 5) = 0
      · rw [if_pos q3, decide_eq_true (show c r_Grid_hour 0 0 0 ≤ x ∧ e_wr (e_wr (x - e_wr (e_div x 5 * 5)) + zln c f) ≤ 5 ∧ c r_Grid_isStormy 0 0 (e_div x 5) = 0 from ⟨by omega, q2, q3⟩)]
        cases zthr c f s x (c r_Film_comes f 0 0) <;> cases zfre c f s x (zln c f) <;> rfl
      · rw [if_neg q3, decide_eq_false (fun w => q3 w.2.2)]
        rfl
    · rw [if_neg q2, decide_eq_false (fun w => q2 w.2.1)]
      rfl
theorem zfre1 {c : ZS} {f s x : Int} : zfre c f s x 1 = !zany (zhin c f s x 1) (c r_Grid_showCount 0 0 0).toNat 0 := rfl
theorem zfre2 {c : ZS} {f s x : Int} : zfre c f s x 2 = (!zany (zhin c f s x 1) (c r_Grid_showCount 0 0 0).toNat 0 && !zany (zhin c f s (x + 1) 1) (c r_Grid_showCount 0 0 0).toNat 0) := by
  have e : zany (zhin c f s x 2) (c r_Grid_showCount 0 0 0).toNat 0 = (zany (zhin c f s x 1) (c r_Grid_showCount 0 0 0).toNat 0 || zany (zhin c f s (x + 1) 1) (c r_Grid_showCount 0 0 0).toNat 0) := by
    have hi : ∀ i, zhin c f s x 2 i = (zhin c f s x 1 i || zhin c f s (x + 1) 1 i) := fun i => by
      have hr := zln_r (c := c) (f := c r_Show_film i 0 0)
      unfold zhin zin
      rw [← Bool.and_or_distrib_right, ← Bool.decide_or]
      congr 1
      apply decide_eq_decide.mpr
      omega
    rw [Bool.eq_iff_iff, Bool.or_eq_true, zany_iff, zany_iff, zany_iff]
    constructor
    · rintro ⟨i, h1, h2, h3⟩
      rw [hi, Bool.or_eq_true] at h3
      rcases h3 with h3 | h3
      · exact Or.inl ⟨i, h1, h2, h3⟩
      · exact Or.inr ⟨i, h1, h2, h3⟩
    · rintro (⟨i, h1, h2, h3⟩ | ⟨i, h1, h2, h3⟩)
      · exact ⟨i, h1, h2, by rw [hi, h3, Bool.true_or]⟩
      · exact ⟨i, h1, h2, by rw [hi, h3, Bool.or_true]⟩
  unfold zfre
  rw [e, Bool.not_or]
theorem q_canSet {c m : ZS} (h : zSw c m) (hf : zFs c m) (hv : zVe c m) (hk : zPk c m) (hp : zPh c m) (hh : zHr c m) (ht : zSt c m) {f s x : Int} (f0 : 0 ≤ f) (f1 : f < c r_x_filmCount 0 0 0) (f2 : f < 20) (hs : 0 ≤ c r_Film_section f 0 0) (s0 : 0 ≤ s) (s1 : s < 4) (x0 : 0 ≤ x) (x1 : x < 50) : f_m_canSet [f, s, x] m = ((0, [zb (zset c f s x)]), m) := by
  have hr := zln_r (c := c) (f := f)
  have hd : 0 ≤ e_div x 5 ∧ e_div x 5 < 10 := by
    unfold e_div
    rw [Int.tdiv_eq_ediv_of_nonneg x0, e_wr_id (by omega) (by omega)]
    omega
  have hw : e_wr (x + zln c f) = x + zln c f := e_wr_id (by omega) (by omega)
  have hx1 : e_wr (x + 1) = x + 1 := e_wr_id (by omega) (by omega)
  have hx2 : e_wr (x + 1 + 1) = x + 1 + 1 := e_wr_id (by omega) (by omega)
  have hw2 : e_wr (x + 2) = x + 2 := e_wr_id (by omega) (by omega)
  have e0 : g_m_canSet ((1046, [f, s, x, zln c f, 0, x]), m) = ((0, [0]), m) := by
    rw [g_m_canSet_46, zb_d, hw, if_neg (by omega), zb_d, if_pos rfl]
  have e1 : g_m_canSet ((1046, [f, s, x, zln c f, 1, x]), m) = ((0, [zb (zthr c f s x (c r_Film_comes f 0 0) && zfre c f s x (zln c f))]), m) := by
    rw [g_m_canSet_46, zb_d, hw, if_neg (by omega), zb_d, if_neg (by decide), q_canShowNow hv hk f0 f2 s0 s1, e_bnd, hp f f0 f2, q_mfree h hf f0 f1 hs zb_bit, hx1]
    unfold zthr
    cases h1 : zcan c f s x (c r_Film_comes f 0 0)
    · rw [g_m_canSet_46, zb_d, hw]
      have hz : (if zany (zhin c f s x 1) (c r_Grid_showCount 0 0 0).toNat 0 = true then 0 else zb false) = 0 := by split <;> rfl
      rw [hz]
      split
      · rfl
      · rw [zb_d, if_pos rfl]
        rfl
    · by_cases q : zln c f = 1
      · rw [g_m_canSet_46, zb_d, hw, if_pos (by omega), decide_eq_true q, q, zfre1]
        cases zany (zhin c f s x 1) (c r_Grid_showCount 0 0 0).toNat 0 <;> rfl
      · have q2 : zln c f = 2 := by omega
        rw [g_m_canSet_46, zb_d, hw, if_neg (by omega), decide_eq_false q, q2, zfre2]
        cases h2 : zany (zhin c f s x 1) (c r_Grid_showCount 0 0 0).toNat 0
        · rw [if_neg (by decide), zb_d, if_neg (by decide), q_canShowNow hv hk f0 f2 s0 s1, e_bnd, hp f f0 f2, q_mfree h hf f0 f1 hs zb_bit, hx2, g_m_canSet_46, zb_d, hw2, if_pos (by omega)]
          cases zcan c f s (x + 1) (c r_Film_comes f 0 0) <;> cases zany (zhin c f s (x + 1) 1) (c r_Grid_showCount 0 0 0).toNat 0 <;> rfl
        · rw [if_pos rfl, zb_d, if_pos rfl]
          cases zcan c f s (x + 1) (c r_Film_comes f 0 0) <;> rfl
  show g_m_canSet ((1000, [f, s, x]), m) = _
  rw [g_m_canSet_0, q_lengthOf ((hf.1 f f0 f1).2.1), e0, e1, hh.2.2, ht _ hd.1 hd.2]
  unfold zset
  simp only [zb_d, zb_n]
  by_cases q1 : x < c r_Grid_hour 0 0 0
  · rw [if_pos q1, decide_eq_false (by omega)]
    rfl
  · rw [if_neg q1]
    by_cases q2 : e_wr (e_wr (x - e_wr (e_div x 5 * 5)) + zln c f) ≤ 5
    · rw [if_neg (by omega)]
      by_cases q3 : c r_Grid_isStormy 0 0 (e_div x 5) = 0
      · rw [if_pos q3, decide_eq_true (show c r_Grid_hour 0 0 0 ≤ x ∧ e_wr (e_wr (x - e_wr (e_div x 5 * 5)) + zln c f) ≤ 5 ∧ c r_Grid_isStormy 0 0 (e_div x 5) = 0 from ⟨by omega, q2, q3⟩), Bool.true_and]
      · rw [if_neg q3, decide_eq_false (fun w => q3 w.2.2)]
        rfl
    · rw [if_pos (by omega), decide_eq_false (fun w => q2 w.2.1)]
      rfl
end
/-! part 71uc06 -/
section
/-! A show is set: both sides -/
/-- the states behind a show that is set -/
def zsC (f s x : Int) (c : ZS) : ZS := zcA 115 f (e_upd (e_upd (e_upd (e_upd (e_upd c r_Show_film (c r_Grid_showCount 0 0 0) 0 0 f) r_Show_screen (c r_Grid_showCount 0 0 0) 0 0 s) r_Show_first (c r_Grid_showCount 0 0 0) 0 0 x) r_Show_length (c r_Grid_showCount 0 0 0) 0 0 (zln c f)) r_Grid_showCount 0 0 0 (c r_Grid_showCount 0 0 0 + 1))
def zsM (f s x : Int) (m : ZS) : ZS := e_upd (zmA 115 f (e_upd (e_upd (e_upd m r_m_showFilms 0 0 (m r_m_shows 0 0 0) f) r_m_showScreens 0 0 (m r_m_shows 0 0 0) s) r_m_showHours 0 0 (m r_m_shows 0 0 0) x)) r_m_shows 0 0 0 (m r_m_shows 0 0 0 + 1)
theorem q_setShow {c : ZS} {f s x : Int} (n0 : 0 ≤ c r_Grid_showCount 0 0 0) (n1 : c r_Grid_showCount 0 0 0 < 60) : f_Grid_setShow [f, s, x] c = ((0, [c r_Grid_showCount 0 0 0]), zsC f s x c) := by
  have hw : e_wr (c r_Grid_showCount 0 0 0 + 1) = c r_Grid_showCount 0 0 0 + 1 := e_wr_id (by omega) (by omega)
  have hw2 : e_wr (c r_Grid_showCount 0 0 0 + 1 - 1) = c r_Grid_showCount 0 0 0 := by rw [e_wr_id (by omega) (by omega), Int.add_sub_cancel]
  have hz : zArC.contains r_Grid_showCount = false := by decide
  unfold f_Grid_setShow f_Show_begin
  dsimp only
  rw [zb_d, if_pos n1, e_bnd0, q_zcA, e_bnd0, q_hoursLong]
  simp (decide := true) only [e_un, hw]
  show ((0, [e_wr ((zcA 115 f _) r_Grid_showCount 0 0 0 - 1)]), _) = _
  rw [zcA_o hz, e_us, hw2]
  rfl
theorem q_mset {m : ZS} {f s x : Int} (n0 : 0 ≤ m r_m_shows 0 0 0) (n1 : m r_m_shows 0 0 0 < 60) : f_m_set [f, s, x] m = ((0, [m r_m_shows 0 0 0]), zsM f s x m) := by
  have hw : e_wr (m r_m_shows 0 0 0 + 1) = m r_m_shows 0 0 0 + 1 := e_wr_id (by omega) (by omega)
  have hw2 : e_wr (m r_m_shows 0 0 0 + 1 - 1) = m r_m_shows 0 0 0 := by rw [e_wr_id (by omega) (by omega), Int.add_sub_cancel]
  have hz : zArM.contains r_m_shows = false := by decide
  unfold f_m_set
  dsimp only
  rw [q_zmA, e_bnd0, e_us, zmA_o hz]
  simp (decide := true) only [e_un, hw, hw2]
  rfl
theorem zsC_o {f s x : Int} {c : ZS} {r : Nat} (h : ([r_Show_film, r_Show_screen, r_Show_first, r_Show_length, r_Grid_showCount] ++ zArC).contains r = false) : (zsC f s x c) r = c r := by
  have hn : ∀ q, q ∈ [r_Show_film, r_Show_screen, r_Show_first, r_Show_length, r_Grid_showCount] ++ zArC → (r == q) = false := fun q hq => by
    cases e : r == q with
    | false => rfl
    | true =>
      rw [beq_iff_eq] at e
      rw [e, ← Bool.not_eq_true] at h
      exact absurd (List.contains_iff_mem.mpr hq) h
  unfold zsC
  rw [zcA_o (by
    cases e : zArC.contains r with
    | false => rfl
    | true =>
      exfalso
      rw [List.contains_iff_mem] at e
      have := hn r (List.mem_append_right _ e)
      rw [beq_self_eq_true] at this
      cases this)]
  funext i j k
  rw [e_un (hn _ (by decide)), e_un (hn _ (by decide)), e_un (hn _ (by decide)), e_un (hn _ (by decide)), e_un (hn _ (by decide))]
theorem zsM_o {f s x : Int} {m : ZS} {r : Nat} (h : ([r_m_showFilms, r_m_showScreens, r_m_showHours, r_m_shows] ++ zArM).contains r = false) : (zsM f s x m) r = m r := by
  have hn : ∀ q, q ∈ [r_m_showFilms, r_m_showScreens, r_m_showHours, r_m_shows] ++ zArM → (r == q) = false := fun q hq => by
    cases e : r == q with
    | false => rfl
    | true =>
      rw [beq_iff_eq] at e
      rw [e, ← Bool.not_eq_true] at h
      exact absurd (List.contains_iff_mem.mpr hq) h
  have hz : zArM.contains r = false := by
    cases e : zArM.contains r with
    | false => rfl
    | true =>
      exfalso
      rw [List.contains_iff_mem] at e
      have := hn r (List.mem_append_right _ e)
      rw [beq_self_eq_true] at this
      cases this
  funext i j k
  unfold zsM
  rw [e_un (hn _ (by decide)), zmA_o hz, e_un (hn _ (by decide)), e_un (hn _ (by decide)), e_un (hn _ (by decide))]
/-- what a call that sets shows leaves as it is -/
def zsW : List Nat := [r_Show_film, r_Show_screen, r_Show_first, r_Show_length, r_Grid_showCount] ++ zArC
def zsX : List Nat := [r_m_showFilms, r_m_showScreens, r_m_showHours, r_m_shows] ++ zArM
theorem zRel.zs {R : ZS → ZS → Prop} {KC KM : List Nat} (hr : zRel R KC KM) (hC : z_nin KC zsW = true) (hM : z_nin KM zsX = true) {f s x : Int} {c m : ZS} (h : R c m) : R (zsC f s x c) (zsM f s x m) := hr h (fun r hq => zsC_o (z_nin_ok hC hq)) (fun r hq => zsM_o (z_nin_ok hM hq))
theorem zAr.add {c m : ZS} (h : zAr c m) {l f : Int} : zAr (zcA l f c) (zmA l f m) := s_add h
/-- the grid's relations together -/
def zGr (c m : ZS) : Prop := zFs c m ∧ zVe c m ∧ zPk c m ∧ zPh c m ∧ zHr c m ∧ zSt c m ∧ zSw c m ∧ zTo c m ∧ zQu c m ∧ zAr c m
theorem s_set {c m : ZS} (h : zGr c m) {f s x : Int} (n1 : c r_Grid_showCount 0 0 0 < 60) (f0 : 0 ≤ f) (f1 : f < c r_x_filmCount 0 0 0) (hs : 0 ≤ c r_Film_section f 0 0) (s0 : 0 ≤ s) (s1 : s < 4) (x0 : 0 ≤ x) (x1 : x < 50) (hz : zfre c f s x (zln c f) = true) : zGr (zsC f s x c) (zsM f s x m) := by
  obtain ⟨g1, g2, g3, g4, g5, g6, g7, g8, g9, g10⟩ := h
  obtain ⟨⟨n0, -, n2⟩, sw, sc⟩ := id g7
  have eC : (zsC f s x c) r_Grid_showCount 0 0 0 = c r_Grid_showCount 0 0 0 + 1 := by
    unfold zsC
    rw [zcA_o (by decide), e_us]
  have eM : (zsM f s x m) r_m_shows 0 0 0 = m r_m_shows 0 0 0 + 1 := by
    unfold zsM
    rw [e_us]
  have c1 : ∀ i, (zsC f s x c) r_Show_film i 0 0 = if i = c r_Grid_showCount 0 0 0 then f else c r_Show_film i 0 0 := fun i => by
    unfold zsC
    rw [zcA_o (by decide)]
    simp (decide := true) only [e_un, e_ur, and_true]
  have c2 : ∀ i, (zsC f s x c) r_Show_screen i 0 0 = if i = c r_Grid_showCount 0 0 0 then s else c r_Show_screen i 0 0 := fun i => by
    unfold zsC
    rw [zcA_o (by decide)]
    simp (decide := true) only [e_un, e_ur, and_true]
  have c3 : ∀ i, (zsC f s x c) r_Show_first i 0 0 = if i = c r_Grid_showCount 0 0 0 then x else c r_Show_first i 0 0 := fun i => by
    unfold zsC
    rw [zcA_o (by decide)]
    simp (decide := true) only [e_un, e_ur, and_true]
  have c4 : ∀ i, (zsC f s x c) r_Show_length i 0 0 = if i = c r_Grid_showCount 0 0 0 then zln c f else c r_Show_length i 0 0 := fun i => by
    unfold zsC
    rw [zcA_o (by decide)]
    simp (decide := true) only [e_un, e_ur, and_true]
  have m1 : ∀ i, (zsM f s x m) r_m_showFilms 0 0 i = if i = c r_Grid_showCount 0 0 0 then f else m r_m_showFilms 0 0 i := fun i => by
    unfold zsM
    rw [e_un (by decide), zmA_o (by decide), n2]
    simp (decide := true) only [e_un, e_ur, true_and]
  have m2 : ∀ i, (zsM f s x m) r_m_showScreens 0 0 i = if i = c r_Grid_showCount 0 0 0 then s else m r_m_showScreens 0 0 i := fun i => by
    unfold zsM
    rw [e_un (by decide), zmA_o (by decide), n2]
    simp (decide := true) only [e_un, e_ur, true_and]
  have m3 : ∀ i, (zsM f s x m) r_m_showHours 0 0 i = if i = c r_Grid_showCount 0 0 0 then x else m r_m_showHours 0 0 i := fun i => by
    unfold zsM
    rw [e_un (by decide), zmA_o (by decide), n2]
    simp (decide := true) only [e_un, e_ur, true_and]
  have k1 : (zsC f s x c) r_Show_cause = c r_Show_cause := zsC_o (by decide)
  have k2 : (zsM f s x m) r_m_gone = m r_m_gone := zsM_o (by decide)
  have k3 : (zsC f s x c) r_Film_minutes = c r_Film_minutes := zsC_o (by decide)
  have k4 : (zsC f s x c) r_x_filmCount = c r_x_filmCount := zsC_o (by decide)
  have k5 : (zsC f s x c) r_Film_section = c r_Film_section := zsC_o (by decide)
  have k6 : (zsC f s x c) r_Grid_hour = c r_Grid_hour := zsC_o (by decide)
  refine ⟨zFs_rel.zs (by decide) (by decide) g1, zVe_rel.zs (by decide) (by decide) g2, zPk_rel.zs (by decide) (by decide) g3, zPh_rel.zs (by decide) (by decide) g4, zHr_rel.zs (by decide) (by decide) g5, zSt_rel.zs (by decide) (by decide) g6, ?_, ?_, ?_, ?_⟩
  · refine ⟨?_, fun i i0 i1 => ?_, fun i i0 i1 => ?_⟩
    · rw [eC, eM, n2]
      omega
    · rw [eC] at i1
      rw [c1, c2, c3, c4, m1, m2, m3, k3, k4]
      by_cases q : i = c r_Grid_showCount 0 0 0
      · simp only [if_pos q]
        exact ⟨⟨trivial, f0, f1⟩, ⟨trivial, s0, s1⟩, ⟨trivial, x0, x1⟩, rfl⟩
      · simp only [if_neg q]
        exact sw i i0 (by omega)
    · rw [eC, k1, k2]
      obtain ⟨a, b⟩ := sc i i0 i1
      exact ⟨a, fun w => b (by omega)⟩
  · obtain ⟨tA, tB, tC⟩ := g8
    have k7 : (zsC f s x c) r_Film_isWithdrawn = c r_Film_isWithdrawn := zsC_o (by decide)
    refine ⟨fun i i0 i1 => ?_, fun i i0 i1 => ?_, fun i j i0 ij j1 => ?_⟩
    · rw [eC] at i1
      rw [c1, c3, k1, k5, k6]
      by_cases q : i = c r_Grid_showCount 0 0 0
      · simp only [if_pos q]
        exact fun _ _ => hs
      · simp only [if_neg q]
        exact tA i i0 (by omega)
    · rw [eC] at i1
      rw [c1, k5, k7]
      by_cases q : i = c r_Grid_showCount 0 0 0
      · simp only [if_pos q]
        exact Or.inl hs
      · simp only [if_neg q]
        exact tB i i0 (by omega)
    · rw [eC] at j1
      rw [c1, c1, c2, c2, c3, c3, c4, c4, k1, k5, if_neg (show ¬ i = c r_Grid_showCount 0 0 0 by omega), if_neg (show ¬ i = c r_Grid_showCount 0 0 0 by omega), if_neg (show ¬ i = c r_Grid_showCount 0 0 0 by omega), if_neg (show ¬ i = c r_Grid_showCount 0 0 0 by omega)]
      by_cases q : j = c r_Grid_showCount 0 0 0
      · simp only [if_pos q]
        intro z1 z2 z3 z4
        have hl : c r_Show_length i 0 0 = zln c (c r_Show_film i 0 0) := (sw i i0 (by omega)).2.2.2
        have hn : zhin c f s x (zln c f) i = false := by
          cases e : zhin c f s x (zln c f) i with
          | false => rfl
          | true =>
            exfalso
            have : zany (zhin c f s x (zln c f)) (c r_Grid_showCount 0 0 0).toNat 0 = true := (zany_iff _ 0).mpr ⟨i, i0, by omega, e⟩
            unfold zfre at hz
            rw [this] at hz
            cases hz
        unfold zhin zhd zin at hn
        rw [decide_eq_true (show c r_Show_cause i 0 0 = 45 ∧ c r_Show_first i 0 0 < x + zln c f ∧ x < c r_Show_first i 0 0 + zln c (c r_Show_film i 0 0) from ⟨z1, z3, by rw [← hl]; exact z4⟩), Bool.true_and, decide_eq_false_iff_not] at hn
        exact ⟨fun y => hn (Or.inl y), Or.inr (fun y => hn (Or.inr (Or.inr y)))⟩
      · simp only [if_neg q]
        exact tC i j i0 ij (by omega)
  · intro i i0 i1
    obtain ⟨a, b, d, e, w⟩ := g9 i i0 i1
    rw [eC, show (zsC f s x c) r_Show_isOpened = c r_Show_isOpened from zsC_o (by decide), show (zsC f s x c) r_Show_waiting = c r_Show_waiting from zsC_o (by decide), show (zsC f s x c) r_Show_queue = c r_Show_queue from zsC_o (by decide), show (zsM f s x m) r_m_areOpened = m r_m_areOpened from zsM_o (by decide), show (zsM f s x m) r_m_waitMany = m r_m_waitMany from zsM_o (by decide), show (zsM f s x m) r_m_waits_r = m r_m_waits_r from zsM_o (by decide)]
    exact ⟨a, b, d, e, fun z => w (by omega)⟩
  · unfold zsC zsM
    exact zAr_rel.um (zAr.add (zAr_rel.uc (zAr_rel.uc (zAr_rel.uc (zAr_rel.uc (zAr_rel.uc (zAr_rel.um (zAr_rel.um (zAr_rel.um g10 (by decide)) (by decide)) (by decide)) (by decide)) (by decide)) (by decide)) (by decide)) (by decide))) (by decide)
end
/-! part 71uc07 -/
section
/-! The first place for a show: both sides -/
def zPl (f : Int) (c m : ZS) (A B : ZR) : Prop := ∃ (v : Int) (c' m' : ZS), A = ((0, [v]), c') ∧ B = ((0, [v]), m') ∧ ((v = -1 ∧ c' = c ∧ m' = m) ∨ (v = c r_Grid_showCount 0 0 0 ∧ ∃ s x, 0 ≤ s ∧ s < 4 ∧ 0 ≤ x ∧ x < 50 ∧ zset c f s x = true ∧ c' = zsC f s x c ∧ m' = zsM f s x m))
theorem q_place1 {c m : ZS} (h : zGr c m) {f x : Int} (n1 : c r_Grid_showCount 0 0 0 < 60) (f0 : 0 ≤ f) (f1 : f < c r_x_filmCount 0 0 0) (f2 : f < 20) (hs : 0 ≤ c r_Film_section f 0 0) (x0 : 0 ≤ x) (x1 : x < 50) (hN : zPl f c m (g_Grid_setAtFirstPlace ((1005, [f, x + 1]), c)) (g_m_setAnywhere ((1005, [f, x + 1]), m))) : ∀ (j : Nat) (s : Int), 0 ≤ s → s + j = c r_Venue_screenCount 0 0 0 → zPl f c m (g_Grid_setAtFirstPlace ((1013, [f, x, s]), c)) (g_m_setAnywhere ((1013, [f, x, s]), m)) := by
  obtain ⟨g1, g2, g3, g4, g5, g6, g7, g8, g9, g10⟩ := id h
  obtain ⟨⟨v0, v1, v2⟩, -⟩ := id g2
  obtain ⟨⟨n0, -, n2⟩, -⟩ := id g7
  have hx1 : e_wr (x + 1) = x + 1 := e_wr_id (by omega) (by omega)
  intro j
  induction j with
  | zero =>
    intro s s0 s1
    rw [g_Grid_setAtFirstPlace_13, zb_d, if_pos (by omega), g_m_setAnywhere_13, zb_d, if_pos (by omega), hx1]
    exact hN
  | succ j ih =>
    intro s s0 s1
    have hs1 : e_wr (s + 1) = s + 1 := e_wr_id (by omega) (by omega)
    have eC : g_Grid_setAtFirstPlace ((1013, [f, x, s]), c) = if zb (zset c f s x) = 0 then g_Grid_setAtFirstPlace ((1013, [f, x, s + 1]), c) else e_bind (f_Grid_setShow [f, s, x] c) (fun v2 S2 => ((0, [v2]), S2)) := by
      rw [g_Grid_setAtFirstPlace_13, zb_d, if_neg (by omega), q_canBeSet g7 g2 s0 (by omega) x0 x1, e_bnd, zb_d, hs1]
    have eM : g_m_setAnywhere ((1013, [f, x, s]), m) = if zb (zset c f s x) = 0 then g_m_setAnywhere ((1013, [f, x, s + 1]), m) else e_bind (f_m_set [f, s, x] m) (fun v2 S2 => ((0, [v2]), S2)) := by
      rw [g_m_setAnywhere_13, zb_d, if_neg (by omega), q_canSet g7 g1 g2 g3 g4 g5 g6 f0 f1 f2 hs s0 (by omega) x0 x1, e_bnd, zb_d, hs1]
    rw [eC, eM]
    cases hz : zset c f s x
    · rw [if_pos (by decide), if_pos (by decide)]
      exact ih (s + 1) (by omega) (by omega)
    · rw [if_neg (by decide), if_neg (by decide), q_setShow n0 n1, e_bnd, q_mset (by omega) (by omega), e_bnd, n2]
      exact ⟨_, _, _, rfl, rfl, Or.inr ⟨rfl, s, x, s0, by omega, x0, x1, hz, rfl, rfl⟩⟩
theorem q_place2 {c m : ZS} (h : zGr c m) {f : Int} (n1 : c r_Grid_showCount 0 0 0 < 60) (f0 : 0 ≤ f) (f1 : f < c r_x_filmCount 0 0 0) (f2 : f < 20) (hs : 0 ≤ c r_Film_section f 0 0) : ∀ (j : Nat) (x : Int), 0 ≤ x → x + j = 50 → zPl f c m (g_Grid_setAtFirstPlace ((1005, [f, x]), c)) (g_m_setAnywhere ((1005, [f, x]), m)) := by
  obtain ⟨⟨v0, v1, v2⟩, -⟩ := id h.2.1
  intro j
  induction j with
  | zero =>
    intro x x0 x1
    rw [g_Grid_setAtFirstPlace_5, zb_d, if_pos (by omega), g_m_setAnywhere_5, zb_d, if_pos (by omega)]
    exact ⟨-1, c, m, rfl, rfl, Or.inl ⟨rfl, rfl, rfl⟩⟩
  | succ j ih =>
    intro x x0 x1
    rw [g_Grid_setAtFirstPlace_5, zb_d, if_neg (by omega), g_m_setAnywhere_5, zb_d, if_neg (by omega)]
    exact q_place1 h n1 f0 f1 f2 hs x0 (by omega) (ih (x + 1) (by omega) (by omega)) (c r_Venue_screenCount 0 0 0).toNat 0 (Int.le_refl _) (by omega)
theorem q_place {c m : ZS} (h : zGr c m) {f : Int} (n1 : c r_Grid_showCount 0 0 0 < 60) (f0 : 0 ≤ f) (f1 : f < c r_x_filmCount 0 0 0) (f2 : f < 20) (hs : 0 ≤ c r_Film_section f 0 0) : zPl f c m (f_Grid_setAtFirstPlace [f] c) (f_m_setAnywhere [f] m) := by
  obtain ⟨a, b, d⟩ := id h.2.2.2.2.1
  show zPl f c m (g_Grid_setAtFirstPlace ((1000, [f]), c)) (g_m_setAnywhere ((1000, [f]), m))
  rw [g_Grid_setAtFirstPlace_0, g_m_setAnywhere_0, d]
  exact q_place2 h n1 f0 f1 f2 hs (50 - c r_Grid_hour 0 0 0).toNat _ a (by omega)
theorem zset_fre {c : ZS} {f s x : Int} (h : zset c f s x = true) : zfre c f s x (zln c f) = true := by
  unfold zset at h
  rw [Bool.and_eq_true, Bool.and_eq_true] at h
  exact h.2.2
/-- behind it the grid's relations hold -/
theorem zPl.ok {c m : ZS} (h : zGr c m) {f : Int} (n1 : c r_Grid_showCount 0 0 0 < 60) (f0 : 0 ≤ f) (f1 : f < c r_x_filmCount 0 0 0) (hs : 0 ≤ c r_Film_section f 0 0) {A B : ZR} (hp : zPl f c m A B) : ∃ (v : Int) (c' m' : ZS), A = ((0, [v]), c') ∧ B = ((0, [v]), m') ∧ zGr c' m' ∧ (∀ r, zsW.contains r = false → c' r = c r) ∧ (∀ r, zsX.contains r = false → m' r = m r) ∧ (∀ i, i ≠ c r_Grid_showCount 0 0 0 → c' r_Show_film i 0 0 = c r_Show_film i 0 0) ∧ ((v = -1 ∧ c' = c ∧ m' = m) ∨ (v = c r_Grid_showCount 0 0 0 ∧ c' r_Grid_showCount 0 0 0 = c r_Grid_showCount 0 0 0 + 1)) := by
  obtain ⟨v, c', m', e1, e2, h3⟩ := hp
  rcases h3 with ⟨rfl, rfl, rfl⟩ | ⟨h4, s, x, s0, s1, x0, x1, hz, rfl, rfl⟩
  · exact ⟨-1, c', m', e1, e2, h, fun _ _ => rfl, fun _ _ => rfl, fun _ _ => rfl, Or.inl ⟨rfl, rfl, rfl⟩⟩
  · refine ⟨v, _, _, e1, e2, s_set h n1 f0 f1 hs s0 s1 x0 x1 (zset_fre hz), fun r hr => zsC_o hr, fun r hr => zsM_o hr, fun i hi => ?_, Or.inr ⟨h4, ?_⟩⟩
    · unfold zsC
      rw [zcA_o (by decide)]
      simp (decide := true) only [e_un, e_ur, and_true]
      rw [if_neg hi]
    · unfold zsC
      rw [zcA_o (by decide), e_us]
theorem o_show {f s x : Int} {c m : ZS} (hR : zR c m) (h : zGr c m) : zBo zGr (f_w_show [f, s, x] c) (f_m_show [f, s, x] m) := by
  obtain ⟨⟨a1, a2, a3⟩, -⟩ := id hR
  obtain ⟨g1, g2, g3, g4, g5, g6, g7, g8, g9, g10⟩ := id h
  obtain ⟨⟨v0, v1, v2⟩, -⟩ := id g2
  obtain ⟨⟨n0, n1, n2⟩, -⟩ := id g7
  have hth : ∀ {z : Int} {m' : ZS}, zGr c m' → zGr c (e_upd m' r_m_thrown 0 0 0 z) := fun {z m'} h' => by
    obtain ⟨g1, g2, g3, g4, g5, g6, g7, g8, g9, g10⟩ := h'
    exact ⟨g1.thr, g2.thr, g3.thr, g4.thr, g5.thr, g6.thr, g7.thr, g8.thr, g9.thr, g10.thr⟩
  have hot : ∀ {z : Int} {c' m' : ZS}, zGr c' m' → zGr (e_upd c' r_out 0 0 0 z) m' := fun {z c' m'} h' => by
    obtain ⟨g1, g2, g3, g4, g5, g6, g7, g8, g9, g10⟩ := h'
    exact ⟨g1.out, g2.out, g3.out, g4.out, g5.out, g6.out, g7.out, g8.out, g9.out, g10.out⟩
  show zBo zGr (e_try (f_x_show [f, s, x] c) (fun v1 S1 => ((0, [0]), e_upd S1 r_out 0 0 0 v1)) [(0, 1), (1, 2), (3, 3), (2, 4)]) (f_m_show [f, s, x] m)
  unfold f_x_show f_m_show
  dsimp only
  rw [q_film a1 (by omega), q_noFilm (by omega) (by omega), q_noScreen (by omega) (by omega), a3, v2]
  by_cases hf : 0 ≤ f ∧ f < c r_x_filmCount 0 0 0
  · rw [if_pos hf, if_pos hf, e_b_ok, q_screen v0 (by omega)]
    by_cases hsc : 0 ≤ s ∧ s < c r_Venue_screenCount 0 0 0
    · rw [if_pos hsc, if_pos hsc, e_b_ok, q_hour]
      simp (decide := true) only [zb_n, zb_d, q_isHour, ↓reduceIte, Int.reduceEq]
      by_cases hx : 0 ≤ x ∧ x ≤ 49
      · have hse := (g1.1 f hf.1 hf.2).2.2.2
        have hs5 := (g1.2.2 f hf.1 (by omega)).2
        rw [if_pos hx, if_pos hx, e_b_ok]
        simp (decide := true) only [zb_n, zb_d, hse, ↓reduceIte, Int.reduceEq]
        by_cases q : c r_Film_section f 0 0 = -1
        · simp (decide := true) only [q, ↓reduceIte]
          exact ⟨3, 0, _, _, rfl, rfl, hth (hth (hth h)), e_us, fun q => absurd q (by decide)⟩
        · obtain ⟨k1, k2, k3, k4, k5, k6, k7, k8, k9, k10⟩ := id (hth (hth h) : zGr c (e_upd (e_upd m r_m_thrown 0 0 0 0) r_m_thrown 0 0 0 0))
          rw [if_neg q, if_neg (by omega), q_canBeSet g7 g2 hsc.1 (by omega) hx.1 (by omega), e_bnd, q_canSet k7 k1 k2 k3 k4 k5 k6 hf.1 hf.2 (by omega) (by omega) hsc.1 (by omega) hx.1 (by omega), e_bnd]
          cases hz : zset c f s x
          · simp (decide := true) only [zb, ↓reduceIte, Int.reduceEq]
            exact ⟨3, 0, _, _, rfl, rfl, hth (hth (hth h)), e_us, fun q => absurd q (by decide)⟩
          · simp (decide := true) only [zb, ↓reduceIte, Int.reduceEq, e_un, n2]
            by_cases hn : c r_Grid_showCount 0 0 0 = 60
            · rw [if_neg (by omega), if_pos hn]
              exact ⟨4, 0, _, _, rfl, rfl, hth (hth (hth (hth h))), e_us, fun q => absurd q (by decide)⟩
            · have e4 : (e_upd (e_upd (e_upd (e_upd m r_m_thrown 0 0 0 0) r_m_thrown 0 0 0 0) r_m_thrown 0 0 0 0) r_m_thrown 0 0 0 0) r_m_shows 0 0 0 = c r_Grid_showCount 0 0 0 := by
                simp (decide := true) only [e_un, n2]
              rw [if_pos (by omega), if_neg hn, q_setShow n0 (by omega), e_bnd, q_mset (by rw [e4]; omega) (by rw [e4]; omega), e_bnd, e4]
              refine ⟨0, _, _, _, rfl, rfl, hot (s_set (hth (hth (hth (hth h)))) (by omega) hf.1 hf.2 (by omega) hsc.1 (by omega) hx.1 (by omega) (zset_fre hz)), ?_, fun _ => e_us⟩
              rw [zsM_o (by decide), e_us]
      · rw [if_neg hx, if_neg hx, e_b_x (by decide) (by decide)]
        exact ⟨2, 0, _, _, rfl, rfl, hth (hth h), e_us, fun q => absurd q (by decide)⟩
    · rw [if_neg hsc, if_neg hsc, e_b_x (by decide) (by decide)]
      simp (decide := true) only [zb_n, zb_d, ↓reduceIte]
      exact ⟨1, 0, _, _, rfl, rfl, hth h, e_us, fun q => absurd q (by decide)⟩
  · rw [if_neg hf, if_neg hf, e_b_x (by decide) (by decide)]
    simp (decide := true) only [zb_n, zb_d, ↓reduceIte]
    exact ⟨1, 0, _, _, rfl, rfl, hth h, e_us, fun q => absurd q (by decide)⟩
end
/-! part 71uc08 -/
section
/-! The class's order and the model's choice of the best that is left -/
theorem zbest_stay {p : Int → Bool} {w : Int → Int} {t : Int} (t0 : 0 ≤ t) : ∀ (j : Nat) (k : Int), (∀ i, k ≤ i → i < k + j → p i = true → w t ≤ w i) → zbest p w j k t = t
  | 0, _, _ => rfl
  | j + 1, k, h => by
    rw [zbest]
    have e : (if p k = true then (if t < 0 then k else if w k < w t then k else t) else t) = t := by
      by_cases q : p k = true
      · have := h k (Int.le_refl _) (by omega) q
        rw [if_pos q, if_neg (by omega), if_neg (by omega)]
      · rw [if_neg q]
    rw [e]
    exact zbest_stay t0 j (k + 1) (fun i a b => h i (by omega) (by omega))
theorem zbest_is {p : Int → Bool} {w : Int → Int} {t : Int} (hp : p t = true) (t0 : 0 ≤ t) : ∀ (j : Nat) (k b : Int), k ≤ t → t < k + j → (b < 0 ∨ w t < w b) → (∀ i, k ≤ i → i < k + j → p i = true → i = t ∨ w t < w i ∨ (w i = w t ∧ t < i)) → zbest p w j k b = t
  | 0, k, b, h1, h2, _, _ => by omega
  | j + 1, k, b, h1, h2, h3, h4 => by
    rw [zbest]
    by_cases e : k = t
    · subst e
      have e1 : (if p k = true then (if b < 0 then k else if w k < w b then k else b) else b) = k := by
        rw [if_pos hp]
        rcases h3 with h3 | h3
        · rw [if_pos h3]
        · rw [if_pos h3, ite_self]
      rw [e1]
      refine zbest_stay t0 j (k + 1) (fun i a b' q => ?_)
      have := h4 i (by omega) (by omega) q
      omega
    · refine zbest_is hp t0 j (k + 1) _ (by omega) (by omega) ?_ (fun i a b' => h4 i (by omega) (by omega))
      by_cases q : p k = true
      · have := h4 k (Int.le_refl _) (by omega) q
        rw [if_pos q]
        split
        · exact Or.inr (by omega)
        · split
          · exact Or.inr (by omega)
          · exact h3
      · rw [if_neg q]
        exact h3
theorem zbest_none {p : Int → Bool} {w : Int → Int} : ∀ (j : Nat) (k b : Int), (∀ i, k ≤ i → i < k + j → p i = false) → zbest p w j k b = b
  | 0, _, _, _ => rfl
  | j + 1, k, b, h => by
    rw [zbest, h k (Int.le_refl _) (by omega), if_neg (by decide)]
    exact zbest_none j (k + 1) b (fun i a b' => h i (by omega) (by omega))
/-- the first n places of an order: all that p allows of those below k, the greatest V first, of like ones the lowest -/
def zOrd (o w V : Int → Int) (p : Int → Bool) (n k : Int) : Prop := (∀ i, 0 ≤ i → i < n → 0 ≤ o i ∧ o i < k ∧ p (o i) = true ∧ w i = V (o i)) ∧ (∀ i j, 0 ≤ i → i < j → j < n → V (o j) < V (o i) ∨ (V (o j) = V (o i) ∧ o i < o j)) ∧ ∀ f, 0 ≤ f → f < k → p f = true → ∃ i, 0 ≤ i ∧ i < n ∧ o i = f
theorem zOrd.skip {o w V : Int → Int} {p : Int → Bool} {n k : Int} (h : zOrd o w V p n k) (hp : p k = false) : zOrd o w V p n (k + 1) := by
  obtain ⟨h1, h2, h3⟩ := h
  refine ⟨fun i a b => ?_, h2, fun f a b q => ?_⟩
  · have := h1 i a b
    exact ⟨this.1, by omega, this.2.2⟩
  · by_cases e : f = k
    · rw [e, hp] at q
      cases q
    · exact h3 f a (by omega) q
theorem zOrd.put {o w o' w' V : Int → Int} {p : Int → Bool} {n k t : Int} (h : zOrd o w V p n k) (k0 : 0 ≤ k) (hp : p k = true) (t0 : 0 ≤ t) (t1 : t ≤ n) (ha : t = 0 ∨ V k ≤ w (t - 1)) (hb : ∀ i, t ≤ i → i < n → w i < V k) (ho : ∀ i, o' i = if i = t then k else if t < i ∧ i ≤ n then o (i - 1) else o i) (hw : ∀ i, w' i = if i = t then V k else if t < i ∧ i ≤ n then w (i - 1) else w i) : zOrd o' w' V p (n + 1) (k + 1) := by
  obtain ⟨h1, h2, h3⟩ := h
  have lo : ∀ i, i < t → o' i = o i ∧ w' i = w i := fun i hi => by
    rw [ho, hw, if_neg (by omega), if_neg (by omega), if_neg (by omega), if_neg (by omega)]
    exact ⟨rfl, rfl⟩
  have at_ : o' t = k ∧ w' t = V k := by
    rw [ho, hw, if_pos rfl, if_pos rfl]
    exact ⟨rfl, rfl⟩
  have hi : ∀ i, t < i → i ≤ n → o' i = o (i - 1) ∧ w' i = w (i - 1) := fun i a b => by
    rw [ho, hw, if_neg (by omega), if_pos ⟨a, b⟩, if_neg (by omega), if_pos ⟨a, b⟩]
    exact ⟨rfl, rfl⟩
  refine ⟨fun i i0 i1 => ?_, fun i j i0 ij j1 => ?_, fun f f0 f1 q => ?_⟩
  · by_cases c1 : i < t
    · rw [(lo i c1).1, (lo i c1).2]
      have := h1 i i0 (by omega)
      exact ⟨this.1, by omega, this.2.2⟩
    · by_cases c2 : i = t
      · rw [c2, at_.1, at_.2]
        exact ⟨k0, by omega, hp, rfl⟩
      · rw [(hi i (by omega) (by omega)).1, (hi i (by omega) (by omega)).2]
        have := h1 (i - 1) (by omega) (by omega)
        exact ⟨this.1, by omega, this.2.2⟩
  · by_cases c1 : j < t
    · rw [(lo i (by omega)).1, (lo j c1).1]
      exact h2 i j i0 ij (by omega)
    · by_cases c2 : j = t
      · rw [c2, at_.1, (lo i (by omega)).1]
        have a1 := h1 i i0 (by omega)
        have a2 := h1 (t - 1) (by omega) (by omega)
        have a3 : V k ≤ w (t - 1) := by
          rcases ha with ha | ha
          · omega
          · exact ha
        by_cases c3 : i = t - 1
        · rw [c3] at a1 ⊢
          omega
        · have := h2 i (t - 1) i0 (by omega) (by omega)
          omega
      · rw [(hi j (by omega) (by omega)).1]
        by_cases c3 : i < t
        · rw [(lo i c3).1]
          exact h2 i (j - 1) i0 (by omega) (by omega)
        · by_cases c4 : i = t
          · rw [c4, at_.1]
            have a1 := h1 (j - 1) (by omega) (by omega)
            have a2 := hb (j - 1) (by omega) (by omega)
            omega
          · rw [(hi i (by omega) (by omega)).1]
            exact h2 (i - 1) (j - 1) (by omega) (by omega) (by omega)
  · by_cases e : f = k
    · exact ⟨t, t0, by omega, by rw [at_.1, e]⟩
    · obtain ⟨i, i0, i1, i2⟩ := h3 f f0 (by omega) q
      by_cases c1 : i < t
      · exact ⟨i, i0, by omega, by rw [(lo i c1).1, i2]⟩
      · refine ⟨i + 1, by omega, by omega, ?_⟩
        rw [(hi (i + 1) (by omega) (by omega)).1, Int.add_sub_cancel, i2]
/-- the best of those that are left is the next of the order -/
theorem zOrd.best {o w V : Int → Int} {p : Int → Bool} {n k i : Int} (h : zOrd o w V p n k) (i0 : 0 ≤ i) (i1 : i < n) {l : Int → Bool} (hl : ∀ f, 0 ≤ f → f < k → (l f = true ↔ ∃ j, i ≤ j ∧ j < n ∧ o j = f)) : zbest l (fun f => - V f) k.toNat 0 (-1) = o i := by
  obtain ⟨h1, h2, h3⟩ := h
  obtain ⟨a1, a2, a3, a4⟩ := h1 i i0 i1
  refine zbest_is ((hl _ a1 a2).mpr ⟨i, Int.le_refl _, i1, rfl⟩) a1 k.toNat 0 (-1) a1 (by omega) (Or.inl (by omega)) (fun f f0 f1 q => ?_)
  obtain ⟨j, j0, j1, j2⟩ := (hl f f0 (by omega)).mp q
  by_cases e : j = i
  · rw [e] at j2
    exact Or.inl j2.symm
  · have := h2 i j i0 (by omega) j1
    rw [j2] at this
    (try dsimp only)
    omega
/-- a film is put into the order -/
theorem q_put : ∀ (j : Nat) (f W place : Int) (S : ZS), place = j → place ≤ 1000 → ∃ S', g_x_putInOrder ((1003, [f, W, place]), S) = ((0, []), S') ∧ (∀ r, [r_x_order, r_x_weights].contains r = false → S' r = S r) ∧ ∃ t, 0 ≤ t ∧ t ≤ place ∧ (t = 0 ∨ W ≤ S r_x_weights 0 0 (t - 1)) ∧ (∀ i, t ≤ i → i < place → S r_x_weights 0 0 i < W) ∧ (∀ i, S' r_x_order 0 0 i = if i = t then f else if t < i ∧ i ≤ place then S r_x_order 0 0 (i - 1) else S r_x_order 0 0 i) ∧ ∀ i, S' r_x_weights 0 0 i = if i = t then W else if t < i ∧ i ≤ place then S r_x_weights 0 0 (i - 1) else S r_x_weights 0 0 i := by
  have fr : ∀ {S : ZS} {i j x y : Int} {r : Nat}, [r_x_order, r_x_weights].contains r = false → (e_upd (e_upd S r_x_order 0 0 i x) r_x_weights 0 0 j y) r = S r := fun {S i j x y r} hr => by
    have h1 : (r == r_x_order) = false := by
      cases e : r == r_x_order with
      | false => rfl
      | true => rw [beq_iff_eq] at e; rw [e] at hr; exact absurd hr (by decide)
    have h2 : (r == r_x_weights) = false := by
      cases e : r == r_x_weights with
      | false => rfl
      | true => rw [beq_iff_eq] at e; rw [e] at hr; exact absurd hr (by decide)
    funext a b d
    rw [e_un h2, e_un h1]
  intro j
  induction j with
  | zero =>
    intro f W place S hp hm
    refine ⟨e_upd (e_upd S r_x_order 0 0 place f) r_x_weights 0 0 place W, ?_, fun r hr => fr hr, 0, Int.le_refl _, by omega, Or.inl rfl, fun i a b => by omega, fun i => ?_, fun i => ?_⟩
    · rw [g_x_putInOrder_3, zb_d, if_pos (by omega)]
    · simp (decide := true) only [e_un, e_ur, true_and]
      by_cases q : i = 0
      · rw [if_pos (by omega), if_pos q]
      · rw [if_neg (by omega), if_neg q, if_neg (by omega)]
    · simp (decide := true) only [e_un, e_ur, true_and]
      by_cases q : i = 0
      · rw [if_pos (by omega), if_pos q]
      · rw [if_neg (by omega), if_neg q, if_neg (by omega)]
  | succ j ih =>
    intro f W place S hp hm
    have hw1 : e_wr (place - 1) = place - 1 := e_wr_id (by omega) (by omega)
    have hw2 : e_wr (place + -1) = place - 1 := by
      rw [e_wr_id (by omega) (by omega)]
      omega
    by_cases q : W ≤ S r_x_weights 0 0 (place - 1)
    · refine ⟨e_upd (e_upd S r_x_order 0 0 place f) r_x_weights 0 0 place W, ?_, fun r hr => fr hr, place, by omega, Int.le_refl _, Or.inr q, fun i a b => by omega, fun i => ?_, fun i => ?_⟩
      · rw [g_x_putInOrder_3, zb_d, if_neg (by omega), hw1, zb_d, if_pos q]
      · simp (decide := true) only [e_un, e_ur, true_and]
        by_cases q : i = place
        · rw [if_pos q, if_pos q]
        · rw [if_neg q, if_neg q, if_neg (by omega)]
      · simp (decide := true) only [e_un, e_ur, true_and]
        by_cases q : i = place
        · rw [if_pos q, if_pos q]
        · rw [if_neg q, if_neg q, if_neg (by omega)]
    · obtain ⟨S', e1, e2, t, t0, t1, ta, tb, to, tw⟩ := ih f W (place - 1) (e_upd (e_upd S r_x_order 0 0 place (S r_x_order 0 0 (place - 1))) r_x_weights 0 0 place (S r_x_weights 0 0 (place - 1))) (by omega) (by omega)
      have ro : ∀ i, (e_upd (e_upd S r_x_order 0 0 place (S r_x_order 0 0 (place - 1))) r_x_weights 0 0 place (S r_x_weights 0 0 (place - 1))) r_x_order 0 0 i = if i = place then S r_x_order 0 0 (place - 1) else S r_x_order 0 0 i := fun i => by
        simp (decide := true) only [e_un, e_ur, true_and]
      have rw_ : ∀ i, (e_upd (e_upd S r_x_order 0 0 place (S r_x_order 0 0 (place - 1))) r_x_weights 0 0 place (S r_x_weights 0 0 (place - 1))) r_x_weights 0 0 i = if i = place then S r_x_weights 0 0 (place - 1) else S r_x_weights 0 0 i := fun i => by
        simp (decide := true) only [e_un, e_ur, true_and]
      refine ⟨S', ?_, fun r hr => (e2 r hr).trans (fr hr), t, t0, by omega, ?_, fun i a b => ?_, fun i => ?_, fun i => ?_⟩
      · rw [g_x_putInOrder_3, zb_d, if_neg (by omega), hw1, zb_d, if_neg q, hw2]
        exact e1
      · rcases ta with ta | ta
        · exact Or.inl ta
        · rw [rw_, if_neg (by omega)] at ta
          exact Or.inr ta
      · by_cases c : i = place - 1
        · rw [c]
          omega
        · have := tb i a (by omega)
          rw [rw_, if_neg (by omega)] at this
          exact this
      · rw [to, ro, ro]
        by_cases c1 : i = t
        · rw [if_pos c1, if_pos c1]
        · rw [if_neg c1, if_neg c1]
          by_cases c2 : i = place
          · rw [if_neg (by omega), if_pos c2, if_pos (by omega), c2]
          · by_cases c3 : t < i ∧ i ≤ place
            · rw [if_pos (by omega), if_neg (by omega), if_pos c3]
            · rw [if_neg (by omega), if_neg c2, if_neg c3]
      · rw [tw, rw_, rw_]
        by_cases c1 : i = t
        · rw [if_pos c1, if_pos c1]
        · rw [if_neg c1, if_neg c1]
          by_cases c2 : i = place
          · rw [if_neg (by omega), if_pos c2, if_pos (by omega), c2]
          · by_cases c3 : t < i ∧ i ≤ place
            · rw [if_pos (by omega), if_neg (by omega), if_pos c3]
            · rw [if_neg (by omega), if_neg c2, if_neg c3]
theorem q_putInOrder {f W n : Int} {S : ZS} (n0 : 0 ≤ n) (n1 : n ≤ 1000) : ∃ S', f_x_putInOrder [n, f, W] S = ((0, []), S') ∧ (∀ r, [r_x_order, r_x_weights].contains r = false → S' r = S r) ∧ ∀ {V : Int → Int} {p : Int → Bool} {k : Int}, zOrd (fun i => S r_x_order 0 0 i) (fun i => S r_x_weights 0 0 i) V p n k → 0 ≤ k → p k = true → f = k → W = V k → zOrd (fun i => S' r_x_order 0 0 i) (fun i => S' r_x_weights 0 0 i) V p (n + 1) (k + 1) := by
  obtain ⟨S', e1, e2, t, t0, t1, ta, tb, to, tw⟩ := q_put n.toNat f W n S (by omega) n1
  refine ⟨S', ?_, e2, fun {V p k} h k0 hp hf hW => ?_⟩
  · show g_x_putInOrder ((1000, [n, f, W]), S) = _
    rw [g_x_putInOrder_0]
    exact e1
  · subst hf
    subst hW
    exact h.put k0 hp t0 t1 ta tb to tw
end
/-! part 71uc09 -/
section
/-! choose: both sides -/
noncomputable def zSc (c : ZS) (f : Int) : Int := (f_Readings_meanOfEven [f] c).1.2.getD 0 0
theorem q_sc {c m : ZS} (h : zR c m) {f : Int} (f0 : 0 ≤ f) (f1 : f < c r_x_filmCount 0 0 0) : f_Readings_meanOfEven [f] c = ((0, [zSc c f]), c) ∧ f_m_scoreOf [f] m = ((0, [zSc c f]), m) := by
  obtain ⟨v, e1, e2⟩ := q_scoreOf h f0 f1
  have e : zSc c f = v := by
    unfold zSc
    rw [e1]
    rfl
  rw [e]
  exact ⟨e1, e2⟩
theorem zSc_eq {c c' m : ZS} (h : zR c m) (h' : zR c' m) {f : Int} (f0 : 0 ≤ f) (f1 : f < c r_x_filmCount 0 0 0) (f1' : f < c' r_x_filmCount 0 0 0) : zSc c' f = zSc c f := by
  have e := (q_sc h f0 f1).2.symm.trans (q_sc h' f0 f1').2
  simp only [Prod.mk.injEq, List.cons.injEq, and_true, true_and] at e
  exact e.symm
def zTd (c : ZS) (f : Int) : Bool := decide (0 < zcnt (fun k => decide (0 ≤ c r_Readings_marks_r f 0 k)) (c r_Readings_readerCount 0 0 0).toNat 0)
theorem q_order1 {c m : ZS} (h : zR c m) : ∀ (j : Nat) (k n : Int) (S : ZS), 0 ≤ k → k + j = c r_x_filmCount 0 0 0 → 0 ≤ n → n ≤ k → (∀ r, [r_x_order, r_x_weights].contains r = false → S r = c r) → zOrd (fun i => S r_x_order 0 0 i) (fun i => S r_x_weights 0 0 i) (zSc c) (zTd c) n k → ∃ n' S', g_x_orderByScore ((1004, [n, k]), S) = ((0, [n']), S') ∧ 0 ≤ n' ∧ n' ≤ c r_x_filmCount 0 0 0 ∧ (∀ r, [r_x_order, r_x_weights].contains r = false → S' r = c r) ∧ zOrd (fun i => S' r_x_order 0 0 i) (fun i => S' r_x_weights 0 0 i) (zSc c) (zTd c) n' (c r_x_filmCount 0 0 0) := by
  obtain ⟨⟨a1, a2, a3⟩, ⟨b1, b2, b3⟩, -⟩ := id h
  intro j
  induction j with
  | zero =>
    intro k n S k0 k1 n0 n1 fr ho
    have e1 : S r_x_filmCount = c r_x_filmCount := fr _ (by decide)
    have hk : k = c r_x_filmCount 0 0 0 := by omega
    refine ⟨n, S, ?_, n0, by omega, fr, ?_⟩
    · rw [g_x_orderByScore_4, zb_d, e1, if_pos (by omega)]
    · rw [hk] at ho
      exact ho
  | succ j ih =>
    intro k n S k0 k1 n0 n1 fr ho
    have e1 : S r_x_filmCount = c r_x_filmCount := fr _ (by decide)
    have e2 : S r_Readings_marks_r = c r_Readings_marks_r := fr _ (by decide)
    have e3 : S r_Readings_readerCount = c r_Readings_readerCount := fr _ (by decide)
    have hS : zR S m := zR_rel h (fun r hr => fr r (z_nin_ok (by decide : z_nin zRC [r_x_order, r_x_weights] = true) hr)) (fun _ _ => rfl)
    have hk : e_wr (k + 1) = k + 1 := e_wr_id (by omega) (by omega)
    have hn : e_wr (n + 1) = n + 1 := e_wr_id (by omega) (by omega)
    rw [g_x_orderByScore_4, zb_d, e1, if_neg (by omega), q_countTold (by rw [e3]; exact b1) (by rw [e3]; exact b2), e_bnd, e2, e3, zb_d, hk]
    by_cases q : zcnt (fun i => decide (0 ≤ c r_Readings_marks_r k 0 i)) (c r_Readings_readerCount 0 0 0).toNat 0 ≤ 0
    · rw [if_pos q]
      exact ih (k + 1) n S (by omega) (by omega) n0 (by omega) fr (ho.skip (decide_eq_false (by omega)))
    · rw [if_neg q, (q_sc hS k0 (by rw [e1]; omega)).1, e_bnd]
      obtain ⟨S', p1, p2, p3⟩ := q_putInOrder (f := k) (W := zSc S k) (S := S) n0 (by omega)
      rw [p1, e_bnd0, hn]
      exact ih (k + 1) (n + 1) S' (by omega) (by omega) (by omega) (by omega) (fun r hr => (p2 r hr).trans (fr r hr)) (p3 ho k0 (decide_eq_true (by omega)) rfl (zSc_eq h hS k0 (by omega) (by rw [e1]; omega)))
theorem q_orderByScore {c m : ZS} (h : zR c m) : ∃ n S', f_x_orderByScore [] c = ((0, [n]), S') ∧ 0 ≤ n ∧ n ≤ c r_x_filmCount 0 0 0 ∧ (∀ r, [r_x_order, r_x_weights].contains r = false → S' r = c r) ∧ zOrd (fun i => S' r_x_order 0 0 i) (fun i => S' r_x_weights 0 0 i) (zSc c) (zTd c) n (c r_x_filmCount 0 0 0) := by
  show ∃ n S', g_x_orderByScore ((1000, []), c) = ((0, [n]), S') ∧ _
  rw [g_x_orderByScore_0]
  exact q_order1 h (c r_x_filmCount 0 0 0).toNat 0 0 c (Int.le_refl _) (by have := h.1.1; omega) (Int.le_refl _) (Int.le_refl _) (fun _ _ => rfl) ⟨fun i a b => by omega, fun i j a b d => by omega, fun f a b => by omega⟩
theorem q_filmsIn {c m : ZS} (hR : zR c m) (hF : zFs c m) {s : Int} : ∃ v, f_x_filmsIn [s] c = ((0, [v]), c) ∧ f_m_filmsOf [s] m = ((0, [v]), m) := by
  obtain ⟨⟨a1, a2, a3⟩, -⟩ := id hR
  show ∃ v, g_x_filmsIn ((1000, [s]), c) = ((0, [v]), c) ∧ g_m_filmsOf ((1000, [s]), m) = ((0, [v]), m)
  rw [g_x_filmsIn_0, g_m_filmsOf_0]
  refine z_sync (n := c r_x_filmCount 0 0 0) (A := fun (a : Int) k => g_x_filmsIn ((1004, [s, a, k]), c)) (B := fun (b : Int) k => g_m_filmsOf ((1004, [s, b, k]), m)) (R := fun k a b => a = b ∧ e_wr b = b) (Goal := fun A B => ∃ v, A = ((0, [v]), c) ∧ B = ((0, [v]), m)) ?_ ?_ (c r_x_filmCount 0 0 0).toNat 0 0 0 (Int.le_refl _) (by omega) ⟨rfl, e_wr_id (by omega) (by omega)⟩
  · rintro a b ⟨e1, e2⟩
    subst e1
    refine ⟨a, ?_, ?_⟩
    · show g_x_filmsIn ((1004, [s, a, c r_x_filmCount 0 0 0]), c) = _
      rw [g_x_filmsIn_4, zb_d, if_pos (Int.le_refl _)]
    · show g_m_filmsOf ((1004, [s, a, c r_x_filmCount 0 0 0]), m) = _
      rw [g_m_filmsOf_4, zb_d, if_pos (by omega)]
  · rintro k a b k0 k1 ⟨e1, e2⟩
    subst e1
    have hk : e_wr (k + 1) = k + 1 := e_wr_id (by omega) (by omega)
    have e4 := (hF.1 k k0 k1).2.2.2
    by_cases q : c r_Film_section k 0 0 = s
    · refine ⟨e_wr (a + 1), e_wr (a + 1), ?_, ?_, rfl, e_wr_wr⟩
      · show g_x_filmsIn ((1004, [s, a, k]), c) = _
        rw [g_x_filmsIn_4, zb_d, if_neg (by omega), zb_n, if_pos q, hk]
      · show g_m_filmsOf ((1004, [s, a, k]), m) = _
        rw [g_m_filmsOf_4, zb_d, if_neg (by omega), zb_n, e4, if_pos q, hk]
    · refine ⟨a, a, ?_, ?_, rfl, e2⟩
      · show g_x_filmsIn ((1004, [s, a, k]), c) = _
        rw [g_x_filmsIn_4, zb_d, if_neg (by omega), zb_n, if_neg q, hk]
      · show g_m_filmsOf ((1004, [s, a, k]), m) = _
        rw [g_m_filmsOf_4, zb_d, if_neg (by omega), zb_n, e4, if_neg q, hk, Int.add_zero, e2]
theorem q_minutesIn {c m : ZS} (hR : zR c m) (hF : zFs c m) {s : Int} : ∃ v, f_x_minutesIn [s] c = ((0, [v]), c) ∧ f_m_minutesOf [s] m = ((0, [v]), m) := by
  obtain ⟨⟨a1, a2, a3⟩, -⟩ := id hR
  show ∃ v, g_x_minutesIn ((1000, [s]), c) = ((0, [v]), c) ∧ g_m_minutesOf ((1000, [s]), m) = ((0, [v]), m)
  rw [g_x_minutesIn_0, g_m_minutesOf_0]
  refine z_sync (n := c r_x_filmCount 0 0 0) (A := fun (a : Int) k => g_x_minutesIn ((1004, [s, a, k]), c)) (B := fun (b : Int) k => g_m_minutesOf ((1004, [s, b, k]), m)) (R := fun k a b => a = b ∧ e_wr b = b) (Goal := fun A B => ∃ v, A = ((0, [v]), c) ∧ B = ((0, [v]), m)) ?_ ?_ (c r_x_filmCount 0 0 0).toNat 0 0 0 (Int.le_refl _) (by omega) ⟨rfl, e_wr_id (by omega) (by omega)⟩
  · rintro a b ⟨e1, e2⟩
    subst e1
    refine ⟨a, ?_, ?_⟩
    · show g_x_minutesIn ((1004, [s, a, c r_x_filmCount 0 0 0]), c) = _
      rw [g_x_minutesIn_4, zb_d, if_pos (Int.le_refl _)]
    · show g_m_minutesOf ((1004, [s, a, c r_x_filmCount 0 0 0]), m) = _
      rw [g_m_minutesOf_4, zb_d, if_pos (by omega)]
  · rintro k a b k0 k1 ⟨e1, e2⟩
    subst e1
    have hk : e_wr (k + 1) = k + 1 := e_wr_id (by omega) (by omega)
    have e4 := (hF.1 k k0 k1).2.2.2
    have e5 := (hF.1 k k0 k1).2.1
    by_cases q : c r_Film_section k 0 0 = s
    · refine ⟨e_wr (a + c r_Film_minutes k 0 0), e_wr (a + c r_Film_minutes k 0 0), ?_, ?_, rfl, e_wr_wr⟩
      · show g_x_minutesIn ((1004, [s, a, k]), c) = _
        rw [g_x_minutesIn_4, zb_d, if_neg (by omega), zb_n, if_pos q, hk]
      · show g_m_minutesOf ((1004, [s, a, k]), m) = _
        rw [g_m_minutesOf_4, zb_d, if_neg (by omega), zb_n, e4, if_pos q, hk, e5]
    · refine ⟨a, a, ?_, ?_, rfl, e2⟩
      · show g_x_minutesIn ((1004, [s, a, k]), c) = _
        rw [g_x_minutesIn_4, zb_d, if_neg (by omega), zb_n, if_neg q, hk]
      · show g_m_minutesOf ((1004, [s, a, k]), m) = _
        rw [g_m_minutesOf_4, zb_d, if_neg (by omega), zb_n, e4, if_neg q, hk, Int.add_zero, e2]
theorem q_may {c m : ZS} (hR : zR c m) (hF : zFs c m) (hW : zWd c m) (hS : zSe c m) {f s : Int} (f0 : 0 ≤ f) (f1 : f < c r_x_filmCount 0 0 0) (s0 : 0 ≤ s) (s1 : s < c r_x_sectionCount 0 0 0) : ∃ b, zbit b ∧ f_x_canBeChosen [f, zSc c f, s] c = ((0, [b]), c) ∧ f_m_mayChoose [s, f] m = ((0, [b]), m) := by
  obtain ⟨⟨a1, a2, a3⟩, -⟩ := id hR
  obtain ⟨v1, p1, p2⟩ := q_quarrel hR f0 f1
  obtain ⟨p3, p4⟩ := q_sc hR f0 f1
  obtain ⟨v2, p5, p6⟩ := q_filmsIn hR hF (s := s)
  obtain ⟨v3, p7, p8⟩ := q_minutesIn hR hF (s := s)
  obtain ⟨x1, x2, x3, x4⟩ := hF.1 f f0 f1
  have x5 := (hF.2.2 f f0 (by omega)).2
  have x6 := (hW f f0 (by omega)).1
  obtain ⟨y1, y2, y3, y4, y5⟩ := hS.2 s s0 s1
  unfold f_x_canBeChosen f_m_mayChoose
  dsimp only
  simp only [p1, p2, p4, p5, p6, p7, p8, e_bnd, zb_d, zb_n, x1, x2, x3, x4, x6, y1, y2, y3, y4, y5]
  by_cases c1 : c r_Film_section f 0 0 = -1
  · have c1' : ¬ 0 ≤ c r_Film_section f 0 0 := by omega
    by_cases c2 : c r_Film_isWithdrawn f 0 0 = 0
    · by_cases c3 : v1 ≤ 30
      · have c3' : ¬ 30 < v1 := by omega
        simp only [c1, c2, c3, c3', c1', if_pos, ↓reduceIte, Int.reduceLE, Int.reduceNeg, Int.reduceLT]
        by_cases c4 : c r_Section_form s 0 0 = 45
        · simp only [if_pos c4]
          repeat' split
          all_goals first | exact ⟨0, zbit0, rfl, rfl⟩ | exact ⟨1, zbit1, rfl, rfl⟩ | (exfalso; omega)
        · simp only [if_neg c4]
          repeat' split
          all_goals first | exact ⟨0, zbit0, rfl, rfl⟩ | exact ⟨1, zbit1, rfl, rfl⟩ | (exfalso; omega)
      · have c3' : 30 < v1 := by omega
        simp only [c1, c2, if_neg c3, if_pos c3', ↓reduceIte, Int.reduceLE, Int.reduceNeg, Int.reduceEq]
        repeat' split
        all_goals first | exact ⟨0, zbit0, rfl, rfl⟩ | (exfalso; omega)
    · simp only [c1, if_neg c2, ↓reduceIte, Int.reduceLE, Int.reduceNeg]
      repeat' split
      all_goals first | exact ⟨0, zbit0, rfl, rfl⟩ | (exfalso; omega)
  · have c1' : 0 ≤ c r_Film_section f 0 0 := by omega
    simp only [if_neg c1, if_pos c1']
    repeat' split
    all_goals first | exact ⟨0, zbit0, rfl, rfl⟩ | (exfalso; omega)
theorem q_chosen {c : ZS} {f V s : Int} (h : f_x_canBeChosen [f, V, s] c = ((0, [1]), c)) : c r_Film_section f 0 0 = -1 ∧ c r_Film_isWithdrawn f 0 0 = 0 := by
  unfold f_x_canBeChosen at h
  dsimp only at h
  rw [zb_n] at h
  by_cases q1 : c r_Film_section f 0 0 = -1
  · rw [if_pos q1, zb_n] at h
    by_cases q2 : c r_Film_isWithdrawn f 0 0 = 0
    · exact ⟨q1, q2⟩
    · rw [if_neg q2] at h
      have h2 : (0 : Int) = 1 := congrArg (fun q : ZR => q.1.2.getD 0 0) h
      omega
  · rw [if_neg q1] at h
    have h2 : (0 : Int) = 1 := congrArg (fun q : ZR => q.1.2.getD 0 0) h
    omega
def zCh (c m : ZS) : Prop := zR c m ∧ zFs c m ∧ zWd c m ∧ zSe c m ∧ zTo c m ∧ zAr c m
theorem q_choose1 {c1 : ZS} {V o w : Int → Int} {p : Int → Bool} {s n : Int} (hV : ∀ f, V f = zSc c1 f) (s0 : 0 ≤ s) (n20 : n ≤ 20) (hO : zOrd o w V p n (c1 r_x_filmCount 0 0 0)) : ∀ (j : Nat) (i y x : Int) (C M : ZS), i + j = n → 0 ≤ i → 0 ≤ y → y ≤ i → 0 ≤ x → s < C r_x_sectionCount 0 0 0 → zCh C M → zR c1 M → (∀ i, C r_x_order 0 0 i = o i) → (∀ i, C r_x_weights 0 0 i = w i) → (∀ f, 0 ≤ f → f < c1 r_x_filmCount 0 0 0 → (M r_m_areLeft 0 0 f ≠ 0 ↔ ∃ q, i ≤ q ∧ q < n ∧ o q = f)) → ∃ v C' M', g_x_choose ((1015, [s, n, y, i]), C) = ((0, [v]), C') ∧ g_m_choose ((1054, [s, y, x]), M) = ((0, [v]), M') ∧ zCh C' M' ∧ M' r_m_thrown = M r_m_thrown := by
  intro j
  induction j with
  | zero =>
    intro i y x C M ij i0 y0 y1 x0 sC hc hR1 ho hw hl
    obtain ⟨hR, hF, hW, hS, hT, hA⟩ := id hc
    obtain ⟨⟨a1, a2, a3⟩, -⟩ := id hR
    obtain ⟨⟨d1, d2, d3⟩, -⟩ := id hR1
    have hb : g_m_choose ((1063, [s, y, -1, 0]), M) = g_m_choose ((1054, [s, y, -1]), M) := by
      have hz : ∀ (t : Nat) (k : Int), 0 ≤ k → k + t = c1 r_x_filmCount 0 0 0 → g_m_choose ((1063, [s, y, -1, k]), M) = g_m_choose ((1054, [s, y, -1]), M) := by
        intro t
        induction t with
        | zero =>
          intro k k0 k1
          rw [g_m_choose_63, zb_d, if_pos (by omega), zb_d, if_pos (by omega)]
        | succ t iht =>
          intro k k0 k1
          have hk : e_wr (k + 1) = k + 1 := e_wr_id (by omega) (by omega)
          have hz : M r_m_areLeft 0 0 k = 0 := by
            by_cases e : M r_m_areLeft 0 0 k = 0
            · exact e
            · obtain ⟨q, q0, q1, -⟩ := (hl k k0 (by omega)).mp e
              omega
          rw [g_m_choose_63, zb_d, if_neg (by omega), zb_d, if_pos hz, hk]
          exact iht (k + 1) (by omega) (by omega)
      exact hz (c1 r_x_filmCount 0 0 0).toNat 0 (Int.le_refl _) (by omega)
    refine ⟨y, C, M, ?_, ?_, hc, rfl⟩
    · rw [g_x_choose_15, zb_d, if_pos (by omega)]
    · rw [g_m_choose_54, zb_d, if_neg (by omega), hb, g_m_choose_54, zb_d, if_pos (by decide)]
  | succ j ih =>
    intro i y x C M ij i0 y0 y1 x0 sC hc hR1 ho hw hl
    obtain ⟨hR, hF, hW, hS, hT, hA⟩ := id hc
    obtain ⟨⟨a1, a2, a3⟩, -⟩ := id hR
    obtain ⟨⟨d1, d2, d3⟩, -⟩ := id hR1
    have hi : e_wr (i + 1) = i + 1 := e_wr_id (by omega) (by omega)
    have hy : e_wr (y + 1) = y + 1 := e_wr_id (by omega) (by omega)
    obtain ⟨o1, o2, o3, o4⟩ := hO.1 i i0 (by omega)
    have hVo : zSc C (o i) = V (o i) := (zSc_eq hR1 hR o1 o2 (by omega)).trans (hV _).symm
    have hbest := hO.best i0 (by omega) (l := fun f => decide (M r_m_areLeft 0 0 f ≠ 0)) (fun f f0 f1 => by
      rw [decide_eq_true_eq]
      exact hl f f0 f1)
    have hx : g_m_choose ((1054, [s, y, x]), M) = (fun b => bif decide (b < 0) then (g_m_choose ((1054, [s, y, b]), M)) else (e_bind (f_m_mayChoose [s, b] (e_upd M r_m_areLeft 0 0 b (e_nar 1 0))) (fun v1 S1 => (bif decide (v1 = 0) then (g_m_choose ((1054, [s, y, b]), S1)) else (e_bind (f_m_writes [99, b] (e_upd (e_upd S1 r_m_sections 0 0 b s) r_m_promises 0 0 b (S1 r_m_premieres 0 0 s))) (fun v2 S2 => (g_m_choose ((1054, [s, (e_wr (y + 1)), b]), S2)))))))) (o i) := by
      rw [g_m_choose_54, zb_d, if_neg (by omega), ← hbest]
      refine zl_best (n := c1 r_x_filmCount 0 0 0) (p := fun f => decide (M r_m_areLeft 0 0 f ≠ 0)) (w := fun f => - V f) (fin := fun b => bif decide (b < 0) then (g_m_choose ((1054, [s, y, b]), M)) else (e_bind (f_m_mayChoose [s, b] (e_upd M r_m_areLeft 0 0 b (e_nar 1 0))) (fun v1 S1 => (bif decide (v1 = 0) then (g_m_choose ((1054, [s, y, b]), S1)) else (e_bind (f_m_writes [99, b] (e_upd (e_upd S1 r_m_sections 0 0 b s) r_m_promises 0 0 b (S1 r_m_premieres 0 0 s))) (fun v2 S2 => (g_m_choose ((1054, [s, (e_wr (y + 1)), b]), S2)))))))) (G := fun b k => g_m_choose ((1063, [s, y, b, k]), M)) (fun b k e _ _ => ?_) (fun b k k0 k1 b0 b1 => ?_) (c1 r_x_filmCount 0 0 0).toNat (-1) 0 (Int.le_refl _) (by omega) (by omega) (by omega)
      · rw [g_m_choose_63, zb_d (p := M r_m_films 0 0 0 ≤ k), if_pos (by omega)]
      · have hk : e_wr (k + 1) = k + 1 := e_wr_id (by omega) (by omega)
        rw [g_m_choose_63, zb_d, if_neg (by omega), zb_d, hk]
        by_cases q : M r_m_areLeft 0 0 k = 0
        · rw [if_pos q, if_neg (by rw [decide_eq_true_eq]; exact fun z => z q)]
        · rw [if_neg q, if_pos (by rw [decide_eq_true_eq]; exact q), zb_d]
          by_cases q2 : b < 0
          · rw [if_pos q2, if_pos q2]
          · rw [if_neg q2, if_neg q2, (q_sc hR1 k0 k1).2, e_bnd, (q_sc hR1 (f := b) (by omega) (by omega)).2, e_bnd, zb_d]
            simp only [hV]
            by_cases q3 : zSc c1 k ≤ zSc c1 b
            · rw [if_pos q3, if_neg (by omega)]
            · rw [if_neg q3, if_pos (by omega)]
    have n0 : e_nar 1 0 = 0 := e_nb0
    have kM : ∀ {R : ZS → ZS → Prop} {KC KM : List Nat}, zRel R KC KM → KM.contains r_m_areLeft = false → R C M → R C (e_upd M r_m_areLeft 0 0 (o i) 0) := fun hr hq h => hr.um h hq
    have hR2 := kM zR_rel (by decide) hR
    have hF2 := kM zFs_rel (by decide) hF
    have hW2 := kM zWd_rel (by decide) hW
    have hS2 := kM zSe_rel (by decide) hS
    have hT2 := kM zTo_rel (by decide) hT
    have hA2 := kM zAr_rel (by decide) hA
    have hR3 : zR c1 (e_upd M r_m_areLeft 0 0 (o i) 0) := zR_rel.um hR1 (by decide)
    have hl2 : ∀ f, 0 ≤ f → f < c1 r_x_filmCount 0 0 0 → ((e_upd M r_m_areLeft 0 0 (o i) 0) r_m_areLeft 0 0 f ≠ 0 ↔ ∃ q, i + 1 ≤ q ∧ q < n ∧ o q = f) := fun f f0 f1 => by
      rw [e_ur]
      by_cases e : f = o i
      · rw [if_pos ⟨rfl, rfl, e⟩]
        refine ⟨fun z => absurd rfl z, fun ⟨q, q0, q1, q2⟩ => ?_⟩
        have := hO.2.1 i q i0 (by omega) q1
        rw [q2, e] at this
        omega
      · rw [if_neg (fun z => e z.2.2), hl f f0 f1]
        constructor
        · rintro ⟨q, q0, q1, q2⟩
          refine ⟨q, ?_, q1, q2⟩
          by_cases e2 : q = i
          · rw [e2] at q2
            exact absurd q2.symm e
          · omega
        · rintro ⟨q, q0, q1, q2⟩
          exact ⟨q, by omega, q1, q2⟩
    obtain ⟨b, hb, m1, m2⟩ := q_may hR2 hF2 hW2 hS2 o1 (by omega) s0 sC
    rw [hVo] at m1
    have hcC : g_x_choose ((1015, [s, n, y, i]), C) = (bif decide (b = 0) then (g_x_choose ((1015, [s, n, y, i + 1]), C)) else (g_x_choose ((1015, [s, n, y + 1, i + 1]), zcA 99 (o i) (e_upd (e_upd C r_Film_section (o i) 0 0 s) r_Film_promise (o i) 0 0 (C r_Section_premiere s 0 0))))) := by
      rw [g_x_choose_15, zb_d (p := n ≤ i), if_neg (by omega), ho, hw, o4, m1, e_bnd, hi, hy]
      rfl
    rw [hcC, hx]
    show ∃ v C' M', _ ∧ (bif decide (o i < 0) then _ else _) = _ ∧ _
    rw [zb_d (p := o i < 0), if_neg (by omega), n0, m2, e_bnd, zb_d, zb_d]
    rcases hb with rfl | rfl
    · rw [if_pos rfl, if_pos rfl]
      exact ih (i + 1) y (o i) C _ (by omega) (by omega) y0 (by omega) o1 sC ⟨hR2, hF2, hW2, hS2, hT2, hA2⟩ hR3 ho hw hl2
    · rw [if_neg (by decide), if_neg (by decide), q_zmA, e_bnd0, hy]
      have pr := (hS2.2 s s0 sC).2.2.2.2
      have eA : ∀ {r : Nat}, ([r_Film_section, r_Film_promise] ++ zArC).contains r = false → (zcA 99 (o i) (e_upd (e_upd C r_Film_section (o i) 0 0 s) r_Film_promise (o i) 0 0 (C r_Section_premiere s 0 0))) r = C r := fun {r} hr => by
        rw [zcA_o (by
          cases e : zArC.contains r with
          | false => rfl
          | true =>
            rw [List.contains_iff_mem] at e
            have := List.contains_iff_mem.mpr (List.mem_append_right [r_Film_section, r_Film_promise] e)
            rw [hr] at this
            cases this)]
        funext x y z
        have h1 : (r == r_Film_section) = false := by
          cases e : r == r_Film_section with
          | false => rfl
          | true => rw [beq_iff_eq] at e; rw [e] at hr; exact absurd hr (by decide)
        have h2 : (r == r_Film_promise) = false := by
          cases e : r == r_Film_promise with
          | false => rfl
          | true => rw [beq_iff_eq] at e; rw [e] at hr; exact absurd hr (by decide)
        rw [e_un h2, e_un h1]
      have cS : ∀ f, (zcA 99 (o i) (e_upd (e_upd C r_Film_section (o i) 0 0 s) r_Film_promise (o i) 0 0 (C r_Section_premiere s 0 0))) r_Film_section f 0 0 = if f = o i then s else C r_Film_section f 0 0 := fun f => by
        rw [zcA_o (by decide)]
        simp (decide := true) only [e_un, e_ur, and_true]
      have cP : ∀ f, (zcA 99 (o i) (e_upd (e_upd C r_Film_section (o i) 0 0 s) r_Film_promise (o i) 0 0 (C r_Section_premiere s 0 0))) r_Film_promise f 0 0 = if f = o i then C r_Section_premiere s 0 0 else C r_Film_promise f 0 0 := fun f => by
        rw [zcA_o (by decide)]
        simp (decide := true) only [e_un, e_ur, and_true]
      generalize hC' : zcA 99 (o i) (e_upd (e_upd C r_Film_section (o i) 0 0 s) r_Film_promise (o i) 0 0 (C r_Section_premiere s 0 0)) = C' at eA cS cP ⊢
      generalize hM1 : e_upd M r_m_areLeft 0 0 (o i) 0 = M1 at hR2 hF2 hW2 hS2 hT2 hA2 hR3 hl2 pr ⊢
      have mS : ∀ f, (zmA 99 (o i) (e_upd (e_upd M1 r_m_sections 0 0 (o i) s) r_m_promises 0 0 (o i) (M1 r_m_premieres 0 0 s))) r_m_sections 0 0 f = if f = o i then s else M1 r_m_sections 0 0 f := fun f => by
        rw [zmA_o (by decide)]
        simp (decide := true) only [e_un, e_ur, true_and]
      have mP : ∀ f, (zmA 99 (o i) (e_upd (e_upd M1 r_m_sections 0 0 (o i) s) r_m_promises 0 0 (o i) (M1 r_m_premieres 0 0 s))) r_m_promises 0 0 f = if f = o i then C r_Section_premiere s 0 0 else M1 r_m_promises 0 0 f := fun f => by
        rw [zmA_o (by decide)]
        simp (decide := true) only [e_un, e_ur, true_and, pr]
      have mO : ∀ {r : Nat}, ([r_m_sections, r_m_promises] ++ zArM).contains r = false → (zmA 99 (o i) (e_upd (e_upd M1 r_m_sections 0 0 (o i) s) r_m_promises 0 0 (o i) (M1 r_m_premieres 0 0 s))) r = M1 r := fun {r} hr => by
        rw [zmA_o (by
          cases e : zArM.contains r with
          | false => rfl
          | true =>
            rw [List.contains_iff_mem] at e
            have := List.contains_iff_mem.mpr (List.mem_append_right [r_m_sections, r_m_promises] e)
            rw [hr] at this
            cases this)]
        funext x y z
        have h1 : (r == r_m_sections) = false := by
          cases e : r == r_m_sections with
          | false => rfl
          | true => rw [beq_iff_eq] at e; rw [e] at hr; exact absurd hr (by decide)
        have h2 : (r == r_m_promises) = false := by
          cases e : r == r_m_promises with
          | false => rfl
          | true => rw [beq_iff_eq] at e; rw [e] at hr; exact absurd hr (by decide)
        rw [e_un h2, e_un h1]
      generalize hM' : zmA 99 (o i) (e_upd (e_upd M1 r_m_sections 0 0 (o i) s) r_m_promises 0 0 (o i) (M1 r_m_premieres 0 0 s)) = M' at mS mP mO ⊢
      have eth : M' r_m_thrown = M r_m_thrown := by
        rw [mO (by decide), ← hM1]
        funext x y z
        exact e_un (by decide)
      have hF3 : zFs C' M' := by
        obtain ⟨s1, s2, s3⟩ := hF2
        unfold zFs
        rw [eA (r := r_x_filmCount) (by decide), eA (r := r_Film_form) (by decide), eA (r := r_Film_minutes) (by decide), eA (r := r_Film_stillIs) (by decide), mO (r := r_m_forms) (by decide), mO (r := r_m_minutes) (by decide), mO (r := r_m_still) (by decide)]
        refine ⟨fun f f0 f1 => ?_, fun f f0 f1 => ?_, fun f f0 f1 => ?_⟩
        · obtain ⟨t1, t2, t3, t4⟩ := s1 f f0 f1
          refine ⟨t1, t2, t3, ?_⟩
          rw [mS, cS, t4]
        · rw [cS, if_neg (by omega)]
          exact s2 f f0 f1
        · obtain ⟨t1, t2⟩ := s3 f f0 f1
          rw [mP, cP, cS, t1]
          refine ⟨rfl, ?_⟩
          split <;> omega
      have hT3 : zTo C' M' := by
        obtain ⟨ch1, ch2⟩ := q_chosen m1
        obtain ⟨tA, tB, tC⟩ := hT2
        have hne : ∀ i', 0 ≤ i' → i' < C r_Grid_showCount 0 0 0 → ¬ C r_Show_film i' 0 0 = o i := fun i' a b z => by
          have := tB i' a b
          rw [z] at this
          omega
        unfold zTo
        rw [eA (r := r_Grid_showCount) (by decide), eA (r := r_Show_cause) (by decide), eA (r := r_Grid_hour) (by decide), eA (r := r_Show_first) (by decide), eA (r := r_Show_film) (by decide), eA (r := r_Film_isWithdrawn) (by decide), eA (r := r_Show_length) (by decide), eA (r := r_Show_screen) (by decide)]
        refine ⟨fun i' a b => ?_, fun i' a b => ?_, fun i' j' a ij b => ?_⟩
        · rw [cS, if_neg (hne i' a b)]
          exact tA i' a b
        · rw [cS, if_neg (hne i' a b)]
          exact tB i' a b
        · rw [cS, cS, if_neg (hne i' a (by omega)), if_neg (hne j' (by omega) b)]
          exact tC i' j' a ij b
      have hA3 : zAr C' M' := by
        rw [← hC', ← hM']
        exact zAr.add (zAr_rel.uc (zAr_rel.uc (zAr_rel.um (zAr_rel.um hA2 (by decide)) (by decide)) (by decide)) (by decide))
      obtain ⟨v, C2, M2, k1, k2, k3, k4⟩ := ih (i + 1) (y + 1) (o i) C' M' (by omega) (by omega) (by omega) (by omega) o1 (by rw [eA (by decide)]; exact sC) ⟨zR_rel hR2 (fun r hr => eA (z_nin_ok (by decide : z_nin zRC ([r_Film_section, r_Film_promise] ++ zArC) = true) hr)) (fun r hr => mO (z_nin_ok (by decide : z_nin zRM ([r_m_sections, r_m_promises] ++ zArM) = true) hr)), hF3, zWd_rel hW2 (fun r hr => eA (z_nin_ok (by decide : z_nin zWdC ([r_Film_section, r_Film_promise] ++ zArC) = true) hr)) (fun r hr => mO (z_nin_ok (by decide : z_nin zWdM ([r_m_sections, r_m_promises] ++ zArM) = true) hr)), zSe_rel hS2 (fun r hr => eA (z_nin_ok (by decide : z_nin zSeC ([r_Film_section, r_Film_promise] ++ zArC) = true) hr)) (fun r hr => mO (z_nin_ok (by decide : z_nin zSeM ([r_m_sections, r_m_promises] ++ zArM) = true) hr)), hT3, hA3⟩ (zR_rel hR3 (fun _ _ => rfl) (fun r hr => mO (z_nin_ok (by decide : z_nin zRM ([r_m_sections, r_m_promises] ++ zArM) = true) hr))) (fun i' => by rw [eA (by decide)]; exact ho i') (fun i' => by rw [eA (by decide)]; exact hw i') (fun f f0 f1 => by rw [mO (by decide)]; exact hl2 f f0 f1)
      exact ⟨v, C2, M2, k1, k2, k3, k4.trans eth⟩
theorem o_choose {s : Int} {c m : ZS} (hR : zR c m) (hF : zFs c m) (hW : zWd c m) (hS : zSe c m) (hT : zTo c m) (hA : zAr c m) : zBo zCh (f_w_choose [s] c) (f_m_choose [s] m) := by
  obtain ⟨⟨a1, a2, a3⟩, ⟨b1, b2, b3⟩, -⟩ := id hR
  obtain ⟨⟨d1, d2, d3⟩, -⟩ := id hS
  have hot : ∀ {z : Int} {c' m' : ZS}, zCh c' m' → zCh (e_upd c' r_out 0 0 0 z) m' := fun {z c' m'} h' => by
    obtain ⟨g1, g2, g3, g4, g5, g6⟩ := h'
    exact ⟨g1.out, g2.out, g3.out, g4.out, g5.out, g6.out⟩
  show zBo zCh (e_try (g_x_choose ((1000, [s]), c)) (fun v1 S1 => ((0, [0]), e_upd S1 r_out 0 0 0 v1)) [(0, 1)]) (g_m_choose ((1000, [s]), m))
  rw [g_x_choose_0, g_m_choose_0, q_section d1 (by omega), q_noSection (by omega) (by omega), d3]
  by_cases hs : 0 ≤ s ∧ s < c r_x_sectionCount 0 0 0
  · rw [if_pos hs, if_pos hs, e_b_ok]
    simp (decide := true) only [zb_n, zb_d, ↓reduceIte, Int.reduceEq]
    obtain ⟨n, C, e1, n0, n1, fr, hO⟩ := q_orderByScore hR
    rw [e1, e_bnd]
    have kC : ∀ {R : ZS → ZS → Prop} {KC KM : List Nat}, zRel R KC KM → z_nin KC [r_x_order, r_x_weights] = true → R c m → R C m := fun hr hq h => hr h (fun r hr' => fr r (z_nin_ok hq hr')) (fun _ _ => rfl)
    have hRC : zR C m := kC zR_rel (by decide) hR
    have eN : C r_x_filmCount = c r_x_filmCount := fr _ (by decide)
    have eS : C r_x_sectionCount = c r_x_sectionCount := fr _ (by decide)
    have eM : C r_Readings_marks_r = c r_Readings_marks_r := fr _ (by decide)
    have eR : C r_Readings_readerCount = c r_Readings_readerCount := fr _ (by decide)
    -- the model's first loop
    have first : ∀ (t : Nat) (k : Int) (M : ZS), 0 ≤ k → k + t = c r_x_filmCount 0 0 0 → (∀ r, (r == r_m_areLeft) = false → M r = (e_upd m r_m_thrown 0 0 0 0) r) → (∀ f, 0 ≤ f → f < k → (M r_m_areLeft 0 0 f ≠ 0 ↔ zTd c f = true)) → ∃ M', g_m_choose ((1017, [s, k]), M) = g_m_choose ((1054, [s, 0, 0]), M') ∧ (∀ r, (r == r_m_areLeft) = false → M' r = (e_upd m r_m_thrown 0 0 0 0) r) ∧ ∀ f, 0 ≤ f → f < c r_x_filmCount 0 0 0 → (M' r_m_areLeft 0 0 f ≠ 0 ↔ zTd c f = true) := by
      intro t
      induction t with
      | zero =>
        intro k M k0 k1 fm hl
        have eF : M r_m_films 0 0 0 = c r_x_filmCount 0 0 0 := by rw [fm _ (by decide), e_un (by decide), a3]
        refine ⟨M, ?_, fm, fun f f0 f1 => hl f f0 (by omega)⟩
        rw [g_m_choose_17, zb_d, if_pos (by omega)]
      | succ t iht =>
        intro k M k0 k1 fm hl
        have hk : e_wr (k + 1) = k + 1 := e_wr_id (by omega) (by omega)
        have hRM : zR c M := zR_rel (hR.thr : zR c (e_upd m r_m_thrown 0 0 0 0)) (fun _ _ => rfl) (fun r hr => fm r (by
          cases e : r == r_m_areLeft with
          | false => rfl
          | true =>
            rw [beq_iff_eq] at e
            rw [e] at hr
            exact absurd hr (by decide)))
        obtain ⟨⟨-, -, z3⟩, ⟨-, -, z6⟩, -⟩ := id hRM
        have ht := hRM.told k0 (by omega)
        have step : ∀ x, (x ≠ 0 ↔ zTd c k = true) → ∃ M', g_m_choose ((1017, [s, k + 1]), e_upd M r_m_areLeft 0 0 k x) = g_m_choose ((1054, [s, 0, 0]), M') ∧ (∀ r, (r == r_m_areLeft) = false → M' r = (e_upd m r_m_thrown 0 0 0 0) r) ∧ ∀ f, 0 ≤ f → f < c r_x_filmCount 0 0 0 → (M' r_m_areLeft 0 0 f ≠ 0 ↔ zTd c f = true) := fun x hx => by
          refine iht (k + 1) _ (by omega) (by omega) (fun r hr => ?_) (fun f f0 f1 => ?_)
          · rw [← fm r hr]
            funext a b d
            exact e_un hr
          · rw [e_ur]
            by_cases e : f = k
            · rw [if_pos ⟨rfl, rfl, e⟩, e]
              exact hx
            · rw [if_neg (fun z => e z.2.2)]
              exact hl f f0 (by omega)
        rw [g_m_choose_17, zb_d, if_neg (by omega), q_scoreMany (by omega) (by omega), e_bnd, ht, zb_d, hk]
        by_cases q : zcnt (fun i => decide (0 ≤ c r_Readings_marks_r k 0 i)) (c r_Readings_readerCount 0 0 0).toNat 0 ≤ 0
        · rw [if_pos q, e_nb0]
          refine step 0 ⟨fun z => absurd rfl z, fun z => ?_⟩
          have := of_decide_eq_true z
          omega
        · rw [if_neg q, e_nb1]
          exact step 1 ⟨fun _ => decide_eq_true (by omega), fun _ => by decide⟩
    obtain ⟨M, f1, f2, f3⟩ := first (c r_x_filmCount 0 0 0).toNat 0 (e_upd m r_m_thrown 0 0 0 0) (Int.le_refl _) (by omega) (fun _ _ => rfl) (fun f f0 f1 => by omega)
    rw [f1]
    have kM : ∀ {R : ZS → ZS → Prop} {KC KM : List Nat} {d : ZS}, zRel R KC KM → KM.contains r_m_areLeft = false → R d (e_upd m r_m_thrown 0 0 0 0) → R d M := fun {R KC KM d} hr hq h => hr h (fun _ _ => rfl) (fun r hr' => f2 r (by
      cases e : r == r_m_areLeft with
      | false => rfl
      | true =>
        rw [beq_iff_eq] at e
        rw [e, ← List.contains_iff_mem] at hr'
        rw [hr'] at hq
        cases hq))
    have hV : ∀ f, 0 ≤ f → f < c r_x_filmCount 0 0 0 → zSc C f = zSc c f := fun f f0 f1 => zSc_eq hR hRC f0 f1 (by rw [eN]; exact f1)
    have hO2 : zOrd (fun i => C r_x_order 0 0 i) (fun i => C r_x_weights 0 0 i) (zSc C) (zTd c) n (C r_x_filmCount 0 0 0) := by
      rw [eN]
      obtain ⟨o1, o2, o3⟩ := hO
      refine ⟨fun i i0 i1 => ?_, fun i j i0 ij j1 => ?_, o3⟩
      · obtain ⟨p1, p2, p3, p4⟩ := o1 i i0 i1
        exact ⟨p1, p2, p3, p4.trans (hV _ p1 p2).symm⟩
      · have p1 := o1 i i0 (by omega)
        have p2 := o1 j (by omega) j1
        have e1 := hV _ p1.1 p1.2.1
        have e2 := hV _ p2.1 p2.2.1
        have p3 := o2 i j i0 ij j1
        (try dsimp only at e1 e2 p3 ⊢)
        rw [e1, e2]
        exact p3
    obtain ⟨v, C', M', k1, k2, k3, k4⟩ := q_choose1 (c1 := C) (V := zSc C) (o := fun i => C r_x_order 0 0 i) (w := fun i => C r_x_weights 0 0 i) (p := zTd c) (fun _ => rfl) hs.1 (by omega) hO2 n.toNat 0 0 0 C M (by omega) (Int.le_refl _) (Int.le_refl _) (Int.le_refl _) (Int.le_refl _) (by rw [eS]; exact hs.2) ⟨kM zR_rel (by decide) hRC.thr, kM zFs_rel (by decide) (kC zFs_rel (by decide) hF).thr, kM zWd_rel (by decide) (kC zWd_rel (by decide) hW).thr, kM zSe_rel (by decide) (kC zSe_rel (by decide) hS).thr, kM zTo_rel (by decide) (kC zTo_rel (by decide) hT).thr, kM zAr_rel (by decide) (kC zAr_rel (by decide) hA).thr⟩ (kM zR_rel (by decide) hRC.thr) (fun _ => rfl) (fun _ => rfl) (fun f f0 f1 => by
      rw [eN] at f1
      rw [f3 f f0 f1]
      constructor
      · intro z
        obtain ⟨i, i0, i1, i2⟩ := hO.2.2 f f0 f1 z
        exact ⟨i, i0, i1, i2⟩
      · rintro ⟨i, i0, i1, i2⟩
        have := (hO.1 i i0 i1).2.2.1
        (try dsimp only at i2 this)
        rw [i2] at this
        exact this)
    rw [k1, k2]
    refine ⟨0, _, _, _, rfl, rfl, hot k3, ?_, fun _ => e_us⟩
    rw [k4, f2 _ (by decide), e_us]
  · rw [if_neg hs, if_neg hs, e_b_x (by decide) (by decide)]
    simp (decide := true) only [zb_n, zb_d, ↓reduceIte]
    exact ⟨1, 0, _, _, rfl, rfl, ⟨hR.thr, hF.thr, hW.thr, hS.thr, hT.thr, hA.thr⟩, e_us, fun q => absurd q (by decide)⟩
theorem o_minutes {s : Int} {c m : ZS} (hR : zR c m) (hF : zFs c m) (hS : zSe c m) : zBo zFs (f_w_minutes [s] c) (f_m_minutes [s] m) := by
  obtain ⟨⟨d1, d2, d3⟩, -⟩ := id hS
  show zBo zFs (e_try (f_x_minutes [s] c) (fun v1 S1 => ((0, [0]), e_upd S1 r_out 0 0 0 v1)) [(0, 1)]) (f_m_minutes [s] m)
  unfold f_x_minutes f_m_minutes
  dsimp only
  rw [q_section d1 (by omega), q_noSection (by omega) (by omega), d3]
  by_cases hs : 0 ≤ s ∧ s < c r_x_sectionCount 0 0 0
  · obtain ⟨v, e1, e2⟩ := q_minutesIn (hR.thr : zR c (e_upd m r_m_thrown 0 0 0 0)) hF.thr (s := s)
    rw [if_pos hs, if_pos hs, e_b_ok, e1, e_bnd]
    simp (decide := true) only [zb_n, zb_d, ↓reduceIte, Int.reduceEq]
    rw [e2, e_bnd]
    exact ⟨0, _, _, _, rfl, rfl, hF.thr.out, e_us, fun _ => e_us⟩
  · rw [if_neg hs, if_neg hs, e_b_x (by decide) (by decide)]
    simp (decide := true) only [zb_n, zb_d, ↓reduceIte]
    exact ⟨1, 0, _, _, rfl, rfl, hF.thr, e_us, fun q => absurd q (by decide)⟩
theorem o_sectionOf {f : Int} {c m : ZS} (hR : zR c m) (hS : zFs c m) : zBo zFs (f_w_sectionOf [f] c) (f_m_sectionOf [f] m) := by
  obtain ⟨k, v, c', m', e1, e2, h1, h2, h3⟩ := oB_sectionOf (show zAnd zR zFs c m from ⟨hR, hS⟩)
  exact ⟨k, v, c', m', e1, e2, h1.2, h2, h3⟩
theorem o_rival {f w : Int} {c m : ZS} (hR : zR c m) (hS : zFs c m) : zBo zFs (f_w_rival [f, w] c) (f_m_rival [f, w] m) := by
  obtain ⟨k, v, c', m', e1, e2, h1, h2, h3⟩ := oB_rival (show zAnd zR zFs c m from ⟨hR, hS⟩)
  exact ⟨k, v, c', m', e1, e2, h1.2, h2, h3⟩
theorem o_giveUp {f : Int} {c m : ZS} (hR : zR c m) (hS : zFs c m) (hA : zAr c m) : zBo (zAnd zFs zAr) (f_w_giveUp [f] c) (f_m_giveUp [f] m) := by
  obtain ⟨⟨a1, a2, a3⟩, -⟩ := id hR
  show zBo _ (e_try (f_x_giveUp [f] c) (fun v1 S1 => ((0, [0]), e_upd S1 r_out 0 0 0 v1)) [(0, 1), (3, 2)]) _
  unfold f_x_giveUp f_m_giveUp
  dsimp only
  rw [q_film a1 (by omega), q_noFilm (by omega) (by omega), a3]
  by_cases hf : 0 ≤ f ∧ f < c r_x_filmCount 0 0 0
  · have e4 := (hS.2.2 f hf.1 (by omega)).1
    rw [if_pos hf, if_pos hf, e_b_ok]
    simp only [zb_n, zb_d, e4]
    by_cases q : c r_Film_promise f 0 0 = 0
    · simp (decide := true) only [q, ↓reduceIte]
      exact ⟨2, 32, _, _, rfl, rfl, ⟨hS.thr.thr, hA.thr.thr⟩, e_us, fun q => absurd q (by decide)⟩
    · simp (decide := true) only [q, ↓reduceIte]
      rw [q_zcA, q_zmA, e_bnd0, e_bnd0]
      refine ⟨0, _, _, _, rfl, rfl, ⟨?_, zAr.out (zAr.add (zAr_rel.uc (zAr_rel.um hA.thr.thr (by decide)) (by decide)))⟩, ?_, fun _ => ?_⟩
      · refine zFs.out (zFs_rel.zcA (by decide) (zFs_rel.zmA (by decide) ?_))
        obtain ⟨s1, s2, s3⟩ := hS
        refine ⟨fun g g0 g1 => ?_, fun g g0 g1 => ?_, fun g g0 g1 => ?_⟩
        · simp (decide := true) only [e_un] at g1 ⊢
          exact s1 g g0 g1
        · simp (decide := true) only [e_un] at g0 ⊢
          exact s2 g g0 g1
        · simp (decide := true) only [e_un, e_ur]
          by_cases w : g = f
          · simp (decide := true) only [w, and_self, ↓reduceIte, true_and]
            exact (s3 f hf.1 (by omega)).2
          · simp only [w, and_false, false_and, ↓reduceIte]
            exact s3 g g0 g1
      · rw [zmA_o (by decide)]
        simp (decide := true) only [e_un, e_us]
      · rw [e_us]
        rfl
  · rw [if_neg hf, if_neg hf, e_b_x (by decide) (by decide)]
    simp (decide := true) only [zb_n, zb_d, ↓reduceIte]
    exact ⟨1, 32, _, _, rfl, rfl, ⟨hS.thr, hA.thr⟩, e_us, fun q => absurd q (by decide)⟩
theorem o_isBroken {f : Int} {c m : ZS} (hR : zR c m) (hS : zFs c m) : zBo zFs (f_w_isBroken [f] c) (f_m_isBroken [f] m) := by
  obtain ⟨⟨a1, a2, a3⟩, -⟩ := id hR
  show zBo _ (e_try (f_x_isBroken [f] c) (fun v1 S1 => (bif decide (v1 = 0) then ((0, [0]), (e_upd S1 r_out 0 0 0 0)) else ((0, [0]), (e_upd S1 r_out 0 0 0 1)))) [(0, 1)]) _
  unfold f_x_isBroken f_m_isBroken v_Film_breaksPromise
  dsimp only
  rw [q_film a1 (by omega), q_noFilm (by omega) (by omega), a3]
  by_cases hf : 0 ≤ f ∧ f < c r_x_filmCount 0 0 0
  · have e3 := (hS.1 f hf.1 hf.2).2.2.1
    have e4 := (hS.2.2 f hf.1 (by omega)).1
    rw [if_pos hf, if_pos hf, e_b_ok]
    simp only [zb_n, zb_d, e3, e4]
    by_cases q : c r_Film_promise f 0 0 ≤ c r_Film_stillIs f 0 0
    · simp (decide := true) only [if_pos q, ↓reduceIte, Int.reduceEq]
      exact ⟨0, _, _, _, rfl, rfl, hS.thr.out, e_us, fun _ => e_us⟩
    · simp (decide := true) only [if_neg q, ↓reduceIte, Int.reduceEq]
      exact ⟨0, _, _, _, rfl, rfl, hS.thr.out, e_us, fun _ => e_us⟩
  · rw [if_neg hf, if_neg hf, e_b_x (by decide) (by decide)]
    simp (decide := true) only [zb_n, zb_d, ↓reduceIte]
    exact ⟨1, 0, _, _, rfl, rfl, hS.thr, e_us, fun q => absurd q (by decide)⟩
theorem b_isBroken {a v : Int} {S S2 : ZS} (h : f_m_isBroken [a] S = ((0, [v]), S2)) : v = 0 ∨ v = 1 := by
  unfold f_m_isBroken at h
  dsimp only at h
  exact e_bool h e_bool0 (fun h => e_bool h e_bool0 e_bool1)
end
/-! part 71uc10 -/
section
/-! plan: both sides -/
def ztc (c : ZS) (f i : Int) : Bool := decide (c r_Show_film i 0 0 = f ∧ v_Grid_stateOf i c = 116)
theorem q_hasToCome {c m : ZS} (h : zSw c m) (hf : zFs c m) (hh : zHr c m) {f : Int} : f_Grid_hasToCome [f] c = ((0, [zb (zany (ztc c f) (c r_Grid_showCount 0 0 0).toNat 0)]), c) ∧ f_m_hasToCome [f] m = ((0, [zb (zany (ztc c f) (c r_Grid_showCount 0 0 0).toNat 0)]), m) := by
  obtain ⟨⟨n0, n1, n2⟩, -⟩ := id h
  constructor
  · show g_Grid_hasToCome ((1000, [f]), c) = _
    rw [g_Grid_hasToCome_0]
    refine (zl_any (n := c r_Grid_showCount 0 0 0) (p := ztc c f) (A := ((0, [1]), c)) (B := ((0, [0]), c)) (G := fun k => g_Grid_hasToCome ((1002, [f, k]), c)) (fun k hk => ?_) (fun k h0 h1 => ?_) (c r_Grid_showCount 0 0 0).toNat 0 (Int.le_refl _) (by omega)).trans ?_
    · rw [g_Grid_hasToCome_2, zb_d, if_pos (by omega)]
    · have hk : e_wr (k + 1) = k + 1 := e_wr_id (by omega) (by omega)
      rw [g_Grid_hasToCome_2, zb_d, if_neg (by omega), hk]
      unfold ztc
      simp only [zb_d, zb_n, decide_eq_true_eq]
      repeat' split
      all_goals first | rfl | (exfalso; omega)
    · unfold zb
      split <;> rfl
  · show g_m_hasToCome ((1000, [f]), m) = _
    rw [g_m_hasToCome_0]
    refine zl_set (n := c r_Grid_showCount 0 0 0) (z := 1) (p := ztc c f) (P := zbit) zbit1 (fin := fun v => ((0, [v]), m)) (G := fun v k => g_m_hasToCome ((1004, [f, v, k]), m)) (fun v k e hv => ?_) (fun v k h0 h1 hv => ?_) (c r_Grid_showCount 0 0 0).toNat 0 0 (Int.le_refl _) (by omega) zbit0
    · rw [g_m_hasToCome_4, zb_d, if_pos (by omega)]
    · have hk : e_wr (k + 1) = k + 1 := e_wr_id (by omega) (by omega)
      rw [g_m_hasToCome_4, zb_d, if_neg (by omega), hk, (h.row hf h0 h1).1, (q_state h hf hh h0 h1).1, e_or0 hv, e_or1 hv]
      unfold ztc
      simp only [zb_d, zb_n, decide_eq_true_eq]
      repeat' split
      all_goals first | rfl | (exfalso; omega)
/-- which films a section has that want a show -/
def zun (c : ZS) (s f : Int) : Bool := decide (c r_Film_section f 0 0 = s) && !zany (ztc c f) (c r_Grid_showCount 0 0 0).toNat 0
theorem zun_cg {c c' : ZS} (hc : ∀ r, [r_x_order, r_x_weights].contains r = false → c' r = c r) {s f : Int} : zun c' s f = zun c s f := by
  unfold zun ztc v_Grid_stateOf
  rw [hc r_Film_section (by decide), hc r_Grid_showCount (by decide), hc r_Show_film (by decide), hc r_Show_cause (by decide), hc r_Show_first (by decide), hc r_Show_length (by decide), hc r_Grid_hour (by decide)]
theorem q_unset1 {c m : ZS} (hR : zR c m) (h : zSw c m) (hf : zFs c m) (hh : zHr c m) {s : Int} : ∀ (j : Nat) (k n : Int) (S M : ZS), 0 ≤ k → k + j = c r_x_filmCount 0 0 0 → 0 ≤ n → n ≤ k → (∀ r, [r_x_order, r_x_weights].contains r = false → S r = c r) → (∀ r, (r == r_m_areLeft) = false → M r = m r) → zOrd (fun i => S r_x_order 0 0 i) (fun i => S r_x_weights 0 0 i) (fun f => c r_Film_minutes f 0 0) (zun c s) n k → (∀ f, 0 ≤ f → f < k → (M r_m_areLeft 0 0 f ≠ 0 ↔ zun c s f = true)) → ∃ n' S' M', g_x_orderUnsetByMinutes ((1004, [s, n, k]), S) = ((0, [n']), S') ∧ g_m_plan ((1019, [s, n, k]), M) = g_m_plan ((1019, [s, n', c r_x_filmCount 0 0 0]), M') ∧ 0 ≤ n' ∧ n' ≤ c r_x_filmCount 0 0 0 ∧ (∀ r, [r_x_order, r_x_weights].contains r = false → S' r = c r) ∧ (∀ r, (r == r_m_areLeft) = false → M' r = m r) ∧ zOrd (fun i => S' r_x_order 0 0 i) (fun i => S' r_x_weights 0 0 i) (fun f => c r_Film_minutes f 0 0) (zun c s) n' (c r_x_filmCount 0 0 0) ∧ ∀ f, 0 ≤ f → f < c r_x_filmCount 0 0 0 → (M' r_m_areLeft 0 0 f ≠ 0 ↔ zun c s f = true) := by
  obtain ⟨⟨a1, a2, a3⟩, -⟩ := id hR
  intro j
  induction j with
  | zero =>
    intro k n S M k0 k1 n0 n1 fr fm ho hl
    have e1 : S r_x_filmCount = c r_x_filmCount := fr _ (by decide)
    have hk : k = c r_x_filmCount 0 0 0 := by omega
    refine ⟨n, S, M, ?_, ?_, n0, by omega, fr, fm, ?_, ?_⟩
    · rw [g_x_orderUnsetByMinutes_4, zb_d, e1, if_pos (by omega)]
    · rw [hk]
    · rw [hk] at ho
      exact ho
    · rw [hk] at hl
      exact hl
  | succ j ih =>
    intro k n S M k0 k1 n0 n1 fr fm ho hl
    have e1 : S r_x_filmCount = c r_x_filmCount := fr _ (by decide)
    have e2 : S r_Film_section = c r_Film_section := fr _ (by decide)
    have e3 : S r_Film_minutes = c r_Film_minutes := fr _ (by decide)
    have e4 : M r_m_films = m r_m_films := fm _ (by decide)
    have e5 : M r_m_sections = m r_m_sections := fm _ (by decide)
    have hk : e_wr (k + 1) = k + 1 := e_wr_id (by omega) (by omega)
    have hn : e_wr (n + 1) = n + 1 := e_wr_id (by omega) (by omega)
    have hn0 : e_wr (n + 0) = n := by rw [Int.add_zero]; exact e_wr_id (by omega) (by omega)
    have s4 := (hf.1 k k0 (by omega)).2.2.2
    have kS : ∀ {R : ZS → ZS → Prop} {KC KM : List Nat}, zRel R KC KM → z_nin KC [r_x_order, r_x_weights] = true → z_nin KM [r_m_areLeft] = true → R c m → R S M := fun hr hq hq' h => hr h (fun r hr' => fr r (z_nin_ok hq hr')) (fun r hr' => fm r (by
      have := z_nin_ok hq' hr'
      cases e : r == r_m_areLeft with
      | false => rfl
      | true =>
        rw [beq_iff_eq] at e
        rw [e] at this
        exact absurd this (by decide)))
    have hC := q_hasToCome (kS zSw_rel (by decide) (by decide) h) (kS zFs_rel (by decide) (by decide) hf) (kS zHr_rel (by decide) (by decide) hh) (f := k)
    have ez : zany (ztc S k) (S r_Grid_showCount 0 0 0).toNat 0 = zany (ztc c k) (c r_Grid_showCount 0 0 0).toNat 0 := by
      unfold ztc v_Grid_stateOf
      rw [fr r_Grid_showCount (by decide), fr r_Show_film (by decide), fr r_Show_cause (by decide), fr r_Show_first (by decide), fr r_Show_length (by decide), fr r_Grid_hour (by decide)]
    rw [ez] at hC
    have step : ∀ x, (x ≠ 0 ↔ zun c s k = true) → (∀ r, (r == r_m_areLeft) = false → (e_upd M r_m_areLeft 0 0 k x) r = m r) ∧ ∀ f, 0 ≤ f → f < k + 1 → ((e_upd M r_m_areLeft 0 0 k x) r_m_areLeft 0 0 f ≠ 0 ↔ zun c s f = true) := fun x hx => by
      refine ⟨fun r hr => ?_, fun f f0 f1 => ?_⟩
      · rw [← fm r hr]
        funext a b d
        exact e_un hr
      · rw [e_ur]
        by_cases e : f = k
        · rw [if_pos ⟨rfl, rfl, e⟩, e]
          exact hx
        · rw [if_neg (fun z => e z.2.2)]
          exact hl f f0 (by omega)
    have eC := g_x_orderUnsetByMinutes_4 (x1 := s) (x2 := n) (x3 := k) (S := S)
    rw [zb_d, e1, if_neg (by omega), zb_n, e2, hk] at eC
    have eM := g_m_plan_19 (x1 := s) (x2 := n) (x3 := k) (S := M)
    rw [zb_d, e4, if_neg (by omega), zb_n, hk, e5, s4] at eM
    rw [eC, eM]
    by_cases q : c r_Film_section k 0 0 = s
    · rw [if_pos q, if_pos q, hC.1, e_bnd, hC.2, e_bnd, zb_n, zb_n]
      by_cases q2 : zany (ztc c k) (c r_Grid_showCount 0 0 0).toNat 0 = true
      · have hu : zun c s k = false := by
          unfold zun
          rw [q2]
          simp
        obtain ⟨st1, st2⟩ := step 0 (by rw [hu]; exact ⟨fun z => absurd rfl z, fun z => by cases z⟩)
        rw [q2, if_neg (by decide), if_neg (by decide), e_nb0, zb_d, e_us, if_pos rfl, hn0]
        exact ih (k + 1) n S _ (by omega) (by omega) n0 (by omega) fr st1 (ho.skip hu) st2
      · have q3 : zany (ztc c k) (c r_Grid_showCount 0 0 0).toNat 0 = false := by simpa using q2
        have hu : zun c s k = true := by
          unfold zun
          rw [q3, decide_eq_true q]
          rfl
        obtain ⟨st1, st2⟩ := step 1 (by rw [hu]; exact ⟨fun _ => rfl, fun _ => by decide⟩)
        obtain ⟨S', p1, p2, p3⟩ := q_putInOrder (f := k) (W := c r_Film_minutes k 0 0) (S := S) n0 (by omega)
        rw [q3, if_pos (by decide), if_pos (by decide), e_nb1, zb_d, e_us, if_neg (by decide), hn, e3, p1, e_bnd0]
        exact ih (k + 1) (n + 1) S' _ (by omega) (by omega) (by omega) (by omega) (fun r hr => (p2 r hr).trans (fr r hr)) st1 (p3 ho k0 hu rfl rfl) st2
    · have hu : zun c s k = false := by
        unfold zun
        rw [decide_eq_false q]
        rfl
      obtain ⟨st1, st2⟩ := step 0 (by rw [hu]; exact ⟨fun z => absurd rfl z, fun z => by cases z⟩)
      rw [if_neg q, if_neg q, e_nb0, zb_d, e_us, if_pos rfl, hn0]
      exact ih (k + 1) n S _ (by omega) (by omega) n0 (by omega) fr st1 (ho.skip hu) st2
theorem zGr.thr {c m : ZS} (h : zGr c m) {z : Int} : zGr c (e_upd m r_m_thrown 0 0 0 z) := by
  obtain ⟨g1, g2, g3, g4, g5, g6, g7, g8, g9, g10⟩ := h
  exact ⟨g1.thr, g2.thr, g3.thr, g4.thr, g5.thr, g6.thr, g7.thr, g8.thr, g9.thr, g10.thr⟩
theorem zGr.out {c m : ZS} (h : zGr c m) {z : Int} : zGr (e_upd c r_out 0 0 0 z) m := by
  obtain ⟨g1, g2, g3, g4, g5, g6, g7, g8, g9, g10⟩ := h
  exact ⟨g1.out, g2.out, g3.out, g4.out, g5.out, g6.out, g7.out, g8.out, g9.out, g10.out⟩
/-- scratch of both sides -/
def zscC : List Nat := [r_x_order, r_x_weights, r_Grid_found, r_Grid_foundCount]
def zscM : List Nat := [r_m_areLeft, r_new, z_rA]
theorem zGr.fr {c m c' m' : ZS} (h : zGr c m) (hc : ∀ r, zscC.contains r = false → c' r = c r) (hm : ∀ r, zscM.contains r = false → m' r = m r) : zGr c' m' := by
  have k : ∀ {R : ZS → ZS → Prop} {KC KM : List Nat}, zRel R KC KM → z_nin KC zscC = true → z_nin KM zscM = true → R c m → R c' m' := fun hr hq hq' h => hr h (fun r hr' => hc r (z_nin_ok hq hr')) (fun r hr' => hm r (z_nin_ok hq' hr'))
  obtain ⟨g1, g2, g3, g4, g5, g6, g7, g8, g9, g10⟩ := h
  exact ⟨k zFs_rel (by decide) (by decide) g1, k zVe_rel (by decide) (by decide) g2, k zPk_rel (by decide) (by decide) g3, k zPh_rel (by decide) (by decide) g4, k zHr_rel (by decide) (by decide) g5, k zSt_rel (by decide) (by decide) g6, k zSw_rel (by decide) (by decide) g7, k zTo_rel (by decide) (by decide) g8, k zQu_rel (by decide) (by decide) g9, k zAr_rel (by decide) (by decide) g10⟩
theorem q_plan1 {c1 : ZS} {o w : Int → Int} {p : Int → Bool} {n : Int} (n20 : n ≤ 20) (N20 : c1 r_x_filmCount 0 0 0 ≤ 20) (hO : zOrd o w (fun f => c1 r_Film_minutes f 0 0) p n (c1 r_x_filmCount 0 0 0)) (hp : ∀ f, p f = true → 0 ≤ c1 r_Film_section f 0 0) : ∀ (j : Nat) (i y : Int) (C M : ZS), i + j = n → 0 ≤ i → 0 ≤ y → y ≤ i → C r_Grid_showCount 0 0 0 + j ≤ 60 → zGr C M → M r_m_films 0 0 0 = c1 r_x_filmCount 0 0 0 → (∀ r, zsW.contains r = false → C r = c1 r) → (∀ i, c1 r_x_order 0 0 i = o i) → (∀ f, 0 ≤ f → f < c1 r_x_filmCount 0 0 0 → (M r_m_areLeft 0 0 f ≠ 0 ↔ ∃ q, i ≤ q ∧ q < n ∧ o q = f)) → ∃ v C' M', g_x_plan ((1041, [n, y, i]), C) = ((0, [v]), C') ∧ g_m_plan ((1110, [n, y, i]), M) = ((0, [v]), M') ∧ zGr C' M' ∧ M' r_m_thrown = M r_m_thrown := by
  intro j
  induction j with
  | zero =>
    intro i y C M ij i0 y0 y1 hN hg hF fr ho hl
    exact ⟨y, C, M, by rw [g_x_plan_41, zb_d, if_pos (by omega)], by rw [g_m_plan_110, zb_d, if_pos (by omega)], hg, rfl⟩
  | succ j ih =>
    intro i y C M ij i0 y0 y1 hN hg hF fr ho hl
    have hi : e_wr (i + 1) = i + 1 := e_wr_id (by omega) (by omega)
    have hy : e_wr (y + 1) = y + 1 := e_wr_id (by omega) (by omega)
    have hy0 : e_wr (y + 0) = y := by rw [Int.add_zero]; exact e_wr_id (by omega) (by omega)
    obtain ⟨o1, o2, o3, o4⟩ := hO.1 i i0 (by omega)
    have f1 : C r_x_filmCount = c1 r_x_filmCount := fr _ (by decide)
    have f2 : C r_Film_section = c1 r_Film_section := fr _ (by decide)
    have f3 : C r_Film_minutes = c1 r_Film_minutes := fr _ (by decide)
    have f4 : C r_x_order = c1 r_x_order := fr _ (by decide)
    have hbest := hO.best i0 (by omega) (l := fun f => decide (M r_m_areLeft 0 0 f ≠ 0)) (fun f f0 f1 => by
      rw [decide_eq_true_eq]
      exact hl f f0 f1)
    have hx : g_m_plan ((1110, [n, y, i]), M) = e_bind (f_m_setAnywhere [o i] (e_upd M r_m_areLeft 0 0 (o i) (e_nar 1 0))) (fun v1 S1 => (bif decide (0 ≤ v1) then (g_m_plan ((1110, [n, (e_wr (y + 1)), (e_wr (i + 1))]), S1)) else (g_m_plan ((1110, [n, (e_wr (y + 0)), (e_wr (i + 1))]), S1)))) := by
      rw [g_m_plan_110, zb_d, if_neg (by omega), ← hbest]
      refine zl_best (n := c1 r_x_filmCount 0 0 0) (p := fun f => decide (M r_m_areLeft 0 0 f ≠ 0)) (w := fun f => - c1 r_Film_minutes f 0 0) (fin := fun b => e_bind (f_m_setAnywhere [b] (e_upd M r_m_areLeft 0 0 b (e_nar 1 0))) (fun v1 S1 => (bif decide (0 ≤ v1) then (g_m_plan ((1110, [n, (e_wr (y + 1)), (e_wr (i + 1))]), S1)) else (g_m_plan ((1110, [n, (e_wr (y + 0)), (e_wr (i + 1))]), S1))))) (G := fun b k => g_m_plan ((1122, [n, y, i, b, k]), M)) (fun b k e _ _ => ?_) (fun b k k0 k1 b0 b1 => ?_) (c1 r_x_filmCount 0 0 0).toNat (-1) 0 (Int.le_refl _) (by omega) (by omega) (by omega)
      · rw [g_m_plan_122, zb_d (p := M r_m_films 0 0 0 ≤ k), if_pos (by omega)]
      · have hk : e_wr (k + 1) = k + 1 := e_wr_id (by omega) (by omega)
        rw [g_m_plan_122, zb_d, if_neg (by omega), zb_d, hk]
        by_cases q : M r_m_areLeft 0 0 k = 0
        · rw [if_pos q, if_neg (by rw [decide_eq_true_eq]; exact fun z => z q)]
        · rw [if_neg q, if_pos (by rw [decide_eq_true_eq]; exact q), zb_d]
          by_cases q2 : b < 0
          · rw [if_pos q2, if_pos q2]
          · have m1 := (hg.1.1 k k0 (by rw [f1]; exact k1)).2.1
            have m2 := (hg.1.1 b (by omega) (by rw [f1]; omega)).2.1
            rw [if_neg q2, if_neg q2, zb_d, m1, m2, f3]
            by_cases q3 : c1 r_Film_minutes k 0 0 ≤ c1 r_Film_minutes b 0 0
            · rw [if_pos q3, if_neg (by omega)]
            · rw [if_neg q3, if_pos (by omega)]
    have hg2 : zGr C (e_upd M r_m_areLeft 0 0 (o i) 0) := hg.fr (fun _ _ => rfl) (fun r hr => by
      funext a b d
      exact e_un (by
        cases e : r == r_m_areLeft with
        | false => rfl
        | true =>
          rw [beq_iff_eq] at e
          rw [e] at hr
          exact absurd hr (by decide)))
    have hpl := (q_place hg2 (f := o i) (by omega) o1 (by rw [f1]; exact o2) (by omega) (by rw [f2]; exact hp _ o3)).ok hg2 (by omega) o1 (by rw [f1]; exact o2) (by rw [f2]; exact hp _ o3)
    obtain ⟨v, C', M', e1, e2, g, k1, k2, -, k3⟩ := hpl
    have hn0 := hg.2.2.2.2.2.2.1.1.1
    have hl2 : ∀ f, 0 ≤ f → f < c1 r_x_filmCount 0 0 0 → (M' r_m_areLeft 0 0 f ≠ 0 ↔ ∃ q, i + 1 ≤ q ∧ q < n ∧ o q = f) := fun f f0 f1 => by
      rw [k2 r_m_areLeft (by decide), e_ur]
      by_cases e : f = o i
      · rw [if_pos ⟨rfl, rfl, e⟩]
        refine ⟨fun z => absurd rfl z, fun ⟨q, q0, q1, q2⟩ => ?_⟩
        have := hO.2.1 i q i0 (by omega) q1
        rw [q2, e] at this
        (try dsimp only at this)
        omega
      · rw [if_neg (fun z => e z.2.2), hl f f0 f1]
        constructor
        · rintro ⟨q, q0, q1, q2⟩
          refine ⟨q, ?_, q1, q2⟩
          by_cases e2 : q = i
          · rw [e2] at q2
            exact absurd q2.symm e
          · omega
        · rintro ⟨q, q0, q1, q2⟩
          exact ⟨q, by omega, q1, q2⟩
    have hF2 : M' r_m_films 0 0 0 = c1 r_x_filmCount 0 0 0 := by
      rw [k2 r_m_films (by decide), e_un (by decide)]
      exact hF
    have hth : M' r_m_thrown = M r_m_thrown := by
      rw [k2 r_m_thrown (by decide)]
      funext a b d
      exact e_un (by decide)
    have next : ∀ y', 0 ≤ y' → y' ≤ i + 1 → ∃ v C2 M2, g_x_plan ((1041, [n, y', i + 1]), C') = ((0, [v]), C2) ∧ g_m_plan ((1110, [n, y', i + 1]), M') = ((0, [v]), M2) ∧ zGr C2 M2 ∧ M2 r_m_thrown = M r_m_thrown := fun y' a b => by
      obtain ⟨v, C2, M2, x1, x2, x3, x4⟩ := ih (i + 1) y' C' M' (by omega) (by omega) a b (by
        rcases k3 with ⟨-, z, -⟩ | ⟨-, z⟩
        · rw [z]
          omega
        · omega) g hF2 (fun r hr => (k1 r hr).trans (fr r hr)) ho hl2
      exact ⟨v, C2, M2, x1, x2, x3, x4.trans hth⟩
    rw [g_x_plan_41, zb_d, if_neg (by omega), f4, ho, e1, e_bnd, zb_d, hx, e_nb0, e2, e_bnd, zb_d, hi, hy, hy0]
    by_cases q : v = -1
    · rw [if_pos q, if_neg (by omega)]
      exact next y y0 (by omega)
    · rw [if_neg q, if_pos (by omega)]
      exact next (y + 1) (by omega) (by omega)
theorem o_plan {s : Int} {c m : ZS} (hR : zR c m) (hS : zSe c m) (h : zGr c m) : zBo zGr (f_w_plan [s] c) (f_m_plan [s] m) := by
  obtain ⟨⟨a1, a2, a3⟩, -⟩ := id hR
  obtain ⟨⟨d1, d2, d3⟩, -⟩ := id hS
  show zBo zGr (e_try (g_x_plan ((1000, [s]), c)) (fun v1 S1 => ((0, [0]), e_upd S1 r_out 0 0 0 v1)) [(0, 1), (2, 2)]) (g_m_plan ((1000, [s]), m))
  rw [g_x_plan_0, g_m_plan_0, q_section d1 (by omega), q_noSection (by omega) (by omega), d3]
  by_cases hs : 0 ≤ s ∧ s < c r_x_sectionCount 0 0 0
  · rw [if_pos hs, if_pos hs, e_b_ok]
    simp (decide := true) only [zb_n, zb_d, ↓reduceIte, Int.reduceEq]
    have hR1 : zR c (e_upd m r_m_thrown 0 0 0 0) := hR.thr
    have h1 : zGr c (e_upd m r_m_thrown 0 0 0 0) := h.thr
    obtain ⟨g1, g2, g3, g4, g5, g6, g7, g8, g9, g10⟩ := id h1
    obtain ⟨⟨n0, n1, n2⟩, -⟩ := id g7
    obtain ⟨n, S, M, e1, e2, k0, k1, fr, fm, hO, hl⟩ := q_unset1 hR1 g7 g1 g5 (s := s) (c r_x_filmCount 0 0 0).toNat 0 0 c (e_upd m r_m_thrown 0 0 0 0) (Int.le_refl _) (by omega) (Int.le_refl _) (Int.le_refl _) (fun _ _ => rfl) (fun _ _ => rfl) ⟨fun i a b => by omega, fun i j a b d => by omega, fun f a b => by omega⟩ (fun f a b => by omega)
    show zBo zGr (e_try (e_bind (g_x_orderUnsetByMinutes ((1000, [s]), c)) _) _ _) _
    rw [g_x_orderUnsetByMinutes_0, e1, e_bnd, e2]
    have fF : M r_m_films 0 0 0 = c r_x_filmCount 0 0 0 := by rw [fm _ (by decide)]; exact hR1.1.2.2
    have fN : M r_m_shows 0 0 0 = c r_Grid_showCount 0 0 0 := by rw [fm _ (by decide)]; exact n2
    have fS : S r_Grid_showCount = c r_Grid_showCount := fr _ (by decide)
    have hw : e_wr (c r_Grid_showCount 0 0 0 + n) = c r_Grid_showCount 0 0 0 + n := e_wr_id (by omega) (by omega)
    have eM := g_m_plan_19 (x1 := s) (x2 := n) (x3 := c r_x_filmCount 0 0 0) (S := M)
    rw [zb_d, if_pos (by omega)] at eM
    rw [eM, fN, fS, hw, zb_d]
    have kG : zGr S M := h1.fr (fun r hr => fr r (by
      cases e : [r_x_order, r_x_weights].contains r with
      | false => rfl
      | true =>
        rw [List.contains_iff_mem] at e
        have := List.contains_iff_mem.mpr (show r ∈ zscC by
          simp only [List.mem_cons, List.not_mem_nil, or_false] at e
          rcases e with rfl | rfl <;> decide)
        rw [hr] at this
        cases this)) (fun r hr => fm r (by
      cases e : r == r_m_areLeft with
      | false => rfl
      | true =>
        rw [beq_iff_eq] at e
        rw [e] at hr
        exact absurd hr (by decide)))
    by_cases q : c r_Grid_showCount 0 0 0 + n ≤ 60
    · rw [if_pos q, if_pos q]
      have eO : S r_x_filmCount = c r_x_filmCount := fr _ (by decide)
      have eX : S r_Film_minutes = c r_Film_minutes := fr _ (by decide)
      have eY : S r_Film_section = c r_Film_section := fr _ (by decide)
      obtain ⟨v, C2, M2, x1, x2, x3, x4⟩ := q_plan1 (c1 := S) (o := fun i => S r_x_order 0 0 i) (w := fun i => S r_x_weights 0 0 i) (p := zun c s) (n := n) (by omega) (by rw [eO]; exact a2) (by rw [eO, eX]; exact hO) (fun f hf => by
        unfold zun at hf
        rw [Bool.and_eq_true, decide_eq_true_eq] at hf
        rw [eY, hf.1]
        exact hs.1) n.toNat 0 0 S (e_upd M r_m_thrown 0 0 0 0) (by omega) (Int.le_refl _) (Int.le_refl _) (Int.le_refl _) (by rw [fS]; omega) kG.thr (by rw [e_un (by decide), eO]; exact fF) (fun _ _ => rfl) (fun _ => rfl) (fun f f0 f1 => by
        rw [eO] at f1
        rw [e_un (by decide), hl f f0 f1]
        constructor
        · intro z
          obtain ⟨i, i0, i1, i2⟩ := hO.2.2 f f0 f1 z
          exact ⟨i, i0, i1, i2⟩
        · rintro ⟨i, i0, i1, i2⟩
          have := (hO.1 i i0 i1).2.2.1
          (try dsimp only at i2 this)
          rw [i2] at this
          exact this)
      rw [x1, x2]
      refine ⟨0, _, _, _, rfl, rfl, x3.out, ?_, fun _ => e_us⟩
      rw [x4, e_us]
    · rw [if_neg q, if_neg q]
      exact ⟨2, 0, _, _, rfl, rfl, kG.thr, e_us, fun q => absurd q (by decide)⟩
  · rw [if_neg hs, if_neg hs, e_b_x (by decide) (by decide)]
    simp (decide := true) only [zb_n, zb_d, ↓reduceIte]
    exact ⟨1, 0, _, _, rfl, rfl, h.thr, e_us, fun q => absurd q (by decide)⟩
end
/-! part 71uc11 -/
section
/-! Shows that go: what is found, what is taken, what is set anew, on both sides -/
theorem zcnt_cut {p : Int → Bool} : ∀ (a b : Nat) (k : Int), zcnt p (a + b) k = zcnt p a k + zcnt p b (k + a)
  | a, b, k => by
    rw [zcnt_sum, zcnt_sum, zcnt_sum]
    exact zsum_cut a b k
theorem zcnt_lt {p : Int → Bool} {i k : Int} (i0 : 0 ≤ i) (ik : i < k) (hp : p i = true) : zcnt p i.toNat 0 < zcnt p k.toNat 0 := by
  have e : k.toNat = (i.toNat + 1) + (k.toNat - i.toNat - 1) := by omega
  have e0 : (0 : Int) + (i.toNat : Int) = i := by omega
  have h1 := zcnt_cut (p := p) (i.toNat + 1) (k.toNat - i.toNat - 1) 0
  have h2 := zcnt_app (p := p) i.toNat 0
  have h3 := zcnt_le p (k.toNat - i.toNat - 1) (0 + ((i.toNat + 1 : Nat) : Int))
  rw [e0, hp, if_pos rfl] at h2
  rw [← e] at h1
  omega
def zfdW : List Nat := [r_Grid_found, r_Grid_foundCount]
/-- the found ones in order -/
def zFd (c : ZS) (g : Int → Bool) (N : Int) : Prop := ∀ k, 0 ≤ k → k < N → g k = true → c r_Grid_found 0 0 (zcnt g k.toNat 0) = k
theorem q_find {c : ZS} {g : Int → Bool} {N : Int} (N60 : N ≤ 60) {G : Int → ZS → ZR} (hE : ∀ k S, k = N → (∀ r, zfdW.contains r = false → S r = c r) → G k S = ((0, [S r_Grid_foundCount 0 0 0]), S)) (hG : ∀ k S, 0 ≤ k → k < N → (∀ r, zfdW.contains r = false → S r = c r) → G k S = if g k = true then e_bind (f_Grid_addFound [k] S) (fun _ S1 => G (k + 1) S1) else G (k + 1) S) : ∀ (j : Nat) (k : Int) (S : ZS), 0 ≤ k → k + j = N → (∀ r, zfdW.contains r = false → S r = c r) → S r_Grid_foundCount 0 0 0 = zcnt g k.toNat 0 → zFd S g k → ∃ S', G k S = ((0, [zcnt g N.toNat 0]), S') ∧ (∀ r, zfdW.contains r = false → S' r = c r) ∧ S' r_Grid_foundCount 0 0 0 = zcnt g N.toNat 0 ∧ zFd S' g N := by
  intro j
  induction j with
  | zero =>
    intro k S k0 k1 fr hc hf
    have e : k = N := by omega
    subst e
    exact ⟨S, by rw [hE k S rfl fr, hc], fr, hc, hf⟩
  | succ j ih =>
    intro k S k0 k1 fr hc hf
    have ek : (k + 1).toNat = k.toNat + 1 := by omega
    have e0 : (0 : Int) + (k.toNat : Int) = k := by omega
    have hcnt := zcnt_app (p := g) k.toNat 0
    rw [e0, ← ek] at hcnt
    have hle := zcnt_le g k.toNat 0
    rw [hG k S k0 (by omega) fr]
    by_cases q : g k = true
    · rw [q, if_pos rfl] at hcnt
      have hw : e_wr (zcnt g k.toNat 0 + 1) = zcnt g k.toNat 0 + 1 := e_wr_id (by omega) (by omega)
      have ea : f_Grid_addFound [k] S = ((0, []), e_upd (e_upd S r_Grid_found 0 0 (zcnt g k.toNat 0) k) r_Grid_foundCount 0 0 0 (zcnt g k.toNat 0 + 1)) := by
        unfold f_Grid_addFound
        dsimp only
        rw [hc, zb_d, if_neg (by omega), hw]
      rw [if_pos q, ea, e_bnd0]
      refine ih (k + 1) _ (by omega) (by omega) (fun r hr => ?_) ?_ (fun i i0 i1 hi => ?_)
      · rw [← fr r hr]
        funext a b d
        have h1 : (r == r_Grid_found) = false := by
          cases e : r == r_Grid_found with
          | false => rfl
          | true => rw [beq_iff_eq] at e; rw [e] at hr; exact absurd hr (by decide)
        have h2 : (r == r_Grid_foundCount) = false := by
          cases e : r == r_Grid_foundCount with
          | false => rfl
          | true => rw [beq_iff_eq] at e; rw [e] at hr; exact absurd hr (by decide)
        rw [e_un h2, e_un h1]
      · rw [e_us, hcnt]
      · rw [e_un (by decide), e_ur]
        by_cases e : i = k
        · rw [e, if_pos ⟨rfl, rfl, rfl⟩]
        · have := zcnt_lt i0 (show i < k by omega) hi
          rw [if_neg (fun z => by omega)]
          exact hf i i0 (by omega) hi
    · rw [if_neg q] at hcnt ⊢
      refine ih (k + 1) S (by omega) (by omega) fr (by rw [hcnt, hc, Int.add_zero]) (fun i i0 i1 hi => ?_)
      by_cases e : i = k
      · rw [e] at hi
        exact absurd hi q
      · exact hf i i0 (by omega) hi
/-- one round of what is taken: the cause is told, on both sides -/
def zTk (cz : Int) (g : Int → Bool) (k : Int) (c m C M : ZS) : Prop := (∀ r, ([r_Show_cause] ++ zArC).contains r = false → C r = c r) ∧ (∀ r, ([r_m_gone] ++ zArM).contains r = false → M r = m r) ∧ (∀ i, C r_Show_cause i 0 0 = if 0 ≤ i ∧ i < k ∧ g i = true then cz else c r_Show_cause i 0 0) ∧ (∀ i, M r_m_gone 0 0 i = if 0 ≤ i ∧ i < k ∧ g i = true then cz else m r_m_gone 0 0 i) ∧ zAr C M
theorem zTk.skip {cz k : Int} {g : Int → Bool} {c m C M : ZS} (h : zTk cz g k c m C M) (hk : g k = false) : zTk cz g (k + 1) c m C M := by
  obtain ⟨h1, h2, h3, h4, h5⟩ := h
  have e : ∀ i, (0 ≤ i ∧ i < k + 1 ∧ g i = true) ↔ (0 ≤ i ∧ i < k ∧ g i = true) := fun i => by
    constructor
    · rintro ⟨a, b, d⟩
      refine ⟨a, ?_, d⟩
      by_cases e : i = k
      · rw [e, hk] at d
        cases d
      · omega
    · rintro ⟨a, b, d⟩
      exact ⟨a, by omega, d⟩
  refine ⟨h1, h2, fun i => ?_, fun i => ?_, h5⟩
  · rw [h3]
    simp only [e]
  · rw [h4]
    simp only [e]
theorem zcA_r {l f : Int} {c : ZS} {X : List Nat} {r : Nat} (hr : (X ++ zArC).contains r = false) : (zcA l f c) r = c r := zcA_o (by
  cases e : zArC.contains r with
  | false => rfl
  | true =>
    rw [List.contains_iff_mem] at e
    have := List.contains_iff_mem.mpr (List.mem_append_right X e)
    rw [hr] at this
    cases this)
theorem zmA_r {l f : Int} {m : ZS} {X : List Nat} {r : Nat} (hr : (X ++ zArM).contains r = false) : (zmA l f m) r = m r := zmA_o (by
  cases e : zArM.contains r with
  | false => rfl
  | true =>
    rw [List.contains_iff_mem] at e
    have := List.contains_iff_mem.mpr (List.mem_append_right X e)
    rw [hr] at this
    cases this)
theorem z_ne1 {X : List Nat} {q r : Nat} (hr : ([q] ++ X).contains r = false) : (r == q) = false := by
  cases e : r == q with
  | false => rfl
  | true =>
    rw [beq_iff_eq] at e
    rw [e] at hr
    have := List.contains_iff_mem.mpr (List.mem_append_left X (List.mem_singleton.mpr (rfl : q = q)))
    rw [hr] at this
    cases this
theorem zTk.take {cz k l f : Int} {g : Int → Bool} {c m C M : ZS} (h : zTk cz g k c m C M) (k0 : 0 ≤ k) (hk : g k = true) : zTk cz g (k + 1) c m (zcA l f (e_upd C r_Show_cause k 0 0 cz)) (zmA l f (e_upd M r_m_gone 0 0 k cz)) := by
  obtain ⟨h1, h2, h3, h4, h5⟩ := h
  refine ⟨fun r hr => ?_, fun r hr => ?_, fun i => ?_, fun i => ?_, zAr.add (zAr_rel.uc (zAr_rel.um h5 (by decide)) (by decide))⟩
  · rw [zcA_r hr, ← h1 r hr]
    funext a b d
    exact e_un (z_ne1 hr)
  · rw [zmA_r hr, ← h2 r hr]
    funext a b d
    exact e_un (z_ne1 hr)
  · rw [zcA_o (by decide), e_ur, h3]
    by_cases e : i = k
    · rw [if_pos ⟨e, rfl, rfl⟩, if_pos ⟨by omega, by omega, e ▸ hk⟩]
    · rw [if_neg (fun z => e z.1)]
      by_cases w : 0 ≤ i ∧ i < k ∧ g i = true
      · rw [if_pos w, if_pos ⟨w.1, by omega, w.2.2⟩]
      · rw [if_neg w, if_neg (fun z => w ⟨z.1, by omega, z.2.2⟩)]
  · rw [zmA_o (by decide), e_ur, h4]
    by_cases e : i = k
    · rw [if_pos ⟨rfl, rfl, e⟩, if_pos ⟨by omega, by omega, e ▸ hk⟩]
    · rw [if_neg (fun z => e z.2.2)]
      by_cases w : 0 ≤ i ∧ i < k ∧ g i = true
      · rw [if_pos w, if_pos ⟨w.1, by omega, w.2.2⟩]
      · rw [if_neg w, if_neg (fun z => w ⟨z.1, by omega, z.2.2⟩)]
/-- behind all of it the grid's relations hold -/
theorem zTk.gr {cz : Int} {g : Int → Bool} {c m C M : ZS} (hc : cz = 115 ∨ cz = 108 ∨ cz = 119) (h : zTk cz g (c r_Grid_showCount 0 0 0) c m C M) (hg : zGr c m) : zGr C M := by
  obtain ⟨h1, h2, h3, h4, h5⟩ := h
  have k : ∀ {R : ZS → ZS → Prop} {KC KM : List Nat}, zRel R KC KM → z_nin KC ([r_Show_cause] ++ zArC) = true → z_nin KM ([r_m_gone] ++ zArM) = true → R c m → R C M := fun hr hq hq' h => hr h (fun r hr' => h1 r (z_nin_ok hq hr')) (fun r hr' => h2 r (z_nin_ok hq' hr'))
  obtain ⟨g1, g2, g3, g4, g5, g6, g7, g8, g9, g10⟩ := hg
  refine ⟨k zFs_rel (by decide) (by decide) g1, k zVe_rel (by decide) (by decide) g2, k zPk_rel (by decide) (by decide) g3, k zPh_rel (by decide) (by decide) g4, k zHr_rel (by decide) (by decide) g5, k zSt_rel (by decide) (by decide) g6, ?_, ?_, k zQu_rel (by decide) (by decide) g9, h5⟩
  · obtain ⟨s1, s2, s3⟩ := g7
    unfold zSw
    rw [h1 r_Grid_showCount (by decide), h1 r_Show_film (by decide), h1 r_Show_screen (by decide), h1 r_Show_first (by decide), h1 r_Show_length (by decide), h1 r_x_filmCount (by decide), h1 r_Film_minutes (by decide), h2 r_m_shows (by decide), h2 r_m_showFilms (by decide), h2 r_m_showScreens (by decide), h2 r_m_showHours (by decide)]
    refine ⟨s1, s2, fun i i0 i1 => ?_⟩
    obtain ⟨a, b⟩ := s3 i i0 i1
    rw [h3, h4]
    by_cases w : 0 ≤ i ∧ i < c r_Grid_showCount 0 0 0 ∧ g i = true
    · rw [if_pos w, if_pos w]
      exact ⟨Or.inr ⟨hc, rfl⟩, fun z => by omega⟩
    · rw [if_neg w, if_neg w]
      exact ⟨a, b⟩
  · obtain ⟨tA, tB, tC⟩ := g8
    unfold zTo
    rw [h1 r_Grid_showCount (by decide), h1 r_Show_film (by decide), h1 r_Show_first (by decide), h1 r_Grid_hour (by decide), h1 r_Film_section (by decide), h1 r_Film_isWithdrawn (by decide), h1 r_Show_length (by decide), h1 r_Show_screen (by decide)]
    have hca : ∀ i, C r_Show_cause i 0 0 = 45 → c r_Show_cause i 0 0 = 45 := fun i z => by
      rw [h3] at z
      by_cases w : 0 ≤ i ∧ i < c r_Grid_showCount 0 0 0 ∧ g i = true
      · rw [if_pos w] at z
        omega
      · rw [if_neg w] at z
        exact z
    exact ⟨fun i i0 i1 z1 z2 => tA i i0 i1 (hca i z1) z2, tB, fun i j i0 ij j1 z1 z2 => tC i j i0 ij j1 (hca i z1) (hca j z2)⟩
end
/-! part 71uc12 -/
section
/-! Shows that go: taken and set anew, both sides -/
theorem q_take {c m : ZS} {g : Int → Bool} {N cz q : Int} (z0 : 0 ≤ cz) (z1 : cz ≤ 65535) (N60 : N ≤ 60) (hfd : zFd c g N) (hcnt : c r_Grid_foundCount 0 0 0 = zcnt g N.toNat 0) (hnew : ∀ k, 0 ≤ k → k < N → m r_new q 0 k = zb (g k)) (hfl : ∀ k, 0 ≤ k → k < N → m r_m_showFilms 0 0 k = c r_Show_film k 0 0) : ∀ (t : Nat) (k : Int) (C M : ZS), 0 ≤ k → k + t = N → zTk cz g k c m C M → ∃ C' M', g_Grid_takeFound ((1002, [cz, zcnt g k.toNat 0]), C) = ((0, []), C') ∧ g_m_takes ((1047, [cz, N, zcnt g k.toNat 0, q, k]), M) = g_m_takes ((1095, [N, zcnt g N.toNat 0, q, 0]), M') ∧ zTk cz g N c m C' M' := by
  intro t
  induction t with
  | zero =>
    intro k C M k0 k1 h
    have e : k = N := by omega
    subst e
    have e1 : C r_Grid_foundCount = c r_Grid_foundCount := h.1 _ (by decide)
    refine ⟨C, M, ?_, ?_, h⟩
    · rw [g_Grid_takeFound_2, zb_d, e1, hcnt, if_pos (Int.le_refl _)]
    · rw [g_m_takes_47, zb_d, if_pos (Int.le_refl _)]
  | succ t ih =>
    intro k C M k0 k1 h
    have e1 : C r_Grid_foundCount = c r_Grid_foundCount := h.1 _ (by decide)
    have e2 : C r_Grid_found = c r_Grid_found := h.1 _ (by decide)
    have e3 : M r_new = m r_new := h.2.1 _ (by decide)
    have ek : (k + 1).toNat = k.toNat + 1 := by omega
    have e0 : (0 : Int) + (k.toNat : Int) = k := by omega
    have hk : e_wr (k + 1) = k + 1 := e_wr_id (by omega) (by omega)
    have hle := zcnt_le g k.toNat 0
    have happ := zcnt_app (p := g) k.toNat 0
    rw [e0, ← ek] at happ
    have eM := g_m_takes_47 (x1 := cz) (x2 := N) (x3 := zcnt g k.toNat 0) (x4 := q) (x5 := k) (S := M)
    rw [zb_d, if_neg (by omega), zb_d, e3, hnew k k0 (by omega), hk] at eM
    by_cases w : g k = true
    · rw [w, if_pos rfl] at happ
      have hlt := zcnt_lt k0 (show k < N by omega) w
      have hw : e_wr (zcnt g k.toNat 0 + 1) = zcnt g k.toNat 0 + 1 := e_wr_id (by omega) (by omega)
      rw [w, if_neg (by decide), h.2.1 r_m_showFilms (by decide), hfl k k0 (by omega), q_zmA, e_bnd0, hw, e_nc z0 z1, ← happ] at eM
      have eC := g_Grid_takeFound_2 (x1 := cz) (x2 := zcnt g k.toNat 0) (S := C)
      rw [zb_d, e1, hcnt, if_neg (by omega), e2, hfd k k0 (by omega) w, h.1 r_Show_film (by decide), q_zcA, e_bnd0, hw, ← happ] at eC
      rw [eC, eM]
      exact ih (k + 1) _ _ (by omega) (by omega) (h.take k0 w)
    · have w' : g k = false := by simpa using w
      rw [w', if_neg (by decide), Int.add_zero] at happ
      rw [w', if_pos (by decide)] at eM
      rw [eM, ← happ]
      exact ih (k + 1) C M (by omega) (by omega) (h.skip w')
/-- the passes that waited are put before the new show -/
def zCo (k v x : Int) (c S : ZS) : Prop := (∀ r, [r_Show_waiting, r_Show_queue].contains r = false → S r = c r) ∧ (∀ i, S r_Show_waiting i 0 0 = if i = v then x else c r_Show_waiting i 0 0) ∧ ∀ i y, S r_Show_queue i 0 y = if i = v ∧ 0 ≤ y ∧ y < x then c r_Show_queue k 0 y else c r_Show_queue i 0 y
theorem q_copy {c : ZS} {k v j W : Int} (kv : k ≠ v) (W16 : W ≤ 16) (hW : c r_Show_waiting k 0 0 = W) (j0 : 0 ≤ j) (j1 : j < 1000) : ∀ (t : Nat) (x : Int) (S : ZS), 0 ≤ x → x + t = W → zCo k v x c S → ∃ S', g_Grid_setFoundAnew ((1039, [j, k, v, x]), S) = g_Grid_setFoundAnew ((1002, [j + 1]), S') ∧ zCo k v W c S' := by
  intro t
  induction t with
  | zero =>
    intro x S x0 x1 h
    have e : x = W := by omega
    subst e
    have hj : e_wr (j + 1) = j + 1 := e_wr_id (by omega) (by omega)
    exact ⟨S, by rw [g_Grid_setFoundAnew_39, zb_d, h.2.1, if_neg kv, hW, if_pos (Int.le_refl _), hj], h⟩
  | succ t ih =>
    intro x S x0 x1 h
    have hx : e_wr (x + 1) = x + 1 := e_wr_id (by omega) (by omega)
    have ea : f_Show_addWaiting [v, c r_Show_queue k 0 x] S = ((0, []), e_upd (e_upd S r_Show_queue v 0 x (c r_Show_queue k 0 x)) r_Show_waiting v 0 0 (x + 1)) := by
      unfold f_Show_addWaiting
      dsimp only
      rw [h.2.1 v, if_pos rfl, zb_d, if_neg (by omega), hx]
    have eC := g_Grid_setFoundAnew_39 (x1 := j) (x2 := k) (x3 := v) (x4 := x) (S := S)
    rw [zb_d, h.2.1 k, if_neg kv, hW, if_neg (by omega), h.2.2 k x, if_neg (fun z => kv z.1), ea, e_bnd0, hx] at eC
    rw [eC]
    refine ih (x + 1) _ (by omega) (by omega) ⟨fun r hr => ?_, fun i => ?_, fun i y => ?_⟩
    · rw [← h.1 r hr]
      funext a b d
      have h1 : (r == r_Show_waiting) = false := by
        cases e : r == r_Show_waiting with
        | false => rfl
        | true => rw [beq_iff_eq] at e; rw [e] at hr; exact absurd hr (by decide)
      have h2 : (r == r_Show_queue) = false := by
        cases e : r == r_Show_queue with
        | false => rfl
        | true => rw [beq_iff_eq] at e; rw [e] at hr; exact absurd hr (by decide)
      rw [e_un h1, e_un h2]
    · rw [e_ur]
      by_cases e : i = v
      · rw [if_pos ⟨e, rfl, rfl⟩, if_pos e]
      · rw [if_neg (fun z => e z.1), if_neg e, e_un (by decide), h.2.1, if_neg e]
    · rw [e_un (by decide), e_ur, h.2.2]
      by_cases e : i = v ∧ 0 ≤ y ∧ y < x + 1
      · rw [if_pos e]
        by_cases e2 : y = x
        · rw [if_pos ⟨e.1, rfl, e2⟩, e2]
        · rw [if_neg (fun z => e2 z.2.2), if_pos ⟨e.1, e.2.1, by omega⟩]
      · rw [if_neg e, if_neg (fun z => e ⟨z.1, by omega, by omega⟩), if_neg (fun z => e ⟨z.1, z.2.1, by omega⟩)]
/-- the grid's relations behind the copy of a queue -/
theorem zCo.gr {k v W : Int} {c m S : ZS} (h : zCo k v W c S) (hg : zGr c m) (k0 : 0 ≤ k) (k1 : k < 60) (v0 : 0 ≤ v) (vn : v < c r_Grid_showCount 0 0 0) (kv : k ≠ v) (hW : c r_Show_waiting k 0 0 = W) : zGr S (e_upd (e_acp m r_m_waits_r k 0 0 r_m_waits_r v 0 0 16) r_m_waitMany 0 0 v (m r_m_waitMany 0 0 k)) := by
  obtain ⟨h1, h2, h3⟩ := h
  have kR : ∀ {R : ZS → ZS → Prop} {KC KM : List Nat}, zRel R KC KM → z_nin KC [r_Show_waiting, r_Show_queue] = true → z_nin KM [r_m_waits_r, r_m_waitMany] = true → R c m → R S (e_upd (e_acp m r_m_waits_r k 0 0 r_m_waits_r v 0 0 16) r_m_waitMany 0 0 v (m r_m_waitMany 0 0 k)) := fun hr hq hq' h => hr h (fun r hr' => h1 r (z_nin_ok hq hr')) (fun r hr' => by
    have hz := z_nin_ok hq' hr'
    funext a b d
    have x1 : (r == r_m_waits_r) = false := by
      cases e : r == r_m_waits_r with
      | false => rfl
      | true => rw [beq_iff_eq] at e; rw [e] at hz; exact absurd hz (by decide)
    have x2 : (r == r_m_waitMany) = false := by
      cases e : r == r_m_waitMany with
      | false => rfl
      | true => rw [beq_iff_eq] at e; rw [e] at hz; exact absurd hz (by decide)
    rw [e_un x2, e_an x1])
  obtain ⟨g1, g2, g3, g4, g5, g6, g7, g8, g9, g10⟩ := hg
  refine ⟨kR zFs_rel (by decide) (by decide) g1, kR zVe_rel (by decide) (by decide) g2, kR zPk_rel (by decide) (by decide) g3, kR zPh_rel (by decide) (by decide) g4, kR zHr_rel (by decide) (by decide) g5, kR zSt_rel (by decide) (by decide) g6, kR zSw_rel (by decide) (by decide) g7, kR zTo_rel (by decide) (by decide) g8, ?_, kR zAr_rel (by decide) (by decide) g10⟩
  intro i i0 i1
  obtain ⟨a, ⟨b1, b2, b3⟩, d, e, w⟩ := g9 i i0 i1
  obtain ⟨-, ⟨kb1, kb2, kb3⟩, kd, ke, -⟩ := g9 k k0 k1
  have q1 : S r_Show_isOpened = c r_Show_isOpened := h1 _ (by decide)
  have q2 : S r_Grid_showCount = c r_Grid_showCount := h1 _ (by decide)
  rw [q1, q2, h2, e_un (by decide), e_an (by decide), e_ur]
  by_cases q : i = v
  · rw [if_pos q, if_pos ⟨rfl, rfl, q⟩]
    refine ⟨a, ⟨by omega, by omega, by omega⟩, fun y y0 y1 => ?_, fun y z y0 yz z1 => ?_, fun z => by omega⟩
    · rw [e_un (by decide), q, e_as, if_pos (by omega), h3, if_pos ⟨rfl, y0, y1⟩, show y - 0 + 0 = y by omega]
      exact kd y y0 (by omega)
    · rw [q, h3, h3, if_pos ⟨rfl, y0, by omega⟩, if_pos ⟨rfl, by omega, z1⟩]
      exact ke y z y0 yz (by omega)
  · rw [if_neg q, if_neg (fun z => q z.2.2)]
    refine ⟨a, ⟨b1, b2, b3⟩, fun y y0 y1 => ?_, fun y z y0 yz z1 => ?_, w⟩
    · rw [e_un (by decide), h3, if_neg (fun z => q z.1)]
      have : e_acp m r_m_waits_r k 0 0 r_m_waits_r v 0 0 16 r_m_waits_r i 0 y = m r_m_waits_r i 0 y := if_neg (fun z => q z.2.1)
      rw [this]
      exact d y y0 y1
    · rw [h3, h3, if_neg (fun z => q z.1), if_neg (fun z => q z.1)]
      exact e y z y0 yz z1
theorem q_anew {c m : ZS} {g : Int → Bool} {N q w : Int} (N0 : 0 ≤ N) (N60 : N ≤ 60) (F20 : c r_x_filmCount 0 0 0 ≤ 20) (hfd : zFd c g N) (hcnt : c r_Grid_foundCount 0 0 0 = zcnt g N.toNat 0) (hnew : ∀ k, 0 ≤ k → k < N → m r_new q 0 k = zb (g k)) (hsec : ∀ k, 0 ≤ k → k < N → g k = true → 0 ≤ c r_Film_section (c r_Show_film k 0 0) 0 0 ∧ 0 ≤ c r_Show_film k 0 0 ∧ c r_Show_film k 0 0 < c r_x_filmCount 0 0 0) : ∀ (t : Nat) (k : Int) (C M : ZS), 0 ≤ k → k + t = N → zGr C M → (∀ r, [r_Grid_found, r_Grid_foundCount, r_Film_section, r_x_filmCount].contains r = true → C r = c r) → (∀ i, 0 ≤ i → i < N → C r_Show_film i 0 0 = c r_Show_film i 0 0) → N ≤ C r_Grid_showCount 0 0 0 → C r_Grid_showCount 0 0 0 + (zcnt g N.toNat 0 - zcnt g k.toNat 0) ≤ 60 → (∀ r, [r_new, r_m_thrown].contains r = true → M r = m r) → ∃ C' M', g_Grid_setFoundAnew ((1002, [zcnt g k.toNat 0]), C) = ((0, []), C') ∧ g_m_takes ((1095, [N, w, q, k]), M) = ((0, [w]), M') ∧ zGr C' M' ∧ M' r_m_thrown = m r_m_thrown := by
  intro t
  induction t with
  | zero =>
    intro k C M k0 k1 hg fr ff hN hS fm
    have e : k = N := by omega
    subst e
    refine ⟨C, M, ?_, ?_, hg, fm _ (by decide)⟩
    · rw [g_Grid_setFoundAnew_2, zb_d, fr r_Grid_foundCount (by decide), hcnt, if_pos (Int.le_refl _)]
    · rw [g_m_takes_95, zb_d, if_pos (Int.le_refl _)]
  | succ t ih =>
    intro k C M k0 k1 hg fr ff hN hS fm
    have e1 : C r_Grid_foundCount = c r_Grid_foundCount := fr _ (by decide)
    have e2 : C r_Grid_found = c r_Grid_found := fr _ (by decide)
    have e3 : M r_new = m r_new := fm _ (by decide)
    have e4 : C r_Film_section = c r_Film_section := fr _ (by decide)
    have e5 : C r_x_filmCount = c r_x_filmCount := fr _ (by decide)
    have ek : (k + 1).toNat = k.toNat + 1 := by omega
    have e0 : (0 : Int) + (k.toNat : Int) = k := by omega
    have hk : e_wr (k + 1) = k + 1 := e_wr_id (by omega) (by omega)
    have hle := zcnt_le g k.toNat 0
    have happ := zcnt_app (p := g) k.toNat 0
    rw [e0, ← ek] at happ
    have eM := g_m_takes_95 (x1 := N) (x2 := w) (x3 := q) (x4 := k) (S := M)
    rw [zb_d, if_neg (by omega), zb_d, e3, hnew k k0 (by omega), hk] at eM
    by_cases z : g k = true
    · rw [z, if_pos rfl] at happ
      have hlt := zcnt_lt k0 (show k < N by omega) z
      have hw : e_wr (zcnt g k.toNat 0 + 1) = zcnt g k.toNat 0 + 1 := e_wr_id (by omega) (by omega)
      obtain ⟨s1, s2, s3⟩ := hsec k k0 (by omega) z
      have m1 := (hg.2.2.2.2.2.2.1.row hg.1 k0 (show k < C r_Grid_showCount 0 0 0 by omega)).1
      have fk := ff k k0 (by omega)
      rw [z, if_neg (by decide), m1, fk] at eM
      have eC := g_Grid_setFoundAnew_2 (x1 := zcnt g k.toNat 0) (S := C)
      rw [zb_d, e1, hcnt, if_neg (by omega), e2, hfd k k0 (by omega) z, fk, hw] at eC
      have hlt60 : C r_Grid_showCount 0 0 0 < 60 := by omega
      obtain ⟨v, C1, M1, p1, p2, g1, f1, f2, f3, p3⟩ := (q_place hg hlt60 s2 (by rw [e5]; exact s3) (by omega) (by rw [e4]; exact s1)).ok hg hlt60 s2 (by rw [e5]; exact s3) (by rw [e4]; exact s1)
      rw [p1, e_bnd, zb_d] at eC
      rw [p2, e_bnd, zb_d] at eM
      rw [eC, eM]
      rcases p3 with ⟨rfl, rfl, rfl⟩ | ⟨p4, p5⟩
      · rw [if_pos rfl, if_pos (by decide), ← happ]
        exact ih (k + 1) C1 M1 (by omega) (by omega) g1 fr ff hN (by omega) fm
      · rw [if_neg (by omega), if_neg (by omega), p4]
        have kv : k ≠ C r_Grid_showCount 0 0 0 := by omega
        have q9 := (g1.2.2.2.2.2.2.2.2.1) k k0 (by omega)
        have q10 := hg.2.2.2.2.2.2.2.2.1 (C r_Grid_showCount 0 0 0) (by omega) hlt60
        have w0 : C1 r_Show_waiting = C r_Show_waiting := f1 _ (by decide)
        obtain ⟨S2, c1, c2⟩ := q_copy (c := C1) (k := k) (v := C r_Grid_showCount 0 0 0) (j := zcnt g k.toNat 0) (W := C1 r_Show_waiting k 0 0) kv q9.2.1.2.1 rfl (by omega) (by omega) (C1 r_Show_waiting k 0 0).toNat 0 C1 (Int.le_refl _) (by have := q9.2.1.1; omega) ⟨fun _ _ => rfl, fun i => by
          by_cases e : i = C r_Grid_showCount 0 0 0
          · rw [if_pos e, e, w0]
            exact (q10.2.2.2.2 (Int.le_refl _)).1
          · rw [if_neg e], fun i y => by rw [if_neg (fun z => by omega)]⟩
        rw [c1, ← happ]
        have g2 := c2.gr g1 k0 (by omega) (by omega) (by rw [p5]; omega) kv rfl
        have hwm : (e_acp M1 r_m_waits_r k 0 0 r_m_waits_r (C r_Grid_showCount 0 0 0) 0 0 16) r_m_waitMany 0 0 k = M1 r_m_waitMany 0 0 k := e_an (by decide)
        rw [hwm]
        refine ih (k + 1) S2 _ (by omega) (by omega) g2 (fun r hr => ?_) (fun i i0 i1 => ?_) ?_ ?_ (fun r hr => ?_)
        · have hr1 : [r_Show_waiting, r_Show_queue].contains r = false := by
            rw [List.contains_iff_mem] at hr
            simp only [List.mem_cons, List.not_mem_nil, or_false] at hr
            rcases hr with rfl | rfl | rfl | rfl <;> decide
          have hr2 : zsW.contains r = false := by
            rw [List.contains_iff_mem] at hr
            simp only [List.mem_cons, List.not_mem_nil, or_false] at hr
            rcases hr with rfl | rfl | rfl | rfl <;> decide
          rw [c2.1 r hr1, f1 r hr2]
          exact fr r hr
        · rw [c2.1 r_Show_film (by decide), f3 i (by omega)]
          exact ff i i0 i1
        · rw [c2.1 r_Grid_showCount (by decide), p5]
          omega
        · rw [c2.1 r_Grid_showCount (by decide), p5]
          omega
        · have hr1 : (r == r_m_waitMany) = false := by
            rw [List.contains_iff_mem] at hr
            simp only [List.mem_cons, List.not_mem_nil, or_false] at hr
            rcases hr with rfl | rfl <;> decide
          have hr2 : (r == r_m_waits_r) = false := by
            rw [List.contains_iff_mem] at hr
            simp only [List.mem_cons, List.not_mem_nil, or_false] at hr
            rcases hr with rfl | rfl <;> decide
          have hr3 : zsX.contains r = false := by
            rw [List.contains_iff_mem] at hr
            simp only [List.mem_cons, List.not_mem_nil, or_false] at hr
            rcases hr with rfl | rfl <;> decide
          rw [← fm r hr, ← f2 r hr3]
          funext a b d
          rw [e_un hr1, e_an hr2]
    · have z' : g k = false := by simpa using z
      rw [z', if_neg (by decide), Int.add_zero] at happ
      rw [z', if_pos (by decide)] at eM
      rw [eM, ← happ]
      exact ih (k + 1) C M (by omega) (by omega) hg fr ff hN (by omega) fm
def zgoM : List Nat := [r_new, z_rA]
/-- the model's array of what goes -/
theorem q_goes {m : ZS} {g : Int → Bool} {N cz d f q : Int} (N60 : N ≤ 60) (hgo : ∀ k M, 0 ≤ k → k < N → (∀ r, zgoM.contains r = false → M r = m r) → f_m_goesBy [k, d, f] M = ((0, [zb (g k)]), M)) : ∀ (t : Nat) (k : Int) (M : ZS), 0 ≤ k → k + t = N → (∀ r, zgoM.contains r = false → M r = m r) → (∀ i, 0 ≤ i → i < k → M r_new q 0 i = zb (g i)) → ∃ M', g_m_takes ((1018, [cz, d, f, N, 0, q, k]), M) = g_m_takes ((1047, [cz, N, 0, q, 0]), M') ∧ (∀ r, zgoM.contains r = false → M' r = m r) ∧ ∀ i, 0 ≤ i → i < N → M' r_new q 0 i = zb (g i) := by
  intro t
  induction t with
  | zero =>
    intro k M k0 k1 fm h
    have e : k = N := by omega
    subst e
    exact ⟨M, by rw [g_m_takes_18, zb_d, if_pos (Int.le_refl _)], fm, h⟩
  | succ t ih =>
    intro k M k0 k1 fm h
    have hk : e_wr (k + 1) = k + 1 := e_wr_id (by omega) (by omega)
    have hn : ∀ b, e_nar 1 (zb b) = zb b := fun b => by cases b <;> decide
    rw [g_m_takes_18, zb_d, if_neg (by omega), hgo k M k0 (by omega) fm, e_bnd, hk, hn]
    refine ih (k + 1) _ (by omega) (by omega) (fun r hr => ?_) (fun i i0 i1 => ?_)
    · rw [← fm r hr]
      funext a b d
      exact e_un (by
        cases e : r == r_new with
        | false => rfl
        | true => rw [beq_iff_eq] at e; rw [e] at hr; exact absurd hr (by decide))
    · rw [e_ur]
      by_cases e : i = k
      · rw [if_pos ⟨rfl, rfl, e⟩, e]
      · rw [if_neg (fun z => e z.2.2)]
        exact h i i0 (by omega)
theorem q_going {m : ZS} {g : Int → Bool} {N d f : Int} (N0 : 0 ≤ N) (N60 : N ≤ 60) (hN : m r_m_shows 0 0 0 = N) (hgo : ∀ k M, 0 ≤ k → k < N → (∀ r, zgoM.contains r = false → M r = m r) → f_m_goesBy [k, d, f] M = ((0, [zb (g k)]), M)) : f_m_going [d, f] m = ((0, [zcnt g N.toNat 0]), m) := by
  show g_m_going ((1000, [d, f]), m) = _
  rw [g_m_going_0]
  refine (zl_cnt (n := N) (p := g) (fin := fun x => ((0, [x]), m)) (G := fun x k => g_m_going ((1005, [d, f, x, k]), m)) (fun x k e => ?_) (fun x k k0 k1 x0 x1 => ?_) N.toNat 0 0 (Int.le_refl _) (by omega) (Int.le_refl _) (Int.le_refl _)).trans ?_
  · rw [g_m_going_5, zb_d, if_pos (by omega)]
  · have hk : e_wr (k + 1) = k + 1 := e_wr_id (by omega) (by omega)
    have hx : e_wr (x + 1) = x + 1 := e_wr_id (by omega) (by omega)
    have hx0 : e_wr (x + 0) = x := by rw [Int.add_zero]; exact e_wr_id (by omega) (by omega)
    rw [g_m_going_5, zb_d, if_neg (by omega), hgo k m k0 k1 (fun _ _ => rfl), e_bnd, zb_d, hk, hx, hx0]
    cases g k <;> rfl
  · rw [Int.zero_add]
/-- all of it: the class's and the model's shows that go -/
theorem q_gone {c m : ZS} {g : Int → Bool} {cz d f : Int} (hc : cz = 115 ∨ cz = 108 ∨ cz = 119) (hF : c r_x_filmCount 0 0 0 ≤ 20) (hg : zGr c m) (hfd : zFd c g (c r_Grid_showCount 0 0 0)) (hcnt : c r_Grid_foundCount 0 0 0 = zcnt g (c r_Grid_showCount 0 0 0).toNat 0) (hsum : c r_Grid_showCount 0 0 0 + zcnt g (c r_Grid_showCount 0 0 0).toNat 0 ≤ 60) (hsec : ∀ k, 0 ≤ k → k < c r_Grid_showCount 0 0 0 → g k = true → 0 ≤ c r_Film_section (c r_Show_film k 0 0) 0 0) (hgo : ∀ k M, 0 ≤ k → k < c r_Grid_showCount 0 0 0 → (∀ r, zgoM.contains r = false → M r = m r) → f_m_goesBy [k, d, f] M = ((0, [zb (g k)]), M)) : ∃ C' M', (∀ v, e_bind (f_Grid_takeFound [cz] c) (fun _ S2 => e_bind (f_Grid_setFoundAnew [] S2) (fun _ S3 => ((0, [v]), S3))) = (((0, [v]) : Nat × List Int), C')) ∧ f_m_takes [cz, d, f] m = ((0, [zcnt g (c r_Grid_showCount 0 0 0).toNat 0]), M') ∧ zGr C' M' ∧ M' r_m_thrown = m r_m_thrown := by
  obtain ⟨⟨n0, n1, n2⟩, sw, -⟩ := id hg.2.2.2.2.2.2.1
  have hm0 : ∀ r, zgoM.contains r = false → (e_upd m z_rA 0 0 0 (m z_rA 0 0 0 + 1)) r = m r := fun r hr => by
    funext a b d
    exact e_un (by
      cases e : r == z_rA with
      | false => rfl
      | true => rw [beq_iff_eq] at e; rw [e] at hr; exact absurd hr (by decide))
  obtain ⟨M1, p1, p2, p3⟩ := q_goes (q := m z_rA 0 0 0) (cz := cz) n1 hgo (c r_Grid_showCount 0 0 0).toNat 0 _ (Int.le_refl _) (by omega) hm0 (fun i a b => by omega)
  have hg1 : zGr c M1 := hg.fr (fun _ _ => rfl) (fun r hr => p2 r (by
    cases e : zgoM.contains r with
    | false => rfl
    | true =>
      rw [List.contains_iff_mem] at e
      have := List.contains_iff_mem.mpr (show r ∈ zscM by
        unfold zgoM at e
        simp only [List.mem_cons, List.not_mem_nil, or_false] at e
        rcases e with rfl | rfl <;> decide)
      rw [hr] at this
      cases this))
  obtain ⟨C2, M2, q1, q2, q3⟩ := q_take (c := c) (m := M1) (g := g) (q := m z_rA 0 0 0) (cz := cz) (by omega) (by omega) n1 hfd hcnt p3 (fun k k0 k1 => by rw [p2 r_m_showFilms (by decide)]; exact (sw k k0 k1).1.1) (c r_Grid_showCount 0 0 0).toNat 0 c M1 (Int.le_refl _) (by omega) ⟨fun _ _ => rfl, fun _ _ => rfl, fun i => by rw [if_neg (fun z => by omega)], fun i => by rw [if_neg (fun z => by omega)], hg1.2.2.2.2.2.2.2.2.2⟩
  have hg2 : zGr C2 M2 := q3.gr hc hg1
  obtain ⟨C3, M3, r1, r2, r3, r4⟩ := q_anew (c := c) (m := M1) (g := g) (q := m z_rA 0 0 0) (w := zcnt g (c r_Grid_showCount 0 0 0).toNat 0) n0 n1 hF hfd hcnt p3 (fun k k0 k1 hk => ⟨hsec k k0 k1 hk, (sw k k0 k1).1.2.1, (sw k k0 k1).1.2.2⟩) (c r_Grid_showCount 0 0 0).toNat 0 C2 M2 (Int.le_refl _) (by omega) hg2 (fun r hr => q3.1 r (by
    rw [List.contains_iff_mem] at hr
    simp only [List.mem_cons, List.not_mem_nil, or_false] at hr
    rcases hr with rfl | rfl | rfl | rfl <;> decide)) (fun i _ _ => by rw [q3.1 r_Show_film (by decide)]) (by rw [q3.1 r_Grid_showCount (by decide)]; omega) (by
    rw [q3.1 r_Grid_showCount (by decide)]
    show _ + (_ - 0) ≤ 60
    omega) (fun r hr => q3.2.1 r (by
    rw [List.contains_iff_mem] at hr
    simp only [List.mem_cons, List.not_mem_nil, or_false] at hr
    rcases hr with rfl | rfl <;> decide))
  refine ⟨C3, M3, fun v => ?_, ?_, r3, r4.trans (p2 _ (by decide))⟩
  · have e1 : f_Grid_takeFound [cz] c = ((0, []), C2) := by
      show g_Grid_takeFound ((1000, [cz]), c) = _
      rw [g_Grid_takeFound_0]
      exact q1
    have e2 : f_Grid_setFoundAnew [] C2 = ((0, []), C3) := by
      show g_Grid_setFoundAnew ((1000, []), C2) = _
      rw [g_Grid_setFoundAnew_0]
      exact r1
    rw [e1, e_bnd0, e2, e_bnd0]
  · show g_m_takes ((1000, [cz, d, f]), m) = _
    rw [g_m_takes_0, n2, p1]
    exact q2.trans r2
end
/-! part 71uc13 -/
section
/-! storm, late, withdraw: both sides -/
theorem zst_cg {c S : ZS} (fr : ∀ r, zfdW.contains r = false → S r = c r) {k : Int} : v_Grid_stateOf k S = v_Grid_stateOf k c := by
  unfold v_Grid_stateOf
  rw [fr r_Show_cause (by decide), fr r_Show_first (by decide), fr r_Show_length (by decide), fr r_Grid_hour (by decide)]
def zgS (c : ZS) (d k : Int) : Bool := decide (v_Grid_stateOf k c = 116 ∧ e_div (c r_Show_first k 0 0) 5 = d)
theorem q_findOnDay {c m : ZS} (h : zSw c m) {d : Int} : ∃ S, f_Grid_findOnDay [d] c = ((0, [zcnt (zgS c d) (c r_Grid_showCount 0 0 0).toNat 0]), S) ∧ (∀ r, zfdW.contains r = false → S r = c r) ∧ S r_Grid_foundCount 0 0 0 = zcnt (zgS c d) (c r_Grid_showCount 0 0 0).toNat 0 ∧ zFd S (zgS c d) (c r_Grid_showCount 0 0 0) := by
  obtain ⟨n0, n1, -⟩ := id h.1
  show ∃ S, g_Grid_findOnDay ((1000, [d]), c) = _ ∧ _
  rw [g_Grid_findOnDay_0]
  refine q_find (c := c) n1 (G := fun k S => g_Grid_findOnDay ((1007, [d, k]), S)) (fun k S e fr => ?_) (fun k S k0 k1 fr => ?_) (c r_Grid_showCount 0 0 0).toNat 0 _ (Int.le_refl _) (by omega) (fun r hr => ?_) e_us (fun k k0 k1 => by omega)
  · have e1 : S r_Grid_showCount = c r_Grid_showCount := fr _ (by decide)
    rw [g_Grid_findOnDay_7, zb_d, e1, if_pos (by omega)]
  · have e1 : S r_Grid_showCount = c r_Grid_showCount := fr _ (by decide)
    have e2 : S r_Show_first = c r_Show_first := fr _ (by decide)
    have hk : e_wr (k + 1) = k + 1 := e_wr_id (by omega) (by omega)
    rw [g_Grid_findOnDay_7, zb_d, e1, if_neg (by omega), zst_cg fr, e2, hk]
    unfold zgS
    simp only [zb_n, decide_eq_true_eq]
    by_cases q1 : v_Grid_stateOf k c = 116
    · by_cases q2 : e_div (c r_Show_first k 0 0) 5 = d
      · rw [if_pos q1, if_pos q2, if_pos ⟨q1, q2⟩]
      · rw [if_pos q1, if_neg q2, if_neg (fun z => q2 z.2)]
    · rw [if_neg q1, if_neg (fun z => q1 z.1)]
  · funext a b e
    exact e_un (by
      cases z : r == r_Grid_foundCount with
      | false => rfl
      | true => rw [beq_iff_eq] at z; rw [z] at hr; exact absurd hr (by decide))
theorem q_goesS {c m : ZS} (h : zSw c m) (hf : zFs c m) (hh : zHr c m) {k d : Int} (k0 : 0 ≤ k) (k1 : k < c r_Grid_showCount 0 0 0) : f_m_goesBy [k, d, -1] m = ((0, [zb (zgS c d k)]), m) := by
  show g_m_goesBy ((1000, [k, d, -1]), m) = _
  rw [g_m_goesBy_0, (q_state h hf hh k0 k1).1, (h.row hf k0 k1).2.2.1, zb_d, zb_d, if_neg (show ¬ (0 : Int) ≤ -1 by decide), zb_n]
  unfold zgS zb
  simp only [decide_eq_true_eq]
  by_cases q1 : v_Grid_stateOf k c = 116
  · by_cases q2 : e_div (c r_Show_first k 0 0) 5 = d
    · rw [if_pos q1, if_pos q2, if_pos ⟨q1, q2⟩]
    · rw [if_pos q1, if_neg q2, if_neg (fun z => q2 z.2)]
  · rw [if_neg q1, if_neg (fun z => q1 z.1)]
def zgL (c : ZS) (f x k : Int) : Bool := decide (c r_Show_film k 0 0 = f ∧ v_Grid_stateOf k c = 116) && !zthr c f (c r_Show_screen k 0 0) (c r_Show_first k 0 0) x
theorem zthr_cg {c S : ZS} (fr : ∀ r, zfdW.contains r = false → S r = c r) {f s x t : Int} : zthr S f s x t = zthr c f s x t := by
  unfold zthr zcan zln
  have e : ∀ y, zky S f s y = zky c f s y := fun y => by
    funext k
    unfold zky
    rw [fr r_Venue_keyFilms (by decide), fr r_Venue_keyScreens (by decide), fr r_Venue_keyFrom (by decide), fr r_Venue_keyTo (by decide)]
  rw [e, e, fr r_Film_kind (by decide), fr r_Venue_hasGear (by decide), fr r_Venue_keyCount (by decide), fr r_Film_minutes (by decide)]
theorem q_findLate {c m : ZS} (h : zSw c m) (hv : zVe c m) {f x : Int} : ∃ S, f_Grid_findWithoutPrint [f, x] c = ((0, [zcnt (zgL c f x) (c r_Grid_showCount 0 0 0).toNat 0]), S) ∧ (∀ r, zfdW.contains r = false → S r = c r) ∧ S r_Grid_foundCount 0 0 0 = zcnt (zgL c f x) (c r_Grid_showCount 0 0 0).toNat 0 ∧ zFd S (zgL c f x) (c r_Grid_showCount 0 0 0) := by
  obtain ⟨n0, n1, -⟩ := id h.1
  show ∃ S, g_Grid_findWithoutPrint ((1000, [f, x]), c) = _ ∧ _
  rw [g_Grid_findWithoutPrint_0]
  refine q_find (c := c) n1 (G := fun k S => g_Grid_findWithoutPrint ((1007, [f, x, k]), S)) (fun k S e fr => ?_) (fun k S k0 k1 fr => ?_) (c r_Grid_showCount 0 0 0).toNat 0 _ (Int.le_refl _) (by omega) (fun r hr => ?_) e_us (fun k k0 k1 => by omega)
  · have e1 : S r_Grid_showCount = c r_Grid_showCount := fr _ (by decide)
    rw [g_Grid_findWithoutPrint_7, zb_d, e1, if_pos (by omega)]
  · have e1 : S r_Grid_showCount = c r_Grid_showCount := fr _ (by decide)
    have e2 : S r_Show_first = c r_Show_first := fr _ (by decide)
    have e3 : S r_Show_film = c r_Show_film := fr _ (by decide)
    have e4 : S r_Show_screen = c r_Show_screen := fr _ (by decide)
    have hk : e_wr (k + 1) = k + 1 := e_wr_id (by omega) (by omega)
    have hvS : zVe S m := zVe_rel hv (fun r hr => fr r (z_nin_ok (by decide : z_nin zVeC zfdW = true) hr)) (fun _ _ => rfl)
    obtain ⟨-, ⟨-, s0, s1⟩, ⟨-, x0, x1⟩, -⟩ := h.2.1 k k0 k1
    have ht : ∀ t, zthr S f (c r_Show_screen k 0 0) (c r_Show_first k 0 0) t = zthr c f (c r_Show_screen k 0 0) (c r_Show_first k 0 0) t := fun t => zthr_cg fr
    rw [g_Grid_findWithoutPrint_7, zb_d, e1, if_neg (by omega), zst_cg fr, e2, e3, e4, hk, q_canRunThrough hvS s0 s1 x0 (by omega), e_bnd, ht]
    unfold zgL
    simp only [zb_n, zb0]
    by_cases q1 : c r_Show_film k 0 0 = f
    · by_cases q2 : v_Grid_stateOf k c = 116
      · rw [if_pos q1, if_pos q2, decide_eq_true (And.intro q1 q2), Bool.true_and]
        cases zthr c f (c r_Show_screen k 0 0) (c r_Show_first k 0 0) x <;> rfl
      · rw [if_pos q1, if_neg q2, decide_eq_false (fun z => q2 z.2), Bool.false_and, if_neg (by decide)]
    · rw [if_neg q1, decide_eq_false (fun z => q1 z.1), Bool.false_and, if_neg (by decide)]
  · funext a b e
    exact e_un (by
      cases z : r == r_Grid_foundCount with
      | false => rfl
      | true => rw [beq_iff_eq] at z; rw [z] at hr; exact absurd hr (by decide))
theorem q_goesL {c m : ZS} (h : zSw c m) (hf : zFs c m) (hh : zHr c m) (hv : zVe c m) (hk : zPk c m) {k d f : Int} (f0 : 0 ≤ f) (f1 : f < 20) (k0 : 0 ≤ k) (k1 : k < c r_Grid_showCount 0 0 0) : f_m_goesBy [k, d, f] m = ((0, [zb (zgL c f (m r_m_printHours 0 0 f) k)]), m) := by
  obtain ⟨⟨a1, a2, a3⟩, ⟨-, s0, s1⟩, ⟨-, x0, x1⟩, -⟩ := h.2.1 k k0 k1
  obtain ⟨e1, e2, e3, -, -⟩ := h.row hf k0 k1
  have hl := q_lastOf h hf k0 k1
  have hr := zln_r (c := c) (f := c r_Show_film k 0 0)
  have hx1 : e_wr (c r_Show_first k 0 0 + 1) = c r_Show_first k 0 0 + 1 := e_wr_id (by omega) (by omega)
  have hx2 : e_wr (c r_Show_first k 0 0 + 1 + 1) = c r_Show_first k 0 0 + 1 + 1 := e_wr_id (by omega) (by omega)
  have hb : ∀ b : Bool, e_and 1 (zb b) = zb b := fun b => by cases b <;> decide +kernel
  have hb2 : ∀ a b : Bool, e_and (zb a) (zb b) = zb (a && b) := fun a b => by cases a <;> cases b <;> decide +kernel
  have fin : ∀ (b : Bool) (y : Int), v_m_lastOf k m < y → g_m_goesBy ((1045, [k, f, zb b, y]), m) = ((0, [if c r_Show_film k 0 0 = f ∧ b = false then 1 else 0]), m) := fun b y hy => by
    rw [g_m_goesBy_45, zb_d, if_pos hy, zb_n, zb_n, e1]
    cases b
    · by_cases q : c r_Show_film k 0 0 = f
      · rw [if_pos q, if_pos (by decide), if_pos ⟨q, rfl⟩]
      · rw [if_neg q, if_neg (fun z => q z.1)]
    · by_cases q : c r_Show_film k 0 0 = f
      · rw [if_pos q, if_neg (by decide), if_neg (fun z => by cases z.2)]
      · rw [if_neg q, if_neg (fun z => q z.1)]
  have two : g_m_goesBy ((1045, [k, f, 1, c r_Show_first k 0 0]), m) = ((0, [if c r_Show_film k 0 0 = f ∧ (zcan c f (c r_Show_screen k 0 0) (c r_Show_first k 0 0) (m r_m_printHours 0 0 f) && (decide (zln c (c r_Show_film k 0 0) = 1) || zcan c f (c r_Show_screen k 0 0) (c r_Show_first k 0 0 + 1) (m r_m_printHours 0 0 f))) = false then 1 else 0]), m) := by
    rw [g_m_goesBy_45, zb_d, if_neg (by omega), e2, q_canShowNow hv hk f0 f1 s0 s1, e_bnd, hb, hx1]
    by_cases q : zln c (c r_Show_film k 0 0) = 1
    · rw [fin _ _ (by omega), decide_eq_true q, Bool.true_or, Bool.and_true]
    · rw [g_m_goesBy_45, zb_d, if_neg (by omega), e2, q_canShowNow hv hk f0 f1 s0 s1, e_bnd, hb2, hx2, fin _ _ (by omega), decide_eq_false q, Bool.false_or]
  show g_m_goesBy ((1000, [k, d, f]), m) = _
  rw [g_m_goesBy_0, (q_state h hf hh k0 k1).1, e3, zb_d, zb_d, if_pos f0, two]
  unfold zgL
  by_cases q1 : v_Grid_stateOf k c = 116
  · rw [if_pos q1]
    by_cases q2 : c r_Show_film k 0 0 = f
    · rw [decide_eq_true (And.intro q2 q1), Bool.true_and]
      unfold zthr
      rw [q2]
      cases zcan c f (c r_Show_screen k 0 0) (c r_Show_first k 0 0) (m r_m_printHours 0 0 f) && (decide (zln c f = 1) || zcan c f (c r_Show_screen k 0 0) (c r_Show_first k 0 0 + 1) (m r_m_printHours 0 0 f))
      · rw [if_pos ⟨rfl, rfl⟩]
        rfl
      · rw [if_neg (fun z => by cases z.2)]
        rfl
    · rw [if_neg (fun z => q2 z.1), decide_eq_false (fun z => q2 z.1), Bool.false_and]
      rfl
  · rw [if_neg q1, decide_eq_false (fun z => q1 z.2), Bool.false_and]
    rfl
/-- scratch of the class's search -/
theorem zGr.fd {c m S : ZS} (h : zGr c m) (fr : ∀ r, zfdW.contains r = false → S r = c r) : zGr S m := h.fr (fun r hr => fr r (by
  cases e : zfdW.contains r with
  | false => rfl
  | true =>
    rw [List.contains_iff_mem] at e
    have := List.contains_iff_mem.mpr (show r ∈ zscC by
      unfold zfdW at e
      simp only [List.mem_cons, List.not_mem_nil, or_false] at e
      rcases e with rfl | rfl <;> decide)
    rw [hr] at this
    cases this)) (fun _ _ => rfl)
theorem zgM_fr {m M : ZS} (fm : ∀ r, zgoM.contains r = false → M r = m r) {r : Nat} (hr : zscM.contains r = false) : M r = m r := fm r (by
  cases e : zgoM.contains r with
  | false => rfl
  | true =>
    rw [List.contains_iff_mem] at e
    have := List.contains_iff_mem.mpr (show r ∈ zscM by
      unfold zgoM at e
      simp only [List.mem_cons, List.not_mem_nil, or_false] at e
      rcases e with rfl | rfl <;> decide)
    rw [hr] at this
    cases this)
theorem o_storm {d : Int} {c m : ZS} (hR : zR c m) (h : zGr c m) : zBo zGr (f_w_storm [d] c) (f_m_storm [d] m) := by
  obtain ⟨⟨a1, a2, a3⟩, -⟩ := id hR
  obtain ⟨g1, g2, g3, g4, g5, g6, g7, g8, g9, g10⟩ := id h
  obtain ⟨⟨n0, n1, n2⟩, -⟩ := id g7
  show zBo zGr (e_try (f_x_storm [d] c) (fun v1 S1 => ((0, [0]), e_upd S1 r_out 0 0 0 v1)) [(1, 1), (3, 2), (2, 3)]) (f_m_storm [d] m)
  unfold f_x_storm f_m_storm
  dsimp only
  simp only [zb_n, zb_d, q_within, q_isIn]
  by_cases hd : 0 ≤ d ∧ d ≤ 9
  · have hs := g6 d hd.1 (by omega)
    simp (decide := true) only [if_pos hd, hs, ↓reduceIte, Int.reduceEq]
    by_cases q : c r_Grid_isStormy 0 0 d = 0
    · simp (decide := true) only [q, ↓reduceIte]
      obtain ⟨S, f1, f2, f3, f4⟩ := q_findOnDay g7 (d := d)
      have hm2 : zGr c (e_upd (e_upd m r_m_thrown 0 0 0 0) r_m_thrown 0 0 0 0) := h.thr.thr
      have hgo2 : ∀ k M, 0 ≤ k → k < c r_Grid_showCount 0 0 0 → (∀ r, zscM.contains r = false → (r == r_m_storms) = false → M r = (e_upd (e_upd m r_m_thrown 0 0 0 0) r_m_thrown 0 0 0 0) r) → f_m_goesBy [k, d, -1] M = ((0, [zb (zgS c d k)]), M) := fun k M k0 k1 fm => by
        have kk : ∀ {R : ZS → ZS → Prop} {KC KM : List Nat}, zRel R KC KM → z_nin KM (zscM ++ [r_m_storms]) = true → R c (e_upd (e_upd m r_m_thrown 0 0 0 0) r_m_thrown 0 0 0 0) → R c M := fun hr hq h => hr h (fun _ _ => rfl) (fun r hr' => by
          have hz := z_nin_ok hq hr'
          refine fm r ?_ ?_
          · cases e : zscM.contains r with
            | false => rfl
            | true =>
              rw [List.contains_iff_mem] at e
              have := List.contains_iff_mem.mpr (List.mem_append_left [r_m_storms] e)
              rw [hz] at this
              cases this
          · cases e : r == r_m_storms with
            | false => rfl
            | true => rw [beq_iff_eq] at e; rw [e] at hz; exact absurd hz (by decide))
        exact q_goesS (kk zSw_rel (by decide) hm2.2.2.2.2.2.2.1) (kk zFs_rel (by decide) hm2.1) (kk zHr_rel (by decide) hm2.2.2.2.2.1) k0 k1
      rw [f1, e_bnd, q_going (g := zgS c d) (N := c r_Grid_showCount 0 0 0) n0 n1 (by rw [e_un (by decide), e_un (by decide)]; exact n2) (fun k M k0 k1 fm => hgo2 k M k0 k1 (fun r hr _ => zgM_fr fm hr)), e_bnd, f2 r_Grid_showCount (by decide), n2]
      have hle := zcnt_le (zgS c d) (c r_Grid_showCount 0 0 0).toNat 0
      have hw : e_wr (c r_Grid_showCount 0 0 0 + zcnt (zgS c d) (c r_Grid_showCount 0 0 0).toNat 0) = c r_Grid_showCount 0 0 0 + zcnt (zgS c d) (c r_Grid_showCount 0 0 0).toNat 0 := e_wr_id (by omega) (by omega)
      rw [hw]
      by_cases q2 : c r_Grid_showCount 0 0 0 + zcnt (zgS c d) (c r_Grid_showCount 0 0 0).toNat 0 ≤ 60
      · simp only [if_pos q2]
        rw [e_nb1]
        have hgS : zGr (e_upd S r_Grid_isStormy 0 0 d 1) (e_upd (e_upd (e_upd (e_upd m r_m_thrown 0 0 0 0) r_m_thrown 0 0 0 0) r_m_thrown 0 0 0 0) r_m_storms 0 0 d 1) := by
          obtain ⟨k1, k2, k3, k4, k5, k6, k7, k8, k9, k10⟩ := (h.fd f2).thr.thr.thr (z := 0)
          refine ⟨zFs_rel.uc (zFs_rel.um k1 (by decide)) (by decide), zVe_rel.uc (zVe_rel.um k2 (by decide)) (by decide), zPk_rel.uc (zPk_rel.um k3 (by decide)) (by decide), zPh_rel.uc (zPh_rel.um k4 (by decide)) (by decide), zHr_rel.uc (zHr_rel.um k5 (by decide)) (by decide), fun e e0 e1 => ?_, zSw_rel.uc (zSw_rel.um k7 (by decide)) (by decide), zTo_rel.uc (zTo_rel.um k8 (by decide)) (by decide), zQu_rel.uc (zQu_rel.um k9 (by decide)) (by decide), zAr_rel.uc (zAr_rel.um k10 (by decide)) (by decide)⟩
          rw [e_ur, e_ur]
          by_cases z : e = d
          · rw [if_pos ⟨rfl, rfl, z⟩, if_pos ⟨rfl, rfl, z⟩]
          · rw [if_neg (fun y => z y.2.2), if_neg (fun y => z y.2.2)]
            exact k6 e e0 e1
        have eN : (e_upd S r_Grid_isStormy 0 0 d 1) r_Grid_showCount 0 0 0 = c r_Grid_showCount 0 0 0 := by rw [e_un (by decide), f2 _ (by decide)]
        obtain ⟨C', M', x1, x2, x3, x4⟩ := q_gone (c := e_upd S r_Grid_isStormy 0 0 d 1) (m := e_upd (e_upd (e_upd (e_upd m r_m_thrown 0 0 0 0) r_m_thrown 0 0 0 0) r_m_thrown 0 0 0 0) r_m_storms 0 0 d 1) (g := zgS c d) (cz := 115) (d := d) (f := -1) (Or.inl rfl) (by rw [e_un (by decide), f2 r_x_filmCount (by decide)]; exact a2) hgS (by
          rw [eN]
          intro k k0 k1 hk
          rw [e_un (by decide)]
          exact f4 k k0 k1 hk) (by rw [eN, e_un (by decide)]; exact f3) (by rw [eN]; exact q2) (fun k k0 k1 hk => by
          rw [eN] at k1
          rw [e_un (by decide), e_un (by decide), f2 r_Film_section (by decide), f2 r_Show_film (by decide)]
          unfold zgS at hk
          rw [decide_eq_true_eq, (q_state g7 g1 g5 k0 k1).2] at hk
          have hcs := (g7.2.2 k k0 (by omega)).1
          refine g8.1 k k0 k1 ?_ ?_
          · by_cases w : c r_Show_cause k 0 0 = 45
            · exact w
            · rw [if_neg w] at hk
              omega
          · by_cases w : c r_Show_cause k 0 0 = 45
            · rw [if_pos w] at hk
              by_cases w2 : c r_Grid_hour 0 0 0 < c r_Show_first k 0 0
              · exact w2
              · rw [if_neg w2] at hk
                exfalso
                by_cases w3 : c r_Grid_hour 0 0 0 < c r_Show_first k 0 0 + zln c (c r_Show_film k 0 0)
                · rw [if_pos w3] at hk
                  omega
                · rw [if_neg w3] at hk
                  omega
            · rw [if_neg w] at hk
              omega) (fun k M k0 k1 fm => hgo2 k M k0 (by rw [eN] at k1; exact k1) (fun r hr hs => by
          rw [zgM_fr fm hr]
          funext a b e
          rw [e_un hs]
          by_cases w : r = r_m_thrown
          · subst w
            rw [e_ur, e_ur]
            split
            · rfl
            · rfl
          · exact e_un (by simpa using w)))
        rw [x1, x2, e_bnd, eN]
        refine ⟨0, _, _, _, rfl, rfl, x3.out, ?_, fun _ => e_us⟩
        rw [x4, e_un (by decide), e_us]
      · simp only [if_neg q2]
        exact ⟨3, 0, _, _, rfl, rfl, (h.fd f2).thr.thr.thr, e_us, fun q => absurd q (by decide)⟩
    · simp (decide := true) only [q, ↓reduceIte]
      exact ⟨2, 0, _, _, rfl, rfl, h.thr.thr, e_us, fun q => absurd q (by decide)⟩
  · simp (decide := true) only [if_neg hd, ↓reduceIte]
    exact ⟨1, 0, _, _, rfl, rfl, h.thr, e_us, fun q => absurd q (by decide)⟩
end
/-! part 71uc14 -/
section
/-! late, withdraw: both sides -/
theorem zt_sec {c m : ZS} (g7 : zSw c m) (g1 : zFs c m) (g5 : zHr c m) (g8 : zTo c m) {k : Int} (k0 : 0 ≤ k) (k1 : k < c r_Grid_showCount 0 0 0) (hk : v_Grid_stateOf k c = 116) : c r_Show_cause k 0 0 = 45 ∧ c r_Grid_hour 0 0 0 < c r_Show_first k 0 0 ∧ 0 ≤ c r_Film_section (c r_Show_film k 0 0) 0 0 := by
  have hn : c r_Grid_showCount 0 0 0 ≤ 60 := g7.1.2.1
  rw [(q_state g7 g1 g5 k0 k1).2] at hk
  have hcs := (g7.2.2 k k0 (by omega)).1
  have w : c r_Show_cause k 0 0 = 45 := by
    by_cases w : c r_Show_cause k 0 0 = 45
    · exact w
    · rw [if_neg w] at hk
      omega
  have w2 : c r_Grid_hour 0 0 0 < c r_Show_first k 0 0 := by
    rw [if_pos w] at hk
    by_cases w2 : c r_Grid_hour 0 0 0 < c r_Show_first k 0 0
    · exact w2
    · rw [if_neg w2] at hk
      exfalso
      by_cases w3 : c r_Grid_hour 0 0 0 < c r_Show_first k 0 0 + zln c (c r_Show_film k 0 0)
      · rw [if_pos w3] at hk
        omega
      · rw [if_neg w3] at hk
        omega
  exact ⟨w, w2, g8.1 k k0 k1 w w2⟩
theorem zSw.uf {c m : ZS} (h : zSw c m) {S M : ZS} (hc : ∀ r ∈ zSwC, S r = c r) (hm : ∀ r ∈ zSwM, M r = m r) : zSw S M := zSw_rel h hc hm
theorem o_late {f x : Int} {c m : ZS} (hR : zR c m) (h : zGr c m) : zBo zGr (f_w_late [f, x] c) (f_m_late [f, x] m) := by
  obtain ⟨⟨a1, a2, a3⟩, -⟩ := id hR
  obtain ⟨g1, g2, g3, g4, g5, g6, g7, g8, g9, g10⟩ := id h
  obtain ⟨⟨n0, n1, n2⟩, -⟩ := id g7
  show zBo zGr (e_try (f_x_late [f, x] c) (fun v1 S1 => ((0, [0]), e_upd S1 r_out 0 0 0 v1)) [(0, 1), (1, 2), (3, 3), (2, 4)]) (f_m_late [f, x] m)
  unfold f_x_late f_m_late
  dsimp only
  rw [q_film a1 (by omega), q_noFilm (by omega) (by omega), a3]
  by_cases hf : 0 ≤ f ∧ f < c r_x_filmCount 0 0 0
  · rw [if_pos hf, if_pos hf, e_b_ok]
    have hk := g3 f hf.1 (by omega)
    have hp := g4 f hf.1 (by omega)
    simp (decide := true) only [zb_n, zb_d, ↓reduceIte, Int.reduceEq]
    by_cases hx : 50 ≤ x
    · simp only [if_pos hx, ite_self]
      exact ⟨2, 0, _, _, rfl, rfl, h.thr.thr, e_us, fun q => absurd q (by decide)⟩
    · simp only [if_neg hx]
      by_cases hq : c r_Film_kind f 0 0 = 45
      · have hq2 : m r_m_prints 0 0 f = 0 := by omega
        simp (decide := true) only [if_pos hq, hq2, ↓reduceIte]
        exact ⟨3, 0, _, _, rfl, rfl, h.thr.thr.thr, e_us, fun q => absurd q (by decide)⟩
      · have hq2 : ¬ m r_m_prints 0 0 f = 0 := by omega
        simp (decide := true) only [if_neg hq, if_neg hq2, hp]
        by_cases hy : c r_Film_comes f 0 0 < x
        · simp (decide := true) only [if_pos hy]
          obtain ⟨S, f1, f2, f3, f4⟩ := q_findLate g7 g2 (f := f) (x := x)
          have hm2 : zGr c (e_upd (e_upd (e_upd m r_m_thrown 0 0 0 0) r_m_thrown 0 0 0 0) r_m_thrown 0 0 0 0) := h.thr.thr.thr
          generalize hm' : e_upd (e_upd (e_upd m r_m_thrown 0 0 0 0) r_m_thrown 0 0 0 0) r_m_thrown 0 0 0 0 = m1 at hm2
          have eN1 : m1 r_m_shows 0 0 0 = c r_Grid_showCount 0 0 0 := hm2.2.2.2.2.2.2.1.1.2.2
          have hgo2 : ∀ k M, 0 ≤ k → k < c r_Grid_showCount 0 0 0 → (∀ r, zscM.contains r = false → (r == r_m_thrown) = false → M r = (e_upd m1 r_m_printHours 0 0 f x) r) → f_m_goesBy [k, -1, f] M = ((0, [zb (zgL c f x k)]), M) := fun k M k0 k1 fm => by
            have kk : ∀ {R : ZS → ZS → Prop} {KC KM : List Nat}, zRel R KC KM → z_nin KM (zscM ++ [r_m_thrown, r_m_printHours]) = true → R c m1 → R c M := fun hr hq h => hr h (fun _ _ => rfl) (fun r hr' => by
              have hz := z_nin_ok hq hr'
              have w1 : (r == r_m_thrown) = false := by
                cases e : r == r_m_thrown with
                | false => rfl
                | true => rw [beq_iff_eq] at e; rw [e] at hz; exact absurd hz (by decide)
              have w2 : (r == r_m_printHours) = false := by
                cases e : r == r_m_printHours with
                | false => rfl
                | true => rw [beq_iff_eq] at e; rw [e] at hz; exact absurd hz (by decide)
              have w3 : zscM.contains r = false := by
                cases e : zscM.contains r with
                | false => rfl
                | true =>
                  rw [List.contains_iff_mem] at e
                  have := List.contains_iff_mem.mpr (List.mem_append_left [r_m_thrown, r_m_printHours] e)
                  rw [hz] at this
                  cases this
              rw [fm r w3 w1]
              funext a b e
              exact e_un w2)
            have := q_goesL (kk zSw_rel (by decide) hm2.2.2.2.2.2.2.1) (kk zFs_rel (by decide) hm2.1) (kk zHr_rel (by decide) hm2.2.2.2.2.1) (kk zVe_rel (by decide) hm2.2.1) (kk zPk_rel (by decide) hm2.2.2.1) (d := -1) hf.1 (show f < 20 by omega) k0 k1
            rw [fm r_m_printHours (by decide) (by decide), e_us] at this
            exact this
          rw [f1, e_bnd, q_going (g := zgL c f x) (N := c r_Grid_showCount 0 0 0) n0 n1 (by rw [e_un (by decide)]; exact eN1) (fun k M k0 k1 fm => hgo2 k M k0 k1 (fun r hr _ => zgM_fr fm hr)), e_bnd, f2 r_Grid_showCount (by decide), n2]
          have hle := zcnt_le (zgL c f x) (c r_Grid_showCount 0 0 0).toNat 0
          have hw : e_wr (c r_Grid_showCount 0 0 0 + zcnt (zgL c f x) (c r_Grid_showCount 0 0 0).toNat 0) = c r_Grid_showCount 0 0 0 + zcnt (zgL c f x) (c r_Grid_showCount 0 0 0).toNat 0 := e_wr_id (by omega) (by omega)
          rw [hw]
          by_cases q2 : c r_Grid_showCount 0 0 0 + zcnt (zgL c f x) (c r_Grid_showCount 0 0 0).toNat 0 ≤ 60
          · simp only [if_pos q2]
            have hgS : zGr (e_upd S r_Film_comes f 0 0 x) (e_upd (e_upd m1 r_m_printHours 0 0 f x) r_m_thrown 0 0 0 0) := by
              obtain ⟨k1, k2, k3, k4, k5, k6, k7, k8, k9, k10⟩ := hm2.fd f2
              have hPh : zPh (e_upd S r_Film_comes f 0 0 x) (e_upd m1 r_m_printHours 0 0 f x) := fun e e0 e1 => by
                rw [e_ur, e_ur]
                by_cases z : e = f
                · rw [if_pos ⟨rfl, rfl, z⟩, if_pos ⟨z, rfl, rfl⟩]
                · rw [if_neg (fun y => z y.2.2), if_neg (fun y => z y.1)]
                  exact k4 e e0 e1
              exact zGr.thr ⟨zFs_rel.uc (zFs_rel.um k1 (by decide)) (by decide), zVe_rel.uc (zVe_rel.um k2 (by decide)) (by decide), zPk_rel.uc (zPk_rel.um k3 (by decide)) (by decide), hPh, zHr_rel.uc (zHr_rel.um k5 (by decide)) (by decide), zSt_rel.uc (zSt_rel.um k6 (by decide)) (by decide), zSw_rel.uc (zSw_rel.um k7 (by decide)) (by decide), zTo_rel.uc (zTo_rel.um k8 (by decide)) (by decide), zQu_rel.uc (zQu_rel.um k9 (by decide)) (by decide), zAr_rel.uc (zAr_rel.um k10 (by decide)) (by decide)⟩
            have eN : (e_upd S r_Film_comes f 0 0 x) r_Grid_showCount 0 0 0 = c r_Grid_showCount 0 0 0 := by rw [e_un (by decide), f2 _ (by decide)]
            obtain ⟨C', M', x1, x2, x3, x4⟩ := q_gone (c := e_upd S r_Film_comes f 0 0 x) (m := e_upd (e_upd m1 r_m_printHours 0 0 f x) r_m_thrown 0 0 0 0) (g := zgL c f x) (cz := 108) (d := -1) (f := f) (Or.inr (Or.inl rfl)) (by rw [e_un (by decide), f2 r_x_filmCount (by decide)]; exact a2) hgS (by
              rw [eN]
              intro k k0 k1 hk
              rw [e_un (by decide)]
              exact f4 k k0 k1 hk) (by rw [eN, e_un (by decide)]; exact f3) (by rw [eN]; exact q2) (fun k k0 k1 hk => by
              rw [eN] at k1
              rw [e_un (by decide), e_un (by decide), f2 r_Film_section (by decide), f2 r_Show_film (by decide)]
              unfold zgL at hk
              rw [Bool.and_eq_true, decide_eq_true_eq] at hk
              exact (zt_sec g7 g1 g5 g8 k0 k1 hk.1.2).2.2) (fun k M k0 k1 fm => hgo2 k M k0 (by rw [eN] at k1; exact k1) (fun r hr hs => by
              rw [zgM_fr fm hr]
              funext a b e
              exact e_un hs))
            rw [x1, x2, e_bnd, eN]
            refine ⟨0, _, _, _, rfl, rfl, x3.out, ?_, fun _ => e_us⟩
            rw [x4, e_us]
          · simp only [if_neg q2]
            refine ⟨4, 0, _, _, rfl, rfl, ?_, ?_, fun q => absurd q (by decide)⟩
            · obtain ⟨k1, k2, k3, k4, k5, k6, k7, k8, k9, k10⟩ := hm2.fd f2
              refine ⟨zFs_rel.um (zFs_rel.um (zFs_rel.um k1 (by decide)) (by decide)) (by decide), zVe_rel.um (zVe_rel.um (zVe_rel.um k2 (by decide)) (by decide)) (by decide), zPk_rel.um (zPk_rel.um (zPk_rel.um k3 (by decide)) (by decide)) (by decide), fun e e0 e1 => ?_, zHr_rel.um (zHr_rel.um (zHr_rel.um k5 (by decide)) (by decide)) (by decide), zSt_rel.um (zSt_rel.um (zSt_rel.um k6 (by decide)) (by decide)) (by decide), zSw_rel.um (zSw_rel.um (zSw_rel.um k7 (by decide)) (by decide)) (by decide), zTo_rel.um (zTo_rel.um (zTo_rel.um k8 (by decide)) (by decide)) (by decide), zQu_rel.um (zQu_rel.um (zQu_rel.um k9 (by decide)) (by decide)) (by decide), zAr_rel.um (zAr_rel.um (zAr_rel.um k10 (by decide)) (by decide)) (by decide)⟩
              rw [e_ur, e_un (by decide), e_ur]
              by_cases z : e = f
              · rw [if_pos ⟨rfl, rfl, z⟩, z]
                show c r_Film_comes f 0 0 = S r_Film_comes f 0 0
                rw [f2 r_Film_comes (by decide)]
              · rw [if_neg (fun y => z y.2.2), if_neg (fun y => z y.2.2)]
                exact k4 e e0 e1
            · rw [e_un (by decide), e_us]
        · simp (decide := true) only [if_neg hy]
          exact ⟨2, 0, _, _, rfl, rfl, h.thr.thr, e_us, fun q => absurd q (by decide)⟩
  · rw [if_neg hf, if_neg hf, e_b_x (by decide) (by decide)]
    simp (decide := true) only [zb_n, zb_d, ↓reduceIte]
    exact ⟨1, 0, _, _, rfl, rfl, h.thr, e_us, fun q => absurd q (by decide)⟩
theorem q_findOfFilm {c m : ZS} (h : zSw c m) {f : Int} : ∃ S, f_Grid_findOfFilm [f] c = ((0, [zcnt (ztc c f) (c r_Grid_showCount 0 0 0).toNat 0]), S) ∧ (∀ r, zfdW.contains r = false → S r = c r) ∧ S r_Grid_foundCount 0 0 0 = zcnt (ztc c f) (c r_Grid_showCount 0 0 0).toNat 0 ∧ zFd S (ztc c f) (c r_Grid_showCount 0 0 0) := by
  obtain ⟨n0, n1, -⟩ := id h.1
  show ∃ S, g_Grid_findOfFilm ((1000, [f]), c) = _ ∧ _
  rw [g_Grid_findOfFilm_0]
  refine q_find (c := c) n1 (G := fun k S => g_Grid_findOfFilm ((1007, [f, k]), S)) (fun k S e fr => ?_) (fun k S k0 k1 fr => ?_) (c r_Grid_showCount 0 0 0).toNat 0 _ (Int.le_refl _) (by omega) (fun r hr => ?_) e_us (fun k k0 k1 => by omega)
  · have e1 : S r_Grid_showCount = c r_Grid_showCount := fr _ (by decide)
    rw [g_Grid_findOfFilm_7, zb_d, e1, if_pos (by omega)]
  · have e1 : S r_Grid_showCount = c r_Grid_showCount := fr _ (by decide)
    have e2 : S r_Show_film = c r_Show_film := fr _ (by decide)
    have hk : e_wr (k + 1) = k + 1 := e_wr_id (by omega) (by omega)
    rw [g_Grid_findOfFilm_7, zb_d, e1, if_neg (by omega), zst_cg fr, e2, hk]
    unfold ztc
    simp only [zb_n, decide_eq_true_eq]
    by_cases q1 : c r_Show_film k 0 0 = f
    · by_cases q2 : v_Grid_stateOf k c = 116
      · rw [if_pos q1, if_pos q2, if_pos ⟨q1, q2⟩]
      · rw [if_pos q1, if_neg q2, if_neg (fun z => q2 z.2)]
    · rw [if_neg q1, if_neg (fun z => q1 z.1)]
  · funext a b e
    exact e_un (by
      cases z : r == r_Grid_foundCount with
      | false => rfl
      | true => rw [beq_iff_eq] at z; rw [z] at hr; exact absurd hr (by decide))
theorem q_wtake {c m : ZS} {f N : Int} {g : Int → Bool} (N60 : N ≤ 60) (hN : m r_m_shows 0 0 0 = N) (hg : ∀ k, 0 ≤ k → k < N → (g k = true ↔ m r_m_showFilms 0 0 k = f ∧ v_m_stateOf k m = 116)) (hfd : zFd c g N) (hcnt : c r_Grid_foundCount 0 0 0 = zcnt g N.toNat 0) (hfl : ∀ k, 0 ≤ k → k < N → m r_m_showFilms 0 0 k = c r_Show_film k 0 0) : ∀ (t : Nat) (k : Int) (C M : ZS), 0 ≤ k → k + t = N → zTk 119 g k c m C M → ∃ C' M', g_Grid_takeFound ((1002, [119, zcnt g k.toNat 0]), C) = ((0, []), C') ∧ g_m_withdraw ((1033, [f, zcnt g k.toNat 0, k]), M) = ((0, [zcnt g N.toNat 0]), e_upd (e_upd (e_upd M' r_m_areWithdrawn 0 0 f 1) r_m_sections 0 0 f (-1)) r_m_promises 0 0 f 0) ∧ zTk 119 g N c m C' M' := by
  intro t
  induction t with
  | zero =>
    intro k C M k0 k1 h
    have e : k = N := by omega
    subst e
    have e1 : C r_Grid_foundCount = c r_Grid_foundCount := h.1 _ (by decide)
    have e2 : M r_m_shows = m r_m_shows := h.2.1 _ (by decide)
    refine ⟨C, M, ?_, ?_, h⟩
    · rw [g_Grid_takeFound_2, zb_d, e1, hcnt, if_pos (Int.le_refl _)]
    · rw [g_m_withdraw_33, zb_d, e2, if_pos (by omega), e_nb1]
  | succ t ih =>
    intro k C M k0 k1 h
    have e1 : C r_Grid_foundCount = c r_Grid_foundCount := h.1 _ (by decide)
    have e2 : C r_Grid_found = c r_Grid_found := h.1 _ (by decide)
    have e4 : M r_m_shows = m r_m_shows := h.2.1 _ (by decide)
    have e5 : M r_m_showFilms = m r_m_showFilms := h.2.1 _ (by decide)
    have e6 : v_m_stateOf k M = v_m_stateOf k m := by
      unfold v_m_stateOf v_m_lastOf v_m_lengthOf
      rw [h.2.2.2.1 k, if_neg (fun z => by omega), e5, h.2.1 r_m_hour (by decide), h.2.1 r_m_showHours (by decide), h.2.1 r_m_minutes (by decide)]
    have ek : (k + 1).toNat = k.toNat + 1 := by omega
    have e0 : (0 : Int) + (k.toNat : Int) = k := by omega
    have hk : e_wr (k + 1) = k + 1 := e_wr_id (by omega) (by omega)
    have hle := zcnt_le g k.toNat 0
    have happ := zcnt_app (p := g) k.toNat 0
    rw [e0, ← ek] at happ
    have hgk := hg k k0 (by omega)
    have eM := g_m_withdraw_33 (x1 := f) (x2 := zcnt g k.toNat 0) (x3 := k) (S := M)
    rw [zb_d, e4, if_neg (by omega), zb_n, zb_n, e5, e6, hk] at eM
    by_cases w : g k = true
    · rw [w, if_pos rfl] at happ
      have hlt := zcnt_lt k0 (show k < N by omega) w
      have hw : e_wr (zcnt g k.toNat 0 + 1) = zcnt g k.toNat 0 + 1 := e_wr_id (by omega) (by omega)
      obtain ⟨w1, w2⟩ := hgk.mp w
      rw [if_pos w1, if_pos w2, q_zmA, e_bnd0, hw, e_nc (by decide) (by decide), ← happ] at eM
      have eC := g_Grid_takeFound_2 (x1 := 119) (x2 := zcnt g k.toNat 0) (S := C)
      rw [zb_d, e1, hcnt, if_neg (by omega), e2, hfd k k0 (by omega) w, h.1 r_Show_film (by decide), ← hfl k k0 (by omega), w1, q_zcA, e_bnd0, hw, ← happ] at eC
      rw [eC, eM]
      exact ih (k + 1) _ _ (by omega) (by omega) (h.take k0 w)
    · have w' : g k = false := by simpa using w
      rw [w', if_neg (by decide), Int.add_zero] at happ
      have eM2 : g_m_withdraw ((1033, [f, zcnt g k.toNat 0, k]), M) = g_m_withdraw ((1033, [f, zcnt g k.toNat 0, k + 1]), M) := by
        rw [eM]
        by_cases w1 : m r_m_showFilms 0 0 k = f
        · rw [if_pos w1, if_neg (fun z => w (hgk.mpr ⟨w1, z⟩))]
        · rw [if_neg w1]
      rw [eM2, ← happ]
      exact ih (k + 1) C M (by omega) (by omega) (h.skip w')
theorem o_withdraw {f : Int} {c m : ZS} (hR : zR c m) (h : zGr c m) (hW : zWd c m) : zBo (zAnd zGr zWd) (f_w_withdraw [f] c) (f_m_withdraw [f] m) := by
  obtain ⟨⟨a1, a2, a3⟩, -⟩ := id hR
  obtain ⟨g1, g2, g3, g4, g5, g6, g7, g8, g9, g10⟩ := id h
  obtain ⟨⟨n0, n1, n2⟩, -⟩ := id g7
  show zBo (zAnd zGr zWd) (e_try (f_x_withdraw [f] c) (fun v1 S1 => ((0, [0]), e_upd S1 r_out 0 0 0 v1)) [(0, 1), (3, 2)]) (g_m_withdraw ((1000, [f]), m))
  rw [g_m_withdraw_0]
  unfold f_x_withdraw f_Film_leave
  dsimp only
  rw [q_film a1 (by omega), q_noFilm (by omega) (by omega), a3]
  by_cases hf : 0 ≤ f ∧ f < c r_x_filmCount 0 0 0
  · rw [if_pos hf, if_pos hf, e_b_ok]
    have hw := (hW f hf.1 (by omega)).1
    simp (decide := true) only [zb_n, zb_d, ↓reduceIte, Int.reduceEq, hw]
    by_cases q : c r_Film_isWithdrawn f 0 0 = 0
    · simp (decide := true) only [q, ↓reduceIte]
      obtain ⟨S, f1, f2, f3, f4⟩ := q_findOfFilm g7 (f := f)
      have hm2 : zGr S (e_upd (e_upd m r_m_thrown 0 0 0 0) r_m_thrown 0 0 0 0) := (h.fd f2).thr.thr
      have hmW : zWd S (e_upd (e_upd m r_m_thrown 0 0 0 0) r_m_thrown 0 0 0 0) := zWd_rel hW.thr.thr (fun r hr => f2 r (z_nin_ok (by decide : z_nin zWdC zfdW = true) hr)) (fun _ _ => rfl)
      generalize hmm : e_upd (e_upd m r_m_thrown 0 0 0 0) r_m_thrown 0 0 0 0 = m1 at hm2 hmW ⊢
      have eth : m1 r_m_thrown 0 0 0 = 0 := by rw [← hmm, e_us]
      have eN : S r_Grid_showCount 0 0 0 = c r_Grid_showCount 0 0 0 := by rw [f2 _ (by decide)]
      obtain ⟨y1, y2, y3, y4, y5, y6, y7, y8, y9, y10⟩ := id hm2
      obtain ⟨C, M, p1, p2, p3⟩ := q_wtake (c := S) (m := m1) (f := f) (N := c r_Grid_showCount 0 0 0) (g := ztc c f) n1 (y7.1.2.2.trans eN) (fun k k0 k1 => by
        have s1 := (y7.row y1 k0 (by rw [eN]; exact k1)).1
        have s2 := (q_state y7 y1 y5 k0 (by rw [eN]; exact k1)).1
        rw [s1, s2, zst_cg f2, f2 r_Show_film (by decide)]
        unfold ztc
        rw [decide_eq_true_eq]) f4 f3 (fun k k0 k1 => (y7.row y1 k0 (by rw [eN]; exact k1)).1) (c r_Grid_showCount 0 0 0).toNat 0 S m1 (Int.le_refl _) (by omega) ⟨fun _ _ => rfl, fun _ _ => rfl, fun i => by rw [if_neg (fun z => by omega)], fun i => by rw [if_neg (fun z => by omega)], y10⟩
      have e1 : f_Grid_takeFound [119] S = ((0, []), C) := by
        show g_Grid_takeFound ((1000, [119]), S) = _
        rw [g_Grid_takeFound_0]
        exact p1
      have p2 : g_m_withdraw ((1033, [f, 0, 0]), m1) = _ := p2
      rw [f1, e_bnd, e1, e_bnd0, e_bnd0, p2]
      have hG : zGr C M := zTk.gr (cz := 119) (g := ztc c f) (Or.inr (Or.inr rfl)) (by rw [eN]; exact p3) hm2
      have hWd : zWd C M := zWd_rel hmW (fun r hr => p3.1 r (z_nin_ok (by decide : z_nin zWdC ([r_Show_cause] ++ zArC) = true) hr)) (fun r hr => p3.2.1 r (z_nin_ok (by decide : z_nin zWdM ([r_m_gone] ++ zArM) = true) hr))
      obtain ⟨k1, k2, k3, k4, k5, k6, k7, k8, k9, k10⟩ := hG
      have hT : zTo (e_upd (e_upd (e_upd C r_Film_isWithdrawn f 0 0 1) r_Film_section f 0 0 (-1)) r_Film_promise f 0 0 0) (e_upd (e_upd (e_upd M r_m_areWithdrawn 0 0 f 1) r_m_sections 0 0 f (-1)) r_m_promises 0 0 f 0) := by
        obtain ⟨tA, tB, tC⟩ := k8
        refine ⟨fun i i0 i1 z1 z2 => ?_, fun i i0 i1 => ?_, fun i j i0 ij j1 => ?_⟩
        · simp (decide := true) only [e_un] at i1 z1 z2 ⊢
          have i2 : i < c r_Grid_showCount 0 0 0 := by
            rw [← eN, ← p3.1 r_Grid_showCount (by decide)]
            exact i1
          have v1 : C r_Show_film = c r_Show_film := (p3.1 _ (by decide)).trans (f2 _ (by decide))
          have v2 : C r_Show_first = c r_Show_first := (p3.1 _ (by decide)).trans (f2 _ (by decide))
          have v3 : C r_Grid_hour = c r_Grid_hour := (p3.1 _ (by decide)).trans (f2 _ (by decide))
          have z3 := z1
          rw [p3.2.2.1 i] at z3
          by_cases w : 0 ≤ i ∧ i < c r_Grid_showCount 0 0 0 ∧ ztc c f i = true
          · rw [if_pos w] at z3
            omega
          · rw [if_neg w, f2 r_Show_cause (by decide)] at z3
            have hne : ¬ C r_Show_film i 0 0 = f := fun y => w ⟨i0, i2, by
              unfold ztc
              rw [decide_eq_true_eq, ← v1]
              refine ⟨y, ?_⟩
              rw [(q_state g7 g1 g5 i0 i2).2, if_pos z3, if_pos (by rw [← v2, ← v3]; exact z2)]⟩
            rw [e_ur, if_neg (fun y => hne y.1), e_un (by decide)]
            exact tA i i0 i1 z1 z2
        · simp (decide := true) only [e_un] at i1 ⊢
          simp (decide := true) only [e_ur, e_un]
          by_cases w : C r_Show_film i 0 0 = f
          · right
            rw [if_pos ⟨w, trivial⟩]
            decide
          · simp only [w, false_and, ↓reduceIte]
            exact tB i i0 i1
        · simp (decide := true) only [e_un] at j1 ⊢
          simp (decide := true) only [e_ur, e_un]
          intro z1 z2 z3 z4
          obtain ⟨u1, u2⟩ := tC i j i0 ij j1 z1 z2 z3 z4
          refine ⟨u1, ?_⟩
          by_cases w : C r_Show_film i 0 0 = f
          · left
            rw [if_pos ⟨w, trivial⟩]
          · simp only [w, false_and, ↓reduceIte]
            by_cases w2 : C r_Show_film j 0 0 = f
            · simp only [w2, and_self, true_and, ↓reduceIte]
              by_cases w3 : C r_Film_section (C r_Show_film i 0 0) 0 0 = -1
              · exact Or.inl w3
              · exact Or.inr w3
            · simp only [w2, false_and, ↓reduceIte]
              exact u2
      refine ⟨0, _, _, _, rfl, rfl, ⟨zGr.out ⟨?_, ?_, ?_, ?_, ?_, ?_, ?_, hT, ?_, zAr_rel.uc (zAr_rel.uc (zAr_rel.uc (zAr_rel.um (zAr_rel.um (zAr_rel.um k10 (by decide)) (by decide)) (by decide)) (by decide)) (by decide)) (by decide)⟩, zWd.out ?_⟩, ?_, fun _ => e_us⟩
      · obtain ⟨s1, s2, s3⟩ := k1
        refine ⟨fun g g0 g1 => ?_, fun g g0 g1 => ?_, fun g g0 g1 => ?_⟩
        · simp (decide := true) only [e_un] at g1
          simp (decide := true) only [e_un, e_ur]
          obtain ⟨t1, t2, t3, t4⟩ := s1 g g0 g1
          refine ⟨t1, t2, t3, ?_⟩
          by_cases w : g = f
          · simp (decide := true) only [w, and_self, ↓reduceIte]
          · simp only [w, and_false, false_and, ↓reduceIte]
            exact t4
        · simp (decide := true) only [e_un] at g0
          simp (decide := true) only [e_un, e_ur]
          obtain ⟨t1, t2⟩ := s2 g g0 g1
          refine ⟨t1, ?_⟩
          split
          · rfl
          · exact t2
        · simp (decide := true) only [e_un, e_ur]
          obtain ⟨t1, t2⟩ := s3 g g0 g1
          by_cases w : g = f
          · simp (decide := true) only [w, and_self, ↓reduceIte]
          · simp only [w, and_false, false_and, ↓reduceIte]
            exact ⟨t1, t2⟩
      · exact zVe_rel k2 (fun r hr => by simp only [zVeC, List.mem_cons, List.not_mem_nil, or_false] at hr; funext a b d; rcases hr with rfl | rfl | rfl | rfl | rfl | rfl | rfl | rfl <;> simp (decide := true) only [e_un]) (fun r hr => by simp only [zVeM, List.mem_cons, List.not_mem_nil, or_false] at hr; funext a b d; rcases hr with rfl | rfl | rfl | rfl | rfl <;> simp (decide := true) only [e_un])
      · exact zPk_rel.uc (zPk_rel.uc (zPk_rel.uc (zPk_rel.um (zPk_rel.um (zPk_rel.um k3 (by decide)) (by decide)) (by decide)) (by decide)) (by decide)) (by decide)
      · exact zPh_rel.uc (zPh_rel.uc (zPh_rel.uc (zPh_rel.um (zPh_rel.um (zPh_rel.um k4 (by decide)) (by decide)) (by decide)) (by decide)) (by decide)) (by decide)
      · exact zHr_rel.uc (zHr_rel.uc (zHr_rel.uc (zHr_rel.um (zHr_rel.um (zHr_rel.um k5 (by decide)) (by decide)) (by decide)) (by decide)) (by decide)) (by decide)
      · exact zSt_rel.uc (zSt_rel.uc (zSt_rel.uc (zSt_rel.um (zSt_rel.um (zSt_rel.um k6 (by decide)) (by decide)) (by decide)) (by decide)) (by decide)) (by decide)
      · exact zSw_rel.uc (zSw_rel.uc (zSw_rel.uc (zSw_rel.um (zSw_rel.um (zSw_rel.um k7 (by decide)) (by decide)) (by decide)) (by decide)) (by decide)) (by decide)
      · exact zQu_rel.uc (zQu_rel.uc (zQu_rel.uc (zQu_rel.um (zQu_rel.um (zQu_rel.um k9 (by decide)) (by decide)) (by decide)) (by decide)) (by decide)) (by decide)
      · intro g g0 g1
        simp (decide := true) only [e_un, e_ur]
        by_cases w : g = f
        · simp (decide := true) only [w, and_self, ↓reduceIte, true_and]
          exact zbit1
        · simp only [w, and_false, false_and, ↓reduceIte]
          exact hWd g g0 g1
      · simp (decide := true) only [e_un]
        rw [p3.2.1 r_m_thrown (by decide), eth]
    · simp (decide := true) only [q, ↓reduceIte]
      exact ⟨2, 0, _, _, rfl, rfl, ⟨h.thr.thr, hW.thr.thr⟩, e_us, fun q => absurd q (by decide)⟩
  · rw [if_neg hf, if_neg hf, e_b_x (by decide) (by decide)]
    simp (decide := true) only [zb_n, zb_d, ↓reduceIte]
    exact ⟨1, 0, _, _, rfl, rfl, ⟨h.thr, hW.thr⟩, e_us, fun q => absurd q (by decide)⟩
end
/-! part 71uc15 -/
section
/-! join, open: both sides -/
theorem zany_app {p : Int → Bool} : ∀ (j : Nat) (k : Int), zany p (j + 1) k = (zany p j k || p (k + j))
  | 0, k => by simp [zany]
  | j + 1, k => by
    rw [zany, zany_app j (k + 1), zany]
    have e : k + 1 + (j : Int) = k + ((j + 1 : Nat) : Int) := by omega
    rw [e, Bool.or_assoc]
/-- distinct numbers below 16 are at most 16 -/
theorem zpig {q : Int → Int} : ∀ (n : Nat), (∀ k : Int, 0 ≤ k → k < n → 0 ≤ q k ∧ q k < 16) → (∀ j k : Int, 0 ≤ j → j < k → k < n → q j ≠ q k) → zcnt (fun v => zany (fun k => decide (q k = v)) n 0) 16 0 = n
  | 0, _, _ => rfl
  | n + 1, h1, h2 => by
    have ih := zpig n (fun k a b => h1 k a (by omega)) (fun j k a b d => h2 j k a b (by omega))
    have e0 : (0 : Int) + (n : Int) = n := by omega
    have hb : (fun v => zany (fun k => decide (q k = v)) (n + 1) 0) (q n) = true := by
      show zany (fun k => decide (q k = q n)) (n + 1) 0 = true
      rw [zany_app, e0, decide_eq_true rfl, Bool.or_true]
    have hq := h1 n (by omega) (by omega)
    rw [zcnt_one (p := fun v => zany (fun k => decide (q k = v)) (n + 1) 0) (b := q n) hb 16 0 hq.1 (by omega)]
    have e : zcnt (fun v => (fun v => zany (fun k => decide (q k = v)) (n + 1) 0) v && decide (v ≠ q n)) 16 0 = zcnt (fun v => zany (fun k => decide (q k = v)) n 0) 16 0 := zcnt_cg 16 0 (fun v v0 v1 => by
      show (zany (fun k => decide (q k = v)) (n + 1) 0 && decide (v ≠ q n)) = zany (fun k => decide (q k = v)) n 0
      rw [zany_app, e0]
      by_cases w : v = q n
      · rw [decide_eq_false (show ¬ (v ≠ q n) from fun z => z w), Bool.and_false]
        symm
        rw [← Bool.not_eq_true, zany_iff]
        rintro ⟨i, i0, i1, i2⟩
        have i2 := of_decide_eq_true i2
        exact h2 i n i0 (by omega) (by omega) (i2.trans w)
      · rw [decide_eq_true (show v ≠ q n from w), decide_eq_false (show ¬ q n = v from fun z => w z.symm), Bool.or_false, Bool.and_true])
    rw [e, ih]
    omega
theorem zpig2 {q : Int → Int} {n p : Int} (n0 : 0 ≤ n) (h1 : ∀ k : Int, 0 ≤ k → k < n → 0 ≤ q k ∧ q k < 16) (h2 : ∀ j k : Int, 0 ≤ j → j < k → k < n → q j ≠ q k) (p0 : 0 ≤ p) (p1 : p < 16) (h3 : ∀ k : Int, 0 ≤ k → k < n → q k ≠ p) : n < 16 := by
  have e : ((n.toNat + 1 : Nat) : Int) = n + 1 := by omega
  have := zpig (q := fun k => if k = n then p else q k) (n.toNat + 1) (fun k a b => by
    (try dsimp only)
    by_cases w : k = n
    · rw [if_pos w]
      exact ⟨p0, p1⟩
    · rw [if_neg w]
      exact h1 k a (by omega)) (fun j k a b d => by
    (try dsimp only)
    rw [if_neg (show ¬ j = n by omega)]
    by_cases w : k = n
    · rw [if_pos w]
      exact h3 j a (by omega)
    · rw [if_neg w]
      exact h2 j k a b (by omega))
  have h4 := zcnt_le (fun v => zany (fun k => decide ((if k = n then p else q k) = v)) (n.toNat + 1) 0) 16 0
  omega
def zwt (c : ZS) (s p k : Int) : Bool := decide (c r_Show_queue s 0 k = p)
theorem q_awaited {c m : ZS} (h : zQu c m) {s p : Int} (s0 : 0 ≤ s) (s1 : s < 60) : f_Show_isAwaitedBy [s, p] c = ((0, [zb (zany (zwt c s p) (c r_Show_waiting s 0 0).toNat 0)]), c) ∧ f_m_waitsFor [p, s] m = ((0, [zb (zany (zwt c s p) (c r_Show_waiting s 0 0).toNat 0)]), m) := by
  obtain ⟨-, ⟨w0, w1, w2⟩, qu, -⟩ := h s s0 s1
  constructor
  · show g_Show_isAwaitedBy ((1000, [s, p]), c) = _
    rw [g_Show_isAwaitedBy_0]
    refine (zl_any (n := c r_Show_waiting s 0 0) (p := zwt c s p) (A := ((0, [1]), c)) (B := ((0, [0]), c)) (G := fun k => g_Show_isAwaitedBy ((1002, [s, p, k]), c)) (fun k hk => ?_) (fun k h0 h1 => ?_) (c r_Show_waiting s 0 0).toNat 0 (Int.le_refl _) (by omega)).trans ?_
    · rw [g_Show_isAwaitedBy_2, zb_d, if_pos (by omega)]
    · have hk : e_wr (k + 1) = k + 1 := e_wr_id (by omega) (by omega)
      rw [g_Show_isAwaitedBy_2, zb_d, if_neg (by omega), hk, zb_n]
      unfold zwt
      simp only [decide_eq_true_eq]
    · unfold zb
      split <;> rfl
  · show g_m_waitsFor ((1000, [p, s]), m) = _
    rw [g_m_waitsFor_0]
    refine zl_set (n := c r_Show_waiting s 0 0) (z := 1) (p := zwt c s p) (P := zbit) zbit1 (fin := fun v => ((0, [v]), m)) (G := fun v k => g_m_waitsFor ((1005, [p, s, v, k]), m)) (fun v k e hv => ?_) (fun v k h0 h1 hv => ?_) (c r_Show_waiting s 0 0).toNat 0 0 (Int.le_refl _) (by omega) zbit0
    · rw [g_m_waitsFor_5, zb_d, if_pos (by omega)]
    · have hk : e_wr (k + 1) = k + 1 := e_wr_id (by omega) (by omega)
      rw [g_m_waitsFor_5, zb_d, if_neg (by omega), hk, (qu k h0 h1).1, e_or0 hv, e_or1 hv, zb_n]
      unfold zwt
      simp only [decide_eq_true_eq]
      split <;> rfl
theorem q_noPass {p : Int} {S : ZS} (h0 : 0 ≤ S r_m_passes 0 0 0) (h1 : S r_m_passes 0 0 0 ≤ 1000) : v_m_isIn p 0 (e_wr (S r_m_passes 0 0 0 - 1)) S = if 0 ≤ p ∧ p < S r_m_passes 0 0 0 then 1 else 0 := by
  rw [q_isIn, e_wr_id (by omega) (by omega)]
  repeat' split
  all_goals first | rfl | omega
theorem o_join {p s : Int} {c m : ZS} (hP : zPa c m) (h : zGr c m) : zBo zGr (f_w_join [p, s] c) (f_m_join [p, s] m) := by
  obtain ⟨⟨p0, p1, p2⟩, -⟩ := id hP
  obtain ⟨g1, g2, g3, g4, g5, g6, g7, g8, g9, g10⟩ := id h
  obtain ⟨⟨n0, n1, n2⟩, -⟩ := id g7
  show zBo zGr (e_try (f_x_join [p, s] c) (fun v1 S1 => ((0, [0]), e_upd S1 r_out 0 0 0 v1)) [(0, 1), (3, 2)]) (f_m_join [p, s] m)
  unfold f_x_join f_m_join
  dsimp only
  rw [q_pass p0 (by omega), q_noPass (by omega) (by omega), q_noShow (by omega) (by omega), p2, n2]
  by_cases hp : 0 ≤ p ∧ p < c r_Passes_passCount 0 0 0
  · rw [if_pos hp, if_pos hp, e_b_ok, q_show n0 (by omega)]
    by_cases hs : 0 ≤ s ∧ s < c r_Grid_showCount 0 0 0
    · rw [if_pos hs, if_pos hs, e_b_ok]
      have h1 : zGr c (e_upd m r_m_thrown 0 0 0 0) := h.thr
      obtain ⟨x1, x2, x3, x4, x5, x6, x7, x8, x9, x10⟩ := id h1
      have hst := (q_state x7 x1 x5 hs.1 hs.2).1
      obtain ⟨y1, ⟨y2, y3, y4⟩, y5, y6, y7⟩ := g9 s hs.1 (by omega)
      obtain ⟨a1, a2⟩ := q_awaited x9 (p := p) hs.1 (show s < 60 by omega)
      simp (decide := true) only [zb_n, zb_d, ↓reduceIte, Int.reduceEq, hst, y1]
      by_cases q1 : v_Grid_stateOf s c = 116
      · by_cases q2 : c r_Show_isOpened s 0 0 = 0
        · simp only [if_pos q1, if_pos q2]
          rw [a1, a2, e_bnd, e_bnd]
          by_cases q3 : zany (zwt c s p) (c r_Show_waiting s 0 0).toNat 0 = true
          · rw [q3]
            simp (decide := true) only [zb, ↓reduceIte, Int.reduceEq]
            exact ⟨2, 0, _, _, rfl, rfl, h.thr.thr, e_us, fun q => absurd q (by decide)⟩
          · have q4 : zany (zwt c s p) (c r_Show_waiting s 0 0).toNat 0 = false := by simpa using q3
            have hno : ∀ k : Int, 0 ≤ k → k < c r_Show_waiting s 0 0 → c r_Show_queue s 0 k ≠ p := fun k k0 k1 z => q3 ((zany_iff _ 0).mpr ⟨k, k0, by omega, decide_eq_true z⟩)
            have hlt : c r_Show_waiting s 0 0 < 16 := zpig2 (q := fun k => c r_Show_queue s 0 k) (p := p) y2 (fun k a b => (y5 k a b).2) (fun j k a b d => y6 j k a b d) hp.1 (by omega) hno
            have hw : e_wr (c r_Show_waiting s 0 0 + 1) = c r_Show_waiting s 0 0 + 1 := e_wr_id (by omega) (by omega)
            have ea : f_Show_addWaiting [s, p] c = ((0, []), e_upd (e_upd c r_Show_queue s 0 (c r_Show_waiting s 0 0) p) r_Show_waiting s 0 0 (c r_Show_waiting s 0 0 + 1)) := by
              unfold f_Show_addWaiting
              dsimp only
              rw [zb_d, if_neg (by omega), hw]
            rw [q4, ea]
            simp (decide := true) only [zb, ↓reduceIte, Int.reduceEq, e_bnd0, e_us, e_un, y4, hw]
            refine ⟨0, _, _, _, rfl, rfl, zGr.out ⟨?_, ?_, ?_, ?_, ?_, ?_, ?_, ?_, ?_, zAr_rel.uc (zAr_rel.uc (zAr_rel.um (zAr_rel.um x10.thr (by decide)) (by decide)) (by decide)) (by decide)⟩, ?_, fun _ => e_us⟩
            · exact zFs_rel.uc (zFs_rel.uc (zFs_rel.um (zFs_rel.um x1.thr (by decide)) (by decide)) (by decide)) (by decide)
            · exact zVe_rel.uc (zVe_rel.uc (zVe_rel.um (zVe_rel.um x2.thr (by decide)) (by decide)) (by decide)) (by decide)
            · exact zPk_rel.uc (zPk_rel.uc (zPk_rel.um (zPk_rel.um x3.thr (by decide)) (by decide)) (by decide)) (by decide)
            · exact zPh_rel.uc (zPh_rel.uc (zPh_rel.um (zPh_rel.um x4.thr (by decide)) (by decide)) (by decide)) (by decide)
            · exact zHr_rel.uc (zHr_rel.uc (zHr_rel.um (zHr_rel.um x5.thr (by decide)) (by decide)) (by decide)) (by decide)
            · exact zSt_rel.uc (zSt_rel.uc (zSt_rel.um (zSt_rel.um x6.thr (by decide)) (by decide)) (by decide)) (by decide)
            · exact zSw_rel.uc (zSw_rel.uc (zSw_rel.um (zSw_rel.um x7.thr (by decide)) (by decide)) (by decide)) (by decide)
            · exact zTo_rel.uc (zTo_rel.uc (zTo_rel.um (zTo_rel.um x8.thr (by decide)) (by decide)) (by decide)) (by decide)
            · intro i i0 i1
              obtain ⟨b1, ⟨b2, b3, b4⟩, b5, b6, b7⟩ := g9 i i0 i1
              simp (decide := true) only [e_un, e_ur]
              by_cases w : i = s
              · subst w
                simp (decide := true) only [and_self, ↓reduceIte, true_and]
                refine ⟨b1, ⟨by omega, by first | omega | exact ⟨by omega, trivial⟩ | exact ⟨by omega, rfl⟩⟩, fun k k0 k1 => ?_, fun j k j0 jk k1 => ?_, fun z => by omega⟩
                · by_cases v : k = c r_Show_waiting i 0 0
                  · rw [if_pos v, if_pos v]
                    exact ⟨rfl, hp.1, by omega⟩
                  · rw [if_neg v, if_neg v]
                    exact b5 k k0 (by omega)
                · rw [if_neg (show ¬ j = c r_Show_waiting i 0 0 by omega)]
                  by_cases v : k = c r_Show_waiting i 0 0
                  · rw [if_pos v]
                    exact hno j j0 (by omega)
                  · rw [if_neg v]
                    exact b6 j k j0 jk (by omega)
              · simp only [w, and_false, false_and, ↓reduceIte]
                exact ⟨b1, ⟨b2, b3, b4⟩, b5, b6, b7⟩
            · simp (decide := true) only [e_un, e_us]
        · simp only [if_pos q1, if_neg q2]
          exact ⟨2, 0, _, _, rfl, rfl, h.thr.thr, e_us, fun q => absurd q (by decide)⟩
      · simp only [if_neg q1]
        exact ⟨2, 0, _, _, rfl, rfl, h.thr.thr, e_us, fun q => absurd q (by decide)⟩
    · rw [if_neg hs, if_neg hs, e_b_x (by decide) (by decide)]
      simp (decide := true) only [zb_n, zb_d, ↓reduceIte]
      exact ⟨1, 0, _, _, rfl, rfl, h.thr, e_us, fun q => absurd q (by decide)⟩
  · rw [if_neg hp, if_neg hp, e_b_x (by decide) (by decide)]
    simp (decide := true) only [zb_n, zb_d, ↓reduceIte]
    exact ⟨1, 0, _, _, rfl, rfl, h.thr, e_us, fun q => absurd q (by decide)⟩
/-- a pass has a seat at another show in one of the hours of a show -/
def zel (c : ZS) (p s i : Int) : Bool := decide (i ≠ s) && (decide (c r_Show_isSeated i 0 p ≠ 0) && zin c i (c r_Show_first s 0 0) (zln c (c r_Show_film s 0 0)))
theorem zin2 {c : ZS} {i x : Int} : zin c i x 2 = (zin c i x 1 || zin c i (x + 1) 1) := by
  have hr := zln_r (c := c) (f := c r_Show_film i 0 0)
  unfold zin
  rw [← Bool.decide_or]
  apply decide_eq_decide.mpr
  omega
theorem q_elsewhereC {c m : ZS} (h : zSw c m) {p s : Int} (s0 : 0 ≤ s) (s1 : s < c r_Grid_showCount 0 0 0) : f_Grid_isSeatedElsewhere [p, s] c = ((0, [zb (zany (zel c p s) (c r_Grid_showCount 0 0 0).toNat 0)]), c) := by
  obtain ⟨⟨n0, n1, -⟩, sw, -⟩ := id h
  obtain ⟨-, -, ⟨-, x0, x1⟩, xl⟩ := sw s s0 s1
  have xl : c r_Show_length s 0 0 = zln c (c r_Show_film s 0 0) := xl
  have hr := zln_r (c := c) (f := c r_Show_film s 0 0)
  show g_Grid_isSeatedElsewhere ((1000, [p, s]), c) = _
  rw [g_Grid_isSeatedElsewhere_0]
  refine (zl_any (n := c r_Grid_showCount 0 0 0) (p := zel c p s) (A := ((0, [1]), c)) (B := ((0, [0]), c)) (G := fun k => g_Grid_isSeatedElsewhere ((1002, [p, s, k]), c)) (fun k hk => ?_) (fun k h0 h1 => ?_) (c r_Grid_showCount 0 0 0).toNat 0 (Int.le_refl _) (by omega)).trans ?_
  · rw [g_Grid_isSeatedElsewhere_2, zb_d, if_pos (by omega)]
  · have hk : e_wr (k + 1) = k + 1 := e_wr_id (by omega) (by omega)
    rw [g_Grid_isSeatedElsewhere_2, zb_d, if_neg (by omega), hk, xl, q_standsIn h h0 h1 x0 (by omega) (by omega) (by omega)]
    unfold zel
    simp only [zb_d, zb0]
    by_cases q1 : k = s
    · rw [if_pos q1, decide_eq_false (fun z => z q1), Bool.false_and, if_neg (by decide)]
    · rw [if_neg q1, decide_eq_true q1, Bool.true_and]
      by_cases q2 : c r_Show_isSeated k 0 p = 0
      · rw [if_pos q2, decide_eq_false (fun z => z q2), Bool.false_and, if_neg (by decide)]
      · rw [if_neg q2, decide_eq_true q2, Bool.true_and]
        cases zin c k (c r_Show_first s 0 0) (zln c (c r_Show_film s 0 0)) <;> rfl
  · unfold zb
    split <;> rfl
theorem q_elsewhereM {c m : ZS} (h : zSw c m) (hf : zFs c m) (hS : zSs c m) {p s : Int} (s0 : 0 ≤ s) (s1 : s < c r_Grid_showCount 0 0 0) (p0 : 0 ≤ p) (p1 : p < 16) : f_m_isElsewhere [p, s] m = ((0, [zb (zany (zel c p s) (c r_Grid_showCount 0 0 0).toNat 0)]), m) := by
  obtain ⟨⟨n0, n1, n2⟩, sw, -⟩ := id h
  obtain ⟨-, -, ⟨-, x0, x1⟩, -⟩ := sw s s0 s1
  obtain ⟨-, -, e3, -, -⟩ := h.row hf s0 s1
  have hl := q_lastOf h hf s0 s1
  have hr := zln_r (c := c) (f := c r_Show_film s 0 0)
  show g_m_isElsewhere ((1000, [p, s]), m) = _
  rw [g_m_isElsewhere_0]
  refine zl_set (n := c r_Grid_showCount 0 0 0) (z := 1) (p := zel c p s) (P := zbit) zbit1 (fin := fun v => ((0, [v]), m)) (G := fun v k => g_m_isElsewhere ((1005, [p, s, v, k]), m)) (fun v k e hv => ?_) (fun v k h0 h1 hv => ?_) (c r_Grid_showCount 0 0 0).toNat 0 0 (Int.le_refl _) (by omega) zbit0
  · rw [g_m_isElsewhere_5, zb_d, if_pos (by omega)]
  · have hk : e_wr (k + 1) = k + 1 := e_wr_id (by omega) (by omega)
    have step : ∀ (u y : Int), zbit u → 0 ≤ y → y < 100 → ¬ v_m_lastOf s m < y → g_m_isElsewhere ((1022, [p, s, u, k, y]), m) = g_m_isElsewhere ((1022, [p, s, if (decide (k ≠ s) && (decide (c r_Show_isSeated k 0 p ≠ 0) && zin c k y 1)) = true then 1 else u, k, y + 1]), m) := fun u y hu y0 y1 hy => by
      have hyw : e_wr (y + 1) = y + 1 := e_wr_id (by omega) (by omega)
      rw [g_m_isElsewhere_22, zb_d, if_neg hy, e_or0 hu, e_or1 hu, hyw, q_hasHour h hf h0 h1, hS k p h0 (by omega) p0 p1]
      simp only [zb_d, zb0]
      by_cases q1 : k = s
      · rw [if_pos q1, decide_eq_false (fun z => z q1), Bool.false_and, if_neg (by decide)]
      · rw [if_neg q1, decide_eq_true q1, Bool.true_and]
        by_cases q2 : c r_Show_isSeated k 0 p = 0
        · rw [if_pos q2, decide_eq_false (fun z => z q2), Bool.false_and, if_neg (by decide)]
        · rw [if_neg q2, decide_eq_true q2, Bool.true_and]
          cases zin c k y 1 <;> rfl
    have last : ∀ (u y : Int), v_m_lastOf s m < y → g_m_isElsewhere ((1022, [p, s, u, k, y]), m) = g_m_isElsewhere ((1005, [p, s, u, k + 1]), m) := fun u y hy => by
      rw [g_m_isElsewhere_22, zb_d, if_pos hy, hk]
    have hb : ∀ (b : Bool) (u : Int), zbit u → zbit (if b = true then 1 else u) := fun b u hu => by
      cases b
      · exact hu
      · exact zbit1
    rw [g_m_isElsewhere_5, zb_d, if_neg (by omega), e3, step v _ hv x0 (by omega) (by omega)]
    unfold zel
    by_cases q : zln c (c r_Show_film s 0 0) = 1
    · rw [last _ _ (by omega), q]
    · have q2 : zln c (c r_Show_film s 0 0) = 2 := by omega
      rw [step _ _ (hb _ _ hv) (by omega) (by omega) (by omega), last _ _ (by omega), q2, zin2]
      cases decide (k ≠ s) <;> cases decide (c r_Show_isSeated k 0 p ≠ 0) <;> cases zin c k (c r_Show_first s 0 0) 1 <;> cases zin c k (c r_Show_first s 0 0 + 1) 1 <;> rfl
def zopW : List Nat := [r_Show_isSeated]
def zopX : List Nat := [r_m_haveSeats_r]
theorem q_seat1 {c m : ZS} {s w : Int} (g1 : zFs c m) (g7 : zSw c m) (hq : (0 ≤ c r_Show_waiting s 0 0 ∧ c r_Show_waiting s 0 0 ≤ 16 ∧ m r_m_waitMany 0 0 s = c r_Show_waiting s 0 0) ∧ ∀ k, 0 ≤ k → k < c r_Show_waiting s 0 0 → m r_m_waits_r s 0 k = c r_Show_queue s 0 k ∧ 0 ≤ c r_Show_queue s 0 k ∧ c r_Show_queue s 0 k < 16) (hP : zPa c m) (s0 : 0 ≤ s) (s1 : s < c r_Grid_showCount 0 0 0) (hw : w = m r_m_seats 0 0 (m r_m_showScreens 0 0 s)) {y : Int} {Goal : ZR → ZR → Prop} (y0 : 0 ≤ y) (y1 : y ≤ 3) (hN : ∀ u C M, 0 ≤ u → u ≤ 16 * (y + 1) → (∀ r, zopW.contains r = false → C r = c r) → (∀ r, zopX.contains r = false → M r = m r) → zSs C M → Goal (g_Passes_giveSeats ((1006, [s, w, u, y + 1]), C)) (g_m_open ((1063, [s, u, y + 1]), M))) : ∀ (t : Nat) (k u : Int) (C M : ZS), 0 ≤ k → k + t = c r_Show_waiting s 0 0 → 0 ≤ u → u ≤ 16 * y + k → (∀ r, zopW.contains r = false → C r = c r) → (∀ r, zopX.contains r = false → M r = m r) → zSs C M → Goal (g_Passes_giveSeats ((1015, [s, w, u, y, k]), C)) (g_m_open ((1071, [s, u, y, k]), M)) := by
  have n60 := g7.1.2.1
  obtain ⟨⟨w0, w1, w2⟩, qu⟩ := id hq
  have hy : e_wr (y + 1) = y + 1 := e_wr_id (by omega) (by omega)
  intro t
  induction t with
  | zero =>
    intro k u C M k0 k1 u0 u1 fr fm hS
    rw [g_Passes_giveSeats_15, zb_d, fr r_Show_waiting (by decide), if_pos (by omega), g_m_open_71, zb_d, fm r_m_waitMany (by decide), if_pos (by omega), hy]
    exact hN u C M u0 (by omega) fr fm hS
  | succ t ih =>
    intro k u C M k0 k1 u0 u1 fr fm hS
    have hk : e_wr (k + 1) = k + 1 := e_wr_id (by omega) (by omega)
    have hu : e_wr (u + 1) = u + 1 := e_wr_id (by omega) (by omega)
    obtain ⟨z1, z2, z3⟩ := qu k k0 (by omega)
    have kC : ∀ {R : ZS → ZS → Prop} {KC KM : List Nat}, zRel R KC KM → z_nin KC zopW = true → z_nin KM zopX = true → R c m → R C M := fun hr hq hq' h => hr h (fun r hr' => fr r (z_nin_ok hq hr')) (fun r hr' => fm r (z_nin_ok hq' hr'))
    have hSw := kC zSw_rel (by decide) (by decide) g7
    have hFs := kC zFs_rel (by decide) (by decide) g1
    have eN : C r_Grid_showCount = c r_Grid_showCount := fr _ (by decide)
    have e1 := q_elsewhereC hSw (p := c r_Show_queue s 0 k) s0 (by rw [eN]; exact s1)
    have e2 := q_elsewhereM hSw hFs hS s0 (by rw [eN]; exact s1) z2 z3
    have rk := hP.2 _ z2 z3
    have eC := g_Passes_giveSeats_15 (x1 := s) (x2 := w) (x3 := u) (x4 := y) (x5 := k) (S := C)
    rw [zb_d, fr r_Show_waiting (by decide), if_neg (by omega), zb_d, zb_n, fr r_Show_queue (by decide), fr r_Passes_ranks (by decide), e1, e_bnd, zb_n, e_nb1, hk, hu] at eC
    have eM := g_m_open_71 (x1 := s) (x2 := u) (x3 := y) (x4 := k) (S := M)
    rw [zb_d, fm r_m_waitMany (by decide), if_neg (by omega), zb_n, zb_d, fm r_m_waits_r (by decide), fm r_m_ranks (by decide), fm r_m_seats (by decide), fm r_m_showScreens (by decide), z1, rk, e2, e_bnd, zb_n, e_nb1, hk, hu, ← hw] at eM
    rw [eC, eM]
    by_cases q1 : w ≤ u
    · rw [if_pos q1]
      by_cases q2 : c r_Passes_ranks 0 0 (c r_Show_queue s 0 k) = y
      · rw [if_pos q2, if_pos q1]
        exact ih (k + 1) u C M (by omega) (by omega) u0 (by omega) fr fm hS
      · rw [if_neg q2]
        exact ih (k + 1) u C M (by omega) (by omega) u0 (by omega) fr fm hS
    · rw [if_neg q1]
      by_cases q2 : c r_Passes_ranks 0 0 (c r_Show_queue s 0 k) = y
      · rw [if_pos q2, if_pos q2, if_neg q1]
        by_cases q3 : zany (zel C (c r_Show_queue s 0 k) s) (C r_Grid_showCount 0 0 0).toNat 0 = true
        · rw [q3, if_neg (by decide), if_neg (by decide)]
          exact ih (k + 1) u C M (by omega) (by omega) u0 (by omega) fr fm hS
        · have q4 : zany (zel C (c r_Show_queue s 0 k) s) (C r_Grid_showCount 0 0 0).toNat 0 = false := by simpa using q3
          rw [q4, if_pos (by decide), if_pos (by decide)]
          refine ih (k + 1) (u + 1) _ _ (by omega) (by omega) (by omega) (by omega) (fun r hr => ?_) (fun r hr => ?_) (fun i p i0 i1 p0 p1 => ?_)
          · rw [← fr r hr]
            funext a b d
            exact e_un (by
              cases e : r == r_Show_isSeated with
              | false => rfl
              | true => rw [beq_iff_eq] at e; rw [e] at hr; exact absurd hr (by decide))
          · rw [← fm r hr]
            funext a b d
            exact e_un (by
              cases e : r == r_m_haveSeats_r with
              | false => rfl
              | true => rw [beq_iff_eq] at e; rw [e] at hr; exact absurd hr (by decide))
          · rw [e_ur, e_ur, hS i p i0 i1 p0 p1]
      · rw [if_neg q2, if_neg q2]
        exact ih (k + 1) u C M (by omega) (by omega) u0 (by omega) fr fm hS
theorem q_seats {c m : ZS} {s w : Int} (g1 : zFs c m) (g7 : zSw c m) (hq : (0 ≤ c r_Show_waiting s 0 0 ∧ c r_Show_waiting s 0 0 ≤ 16 ∧ m r_m_waitMany 0 0 s = c r_Show_waiting s 0 0) ∧ ∀ k, 0 ≤ k → k < c r_Show_waiting s 0 0 → m r_m_waits_r s 0 k = c r_Show_queue s 0 k ∧ 0 ≤ c r_Show_queue s 0 k ∧ c r_Show_queue s 0 k < 16) (hP : zPa c m) (s0 : 0 ≤ s) (s1 : s < c r_Grid_showCount 0 0 0) (hw : w = m r_m_seats 0 0 (m r_m_showScreens 0 0 s)) : ∀ (t : Nat) (y u : Int) (C M : ZS), 0 ≤ y → y + t = 4 → 0 ≤ u → u ≤ 16 * y → (∀ r, zopW.contains r = false → C r = c r) → (∀ r, zopX.contains r = false → M r = m r) → zSs C M → ∃ v C' M', g_Passes_giveSeats ((1006, [s, w, u, y]), C) = ((0, [v]), C') ∧ g_m_open ((1063, [s, u, y]), M) = ((0, [v]), zmA 111 (m r_m_showFilms 0 0 s) (e_upd M' r_m_areOpened 0 0 s 1)) ∧ (∀ r, zopW.contains r = false → C' r = c r) ∧ (∀ r, zopX.contains r = false → M' r = m r) ∧ zSs C' M' := by
  have n60 := g7.1.2.1
  obtain ⟨⟨w0, w1, w2⟩, -⟩ := id hq
  intro t
  induction t with
  | zero =>
    intro y u C M y0 y1 u0 u1 fr fm hS
    refine ⟨u, C, M, ?_, ?_, fr, fm, hS⟩
    · rw [g_Passes_giveSeats_6, zb_d, if_pos (by omega)]
    · rw [g_m_open_63, zb_d, if_pos (by omega), q_zmA, e_bnd0, e_nb1, fm r_m_showFilms (by decide)]
  | succ t ih =>
    intro y u C M y0 y1 u0 u1 fr fm hS
    rw [g_Passes_giveSeats_6, zb_d, if_neg (by omega), g_m_open_63, zb_d, if_neg (by omega)]
    exact q_seat1 g1 g7 hq hP s0 s1 hw (Goal := fun A B => ∃ v C' M', A = ((0, [v]), C') ∧ B = ((0, [v]), zmA 111 (m r_m_showFilms 0 0 s) (e_upd M' r_m_areOpened 0 0 s 1)) ∧ (∀ r, zopW.contains r = false → C' r = c r) ∧ (∀ r, zopX.contains r = false → M' r = m r) ∧ zSs C' M') y0 (by omega) (fun u C M a b fr fm hS => ih (y + 1) u C M (by omega) (by omega) a b fr fm hS) (c r_Show_waiting s 0 0).toNat 0 u C M (Int.le_refl _) (by omega) u0 (by omega) fr fm hS
theorem o_open {s : Int} {c m : ZS} (h : zGr c m) (hS : zSs c m) (hP : zPa c m) : zBo (zAnd zGr zSs) (f_w_open [s] c) (f_m_open [s] m) := by
  obtain ⟨g1, g2, g3, g4, g5, g6, g7, g8, g9, g10⟩ := id h
  obtain ⟨⟨n0, n1, n2⟩, sw, sc⟩ := id g7
  show zBo (zAnd zGr zSs) (e_try (f_x_open [s] c) (fun v1 S1 => ((0, [0]), e_upd S1 r_out 0 0 0 v1)) [(0, 1), (3, 2)]) (g_m_open ((1000, [s]), m))
  rw [g_m_open_0, q_noShow (by omega) (by omega), n2]
  unfold f_x_open
  dsimp only
  rw [q_show n0 (by omega)]
  by_cases hs : 0 ≤ s ∧ s < c r_Grid_showCount 0 0 0
  · rw [if_pos hs, if_pos hs, e_b_ok]
    have hst := (q_state g7 g1 g5 hs.1 hs.2).2
    have hcs := (sc s hs.1 (by omega)).1
    have hop := (g9 s hs.1 (by omega)).1
    have hho := (g7.row g1 hs.1 hs.2).2.2.1
    have hr := zln_r (c := c) (f := c r_Show_film s 0 0)
    have hh := g5.2.2
    simp (decide := true) only [zb_n, zb_d, ↓reduceIte, Int.reduceEq, hop, hho, hh]
    have bad : v_Grid_stateOf s c ≠ 116 → v_Grid_stateOf s c ≠ 110 → m r_m_gone 0 0 s ≠ 0 ∨ ¬ c r_Grid_hour 0 0 0 ≤ c r_Show_first s 0 0 := fun q1 q2 => by
      rw [hst] at q1 q2
      by_cases w : c r_Show_cause s 0 0 = 45
      · rw [if_pos w] at q1 q2
        right
        by_cases w2 : c r_Grid_hour 0 0 0 < c r_Show_first s 0 0
        · rw [if_pos w2] at q1
          exact absurd rfl q1
        · rw [if_neg w2] at q2
          by_cases w3 : c r_Grid_hour 0 0 0 < c r_Show_first s 0 0 + zln c (c r_Show_film s 0 0)
          · rw [if_pos w3] at q2
            exact absurd rfl q2
          · omega
      · left
        omega
    have good : v_Grid_stateOf s c = 116 ∨ v_Grid_stateOf s c = 110 → m r_m_gone 0 0 s = 0 := fun q => by
      rw [hst] at q
      by_cases w : c r_Show_cause s 0 0 = 45
      · omega
      · rw [if_neg w] at q
        omega
    have hno : zBo (zAnd zGr zSs) (e_try ((4, []), c) (fun v1 S1 => ((0, [0]), e_upd S1 r_out 0 0 0 v1)) [(0, 1), (3, 2)]) ((0, [0]), e_upd (e_upd m r_m_thrown 0 0 0 0) r_m_thrown 0 0 0 2) := ⟨2, 0, _, _, rfl, rfl, ⟨h.thr.thr, hS.thr.thr⟩, e_us, fun q => absurd q (by decide)⟩
    have main : c r_Show_isOpened s 0 0 = 0 → c r_Grid_hour 0 0 0 ≤ c r_Show_first s 0 0 → zBo (zAnd zGr zSs) (e_try (e_bind (f_Archive_add [111, c r_Show_film s 0 0] (e_upd c r_Show_isOpened s 0 0 1)) (fun v2 S2 => (e_bind (f_Passes_giveSeats [s, (S2 r_Venue_seats 0 0 (S2 r_Show_screen s 0 0))] S2) (fun v3 S3 => ((0, [v3]), S3))))) (fun v1 S1 => ((0, [0]), e_upd S1 r_out 0 0 0 v1)) [(0, 1), (3, 2)]) (g_m_open ((1063, [s, 0, 0]), e_upd (e_upd m r_m_thrown 0 0 0 0) r_m_thrown 0 0 0 0)) := fun q1 q2 => by
      obtain ⟨-, ⟨y1, y2, y3⟩, -, -⟩ := sw s hs.1 hs.2
      have y4 := (g2.2.1 _ y2 y3).1
      have h1 : zGr c (e_upd (e_upd m r_m_thrown 0 0 0 0) r_m_thrown 0 0 0 0) := h.thr.thr
      obtain ⟨k1, k2, k3, k4, k5, k6, k7, k8, k9, k10⟩ := id h1
      generalize hm1 : e_upd (e_upd m r_m_thrown 0 0 0 0) r_m_thrown 0 0 0 0 = m1 at h1 k1 k2 k3 k4 k5 k6 k7 k8 k9 k10 ⊢
      have hSs : zSs c m1 := by
        rw [← hm1]
        exact hS.thr.thr
      have hPa : zPa c m1 := by
        rw [← hm1]
        exact hP.thr.thr
      have eth : m1 r_m_thrown 0 0 0 = 0 := by rw [← hm1, e_us]
      obtain ⟨b1, b2, b3, b4, b5⟩ := k9 s hs.1 (by omega)
      have kk : ∀ {R : ZS → ZS → Prop} {KC KM : List Nat}, zRel R KC KM → z_nin KC ([r_Show_isOpened] ++ zArC) = true → R c m1 → R (zcA 111 (c r_Show_film s 0 0) (e_upd c r_Show_isOpened s 0 0 1)) m1 := fun hr hq h => hr h (fun r hr' => by
        have hz := z_nin_ok hq hr'
        rw [zcA_r hz]
        funext a b d
        exact e_un (z_ne1 hz)) (fun _ _ => rfl)
      have cO : ∀ {r : Nat}, ([r_Show_isOpened] ++ zArC).contains r = false → (zcA 111 (c r_Show_film s 0 0) (e_upd c r_Show_isOpened s 0 0 1)) r = c r := fun {r} hz => by
        rw [zcA_r hz]
        funext a b d
        exact e_un (z_ne1 hz)
      have z1 := (kk zSs_rel (by decide) hSs)
      have z2 := (kk zPa_rel (by decide) hPa)
      have z3 := (kk zFs_rel (by decide) k1)
      have z4 := (kk zSw_rel (by decide) k7)
      have hcO : (zcA 111 (c r_Show_film s 0 0) (e_upd c r_Show_isOpened s 0 0 1)) r_Show_isOpened = (e_upd c r_Show_isOpened s 0 0 1) r_Show_isOpened := zcA_o (by decide)
      rw [q_zcA, e_bnd0]
      generalize hc1 : zcA 111 (c r_Show_film s 0 0) (e_upd c r_Show_isOpened s 0 0 1) = c1 at cO hcO z1 z2 z3 z4 ⊢
      obtain ⟨v, C', M', p1, p2, p3, p4, p5⟩ := q_seats (c := c1) (m := m1) (w := c1 r_Venue_seats 0 0 (c1 r_Show_screen s 0 0)) (s := s) z3 z4 (by
        rw [cO (r := r_Show_waiting) (by decide), cO (r := r_Show_queue) (by decide)]
        exact ⟨b2, b3⟩) z2 hs.1 (by rw [cO (r := r_Grid_showCount) (by decide)]; exact hs.2) (by
        rw [cO (r := r_Venue_seats) (by decide), cO (r := r_Show_screen) (by decide), (k7.2.1 s hs.1 hs.2).2.1.1, (k2.2.1 _ y2 y3).1]) 4 0 0 c1 m1 (Int.le_refl _) (by decide) (Int.le_refl _) (by decide) (fun _ _ => rfl) (fun _ _ => rfl) z1
      have e1 : f_Passes_giveSeats [s, c1 r_Venue_seats 0 0 (c1 r_Show_screen s 0 0)] c1 = ((0, [v]), C') := by
        show g_Passes_giveSeats ((1000, [s, c1 r_Venue_seats 0 0 (c1 r_Show_screen s 0 0)]), c1) = _
        rw [g_Passes_giveSeats_0]
        exact p1
      rw [e1, e_bnd, p2]
      have mO : ∀ r, zArM.contains r = false → (r == r_m_haveSeats_r) = false → (zmA 111 (m1 r_m_showFilms 0 0 s) (e_upd M' r_m_areOpened 0 0 s 1)) r = (e_upd m1 r_m_areOpened 0 0 s 1) r := fun r h1 h2 => by
        rw [zmA_o h1]
        have e := p4 r (by
          cases e : zopX.contains r with
          | false => rfl
          | true =>
            rw [List.contains_iff_mem] at e
            unfold zopX at e
            rw [List.mem_singleton] at e
            rw [e, beq_self_eq_true] at h2
            cases h2)
        funext a b d
        unfold e_upd
        rw [e]
      have kM : ∀ {R : ZS → ZS → Prop} {KC KM : List Nat}, zRel R KC KM → z_nin KC ([r_Show_isOpened, r_Show_isSeated] ++ zArC) = true → z_nin KM ([r_m_areOpened, r_m_haveSeats_r] ++ zArM) = true → R c m1 → R C' (zmA 111 (m1 r_m_showFilms 0 0 s) (e_upd M' r_m_areOpened 0 0 s 1)) := fun hr hq hq' h => hr h (fun r hr' => by
        have hz := z_nin_ok hq hr'
        have w1 : zopW.contains r = false := by
          cases e : zopW.contains r with
          | false => rfl
          | true =>
            rw [List.contains_iff_mem] at e
            unfold zopW at e
            rw [List.mem_singleton] at e
            rw [e] at hz
            exact absurd hz (by decide)
        rw [p3 r w1]
        refine cO ?_
        cases e : ([r_Show_isOpened] ++ zArC).contains r with
        | false => rfl
        | true =>
          rw [List.contains_iff_mem] at e
          have := List.contains_iff_mem.mpr (show r ∈ [r_Show_isOpened, r_Show_isSeated] ++ zArC by
            rcases List.mem_append.mp e with e | e
            · rw [List.mem_singleton] at e
              rw [e]
              exact List.mem_cons_self
            · exact List.mem_append_right _ e)
          rw [hz] at this
          cases this) (fun r hr' => by
        have hz := z_nin_ok hq' hr'
        have w1 : (r == r_m_areOpened) = false := by
          cases e : r == r_m_areOpened with
          | false => rfl
          | true => rw [beq_iff_eq] at e; rw [e] at hz; exact absurd hz (by decide)
        have w2 : (r == r_m_haveSeats_r) = false := by
          cases e : r == r_m_haveSeats_r with
          | false => rfl
          | true => rw [beq_iff_eq] at e; rw [e] at hz; exact absurd hz (by decide)
        have w3 : zArM.contains r = false := by
          cases e : zArM.contains r with
          | false => rfl
          | true =>
            rw [List.contains_iff_mem] at e
            have := List.contains_iff_mem.mpr (List.mem_append_right [r_m_areOpened, r_m_haveSeats_r] e)
            rw [hz] at this
            cases this
        rw [mO r w3 w2]
        funext a b d
        exact e_un w1)
      have hQ : zQu C' (zmA 111 (m1 r_m_showFilms 0 0 s) (e_upd M' r_m_areOpened 0 0 s 1)) := by
        unfold zQu
        rw [p3 r_Show_isOpened (by decide), p3 r_Show_waiting (by decide), p3 r_Show_queue (by decide), p3 r_Grid_showCount (by decide), cO (r := r_Show_waiting) (by decide), cO (r := r_Show_queue) (by decide), cO (r := r_Grid_showCount) (by decide), hcO, mO r_m_areOpened (by decide) (by decide), mO r_m_waitMany (by decide) (by decide), mO r_m_waits_r (by decide) (by decide)]
        intro i i0 i1
        obtain ⟨b1, b2, b3, b4, b5⟩ := k9 i i0 i1
        simp (decide := true) only [e_un, e_ur]
        by_cases w : i = s
        · simp (decide := true) only [w, and_self, ↓reduceIte, true_and]
          rw [w] at b2 b3 b4
          exact ⟨b2, b3, b4, fun z => by omega⟩
        · simp only [w, and_false, false_and, ↓reduceIte]
          exact ⟨b1, b2, b3, b4, b5⟩
      have hA : zAr C' (zmA 111 (m1 r_m_showFilms 0 0 s) (e_upd M' r_m_areOpened 0 0 s 1)) := by
        have a1 : zAr (e_upd c r_Show_isOpened s 0 0 1) (e_upd M' r_m_areOpened 0 0 s 1) := zAr_rel.uc (zAr_rel.um (zAr_rel k10 (fun _ _ => rfl) (fun r hr => p4 r (z_nin_ok (by decide : z_nin zArM zopX = true) hr))) (by decide)) (by decide)
        have a2 := zAr.add a1 (l := 111) (f := c r_Show_film s 0 0)
        rw [hc1] at a2
        rw [(k7.row k1 hs.1 hs.2).1]
        exact zAr_rel a2 (fun r hr => p3 r (z_nin_ok (by decide : z_nin zArC zopW = true) hr)) (fun _ _ => rfl)
      refine ⟨0, _, _, _, rfl, rfl, ⟨zGr.out ⟨kM zFs_rel (by decide) (by decide) k1, kM zVe_rel (by decide) (by decide) k2, kM zPk_rel (by decide) (by decide) k3, kM zPh_rel (by decide) (by decide) k4, kM zHr_rel (by decide) (by decide) k5, kM zSt_rel (by decide) (by decide) k6, kM zSw_rel (by decide) (by decide) k7, kM zTo_rel (by decide) (by decide) k8, hQ, hA⟩, zSs.out (zSs_rel.zmA (by decide) (zSs_rel.um p5 (by decide)))⟩, ?_, fun _ => e_us⟩
      rw [mO r_m_thrown (by decide) (by decide), e_un (by decide)]
      exact eth
    by_cases q1 : c r_Show_isOpened s 0 0 = 0
    · by_cases q2 : c r_Grid_hour 0 0 0 ≤ c r_Show_first s 0 0
      · have hm := main q1 q2
        simp only [if_pos q1, if_pos q2]
        by_cases q3 : v_Grid_stateOf s c = 116
        · rw [if_pos q3, if_pos (good (Or.inl q3))]
          exact hm
        · by_cases q4 : v_Grid_stateOf s c = 110
          · rw [if_neg q3, if_pos q4, if_pos (good (Or.inr q4))]
            exact hm
          · rw [if_neg q3, if_neg q4]
            have q5 : ¬ m r_m_gone 0 0 s = 0 := by
              rcases bad q3 q4 with z | z
              · exact z
              · exact absurd q2 z
            rw [if_neg q5]
            exact hno
      · simp only [if_pos q1, if_neg q2, ite_self]
        exact hno
    · simp only [if_neg q1, ite_self]
      exact hno
  · rw [if_neg hs, if_neg hs, e_b_x (by decide) (by decide)]
    simp (decide := true) only [zb_n, zb_d, ↓reduceIte]
    exact ⟨1, 0, _, _, rfl, rfl, ⟨h.thr, hS.thr⟩, e_us, fun q => absurd q (by decide)⟩
end
