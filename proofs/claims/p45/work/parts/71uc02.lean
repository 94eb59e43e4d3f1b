/-! The relations of the grid, each with the regions that it reads -/
def zWd (c m : ZS) : Prop := ∀ f, 0 ≤ f → f < 20 → m r_m_areWithdrawn 0 0 f = c r_Film_isWithdrawn f 0 0 ∧ zbit (c r_Film_isWithdrawn f 0 0)
def zWdC : List Nat := [r_Film_isWithdrawn]
def zWdM : List Nat := [r_m_areWithdrawn]
theorem zWd_rel : zRel zWd zWdC zWdM := fun {c m c' m'} h hc hm => by
  unfold zWd
  rw [hc r_Film_isWithdrawn (by decide), hm r_m_areWithdrawn (by decide)]
  exact h
theorem zWd.out {c m : ZS} (h : zWd c m) {z : Int} : zWd (e_upd c r_out 0 0 0 z) m := zWd_rel.uc h (by decide)
theorem zWd.thr {c m : ZS} (h : zWd c m) {z : Int} : zWd c (e_upd m r_m_thrown 0 0 0 z) := zWd_rel.um h (by decide)
def zHr (c m : ZS) : Prop := 0 ≤ c r_Grid_hour 0 0 0 ∧ c r_Grid_hour 0 0 0 ≤ 50 ∧ m r_m_hour 0 0 0 = c r_Grid_hour 0 0 0
def zHrC : List Nat := [r_Grid_hour]
def zHrM : List Nat := [r_m_hour]
theorem zHr_rel : zRel zHr zHrC zHrM := fun {c m c' m'} h hc hm => by
  unfold zHr
  rw [hc r_Grid_hour (by decide), hm r_m_hour (by decide)]
  exact h
theorem zHr.out {c m : ZS} (h : zHr c m) {z : Int} : zHr (e_upd c r_out 0 0 0 z) m := zHr_rel.uc h (by decide)
theorem zHr.thr {c m : ZS} (h : zHr c m) {z : Int} : zHr c (e_upd m r_m_thrown 0 0 0 z) := zHr_rel.um h (by decide)
def zSt (c m : ZS) : Prop := ∀ d, 0 ≤ d → d < 10 → m r_m_storms 0 0 d = c r_Grid_isStormy 0 0 d
def zStC : List Nat := [r_Grid_isStormy]
def zStM : List Nat := [r_m_storms]
theorem zSt_rel : zRel zSt zStC zStM := fun {c m c' m'} h hc hm => by
  unfold zSt
  rw [hc r_Grid_isStormy (by decide), hm r_m_storms (by decide)]
  exact h
theorem zSt.out {c m : ZS} (h : zSt c m) {z : Int} : zSt (e_upd c r_out 0 0 0 z) m := zSt_rel.uc h (by decide)
theorem zSt.thr {c m : ZS} (h : zSt c m) {z : Int} : zSt c (e_upd m r_m_thrown 0 0 0 z) := zSt_rel.um h (by decide)
def zVe (c m : ZS) : Prop := (0 ≤ c r_Venue_screenCount 0 0 0 ∧ c r_Venue_screenCount 0 0 0 ≤ 4 ∧ m r_m_screens 0 0 0 = c r_Venue_screenCount 0 0 0) ∧ (∀ s, 0 ≤ s → s < 4 → m r_m_seats 0 0 s = c r_Venue_seats 0 0 s ∧ m r_m_haveGear 0 0 s = c r_Venue_hasGear 0 0 s ∧ zbit (c r_Venue_hasGear 0 0 s)) ∧ (0 ≤ c r_Venue_keyCount 0 0 0 ∧ c r_Venue_keyCount 0 0 0 ≤ 60 ∧ m r_m_keyMany 0 0 0 = c r_Venue_keyCount 0 0 0) ∧ ∀ k, 0 ≤ k → k < c r_Venue_keyCount 0 0 0 → m r_m_keys_r k 0 0 = c r_Venue_keyFilms 0 0 k ∧ m r_m_keys_r k 0 1 = c r_Venue_keyScreens 0 0 k ∧ m r_m_keys_r k 0 2 = c r_Venue_keyFrom 0 0 k ∧ m r_m_keys_r k 0 3 = c r_Venue_keyTo 0 0 k
def zVeC : List Nat := [r_Venue_screenCount, r_Venue_seats, r_Venue_hasGear, r_Venue_keyCount, r_Venue_keyFilms, r_Venue_keyScreens, r_Venue_keyFrom, r_Venue_keyTo]
def zVeM : List Nat := [r_m_screens, r_m_seats, r_m_haveGear, r_m_keyMany, r_m_keys_r]
theorem zVe_rel : zRel zVe zVeC zVeM := fun {c m c' m'} h hc hm => by
  unfold zVe
  rw [hc r_Venue_screenCount (by decide), hc r_Venue_seats (by decide), hc r_Venue_hasGear (by decide), hc r_Venue_keyCount (by decide), hc r_Venue_keyFilms (by decide), hc r_Venue_keyScreens (by decide), hc r_Venue_keyFrom (by decide), hc r_Venue_keyTo (by decide), hm r_m_screens (by decide), hm r_m_seats (by decide), hm r_m_haveGear (by decide), hm r_m_keyMany (by decide), hm r_m_keys_r (by decide)]
  exact h
theorem zVe.out {c m : ZS} (h : zVe c m) {z : Int} : zVe (e_upd c r_out 0 0 0 z) m := zVe_rel.uc h (by decide)
theorem zVe.thr {c m : ZS} (h : zVe c m) {z : Int} : zVe c (e_upd m r_m_thrown 0 0 0 z) := zVe_rel.um h (by decide)
def zPk (c m : ZS) : Prop := ∀ f, 0 ≤ f → f < 20 → (c r_Film_kind f 0 0 = 45 ∧ m r_m_prints 0 0 f = 0) ∨ ((c r_Film_kind f 0 0 = 114 ∨ c r_Film_kind f 0 0 = 100) ∧ m r_m_prints 0 0 f = c r_Film_kind f 0 0)
def zPkC : List Nat := [r_Film_kind]
def zPkM : List Nat := [r_m_prints]
theorem zPk_rel : zRel zPk zPkC zPkM := fun {c m c' m'} h hc hm => by
  unfold zPk
  rw [hc r_Film_kind (by decide), hm r_m_prints (by decide)]
  exact h
theorem zPk.out {c m : ZS} (h : zPk c m) {z : Int} : zPk (e_upd c r_out 0 0 0 z) m := zPk_rel.uc h (by decide)
theorem zPk.thr {c m : ZS} (h : zPk c m) {z : Int} : zPk c (e_upd m r_m_thrown 0 0 0 z) := zPk_rel.um h (by decide)
def zPh (c m : ZS) : Prop := ∀ f, 0 ≤ f → f < 20 → m r_m_printHours 0 0 f = c r_Film_comes f 0 0
def zPhC : List Nat := [r_Film_comes]
def zPhM : List Nat := [r_m_printHours]
theorem zPh_rel : zRel zPh zPhC zPhM := fun {c m c' m'} h hc hm => by
  unfold zPh
  rw [hc r_Film_comes (by decide), hm r_m_printHours (by decide)]
  exact h
theorem zPh.out {c m : ZS} (h : zPh c m) {z : Int} : zPh (e_upd c r_out 0 0 0 z) m := zPh_rel.uc h (by decide)
theorem zPh.thr {c m : ZS} (h : zPh c m) {z : Int} : zPh c (e_upd m r_m_thrown 0 0 0 z) := zPh_rel.um h (by decide)
def zSw (c m : ZS) : Prop := (0 ≤ c r_Grid_showCount 0 0 0 ∧ c r_Grid_showCount 0 0 0 ≤ 60 ∧ m r_m_shows 0 0 0 = c r_Grid_showCount 0 0 0) ∧ (∀ i, 0 ≤ i → i < c r_Grid_showCount 0 0 0 → (m r_m_showFilms 0 0 i = c r_Show_film i 0 0 ∧ 0 ≤ c r_Show_film i 0 0 ∧ c r_Show_film i 0 0 < c r_x_filmCount 0 0 0) ∧ (m r_m_showScreens 0 0 i = c r_Show_screen i 0 0 ∧ 0 ≤ c r_Show_screen i 0 0 ∧ c r_Show_screen i 0 0 < 4) ∧ (m r_m_showHours 0 0 i = c r_Show_first i 0 0 ∧ 0 ≤ c r_Show_first i 0 0 ∧ c r_Show_first i 0 0 < 50) ∧ c r_Show_length i 0 0 = (if 150 < c r_Film_minutes (c r_Show_film i 0 0) 0 0 then 2 else 1)) ∧ ∀ i, 0 ≤ i → i < 60 → ((c r_Show_cause i 0 0 = 45 ∧ m r_m_gone 0 0 i = 0) ∨ ((c r_Show_cause i 0 0 = 115 ∨ c r_Show_cause i 0 0 = 108 ∨ c r_Show_cause i 0 0 = 119) ∧ m r_m_gone 0 0 i = c r_Show_cause i 0 0)) ∧ (c r_Grid_showCount 0 0 0 ≤ i → c r_Show_cause i 0 0 = 45)
def zSwC : List Nat := [r_Grid_showCount, r_Show_film, r_Show_screen, r_Show_first, r_Show_length, r_Show_cause, r_x_filmCount, r_Film_minutes]
def zSwM : List Nat := [r_m_shows, r_m_showFilms, r_m_showScreens, r_m_showHours, r_m_gone]
theorem zSw_rel : zRel zSw zSwC zSwM := fun {c m c' m'} h hc hm => by
  unfold zSw
  rw [hc r_Grid_showCount (by decide), hc r_Show_film (by decide), hc r_Show_screen (by decide), hc r_Show_first (by decide), hc r_Show_length (by decide), hc r_Show_cause (by decide), hc r_x_filmCount (by decide), hc r_Film_minutes (by decide), hm r_m_shows (by decide), hm r_m_showFilms (by decide), hm r_m_showScreens (by decide), hm r_m_showHours (by decide), hm r_m_gone (by decide)]
  exact h
theorem zSw.out {c m : ZS} (h : zSw c m) {z : Int} : zSw (e_upd c r_out 0 0 0 z) m := zSw_rel.uc h (by decide)
theorem zSw.thr {c m : ZS} (h : zSw c m) {z : Int} : zSw c (e_upd m r_m_thrown 0 0 0 z) := zSw_rel.um h (by decide)
def zTo (c m : ZS) : Prop := (∀ i, 0 ≤ i → i < c r_Grid_showCount 0 0 0 → c r_Show_cause i 0 0 = 45 → c r_Grid_hour 0 0 0 < c r_Show_first i 0 0 → 0 ≤ c r_Film_section (c r_Show_film i 0 0) 0 0) ∧ (∀ i, 0 ≤ i → i < c r_Grid_showCount 0 0 0 → 0 ≤ c r_Film_section (c r_Show_film i 0 0) 0 0 ∨ c r_Film_isWithdrawn (c r_Show_film i 0 0) 0 0 ≠ 0) ∧ ∀ i j, 0 ≤ i → i < j → j < c r_Grid_showCount 0 0 0 → c r_Show_cause i 0 0 = 45 → c r_Show_cause j 0 0 = 45 → c r_Show_first i 0 0 < c r_Show_first j 0 0 + c r_Show_length j 0 0 → c r_Show_first j 0 0 < c r_Show_first i 0 0 + c r_Show_length i 0 0 → c r_Show_screen i 0 0 ≠ c r_Show_screen j 0 0 ∧ (c r_Film_section (c r_Show_film i 0 0) 0 0 = -1 ∨ c r_Film_section (c r_Show_film i 0 0) 0 0 ≠ c r_Film_section (c r_Show_film j 0 0) 0 0)
def zToC : List Nat := [r_Grid_showCount, r_Show_cause, r_Grid_hour, r_Show_first, r_Film_section, r_Show_film, r_Film_isWithdrawn, r_Show_length, r_Show_screen]
def zToM : List Nat := []
theorem zTo_rel : zRel zTo zToC zToM := fun {c m c' m'} h hc hm => by
  unfold zTo
  rw [hc r_Grid_showCount (by decide), hc r_Show_cause (by decide), hc r_Grid_hour (by decide), hc r_Show_first (by decide), hc r_Film_section (by decide), hc r_Show_film (by decide), hc r_Film_isWithdrawn (by decide), hc r_Show_length (by decide), hc r_Show_screen (by decide)]
  exact h
theorem zTo.out {c m : ZS} (h : zTo c m) {z : Int} : zTo (e_upd c r_out 0 0 0 z) m := zTo_rel.uc h (by decide)
theorem zTo.thr {c m : ZS} (h : zTo c m) {z : Int} : zTo c (e_upd m r_m_thrown 0 0 0 z) := zTo_rel.um h (by decide)
def zQu (c m : ZS) : Prop := ∀ i, 0 ≤ i → i < 60 → m r_m_areOpened 0 0 i = c r_Show_isOpened i 0 0 ∧ (0 ≤ c r_Show_waiting i 0 0 ∧ c r_Show_waiting i 0 0 ≤ 16 ∧ m r_m_waitMany 0 0 i = c r_Show_waiting i 0 0) ∧ (∀ k, 0 ≤ k → k < c r_Show_waiting i 0 0 → m r_m_waits_r i 0 k = c r_Show_queue i 0 k ∧ 0 ≤ c r_Show_queue i 0 k ∧ c r_Show_queue i 0 k < 16) ∧ (∀ j k, 0 ≤ j → j < k → k < c r_Show_waiting i 0 0 → c r_Show_queue i 0 j ≠ c r_Show_queue i 0 k) ∧ (c r_Grid_showCount 0 0 0 ≤ i → c r_Show_waiting i 0 0 = 0 ∧ c r_Show_isOpened i 0 0 = 0)
def zQuC : List Nat := [r_Show_isOpened, r_Show_waiting, r_Show_queue, r_Grid_showCount]
def zQuM : List Nat := [r_m_areOpened, r_m_waitMany, r_m_waits_r]
theorem zQu_rel : zRel zQu zQuC zQuM := fun {c m c' m'} h hc hm => by
  unfold zQu
  rw [hc r_Show_isOpened (by decide), hc r_Show_waiting (by decide), hc r_Show_queue (by decide), hc r_Grid_showCount (by decide), hm r_m_areOpened (by decide), hm r_m_waitMany (by decide), hm r_m_waits_r (by decide)]
  exact h
theorem zQu.out {c m : ZS} (h : zQu c m) {z : Int} : zQu (e_upd c r_out 0 0 0 z) m := zQu_rel.uc h (by decide)
theorem zQu.thr {c m : ZS} (h : zQu c m) {z : Int} : zQu c (e_upd m r_m_thrown 0 0 0 z) := zQu_rel.um h (by decide)
def zSs (c m : ZS) : Prop := ∀ i p, 0 ≤ i → i < 60 → 0 ≤ p → p < 16 → m r_m_haveSeats_r i 0 p = c r_Show_isSeated i 0 p
def zSsC : List Nat := [r_Show_isSeated]
def zSsM : List Nat := [r_m_haveSeats_r]
theorem zSs_rel : zRel zSs zSsC zSsM := fun {c m c' m'} h hc hm => by
  unfold zSs
  rw [hc r_Show_isSeated (by decide), hm r_m_haveSeats_r (by decide)]
  exact h
theorem zSs.out {c m : ZS} (h : zSs c m) {z : Int} : zSs (e_upd c r_out 0 0 0 z) m := zSs_rel.uc h (by decide)
theorem zSs.thr {c m : ZS} (h : zSs c m) {z : Int} : zSs c (e_upd m r_m_thrown 0 0 0 z) := zSs_rel.um h (by decide)
def zPa (c m : ZS) : Prop := (0 ≤ c r_Passes_passCount 0 0 0 ∧ c r_Passes_passCount 0 0 0 ≤ 16 ∧ m r_m_passes 0 0 0 = c r_Passes_passCount 0 0 0) ∧ ∀ p, 0 ≤ p → p < 16 → m r_m_ranks 0 0 p = c r_Passes_ranks 0 0 p
def zPaC : List Nat := [r_Passes_passCount, r_Passes_ranks]
def zPaM : List Nat := [r_m_passes, r_m_ranks]
theorem zPa_rel : zRel zPa zPaC zPaM := fun {c m c' m'} h hc hm => by
  unfold zPa
  rw [hc r_Passes_passCount (by decide), hc r_Passes_ranks (by decide), hm r_m_passes (by decide), hm r_m_ranks (by decide)]
  exact h
theorem zPa.out {c m : ZS} (h : zPa c m) {z : Int} : zPa (e_upd c r_out 0 0 0 z) m := zPa_rel.uc h (by decide)
theorem zPa.thr {c m : ZS} (h : zPa c m) {z : Int} : zPa c (e_upd m r_m_thrown 0 0 0 z) := zPa_rel.um h (by decide)
