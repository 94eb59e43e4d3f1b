/-! Dealing on both sides -/
theorem zl_best {n : Int} {p : Int → Bool} {w : Int → Int} {fin : Int → ZR} {G : Int → Int → ZR} (hE : ∀ b k, k = n → -1 ≤ b → b < k → G b k = fin b) (hG : ∀ b k, 0 ≤ k → k < n → -1 ≤ b → b < k → G b k = G (if p k = true then (if b < 0 then k else if w k < w b then k else b) else b) (k + 1)) : ∀ (j : Nat) (b k : Int), 0 ≤ k → k + j = n → -1 ≤ b → b < k → G b k = fin (zbest p w j k b)
  | 0, b, k, h1, h2, h3, h4 => by rw [hE b k (by omega) h3 h4, zbest]
  | j + 1, b, k, h1, h2, h3, h4 => by
    rw [hG b k h1 (by omega) h3 h4, zbest]
    exact zl_best hE hG j _ (k + 1) (by omega) (by omega) (by (repeat' split) <;> omega) (by (repeat' split) <;> omega)
def bF (S : ZS) (f l : Int) : Int := zbest (dpF S f l) (fun k => S r_Readings_dealtFilms 0 0 k) (S r_Readings_readerCount 0 0 0).toNat 0 (-1)
def sF (f l : Int) (S : ZS) : ZS := if bF S f l = -1 then S else e_upd (e_upd S r_Readings_marks_r f 0 (bF S f l) (-1)) r_Readings_dealtFilms 0 0 (bF S f l) (e_wr (S r_Readings_dealtFilms 0 0 (bF S f l) + 1))
theorem q_dealOnce {f l : Int} {S : ZS} (h0 : 0 ≤ S r_Readings_readerCount 0 0 0) (h1 : S r_Readings_readerCount 0 0 0 ≤ 8) : f_Readings_dealOnce [f, l] S = ((0, []), sF f l S) := by
  show g_Readings_dealOnce ((1000, [f, l]), S) = _
  rw [g_Readings_dealOnce_0]
  refine (zl_best (n := S r_Readings_readerCount 0 0 0) (p := dpF S f l) (w := fun k => S r_Readings_dealtFilms 0 0 k) (fin := fun b => ((0, []), if b = -1 then S else e_upd (e_upd S r_Readings_marks_r f 0 b (-1)) r_Readings_dealtFilms 0 0 b (e_wr (S r_Readings_dealtFilms 0 0 b + 1)))) (G := fun b k => g_Readings_dealOnce ((1005, [f, l, b, k]), S)) (fun b k hk _ _ => ?_) (fun b k k1 k2 m1 m2 => ?_) (S r_Readings_readerCount 0 0 0).toNat (-1) 0 (by omega) (by omega) (by omega) (by omega))
  · rw [g_Readings_dealOnce_5, zb_d, if_pos (by omega), zb_d]
    split <;> rfl
  · rw [g_Readings_dealOnce_5, zb_d, if_neg (by omega), zb_d, zb_d, zb_d, q_isFree, e_wr_id (x := k + 1) (by omega) (by omega)]
    cases dpF S f l k with
    | false => rfl
    | true =>
      rw [if_neg (by decide), if_pos rfl]
      by_cases c : b = -1
      · rw [if_pos c, if_pos (by omega)]
      · rw [if_neg c, if_neg (show ¬ b < 0 by omega)]
        by_cases d : S r_Readings_dealtFilms 0 0 b ≤ S r_Readings_dealtFilms 0 0 k
        · rw [if_pos d, if_neg (by omega)]
        · rw [if_neg d, if_pos (by omega)]
def bM (S : ZS) (f : Int) : Int := zbest (pM S f) (fun k => S r_m_dealtMany 0 0 k) (S r_m_readers 0 0 0).toNat 0 (-1)
def dsM (f : Int) (S : ZS) : ZS := e_upd (e_upd S r_m_areDealt_r f 0 (bM S f) 1) r_m_dealtMany 0 0 (bM S f) (e_wr (S r_m_dealtMany 0 0 (bM S f) + 1))
theorem q_mdealOnce {f n i : Int} {S : ZS} (h0 : 0 ≤ S r_m_readers 0 0 0) (h1 : S r_m_readers 0 0 0 ≤ 8) (i0 : 0 ≤ i) (i1 : i < 1000) : g_m_deal ((1111, [f, n, i, -1, 0]), S) = g_m_deal ((1099, [f, n, i + 1]), dsM f S) := by
  refine (zl_best (n := S r_m_readers 0 0 0) (p := pM S f) (w := fun k => S r_m_dealtMany 0 0 k) (fin := fun b => g_m_deal ((1099, [f, n, i + 1]), e_upd (e_upd S r_m_areDealt_r f 0 b 1) r_m_dealtMany 0 0 b (e_wr (S r_m_dealtMany 0 0 b + 1)))) (G := fun b k => g_m_deal ((1111, [f, n, i, b, k]), S)) (fun b k hk _ _ => ?_) (fun b k k1 k2 m1 m2 => ?_) (S r_m_readers 0 0 0).toNat (-1) 0 (by omega) (by omega) (by omega) (by omega))
  · rw [g_m_deal_111, zb_d, if_pos (by omega), e_nb1, e_wr_id (x := i + 1) (by omega) (by omega)]
  · rw [g_m_deal_111, zb_d, if_neg (by omega), zb_d, zb_d, zb_d, q_mayRead, e_wr_id (x := k + 1) (by omega) (by omega)]
    cases pM S f k with
    | false => rfl
    | true =>
      rw [if_neg (by decide), if_pos rfl]
      by_cases c : b < 0
      · rw [if_pos c, if_pos c]
      · rw [if_neg c, if_neg c]
        by_cases d : S r_m_dealtMany 0 0 b ≤ S r_m_dealtMany 0 0 k
        · rw [if_pos d, if_neg (by omega)]
        · rw [if_neg d, if_pos (by omega)]
/-! Many dealings -/
def zit (s : ZS → ZS) : Nat → ZS → ZS
  | 0, S => S
  | t + 1, S => zit s t (s S)
theorem sF_n {f l : Int} {S : ZS} : (sF f l S) r_Readings_readerCount 0 0 0 = S r_Readings_readerCount 0 0 0 := by
  unfold sF
  split
  · rfl
  · rw [e_un (by decide), e_un (by decide)]
theorem q_dealLoop {f n l : Int} (n1 : n ≤ 8) : ∀ (t : Nat) (i : Int) (S : ZS), 0 ≤ i → i + t = n → 0 ≤ S r_Readings_readerCount 0 0 0 → S r_Readings_readerCount 0 0 0 ≤ 8 → g_x_deal ((1061, [f, n, l, i]), S) = ((0, [zcnt (fun k => decide (zit (sF f l) t S r_Readings_marks_r f 0 k ≠ -2)) (S r_Readings_readerCount 0 0 0).toNat 0]), zit (sF f l) t S)
  | 0, i, S, h1, h2, h3, h4 => by
    rw [g_x_deal_61, zb_d, if_pos (by omega), q_countDealt h3 h4]
    rfl
  | t + 1, i, S, h1, h2, h3, h4 => by
    rw [g_x_deal_61, zb_d, if_neg (by omega), q_dealOnce h3 h4, e_wr_id (by omega) (by omega)]
    show g_x_deal ((1061, [f, n, l, i + 1]), sF f l S) = _
    rw [q_dealLoop n1 t (i + 1) (sF f l S) (by omega) (by omega) (by rw [sF_n]; exact h3) (by rw [sF_n]; exact h4), sF_n]
    rfl
theorem sM_n {f : Int} {S : ZS} : (dsM f S) r_m_readers 0 0 0 = S r_m_readers 0 0 0 := by
  unfold dsM
  rw [e_un (by decide), e_un (by decide)]
theorem q_mHave {f : Int} {S : ZS} (h0 : 0 ≤ S r_m_readers 0 0 0) (h1 : S r_m_readers 0 0 0 ≤ 8) : g_m_deal ((1200, [f, 0, 0]), S) = ((0, [zcnt (fun k => decide (S r_m_areDealt_r f 0 k ≠ 0)) (S r_m_readers 0 0 0).toNat 0]), S) := by
  refine (zl_cnt (n := S r_m_readers 0 0 0) (p := fun k => decide (S r_m_areDealt_r f 0 k ≠ 0)) (fin := fun m => ((0, [m]), S)) (G := fun m k => g_m_deal ((1200, [f, m, k]), S)) (fun m k hk => ?_) (fun m k k1 k2 m1 m2 => ?_) (S r_m_readers 0 0 0).toNat 0 0 (by omega) (by omega) (by omega) (by omega)).trans ?_
  · rw [g_m_deal_200, zb_d, if_pos (by omega)]
  · rw [g_m_deal_200, zb_d, if_neg (by omega), zb_d, Int.add_zero, e_wr_id (x := m) (by omega) (by omega), e_wr_id (by omega) (by omega), e_wr_id (by omega) (by omega)]
    by_cases c : S r_m_areDealt_r f 0 k = 0 <;> simp [c]
  · rw [Int.zero_add]
theorem q_mdealLoop {f n : Int} (n1 : n ≤ 8) : ∀ (t : Nat) (i : Int) (S : ZS), 0 ≤ i → i + t = n → 0 ≤ S r_m_readers 0 0 0 → S r_m_readers 0 0 0 ≤ 8 → g_m_deal ((1099, [f, n, i]), S) = ((0, [zcnt (fun k => decide (zit (dsM f) t S r_m_areDealt_r f 0 k ≠ 0)) (S r_m_readers 0 0 0).toNat 0]), zit (dsM f) t S)
  | 0, i, S, h1, h2, h3, h4 => by
    rw [g_m_deal_99, zb_d, if_pos (by omega), q_mHave h3 h4]
    rfl
  | t + 1, i, S, h1, h2, h3, h4 => by
    rw [g_m_deal_99, zb_d, if_neg (by omega), q_mdealOnce h3 h4 h1 (by omega), q_mdealLoop n1 t (i + 1) (dsM f S) (by omega) (by omega) (by rw [sM_n]; exact h3) (by rw [sM_n]; exact h4), sM_n]
    rfl
theorem q_mcan {f n : Int} {S : ZS} (h0 : 0 ≤ S r_m_readers 0 0 0) (h1 : S r_m_readers 0 0 0 ≤ 8) : g_m_deal ((1043, [f, n, 0, 0]), S) = (fun m => if n ≤ m then g_m_deal ((1099, [f, n, 0]), e_upd S r_m_thrown 0 0 0 0) else ((0, [0]), e_upd S r_m_thrown 0 0 0 3)) (zcnt (pM S f) (S r_m_readers 0 0 0).toNat 0) := by
  refine (zl_cnt (n := S r_m_readers 0 0 0) (p := pM S f) (fin := fun m => if n ≤ m then g_m_deal ((1099, [f, n, 0]), e_upd S r_m_thrown 0 0 0 0) else ((0, [0]), e_upd S r_m_thrown 0 0 0 3)) (G := fun m k => g_m_deal ((1043, [f, n, m, k]), S)) (fun m k hk => ?_) (fun m k k1 k2 m1 m2 => ?_) (S r_m_readers 0 0 0).toNat 0 0 (by omega) (by omega) (by omega) (by omega)).trans ?_
  · rw [g_m_deal_43, zb_d, if_pos (by omega), zb_d]
  · rw [g_m_deal_43, zb_d, if_neg (by omega), zb_d, Int.add_zero, q_mayRead, e_wr_id (x := m) (by omega) (by omega), e_wr_id (by omega) (by omega), e_wr_id (by omega) (by omega)]
    cases pM S f k <;> rfl
  · rw [Int.zero_add]
/-! The two sides beside each other: c holds the class, m the model -/
def zR (c m : ZS) : Prop := (0 ≤ c r_x_filmCount 0 0 0 ∧ c r_x_filmCount 0 0 0 ≤ 20 ∧ m r_m_films 0 0 0 = c r_x_filmCount 0 0 0) ∧ (0 ≤ c r_Readings_readerCount 0 0 0 ∧ c r_Readings_readerCount 0 0 0 ≤ 8 ∧ m r_m_readers 0 0 0 = c r_Readings_readerCount 0 0 0) ∧ (∀ k, 0 ≤ k → k < 8 → m r_m_readerLands 0 0 k = c r_Readings_lands 0 0 k) ∧ (∀ f, 0 ≤ f → f < c r_x_filmCount 0 0 0 → m r_m_lands 0 0 f = c r_Film_land f 0 0) ∧ (∀ f k, 0 ≤ f → f < 20 → 0 ≤ k → k < 8 → m r_m_areDealt_r f 0 k = if c r_Readings_marks_r f 0 k = -2 then 0 else 1) ∧ (∀ k, 0 ≤ k → k < 8 → m r_m_dealtMany 0 0 k = c r_Readings_dealtFilms 0 0 k) ∧ (∀ f k, 0 ≤ f → f < 20 → 0 ≤ k → k < 8 → (-2 ≤ c r_Readings_marks_r f 0 k ∧ c r_Readings_marks_r f 0 k ≤ 100) ∧ (c r_x_filmCount 0 0 0 ≤ f → c r_Readings_marks_r f 0 k = -2) ∧ (0 ≤ c r_Readings_marks_r f 0 k → m r_m_scores_r f 0 k = c r_Readings_marks_r f 0 k) ∧ (c r_Readings_marks_r f 0 k < 0 → f < c r_x_filmCount 0 0 0 → m r_m_scores_r f 0 k = -1)) ∧ ∀ k, 0 ≤ k → k < 8 → c r_Readings_toldScores 0 0 k = zcnt (fun f => decide (0 ≤ c r_Readings_marks_r f 0 k)) 20 0 ∧ c r_Readings_sums 0 0 k = zsum (fun f => if 0 ≤ c r_Readings_marks_r f 0 k then c r_Readings_marks_r f 0 k else 0) 20 0
/-- the regions that it speaks of -/
def zRC : List Nat := [r_x_filmCount, r_Readings_readerCount, r_Readings_lands, r_Film_land, r_Readings_marks_r, r_Readings_dealtFilms, r_Readings_toldScores, r_Readings_sums]
def zRM : List Nat := [r_m_films, r_m_readers, r_m_readerLands, r_m_lands, r_m_areDealt_r, r_m_dealtMany, r_m_scores_r]
theorem zR.cg {c m c' m' : ZS} (h : zR c m) (hc : ∀ r ∈ zRC, c' r = c r) (hm : ∀ r ∈ zRM, m' r = m r) : zR c' m' := by
  unfold zR
  rw [hc r_x_filmCount (by decide), hc r_Readings_readerCount (by decide), hc r_Readings_lands (by decide), hc r_Film_land (by decide), hc r_Readings_marks_r (by decide), hc r_Readings_dealtFilms (by decide), hc r_Readings_toldScores (by decide), hc r_Readings_sums (by decide), hm r_m_films (by decide), hm r_m_readers (by decide), hm r_m_readerLands (by decide), hm r_m_lands (by decide), hm r_m_areDealt_r (by decide), hm r_m_dealtMany (by decide), hm r_m_scores_r (by decide)]
  exact h
theorem zR.p {c m : ZS} (h : zR c m) {f : Int} (f0 : 0 ≤ f) (f1 : f < c r_x_filmCount 0 0 0) {k : Int} (k0 : 0 ≤ k) (k1 : k < 8) : pM m f k = dpF c f (c r_Film_land f 0 0) k := by
  obtain ⟨⟨a1, a2, a3⟩, b, l, fl, ad, -⟩ := h
  unfold pM dpF
  rw [l k k0 k1, fl f f0 f1, ad f k f0 (by omega) k0 k1]
  by_cases q : c r_Readings_marks_r f 0 k = -2 <;> simp [q]
theorem zR.b {c m : ZS} (h : zR c m) {f : Int} (f0 : 0 ≤ f) (f1 : f < c r_x_filmCount 0 0 0) : bM m f = bF c f (c r_Film_land f 0 0) := by
  have hp := fun k k0 k1 => h.p f0 f1 (k := k) k0 k1
  obtain ⟨-, ⟨b1, b2, b3⟩, -, -, -, dm, -⟩ := h
  unfold bM bF
  rw [b3]
  exact zbest_cg _ 0 (-1) (Int.le_refl _) (fun i i0 i1 => ⟨hp i i0 (by omega), dm i i0 (by omega)⟩) (by omega)
theorem zR.cnt {c m : ZS} (h : zR c m) {f : Int} (f0 : 0 ≤ f) (f1 : f < c r_x_filmCount 0 0 0) : zcnt (pM m f) (m r_m_readers 0 0 0).toNat 0 = zcnt (dpF c f (c r_Film_land f 0 0)) (c r_Readings_readerCount 0 0 0).toNat 0 := by
  have hp := fun k k0 k1 => h.p f0 f1 (k := k) k0 k1
  obtain ⟨-, ⟨b1, b2, b3⟩, -⟩ := h
  rw [b3]
  exact zcnt_cg _ 0 (fun i i0 i1 => hp i i0 (by omega))
theorem zR.dealOnce {c m : ZS} (h : zR c m) {f : Int} (f0 : 0 ≤ f) (f1 : f < c r_x_filmCount 0 0 0) (hn : 0 < zcnt (dpF c f (c r_Film_land f 0 0)) (c r_Readings_readerCount 0 0 0).toNat 0) : zR (sF f (c r_Film_land f 0 0) c) (dsM f m) ∧ (sF f (c r_Film_land f 0 0) c) r_x_filmCount 0 0 0 = c r_x_filmCount 0 0 0 ∧ (sF f (c r_Film_land f 0 0) c) r_Film_land f 0 0 = c r_Film_land f 0 0 ∧ zcnt (dpF (sF f (c r_Film_land f 0 0) c) f (c r_Film_land f 0 0)) (c r_Readings_readerCount 0 0 0).toNat 0 + 1 = zcnt (dpF c f (c r_Film_land f 0 0)) (c r_Readings_readerCount 0 0 0).toNat 0 := by
  have hb := h.b f0 f1
  obtain ⟨⟨a1, a2, a3⟩, ⟨b1, b2, b3⟩, l, fl, ad, dm, mk, ts⟩ := h
  have nn : 0 ≤ bF c f (c r_Film_land f 0 0) := zbest_nn _ 0 (-1) (Int.le_refl _) (Or.inr (zcnt_pos _ 0 hn))
  have lt := zbest_lt (p := dpF c f (c r_Film_land f 0 0)) (w := fun k => c r_Readings_dealtFilms 0 0 k) (c r_Readings_readerCount 0 0 0).toNat 0 (-1) (Int.le_refl _) (by omega) (by omega)
  have pb : dpF c f (c r_Film_land f 0 0) (bF c f (c r_Film_land f 0 0)) = true := (zbest_p (p := dpF c f (c r_Film_land f 0 0)) (w := fun k => c r_Readings_dealtFilms 0 0 k) (c r_Readings_readerCount 0 0 0).toNat 0 (-1) (Or.inl (by omega))).resolve_left (fun q => absurd q (by have : 0 ≤ bF c f (c r_Film_land f 0 0) := nn; unfold bF at this; omega))
  have lt2 : bF c f (c r_Film_land f 0 0) < c r_Readings_readerCount 0 0 0 := by
    have : bF c f (c r_Film_land f 0 0) < 0 + ((c r_Readings_readerCount 0 0 0).toNat : Int) := lt.2
    omega
  have eF : sF f (c r_Film_land f 0 0) c = e_upd (e_upd c r_Readings_marks_r f 0 (bF c f (c r_Film_land f 0 0)) (-1)) r_Readings_dealtFilms 0 0 (bF c f (c r_Film_land f 0 0)) (e_wr (c r_Readings_dealtFilms 0 0 (bF c f (c r_Film_land f 0 0)) + 1)) := by
    unfold sF
    rw [if_neg (by omega)]
  have eM : dsM f m = e_upd (e_upd m r_m_areDealt_r f 0 (bF c f (c r_Film_land f 0 0)) 1) r_m_dealtMany 0 0 (bF c f (c r_Film_land f 0 0)) (e_wr (m r_m_dealtMany 0 0 (bF c f (c r_Film_land f 0 0)) + 1)) := by
    unfold dsM
    rw [hb]
  rw [eF, eM]
  generalize hbb : bF c f (c r_Film_land f 0 0) = b at nn lt2 pb
  generalize hl : c r_Film_land f 0 0 = lnd at pb hn ⊢
  have mkb : c r_Readings_marks_r f 0 b = -2 := by
    unfold dpF at pb
    simp only [Bool.and_eq_true, decide_eq_true_eq] at pb
    exact pb.2
  have rd : ∀ g k : Int, (e_upd (e_upd c r_Readings_marks_r f 0 b (-1)) r_Readings_dealtFilms 0 0 b (e_wr (c r_Readings_dealtFilms 0 0 b + 1))) r_Readings_marks_r g 0 k = if g = f ∧ k = b then -1 else c r_Readings_marks_r g 0 k := fun g k => by
    rw [e_un (by decide), e_ur]
    by_cases q : g = f ∧ k = b
    · rw [if_pos q, if_pos ⟨q.1, rfl, q.2⟩]
    · rw [if_neg q, if_neg (fun z => q ⟨z.1, z.2.2⟩)]
  refine ⟨⟨?_, ?_, ?_, ?_, ?_, ?_, ?_, ?_⟩, ?_, ?_, ?_⟩
  · rw [e_un (by decide), e_un (by decide), e_un (by decide), e_un (by decide)]
    exact ⟨a1, a2, a3⟩
  · rw [e_un (by decide), e_un (by decide), e_un (by decide), e_un (by decide)]
    exact ⟨b1, b2, b3⟩
  · intro k k0 k1
    rw [e_un (by decide), e_un (by decide), e_un (by decide), e_un (by decide)]
    exact l k k0 k1
  · intro g g0 g1
    rw [e_un (by decide), e_un (by decide)] at g1
    rw [e_un (by decide), e_un (by decide), e_un (by decide), e_un (by decide)]
    exact fl g g0 g1
  · intro g k g0 g1 k0 k1
    rw [rd, e_un (by decide), e_ur]
    by_cases q : g = f ∧ k = b
    · rw [if_pos ⟨q.1, rfl, q.2⟩, if_pos q, if_neg (by decide)]
    · rw [if_neg (fun z => q ⟨z.1, z.2.2⟩), if_neg q]
      exact ad g k g0 g1 k0 k1
  · intro k k0 k1
    rw [e_ur, e_ur, e_un (by decide), e_un (by decide), dm k k0 k1, dm b nn (by omega)]
  · intro g k g0 g1 k0 k1
    rw [rd, e_un (by decide), e_un (by decide), e_un (by decide), e_un (by decide)]
    obtain ⟨m1, m2, m3, m4⟩ := mk g k g0 g1 k0 k1
    by_cases q : g = f ∧ k = b
    · rw [if_pos q]
      refine ⟨by omega, fun z => by omega, fun z => by omega, fun _ z => m4 (by rw [q.1, q.2, mkb]; decide) z⟩
    · rw [if_neg q]
      exact ⟨m1, m2, m3, m4⟩
  · intro k k0 k1
    rw [e_un (by decide), e_un (by decide), e_un (by decide), e_un (by decide), (ts k k0 k1).1, (ts k k0 k1).2]
    refine ⟨zcnt_cg 20 0 (fun i i0 i1 => ?_), zsum_cg 20 0 (fun i i0 i1 => ?_)⟩
    · rw [rd]
      by_cases q : i = f ∧ k = b
      · rw [if_pos q, q.1, q.2, mkb]
        rfl
      · rw [if_neg q]
    · rw [rd]
      by_cases q : i = f ∧ k = b
      · rw [if_pos q, q.1, q.2, mkb]
        rfl
      · rw [if_neg q]
  · rw [e_un (by decide), e_un (by decide)]
  · rw [e_un (by decide), e_un (by decide), hl]
  · rw [zcnt_one pb _ 0 nn (by omega)]
    congr 1
    refine zcnt_cg _ 0 (fun i i0 i1 => ?_)
    unfold dpF
    rw [rd, e_un (by decide), e_un (by decide)]
    by_cases q : i = b
    · subst q
      simp
    · rw [if_neg (fun z => q z.2)]
      simp [q]
theorem zR.deals {f l : Int} : ∀ (t : Nat) {c m : ZS}, zR c m → 0 ≤ f → f < c r_x_filmCount 0 0 0 → c r_Film_land f 0 0 = l → (t : Int) ≤ zcnt (dpF c f l) (c r_Readings_readerCount 0 0 0).toNat 0 → zR (zit (sF f l) t c) (zit (dsM f) t m)
  | 0, c, m, h, _, _, _, _ => h
  | t + 1, c, m, h, f0, f1, hl, ht => by
    subst hl
    obtain ⟨h1, h2, h3, h4⟩ := h.dealOnce f0 f1 (by omega)
    rw [zit, zit]
    exact zR.deals t h1 f0 (by rw [h2]; exact f1) h3 (by rw [sF_n]; omega)
theorem zit_n {f l : Int} : ∀ (t : Nat) (S : ZS), (zit (sF f l) t S) r_Readings_readerCount 0 0 0 = S r_Readings_readerCount 0 0 0
  | 0, S => rfl
  | t + 1, S => by rw [zit, zit_n t, sF_n]
theorem zit_nM {f : Int} : ∀ (t : Nat) (S : ZS), (zit (dsM f) t S) r_m_readers 0 0 0 = S r_m_readers 0 0 0
  | 0, S => rfl
  | t + 1, S => by rw [zit, zit_nM t, sM_n]
theorem sM_t {f : Int} : ∀ (t : Nat) (S : ZS), (zit (dsM f) t S) r_m_thrown 0 0 0 = S r_m_thrown 0 0 0
  | 0, S => rfl
  | t + 1, S => by
    rw [zit, sM_t t]
    unfold dsM
    rw [e_un (by decide), e_un (by decide)]
/-- how an operation goes on both sides -/
def zBoth (A B : ZR) : Prop := ∃ (k v : Int) (c' m' : ZS), A = ((0, [k]), c') ∧ B = ((0, [v]), m') ∧ zR c' m' ∧ m' r_m_thrown 0 0 0 = k ∧ (k = 0 → c' r_out 0 0 0 = v)
theorem zR.thr {c m : ZS} (h : zR c m) {z : Int} : zR c (e_upd m r_m_thrown 0 0 0 z) := h.cg (fun _ _ => rfl) (fun r hr => by
  funext i j k
  exact e_un (by
    simp only [zRM, List.mem_cons, List.not_mem_nil, or_false] at hr
    rcases hr with rfl | rfl | rfl | rfl | rfl | rfl | rfl <;> decide))
theorem zR.out {c m : ZS} (h : zR c m) {z : Int} : zR (e_upd c r_out 0 0 0 z) m := h.cg (fun r hr => by
  funext i j k
  exact e_un (by
    simp only [zRC, List.mem_cons, List.not_mem_nil, or_false] at hr
    rcases hr with rfl | rfl | rfl | rfl | rfl | rfl | rfl | rfl <;> decide)) (fun _ _ => rfl)
theorem o_deal {f n : Int} {c m : ZS} (h : zR c m) : zBoth (f_w_deal [f, n] c) (f_m_deal [f, n] m) := by
  obtain ⟨⟨a1, a2, a3⟩, ⟨b1, b2, b3⟩, -⟩ := id h
  show zBoth (e_try (g_x_deal ((1000, [f, n]), c)) (fun v1 S1 => ((0, [0]), e_upd S1 r_out 0 0 0 v1)) [(0, 1), (1, 2), (3, 3)]) (g_m_deal ((1000, [f, n]), m))
  rw [g_x_deal_0, q_film a1 (by omega), g_m_deal_0, q_noFilm (by omega) (by omega), a3, zb_n, zb_n, zb_n, q_isIn]
  by_cases hf : 0 ≤ f ∧ f < c r_x_filmCount 0 0 0
  · rw [if_pos hf, if_pos hf, if_pos rfl, e_b_ok, zb_n, q_within]
    by_cases hn : 1 ≤ n ∧ n ≤ 8
    · rw [if_pos hn, if_pos rfl, if_neg (by decide), if_neg (by decide), q_countFree b1 b2, e_b_ok, zb_d]
      rw [q_mcan (by rw [e_un (by decide), e_un (by decide), b3]; exact b1) (by rw [e_un (by decide), e_un (by decide), b3]; exact b2)]
      have hc := (h.thr.thr : zR c (e_upd (e_upd m r_m_thrown 0 0 0 0) r_m_thrown 0 0 0 0)).cnt hf.1 hf.2
      rw [hc]
      show zBoth (e_try (if n ≤ zcnt _ _ _ then _ else _) _ _) (if n ≤ zcnt _ _ _ then _ else _)
      by_cases hk : n ≤ zcnt (dpF c f (c r_Film_land f 0 0)) (c r_Readings_readerCount 0 0 0).toNat 0
      · rw [if_pos hk, if_pos hk, q_dealLoop hn.2 n.toNat 0 c (Int.le_refl _) (by omega) b1 b2]
        rw [q_mdealLoop hn.2 n.toNat 0 _ (Int.le_refl _) (by omega) (by rw [e_un (by decide), e_un (by decide), e_un (by decide), b3]; exact b1) (by rw [e_un (by decide), e_un (by decide), e_un (by decide), b3]; exact b2)]
        have hd := zR.deals n.toNat (h.thr.thr.thr : zR c (e_upd (e_upd (e_upd m r_m_thrown 0 0 0 0) r_m_thrown 0 0 0 0) r_m_thrown 0 0 0 0)) hf.1 hf.2 rfl (by omega)
        refine ⟨0, _, _, _, rfl, rfl, hd.out, ?_, fun _ => ?_⟩
        · rw [sM_t, e_us]
        · rw [e_us, e_un (by decide), e_un (by decide), e_un (by decide), b3]
          obtain ⟨-, ⟨d1, d2, d3⟩, -, -, ad, -⟩ := hd
          refine zcnt_cg _ 0 (fun i i0 i1 => ?_)
          rw [ad f i hf.1 (by omega) i0 (by omega)]
          by_cases q : zit (sF f (c r_Film_land f 0 0)) n.toNat c r_Readings_marks_r f 0 i = -2 <;> simp [q]
      · rw [if_neg hk, if_neg hk]
        exact ⟨3, 0, _, _, rfl, rfl, h.thr.thr.thr, e_us, fun q => absurd q (by decide)⟩
    · simp only [if_neg hn, ↓reduceIte]
      exact ⟨2, 0, _, _, rfl, rfl, h.thr.thr, e_us, fun q => absurd q (by decide)⟩
  · rw [if_neg hf, if_neg hf, if_neg (by decide), e_b_x (by decide) (by decide)]
    exact ⟨1, 0, _, _, rfl, rfl, h.thr, e_us, fun q => absurd q (by decide)⟩
theorem o_isDealt {f k : Int} {c m : ZS} (h : zR c m) : zBoth (f_w_isDealt [f, k] c) (f_m_isDealt [f, k] m) := by
  obtain ⟨⟨a1, a2, a3⟩, ⟨b1, b2, b3⟩, -, -, ad, -⟩ := id h
  show zBoth (e_try (e_bind (f_x_checkFilm [f] c) (fun _ S1 => e_bind (f_x_checkReader [k] S1) (fun _ S2 => (bif decide (S2 r_Readings_marks_r f 0 k = -2) then ((0, [0]), S2) else ((0, [1]), S2))))) (fun v1 S1 => (bif decide (v1 = 0) then ((0, [0]), e_upd S1 r_out 0 0 0 0) else ((0, [0]), e_upd S1 r_out 0 0 0 1))) [(0, 1)]) (e_bind (f_m_isNoReader [f, k] m) (fun v1 S1 => (bif !decide (v1 = 0) then ((0, [0]), S1) else (bif decide (S1 r_m_areDealt_r f 0 k = 0) then ((0, [0]), S1) else ((0, [1]), S1)))))
  rw [q_film a1 (by omega), q_noReader (by omega) (by omega) (by omega) (by omega), a3, b3]
  by_cases hf : 0 ≤ f ∧ f < c r_x_filmCount 0 0 0
  · rw [if_pos hf, e_b_ok, q_reader b1 (by omega)]
    by_cases hk : 0 ≤ k ∧ k < c r_Readings_readerCount 0 0 0
    · rw [if_pos hk, if_pos ⟨hf, hk⟩, e_b_ok, e_b_ok, zb_d]
      show zBoth _ (bif !decide ((0 : Int) = 0) then _ else _)
      rw [zb_n, if_pos rfl, zb_d, e_un (by decide), ad f k hf.1 (by omega) hk.1 (by omega)]
      by_cases q : c r_Readings_marks_r f 0 k = -2
      · simp only [if_pos q, ↓reduceIte]
        exact ⟨0, 0, _, _, rfl, rfl, h.thr.out, e_us, fun _ => e_us⟩
      · rw [if_neg q, if_neg q, if_neg (by decide)]
        exact ⟨0, 1, _, _, rfl, rfl, h.thr.out, e_us, fun _ => e_us⟩
    · rw [if_neg hk, if_neg (fun q => hk q.2), e_b_x (by decide) (by decide), e_b_ok]
      exact ⟨1, 0, _, _, rfl, rfl, h.thr, e_us, fun q => absurd q (by decide)⟩
  · rw [if_neg hf, if_neg (fun q => hf q.1), e_b_x (by decide) (by decide), e_b_ok]
    exact ⟨1, 0, _, _, rfl, rfl, h.thr, e_us, fun q => absurd q (by decide)⟩
theorem q_addReader {l : Int} {c : ZS} (b1 : 0 ≤ c r_Readings_readerCount 0 0 0) (b2 : c r_Readings_readerCount 0 0 0 ≤ 8) : f_Readings_addReader [l] c = ((0, [c r_Readings_readerCount 0 0 0]), e_upd (e_upd c r_Readings_lands 0 0 (c r_Readings_readerCount 0 0 0) l) r_Readings_readerCount 0 0 0 (c r_Readings_readerCount 0 0 0 + 1)) := by
  unfold f_Readings_addReader
  dsimp only
  rw [e_us, e_wr_id (x := c r_Readings_readerCount 0 0 0 + 1) (by omega) (by omega), e_wr_id (by omega) (by omega), Int.add_sub_cancel]
theorem o_reader {l : Int} {c m : ZS} (h : zR c m) : zBoth (f_w_reader [l] c) (f_m_reader [l] m) := by
  obtain ⟨a, ⟨b1, b2, b3⟩, ll, fl, ad, dm, mk, ts⟩ := id h
  show zBoth (e_try (bif !decide (v_x_isWithin l 0 9 c = 0) then (bif decide (c r_Readings_readerCount 0 0 0 < 8) then (e_bind (f_Readings_addReader [l] c) (fun v1 S1 => ((0, [v1]), S1))) else ((3, []), c)) else ((2, []), c)) (fun v1 S1 => ((0, [0]), e_upd S1 r_out 0 0 0 v1)) [(1, 1), (2, 2)]) (bif !decide (v_m_isIn l 0 9 m = 0) then (bif !decide (m r_m_readers 0 0 0 = 8) then _ else _) else _)
  simp only [zb_n, zb_d, q_within, q_isIn, b3, q_addReader b1 b2, e_bnd]
  by_cases hl : 0 ≤ l ∧ l ≤ 9
  · by_cases hr : c r_Readings_readerCount 0 0 0 = 8
    · simp only [if_pos hl, if_pos hr, if_neg (show ¬ c r_Readings_readerCount 0 0 0 < 8 by omega), Int.reduceEq, ↓reduceIte]
      exact ⟨2, 0, _, _, rfl, rfl, h.thr.thr, e_us, fun q => absurd q (by decide)⟩
    · simp only [if_pos hl, if_neg hr, if_pos (show c r_Readings_readerCount 0 0 0 < 8 by omega), Int.reduceEq, ↓reduceIte]
      rw [e_us, e_wr_id (x := c r_Readings_readerCount 0 0 0 + 1) (by omega) (by omega), e_wr_id (by omega) (by omega)]
      refine ⟨0, c r_Readings_readerCount 0 0 0 + 1 - 1, _, _, rfl, rfl, zR.out ?_, by simp (decide := true) only [e_un, e_us], fun _ => ?_⟩
      · refine ⟨?_, ?_, ?_, ?_, ?_, ?_, ?_, ?_⟩
        · simpa (decide := true) only [e_un] using a
        · simp (decide := true) only [e_us]
          exact ⟨by omega, by omega, trivial⟩
        · intro k k0 k1
          simp (decide := true) only [e_un, e_ur]
          rw [ll k k0 k1]
        · simpa (decide := true) only [e_un] using fl
        · simpa (decide := true) only [e_un] using ad
        · simpa (decide := true) only [e_un] using dm
        · simpa (decide := true) only [e_un] using mk
        · simpa (decide := true) only [e_un] using ts
      · simp (decide := true) only [e_us, Int.add_sub_cancel]
        rfl
  · simp only [if_neg hl, ↓reduceIte]
    exact ⟨1, 0, _, _, rfl, rfl, h.thr, e_us, fun q => absurd q (by decide)⟩
