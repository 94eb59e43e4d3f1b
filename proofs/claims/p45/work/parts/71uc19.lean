/-! The relations of the juries -/
def zTy (c m : ZS) : Prop := c r_x_typed_len 0 0 0 = 9 ∧ (0 ≤ c r_x_typedCount 0 0 0 ∧ c r_x_typedCount 0 0 0 ≤ 9 ∧ m r_m_typedMany 0 0 0 = c r_x_typedCount 0 0 0) ∧ ∀ k, 0 ≤ k → k < c r_x_typedCount 0 0 0 → m r_m_typed 0 0 k = c r_x_typed 0 0 k ∧ 0 ≤ c r_x_typed 0 0 k ∧ c r_x_typed 0 0 k < c r_x_filmCount 0 0 0
def zTyC : List Nat := [r_x_typed_len, r_x_typedCount, r_x_typed, r_x_filmCount]
def zTyM : List Nat := [r_m_typedMany, r_m_typed]
theorem zTy_rel : zRel zTy zTyC zTyM := fun {c m c' m'} h hc hm => by
  unfold zTy
  rw [hc r_x_typed_len (by decide), hc r_x_typedCount (by decide), hc r_x_typed (by decide), hc r_x_filmCount (by decide), hm r_m_typedMany (by decide), hm r_m_typed (by decide)]
  exact h
theorem zTy.out {c m : ZS} (h : zTy c m) {z : Int} : zTy (e_upd c r_out 0 0 0 z) m := zTy_rel.uc h (by decide)
theorem zTy.thr {c m : ZS} (h : zTy c m) {z : Int} : zTy c (e_upd m r_m_thrown 0 0 0 z) := zTy_rel.um h (by decide)
def zJu (c m : ZS) : Prop := ∀ s, 0 ≤ s → s < 5 → (0 ≤ c r_Section_jurorCount s 0 0 ∧ c r_Section_jurorCount s 0 0 ≤ 5 ∧ m r_m_jurorMany 0 0 s = c r_Section_jurorCount s 0 0) ∧ ∀ j, 0 ≤ j → j < c r_Section_jurorCount s 0 0 → m r_m_jurorLands_r s 0 j = c r_Juror_land s j 0
def zJuC : List Nat := [r_Section_jurorCount, r_Juror_land]
def zJuM : List Nat := [r_m_jurorMany, r_m_jurorLands_r]
theorem zJu_rel : zRel zJu zJuC zJuM := fun {c m c' m'} h hc hm => by
  unfold zJu
  rw [hc r_Section_jurorCount (by decide), hc r_Juror_land (by decide), hm r_m_jurorMany (by decide), hm r_m_jurorLands_r (by decide)]
  exact h
theorem zJu.out {c m : ZS} (h : zJu c m) {z : Int} : zJu (e_upd c r_out 0 0 0 z) m := zJu_rel.uc h (by decide)
theorem zJu.thr {c m : ZS} (h : zJu c m) {z : Int} : zJu c (e_upd m r_m_thrown 0 0 0 z) := zJu_rel.um h (by decide)
def zSn (c m : ZS) : Prop := ∀ s j f, 0 ≤ s → s < 5 → 0 ≤ j → j < 5 → 0 ≤ f → f < 20 → m r_m_haveSeen_r_r s j f = c r_Juror_hasSeen s j f
def zSnC : List Nat := [r_Juror_hasSeen]
def zSnM : List Nat := [r_m_haveSeen_r_r]
theorem zSn_rel : zRel zSn zSnC zSnM := fun {c m c' m'} h hc hm => by
  unfold zSn
  rw [hc r_Juror_hasSeen (by decide), hm r_m_haveSeen_r_r (by decide)]
  exact h
theorem zSn.out {c m : ZS} (h : zSn c m) {z : Int} : zSn (e_upd c r_out 0 0 0 z) m := zSn_rel.uc h (by decide)
theorem zSn.thr {c m : ZS} (h : zSn c m) {z : Int} : zSn c (e_upd m r_m_thrown 0 0 0 z) := zSn_rel.um h (by decide)
def zSa (c m : ZS) : Prop := ∀ s j, 0 ≤ s → s < 5 → 0 ≤ j → j < 5 → (-1 ≤ c r_Juror_lastHour s j 0 ∧ c r_Juror_lastHour s j 0 ≤ c r_Grid_hour 0 0 0) ∧ (c r_Section_jurorCount s 0 0 ≤ j → c r_Juror_lastHour s j 0 = -1) ∧ (j < c r_Section_jurorCount s 0 0 → (∀ x, c r_Juror_lastHour s j 0 < x → 0 ≤ x → x ≤ 50 → m r_m_sawAt_r_r s j x = -1) ∧ (0 ≤ c r_Juror_lastHour s j 0 → m r_m_sawAt_r_r s j (c r_Juror_lastHour s j 0) = c r_Juror_lastShow s j 0 ∧ 0 ≤ c r_Juror_lastShow s j 0))
def zSaC : List Nat := [r_Juror_lastHour, r_Juror_lastShow, r_Grid_hour, r_Section_jurorCount]
def zSaM : List Nat := [r_m_sawAt_r_r]
theorem zSa_rel : zRel zSa zSaC zSaM := fun {c m c' m'} h hc hm => by
  unfold zSa
  rw [hc r_Juror_lastHour (by decide), hc r_Juror_lastShow (by decide), hc r_Grid_hour (by decide), hc r_Section_jurorCount (by decide), hm r_m_sawAt_r_r (by decide)]
  exact h
theorem zSa.out {c m : ZS} (h : zSa c m) {z : Int} : zSa (e_upd c r_out 0 0 0 z) m := zSa_rel.uc h (by decide)
theorem zSa.thr {c m : ZS} (h : zSa c m) {z : Int} : zSa c (e_upd m r_m_thrown 0 0 0 z) := zSa_rel.um h (by decide)
def zBa (c m : ZS) : Prop := ∀ s j, 0 ≤ s → s < 5 → 0 ≤ j → j < 5 → (0 ≤ c r_Juror_ballotSize s j 0 ∧ c r_Juror_ballotSize s j 0 ≤ 9 ∧ m r_m_ballotMany_r s 0 j = c r_Juror_ballotSize s j 0) ∧ (∀ k, 0 ≤ k → k < c r_Juror_ballotSize s j 0 → m r_m_ballots_r_r s j k = c r_Juror_ballot s j k ∧ 0 ≤ c r_Juror_ballot s j k ∧ c r_Juror_ballot s j k < c r_x_filmCount 0 0 0) ∧ ∀ k l, 0 ≤ k → k < l → l < c r_Juror_ballotSize s j 0 → c r_Juror_ballot s j k ≠ c r_Juror_ballot s j l
def zBaC : List Nat := [r_Juror_ballotSize, r_Juror_ballot, r_x_filmCount]
def zBaM : List Nat := [r_m_ballotMany_r, r_m_ballots_r_r]
theorem zBa_rel : zRel zBa zBaC zBaM := fun {c m c' m'} h hc hm => by
  unfold zBa
  rw [hc r_Juror_ballotSize (by decide), hc r_Juror_ballot (by decide), hc r_x_filmCount (by decide), hm r_m_ballotMany_r (by decide), hm r_m_ballots_r_r (by decide)]
  exact h
theorem zBa.out {c m : ZS} (h : zBa c m) {z : Int} : zBa (e_upd c r_out 0 0 0 z) m := zBa_rel.uc h (by decide)
theorem zBa.thr {c m : ZS} (h : zBa c m) {z : Int} : zBa c (e_upd m r_m_thrown 0 0 0 z) := zBa_rel.um h (by decide)
def zRu (c m : ZS) : Prop := (0 ≤ c r_x_sectionCount 0 0 0 ∧ c r_x_sectionCount 0 0 0 ≤ 5 ∧ m r_m_sectionMany 0 0 0 = c r_x_sectionCount 0 0 0) ∧ ∀ s, 0 ≤ s → s < 5 → (c r_Section_rule s 0 0 = 109 ∨ c r_Section_rule s 0 0 = 98 ∨ c r_Section_rule s 0 0 = 99 ∨ c r_Section_rule s 0 0 = 114) ∧ (s < c r_x_sectionCount 0 0 0 → m r_m_rules 0 0 s = c r_Section_rule s 0 0) ∧ (c r_x_sectionCount 0 0 0 ≤ s → c r_Section_rule s 0 0 = 109)
def zRuC : List Nat := [r_x_sectionCount, r_Section_rule]
def zRuM : List Nat := [r_m_sectionMany, r_m_rules]
theorem zRu_rel : zRel zRu zRuC zRuM := fun {c m c' m'} h hc hm => by
  unfold zRu
  rw [hc r_x_sectionCount (by decide), hc r_Section_rule (by decide), hm r_m_sectionMany (by decide), hm r_m_rules (by decide)]
  exact h
theorem zRu.out {c m : ZS} (h : zRu c m) {z : Int} : zRu (e_upd c r_out 0 0 0 z) m := zRu_rel.uc h (by decide)
theorem zRu.thr {c m : ZS} (h : zRu c m) {z : Int} : zRu c (e_upd m r_m_thrown 0 0 0 z) := zRu_rel.um h (by decide)
def zAw (c m : ZS) : Prop := ∀ s, 0 ≤ s → s < 5 → m r_m_areGiven 0 0 s = c r_Section_isAwarded s 0 0
def zAwC : List Nat := [r_Section_isAwarded]
def zAwM : List Nat := [r_m_areGiven]
theorem zAw_rel : zRel zAw zAwC zAwM := fun {c m c' m'} h hc hm => by
  unfold zAw
  rw [hc r_Section_isAwarded (by decide), hm r_m_areGiven (by decide)]
  exact h
theorem zAw.out {c m : ZS} (h : zAw c m) {z : Int} : zAw (e_upd c r_out 0 0 0 z) m := zAw_rel.uc h (by decide)
theorem zAw.thr {c m : ZS} (h : zAw c m) {z : Int} : zAw c (e_upd m r_m_thrown 0 0 0 z) := zAw_rel.um h (by decide)
