/-! The archive: the class's ring and the model's row that moves up -/
theorem e_an {S : ZS} {r r' ρ : Nat} {x y sp x' y' dp n i j k : Int} (h : (ρ == r') = false) : e_acp S r x y sp r' x' y' dp n ρ i j k = S ρ i j k := if_neg fun q => by
  rw [q.1, beq_self_eq_true] at h
  cases h
theorem e_as {S : ZS} {r r' : Nat} {x y sp x' y' dp n k : Int} : e_acp S r x y sp r' x' y' dp n r' x' y' k = if dp ≤ k ∧ k < dp + n then S r x y (k - dp + sp) else S r' x' y' k := by
  unfold e_acp
  by_cases h : dp ≤ k ∧ k < dp + n
  · rw [if_pos ⟨rfl, rfl, rfl, h⟩, if_pos h]
  · rw [if_neg (fun q => h q.2.2.2), if_neg h]
def zix (p : Int) : Int := if p < 0 then p + 400 else p
def zAr (c m : ZS) : Prop := (0 ≤ c r_Archive_lineCount 0 0 0 ∧ c r_Archive_lineCount 0 0 0 ≤ 400 ∧ m r_m_lineMany 0 0 0 = c r_Archive_lineCount 0 0 0) ∧ (0 ≤ c r_Archive_next 0 0 0 ∧ c r_Archive_next 0 0 0 < 400 ∧ (c r_Archive_lineCount 0 0 0 < 400 → c r_Archive_next 0 0 0 = c r_Archive_lineCount 0 0 0)) ∧ ∀ i, 0 ≤ i → i < c r_Archive_lineCount 0 0 0 → m r_m_letters 0 0 i = c r_Archive_letters 0 0 (zix (c r_Archive_next 0 0 0 + i - c r_Archive_lineCount 0 0 0)) ∧ m r_m_lineFilms 0 0 i = c r_Archive_filmOf 0 0 (zix (c r_Archive_next 0 0 0 + i - c r_Archive_lineCount 0 0 0))
def zArC : List Nat := [r_Archive_lineCount, r_Archive_next, r_Archive_letters, r_Archive_filmOf]
def zArM : List Nat := [r_m_lineMany, r_m_letters, r_m_lineFilms]
theorem zAr_rel : zRel zAr zArC zArM := fun {c m c' m'} h hc hm => by
  unfold zAr
  rw [hc r_Archive_lineCount (by decide), hc r_Archive_next (by decide), hc r_Archive_letters (by decide), hc r_Archive_filmOf (by decide), hm r_m_lineMany (by decide), hm r_m_letters (by decide), hm r_m_lineFilms (by decide)]
  exact h
theorem q_next {x : Int} (h0 : 0 ≤ x) (h1 : x < 400) : e_wr ((e_wr (x + 1)) - e_wr (e_div (e_wr (x + 1)) 400 * 400)) = if x = 399 then 0 else x + 1 := by
  rw [e_wr_id (x := x + 1) (by omega) (by omega)]
  unfold e_div
  rw [Int.tdiv_eq_ediv_of_nonneg (by omega)]
  by_cases q : x = 399
  · subst q
    decide
  · have : (x + 1) / 400 = 0 := by omega
    rw [this, if_neg q, e_wr_id (x := (0 : Int)) (by omega) (by omega), Int.zero_mul, e_wr_id (x := (0 : Int)) (by omega) (by omega), Int.sub_zero, e_wr_id (by omega) (by omega)]
theorem q_add {l f : Int} {c : ZS} (n0 : 0 ≤ c r_Archive_lineCount 0 0 0) (n1 : c r_Archive_lineCount 0 0 0 ≤ 400) (x0 : 0 ≤ c r_Archive_next 0 0 0) (x1 : c r_Archive_next 0 0 0 < 400) : f_Archive_add [l, f] c = ((0, []), e_upd (e_upd (e_upd (e_upd c r_Archive_letters 0 0 (c r_Archive_next 0 0 0) (e_nar 2 l)) r_Archive_filmOf 0 0 (c r_Archive_next 0 0 0) f) r_Archive_next 0 0 0 (if c r_Archive_next 0 0 0 = 399 then 0 else c r_Archive_next 0 0 0 + 1)) r_Archive_lineCount 0 0 0 (if c r_Archive_lineCount 0 0 0 = 400 then 400 else c r_Archive_lineCount 0 0 0 + 1)) := by
  unfold f_Archive_add
  dsimp only
  rw [q_next x0 x1, e_wr_id (x := c r_Archive_lineCount 0 0 0 + 1) (by omega) (by omega)]
  by_cases q : c r_Archive_lineCount 0 0 0 = 400
  · rw [if_pos (show 400 < c r_Archive_lineCount 0 0 0 + 1 by omega), if_pos q]
  · rw [if_neg (show ¬ 400 < c r_Archive_lineCount 0 0 0 + 1 by omega), if_neg q]
theorem q_writes {l f : Int} {m : ZS} (n0 : 0 ≤ m r_m_lineMany 0 0 0) (n1 : m r_m_lineMany 0 0 0 ≤ 400) : f_m_writes [l, f] m = ((0, []), if m r_m_lineMany 0 0 0 = 400 then e_upd (e_upd (e_upd (e_upd (e_acp (e_acp m r_m_letters 0 0 1 r_m_letters 0 0 0 399) r_m_lineFilms 0 0 1 r_m_lineFilms 0 0 0 399) r_m_lineMany 0 0 0 399) r_m_letters 0 0 399 (e_nar 2 l)) r_m_lineFilms 0 0 399 f) r_m_lineMany 0 0 0 400 else e_upd (e_upd (e_upd m r_m_letters 0 0 (m r_m_lineMany 0 0 0) (e_nar 2 l)) r_m_lineFilms 0 0 (m r_m_lineMany 0 0 0) f) r_m_lineMany 0 0 0 (m r_m_lineMany 0 0 0 + 1)) := by
  unfold f_m_writes
  simp only [zb_n]
  by_cases q : m r_m_lineMany 0 0 0 = 400
  · rw [if_pos q, if_pos q]
    simp (decide := true) only [e_us, e_un, e_an, q, e_wr_id, Int.reduceSub, Int.reduceAdd]
  · rw [if_neg q, if_neg q, e_wr_id (by omega) (by omega)]
theorem s_add {l f : Int} {c m : ZS} (h : zAr c m) : zAr (f_Archive_add [l, f] c).2 (f_m_writes [l, f] m).2 := by
  obtain ⟨⟨a1, a2, a3⟩, ⟨b1, b2, b3⟩, s⟩ := h
  rw [q_add a1 a2 b1 b2, q_writes (by omega) (by omega), a3]
  by_cases q : c r_Archive_lineCount 0 0 0 = 400
  · rw [q] at s
    rw [if_pos q]
    refine ⟨?_, ?_, fun i i0 i1 => ?_⟩
    · simp (decide := true) only [e_us, q, ↓reduceIte]
    · refine ⟨?_, ?_, fun z => absurd z ?_⟩
      · simp (decide := true) only [e_us, e_un]
        split <;> omega
      · simp (decide := true) only [e_us, e_un]
        split <;> omega
      · simp (decide := true) only [e_us, e_un, q, ↓reduceIte]
    · simp (decide := true) only [e_us, e_un, q, ↓reduceIte] at i1
      simp (decide := true) only [e_us, e_un, e_ur, e_an, e_as, q, ↓reduceIte, true_and]
      by_cases w : i = 399
      · subst w
        have : zix ((if c r_Archive_next 0 0 0 = 399 then 0 else c r_Archive_next 0 0 0 + 1) + 399 - 400) = c r_Archive_next 0 0 0 := by
          unfold zix
          split <;> split <;> omega
        rw [this]
        simp (decide := true) only [↓reduceIte]
      · have e : zix ((if c r_Archive_next 0 0 0 = 399 then 0 else c r_Archive_next 0 0 0 + 1) + i - 400) = zix (c r_Archive_next 0 0 0 + (i + 1) - 400) := by
          unfold zix
          split <;> split <;> split <;> omega
        have e2 : zix (c r_Archive_next 0 0 0 + (i + 1) - 400) ≠ c r_Archive_next 0 0 0 := by
          unfold zix
          split <;> omega
        rw [e, if_neg e2, if_neg e2, if_neg w, if_neg w, if_pos (by omega), if_pos (by omega), Int.sub_zero]
        exact s (i + 1) (by omega) (by omega)
  · have hx := b3 (by omega)
    rw [if_neg q]
    refine ⟨?_, ?_, fun i i0 i1 => ?_⟩
    · simp (decide := true) only [e_us, q, ↓reduceIte]
      exact ⟨by omega, by omega, trivial⟩
    · refine ⟨?_, ?_, fun z => ?_⟩
      · simp (decide := true) only [e_us, e_un]
        split <;> omega
      · simp (decide := true) only [e_us, e_un]
        split <;> omega
      · simp (decide := true) only [e_us, e_un, q, ↓reduceIte] at z ⊢
        split <;> omega
    · simp (decide := true) only [e_us, e_un, q, ↓reduceIte] at i1
      simp (decide := true) only [e_us, e_un, e_ur, q, ↓reduceIte, true_and]
      have e : zix ((if c r_Archive_next 0 0 0 = 399 then 0 else c r_Archive_next 0 0 0 + 1) + i - (c r_Archive_lineCount 0 0 0 + 1)) = i := by
        unfold zix
        split <;> split <;> omega
      rw [e, hx]
      by_cases w : i = c r_Archive_lineCount 0 0 0
      · simp only [if_pos w, and_self]
      · rw [if_neg w, if_neg w, if_neg w, if_neg w]
        have := s i i0 (by omega)
        rw [hx, show c r_Archive_lineCount 0 0 0 + i - c r_Archive_lineCount 0 0 0 = i by omega, show zix i = i from if_neg (by omega)] at this
        exact this
