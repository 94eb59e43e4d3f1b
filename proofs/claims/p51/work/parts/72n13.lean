/-! needs: n12. Dealing: a film's readers, one after another -/
def n_fr (ld row : Int → Int) (l k : Int) : Bool := decide (ld k ≠ l) && decide (row k = -2)
def n_bst (ld : Int → Int) (R : Nat) (l : Int) (s : (Int → Int) × (Int → Int)) : Int := zbest (n_fr ld s.2 l) s.1 R 0 (-1)
def n_dl1 (ld : Int → Int) (R : Nat) (l : Int) (s : (Int → Int) × (Int → Int)) : (Int → Int) × (Int → Int) := (fun k => if k = n_bst ld R l s then s.1 k + 1 else s.1 k, fun k => if k = n_bst ld R l s then -1 else s.2 k)
def n_dlt (ld : Int → Int) (R : Nat) (l : Int) : Nat → (Int → Int) × (Int → Int) → (Int → Int) × (Int → Int)
  | 0, s => s
  | t + 1, s => n_dlt ld R l t (n_dl1 ld R l s)
theorem n_dlt_s {ld : Int → Int} {R : Nat} {l : Int} : ∀ (t : Nat) (s : (Int → Int) × (Int → Int)), n_dlt ld R l (t + 1) s = n_dl1 ld R l (n_dlt ld R l t s)
  | 0, _ => rfl
  | t + 1, s => n_dlt_s t (n_dl1 ld R l s)
theorem n_dl1_ct {ld : Int → Int} {R : Nat} {l : Int} {s : (Int → Int) × (Int → Int)} (h : 0 < zcnt (n_fr ld s.2 l) R 0) : (0 ≤ n_bst ld R l s ∧ n_bst ld R l s < R) ∧ n_fr ld s.2 l (n_bst ld R l s) = true ∧ zcnt (n_fr ld (n_dl1 ld R l s).2 l) R 0 = zcnt (n_fr ld s.2 l) R 0 - 1 := by
  obtain ⟨i, i0, i1, hi⟩ := zcnt_pos R 0 h
  have b0 : 0 ≤ n_bst ld R l s := zbest_nn R 0 (-1) (by omega) (Or.inr ⟨i, i0, i1, hi⟩)
  have b1 := (zbest_lt (p := n_fr ld s.2 l) (w := s.1) R 0 (-1) (by omega) (by omega) (by omega)).2
  have b1 : n_bst ld R l s < R := by
    unfold n_bst
    omega
  have bp : n_fr ld s.2 l (n_bst ld R l s) = true := by
    rcases zbest_p (p := n_fr ld s.2 l) (w := s.1) R 0 (-1) (Or.inl (by omega)) with q | q
    · have b0' := b0
      unfold n_bst at b0'
      omega
    · exact q
  refine ⟨⟨b0, b1⟩, bp, ?_⟩
  rw [zcnt_one bp R 0 b0 (by omega)]
  have e : zcnt (n_fr ld (n_dl1 ld R l s).2 l) R 0 = zcnt (fun i => n_fr ld s.2 l i && decide (i ≠ n_bst ld R l s)) R 0 := zcnt_cg R 0 (fun i _ _ => by
    unfold n_dl1
    unfold n_fr
    dsimp only
    by_cases q : i = n_bst ld R l s
    · simp [q]
    · simp [q])
  rw [e]
  omega
/-- after t dealings: so many fewer may be dealt, so many more are -/
theorem n_dlt_ct {ld : Int → Int} {R : Nat} {l : Int} : ∀ (t : Nat) (s : (Int → Int) × (Int → Int)), (t : Int) ≤ zcnt (n_fr ld s.2 l) R 0 → zcnt (n_fr ld (n_dlt ld R l t s).2 l) R 0 = zcnt (n_fr ld s.2 l) R 0 - t ∧ zcnt (fun k => decide ((n_dlt ld R l t s).2 k ≠ -2)) R 0 = zcnt (fun k => decide (s.2 k ≠ -2)) R 0 + t
  | 0, s, _ => ⟨by show zcnt (n_fr ld s.2 l) R 0 = zcnt (n_fr ld s.2 l) R 0 - ((0 : Nat) : Int); omega, by show zcnt (fun k => decide (s.2 k ≠ -2)) R 0 = zcnt (fun k => decide (s.2 k ≠ -2)) R 0 + ((0 : Nat) : Int); omega⟩
  | t + 1, s, h => by
    obtain ⟨⟨b0, b1⟩, bp, hc⟩ := n_dl1_ct (ld := ld) (R := R) (l := l) (s := s) (by omega)
    obtain ⟨k1, k2⟩ := n_dlt_ct (ld := ld) (R := R) (l := l) t (n_dl1 ld R l s) (by omega)
    refine ⟨by show zcnt (n_fr ld (n_dlt ld R l t (n_dl1 ld R l s)).2 l) R 0 = _; rw [k1, hc]; omega, ?_⟩
    show zcnt (fun k => decide ((n_dlt ld R l t (n_dl1 ld R l s)).2 k ≠ -2)) R 0 = _
    rw [k2]
    have e : zcnt (fun k => decide ((n_dl1 ld R l s).2 k ≠ -2)) R 0 = zcnt (fun k => decide (s.2 k ≠ -2)) R 0 + 1 := by
      have hb : decide ((n_dl1 ld R l s).2 (n_bst ld R l s) ≠ -2) = true := by
        unfold n_dl1
        simp
      rw [zcnt_one (p := fun k => decide ((n_dl1 ld R l s).2 k ≠ -2)) hb R 0 b0 (by omega)]
      congr 1
      refine zcnt_cg R 0 (fun i _ _ => ?_)
      unfold n_fr at bp
      rw [Bool.and_eq_true, decide_eq_true_eq, decide_eq_true_eq] at bp
      unfold n_dl1
      dsimp only
      by_cases q : i = n_bst ld R l s
      · simp [q, bp.2]
      · simp [q]
    omega
def n_sG (G : Nat → Int → Int) (dl : Int → Int) : Nat → Int → Int := fun a k => if a = 2 then dl k else G a k
def n_sM (M : Int → Int → Int) (f : Int) (row : Int → Int) : Int → Int → Int := fun g k => if g = f then row k else M g k
theorem n_K.eq {G G' : Nat → Int → Int} {M M' : Int → Int → Int} {S : ZS} (h : n_K G M S) (e0 : ∀ a, a ≠ 2 → G' a = G a) (e1 : ∀ k, 0 ≤ k → k < 8 → G' 2 k = G 2 k) (e2 : ∀ f k, 0 ≤ f → f < 20 → 0 ≤ k → k < 8 → M' f k = M f k) : n_K G' M' S := by
  obtain ⟨⟨h1, h2, h3⟩, h4, h5, h6, h7, h8, h9⟩ := h
  rw [← e0 0 (by decide)] at h1 h2 h3
  refine ⟨⟨h1, h2, h3⟩, fun k k0 k1 => ?_, fun f f0 f1 => ?_, fun s s0 s1 => ?_, h7, h8, h9⟩
  · rw [e0 0 (by decide), e0 1 (by decide), e1 k k0 k1, e0 3 (by decide), e0 4 (by decide)]
    exact h4 k k0 k1
  · rw [e0 0 (by decide), e0 5 (by decide), e0 6 (by decide), e0 7 (by decide), e0 8 (by decide), e0 9 (by decide)]
    obtain ⟨q1, q2, q3, q4, q5⟩ := h5 f f0 f1
    exact ⟨q1, q2, q3, q4, fun k k0 k1 => by rw [e2 f k f0 f1 k0 k1]; exact q5 k k0 k1⟩
  · rw [e0 0 (by decide), e0 10 (by decide), e0 11 (by decide), e0 12 (by decide), e0 13 (by decide), e0 14 (by decide)]
    exact h6 s s0 s1
theorem k_sF {G : Nat → Int → Int} {M : Int → Int → Int} {S : ZS} {f l : Int} {R : Nat} (h : n_K G M S) (f0 : 0 ≤ f) (f1 : f < 20) (hR : G 0 1 = R) (hR8 : R ≤ 8) (hb : ∀ k, 0 ≤ k → k < 8 → 0 ≤ G 2 k ∧ G 2 k ≤ 1000) : n_K (n_sG G (n_dl1 (G 1) R l (G 2, M f)).1) (n_sM M f (n_dl1 (G 1) R l (G 2, M f)).2) (sF f l S) := by
  have hbF : bF S f l = n_bst (G 1) R l (G 2, M f) := by
    obtain ⟨⟨h1, h2, h3⟩, h4, h5, -⟩ := id h
    unfold bF n_bst
    rw [h2, hR, Int.toNat_natCast]
    refine zbest_cg R 0 (-1) (by omega) (fun i i0 i1 => ⟨?_, ?_⟩) (by omega)
    · unfold dpF n_fr
      rw [(h4 i i0 (by omega)).1 (by omega), (h5 f f0 f1).2.2.2.2 i i0 (by omega)]
    · exact (h4 i i0 (by omega)).2.1
  have hlt := zbest_lt (p := n_fr (G 1) (M f) l) (w := G 2) R 0 (-1) (by omega) (by omega) (by omega)
  have hbl : -1 ≤ n_bst (G 1) R l (G 2, M f) ∧ n_bst (G 1) R l (G 2, M f) < R := by
    unfold n_bst
    dsimp only
    omega
  unfold sF
  rw [hbF]
  unfold n_dl1
  generalize n_bst (G 1) R l (G 2, M f) = b at hbl ⊢
  dsimp only
  by_cases hm : b = -1
  · rw [if_pos hm]
    refine h.eq (fun a ha => ?_) (fun k k0 k1 => ?_) (fun g k g0 g1 k0 k1 => ?_)
    · funext k
      exact if_neg ha
    · show (if k = b then G 2 k + 1 else G 2 k) = _
      rw [if_neg (by omega)]
    · unfold n_sM
      split
      · rename_i e
        show (if k = b then -1 else M f k) = M g k
        rw [if_neg (by omega), e]
      · rfl
  · rw [if_neg hm]
    obtain ⟨⟨h1, h2, h3⟩, h4, h5, h6, h7, h8, h9⟩ := h
    have hd := (h4 b (by omega) (by omega)).2.1
    have hbb := hb b (by omega) (by omega)
    rw [hd, e_wr_id (by omega) (by omega)]
    refine ⟨⟨?_, ?_, ?_⟩, fun k k0 k1 => ?_, fun g g0 g1 => ?_, fun s s0 s1 => ?_, ?_, ?_, ?_⟩
    · simp (decide := true) only [e_un, n_sG, if_false]
      exact h1
    · simp (decide := true) only [e_un, n_sG, if_false]
      exact h2
    · simp (decide := true) only [e_un, n_sG, if_false]
      exact h3
    · simp (decide := true) only [e_un, e_ur, n_sG, if_false, if_true, true_and]
      obtain ⟨q1, q2, q3, q4⟩ := h4 k k0 k1
      refine ⟨q1, ?_, q3, q4⟩
      by_cases e : k = b
      · rw [if_pos e, if_pos e, e]
      · simp only [if_neg e]
        exact q2
    · simp (decide := true) only [e_un, e_ur, n_sG, n_sM, if_false, if_true, true_and]
      obtain ⟨q1, q2, q3, q4, q5⟩ := h5 g g0 g1
      refine ⟨q1, q2, q3, q4, fun k k0 k1 => ?_⟩
      by_cases e : g = f
      · by_cases e2 : k = b
        · simp only [e, e2, and_self, if_true]
        · simp only [e, e2, and_false, if_false, if_true]
          rw [← e]
          exact q5 k k0 k1
      · simp only [e, false_and, if_false]
        exact q5 k k0 k1
    · simp (decide := true) only [e_un, n_sG, if_false]
      exact h6 s s0 s1
    · simp (decide := true) only [e_un]
      exact h7
    · simp (decide := true) only [e_un]
      exact h8
    · simp (decide := true) only [e_un]
      exact h9
