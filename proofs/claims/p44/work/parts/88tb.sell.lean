/-! sell, where it is done: a new row (wip/g3/rights.py) -/
section PP
variable {K : BH} {ν : BN} {h0 h : AH}
/-- an end that is one of a contract's, checked -/
def b_pqP (K : BH) (R : BRw) (p : BSo) (p' : BPo) (G : BG) (σ : List BV) (mc ms : Nat) : Bool := match p.1, p'.1 with
  | .inl (.inl (some b)), .inl (some b0) => decide (b_sb σ b0 = some b) && (b_inst K σ (R.2.2.1.2.1 ++ p'.2.1.1, p'.2.1.2.1, p'.2.1.2.2) G && (decide (σ.take R.2.2.1.2.1.length = b_id R.2.2.1.2.1) && decide (p'.2.2 = (mc + p.2.2.1, ms + p.2.2.2))))
  | _, _ => false
theorem b_pq.post {R : BRw} {d : Nat} {p : BSo} {E0 : BQ} {mc ms : Nat} {F : BF} {C : BC} {O : BO} {W : BW} (p' : BPo) (hp : p' ∈ R.2.2.2.2) (σ : List BV) (hk : b_pqP K R p p' (E0 ++ p.2.1.1, F, C, [], []) σ mc ms = true) (g : b_G K ν h0 h (E0 ++ p.2.1.1, F, C, O, W)) : b_pq K R d p (E0 ++ p.2.1.1).length ν h mc ms := by
  unfold b_pqP at hk
  unfold b_pq
  split at hk
  · rename_i b b0 hp1 hp2
    rw [hp1]
    dsimp only
    simp only [Bool.and_eq_true, decide_eq_true_eq] at hk
    obtain ⟨s1, s2, s3, s4⟩ := hk
    intro r r1 r2 r3
    have s2' : b_inst K σ (R.2.2.1.2.1 ++ p'.2.1.1, p'.2.1.2.1, p'.2.1.2.2) (E0 ++ p.2.1.1, F, C, O, W) = true := s2
    obtain ⟨i1, i2, i3, i4, i5⟩ := b_inst_ok g s2'
    have i1 : σ.length = (R.2.2.1.2.1 ++ p'.2.1.1).length := i1
    have x := b_id_ext (ν := ν) (by rw [i1, List.length_append]; exact Nat.le_add_right _ _) s3
    rw [i1] at x
    refine ⟨p', hp, b_vT σ ν, x, ?_, ⟨i3, fun f hf => by rw [r2]; exact i4 f hf, i5, (fun o ho => by cases ho), by rw [r2]; exact g.2.2.2.2.1, by rw [r2]; exact b_frm.rf.mono (fun w hw => by cases hw)⟩, by rw [r3, s4]⟩
    cases hr : r.1 with
    | inr k' => rw [hr] at r1; exact r1.elim
    | inl v =>
      rw [hr] at r1
      cases v with
      | none => exact r1.elim
      | some v =>
        rw [hp2]
        have e := b_sb_v s1 (v := v) (N := (E0 ++ p.2.1.1).length) (ν := ν) r1
        rw [i1] at e
        exact e
  · cases hk
end PP
section NA2
variable {K : BH} {ν : BN} {h0 h : AH} {G : BG}
theorem b_gd.acpX (hJ : b_JF K) {R : BRw} {d pc n : Nat} {bl : BL} {base told : BV} {gg : Nat} {lo hi : Int} {mc ms : Nat} {z : Int} (hi0 : a_ins R.1 pc = some (.invokestatic 166, 3)) (ho : a_own R.1 = 12) (hno : b_noc 12 (.invokestatic 166) = true ∧ ((a_of a_mat 12).find? (fun e => e.1 == 166)).isNone = true) (hr : b_row K G.1 base = some (gg, (20, n, 1, [(0, lo, hi)]))) (hp : K.2.2.1.contains (gg, 0) = false) (hW : R.2.2.2.1.contains (gg, 0) = true) (hz : z = (n : Int)) (ht : ∀ aa, b_r G.1.length ν told aa → ∃ vs, h[aa]? = some (20, vs) ∧ vs.length = n ∧ ∀ v ∈ vs, ∃ x : Int32, v = .int x ∧ lo ≤ x.toInt ∧ x.toInt ≤ hi) (hkd : told.1 = 3) (hN0 : R.2.2.1.2.1.length ≤ G.1.length) (g : b_G K ν h h G) (k : ∀ (b : Nat) (us : List Value), (b_r G.1.length ν base b ∧ ∃ aa vs ws, b_r G.1.length ν told aa ∧ h[aa]? = some (20, vs) ∧ vs.length = n ∧ h[b]? = some (20, ws) ∧ ws.length = n ∧ us = a_prs 0 (a_sl vs 0 n).zipIdx ws) → b_G K ν h (h.set b (20, us)) (b_blk K G (gg, 0)) → b_gd K R d (pc + 3) bl [] G.1.length ν (h.set b (20, us)) mc ms) (hG : G.2.2.2.2 = []) : b_gd K R d pc bl [(0, 0, z), (0, 0, 0), base, (0, 0, 0), told] G.1.length ν h mc ms := by
  intro al st hl hs
  obtain ⟨v1, s1, rfl, h1, k1⟩ := hs.inv
  obtain ⟨v2, s2, rfl, h2, k2⟩ := k1.inv
  obtain ⟨v3, s3, rfl, h3, k3⟩ := k2.inv
  obtain ⟨v4, s4, rfl, h4, k4⟩ := k3.inv
  obtain ⟨v5, s5, rfl, h5, k5⟩ := k4.inv
  obtain rfl := k5.inv0
  obtain ⟨N, rfl, hN⟩ := h1.int (by show 0 < 2; decide)
  obtain ⟨DP, rfl, hDP⟩ := h2.int (by show 0 < 2; decide)
  obtain ⟨SP, rfl, hSP⟩ := h4.int (by show 0 < 2; decide)
  obtain ⟨aa, rfl, ha⟩ := h5.ref (Or.inr hkd)
  obtain ⟨bb, ws, rfl, hb, z1, z2, n1, n2, n3⟩ := g.2.2.2.2.1.at g.1 h3 hr
  have n1 : h[bb]? = some (20, ws) := n1
  have lw : ws.length = n := n2 (by show (1 : Nat) ≠ 2; decide)
  obtain ⟨vs, t1, t2, t3⟩ := ht aa ha
  have eN : N.toInt = z := hN.k
  have eD : DP.toInt = 0 := hDP.k
  have eS : SP.toInt = 0 := hSP.k
  have cN : N.toNatClampNeg = N.toInt.toNat := rfl
  have cD : DP.toNatClampNeg = DP.toInt.toNat := rfl
  have cS : SP.toNatClampNeg = SP.toInt.toNat := rfl
  have neg : ∀ X : Int32, 0 ≤ X.toInt → ¬ X < 0 := fun X hX q => by
    have := Int32.lt_iff_toInt_lt.mp q
    have z : (0 : Int32).toInt = 0 := by decide
    omega
  have inS : ∀ v, v ∈ a_sl vs SP.toNatClampNeg N.toNatClampNeg → v ∈ vs := fun v hv => List.mem_of_mem_drop (List.mem_of_mem_take hv)
  have hfit : a_fitL .int (a_sl vs SP.toNatClampNeg N.toNatClampNeg) = true := List.all_eq_true.mpr fun v hv => by
    obtain ⟨x, rfl, -⟩ := t3 v (inS v hv)
    rfl
  have e : a_acp (a_own R.1) (.invokestatic 166) 3 (.int N :: .int DP :: .ref bb :: .int SP :: .ref aa :: []) h = some ([], h.set bb (20, a_prs DP.toNatClampNeg (a_sl vs SP.toNatClampNeg N.toNatClampNeg).zipIdx ws)) := by
    unfold a_acp
    dsimp only
    rw [if_pos ⟨ho, rfl, rfl, by decide, neg _ (by omega), neg _ (by omega), neg _ (by omega)⟩, t1, n1]
    dsimp only
    rw [show a_aty 20 = some .int from rfl]
    dsimp only
    rw [if_pos ⟨rfl, by decide, rfl, by omega, by omega, hfit⟩]
  have g' := b_blk_ok hJ g n1 (us := a_prs DP.toNatClampNeg (a_sl vs SP.toNatClampNeg N.toNatClampNeg).zipIdx ws) (a_prs_len ..) z1 z2 (by show (1 : Nat) ≠ 0; decide) hp (fun j v ty' hj hty' => by
    have hty' : some ((0, lo, hi) : BT) = some ty' := hty'
    cases hty'
    rcases a_prs_in _ _ _ _ (List.mem_of_getElem? hj) with q | ⟨q, q1, q2⟩
    · obtain ⟨j', hj'⟩ := List.mem_iff_getElem?.mp q
      exact n3 j' v (0, lo, hi) hj' rfl
    · obtain ⟨x, x0, x1, x2⟩ := t3 q.1 (inS _ (a_zip_in q1).1)
      rw [q2, x0]
      exact ⟨x1, x2⟩)
  obtain ⟨r, r1, r2⟩ := k _ _ ⟨hb, aa, vs, ws, ha, t1, t2, n1, lw, by rw [cD, eD, cS, eS, cN, eN, hz]; rfl⟩ g' al [] hl b_S.nil
  refine ⟨r, b_R.acp hi0 rfl rfl (b_noc_ok (by rw [ho]; exact hno.1)) (a_stpN (i := .invokestatic 166) (k := 5) rfl (by decide) ?_) e r1, r2.cut (W := [(gg, 0)]) ?_ (fun w hw => ?_)⟩
  · unfold a_st5
    dsimp only
    rw [ho, Option.isNone_iff_eq_none.mp hno.2]
  · have f := g'.2.2.2.2.2
    unfold b_blk at f
    dsimp only at f
    rw [hG] at f
    exact f
  · rw [List.mem_singleton.mp hw]
    simpa using hW
end NA2
theorem sPrs {v0 v1 v2 v3 v4 : Value} {ws : List Value} (h : ws.length = 5) : a_prs 0 (a_sl [v0, v1, v2, v3, v4] 0 5).zipIdx ws = [v0, v1, v2, v3, v4] := by
  match ws, h with
  | [a, b, c, d, e], _ => rfl
def c_r249n : BRw := (249, 6, ([(2, 365, 0), (1, 0, 0), (1, 1, 0), (1, 2, 0), (1, 3, 0), (1, 4, 0)], ([(0, 0, 19), (0, 0, 9), (0, 0, 99), (0, 0, 99), (0, 0, 9), (0, 0, 20), (0, 0, 39)], [((2, 365, 0), (0, 0, 44), (1, 5, 0)), ((2, 365, 0), (0, 0, 52), (1, 6, 0)), ((2, 372, 0), (1, 0, 0), (0, 0, 0))], [(0, 5, (-1)), (2, 3, 0)])), [(50, 52), (50, 53), (50, 55), (105, 0), (106, 0), (107, 0)], [(.inl (some (1, 6, 1)), ([(106, 0, 0)], [((2, 365, 0), (0, 0, 52), (1, 6, 1)), ((2, 365, 0), (0, 0, 55), (0, 0, 0)), ((2, 726, 0), (1, 6, 0), (3, 7, 0)), ((3, 7, 0), (0, 0, 0), (1, 0, 0)), ((3, 7, 0), (0, 0, 1), (1, 1, 0)), ((3, 7, 0), (0, 0, 2), (1, 2, 0)), ((3, 7, 0), (0, 0, 3), (1, 3, 0)), ((3, 7, 0), (0, 0, 4), (1, 4, 0))], []), (1, 5))])
def c_r249ne : BRw := (249, 6, ([(2, 365, 0), (1, 0, 0), (1, 1, 0), (1, 2, 0), (1, 3, 0), (1, 4, 0)], ([(0, 0, 19), (0, 0, 9), (0, 0, 99), (0, 0, 99), (0, 0, 9), (0, 0, 20), (0, 0, 39)], [((2, 365, 0), (0, 0, 44), (1, 5, 0)), ((2, 365, 0), (0, 0, 52), (1, 6, 0)), ((2, 372, 0), (1, 0, 0), (0, 0, 0))], [(0, 5, (-1)), (2, 3, 0)])), [(50, 55)], [(.inl (some (0, 0, 0)), ([(0, 0, 39), (106, 0, 0), (0, 0, 99), (0, 0, 99), (0, 0, 99), (0, 0, 99)], [((2, 726, 0), (1, 7, 0), (3, 8, 0)), ((3, 8, 0), (0, 0, 0), (1, 9, 0)), ((3, 8, 0), (0, 0, 1), (1, 10, 0)), ((3, 8, 0), (0, 0, 2), (1, 11, 0)), ((3, 8, 0), (0, 0, 3), (1, 12, 0)), ((2, 365, 0), (0, 0, 55), (0, 0, 3))], [(7, 6, (-1)), (9, 0, 0), (0, 9, 0), (10, 1, 0), (1, 10, 0), (11, 3, 0), (2, 12, 0)]), (0, 0))])
def sAn : BSg := ((249, 0), ([some (2, 365, 0), some (1, 0, 0), some (1, 1, 0), some (1, 2, 0), some (1, 3, 0), some (1, 4, 0), none, none, none], [], ([(0, 0, 19), (0, 0, 9), (0, 0, 99), (0, 0, 99), (0, 0, 9), (0, 0, 20), (0, 0, 39)], [((2, 365, 0), (0, 0, 44), (1, 5, 0)), ((2, 365, 0), (0, 0, 52), (1, 6, 0)), ((2, 372, 0), (1, 0, 0), (0, 0, 0))], [(0, 5, (-1)), (2, 3, 0)])), [(50, 55)], [
  (.inl (.inl (some (0, 0, 0))), ([(0, 0, 39), (106, 0, 0), (0, 0, 99), (0, 0, 99), (0, 0, 99), (0, 0, 99)], [((2, 726, 0), (1, 7, 0), (3, 8, 0)), ((3, 8, 0), (0, 0, 0), (1, 9, 0)), ((3, 8, 0), (0, 0, 1), (1, 10, 0)), ((3, 8, 0), (0, 0, 2), (1, 11, 0)), ((3, 8, 0), (0, 0, 3), (1, 12, 0)), ((2, 365, 0), (0, 0, 55), (0, 0, 3))], [(7, 6, (-1)), (9, 0, 0), (0, 9, 0), (10, 1, 0), (1, 10, 0), (11, 3, 0), (2, 12, 0)]), (0, 0)),
  (.inr (205, [some (2, 365, 0), some (1, 0, 0), some (1, 1, 0), some (1, 2, 0), some (1, 3, 0), some (1, 4, 0), none, none, none], []), ([], [((2, 365, 0), (0, 0, 52), (1, 6, 0)), ((2, 365, 0), (0, 0, 55), (0, 0, 0))], []), (0, 0))])
def sATn : List BCu := [(93, [some (2, 365, 0), some (1, 0, 0), some (1, 1, 0), some (1, 2, 0), some (1, 3, 0), some (1, 4, 0), none, some (0, 0, 0), some (1, 7, 0)], ([(0, 0, 19), (0, 0, 9), (0, 0, 99), (0, 0, 99), (0, 0, 9), (0, 0, 20), (0, 0, 39), (0, 0, 40)], [((2, 365, 0), (0, 0, 44), (1, 5, 0)), ((2, 365, 0), (0, 0, 52), (1, 6, 0))], [(0, 5, (-1)), (2, 3, 0)]), ([(7, (-1))], 41), none), (93, [some (2, 365, 0), some (1, 0, 0), some (1, 1, 0), some (1, 2, 0), some (1, 3, 0), some (1, 4, 0), none, some (0, 0, 1), some (1, 13, 0)], ([(0, 0, 19), (0, 0, 9), (0, 0, 99), (0, 0, 99), (0, 0, 9), (0, 0, 20), (0, 0, 39), (0, 0, 39), (106, 0, 0), (0, 0, 99), (0, 0, 99), (0, 0, 99), (0, 0, 99), (0, 0, 40)], [((2, 365, 0), (0, 0, 44), (1, 5, 0)), ((2, 365, 0), (0, 0, 52), (1, 6, 0)), ((2, 726, 0), (1, 7, 0), (3, 8, 0)), ((3, 8, 0), (0, 0, 0), (1, 9, 0)), ((3, 8, 0), (0, 0, 1), (1, 10, 0)), ((3, 8, 0), (0, 0, 2), (1, 11, 0)), ((3, 8, 0), (0, 0, 3), (1, 12, 0))], [(0, 5, (-1)), (2, 3, 0), (7, 6, (-1)), (9, 0, 0), (0, 9, 0), (10, 1, 0), (1, 10, 0), (11, 3, 0), (2, 12, 0)]), ([(13, (-1))], 41), none)]
theorem sACn : b_rgc c_K (b_orc c_K [] 3000 5) sAn sATn [205] 3000 = true := by decide +kernel
def sBn : BSg := ((249, 232), ([some (2, 365, 0), some (1, 0, 0), some (1, 1, 0), some (1, 2, 0), some (1, 3, 0), some (1, 4, 0), none, none, some (3, 7, 0)], [], ([(0, 0, 19), (0, 0, 9), (0, 0, 99), (0, 0, 99), (0, 0, 9), (0, 0, 20), (0, 0, 39), (1, 1, 0)], [((2, 365, 0), (0, 0, 52), (1, 6, 0)), ((2, 365, 0), (0, 0, 55), (0, 0, 0))], [])), [], [
  (.inr (246, [some (2, 365, 0), some (1, 0, 0), some (1, 1, 0), some (1, 2, 0), some (1, 3, 0), some (1, 4, 0), none, none, none], [(0, 0, 5), (0, 0, 0), (3, 8, 0), (0, 0, 0), (3, 7, 0)]), ([(106, 0, 0)], [((2, 365, 0), (0, 0, 52), (1, 6, 0)), ((2, 365, 0), (0, 0, 55), (0, 0, 0)), ((2, 726, 0), (1, 6, 0), (3, 8, 0))], []), (0, 0))])
theorem sBCn : b_sgc c_K (b_orc c_K [] 3000 5) sBn [246] 3000 = true := by decide +kernel
def sCn : BSg := ((249, 249), ([some (2, 365, 0), some (1, 0, 0), some (1, 1, 0), some (1, 2, 0), some (1, 3, 0), some (1, 4, 0), none, none, none], [], ([(0, 0, 19), (0, 0, 9), (0, 0, 99), (0, 0, 99), (0, 0, 9), (0, 0, 20), (0, 0, 39), (1, 1, 0), (106, 0, 0)], [((2, 365, 0), (0, 0, 52), (1, 6, 0)), ((2, 365, 0), (0, 0, 55), (0, 0, 0)), ((2, 726, 0), (1, 6, 0), (3, 8, 0)), ((3, 8, 0), (0, 0, 0), (1, 0, 0)), ((3, 8, 0), (0, 0, 1), (1, 1, 0)), ((3, 8, 0), (0, 0, 2), (1, 2, 0)), ((3, 8, 0), (0, 0, 3), (1, 3, 0)), ((3, 8, 0), (0, 0, 4), (1, 4, 0))], [])), [(50, 52), (50, 53), (50, 55), (106, 0), (107, 0)], [
  (.inl (.inl (some (1, 6, 1))), ([], [((2, 365, 0), (0, 0, 52), (1, 6, 1)), ((2, 365, 0), (0, 0, 55), (0, 0, 0)), ((2, 726, 0), (1, 6, 0), (3, 8, 0)), ((3, 8, 0), (0, 0, 0), (1, 0, 0)), ((3, 8, 0), (0, 0, 1), (1, 1, 0)), ((3, 8, 0), (0, 0, 2), (1, 2, 0)), ((3, 8, 0), (0, 0, 3), (1, 3, 0)), ((3, 8, 0), (0, 0, 4), (1, 4, 0))], []), (0, 0))])
theorem sCCn : b_sgc c_K (b_orc c_K [] 3000 5) sCn [] 3000 = true := by decide +kernel
theorem s106n {ν : BN} {h : AH} {a : Nat} {f0 f1 f2 f3 f4 : Int32} (g : b_G c_K ν h h (sBn.2.1.2.2.1, sBn.2.1.2.2.2.1, [], [], [])) (hR : ∀ i, i < 40 → c_at h 726 i = some (.ref (727 + i))) (hgi : True) (ha : (a : Int) = ν 7) (h1 : h[a]? = some (20, [.int f0, .int f1, .int f2, .int f3, .int f4])) (e0 : f0.toInt = ν 0) (e1 : f1.toInt = ν 1) (e2 : f2.toInt = ν 2) (e3 : f3.toInt = ν 3) (e4 : f4.toInt = ν 4) : b_gd c_K c_r249n 5 232 sBn.2.1.1 [] sBn.2.1.2.2.1.length ν h 1 5 := by
  refine b_gd.sg c_hJ (b_orc_ok c_hJ (tab := []) (fun _ h => absurd h List.not_mem_nil) 3000 5) sBCn rfl (by decide) (by decide) g (b_al.c ?_ b_al.n)
  intro ν1 h1' x1 g1
  refine b_pq.to rfl ?_
  have F1 := g1.2.2.2.2.2
  have t1 : h1'[a]? = some (20, [.int f0, .int f1, .int f2, .int f3, .int f4]) := by
    obtain ⟨us, u1, u2, u3⟩ := F1 a _ h1
    rw [u1, show us = [.int f0, .int f1, .int f2, .int f3, .int f4] from List.ext_getElem? fun j => u3 j (fun w hw => by cases hw)]
  have n0 : ν1 0 = ν 0 := x1.2 0 (by decide)
  have n1 : ν1 1 = ν 1 := x1.2 1 (by decide)
  have n2 : ν1 2 = ν 2 := x1.2 2 (by decide)
  have n3 : ν1 3 = ν 3 := x1.2 3 (by decide)
  have n4 : ν1 4 = ν 4 := x1.2 4 (by decide)
  have n5 : ν1 5 = ν 5 := x1.2 5 (by decide)
  have n6 : ν1 6 = ν 6 := x1.2 6 (by decide)
  have n7 : ν1 7 = ν 7 := x1.2 7 (by decide)
  have j0 := g1.iv 0 (lo := 0) (hi := 19) rfl
  have j1 := g1.iv 1 (lo := 0) (hi := 9) rfl
  have j2 := g1.iv 2 (lo := 0) (hi := 99) rfl
  have j3 := g1.iv 3 (lo := 0) (hi := 99) rfl
  have j4 := g1.iv 4 (lo := 0) (hi := 9) rfl
  have j6 := g1.iv 6 (lo := 0) (hi := 39) rfl
  refine b_gd.acpX c_hJ (gg := 105) (lo := 0) (hi := 99) (n := 5) (by decide +kernel) (by decide +kernel) (by decide +kernel) (by rfl) (by decide) (by decide) rfl (fun aa haa => ⟨[.int f0, .int f1, .int f2, .int f3, .int f4], ?_, rfl, ?_⟩) rfl (by decide) g1.here (fun b us hb g2 => ?_) rfl
  · have e : aa = a := by have := haa.v; omega
    rw [e]; exact t1
  · intro v hv
    simp only [List.mem_cons, List.not_mem_nil, or_false] at hv
    rcases hv with rfl | rfl | rfl | rfl | rfl
    · exact ⟨f0, rfl, by omega, by omega⟩
    · exact ⟨f1, rfl, by omega, by omega⟩
    · exact ⟨f2, rfl, by omega, by omega⟩
    · exact ⟨f3, rfl, by omega, by omega⟩
    · exact ⟨f4, rfl, by omega, by omega⟩
  · obtain ⟨hb, aa, vs, ws, haa, u1, u2, u3, u4, rfl⟩ := hb
    have e : aa = a := by have := haa.v; omega
    subst e
    rw [t1] at u1
    cases u1
    rw [sPrs u4] at g2 ⊢
    have vb := hb.v
    have lb : b < h1'.length := (List.getElem?_eq_some_iff.mp u3).1
    have sb : (h1'.set b (20, [.int f0, .int f1, .int f2, .int f3, .int f4]))[b]? = some (20, [.int f0, .int f1, .int f2, .int f3, .int f4]) := List.getElem?_set_self lb
    have g2 := g2.addF (f := ((3, 8, 0), (0, 0, 0), (1, 0, 0))) (b_fa.mk (a := b) (j := 0) (c_at_of sb rfl) (Or.inr ⟨rfl, by decide, by show _ = ν1 8; omega⟩) (Or.inl ⟨rfl, rfl⟩) (Or.inr ⟨rfl, by decide, by show _ = ν1 0 + 0; omega⟩))
    have g2 := g2.addF (f := ((3, 8, 0), (0, 0, 1), (1, 1, 0))) (b_fa.mk (a := b) (j := 1) (c_at_of sb rfl) (Or.inr ⟨rfl, by decide, by show _ = ν1 8; omega⟩) (Or.inl ⟨rfl, rfl⟩) (Or.inr ⟨rfl, by decide, by show _ = ν1 1 + 0; omega⟩))
    have g2 := g2.addF (f := ((3, 8, 0), (0, 0, 2), (1, 2, 0))) (b_fa.mk (a := b) (j := 2) (c_at_of sb rfl) (Or.inr ⟨rfl, by decide, by show _ = ν1 8; omega⟩) (Or.inl ⟨rfl, rfl⟩) (Or.inr ⟨rfl, by decide, by show _ = ν1 2 + 0; omega⟩))
    have g2 := g2.addF (f := ((3, 8, 0), (0, 0, 3), (1, 3, 0))) (b_fa.mk (a := b) (j := 3) (c_at_of sb rfl) (Or.inr ⟨rfl, by decide, by show _ = ν1 8; omega⟩) (Or.inl ⟨rfl, rfl⟩) (Or.inr ⟨rfl, by decide, by show _ = ν1 3 + 0; omega⟩))
    have g2 := g2.addF (f := ((3, 8, 0), (0, 0, 4), (1, 4, 0))) (b_fa.mk (a := b) (j := 4) (c_at_of sb rfl) (Or.inr ⟨rfl, by decide, by show _ = ν1 8; omega⟩) (Or.inl ⟨rfl, rfl⟩) (Or.inr ⟨rfl, by decide, by show _ = ν1 4 + 0; omega⟩))
    refine b_gd.sg (S := sCn) c_hJ (b_orc_ok c_hJ (tab := []) (fun _ h => absurd h List.not_mem_nil) 3000 5) sCCn rfl (by decide) (by decide) (g2.wk (by decide +kernel)) (b_al.c ?_ b_al.n)
    intro ν3 h3' x3 g4
    exact b_pq.post (E0 := sCn.2.1.2.2.1) (.inl (some (1, 6, 1)), ([(106, 0, 0)], [((2, 365, 0), (0, 0, 52), (1, 6, 1)), ((2, 365, 0), (0, 0, 55), (0, 0, 0)), ((2, 726, 0), (1, 6, 0), (3, 7, 0)), ((3, 7, 0), (0, 0, 0), (1, 0, 0)), ((3, 7, 0), (0, 0, 1), (1, 1, 0)), ((3, 7, 0), (0, 0, 2), (1, 2, 0)), ((3, 7, 0), (0, 0, 3), (1, 3, 0)), ((3, 7, 0), (0, 0, 4), (1, 4, 0))], []), (1, 5)) List.mem_cons_self [(1, 0, 0), (1, 1, 0), (1, 2, 0), (1, 3, 0), (1, 4, 0), (1, 5, 0), (1, 6, 0), (3, 8, 0)] (by decide +kernel) g4
theorem s84n {ν : BN} {h : AH} (hR : ∀ i, i < 40 → c_at h 726 i = some (.ref (727 + i))) (hgi : True) (g : b_G c_K ν h h ([(0, 0, 19), (0, 0, 9), (0, 0, 99), (0, 0, 99), (0, 0, 9), (0, 0, 20), (0, 0, 39)], [((2, 365, 0), (0, 0, 52), (1, 6, 0)), ((2, 365, 0), (0, 0, 55), (0, 0, 0))], [], [], [])) : b_gd c_K c_r249n 5 205 [some (2, 365, 0), some (1, 0, 0), some (1, 1, 0), some (1, 2, 0), some (1, 3, 0), some (1, 4, 0), none, none, none] [] 7 ν h 0 0 := by
  intro al st hl hs
  obtain rfl := hs.inv0
  obtain ⟨v0, a0, b0⟩ := hl.2 1 (1, 0, 0) rfl
  obtain ⟨f0, rfl, e0⟩ := b0.int (by show 1 < 2; decide)
  have w0 := e0.v
  obtain ⟨v1, a1, b1⟩ := hl.2 2 (1, 1, 0) rfl
  obtain ⟨f1, rfl, e1⟩ := b1.int (by show 1 < 2; decide)
  have w1 := e1.v
  obtain ⟨v2, a2, b2⟩ := hl.2 3 (1, 2, 0) rfl
  obtain ⟨f2, rfl, e2⟩ := b2.int (by show 1 < 2; decide)
  have w2 := e2.v
  obtain ⟨v3, a3, b3⟩ := hl.2 4 (1, 3, 0) rfl
  obtain ⟨f3, rfl, e3⟩ := b3.int (by show 1 < 2; decide)
  have w3 := e3.v
  obtain ⟨v4, a4, b4⟩ := hl.2 5 (1, 4, 0) rfl
  obtain ⟨f4, rfl, e4⟩ := b4.int (by show 1 < 2; decide)
  have w4 := e4.v
  have g1 := g.ad (ν' := b_nu ν 7 h.length) (E' := [(1, 1, 0)]) (F' := []) (C' := []) (fun n hn => if_neg (Nat.ne_of_lt hn)) ⟨by show b_q _ _ (b_nu ν 7 h.length 7); rw [b_nu_n]; exact b_q.r0, trivial⟩ trivial trivial
  have g2 := g1.app c_hJ (c := (20, [.int f0, .int f1, .int f2, .int f3, .int f4]))
  have hl2 : b_L 8 (b_nu ν 7 h.length) [some (2, 365, 0), some (1, 0, 0), some (1, 1, 0), some (1, 2, 0), some (1, 3, 0), some (1, 4, 0), none, none, none] al := hl.ext b_nu_ext
  obtain ⟨al2, s1, s2⟩ := b_sto_ok (k := 8) (b := (3, 7, 0)) (bl' := sBn.2.1.1) hl2 (v := .ref h.length) (Or.inr ⟨rfl, by decide, by rw [b_nu_n]⟩) rfl
  have m0 : b_nu ν 7 h.length 0 = ν 0 := if_neg (by decide)
  have m1 : b_nu ν 7 h.length 1 = ν 1 := if_neg (by decide)
  have m2 : b_nu ν 7 h.length 2 = ν 2 := if_neg (by decide)
  have m3 : b_nu ν 7 h.length 3 = ν 3 := if_neg (by decide)
  have m4 : b_nu ν 7 h.length 4 = ν 4 := if_neg (by decide)
  have hR2 : ∀ i, i < 40 → c_at (h ++ [(20, [.int f0, .int f1, .int f2, .int f3, .int f4])]) 726 i = some (.ref (727 + i)) := fun i hi => by
    have H := g.2.2.2.2.1
    have q := hR i hi
    unfold c_at at q ⊢
    rw [List.getElem?_append_left]
    · exact q
    · obtain ⟨t, ht⟩ := Option.isSome_iff_exists.mp (H.has c_ra726 c_rq104)
      exact (List.getElem?_eq_some_iff.mp ht).1
  obtain ⟨r, r1, r2⟩ := s106n (a := h.length) (g2.wk (by decide)) hR2 trivial (by rw [b_nu_n]) c_atE (by rw [m0]; omega) (by rw [m1]; omega) (by rw [m2]; omega) (by rw [m3]; omega) (by rw [m4]; omega) al2 [] s2 b_S.nil
  exact ⟨r, sM a0 a1 a2 a3 a4 s1 r1, (r2.cut (W := []) b_frm.app (fun w hw => by cases hw)).ext (N := 8) ⟨by decide, fun n hn => if_neg (by have hn : n < 7 := hn; omega)⟩⟩
/-- where the rows of deals are those of the start -/
theorem c_v249n {ν : BN} {h : AH} {as : List Value} (hR : ∀ i, i < 40 → c_at h 726 i = some (.ref (727 + i))) (g : b_G c_K ν h h (b_pre c_r249n)) (hs : b_S (b_pre c_r249n).1.length ν c_r249n.2.2.1.1 as) : ∃ r, b_lim 6 249 as h = some r ∧ (b_post c_K c_r249ne ν h r ∨ b_post c_K c_r249n ν h r) := by
  have hl : b_L sAn.2.1.2.2.1.length ν sAn.2.1.1 (a_args 249 as) := (show b_L _ ν (b_args c_r249n.1 c_r249n.2.2.1.1) (a_args c_r249n.1 as) from b_args_ok hs)
  obtain ⟨p, p1, ν1, h1, x1, g1, q1⟩ := b_rgc_ok (S := sAn) (mc := 0) (ms := 0) c_hJ (b_orc_ok c_hJ (tab := []) (fun _ h => absurd h List.not_mem_nil) 3000 5) sACn hl b_S.nil g
  have p1 : p ∈ (sAn.2.2.2) := p1
  rcases List.mem_cons.mp p1 with rfl | p1
  · obtain ⟨r, r1, r2, r3, r4⟩ := q1
    refine ⟨r, b_lim_run (b_argOK_ok hs (by decide +kernel)) r1, Or.inl ⟨(.inl (some (0, 0, 0)), ([(0, 0, 39), (106, 0, 0), (0, 0, 99), (0, 0, 99), (0, 0, 99), (0, 0, 99)], [((2, 726, 0), (1, 7, 0), (3, 8, 0)), ((3, 8, 0), (0, 0, 0), (1, 9, 0)), ((3, 8, 0), (0, 0, 1), (1, 10, 0)), ((3, 8, 0), (0, 0, 2), (1, 11, 0)), ((3, 8, 0), (0, 0, 3), (1, 12, 0)), ((2, 365, 0), (0, 0, 55), (0, 0, 3))], [(7, 6, (-1)), (9, 0, 0), (0, 9, 0), (10, 1, 0), (1, 10, 0), (11, 3, 0), (2, 12, 0)]), (0, 0)), List.mem_cons_self, ν1, x1, r2, ?_, r4⟩⟩
    rw [r3]
    exact g1
  · rcases List.mem_singleton.mp p1 with rfl
    obtain ⟨al1, st1, d1, d2, d3⟩ := q1
    have F1 := g1.2.2.2.2.2
    obtain ⟨r, r1, r2⟩ := s84n (ν := ν1) (h := h1) (fun i hi => by rw [F1.k g.2.2.2.2.1 c_ra726 c_rq104 (by decide) (by rfl)]; exact hR i hi) trivial (g1.wk (by decide)) al1 st1 d1 d2
    exact ⟨r, b_lim_run (b_argOK_ok hs (by decide +kernel)) (d3 r r1), Or.inr ((r2.cut F1 (fun w hw => by
      have hw : w ∈ ([(50, 55)] : BW) := hw
      rw [List.mem_singleton.mp hw]
      show _ ∈ ([(50, 52), (50, 53), (50, 55), (105, 0), (106, 0), (107, 0)] : BW)
      decide)).ext x1)⟩
def c_r249m : BRw := (249, 6, ([(2, 365, 0), (1, 0, 0), (1, 1, 0), (1, 2, 0), (1, 3, 0), (1, 4, 0)], ([(0, 0, 19), (0, 0, 9), (0, 0, 99), (0, 0, 99), (0, 0, 9), (0, 0, 20), (0, 0, 39), (0, 0, 39), (106, 0, 0), (0, 0, 99), (0, 0, 99), (0, 0, 99), (0, 0, 99), (0, 0, 99)], [((2, 365, 0), (0, 0, 44), (1, 5, 0)), ((2, 365, 0), (0, 0, 52), (1, 6, 0)), ((2, 372, 0), (1, 0, 0), (0, 0, 0)), ((3, 8, 0), (0, 0, 0), (1, 9, 0)), ((3, 8, 0), (0, 0, 1), (1, 10, 0)), ((3, 8, 0), (0, 0, 2), (1, 11, 0)), ((3, 8, 0), (0, 0, 3), (1, 12, 0)), ((3, 8, 0), (0, 0, 4), (1, 13, 0)), ((2, 726, 0), (1, 7, 0), (3, 8, 0))], [(0, 5, (-1)), (2, 3, 0), (7, 6, (-1))])), [(50, 52), (50, 53), (50, 55), (105, 0), (106, 0), (107, 0)], [(.inl (some (1, 6, 1)), ([(106, 0, 0)], [((2, 365, 0), (0, 0, 52), (1, 6, 1)), ((2, 365, 0), (0, 0, 55), (0, 0, 0)), ((2, 726, 0), (1, 6, 0), (3, 14, 0)), ((3, 14, 0), (0, 0, 0), (1, 0, 0)), ((3, 14, 0), (0, 0, 1), (1, 1, 0)), ((3, 14, 0), (0, 0, 2), (1, 2, 0)), ((3, 14, 0), (0, 0, 3), (1, 3, 0)), ((3, 14, 0), (0, 0, 4), (1, 4, 0)), ((3, 8, 0), (0, 0, 0), (1, 9, 0)), ((3, 8, 0), (0, 0, 1), (1, 10, 0)), ((3, 8, 0), (0, 0, 2), (1, 11, 0)), ((3, 8, 0), (0, 0, 3), (1, 12, 0)), ((3, 8, 0), (0, 0, 4), (1, 13, 0)), ((2, 726, 0), (1, 7, 0), (3, 8, 0))], []), (1, 5))])
def c_r249me : BRw := (249, 6, ([(2, 365, 0), (1, 0, 0), (1, 1, 0), (1, 2, 0), (1, 3, 0), (1, 4, 0)], ([(0, 0, 19), (0, 0, 9), (0, 0, 99), (0, 0, 99), (0, 0, 9), (0, 0, 20), (0, 0, 39), (0, 0, 39), (106, 0, 0), (0, 0, 99), (0, 0, 99), (0, 0, 99), (0, 0, 99), (0, 0, 99)], [((2, 365, 0), (0, 0, 44), (1, 5, 0)), ((2, 365, 0), (0, 0, 52), (1, 6, 0)), ((2, 372, 0), (1, 0, 0), (0, 0, 0)), ((3, 8, 0), (0, 0, 0), (1, 9, 0)), ((3, 8, 0), (0, 0, 1), (1, 10, 0)), ((3, 8, 0), (0, 0, 2), (1, 11, 0)), ((3, 8, 0), (0, 0, 3), (1, 12, 0)), ((3, 8, 0), (0, 0, 4), (1, 13, 0)), ((2, 726, 0), (1, 7, 0), (3, 8, 0))], [(0, 5, (-1)), (2, 3, 0), (7, 6, (-1))])), [(50, 55)], [(.inl (some (0, 0, 0)), ([], [((2, 365, 0), (0, 0, 55), (0, 0, 3))], []), (0, 0))])
def sAm : BSg := ((249, 0), ([some (2, 365, 0), some (1, 0, 0), some (1, 1, 0), some (1, 2, 0), some (1, 3, 0), some (1, 4, 0), none, none, none], [], ([(0, 0, 19), (0, 0, 9), (0, 0, 99), (0, 0, 99), (0, 0, 9), (0, 0, 20), (0, 0, 39), (0, 0, 39), (106, 0, 0), (0, 0, 99), (0, 0, 99), (0, 0, 99), (0, 0, 99), (0, 0, 99)], [((2, 365, 0), (0, 0, 44), (1, 5, 0)), ((2, 365, 0), (0, 0, 52), (1, 6, 0)), ((2, 372, 0), (1, 0, 0), (0, 0, 0)), ((3, 8, 0), (0, 0, 0), (1, 9, 0)), ((3, 8, 0), (0, 0, 1), (1, 10, 0)), ((3, 8, 0), (0, 0, 2), (1, 11, 0)), ((3, 8, 0), (0, 0, 3), (1, 12, 0)), ((3, 8, 0), (0, 0, 4), (1, 13, 0)), ((2, 726, 0), (1, 7, 0), (3, 8, 0))], [(0, 5, (-1)), (2, 3, 0), (7, 6, (-1))])), [(50, 55)], [
  (.inl (.inl (some (0, 0, 0))), ([], [((2, 365, 0), (0, 0, 55), (0, 0, 3))], []), (0, 0)),
  (.inr (205, [some (2, 365, 0), some (1, 0, 0), some (1, 1, 0), some (1, 2, 0), some (1, 3, 0), some (1, 4, 0), none, none, none], []), ([], [((2, 365, 0), (0, 0, 52), (1, 6, 0)), ((2, 365, 0), (0, 0, 55), (0, 0, 0)), ((3, 8, 0), (0, 0, 0), (1, 9, 0)), ((3, 8, 0), (0, 0, 1), (1, 10, 0)), ((3, 8, 0), (0, 0, 2), (1, 11, 0)), ((3, 8, 0), (0, 0, 3), (1, 12, 0)), ((3, 8, 0), (0, 0, 4), (1, 13, 0)), ((2, 726, 0), (1, 7, 0), (3, 8, 0))], []), (0, 0))])
def sATm : List BCu := [(93, [some (2, 365, 0), some (1, 0, 0), some (1, 1, 0), some (1, 2, 0), some (1, 3, 0), some (1, 4, 0), none, some (0, 0, 0), some (1, 14, 0)], ([(0, 0, 19), (0, 0, 9), (0, 0, 99), (0, 0, 99), (0, 0, 9), (0, 0, 20), (0, 0, 39), (0, 0, 39), (106, 0, 0), (0, 0, 99), (0, 0, 99), (0, 0, 99), (0, 0, 99), (0, 0, 99), (0, 0, 40)], [((2, 365, 0), (0, 0, 44), (1, 5, 0)), ((2, 365, 0), (0, 0, 52), (1, 6, 0)), ((3, 8, 0), (0, 0, 0), (1, 9, 0)), ((3, 8, 0), (0, 0, 1), (1, 10, 0)), ((3, 8, 0), (0, 0, 2), (1, 11, 0)), ((3, 8, 0), (0, 0, 3), (1, 12, 0)), ((3, 8, 0), (0, 0, 4), (1, 13, 0)), ((2, 726, 0), (1, 7, 0), (3, 8, 0))], [(0, 5, (-1)), (2, 3, 0), (7, 6, (-1))]), ([(14, (-1))], 41), none), (93, [some (2, 365, 0), some (1, 0, 0), some (1, 1, 0), some (1, 2, 0), some (1, 3, 0), some (1, 4, 0), none, some (0, 0, 1), some (1, 14, 0)], ([(0, 0, 19), (0, 0, 9), (0, 0, 99), (0, 0, 99), (0, 0, 9), (0, 0, 20), (0, 0, 39), (0, 0, 39), (106, 0, 0), (0, 0, 99), (0, 0, 99), (0, 0, 99), (0, 0, 99), (0, 0, 99), (0, 0, 40)], [((2, 365, 0), (0, 0, 44), (1, 5, 0)), ((2, 365, 0), (0, 0, 52), (1, 6, 0)), ((3, 8, 0), (0, 0, 0), (1, 9, 0)), ((3, 8, 0), (0, 0, 1), (1, 10, 0)), ((3, 8, 0), (0, 0, 2), (1, 11, 0)), ((3, 8, 0), (0, 0, 3), (1, 12, 0)), ((3, 8, 0), (0, 0, 4), (1, 13, 0)), ((2, 726, 0), (1, 7, 0), (3, 8, 0))], [(0, 5, (-1)), (2, 3, 0), (7, 6, (-1))]), ([(14, (-1))], 41), none)]
theorem sACm : b_rgc c_K (b_orc c_K [] 3000 5) sAm sATm [205] 3000 = true := by decide +kernel
def sBm : BSg := ((249, 232), ([some (2, 365, 0), some (1, 0, 0), some (1, 1, 0), some (1, 2, 0), some (1, 3, 0), some (1, 4, 0), none, none, some (3, 14, 0)], [], ([(0, 0, 19), (0, 0, 9), (0, 0, 99), (0, 0, 99), (0, 0, 9), (0, 0, 20), (0, 0, 39), (0, 0, 39), (106, 0, 0), (0, 0, 99), (0, 0, 99), (0, 0, 99), (0, 0, 99), (0, 0, 99), (1, 1, 0)], [((2, 365, 0), (0, 0, 52), (1, 6, 0)), ((2, 365, 0), (0, 0, 55), (0, 0, 0)), ((3, 8, 0), (0, 0, 0), (1, 9, 0)), ((3, 8, 0), (0, 0, 1), (1, 10, 0)), ((3, 8, 0), (0, 0, 2), (1, 11, 0)), ((3, 8, 0), (0, 0, 3), (1, 12, 0)), ((3, 8, 0), (0, 0, 4), (1, 13, 0)), ((2, 726, 0), (1, 7, 0), (3, 8, 0))], [])), [], [
  (.inr (246, [some (2, 365, 0), some (1, 0, 0), some (1, 1, 0), some (1, 2, 0), some (1, 3, 0), some (1, 4, 0), none, none, none], [(0, 0, 5), (0, 0, 0), (3, 15, 0), (0, 0, 0), (3, 14, 0)]), ([(106, 0, 0)], [((2, 365, 0), (0, 0, 52), (1, 6, 0)), ((2, 365, 0), (0, 0, 55), (0, 0, 0)), ((3, 8, 0), (0, 0, 0), (1, 9, 0)), ((3, 8, 0), (0, 0, 1), (1, 10, 0)), ((3, 8, 0), (0, 0, 2), (1, 11, 0)), ((3, 8, 0), (0, 0, 3), (1, 12, 0)), ((3, 8, 0), (0, 0, 4), (1, 13, 0)), ((2, 726, 0), (1, 7, 0), (3, 8, 0)), ((2, 726, 0), (1, 6, 0), (3, 15, 0))], []), (0, 0))])
theorem sBCm : b_sgc c_K (b_orc c_K [] 3000 5) sBm [246] 3000 = true := by decide +kernel
def sCm : BSg := ((249, 249), ([some (2, 365, 0), some (1, 0, 0), some (1, 1, 0), some (1, 2, 0), some (1, 3, 0), some (1, 4, 0), none, none, none], [], ([(0, 0, 19), (0, 0, 9), (0, 0, 99), (0, 0, 99), (0, 0, 9), (0, 0, 20), (0, 0, 39), (0, 0, 39), (106, 0, 0), (0, 0, 99), (0, 0, 99), (0, 0, 99), (0, 0, 99), (0, 0, 99), (1, 1, 0), (106, 0, 0)], [((2, 365, 0), (0, 0, 52), (1, 6, 0)), ((2, 365, 0), (0, 0, 55), (0, 0, 0)), ((3, 8, 0), (0, 0, 0), (1, 9, 0)), ((3, 8, 0), (0, 0, 1), (1, 10, 0)), ((3, 8, 0), (0, 0, 2), (1, 11, 0)), ((3, 8, 0), (0, 0, 3), (1, 12, 0)), ((3, 8, 0), (0, 0, 4), (1, 13, 0)), ((2, 726, 0), (1, 7, 0), (3, 8, 0)), ((2, 726, 0), (1, 6, 0), (3, 15, 0)), ((3, 15, 0), (0, 0, 0), (1, 0, 0)), ((3, 15, 0), (0, 0, 1), (1, 1, 0)), ((3, 15, 0), (0, 0, 2), (1, 2, 0)), ((3, 15, 0), (0, 0, 3), (1, 3, 0)), ((3, 15, 0), (0, 0, 4), (1, 4, 0))], [])), [(50, 52), (50, 53), (50, 55), (106, 0), (107, 0)], [
  (.inl (.inl (some (1, 6, 1))), ([], [((2, 365, 0), (0, 0, 52), (1, 6, 1)), ((2, 365, 0), (0, 0, 55), (0, 0, 0)), ((2, 726, 0), (1, 6, 0), (3, 15, 0)), ((3, 15, 0), (0, 0, 0), (1, 0, 0)), ((3, 15, 0), (0, 0, 1), (1, 1, 0)), ((3, 15, 0), (0, 0, 2), (1, 2, 0)), ((3, 15, 0), (0, 0, 3), (1, 3, 0)), ((3, 15, 0), (0, 0, 4), (1, 4, 0)), ((3, 8, 0), (0, 0, 0), (1, 9, 0)), ((3, 8, 0), (0, 0, 1), (1, 10, 0)), ((3, 8, 0), (0, 0, 2), (1, 11, 0)), ((3, 8, 0), (0, 0, 3), (1, 12, 0)), ((3, 8, 0), (0, 0, 4), (1, 13, 0)), ((2, 726, 0), (1, 7, 0), (3, 8, 0))], []), (0, 0))])
theorem sCCm : b_sgc c_K (b_orc c_K [] 3000 5) sCm [] 3000 = true := by decide +kernel
theorem s106m {ν : BN} {h : AH} {a : Nat} {f0 f1 f2 f3 f4 : Int32} (g : b_G c_K ν h h (sBm.2.1.2.2.1, sBm.2.1.2.2.2.1, [], [], [])) (hR : ∀ i, i < 40 → c_at h 726 i = some (.ref (727 + i))) (hgi : ν 7 < ν 6) (ha : (a : Int) = ν 14) (h1 : h[a]? = some (20, [.int f0, .int f1, .int f2, .int f3, .int f4])) (e0 : f0.toInt = ν 0) (e1 : f1.toInt = ν 1) (e2 : f2.toInt = ν 2) (e3 : f3.toInt = ν 3) (e4 : f4.toInt = ν 4) : b_gd c_K c_r249m 5 232 sBm.2.1.1 [] sBm.2.1.2.2.1.length ν h 1 5 := by
  refine b_gd.sg c_hJ (b_orc_ok c_hJ (tab := []) (fun _ h => absurd h List.not_mem_nil) 3000 5) sBCm rfl (by decide) (by decide) g (b_al.c ?_ b_al.n)
  intro ν1 h1' x1 g1
  refine b_pq.to rfl ?_
  have F1 := g1.2.2.2.2.2
  have t1 : h1'[a]? = some (20, [.int f0, .int f1, .int f2, .int f3, .int f4]) := by
    obtain ⟨us, u1, u2, u3⟩ := F1 a _ h1
    rw [u1, show us = [.int f0, .int f1, .int f2, .int f3, .int f4] from List.ext_getElem? fun j => u3 j (fun w hw => by cases hw)]
  have n0 : ν1 0 = ν 0 := x1.2 0 (by decide)
  have n1 : ν1 1 = ν 1 := x1.2 1 (by decide)
  have n2 : ν1 2 = ν 2 := x1.2 2 (by decide)
  have n3 : ν1 3 = ν 3 := x1.2 3 (by decide)
  have n4 : ν1 4 = ν 4 := x1.2 4 (by decide)
  have n5 : ν1 5 = ν 5 := x1.2 5 (by decide)
  have n6 : ν1 6 = ν 6 := x1.2 6 (by decide)
  have n7 : ν1 7 = ν 7 := x1.2 7 (by decide)
  have n8 : ν1 8 = ν 8 := x1.2 8 (by decide)
  have n9 : ν1 9 = ν 9 := x1.2 9 (by decide)
  have n10 : ν1 10 = ν 10 := x1.2 10 (by decide)
  have n11 : ν1 11 = ν 11 := x1.2 11 (by decide)
  have n12 : ν1 12 = ν 12 := x1.2 12 (by decide)
  have n13 : ν1 13 = ν 13 := x1.2 13 (by decide)
  have n14 : ν1 14 = ν 14 := x1.2 14 (by decide)
  have j0 := g1.iv 0 (lo := 0) (hi := 19) rfl
  have j1 := g1.iv 1 (lo := 0) (hi := 9) rfl
  have j2 := g1.iv 2 (lo := 0) (hi := 99) rfl
  have j3 := g1.iv 3 (lo := 0) (hi := 99) rfl
  have j4 := g1.iv 4 (lo := 0) (hi := 9) rfl
  have j6 := g1.iv 6 (lo := 0) (hi := 39) rfl
  refine b_gd.acpX c_hJ (gg := 105) (lo := 0) (hi := 99) (n := 5) (by decide +kernel) (by decide +kernel) (by decide +kernel) (by rfl) (by decide) (by decide) rfl (fun aa haa => ⟨[.int f0, .int f1, .int f2, .int f3, .int f4], ?_, rfl, ?_⟩) rfl (by decide) g1.here (fun b us hb g2 => ?_) rfl
  · have e : aa = a := by have := haa.v; omega
    rw [e]; exact t1
  · intro v hv
    simp only [List.mem_cons, List.not_mem_nil, or_false] at hv
    rcases hv with rfl | rfl | rfl | rfl | rfl
    · exact ⟨f0, rfl, by omega, by omega⟩
    · exact ⟨f1, rfl, by omega, by omega⟩
    · exact ⟨f2, rfl, by omega, by omega⟩
    · exact ⟨f3, rfl, by omega, by omega⟩
    · exact ⟨f4, rfl, by omega, by omega⟩
  · obtain ⟨hb, aa, vs, ws, haa, u1, u2, u3, u4, rfl⟩ := hb
    have e : aa = a := by have := haa.v; omega
    subst e
    rw [t1] at u1
    cases u1
    rw [sPrs u4] at g2 ⊢
    have vb := hb.v
    have lb : b < h1'.length := (List.getElem?_eq_some_iff.mp u3).1
    have sb : (h1'.set b (20, [.int f0, .int f1, .int f2, .int f3, .int f4]))[b]? = some (20, [.int f0, .int f1, .int f2, .int f3, .int f4]) := List.getElem?_set_self lb
    have g2 := g2.addF (f := ((3, 15, 0), (0, 0, 0), (1, 0, 0))) (b_fa.mk (a := b) (j := 0) (c_at_of sb rfl) (Or.inr ⟨rfl, by decide, by show _ = ν1 15; omega⟩) (Or.inl ⟨rfl, rfl⟩) (Or.inr ⟨rfl, by decide, by show _ = ν1 0 + 0; omega⟩))
    have g2 := g2.addF (f := ((3, 15, 0), (0, 0, 1), (1, 1, 0))) (b_fa.mk (a := b) (j := 1) (c_at_of sb rfl) (Or.inr ⟨rfl, by decide, by show _ = ν1 15; omega⟩) (Or.inl ⟨rfl, rfl⟩) (Or.inr ⟨rfl, by decide, by show _ = ν1 1 + 0; omega⟩))
    have g2 := g2.addF (f := ((3, 15, 0), (0, 0, 2), (1, 2, 0))) (b_fa.mk (a := b) (j := 2) (c_at_of sb rfl) (Or.inr ⟨rfl, by decide, by show _ = ν1 15; omega⟩) (Or.inl ⟨rfl, rfl⟩) (Or.inr ⟨rfl, by decide, by show _ = ν1 2 + 0; omega⟩))
    have g2 := g2.addF (f := ((3, 15, 0), (0, 0, 3), (1, 3, 0))) (b_fa.mk (a := b) (j := 3) (c_at_of sb rfl) (Or.inr ⟨rfl, by decide, by show _ = ν1 15; omega⟩) (Or.inl ⟨rfl, rfl⟩) (Or.inr ⟨rfl, by decide, by show _ = ν1 3 + 0; omega⟩))
    have g2 := g2.addF (f := ((3, 15, 0), (0, 0, 4), (1, 4, 0))) (b_fa.mk (a := b) (j := 4) (c_at_of sb rfl) (Or.inr ⟨rfl, by decide, by show _ = ν1 15; omega⟩) (Or.inl ⟨rfl, rfl⟩) (Or.inr ⟨rfl, by decide, by show _ = ν1 4 + 0; omega⟩))
    have Rk : ∀ i, i < 40 → c_at h1' 726 i = some (.ref (727 + i)) := fun i hi => by
      rw [F1.k g.2.2.2.2.1 c_ra726 c_rq104 (by decide) (by rfl)]
      exact hR i hi
    have ig := g1.iv 7 (lo := 0) (hi := 39) rfl
    have vr : b = 727 + (ν 6).toNat := by
      obtain ⟨b', q1, q2⟩ := g1.rdA (a := 726) (n := 6) (m := 15) (k := 0) (by rfl) (j := (ν 6).toNat) (by omega)
      rw [Rk _ (by omega)] at q1
      cases q1
      omega
    have vi : ν1 8 = ((727 + (ν 7).toNat : Nat) : Int) := by
      obtain ⟨b', q1, q2⟩ := g1.rdA (a := 726) (n := 7) (m := 8) (k := 0) (by rfl) (j := (ν 7).toNat) (by omega)
      rw [Rk _ (by omega)] at q1
      cases q1
      exact q2.symm
    have ne : ∀ k, c_at (h1'.set b (20, [.int f0, .int f1, .int f2, .int f3, .int f4])) (727 + (ν 7).toNat) k = c_at h1' (727 + (ν 7).toNat) k := fun k => by
      unfold c_at
      rw [List.getElem?_set_ne (by omega)]
    obtain ⟨z0, y0, w0⟩ := (g1.fa ((3, 8, 0), (0, 0, 0), (1, 9, 0)) (by rfl)).atI (a := 727 + (ν 7).toNat) (j := 0) (Or.inr ⟨rfl, by decide, by show _ = ν1 8; omega⟩) (Or.inl ⟨rfl, rfl⟩) (by show 1 < 2; decide)
    have g2 := g2.addF (f := ((3, 8, 0), (0, 0, 0), (1, 9, 0))) (b_fa.mk (a := 727 + (ν 7).toNat) (j := 0) (show c_at _ _ _ = some (.int z0) by rw [ne]; exact y0) (Or.inr ⟨rfl, by decide, by show _ = ν1 8; omega⟩) (Or.inl ⟨rfl, rfl⟩) (Or.inr ⟨rfl, by decide, w0.v⟩))
    obtain ⟨z1, y1, w1⟩ := (g1.fa ((3, 8, 0), (0, 0, 1), (1, 10, 0)) (by rfl)).atI (a := 727 + (ν 7).toNat) (j := 1) (Or.inr ⟨rfl, by decide, by show _ = ν1 8; omega⟩) (Or.inl ⟨rfl, rfl⟩) (by show 1 < 2; decide)
    have g2 := g2.addF (f := ((3, 8, 0), (0, 0, 1), (1, 10, 0))) (b_fa.mk (a := 727 + (ν 7).toNat) (j := 1) (show c_at _ _ _ = some (.int z1) by rw [ne]; exact y1) (Or.inr ⟨rfl, by decide, by show _ = ν1 8; omega⟩) (Or.inl ⟨rfl, rfl⟩) (Or.inr ⟨rfl, by decide, w1.v⟩))
    obtain ⟨z2, y2, w2⟩ := (g1.fa ((3, 8, 0), (0, 0, 2), (1, 11, 0)) (by rfl)).atI (a := 727 + (ν 7).toNat) (j := 2) (Or.inr ⟨rfl, by decide, by show _ = ν1 8; omega⟩) (Or.inl ⟨rfl, rfl⟩) (by show 1 < 2; decide)
    have g2 := g2.addF (f := ((3, 8, 0), (0, 0, 2), (1, 11, 0))) (b_fa.mk (a := 727 + (ν 7).toNat) (j := 2) (show c_at _ _ _ = some (.int z2) by rw [ne]; exact y2) (Or.inr ⟨rfl, by decide, by show _ = ν1 8; omega⟩) (Or.inl ⟨rfl, rfl⟩) (Or.inr ⟨rfl, by decide, w2.v⟩))
    obtain ⟨z3, y3, w3⟩ := (g1.fa ((3, 8, 0), (0, 0, 3), (1, 12, 0)) (by rfl)).atI (a := 727 + (ν 7).toNat) (j := 3) (Or.inr ⟨rfl, by decide, by show _ = ν1 8; omega⟩) (Or.inl ⟨rfl, rfl⟩) (by show 1 < 2; decide)
    have g2 := g2.addF (f := ((3, 8, 0), (0, 0, 3), (1, 12, 0))) (b_fa.mk (a := 727 + (ν 7).toNat) (j := 3) (show c_at _ _ _ = some (.int z3) by rw [ne]; exact y3) (Or.inr ⟨rfl, by decide, by show _ = ν1 8; omega⟩) (Or.inl ⟨rfl, rfl⟩) (Or.inr ⟨rfl, by decide, w3.v⟩))
    obtain ⟨z4, y4, w4⟩ := (g1.fa ((3, 8, 0), (0, 0, 4), (1, 13, 0)) (by rfl)).atI (a := 727 + (ν 7).toNat) (j := 4) (Or.inr ⟨rfl, by decide, by show _ = ν1 8; omega⟩) (Or.inl ⟨rfl, rfl⟩) (by show 1 < 2; decide)
    have g2 := g2.addF (f := ((3, 8, 0), (0, 0, 4), (1, 13, 0))) (b_fa.mk (a := 727 + (ν 7).toNat) (j := 4) (show c_at _ _ _ = some (.int z4) by rw [ne]; exact y4) (Or.inr ⟨rfl, by decide, by show _ = ν1 8; omega⟩) (Or.inl ⟨rfl, rfl⟩) (Or.inr ⟨rfl, by decide, w4.v⟩))
    refine b_gd.sg (S := sCm) c_hJ (b_orc_ok c_hJ (tab := []) (fun _ h => absurd h List.not_mem_nil) 3000 5) sCCm rfl (by decide) (by decide) (g2.wk (by decide +kernel)) (b_al.c ?_ b_al.n)
    intro ν3 h3' x3 g4
    exact b_pq.post (E0 := sCm.2.1.2.2.1) (.inl (some (1, 6, 1)), ([(106, 0, 0)], [((2, 365, 0), (0, 0, 52), (1, 6, 1)), ((2, 365, 0), (0, 0, 55), (0, 0, 0)), ((2, 726, 0), (1, 6, 0), (3, 14, 0)), ((3, 14, 0), (0, 0, 0), (1, 0, 0)), ((3, 14, 0), (0, 0, 1), (1, 1, 0)), ((3, 14, 0), (0, 0, 2), (1, 2, 0)), ((3, 14, 0), (0, 0, 3), (1, 3, 0)), ((3, 14, 0), (0, 0, 4), (1, 4, 0)), ((3, 8, 0), (0, 0, 0), (1, 9, 0)), ((3, 8, 0), (0, 0, 1), (1, 10, 0)), ((3, 8, 0), (0, 0, 2), (1, 11, 0)), ((3, 8, 0), (0, 0, 3), (1, 12, 0)), ((3, 8, 0), (0, 0, 4), (1, 13, 0)), ((2, 726, 0), (1, 7, 0), (3, 8, 0))], []), (1, 5)) List.mem_cons_self [(1, 0, 0), (1, 1, 0), (1, 2, 0), (1, 3, 0), (1, 4, 0), (1, 5, 0), (1, 6, 0), (1, 7, 0), (3, 8, 0), (1, 9, 0), (1, 10, 0), (1, 11, 0), (1, 12, 0), (1, 13, 0), (3, 15, 0)] (by decide +kernel) g4
theorem s84m {ν : BN} {h : AH} (hR : ∀ i, i < 40 → c_at h 726 i = some (.ref (727 + i))) (hgi : ν 7 < ν 6) (g : b_G c_K ν h h ([(0, 0, 19), (0, 0, 9), (0, 0, 99), (0, 0, 99), (0, 0, 9), (0, 0, 20), (0, 0, 39), (0, 0, 39), (106, 0, 0), (0, 0, 99), (0, 0, 99), (0, 0, 99), (0, 0, 99), (0, 0, 99)], [((2, 365, 0), (0, 0, 52), (1, 6, 0)), ((2, 365, 0), (0, 0, 55), (0, 0, 0)), ((3, 8, 0), (0, 0, 0), (1, 9, 0)), ((3, 8, 0), (0, 0, 1), (1, 10, 0)), ((3, 8, 0), (0, 0, 2), (1, 11, 0)), ((3, 8, 0), (0, 0, 3), (1, 12, 0)), ((3, 8, 0), (0, 0, 4), (1, 13, 0)), ((2, 726, 0), (1, 7, 0), (3, 8, 0))], [], [], [])) : b_gd c_K c_r249m 5 205 [some (2, 365, 0), some (1, 0, 0), some (1, 1, 0), some (1, 2, 0), some (1, 3, 0), some (1, 4, 0), none, none, none] [] 14 ν h 0 0 := by
  intro al st hl hs
  obtain rfl := hs.inv0
  obtain ⟨v0, a0, b0⟩ := hl.2 1 (1, 0, 0) rfl
  obtain ⟨f0, rfl, e0⟩ := b0.int (by show 1 < 2; decide)
  have w0 := e0.v
  obtain ⟨v1, a1, b1⟩ := hl.2 2 (1, 1, 0) rfl
  obtain ⟨f1, rfl, e1⟩ := b1.int (by show 1 < 2; decide)
  have w1 := e1.v
  obtain ⟨v2, a2, b2⟩ := hl.2 3 (1, 2, 0) rfl
  obtain ⟨f2, rfl, e2⟩ := b2.int (by show 1 < 2; decide)
  have w2 := e2.v
  obtain ⟨v3, a3, b3⟩ := hl.2 4 (1, 3, 0) rfl
  obtain ⟨f3, rfl, e3⟩ := b3.int (by show 1 < 2; decide)
  have w3 := e3.v
  obtain ⟨v4, a4, b4⟩ := hl.2 5 (1, 4, 0) rfl
  obtain ⟨f4, rfl, e4⟩ := b4.int (by show 1 < 2; decide)
  have w4 := e4.v
  have g1 := g.ad (ν' := b_nu ν 14 h.length) (E' := [(1, 1, 0)]) (F' := []) (C' := []) (fun n hn => if_neg (Nat.ne_of_lt hn)) ⟨by show b_q _ _ (b_nu ν 14 h.length 14); rw [b_nu_n]; exact b_q.r0, trivial⟩ trivial trivial
  have g2 := g1.app c_hJ (c := (20, [.int f0, .int f1, .int f2, .int f3, .int f4]))
  have hl2 : b_L 15 (b_nu ν 14 h.length) [some (2, 365, 0), some (1, 0, 0), some (1, 1, 0), some (1, 2, 0), some (1, 3, 0), some (1, 4, 0), none, none, none] al := hl.ext b_nu_ext
  obtain ⟨al2, s1, s2⟩ := b_sto_ok (k := 8) (b := (3, 14, 0)) (bl' := sBm.2.1.1) hl2 (v := .ref h.length) (Or.inr ⟨rfl, by decide, by rw [b_nu_n]⟩) rfl
  have m0 : b_nu ν 14 h.length 0 = ν 0 := if_neg (by decide)
  have m1 : b_nu ν 14 h.length 1 = ν 1 := if_neg (by decide)
  have m2 : b_nu ν 14 h.length 2 = ν 2 := if_neg (by decide)
  have m3 : b_nu ν 14 h.length 3 = ν 3 := if_neg (by decide)
  have m4 : b_nu ν 14 h.length 4 = ν 4 := if_neg (by decide)
  have m5 : b_nu ν 14 h.length 5 = ν 5 := if_neg (by decide)
  have m6 : b_nu ν 14 h.length 6 = ν 6 := if_neg (by decide)
  have m7 : b_nu ν 14 h.length 7 = ν 7 := if_neg (by decide)
  have hR2 : ∀ i, i < 40 → c_at (h ++ [(20, [.int f0, .int f1, .int f2, .int f3, .int f4])]) 726 i = some (.ref (727 + i)) := fun i hi => by
    have H := g.2.2.2.2.1
    have q := hR i hi
    unfold c_at at q ⊢
    rw [List.getElem?_append_left]
    · exact q
    · obtain ⟨t, ht⟩ := Option.isSome_iff_exists.mp (H.has c_ra726 c_rq104)
      exact (List.getElem?_eq_some_iff.mp ht).1
  obtain ⟨r, r1, r2⟩ := s106m (a := h.length) (g2.wk (by decide)) hR2 (by rw [m6, m7]; exact hgi) (by rw [b_nu_n]) c_atE (by rw [m0]; omega) (by rw [m1]; omega) (by rw [m2]; omega) (by rw [m3]; omega) (by rw [m4]; omega) al2 [] s2 b_S.nil
  exact ⟨r, sM a0 a1 a2 a3 a4 s1 r1, (r2.cut (W := []) b_frm.app (fun w hw => by cases hw)).ext (N := 15) ⟨by decide, fun n hn => if_neg (by have hn : n < 14 := hn; omega)⟩⟩
/-- where the rows of deals are those of the start -/
theorem c_v249m {ν : BN} {h : AH} {as : List Value} (hR : ∀ i, i < 40 → c_at h 726 i = some (.ref (727 + i))) (g : b_G c_K ν h h (b_pre c_r249m)) (hs : b_S (b_pre c_r249m).1.length ν c_r249m.2.2.1.1 as) : ∃ r, b_lim 6 249 as h = some r ∧ (b_post c_K c_r249me ν h r ∨ b_post c_K c_r249m ν h r) := by
  have hl : b_L sAm.2.1.2.2.1.length ν sAm.2.1.1 (a_args 249 as) := (show b_L _ ν (b_args c_r249m.1 c_r249m.2.2.1.1) (a_args c_r249m.1 as) from b_args_ok hs)
  obtain ⟨p, p1, ν1, h1, x1, g1, q1⟩ := b_rgc_ok (S := sAm) (mc := 0) (ms := 0) c_hJ (b_orc_ok c_hJ (tab := []) (fun _ h => absurd h List.not_mem_nil) 3000 5) sACm hl b_S.nil g
  have p1 : p ∈ (sAm.2.2.2) := p1
  rcases List.mem_cons.mp p1 with rfl | p1
  · obtain ⟨r, r1, r2, r3, r4⟩ := q1
    refine ⟨r, b_lim_run (b_argOK_ok hs (by decide +kernel)) r1, Or.inl ⟨(.inl (some (0, 0, 0)), ([], [((2, 365, 0), (0, 0, 55), (0, 0, 3))], []), (0, 0)), List.mem_cons_self, ν1, x1, r2, ?_, r4⟩⟩
    rw [r3]
    exact g1
  · rcases List.mem_singleton.mp p1 with rfl
    obtain ⟨al1, st1, d1, d2, d3⟩ := q1
    have F1 := g1.2.2.2.2.2
    obtain ⟨r, r1, r2⟩ := s84m (ν := ν1) (h := h1) (fun i hi => by rw [F1.k g.2.2.2.2.1 c_ra726 c_rq104 (by decide) (by rfl)]; exact hR i hi) (by rw [x1.2 7 (by decide), x1.2 6 (by decide)]; have c : ν 7 ≤ ν 6 + (-1) := g.co (a := 7) (b := 6) (c := -1) (by decide); omega) (g1.wk (by decide)) al1 st1 d1 d2
    exact ⟨r, b_lim_run (b_argOK_ok hs (by decide +kernel)) (d3 r r1), Or.inr ((r2.cut F1 (fun w hw => by
      have hw : w ∈ ([(50, 55)] : BW) := hw
      rw [List.mem_singleton.mp hw]
      show _ ∈ ([(50, 52), (50, 53), (50, 55), (105, 0), (106, 0), (107, 0)] : BW)
      decide)).ext x1)⟩
