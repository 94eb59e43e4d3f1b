/-! New arrays: made, filled and copied -/
section NA
variable {K : BH} {ν : BN} {h0 h : AH} {G : BG}
theorem b_frm.app {c : AC} : b_frm K [] h (h ++ [c]) := fun a d hd => ⟨d.2, by rw [List.getElem?_append_left (List.getElem?_eq_some_iff.mp hd).1]; exact hd, rfl, fun _ _ => rfl⟩
theorem b_G.app (hJ : b_JF K) {c : AC} (g : b_G K ν h0 h G) : b_G K ν (h ++ [c]) (h ++ [c]) (G.1, G.2.1, G.2.2.1, [], []) := by
  have up : ∀ {a : Nat} {d : AC}, h[a]? = some d → (h ++ [c])[a]? = some d := fun {a d} hd => by
    rw [List.getElem?_append_left (List.getElem?_eq_some_iff.mp hd).1]; exact hd
  refine ⟨g.1, fun f hf => ?_, g.2.2.1, (fun o ho => by cases ho), ⟨fun a gg row h1 h2 => ?_, hJ.1 [] h _ (fun w hw => by cases hw) b_frm.app g.2.2.2.2.1.2⟩, b_frm.rf⟩
  · obtain ⟨a, t, vs, k1, k2, k3⟩ := g.2.1 f hf
    exact ⟨a, t, vs, k1, up k2, k3⟩
  · obtain ⟨vs, k1, k2⟩ := g.2.2.2.2.1.1 a gg row h1 h2
    exact ⟨vs, up k1, k2⟩
theorem c_setE {h : AH} {c c' : AC} : (h ++ [c]).set h.length c' = h ++ [c'] := by
  rw [List.set_append_right _ _ (Nat.le_refl _), Nat.sub_self]; rfl
theorem c_atE {h : AH} {c : AC} : (h ++ [c])[h.length]? = some c := by
  rw [List.getElem?_append_right (Nat.le_refl _), Nat.sub_self]; rfl
/-- dup, a number, a local, iastore: a place of a new array -/
theorem c_fill {d mi pc len k m ln mc ms : Nat} {ld : Instr} {al : AL} {st : List Value} {h : AH} {vs : List Value} {x : Int32} {r : AR} (i1 : a_ins mi pc = some (.dup, 1)) {z : Int} (i2 : a_ins mi (pc + 1) = some (.iconst z, 1)) (i3 : a_ins mi (pc + 2) = some (ld, len)) (i4 : a_ins mi (pc + 2 + len) = some (.iastore, 1)) (hld : a_const ld = none ∧ a_load ld = some (k, 0) ∧ a_len ld = len ∧ b_isEnd ld = false ∧ (∀ own, b_noc own ld = true) ∧ (∀ q, ld ≠ .new q)) (hn : vs.length = ln) (hz : a_ix (Int32.ofInt z) ln = some m) (hx : a_get al k = some (.int x)) (hr : b_R d mi (pc + 2 + len + 1) al (.ref h.length :: st) (h ++ [(20, vs.set m (.int x))]) mc ms r) : b_R d mi pc al (.ref h.length :: st) (h ++ [(20, vs)]) mc ms r := by
  obtain ⟨l1, l2, l3, l4, l5, l6⟩ := hld
  refine b_R.stp i1 rfl rfl rfl (a_by1 rfl rfl) ?_
  refine b_R.stp i2 rfl rfl rfl (a_by1 rfl rfl) ?_
  have e3 : a_st1 ld (pc + 2) al (.int (Int32.ofInt z) :: .ref h.length :: .ref h.length :: st) (h ++ [(20, vs)]) = some (pc + 2 + len, al, .int x :: .int (Int32.ofInt z) :: .ref h.length :: .ref h.length :: st, h ++ [(20, vs)], 0, 0) := by
    unfold a_st1
    rw [l1]
    dsimp only
    rw [l2]
    dsimp only
    rw [hx]
    dsimp only
    rw [if_pos (show a_kind (.int x) = 0 from rfl), l3]
  refine b_R.stp i3 (a_endN l4) (a_trwN l6) (b_noc_ok (l5 _)) (a_by1 l3.symm e3) ?_
  refine b_R.stp i4 rfl rfl rfl (a_by4 rfl (b_st4A (Or.inl rfl) c_atE (by show (if (20 : Nat) ≠ 19 ∧ a_aty 20 = some .int then some (Value.int x) else none) = _; rw [if_pos ⟨by decide, rfl⟩]) (by rw [hn]; exact hz))) ?_
  rw [c_setE]
  exact hr
theorem b_R.acp {d mi pc len mc ms : Nat} {i : Instr} {al : AL} {st st' : List Value} {h h' : AH} {r : AR} (hi : a_ins mi pc = some (i, len)) (h1 : a_end mi i st = none) (h2 : a_trw mi pc i st = none) (h3 : a_call (a_own mi) i st h = none) (h4 : a_stp (a_own mi) (a_ini mi) i len pc al st h = none) (h5 : a_acp (a_own mi) i len st h = some (st', h')) (hr : b_R d mi (pc + len) al st' h' mc ms r) : b_R d mi pc al st h mc ms r := by
  obtain ⟨f, hf⟩ := hr
  refine ⟨f + 1, ?_⟩
  rw [a_go, hi]
  dsimp only
  rw [h1]
  dsimp only
  rw [h2]
  dsimp only
  rw [h3]
  dsimp only
  rw [h4]
  dsimp only
  rw [h5]
  exact hf
/-- arraycopy out of a new array over a row -/
theorem b_gd.acp (hJ : b_JF K) {R : BRw} {d pc n : Nat} {bl : BL} {base told : BV} {gg : Nat} {lo hi : Int} {mc ms : Nat} {z : Int} (hi0 : a_ins R.1 pc = some (.invokestatic 166, 3)) (ho : a_own R.1 = 12) (hno : b_noc 12 (.invokestatic 166) = true ∧ ((a_of a_mat 12).find? (fun e => e.1 == 166)).isNone = true) (hr : b_row K G.1 base = some (gg, (20, n, 1, [(0, lo, hi)]))) (hp : K.2.2.1.contains (gg, 0) = false) (hW : R.2.2.2.1.contains (gg, 0) = true) (hz : z = (n : Int)) (ht : ∀ aa, b_r G.1.length ν told aa → ∃ vs, h[aa]? = some (20, vs) ∧ vs.length = n ∧ ∀ v ∈ vs, ∃ x : Int32, v = .int x ∧ lo ≤ x.toInt ∧ x.toInt ≤ hi) (hkd : told.1 = 3) (hN0 : R.2.2.1.2.1.length ≤ G.1.length) (g : b_G K ν h h G) (k : ∀ (b : Nat) (us : List Value), b_G K ν h (h.set b (20, us)) (b_blk K G (gg, 0)) → b_gd K R d (pc + 3) bl [] G.1.length ν (h.set b (20, us)) mc ms) (hG : G.2.2.2.2 = []) : b_gd K R d pc bl [(0, 0, z), (0, 0, 0), base, (0, 0, 0), told] G.1.length ν h mc ms := by
  intro al st hl hs
  obtain ⟨v1, s1, rfl, h1, k1⟩ := hs.inv
  obtain ⟨v2, s2, rfl, h2, k2⟩ := k1.inv
  obtain ⟨v3, s3, rfl, h3, k3⟩ := k2.inv
  obtain ⟨v4, s4, rfl, h4, k4⟩ := k3.inv
  obtain ⟨v5, s5, rfl, h5, k5⟩ := k4.inv
  obtain rfl := k5.inv0
  obtain ⟨N, rfl, hN⟩ := h1.int (by show 0 < 2; decide)
  obtain ⟨DP, rfl, hDP⟩ := h2.int (by show 0 < 2; decide)
  obtain ⟨SP, rfl, hSP⟩ := h4.int (by show 0 < 2; decide)
  obtain ⟨aa, rfl, ha⟩ := h5.ref (Or.inr hkd)
  obtain ⟨bb, ws, rfl, hb, z1, z2, n1, n2, n3⟩ := g.2.2.2.2.1.at g.1 h3 hr
  have n1 : h[bb]? = some (20, ws) := n1
  have lw : ws.length = n := n2 (by show (1 : Nat) ≠ 2; decide)
  obtain ⟨vs, t1, t2, t3⟩ := ht aa ha
  have eN : N.toInt = z := hN.k
  have eD : DP.toInt = 0 := hDP.k
  have eS : SP.toInt = 0 := hSP.k
  have cN : N.toNatClampNeg = N.toInt.toNat := rfl
  have cD : DP.toNatClampNeg = DP.toInt.toNat := rfl
  have cS : SP.toNatClampNeg = SP.toInt.toNat := rfl
  have neg : ∀ X : Int32, 0 ≤ X.toInt → ¬ X < 0 := fun X hX q => by
    have := Int32.lt_iff_toInt_lt.mp q
    have z : (0 : Int32).toInt = 0 := by decide
    omega
  have inS : ∀ v, v ∈ a_sl vs SP.toNatClampNeg N.toNatClampNeg → v ∈ vs := fun v hv => List.mem_of_mem_drop (List.mem_of_mem_take hv)
  have hfit : a_fitL .int (a_sl vs SP.toNatClampNeg N.toNatClampNeg) = true := List.all_eq_true.mpr fun v hv => by
    obtain ⟨x, rfl, -⟩ := t3 v (inS v hv)
    rfl
  have e : a_acp (a_own R.1) (.invokestatic 166) 3 (.int N :: .int DP :: .ref bb :: .int SP :: .ref aa :: []) h = some ([], h.set bb (20, a_prs DP.toNatClampNeg (a_sl vs SP.toNatClampNeg N.toNatClampNeg).zipIdx ws)) := by
    unfold a_acp
    dsimp only
    rw [if_pos ⟨ho, rfl, rfl, by decide, neg _ (by omega), neg _ (by omega), neg _ (by omega)⟩, t1, n1]
    dsimp only
    rw [show a_aty 20 = some .int from rfl]
    dsimp only
    rw [if_pos ⟨rfl, by decide, rfl, by omega, by omega, hfit⟩]
  have g' := b_blk_ok hJ g n1 (us := a_prs DP.toNatClampNeg (a_sl vs SP.toNatClampNeg N.toNatClampNeg).zipIdx ws) (a_prs_len ..) z1 z2 (by show (1 : Nat) ≠ 0; decide) hp (fun j v ty' hj hty' => by
    have hty' : some ((0, lo, hi) : BT) = some ty' := hty'
    cases hty'
    rcases a_prs_in _ _ _ _ (List.mem_of_getElem? hj) with q | ⟨q, q1, q2⟩
    · obtain ⟨j', hj'⟩ := List.mem_iff_getElem?.mp q
      exact n3 j' v (0, lo, hi) hj' rfl
    · obtain ⟨x, x0, x1, x2⟩ := t3 q.1 (inS _ (a_zip_in q1).1)
      rw [q2, x0]
      exact ⟨x1, x2⟩)
  obtain ⟨r, r1, r2⟩ := k _ _ g' al [] hl b_S.nil
  refine ⟨r, b_R.acp hi0 rfl rfl (b_noc_ok (by rw [ho]; exact hno.1)) (a_stpN (i := .invokestatic 166) (k := 5) rfl (by decide) ?_) e r1, r2.cut (W := [(gg, 0)]) ?_ (fun w hw => ?_)⟩
  · unfold a_st5
    dsimp only
    rw [ho, Option.isNone_iff_eq_none.mp hno.2]
  · have f := g'.2.2.2.2.2
    unfold b_blk at f
    dsimp only at f
    rw [hG] at f
    exact f
  · rw [List.mem_singleton.mp hw]
    simpa using hW
end NA
