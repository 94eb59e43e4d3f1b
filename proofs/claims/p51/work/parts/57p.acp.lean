/-! System.arraycopy on values known in part: an array is written all over -/
def b_blk (K : BH) (G : BG) (w : Nat × Nat) : BG := (G.1, G.2.1.filter (b_kp K G.1 w), G.2.2.1, G.2.2.2.1, if G.2.2.2.2.contains w = true then G.2.2.2.2 else w :: G.2.2.2.2)
def b_acp (K : BH) (own : Nat) (i : Instr) (len : Nat) (bs : List BV) (G : BG) : Option (List BV × BG) := match i, bs with
  | .invokestatic idx, n :: dp :: b :: sp :: a :: bs => match b_row K G.1 a, b_row K G.1 b with
    | some (_, ra), some (gb, rb) => match b_ty ra 0, b_ty rb 0, a_aty ra.1 with
      | some ta, some tb, some ty => if (own = 12 ∧ idx = 166 ∧ len = 3 ∧ b_cat bs < 0 ∧ n.1 < 2 ∧ dp.1 < 2 ∧ sp.1 < 2) ∧ (0 ≤ (b_iv G.1 sp).1 ∧ 0 ≤ (b_iv G.1 dp).1 ∧ 0 ≤ (b_iv G.1 n).1) ∧ (ra.2.2.1 = 1 ∧ rb.2.2.1 = 1 ∧ ra.1 = rb.1 ∧ 20 ≤ ra.1 ∧ refKind ty = false) ∧ ((b_iv G.1 sp).2 + (b_iv G.1 n).2 ≤ (ra.2.1 : Int) ∧ (b_iv G.1 dp).2 + (b_iv G.1 n).2 ≤ (rb.2.1 : Int)) ∧ (ta.1 = 0 ∧ tb.1 = 0 ∧ tb.2.1 ≤ ta.2.1 ∧ ta.2.2 ≤ tb.2.2 ∧ s_fit ty [(ta.2.1, ta.2.2)] = true) ∧ K.2.2.1.contains (gb, 0) = false ∧ ((a_of a_mat own).find? (fun e => e.1 == idx)).isNone = true then some (bs, b_blk K G (gb, 0)) else none
      | _, _, _ => none
    | _, _ => none
  | .pop2, v :: bs => if len = 1 ∧ b_two v = true then some (bs, G) else none
  | _, _ => none
section BQ2
variable {K : BH} {ν : BN} {h0 h : AH} {G : BG}
theorem b_blk_ok (hJ : b_JF K) (g : b_G K ν h0 h G) {a t gg : Nat} {vs us : List Value} {row : BR} (ha : h[a]? = some (t, vs)) (hl : us.length = vs.length) (z1 : K.1 a = some gg) (z2 : K.2.1 gg = some row) (n0 : row.2.2.1 ≠ 0) (hw : K.2.2.1.contains (gg, 0) = false) (hv : ∀ (j : Nat) (v : Value) (ty : BT), us[j]? = some v → b_ty row j = some ty → b_st K ty v) : b_G K ν h0 (h.set a (t, us)) (b_blk K G (gg, 0)) := by
  have hal := (List.getElem?_eq_some_iff.mp ha).1
  have hkey : ∀ j, b_key K a j = some (gg, 0) := fun j => b_keyA z1 z2 n0
  have hT : b_T K (h.set a (t, us)) := by
    intro a' g' row' h1 h2
    obtain ⟨ws, k1, k2, k3⟩ := g.2.2.2.2.1.1 a' g' row' h1 h2
    by_cases e : a' = a
    · subst e
      rw [ha] at k1
      cases k1
      rw [z1] at h1
      cases h1
      rw [z2] at h2
      cases h2
      exact ⟨us, by rw [List.getElem?_set_self hal], fun q => by rw [hl]; exact k2 q, hv⟩
    · exact ⟨ws, by rw [List.getElem?_set_ne (Ne.symm e)]; exact k1, k2, k3⟩
  have fr : ∀ (W : BW) (hh : AH), b_frm K W hh h → ∀ W' : BW, (∀ w, w ∈ W → w ∈ W') → (gg, 0) ∈ W' → b_frm K W' hh (h.set a (t, us)) := by
    intro W hh F W' hW hm a' c hc
    obtain ⟨ws, k1, k2, k3⟩ := F a' c hc
    by_cases e : a' = a
    · subst e
      rw [ha] at k1
      cases k1
      exact ⟨us, by rw [List.getElem?_set_self hal], hl.trans k2, fun j hj => absurd (hkey j) (hj _ hm)⟩
    · exact ⟨ws, by rw [List.getElem?_set_ne (Ne.symm e)]; exact k1, k2, fun j hj => k3 j (fun w hw => hj w (hW w hw))⟩
  refine ⟨g.1, fun f hf => ?_, g.2.2.1, g.2.2.2.1, ⟨hT, ?_⟩, ?_⟩
  · obtain ⟨q1, q2⟩ := List.mem_filter.mp hf
    refine b_kp_ok g (g.2.1 f q1) q2 (fun a' t' vs' h' => ?_)
    by_cases e : a' = a
    · subst e
      rw [ha] at h'
      cases h'
      exact ⟨us, List.getElem?_set_self hal, hl, fun j hj => absurd (hkey j) hj⟩
    · exact ⟨vs', by rw [List.getElem?_set_ne (Ne.symm e)]; exact h', rfl, fun _ _ => rfl⟩
  · have f0 : b_frm K [] h h := fun a c hc => ⟨c.2, hc, rfl, fun _ _ => rfl⟩
    refine hJ [(gg, 0)] h _ (fun w' hw' => ?_) (fr [] h f0 _ (fun w hw => by cases hw) List.mem_cons_self) g.2.2.2.2.1.2
    simp only [List.mem_cons, List.not_mem_nil, or_false] at hw'
    rw [hw']
    intro q
    simp [q] at hw
  · refine fr _ h0 g.2.2.2.2.2 _ (fun w hw' => ?_) ?_
    · show w ∈ (if G.2.2.2.2.contains (gg, 0) = true then G.2.2.2.2 else (gg, 0) :: G.2.2.2.2)
      split
      · exact hw'
      · exact List.mem_cons_of_mem _ hw'
    · show (gg, 0) ∈ (if G.2.2.2.2.contains (gg, 0) = true then G.2.2.2.2 else (gg, 0) :: G.2.2.2.2)
      split
      · rename_i q
        simpa using q
      · exact List.mem_cons_self
theorem a_stpN {own : Nat} {ini : Bool} {i : Instr} {len pc : Nat} {al : AL} {st : List Value} {h : AH} {k : Nat} (hs : a_stage i = k) (hk : k ≠ 7 ∧ k ≠ 1 ∧ k ≠ 4 ∧ k ≠ 2 ∧ k ≠ 3 ∧ k ≠ 6) (h5 : a_st5 own i pc al st h = none) : a_stp own ini i len pc al st h = none := by
  unfold a_stp
  rw [a_opt (o := a_sw i pc al st h) (fun r hr => by have := a_n7 hr; omega)]
  dsimp only
  split
  · rw [a_opt (o := a_st1 i pc al st h) (fun r hr => by have := a_n1 hr; omega)]
    dsimp only
    rw [a_opt (o := a_st4 own ini i pc al st h) (fun r hr => by have := a_n4 hr; omega)]
    dsimp only
    rw [a_opt (o := a_st2 i pc al st h) (fun r hr => by have := a_n2 hr; omega)]
    dsimp only
    rw [a_opt (o := a_st3 i pc al st h) (fun r hr => by have := a_n3 hr; omega)]
    dsimp only
    rw [h5]
    dsimp only
    exact a_opt (fun r hr => by have := a_n6 hr; omega)
  · rfl
theorem b_iv0 {x : BV} {X : Int32} (g : b_sat K G.1 ν) (hx : b_i G.1.length ν x X.toInt) (h : 0 ≤ (b_iv G.1 x).1) : ¬ X < 0 ∧ (X.toNatClampNeg : Int) ≤ (b_iv G.1 x).2 := by
  have iv := b_iv_ok g hx
  have e : X.toNatClampNeg = X.toInt.toNat := rfl
  refine ⟨fun q => ?_, by omega⟩
  have := Int32.lt_iff_toInt_lt.mp q
  have z : (0 : Int32).toInt = 0 := by decide
  omega
theorem b_acp_ok (hJ : b_JF K) (g : b_G K ν h0 h G) {own : Nat} {i : Instr} {len : Nat} {bs bs' : List BV} {st : List Value} {G' : BG} (hs : b_S G.1.length ν bs st) (hr : b_acp K own i len bs G = some (bs', G')) : ∃ st' h', a_acp own i len st h = some (st', h') ∧ b_S G'.1.length ν bs' st' ∧ b_G K ν h0 h' G' ∧ G'.1.length = G.1.length ∧ ((∃ idx, i = .invokestatic idx) ∨ i = .pop2) ∧ ∀ (ini : Bool) (pc : Nat) (al : AL), a_stp own ini i len pc al st h = none := by
  unfold b_acp at hr
  split at hr
  · rename_i idx n dp b sp a bs2
    split at hr
    · rename_i ga ra gb rb hra hrb
      split at hr
      · rename_i ta tb ty hta htb hty
        split at hr
        · rename_i hc
          cases hr
          obtain ⟨⟨c1, c2, c3, c4, c5, c6, c7⟩, ⟨d1, d2, d3⟩, ⟨e1, e2, e3, e4, e5⟩, ⟨f1, f2⟩, ⟨t1, t2, t3, t4, t5⟩, w1, w2⟩ := hc
          obtain ⟨v1, s1, rfl, h1, k1⟩ := hs.inv
          obtain ⟨v2, s2, rfl, h2, k2⟩ := k1.inv
          obtain ⟨v3, s3, rfl, h3, k3⟩ := k2.inv
          obtain ⟨v4, s4, rfl, h4, k4⟩ := k3.inv
          obtain ⟨v5, s5, rfl, h5, k5⟩ := k4.inv
          obtain ⟨N, rfl, hN⟩ := h1.int c5
          obtain ⟨DP, rfl, hDP⟩ := h2.int c6
          obtain ⟨SP, rfl, hSP⟩ := h4.int c7
          obtain ⟨aa, vs, rfl, ha, y1, y2, m1, m2, m3⟩ := g.2.2.2.2.1.at g.1 h5 hra
          obtain ⟨bb, ws, rfl, hb, z1, z2, n1, n2, n3⟩ := g.2.2.2.2.1.at g.1 h3 hrb
          have m1 : h[aa]? = some (ra.1, vs) := m1
          have n1 : h[bb]? = some (rb.1, ws) := n1
          have m2 : ra.2.2.1 ≠ 2 → vs.length = ra.2.1 := m2
          have n2 : rb.2.2.1 ≠ 2 → ws.length = rb.2.1 := n2
          have lv : vs.length = ra.2.1 := m2 (by omega)
          have lw : ws.length = rb.2.1 := n2 (by omega)
          obtain ⟨iN1, iN2⟩ := b_iv0 g.1 hN d3
          obtain ⟨iD1, iD2⟩ := b_iv0 g.1 hDP d2
          obtain ⟨iS1, iS2⟩ := b_iv0 g.1 hSP d1
          have na : ra.2.2.1 ≠ 0 := by omega
          have nb : rb.2.2.1 ≠ 0 := by omega
          have src : ∀ v, v ∈ vs → ∃ x : Int32, v = .int x ∧ ta.2.1 ≤ x.toInt ∧ x.toInt ≤ ta.2.2 := by
            intro v hv
            obtain ⟨j, hj⟩ := List.mem_iff_getElem?.mp hv
            have := m3 j v ta hj (by rw [b_tyA na]; exact hta)
            unfold b_st at this
            rw [t1] at this
            cases v <;> first | exact this.elim | exact ⟨_, rfl, this⟩
          have inS : ∀ v, v ∈ a_sl vs SP.toNatClampNeg N.toNatClampNeg → v ∈ vs := fun v hv => List.mem_of_mem_drop (List.mem_of_mem_take hv)
          have hfit : a_fitL ty (a_sl vs SP.toNatClampNeg N.toNatClampNeg) = true := by
            refine List.all_eq_true.mpr fun v hv => ?_
            obtain ⟨x, rfl, x1, x2⟩ := src v (inS v hv)
            have := (s_fit_ok (x := x) (ty := ty) ⟨_, List.mem_cons_self, x1, x2⟩ t5).2
            rw [this]; rfl
          have e : a_acp own (.invokestatic idx) len (.int N :: .int DP :: .ref bb :: .int SP :: .ref aa :: s5) h = some (s5, h.set bb (rb.1, a_prs DP.toNatClampNeg (a_sl vs SP.toNatClampNeg N.toNatClampNeg).zipIdx ws)) := by
            unfold a_acp
            dsimp only
            rw [if_pos ⟨c1, c2, c3, by rw [b_catL k5]; exact c4, iS1, iD1, iN1⟩, m1, n1]
            dsimp only
            rw [hty]
            dsimp only
            rw [if_pos ⟨e3, e4, e5, by omega, by omega, hfit⟩]
          refine ⟨_, _, e, k5, b_blk_ok hJ g n1 (a_prs_len ..) z1 z2 nb w1 (fun j v ty' hj hty' => ?_), rfl, Or.inl ⟨idx, rfl⟩, fun ini pc al => a_stpN (i := .invokestatic idx) (k := 5) rfl (by decide) ?_⟩
          · rw [b_tyA nb, htb] at hty'
            cases hty'
            rcases a_prs_in _ _ _ _ (List.mem_of_getElem? hj) with q | ⟨q, q1, q2⟩
            · obtain ⟨j', hj'⟩ := List.mem_iff_getElem?.mp q
              exact n3 j' v tb hj' (by rw [b_tyA nb]; exact htb)
            · obtain ⟨x, x0, x1, x2⟩ := src q.1 (inS _ (a_zip_in q1).1)
              rw [q2, x0]
              unfold b_st
              rw [t2]
              exact ⟨by omega, by omega⟩
          · unfold a_st5
            dsimp only
            rw [Option.isNone_iff_eq_none.mp w2]
        · cases hr
      · cases hr
    · cases hr
  · rename_i v bs2
    split at hr
    · rename_i hc
      cases hr
      obtain ⟨x, st', rfl, h1, h2⟩ := hs.inv
      have hcat : x.category = 2 := by rw [h1.cat, if_pos hc.2]
      refine ⟨st', h, ?_, h2, g, rfl, Or.inr rfl, fun ini pc al => a_stpN (i := .pop2) (k := 0) rfl (by decide) rfl⟩
      unfold a_acp
      dsimp only
      rw [if_pos ⟨hc.1, hcat⟩]
    · cases hr
  · cases hr
end BQ2
