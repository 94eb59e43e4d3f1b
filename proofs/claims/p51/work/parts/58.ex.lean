/-! A run on values known in part, to its ends and to the cuts -/
/-- an end: what is returned, or the exception -/
abbrev BE : Type := (Option BV) ⊕ Nat
/-- an end or a cut, what is known there, cells and slots made -/
abbrev BY : Type := (BE ⊕ (Nat × BL × List BV)) × BG × (Nat × Nat)
def b_end (mi : Nat) (i : Instr) (bs : List BV) (E : BQ) : Option (Option BV) := match i, bs with
  | .return_, [] => if a_rty mi = none then some none else none
  | .ireturn, [v] => match a_rty mi with
    | some ty => if v.1 < 2 ∧ s_fit ty [b_iv E v] = true then some (some v) else none
    | none => none
  | .lreturn, [v] => if b_kd v = 1 ∧ a_rty mi = some .long then some (some v) else none
  | .freturn, [v] => if b_kd v = 2 ∧ a_rty mi = some .float then some (some v) else none
  | .dreturn, [v] => if b_kd v = 3 ∧ a_rty mi = some .double then some (some v) else none
  | _, _ => none
def b_trw (mi pc : Nat) (i : Instr) (bs : List BV) : Option Nat := match i with
  | .new _ => if b_cat bs ≤ 8 then (a_thr.find? (fun r => r.1 == mi && r.2.1 == pc)).map (fun r => r.2.2.2.2.2.2.2.1) else none
  | _ => none
def b_call (K : BH) (own : Nat) (i : Instr) (bs : List BV) (E : BQ) : Option (Nat × List BV × List BV) := match i with
  | .invokevirtual idx => match (a_of a_inv own).find? (fun e => e.1 == idx && e.2.1 == 0) with
    | some e => if a_nrg e.2.2.1 ≤ bs.length ∧ b_cat (bs.drop (a_nrg e.2.2.1)) ≤ 8 then
        (match (bs.take (a_nrg e.2.2.1)).reverse with
        | base :: as => (match b_row K E base with
          | some (_, row) => if row.1 = a_own e.2.2.1 then some (e.2.2.1, base :: as, bs.drop (a_nrg e.2.2.1)) else none
          | none => none)
        | _ => none) else none
    | none => none
  | .invokestatic idx => match (a_of a_inv own).find? (fun e => e.1 == idx && e.2.1 == 1) with
    | some e => if a_nrg e.2.2.1 ≤ bs.length ∧ b_cat (bs.drop (a_nrg e.2.2.1)) ≤ 8 then some (e.2.2.1, (bs.take (a_nrg e.2.2.1)).reverse, bs.drop (a_nrg e.2.2.1)) else none
    | none => none
  | _ => none
/-- no call of a method of the tables -/
def b_noc (own : Nat) (i : Instr) : Bool := match i with
  | .invokestatic idx => ((a_of a_inv own).find? (fun e => e.1 == idx && e.2.1 == 1)).isNone
  | .invokevirtual _ => false
  | .invokespecial _ => false
  | _ => true
def b_drop (bl : BL) (n : Nat) : BL := (b_kill bl n).set n none
abbrev BK : Type := Nat → List BV → BG → Option (List (BE × BG × (Nat × Nat)))
noncomputable def b_ex (K : BH) (call : BK) (cuts : List Nat) (mi : Nat) : Nat → Bool → Nat → BL → List BV → BG → Nat → Nat → Option (List BY)
  | 0, _, _, _, _, _, _, _ => none
  | f + 1, first, pc, bl, bs, G, c, s =>
    if first = false ∧ cuts.contains pc = true then some [(.inr (pc, bl, bs), G, c, s)] else
    match a_ins mi pc with
    | none => none
    | some (i, len) => match b_end mi i bs G.1 with
      | some v => some [(.inl (.inl v), G, c, s)]
      | none => match b_trw mi pc i bs with
        | some k => some [(.inl (.inr k), G, c + 1, s + 6)]
        | none => match b_call K (a_own mi) i bs G.1 with
          | some (mt, as, rest) => (match call mt as G with
            | some outs => b_all outs fun o => f_G o.2.1 fun G' => f_n (c + o.2.2.1) fun c' => f_n (s + o.2.2.2) fun s' => (match o.1 with
              | .inl v => f_n (pc + 3) fun pc' => f_l f_b (v.toList ++ rest) fun bs' => b_ex K call cuts mi f false pc' bl bs' G' c' s'
              | .inr k => if a_isSp i = true then none else if (a_hnd mi).isEmpty = true then some [(.inl (.inr k), G', c', s')] else (match a_cth mi pc k with
                | some x => (match a_hdl mi x.2.2.1 with
                  | some (hp, n) => if n < bl.length then b_ex K call cuts mi f false hp (b_drop bl n) [] G' c' s' else none
                  | none => none)
                | none => none))
            | none => none)
          | none => if b_noc (a_own mi) i = true then (match b_stp K (a_own mi) i len pc bl bs G with
            | some L => b_all L fun o => b_nrm i o fun pc bl bs G => b_ex K call cuts mi f false pc bl bs G c s
            | none => (match b_acp K (a_own mi) i len bs G with
              | some o => f_n (pc + len) fun pc' => f_l f_b o.1 fun bs' => f_G o.2 fun G' => b_ex K call cuts mi f false pc' bl bs' G' c s
              | none => none)) else none
section BE
variable {K : BH} {ν : BN} {h0 h : AH} {G : BG}
def b_fin (N : Nat) (ν : BN) (o : BE) (r : (Option Value) ⊕ Nat) : Prop := match o, r with
  | .inl none, .inl none => True
  | .inl (some b), .inl (some v) => b_v N ν b v
  | .inr k, .inr k' => k = k'
  | _, _ => False
/-- calls of these do what they say -/
def b_cal (K : BH) (cA : Nat → List Value → AH → Option AR) (cB : BK) : Prop := ∀ (ν : BN) (h0 h : AH) (mt : Nat) (bas : List BV) (as : List Value) (G : BG) (outs : List (BE × BG × (Nat × Nat))), cB mt bas G = some outs → b_G K ν h0 h G → b_S G.1.length ν bas as → ∃ r, cA mt as h = some r ∧ ∃ o ∈ outs, ∃ ν', b_ext G.1.length o.2.1.1.length ν ν' ∧ b_fin o.2.1.1.length ν' o.1 r.1 ∧ b_G K ν' h0 r.2.1 o.2.1 ∧ r.2.2 = o.2.2
theorem b_S.rev {N : Nat} {bs : List BV} {st : List Value} (h : b_S N ν bs st) : b_S N ν bs.reverse st.reverse := by
  refine ⟨by rw [List.length_reverse, List.length_reverse]; exact h.1, fun i b hb => ?_⟩
  have hi : i < bs.length := by
    have := (List.getElem?_eq_some_iff.mp hb).1
    rwa [List.length_reverse] at this
  rw [List.getElem?_reverse hi] at hb
  obtain ⟨v, h1, h2⟩ := h.2 _ b hb
  exact ⟨v, by rw [List.getElem?_reverse (by rw [← h.1]; exact hi), ← h.1]; exact h1, h2⟩
theorem b_S.take {N : Nat} {bs : List BV} {st : List Value} (h : b_S N ν bs st) (n : Nat) : b_S N ν (bs.take n) (st.take n) := by
  refine ⟨by rw [List.length_take, List.length_take, h.1], fun i b hb => ?_⟩
  rw [List.getElem?_take] at hb ⊢
  split at hb
  · rename_i e
    rw [if_pos e]
    exact h.2 i b hb
  · cases hb
theorem b_S.drop {N : Nat} {bs : List BV} {st : List Value} (h : b_S N ν bs st) (n : Nat) : b_S N ν (bs.drop n) (st.drop n) := by
  refine ⟨by rw [List.length_drop, List.length_drop, h.1], fun i b hb => ?_⟩
  rw [List.getElem?_drop] at hb ⊢
  exact h.2 _ b hb
theorem b_S.app {N : Nat} {bs bs' : List BV} {st st' : List Value} (h : b_S N ν bs st) (h' : b_S N ν bs' st') : b_S N ν (bs ++ bs') (st ++ st') := by
  refine ⟨by rw [List.length_append, List.length_append, h.1, h'.1], fun i b hb => ?_⟩
  rcases Nat.lt_or_ge i bs.length with q | q
  · rw [List.getElem?_append_left q] at hb
    obtain ⟨v, h1, h2⟩ := h.2 i b hb
    exact ⟨v, by rw [List.getElem?_append_left (by rw [← h.1]; exact q)]; exact h1, h2⟩
  · rw [List.getElem?_append_right q] at hb
    obtain ⟨v, h1, h2⟩ := h'.2 _ b hb
    exact ⟨v, by rw [List.getElem?_append_right (by rw [← h.1]; exact q), ← h.1]; exact h1, h2⟩
theorem b_end_ok {mi : Nat} {i : Instr} {bs : List BV} {st : List Value} {v : Option BV} (g : b_sat K G.1 ν) (hs : b_S G.1.length ν bs st) (hr : b_end mi i bs G.1 = some v) : ∃ w, a_end mi i st = some w ∧ b_fin G.1.length ν (.inl v) (.inl w) := by
  have knd : ∀ {b : BV} {v : Value}, b_v G.1.length ν b v → ∀ k, b_kd b = k → a_kind v = k := fun hv k hk => by rw [hv.kind]; exact hk
  unfold b_end at hr
  split at hr
  · split at hr
    · rename_i e
      cases hr
      rw [hs.inv0]
      exact ⟨none, by unfold a_end; dsimp only; rw [if_pos e], trivial⟩
    · cases hr
  · rename_i b
    split at hr
    · rename_i ty hty
      split at hr
      · rename_i e
        cases hr
        obtain ⟨x, st', rfl, h1, h2⟩ := hs.inv
        rw [h2.inv0]
        obtain ⟨X, rfl, hX⟩ := h1.int e.1
        have e3 := (s_fit_ok (x := X) (ty := ty) ⟨_, List.mem_cons_self, b_iv_ok g hX⟩ e.2).1
        exact ⟨some (.int X), by unfold a_end; dsimp only; rw [hty]; dsimp only; rw [if_pos e3], h1⟩
      · cases hr
    · cases hr
  · split at hr
    · rename_i e
      cases hr
      obtain ⟨x, st', rfl, h1, h2⟩ := hs.inv
      rw [h2.inv0]
      have k := knd h1 _ e.1
      obtain ⟨X, rfl⟩ : ∃ X, x = .long X := by cases x <;> first | exact ⟨_, rfl⟩ | (simp [a_kind] at k)
      exact ⟨some (.long X), by unfold a_end; dsimp only; rw [if_pos e.2], h1⟩
    · cases hr
  · split at hr
    · rename_i e
      cases hr
      obtain ⟨x, st', rfl, h1, h2⟩ := hs.inv
      rw [h2.inv0]
      have k := knd h1 _ e.1
      obtain ⟨X, rfl⟩ : ∃ X, x = .float X := by cases x <;> first | exact ⟨_, rfl⟩ | (simp [a_kind] at k)
      exact ⟨some (.float X), by unfold a_end; dsimp only; rw [if_pos e.2], h1⟩
    · cases hr
  · split at hr
    · rename_i e
      cases hr
      obtain ⟨x, st', rfl, h1, h2⟩ := hs.inv
      rw [h2.inv0]
      have k := knd h1 _ e.1
      obtain ⟨X, rfl⟩ : ∃ X, x = .double X := by cases x <;> first | exact ⟨_, rfl⟩ | (simp [a_kind] at k)
      exact ⟨some (.double X), by unfold a_end; dsimp only; rw [if_pos e.2], h1⟩
    · cases hr
  · cases hr
/-- the instructions that end a method -/
def b_isEnd (i : Instr) : Bool := match i with
  | .return_ | .ireturn | .lreturn | .freturn | .dreturn => true
  | _ => false
theorem a_endN {mi : Nat} {i : Instr} {st : List Value} (h : b_isEnd i = false) : a_end mi i st = none := by
  cases i <;> first | rfl | (cases h)
theorem a_trwN {mi pc : Nat} {i : Instr} {st : List Value} (h : ∀ k, i ≠ .new k) : a_trw mi pc i st = none := by
  cases i <;> first | rfl | (exact absurd rfl (h _))
theorem b_trw_ok {mi pc : Nat} {i : Instr} {bs : List BV} {st : List Value} {N k : Nat} (hs : b_S N ν bs st) (hr : b_trw mi pc i bs = some k) : a_trw mi pc i st = some k ∧ b_isEnd i = false := by
  unfold b_trw at hr
  split at hr
  · split at hr
    · refine ⟨?_, rfl⟩
      unfold a_trw
      dsimp only
      rename_i hc
      rw [if_pos (by rw [b_catL hs]; exact hc)]
      exact hr
    · cases hr
  · cases hr
theorem b_call_ok (g : b_G K ν h0 h G) {own : Nat} {i : Instr} {bs : List BV} {st : List Value} {mt : Nat} {as rest : List BV} (hs : b_S G.1.length ν bs st) (hr : b_call K own i bs G.1 = some (mt, as, rest)) : ∃ cas crest, a_call own i st h = some (mt, cas, crest) ∧ b_S G.1.length ν as cas ∧ b_S G.1.length ν rest crest ∧ b_isEnd i = false ∧ ∀ k, i ≠ .new k := by
  unfold b_call at hr
  split at hr
  · split at hr
    · rename_i e he
      split at hr
      · rename_i hc
        split at hr
        · rename_i base as' has
          split at hr
          · rename_i gg row hrow
            split at hr
            · rename_i ht
              cases hr
              have h1 := (hs.take (a_nrg e.2.2.1)).rev
              rw [has] at h1
              have h2 := hs.drop (a_nrg e.2.2.1)
              obtain ⟨v, cas', k1, k2, k3⟩ := h1.inv
              obtain ⟨a, vs, rfl, ha, -, -, m1, -, -⟩ := g.2.2.2.2.1.at g.1 k2 hrow
              have m1 : h[a]? = some (row.1, vs) := m1
              refine ⟨.ref a :: cas', st.drop (a_nrg e.2.2.1), ?_, b_S.cons k2 k3, h2, rfl, fun k q => by cases q⟩
              unfold a_call
              dsimp only
              rw [he]
              dsimp only
              rw [if_pos ⟨by rw [← hs.1]; exact hc.1, by rw [b_catL h2]; exact hc.2⟩, k1]
              dsimp only
              rw [m1]
              dsimp only
              rw [if_pos ht]
            · cases hr
          · cases hr
        · cases hr
      · cases hr
    · cases hr
  · split at hr
    · rename_i e he
      split at hr
      · rename_i hc
        cases hr
        have h2 := hs.drop (a_nrg e.2.2.1)
        refine ⟨_, _, ?_, (hs.take (a_nrg e.2.2.1)).rev, h2, rfl, fun k q => by cases q⟩
        unfold a_call
        dsimp only
        rw [he]
        dsimp only
        rw [if_pos ⟨by rw [← hs.1]; exact hc.1, by rw [b_catL h2]; exact hc.2⟩]
      · cases hr
    · cases hr
  · cases hr
theorem b_noc_ok {own : Nat} {i : Instr} {st : List Value} {h : AH} (hn : b_noc own i = true) : a_call own i st h = none := by
  unfold b_noc at hn
  split at hn
  · unfold a_call
    dsimp only
    rw [Option.isNone_iff_eq_none.mp hn]
  · cases hn
  · cases hn
  · cases i <;> first | rfl | (exfalso; rename_i h1 h2 h3; first | exact h1 _ rfl | exact h2 _ rfl | exact h3 _ rfl)
theorem b_stp_kind {own : Nat} {i : Instr} {len pc : Nat} {bl : BL} {bs : List BV} {L : List BZ} (hr : b_stp K own i len pc bl bs G = some L) : b_isEnd i = false ∧ ∀ k, i ≠ .new k := by
  refine ⟨?_, fun k q => ?_⟩
  · cases i <;> first
      | rfl
      | (exfalso; simp [b_stp, a_stage] at hr)
  · subst q
    simp [b_stp, a_stage, b_st5] at hr
/-- a run's outcome -/
def b_Ok (K : BH) (d mi pc : Nat) (ν : BN) (h0 : AH) (N : Nat) (al : AL) (st : List Value) (h : AH) (mc ms mc0 ms0 : Nat) (o : BY) : Prop := ∃ ν', b_ext N o.2.1.1.length ν ν' ∧
  ((∃ q r, o.1 = .inl q ∧ b_R d mi pc al st h mc ms r ∧ b_fin o.2.1.1.length ν' q r.1 ∧ b_G K ν' h0 r.2.1 o.2.1 ∧ r.2.2.1 = mc0 + o.2.2.1 ∧ r.2.2.2 = ms0 + o.2.2.2) ∨
  (∃ pc' bl' bs' al' st' h' mc' ms', o.1 = .inr (pc', bl', bs') ∧ (∀ r, b_R d mi pc' al' st' h' mc' ms' r → b_R d mi pc al st h mc ms r) ∧ b_L o.2.1.1.length ν' bl' al' ∧ b_S o.2.1.1.length ν' bs' st' ∧ b_G K ν' h0 h' o.2.1 ∧ mc' = mc0 + o.2.2.1 ∧ ms' = ms0 + o.2.2.2))
theorem b_Ok.back {d mi pc pc2 : Nat} {N N2 : Nat} {ν2 : BN} {al al2 : AL} {st st2 : List Value} {h2 : AH} {mc ms mc2 ms2 mc0 ms0 : Nat} {o : BY} (x : b_ext N N2 ν ν2) (hb : ∀ r, b_R d mi pc2 al2 st2 h2 mc2 ms2 r → b_R d mi pc al st h mc ms r) (k : b_Ok K d mi pc2 ν2 h0 N2 al2 st2 h2 mc2 ms2 mc0 ms0 o) : b_Ok K d mi pc ν h0 N al st h mc ms mc0 ms0 o := by
  obtain ⟨ν', x1, k⟩ := k
  refine ⟨ν', x.tr x1, ?_⟩
  rcases k with ⟨q, r, k1, k2, k3⟩ | ⟨pc', bl', bs', al', st', h', mc', ms', k1, k2, k3⟩
  · exact Or.inl ⟨q, r, k1, hb r k2, k3⟩
  · exact Or.inr ⟨pc', bl', bs', al', st', h', mc', ms', k1, fun r hr => hb r (k2 r hr), k3⟩
theorem b_drop_ok {N : Nat} {bl : BL} {al : AL} {n : Nat} (hl : b_L N ν bl al) : b_L N ν (b_drop bl n) (a_drop al n) := b_setN_ok (b_kill_ok hl)
theorem b_ex_ok (hJ : b_JF K) {d mi : Nat} {cB : BK} {cuts : List Nat} {mc0 ms0 : Nat} (hc : b_cal K (b_lim d) cB) : ∀ (f : Nat) (first : Bool) (pc : Nat) (bl : BL) (bs : List BV) (G : BG) (c s : Nat) (L : List BY) (ν : BN) (al : AL) (st : List Value) (h : AH) (mc ms : Nat), b_ex K cB cuts mi f first pc bl bs G c s = some L → b_L G.1.length ν bl al → b_S G.1.length ν bs st → b_G K ν h0 h G → mc = mc0 + c → ms = ms0 + s → ∃ o ∈ L, b_Ok K d mi pc ν h0 G.1.length al st h mc ms mc0 ms0 o
  | 0, first, pc, bl, bs, G, c, s, L, ν, al, st, h, mc, ms, hr, _, _, _, _, _ => by cases hr
  | f + 1, first, pc, bl, bs, G, c, s, L, ν, al, st, h, mc, ms, hr, hl, hs, g, e1, e2 => by
    rw [b_ex] at hr
    split at hr
    · cases hr
      exact ⟨_, List.mem_cons_self, ν, b_ext.rf, Or.inr ⟨pc, bl, bs, al, st, h, mc, ms, rfl, fun r hr => hr, hl, hs, g, e1, e2⟩⟩
    · split at hr
      · cases hr
      · rename_i i len hi
        split at hr
        · rename_i v hv
          cases hr
          obtain ⟨w, w1, w2⟩ := b_end_ok g.1 hs hv
          refine ⟨_, List.mem_cons_self, ν, b_ext.rf, Or.inl ⟨_, (.inl w, h, mc, ms), rfl, ⟨1, ?_⟩, w2, g, e1, e2⟩⟩
          rw [a_go, hi]
          dsimp only
          rw [w1]
        · split at hr
          · rename_i k hk
            cases hr
            obtain ⟨w1, w2⟩ := b_trw_ok hs hk
            refine ⟨_, List.mem_cons_self, ν, b_ext.rf, Or.inl ⟨_, (.inr k, h, mc + 1, ms + 6), rfl, ⟨1, ?_⟩, rfl, g, ?_, ?_⟩⟩
            · rw [a_go, hi]
              dsimp only
              rw [a_endN w2]
              dsimp only
              rw [w1]
            · show mc + 1 = mc0 + (c + 1)
              omega
            · show ms + 6 = ms0 + (s + 6)
              omega
          · split at hr
            · rename_i mt as rest hca
              obtain ⟨cas, crest, c1, c2, c3, c4, c5⟩ := b_call_ok g hs hca
              split at hr
              · rename_i outs hou
                obtain ⟨r, r1, o, o1, ν', x, o2, o3, o4⟩ := hc ν h0 h mt as cas G outs hou g c2
                obtain ⟨z, z1, z2⟩ := b_all_ok hr o o1
                rw [f_G_eq, f_n_eq, f_n_eq] at z1
                obtain ⟨rv, rh, rc, rs⟩ := r
                have o4a : rc = o.2.2.1 := by have := congrArg Prod.fst o4; exact this
                have o4b : rs = o.2.2.2 := by have := congrArg Prod.snd o4; exact this
                split at z1
                · rename_i v hv
                  rw [f_n_eq, f_l_eq f_b_eq] at z1
                  rw [hv] at o2
                  obtain ⟨w, rfl, hw⟩ : ∃ w, rv = .inl w ∧ b_S o.2.1.1.length ν' v.toList w.toList := by
                    cases v with
                    | none =>
                      cases rv with
                      | inl w =>
                        cases w with
                        | none => exact ⟨none, rfl, b_S.nil⟩
                        | some w => exact o2.elim
                      | inr k => exact o2.elim
                    | some b =>
                      cases rv with
                      | inl w =>
                        cases w with
                        | none => exact o2.elim
                        | some w => exact ⟨some w, rfl, b_S.cons o2 b_S.nil⟩
                      | inr k => exact o2.elim
                  obtain ⟨oo, p1, p2⟩ := b_ex_ok hJ (mc0 := mc0) (ms0 := ms0) hc f false (pc + 3) bl (v.toList ++ rest) _ _ _ z ν' al (w.toList ++ crest) rh (mc + rc) (ms + rs) z1 (hl.ext x) (hw.app (c3.ext x)) o3 (by omega) (by omega)
                  refine ⟨oo, z2 oo p1, b_Ok.back x (fun r2 ⟨f2, hr2⟩ => ⟨f2 + 1, ?_⟩) p2⟩
                  rw [a_go, hi]
                  dsimp only
                  rw [a_endN c4]
                  dsimp only
                  rw [a_trwN c5]
                  dsimp only
                  rw [c1]
                  dsimp only
                  rw [r1]
                  exact hr2
                · rename_i k hk
                  rw [hk] at o2
                  obtain rfl : rv = .inr k := by
                    cases rv with
                    | inl w => cases w <;> exact o2.elim
                    | inr k' =>
                      have o2 : k = k' := o2
                      rw [o2]
                  split at z1
                  · cases z1
                  · rename_i hsp
                    split at z1
                    · rename_i hem
                      cases z1
                      refine ⟨_, z2 _ List.mem_cons_self, ν', x, Or.inl ⟨_, (.inr k, rh, mc + rc, ms + rs), rfl, ⟨1, ?_⟩, rfl, o3, ?_, ?_⟩⟩
                      · rw [a_go, hi]
                        dsimp only
                        rw [a_endN c4]
                        dsimp only
                        rw [a_trwN c5]
                        dsimp only
                        rw [c1]
                        dsimp only
                        rw [r1]
                        dsimp only
                        rw [if_neg hsp, if_pos hem]
                      · show mc + rc = mc0 + (c + o.2.2.1); omega
                      · show ms + rs = ms0 + (s + o.2.2.2); omega
                    · rename_i hem
                      split at z1
                      · rename_i xx hxx
                        split at z1
                        · rename_i hp n hh
                          split at z1
                          · rename_i hn
                            obtain ⟨oo, p1, p2⟩ := b_ex_ok hJ (mc0 := mc0) (ms0 := ms0) hc f false hp (b_drop bl n) [] _ _ _ z ν' (a_drop al n) [] rh (mc + rc) (ms + rs) z1 (b_drop_ok (hl.ext x)) b_S.nil o3 (by omega) (by omega)
                            refine ⟨oo, z2 oo p1, b_Ok.back x (fun r2 ⟨f2, hr2⟩ => ⟨f2 + 1, ?_⟩) p2⟩
                            rw [a_go, hi]
                            dsimp only
                            rw [a_endN c4]
                            dsimp only
                            rw [a_trwN c5]
                            dsimp only
                            rw [c1]
                            dsimp only
                            rw [r1]
                            dsimp only
                            rw [if_neg hsp, if_neg hem, hxx]
                            dsimp only
                            rw [hh]
                            dsimp only
                            rw [if_pos (by rw [← hl.1]; exact hn)]
                            exact hr2
                          · cases z1
                        · cases z1
                      · cases z1
              · cases hr
            · split at hr
              · rename_i hno
                split at hr
                · rename_i L' hL'
                  obtain ⟨k1, k2⟩ := b_stp_kind hL'
                  obtain ⟨pc', al', st', h', s1, o, o1, o2, ν', x, o3, o4, o5⟩ := b_stp_ok hJ (ini := a_ini mi) g hl hs hL'
                  obtain ⟨z, z1, z2⟩ := b_all_ok hr o o1
                  rw [b_nrm_eq] at z1
                  subst o2
                  obtain ⟨oo, p1, p2⟩ := b_ex_ok hJ (mc0 := mc0) (ms0 := ms0) hc f false o.1 o.2.1 o.2.2.1 o.2.2.2 c s z ν' al' st' h' (mc + 0) (ms + 0) z1 o3 o4 o5 (by omega) (by omega)
                  refine ⟨oo, z2 oo p1, b_Ok.back x (fun r2 ⟨f2, hr2⟩ => ⟨f2 + 1, ?_⟩) p2⟩
                  rw [a_go, hi]
                  dsimp only
                  rw [a_endN k1]
                  dsimp only
                  rw [a_trwN k2]
                  dsimp only
                  rw [b_noc_ok hno]
                  dsimp only
                  rw [s1]
                  exact hr2
                · split at hr
                  · rename_i o ho
                    rw [f_n_eq, f_l_eq f_b_eq, f_G_eq] at hr
                    obtain ⟨bs', G'⟩ := o
                    obtain ⟨st', h', s1, s2, s3, s4, s5, s7⟩ := b_acp_ok hJ g hs ho
                    have x : b_ext G.1.length G'.1.length ν ν := by rw [s4]; exact b_ext.rf
                    obtain ⟨oo, p1, p2⟩ := b_ex_ok hJ (mc0 := mc0) (ms0 := ms0) hc f false (pc + len) bl bs' G' c s L ν al st' h' mc ms hr (by rw [s4]; exact hl) s2 s3 e1 e2
                    refine ⟨oo, p1, b_Ok.back x (fun r2 ⟨f2, hr2⟩ => ⟨f2 + 1, ?_⟩) p2⟩
                    rw [a_go, hi]
                    dsimp only
                    rw [a_endN (by rcases s5 with ⟨idx, s5⟩ | s5 <;> rw [s5] <;> rfl)]
                    dsimp only
                    rw [a_trwN (fun k q => by rcases s5 with ⟨idx, s5⟩ | s5 <;> rw [s5] at q <;> cases q)]
                    dsimp only
                    rw [b_noc_ok hno]
                    dsimp only
                    rw [s7]
                    dsimp only
                    rw [s1]
                    exact hr2
                  · cases hr
              · cases hr
end BE
