/-! Where a run comes to first: two stretches from one place come to one state -/
/-- (place, locals, stack, heap, costs) -/
abbrev BSt : Type := Nat × AL × List Value × AH × Nat × Nat
/-- a step that goes on -/
noncomputable def b_nx (d mi : Nat) (s : BSt) : Option BSt := match a_ins mi s.1 with
  | none => none
  | some (i, len) => match a_end mi i s.2.2.1 with
    | some _ => none
    | none => match a_trw mi s.1 i s.2.2.1 with
      | some _ => none
      | none => match a_call (a_own mi) i s.2.2.1 s.2.2.2.1 with
        | some (mt, as, rest) => (match b_lim d mt as s.2.2.2.1 with
          | some (.inl v, h', c, q) => some (s.1 + 3, s.2.1, v.toList ++ rest, h', s.2.2.2.2.1 + c, s.2.2.2.2.2 + q)
          | some (.inr k, h', c, q) => if a_isSp i = true then none else if (a_hnd mi).isEmpty = true then none else (match a_cth mi s.1 k with
            | some x => (match a_hdl mi x.2.2.1 with
              | some (hp, n) => if n < s.2.1.length then some (hp, a_drop s.2.1 n, [], h', s.2.2.2.2.1 + c, s.2.2.2.2.2 + q) else none
              | none => none)
            | none => none)
          | none => none)
        | none => match a_stp (a_own mi) (a_ini mi) i len s.1 s.2.1 s.2.2.1 s.2.2.2.1 with
          | some (pc', al', st', h', c, q) => some (pc', al', st', h', s.2.2.2.2.1 + c, s.2.2.2.2.2 + q)
          | none => match a_acp (a_own mi) i len s.2.2.1 s.2.2.2.1 with
            | some (st', h') => some (s.1 + len, s.2.1, st', h', s.2.2.2.2.1, s.2.2.2.2.2)
            | none => none
noncomputable def b_it (d mi : Nat) : Nat → BSt → Option BSt
  | 0, s => some s
  | n + 1, s => (b_nx d mi s).bind (b_it d mi n)
/-- the first of these places that a run comes to -/
def b_hit (d mi : Nat) (cuts : List Nat) (first : Bool) (s t : BSt) : Prop := ∃ n, b_it d mi n s = some t ∧ t.1 ∈ cuts ∧ ∀ k u, k < n → (first = true → 0 < k) → b_it d mi k s = some u → ¬ u.1 ∈ cuts
theorem b_hit.back {d mi : Nat} {cuts : List Nat} {first : Bool} {s s2 t : BSt} (hn : b_nx d mi s = some s2) (hf : first = false → ¬ s.1 ∈ cuts) (k : b_hit d mi cuts false s2 t) : b_hit d mi cuts first s t := by
  obtain ⟨n, k1, k2, k3⟩ := k
  refine ⟨n + 1, ?_, k2, fun m u hm hz hu => ?_⟩
  · rw [b_it, hn]
    exact k1
  · cases m with
    | zero =>
      have hu : some s = some u := hu
      cases hu
      cases first with
      | true => exact absurd (hz rfl) (Nat.lt_irrefl 0)
      | false => exact hf rfl
    | succ m =>
      rw [b_it, hn] at hu
      exact k3 m u (Nat.lt_of_succ_lt_succ hm) (fun q => by cases q) hu
theorem b_hit.one {d mi : Nat} {cuts : List Nat} {s t t' : BSt} (hs : ¬ s.1 ∈ cuts) (k : b_hit d mi cuts true s t) (k' : b_hit d mi cuts true s t') : t = t' := by
  obtain ⟨n, k1, k2, k3⟩ := k
  obtain ⟨n', k1', k2', k3'⟩ := k'
  have p : 0 < n := by
    cases n with
    | zero =>
      have k1 : some s = some t := k1
      cases k1
      exact absurd k2 hs
    | succ n => exact Nat.succ_pos _
  have p' : 0 < n' := by
    cases n' with
    | zero =>
      have k1' : some s = some t' := k1'
      cases k1'
      exact absurd k2' hs
    | succ n => exact Nat.succ_pos _
  rcases Nat.lt_trichotomy n n' with e | e | e
  · exact absurd k2 (k3' n t e (fun _ => p) k1)
  · subst e
    rw [k1] at k1'
    cases k1'
    rfl
  · exact absurd k2' (k3 n' t' e (fun _ => p') k1')
theorem b_nx_go {d mi f : Nat} {s s2 : BSt} {r : AR} (hn : b_nx d mi s = some s2) (hr : a_go (b_lim d) mi f s2.1 s2.2.1 s2.2.2.1 s2.2.2.2.1 s2.2.2.2.2.1 s2.2.2.2.2.2 = some r) : a_go (b_lim d) mi (f + 1) s.1 s.2.1 s.2.2.1 s.2.2.2.1 s.2.2.2.2.1 s.2.2.2.2.2 = some r := by
  unfold b_nx at hn
  rw [a_go]
  split at hn
  · cases hn
  · rename_i i len hi
    rw [hi]
    dsimp only
    split at hn
    · cases hn
    · rename_i he
      rw [he]
      dsimp only
      split at hn
      · cases hn
      · rename_i ht
        rw [ht]
        dsimp only
        split at hn
        · rename_i mt as rest hc
          rw [hc]
          dsimp only
          split at hn
          · rename_i v h' c q hl
            rw [hl]
            cases hn
            exact hr
          · rename_i k h' c q hl
            rw [hl]
            dsimp only
            split at hn
            · cases hn
            · rename_i hsp
              rw [if_neg hsp]
              split at hn
              · cases hn
              · rename_i hem
                rw [if_neg hem]
                split at hn
                · rename_i x hx
                  rw [hx]
                  dsimp only
                  split at hn
                  · rename_i hp n hh
                    rw [hh]
                    dsimp only
                    split at hn
                    · rename_i hlt
                      rw [if_pos hlt]
                      cases hn
                      exact hr
                    · cases hn
                  · cases hn
                · cases hn
          · cases hn
        · rename_i hc
          rw [hc]
          dsimp only
          split at hn
          · rename_i pc' al' st' h' c q hst
            rw [hst]
            cases hn
            exact hr
          · rename_i hst
            rw [hst]
            dsimp only
            split at hn
            · rename_i st' h' hq
              rw [hq]
              cases hn
              exact hr
            · cases hn
theorem b_it_R {d mi : Nat} {r : AR} : ∀ (n : Nat) (s t : BSt), b_it d mi n s = some t → b_R d mi t.1 t.2.1 t.2.2.1 t.2.2.2.1 t.2.2.2.2.1 t.2.2.2.2.2 r → b_R d mi s.1 s.2.1 s.2.2.1 s.2.2.2.1 s.2.2.2.2.1 s.2.2.2.2.2 r
  | 0, s, t, h, hr => by
    have h : some s = some t := h
    cases h
    exact hr
  | n + 1, s, t, h, hr => by
    rw [b_it, Option.bind_eq_some_iff] at h
    obtain ⟨s2, h1, h2⟩ := h
    obtain ⟨f, hf⟩ := b_it_R n s2 t h2 hr
    exact ⟨f + 1, b_nx_go h1 hf⟩
theorem b_hit.R {d mi : Nat} {cuts : List Nat} {first : Bool} {s t : BSt} {r : AR} (k : b_hit d mi cuts first s t) (hr : b_R d mi t.1 t.2.1 t.2.2.1 t.2.2.2.1 t.2.2.2.2.1 t.2.2.2.2.2 r) : b_R d mi s.1 s.2.1 s.2.2.1 s.2.2.2.1 s.2.2.2.2.1 s.2.2.2.2.2 r := by
  obtain ⟨n, k1, -, -⟩ := k
  exact b_it_R n s t k1 hr
section HT
variable {K : BH} {ν : BN} {h0 h : AH} {G : BG}
/-- a run's outcome, with where it comes to first -/
def b_OkH (K : BH) (d mi : Nat) (cuts : List Nat) (first : Bool) (pc : Nat) (ν : BN) (h0 : AH) (N : Nat) (al : AL) (st : List Value) (h : AH) (mc ms mc0 ms0 : Nat) (o : BY) : Prop := ∃ ν', b_ext N o.2.1.1.length ν ν' ∧
  ((∃ q r, o.1 = .inl q ∧ b_R d mi pc al st h mc ms r ∧ b_fin o.2.1.1.length ν' q r.1 ∧ b_G K ν' h0 r.2.1 o.2.1 ∧ r.2.2.1 = mc0 + o.2.2.1 ∧ r.2.2.2 = ms0 + o.2.2.2) ∨
  (∃ pc' bl' bs' al' st' h' mc' ms', o.1 = .inr (pc', bl', bs') ∧ b_hit d mi cuts first (pc, al, st, h, mc, ms) (pc', al', st', h', mc', ms') ∧ b_L o.2.1.1.length ν' bl' al' ∧ b_S o.2.1.1.length ν' bs' st' ∧ b_G K ν' h0 h' o.2.1 ∧ mc' = mc0 + o.2.2.1 ∧ ms' = ms0 + o.2.2.2))
theorem b_OkH.ok {d mi pc : Nat} {cuts : List Nat} {first : Bool} {N : Nat} {al : AL} {st : List Value} {mc ms mc0 ms0 : Nat} {o : BY} (k : b_OkH K d mi cuts first pc ν h0 N al st h mc ms mc0 ms0 o) : b_Ok K d mi pc ν h0 N al st h mc ms mc0 ms0 o := by
  obtain ⟨ν', x1, k⟩ := k
  refine ⟨ν', x1, ?_⟩
  rcases k with k | ⟨pc', bl', bs', al', st', h', mc', ms', k1, k2, k3⟩
  · exact Or.inl k
  · exact Or.inr ⟨pc', bl', bs', al', st', h', mc', ms', k1, fun r hr => k2.R (t := (pc', al', st', h', mc', ms')) hr, k3⟩
theorem b_OkH.back {d mi pc pc2 : Nat} {cuts : List Nat} {first : Bool} {N N2 : Nat} {ν2 : BN} {al al2 : AL} {st st2 : List Value} {h2 : AH} {mc ms mc2 ms2 mc0 ms0 : Nat} {o : BY} (x : b_ext N N2 ν ν2) (hf : first = false → ¬ pc ∈ cuts) (hb : b_nx d mi (pc, al, st, h, mc, ms) = some (pc2, al2, st2, h2, mc2, ms2)) (k : b_OkH K d mi cuts false pc2 ν2 h0 N2 al2 st2 h2 mc2 ms2 mc0 ms0 o) : b_OkH K d mi cuts first pc ν h0 N al st h mc ms mc0 ms0 o := by
  obtain ⟨ν', x1, k⟩ := k
  refine ⟨ν', x.tr x1, ?_⟩
  rcases k with ⟨q, r, k1, ⟨f, k2⟩, k3⟩ | ⟨pc', bl', bs', al', st', h', mc', ms', k1, k2, k3⟩
  · exact Or.inl ⟨q, r, k1, ⟨f + 1, b_nx_go hb k2⟩, k3⟩
  · exact Or.inr ⟨pc', bl', bs', al', st', h', mc', ms', k1, b_hit.back hb hf k2, k3⟩
theorem b_ex_hit (hJ : b_JF K) {d mi : Nat} {cB : BK} {cuts : List Nat} {mc0 ms0 : Nat} (hc : b_cal K (b_lim d) cB) : ∀ (f : Nat) (first : Bool) (pc : Nat) (bl : BL) (bs : List BV) (G : BG) (c s : Nat) (L : List BY) (ν : BN) (al : AL) (st : List Value) (h : AH) (mc ms : Nat), b_ex K cB cuts mi f first pc bl bs G c s = some L → b_L G.1.length ν bl al → b_S G.1.length ν bs st → b_G K ν h0 h G → mc = mc0 + c → ms = ms0 + s → ∃ o ∈ L, b_OkH K d mi cuts first pc ν h0 G.1.length al st h mc ms mc0 ms0 o
  | 0, first, pc, bl, bs, G, c, s, L, ν, al, st, h, mc, ms, hr, _, _, _, _, _ => by cases hr
  | f + 1, first, pc, bl, bs, G, c, s, L, ν, al, st, h, mc, ms, hr, hl, hs, g, e1, e2 => by
    rw [b_ex] at hr
    split at hr
    · rename_i hst
      cases hr
      exact ⟨_, List.mem_cons_self, ν, b_ext.rf, Or.inr ⟨pc, bl, bs, al, st, h, mc, ms, rfl, ⟨0, rfl, (by simpa using hst.2), fun k u q => absurd q (Nat.not_lt_zero _)⟩, hl, hs, g, e1, e2⟩⟩
    · rename_i hst
      have hf : first = false → ¬ pc ∈ cuts := fun q1 q2 => hst ⟨q1, by simpa using q2⟩
      split at hr
      · cases hr
      · rename_i i len hi
        split at hr
        · rename_i v hv
          cases hr
          obtain ⟨w, w1, w2⟩ := b_end_ok g.1 hs hv
          refine ⟨_, List.mem_cons_self, ν, b_ext.rf, Or.inl ⟨_, (.inl w, h, mc, ms), rfl, ⟨1, ?_⟩, w2, g, e1, e2⟩⟩
          rw [a_go, hi]
          dsimp only
          rw [w1]
        · split at hr
          · rename_i k hk
            cases hr
            obtain ⟨w1, w2⟩ := b_trw_ok hs hk
            refine ⟨_, List.mem_cons_self, ν, b_ext.rf, Or.inl ⟨_, (.inr k, h, mc + 1, ms + 6), rfl, ⟨1, ?_⟩, rfl, g, ?_, ?_⟩⟩
            · rw [a_go, hi]
              dsimp only
              rw [a_endN w2]
              dsimp only
              rw [w1]
            · show mc + 1 = mc0 + (c + 1)
              omega
            · show ms + 6 = ms0 + (s + 6)
              omega
          · split at hr
            · rename_i mt as rest hca
              obtain ⟨cas, crest, c1, c2, c3, c4, c5⟩ := b_call_ok g hs hca
              split at hr
              · rename_i outs hou
                obtain ⟨r, r1, o, o1, ν', x, o2, o3, o4⟩ := hc ν h0 h mt as cas G outs hou g c2
                obtain ⟨z, z1, z2⟩ := b_all_ok hr o o1
                rw [f_G_eq, f_n_eq, f_n_eq] at z1
                obtain ⟨rv, rh, rc, rs⟩ := r
                have o4a : rc = o.2.2.1 := by have := congrArg Prod.fst o4; exact this
                have o4b : rs = o.2.2.2 := by have := congrArg Prod.snd o4; exact this
                split at z1
                · rename_i v hv
                  rw [f_n_eq, f_l_eq f_b_eq] at z1
                  rw [hv] at o2
                  obtain ⟨w, rfl, hw⟩ : ∃ w, rv = .inl w ∧ b_S o.2.1.1.length ν' v.toList w.toList := by
                    cases v with
                    | none =>
                      cases rv with
                      | inl w =>
                        cases w with
                        | none => exact ⟨none, rfl, b_S.nil⟩
                        | some w => exact o2.elim
                      | inr k => exact o2.elim
                    | some b =>
                      cases rv with
                      | inl w =>
                        cases w with
                        | none => exact o2.elim
                        | some w => exact ⟨some w, rfl, b_S.cons o2 b_S.nil⟩
                      | inr k => exact o2.elim
                  obtain ⟨oo, p1, p2⟩ := b_ex_hit hJ (mc0 := mc0) (ms0 := ms0) hc f false (pc + 3) bl (v.toList ++ rest) _ _ _ z ν' al (w.toList ++ crest) rh (mc + rc) (ms + rs) z1 (hl.ext x) (hw.app (c3.ext x)) o3 (by omega) (by omega)
                  refine ⟨oo, z2 oo p1, b_OkH.back x hf ?_ p2⟩
                  rw [b_nx]
                  dsimp only
                  rw [hi]
                  dsimp only
                  rw [a_endN c4]
                  dsimp only
                  rw [a_trwN c5]
                  dsimp only
                  rw [c1]
                  dsimp only
                  rw [r1]
                  (try rfl)
                · rename_i k hk
                  rw [hk] at o2
                  obtain rfl : rv = .inr k := by
                    cases rv with
                    | inl w => cases w <;> exact o2.elim
                    | inr k' =>
                      have o2 : k = k' := o2
                      rw [o2]
                  split at z1
                  · cases z1
                  · rename_i hsp
                    split at z1
                    · rename_i hem
                      cases z1
                      refine ⟨_, z2 _ List.mem_cons_self, ν', x, Or.inl ⟨_, (.inr k, rh, mc + rc, ms + rs), rfl, ⟨1, ?_⟩, rfl, o3, ?_, ?_⟩⟩
                      · rw [a_go, hi]
                        dsimp only
                        rw [a_endN c4]
                        dsimp only
                        rw [a_trwN c5]
                        dsimp only
                        rw [c1]
                        dsimp only
                        rw [r1]
                        dsimp only
                        rw [if_neg hsp, if_pos hem]
                      · show mc + rc = mc0 + (c + o.2.2.1); omega
                      · show ms + rs = ms0 + (s + o.2.2.2); omega
                    · rename_i hem
                      split at z1
                      · rename_i xx hxx
                        split at z1
                        · rename_i hp n hh
                          split at z1
                          · rename_i hn
                            obtain ⟨oo, p1, p2⟩ := b_ex_hit hJ (mc0 := mc0) (ms0 := ms0) hc f false hp (b_drop bl n) [] _ _ _ z ν' (a_drop al n) [] rh (mc + rc) (ms + rs) z1 (b_drop_ok (hl.ext x)) b_S.nil o3 (by omega) (by omega)
                            refine ⟨oo, z2 oo p1, b_OkH.back x hf ?_ p2⟩
                            rw [b_nx]
                            dsimp only
                            rw [hi]
                            dsimp only
                            rw [a_endN c4]
                            dsimp only
                            rw [a_trwN c5]
                            dsimp only
                            rw [c1]
                            dsimp only
                            rw [r1]
                            dsimp only
                            rw [if_neg hsp, if_neg hem, hxx]
                            dsimp only
                            rw [hh]
                            dsimp only
                            rw [if_pos (by rw [← hl.1]; exact hn)]
                            (try rfl)
                          · cases z1
                        · cases z1
                      · cases z1
              · cases hr
            · split at hr
              · rename_i hno
                split at hr
                · rename_i L' hL'
                  obtain ⟨k1, k2⟩ := b_stp_kind hL'
                  obtain ⟨pc', al', st', h', s1, o, o1, o2, ν', x, o3, o4, o5⟩ := b_stp_ok hJ (ini := a_ini mi) g hl hs hL'
                  obtain ⟨z, z1, z2⟩ := b_all_ok hr o o1
                  rw [b_nrm_eq] at z1
                  subst o2
                  obtain ⟨oo, p1, p2⟩ := b_ex_hit hJ (mc0 := mc0) (ms0 := ms0) hc f false o.1 o.2.1 o.2.2.1 o.2.2.2 c s z ν' al' st' h' (mc + 0) (ms + 0) z1 o3 o4 o5 (by omega) (by omega)
                  refine ⟨oo, z2 oo p1, b_OkH.back x hf ?_ p2⟩
                  rw [b_nx]
                  dsimp only
                  rw [hi]
                  dsimp only
                  rw [a_endN k1]
                  dsimp only
                  rw [a_trwN k2]
                  dsimp only
                  rw [b_noc_ok hno]
                  dsimp only
                  rw [s1]
                  (try rfl)
                · split at hr
                  · rename_i o ho
                    rw [f_n_eq, f_l_eq f_b_eq, f_G_eq] at hr
                    obtain ⟨bs', G'⟩ := o
                    obtain ⟨st', h', s1, s2, s3, s4, s5, s7⟩ := b_acp_ok hJ g hs ho
                    have x : b_ext G.1.length G'.1.length ν ν := by rw [s4]; exact b_ext.rf
                    obtain ⟨oo, p1, p2⟩ := b_ex_hit hJ (mc0 := mc0) (ms0 := ms0) hc f false (pc + len) bl bs' G' c s L ν al st' h' mc ms hr (by rw [s4]; exact hl) s2 s3 e1 e2
                    refine ⟨oo, p1, b_OkH.back x hf ?_ p2⟩
                    rw [b_nx]
                    dsimp only
                    rw [hi]
                    dsimp only
                    rw [a_endN (by rcases s5 with ⟨idx, s5⟩ | s5 <;> rw [s5] <;> rfl)]
                    dsimp only
                    rw [a_trwN (fun k q => by rcases s5 with ⟨idx, s5⟩ | s5 <;> rw [s5] at q <;> cases q)]
                    dsimp only
                    rw [b_noc_ok hno]
                    dsimp only
                    rw [s7]
                    dsimp only
                    rw [s1]
                    (try rfl)
                  · cases hr
              · cases hr
/-- a stretch with where it comes to first -/
theorem b_sgo_hit {d mi pc mc ms : Nat} {cuts : List Nat} {E0 : BQ} {W : BW} {p : BSo} {o : BY} {N : Nat} {al : AL} {st : List Value} {hs : AH} (hN : E0.length = N) (ho : b_sgo K E0 W p o = true) (k : b_OkH K d mi cuts true pc ν h0 N al st hs mc ms mc ms o) {pc' : Nat} {bl' : BL} {bs' : List BV} (hp : p.1 = .inr (pc', bl', bs')) : ∃ ν' h', b_ext E0.length (E0 ++ p.2.1.1).length ν ν' ∧ b_G K ν' h0 h' (E0 ++ p.2.1.1, p.2.1.2.1, p.2.1.2.2, [], W) ∧ ∃ al' st', b_L (E0 ++ p.2.1.1).length ν' bl' al' ∧ b_S (E0 ++ p.2.1.1).length ν' bs' st' ∧ b_hit d mi cuts true (pc, al, st, hs, mc, ms) (pc', al', st', h', mc + p.2.2.1, ms + p.2.2.2) := by
  subst hN
  unfold b_sgo at ho
  rw [Bool.and_eq_true, decide_eq_true_eq, Bool.and_eq_true] at ho
  obtain ⟨ho1, ho2, ho3⟩ := ho
  obtain ⟨ν1, x1, k⟩ := k
  rw [hp] at ho3
  rcases k with ⟨q, r, q1, q2, q3, q4, q5, q6⟩ | ⟨pc2, bl2, bs2, al', st', h', mc', ms', q1, q2, q3, q4, q5, q6, q7⟩
  · rw [q1] at ho3
    cases ho3
  · rw [q1] at ho3
    dsimp only at ho3
    rw [Bool.and_eq_true, decide_eq_true_eq] at ho3
    obtain ⟨e0, ho3⟩ := ho3
    subst e0
    split at ho3
    · rename_i σ hσ
      rw [Bool.and_eq_true, decide_eq_true_eq, Bool.and_eq_true, Bool.and_eq_true] at ho3
      obtain ⟨s1, s2, s4, s3⟩ := ho3
      obtain ⟨i1, i2, i3, i4, i5⟩ := b_inst_ok q5 s3
      have i1 : σ.length = (E0 ++ p.2.1.1).length := i1
      have x := b_id_ext (ν := ν1) (by rw [i1, List.length_append]; exact Nat.le_add_right _ _) s1
      rw [i1] at x
      have l1 := b_locs_ok (ν := ν1) s2 q3
      have l2 := b_locsA (ν := ν1) s4 q4
      rw [i1] at l1 l2
      refine ⟨b_vT σ ν1, h', ⟨x.1, fun n hn => (x.2 n hn).trans (x1.2 n hn)⟩, ⟨i3, i4, i5, (fun o ho => by cases ho), q5.2.2.2.2.1, q5.2.2.2.2.2.mono (b_subW_ok ho2)⟩, al', st', l1, l2, ?_⟩
      rw [q6, q7, ho1] at q2
      exact q2
    · cases ho3
theorem b_sgc_hit (hJ : b_JF K) {d F : Nat} {cB : BK} (hc : b_cal K (b_lim d) cB) {S : BSg} {cuts : List Nat} (hk : b_sgc K cB S cuts F = true) (ha : S.2.2.2.all (fun p => match p.1 with
    | .inl _ => false
    | .inr _ => true) = true) {al : AL} {st : List Value} {mc ms : Nat} (hl : b_L S.2.1.2.2.1.length ν S.2.1.1 al) (hs : b_S S.2.1.2.2.1.length ν S.2.1.2.1 st) (g : b_G K ν h h (S.2.1.2.2.1, S.2.1.2.2.2.1, S.2.1.2.2.2.2, [], [])) : ∃ p ∈ S.2.2.2, ∃ pc' bl' bs', p.1 = .inr (pc', bl', bs') ∧ ∃ ν' h', b_ext S.2.1.2.2.1.length (S.2.1.2.2.1 ++ p.2.1.1).length ν ν' ∧ b_G K ν' h h' (S.2.1.2.2.1 ++ p.2.1.1, p.2.1.2.1, p.2.1.2.2, [], S.2.2.1) ∧ ∃ al' st', b_L (S.2.1.2.2.1 ++ p.2.1.1).length ν' bl' al' ∧ b_S (S.2.1.2.2.1 ++ p.2.1.1).length ν' bs' st' ∧ b_hit d S.1.1 cuts true (S.1.2, al, st, h, mc, ms) (pc', al', st', h', mc + p.2.2.1, ms + p.2.2.2) := by
  unfold b_sgc at hk
  split at hk
  · rename_i L hL
    obtain ⟨o, o1, k⟩ := b_ex_hit hJ (mc0 := mc) (ms0 := ms) hc F true S.1.2 S.2.1.1 S.2.1.2.1 _ 0 0 L ν al st h mc ms hL hl hs g rfl rfl
    have ho := List.all_eq_true.mp hk o o1
    obtain ⟨p, p1, p2⟩ := List.any_eq_true.mp ho
    have hp := List.all_eq_true.mp ha p p1
    cases hq : p.1 with
    | inl z => rw [hq] at hp; cases hp
    | inr z =>
      obtain ⟨pc', bl', bs'⟩ := z
      obtain ⟨ν', h', y⟩ := b_sgo_hit rfl p2 k hq
      exact ⟨p, p1, pc', bl', bs', hq, ν', h', y⟩
  · cases hk
end HT
