/-! Calls by what they come to from one start: special rows (wip/g3/specrows.py) -/
section SR
variable {K : BH} {ν : BN} {h0 h : AH} {G : BG}
/-- calls do what they say in a run that began with the heap h0, its first symbols being those of νs -/
def b_calP (K : BH) (N0 : Nat) (νs : BN) (h0 : AH) (cA : Nat → List Value → AH → Option AR) (cB : BK) : Prop := ∀ (ν : BN) (h : AH) (mt : Nat) (bas : List BV) (as : List Value) (G : BG) (outs : List (BE × BG × (Nat × Nat))), cB mt bas G = some outs → b_ext N0 G.1.length νs ν → b_G K ν h0 h G → b_S G.1.length ν bas as → ∃ r, cA mt as h = some r ∧ ∃ o ∈ outs, ∃ ν', b_ext G.1.length o.2.1.1.length ν ν' ∧ b_fin o.2.1.1.length ν' o.1 r.1 ∧ b_G K ν' h0 r.2.1 o.2.1 ∧ r.2.2 = o.2.2
theorem b_exP_hit (hJ : b_JF K) {d mi : Nat} {cB : BK} {cuts : List Nat} {mc0 ms0 : Nat} {N0 : Nat} {νs : BN} (hc : b_calP K N0 νs h0 (b_lim d) cB) : ∀ (f : Nat) (first : Bool) (pc : Nat) (bl : BL) (bs : List BV) (G : BG) (c s : Nat) (L : List BY) (ν : BN) (al : AL) (st : List Value) (h : AH) (mc ms : Nat), b_ex K cB cuts mi f first pc bl bs G c s = some L → b_L G.1.length ν bl al → b_S G.1.length ν bs st → b_G K ν h0 h G → mc = mc0 + c → ms = ms0 + s → b_ext N0 G.1.length νs ν → ∃ o ∈ L, b_OkH K d mi cuts first pc ν h0 G.1.length al st h mc ms mc0 ms0 o
  | 0, first, pc, bl, bs, G, c, s, L, ν, al, st, h, mc, ms, hr, _, _, _, _, _, _ => by cases hr
  | f + 1, first, pc, bl, bs, G, c, s, L, ν, al, st, h, mc, ms, hr, hl, hs, g, e1, e2, yy => by
    rw [b_ex] at hr
    split at hr
    · rename_i hst
      cases hr
      exact ⟨_, List.mem_cons_self, ν, b_ext.rf, Or.inr ⟨pc, bl, bs, al, st, h, mc, ms, rfl, ⟨0, rfl, (by simpa using hst.2), fun k u q => absurd q (Nat.not_lt_zero _)⟩, hl, hs, g, e1, e2⟩⟩
    · rename_i hst
      have hf : first = false → ¬ pc ∈ cuts := fun q1 q2 => hst ⟨q1, by simpa using q2⟩
      split at hr
      · cases hr
      · rename_i i len hi
        split at hr
        · rename_i v hv
          cases hr
          obtain ⟨w, w1, w2⟩ := b_end_ok g.1 hs hv
          refine ⟨_, List.mem_cons_self, ν, b_ext.rf, Or.inl ⟨_, (.inl w, h, mc, ms), rfl, ⟨1, ?_⟩, w2, g, e1, e2⟩⟩
          rw [a_go, hi]
          dsimp only
          rw [w1]
        · split at hr
          · rename_i k hk
            cases hr
            obtain ⟨w1, w2⟩ := b_trw_ok hs hk
            refine ⟨_, List.mem_cons_self, ν, b_ext.rf, Or.inl ⟨_, (.inr k, h, mc + 1, ms + 6), rfl, ⟨1, ?_⟩, rfl, g, ?_, ?_⟩⟩
            · rw [a_go, hi]
              dsimp only
              rw [a_endN w2]
              dsimp only
              rw [w1]
            · show mc + 1 = mc0 + (c + 1)
              omega
            · show ms + 6 = ms0 + (s + 6)
              omega
          · split at hr
            · rename_i mt as rest hca
              obtain ⟨cas, crest, c1, c2, c3, c4, c5⟩ := b_call_ok g hs hca
              split at hr
              · rename_i outs hou
                obtain ⟨r, r1, o, o1, ν', x, o2, o3, o4⟩ := hc ν h mt as cas G outs hou yy g c2
                obtain ⟨z, z1, z2⟩ := b_all_ok hr o o1
                rw [f_G_eq, f_n_eq, f_n_eq] at z1
                obtain ⟨rv, rh, rc, rs⟩ := r
                have o4a : rc = o.2.2.1 := by have := congrArg Prod.fst o4; exact this
                have o4b : rs = o.2.2.2 := by have := congrArg Prod.snd o4; exact this
                split at z1
                · rename_i v hv
                  rw [f_n_eq, f_l_eq f_b_eq] at z1
                  rw [hv] at o2
                  obtain ⟨w, rfl, hw⟩ : ∃ w, rv = .inl w ∧ b_S o.2.1.1.length ν' v.toList w.toList := by
                    cases v with
                    | none =>
                      cases rv with
                      | inl w =>
                        cases w with
                        | none => exact ⟨none, rfl, b_S.nil⟩
                        | some w => exact o2.elim
                      | inr k => exact o2.elim
                    | some b =>
                      cases rv with
                      | inl w =>
                        cases w with
                        | none => exact o2.elim
                        | some w => exact ⟨some w, rfl, b_S.cons o2 b_S.nil⟩
                      | inr k => exact o2.elim
                  obtain ⟨oo, p1, p2⟩ := b_exP_hit hJ (mc0 := mc0) (ms0 := ms0) hc f false (pc + 3) bl (v.toList ++ rest) _ _ _ z ν' al (w.toList ++ crest) rh (mc + rc) (ms + rs) z1 (hl.ext x) (hw.app (c3.ext x)) o3 (by omega) (by omega) (yy.tr x)
                  refine ⟨oo, z2 oo p1, b_OkH.back x hf ?_ p2⟩
                  rw [b_nx]
                  dsimp only
                  rw [hi]
                  dsimp only
                  rw [a_endN c4]
                  dsimp only
                  rw [a_trwN c5]
                  dsimp only
                  rw [c1]
                  dsimp only
                  rw [r1]
                  (try rfl)
                · rename_i k hk
                  rw [hk] at o2
                  obtain rfl : rv = .inr k := by
                    cases rv with
                    | inl w => cases w <;> exact o2.elim
                    | inr k' =>
                      have o2 : k = k' := o2
                      rw [o2]
                  split at z1
                  · cases z1
                  · rename_i hsp
                    split at z1
                    · rename_i hem
                      cases z1
                      refine ⟨_, z2 _ List.mem_cons_self, ν', x, Or.inl ⟨_, (.inr k, rh, mc + rc, ms + rs), rfl, ⟨1, ?_⟩, rfl, o3, ?_, ?_⟩⟩
                      · rw [a_go, hi]
                        dsimp only
                        rw [a_endN c4]
                        dsimp only
                        rw [a_trwN c5]
                        dsimp only
                        rw [c1]
                        dsimp only
                        rw [r1]
                        dsimp only
                        rw [if_neg hsp, if_pos hem]
                      · show mc + rc = mc0 + (c + o.2.2.1); omega
                      · show ms + rs = ms0 + (s + o.2.2.2); omega
                    · rename_i hem
                      split at z1
                      · rename_i xx hxx
                        split at z1
                        · rename_i hp n hh
                          split at z1
                          · rename_i hn
                            obtain ⟨oo, p1, p2⟩ := b_exP_hit hJ (mc0 := mc0) (ms0 := ms0) hc f false hp (b_drop bl n) [] _ _ _ z ν' (a_drop al n) [] rh (mc + rc) (ms + rs) z1 (b_drop_ok (hl.ext x)) b_S.nil o3 (by omega) (by omega) (yy.tr x)
                            refine ⟨oo, z2 oo p1, b_OkH.back x hf ?_ p2⟩
                            rw [b_nx]
                            dsimp only
                            rw [hi]
                            dsimp only
                            rw [a_endN c4]
                            dsimp only
                            rw [a_trwN c5]
                            dsimp only
                            rw [c1]
                            dsimp only
                            rw [r1]
                            dsimp only
                            rw [if_neg hsp, if_neg hem, hxx]
                            dsimp only
                            rw [hh]
                            dsimp only
                            rw [if_pos (by rw [← hl.1]; exact hn)]
                            (try rfl)
                          · cases z1
                        · cases z1
                      · cases z1
              · cases hr
            · split at hr
              · rename_i hno
                split at hr
                · rename_i L' hL'
                  obtain ⟨k1, k2⟩ := b_stp_kind hL'
                  obtain ⟨pc', al', st', h', s1, o, o1, o2, ν', x, o3, o4, o5⟩ := b_stp_ok hJ (ini := a_ini mi) g hl hs hL'
                  obtain ⟨z, z1, z2⟩ := b_all_ok hr o o1
                  rw [b_nrm_eq] at z1
                  subst o2
                  obtain ⟨oo, p1, p2⟩ := b_exP_hit hJ (mc0 := mc0) (ms0 := ms0) hc f false o.1 o.2.1 o.2.2.1 o.2.2.2 c s z ν' al' st' h' (mc + 0) (ms + 0) z1 o3 o4 o5 (by omega) (by omega) (yy.tr x)
                  refine ⟨oo, z2 oo p1, b_OkH.back x hf ?_ p2⟩
                  rw [b_nx]
                  dsimp only
                  rw [hi]
                  dsimp only
                  rw [a_endN k1]
                  dsimp only
                  rw [a_trwN k2]
                  dsimp only
                  rw [b_noc_ok hno]
                  dsimp only
                  rw [s1]
                  (try rfl)
                · split at hr
                  · rename_i o ho
                    rw [f_n_eq, f_l_eq f_b_eq, f_G_eq] at hr
                    obtain ⟨bs', G'⟩ := o
                    obtain ⟨st', h', s1, s2, s3, s4, s5, s7⟩ := b_acp_ok hJ g hs ho
                    have x : b_ext G.1.length G'.1.length ν ν := by rw [s4]; exact b_ext.rf
                    obtain ⟨oo, p1, p2⟩ := b_exP_hit hJ (mc0 := mc0) (ms0 := ms0) hc f false (pc + len) bl bs' G' c s L ν al st' h' mc ms hr (by rw [s4]; exact hl) s2 s3 e1 e2 (yy.tr x)
                    refine ⟨oo, p1, b_OkH.back x hf ?_ p2⟩
                    rw [b_nx]
                    dsimp only
                    rw [hi]
                    dsimp only
                    rw [a_endN (by rcases s5 with ⟨idx, s5⟩ | s5 <;> rw [s5] <;> rfl)]
                    dsimp only
                    rw [a_trwN (fun k q => by rcases s5 with ⟨idx, s5⟩ | s5 <;> rw [s5] at q <;> cases q)]
                    dsimp only
                    rw [b_noc_ok hno]
                    dsimp only
                    rw [s7]
                    dsimp only
                    rw [s1]
                    (try rfl)
                  · cases hr
              · cases hr
/-- (method, depth, (arguments, places that must be as at the start), (answer, facts then, places written), costs) -/
abbrev BSr : Type := Nat × Nat × (List BV × BW) × (BE × BF × BW) × (Nat × Nat)
def b_srv (K : BH) (N0 : Nat) (νs : BN) (hh : AH) (ρ : BSr) : Prop := ∀ (h : AH) (as : List Value) (W : BW) (N : Nat) (ν : BN), b_ext N0 N νs ν → b_H K h → b_frm K W hh h → (∀ w ∈ ρ.2.2.1.2, w ∉ W) → b_S N ν ρ.2.2.1.1 as → ∃ r, b_lim ρ.2.1 ρ.1 as h = some r ∧ b_fin N ν ρ.2.2.2.1.1 r.1 ∧ (∀ f ∈ ρ.2.2.2.1.2.1, b_fa N ν r.2.1 f) ∧ b_H K r.2.1 ∧ b_frm K ρ.2.2.2.1.2.2 h r.2.1 ∧ r.2.2 = ρ.2.2.2.2
def b_srd (K : BH) : List BSr → Nat → Nat → List BV → BG → Option (List (BE × BG × (Nat × Nat)))
  | [], _, _, _, _ => none
  | ρ :: rows, d, mt, bas, G => if ρ.1 = mt ∧ ρ.2.1 ≤ d ∧ ρ.2.2.1.1 = bas ∧ (ρ.2.2.1.2.all fun w => !(G.2.2.2.2.contains w)) = true then some [(ρ.2.2.2.1.1, (G.1, ρ.2.2.2.1.2.1 ++ G.2.1.filter (b_kpW K G.1 ρ.2.2.2.1.2.2), G.2.2.1, G.2.2.2.1, ρ.2.2.2.1.2.2 ++ G.2.2.2.2), ρ.2.2.2.2)] else b_srd K rows d mt bas G
theorem b_srd_ok {N0 : Nat} {νs : BN} : ∀ {rows : List BSr}, (∀ ρ ∈ rows, b_srv K N0 νs h0 ρ) → ∀ d, b_calP K N0 νs h0 (b_lim d) (b_srd K rows d)
  | [], _, d => fun ν h mt bas as G outs ho _ _ _ => by cases ho
  | ρ :: rows, hv, d => fun ν h mt bas as G outs ho y g hs => by
    rw [b_srd] at ho
    split at ho
    · rename_i hc
      obtain ⟨c1, c2, c3, c4⟩ := hc
      cases ho
      have hW : ∀ w ∈ ρ.2.2.1.2, w ∉ G.2.2.2.2 := fun w hw => by
        have := List.all_eq_true.mp c4 w hw
        simpa using this
      obtain ⟨r, r1, r2, r3, r4, r5, r6⟩ := hv ρ List.mem_cons_self h as G.2.2.2.2 G.1.length ν y g.2.2.2.2.1 g.2.2.2.2.2 hW (by rw [c3]; exact hs)
      have r1 := b_lim_up (k := d - ρ.2.1) r1
      rw [c1, show ρ.2.1 + (d - ρ.2.1) = d by omega] at r1
      refine ⟨r, r1, _, List.mem_cons_self, ν, b_ext.rf, r2, ⟨g.1, fun f hf => ?_, g.2.2.1, g.2.2.2.1, r4, ?_⟩, r6⟩
      · have hf : f ∈ ρ.2.2.2.1.2.1 ++ G.2.1.filter (b_kpW K G.1 ρ.2.2.2.1.2.2) := hf
        rcases List.mem_append.mp hf with a | a
        · exact r3 f a
        · obtain ⟨f0, f1⟩ := List.mem_filter.mp a
          exact b_kpW_ok g (g.2.1 f f0) f1 r5
      · exact g.2.2.2.2.2.tr r5 (fun w hw => List.mem_append_right _ hw) (fun w hw => List.mem_append_left _ hw)
    · exact b_srd_ok (fun ρ' hρ => hv ρ' (List.mem_cons_of_mem _ hρ)) d ν h mt bas as G outs ho y g hs
/-- calls by special rows, by contract, or in place -/
noncomputable def b_orcS (K : BH) (rows : List BSr) (tab : List BRw) (F : Nat) : Nat → BK
  | 0 => fun mt bas G => match b_srd K rows 0 mt bas G with
    | some o => some o
    | none => b_ctr K tab 0 mt bas G
  | d + 1 => fun mt bas G => match b_srd K rows (d + 1) mt bas G with
    | some o => some o
    | none => match b_ctr K tab (d + 1) mt bas G with
      | some o => some o
      | none => if b_argOK mt bas = true then (match f_l f_o (b_args mt bas) fun bl => b_ex K (b_orcS K rows tab F d) [] mt F true 0 bl [] G 0 0 with
        | some L => b_all L fun o => (match o.1 with
          | .inl q => some [(q, o.2)]
          | .inr _ => none)
        | none => none) else none
theorem b_orcS_ok (hJ : b_JF K) {rows : List BSr} {tab : List BRw} {N0 : Nat} {νs : BN} (hr : ∀ ρ ∈ rows, b_srv K N0 νs h0 ρ) (hv : ∀ R ∈ tab, b_valid K R) (F : Nat) : ∀ d, b_calP K N0 νs h0 (b_lim d) (b_orcS K rows tab F d)
  | 0 => fun ν h mt bas as G outs ho y g hs => by
    rw [b_orcS] at ho
    dsimp only at ho
    split at ho
    · rename_i o hu
      cases ho
      exact b_srd_ok hr 0 ν h mt bas as G outs hu y g hs
    · exact b_ctr_ok hv ν h0 h mt bas as G outs ho g hs
  | d + 1 => fun ν h mt bas as G outs ho y g hs => by
    rw [b_orcS] at ho
    dsimp only at ho
    split at ho
    · rename_i o hu
      cases ho
      exact b_srd_ok hr (d + 1) ν h mt bas as G outs hu y g hs
    · split at ho
      · rename_i o hu
        cases ho
        exact b_ctr_ok hv ν h0 h mt bas as G outs hu g hs
      · split at ho
        · rename_i ha
          rw [f_l_eq f_o_eq] at ho
          split at ho
          · rename_i L hL
            obtain ⟨o, o1, k⟩ := b_exP_hit (h0 := h0) hJ (mc0 := 0) (ms0 := 0) (b_orcS_ok hJ hr hv F d) F true 0 (b_args mt bas) [] G 0 0 L ν (a_args mt as) [] h 0 0 hL (b_args_ok hs) b_S.nil g rfl rfl y
            obtain ⟨ν', x, o2⟩ := k.ok
            obtain ⟨z, z1, z2⟩ := b_all_ok ho o o1
            rcases o2 with ⟨q, r, q1, q2, q3, q4, q5, q6⟩ | ⟨pc', bl', bs', al', st', h', mc', ms', q1, -⟩
            · rw [q1] at z1
              cases z1
              refine ⟨r, b_lim_run (b_argOK_ok hs ha) q2, _, z2 _ List.mem_cons_self, ν', x, q3, q4, ?_⟩
              obtain ⟨r1, r2, r3, r4⟩ := r
              have q5 : r3 = 0 + o.2.2.1 := q5
              have q6 : r4 = 0 + o.2.2.2 := q6
              show (r3, r4) = o.2.2
              rw [q5, q6, Nat.zero_add, Nat.zero_add]
            · rw [q1] at z1
              cases z1
          · cases ho
        · cases ho
/-- an argument's value -/
def b_val (ν : BN) (b : BV) : Value := if b.1 = 2 ∨ b.1 = 3 then .ref (b_vl ν b).toNat else .int (Int32.ofInt (b_vl ν b))
theorem b_S.vals {N : Nat} : ∀ {bs : List BV} {st : List Value}, (bs.all fun b => decide (b.1 < 4)) = true → b_S N ν bs st → st = bs.map (b_val ν)
  | [], st, _, hs => hs.inv0
  | b :: bs, st, hk, hs => by
    rw [List.all_cons, Bool.and_eq_true, decide_eq_true_eq] at hk
    obtain ⟨v, st', rfl, h1, h2⟩ := hs.inv
    rw [List.map_cons, ← h2.vals hk.2]
    congr 1
    unfold b_val
    rcases Nat.lt_or_ge b.1 2 with q | q
    · rw [if_neg (by omega)]
      obtain ⟨x, rfl, hx⟩ := h1.int q
      have e : x.toInt = b_vl ν b := by
        unfold b_vl
        rcases hx with ⟨e1, e2⟩ | ⟨e1, e2, e3⟩
        · rw [if_pos e1]; exact e2
        · rw [if_neg (by omega), if_pos e1]; exact e3
      rw [← e, Int32.ofInt_toInt]
    · rw [if_pos (by omega)]
      obtain ⟨a, rfl, ha⟩ := h1.ref (by omega)
      have e : (a : Int) = b_vl ν b := by
        unfold b_vl
        rcases ha with ⟨e1, e2⟩ | ⟨e1, e2, e3⟩
        · rw [if_neg (by omega), if_neg (by omega), if_pos e1, e2]
        · rw [if_neg (by omega), if_neg (by omega), if_neg (by omega)]; exact e3
      rw [← e]; rfl
end SR
