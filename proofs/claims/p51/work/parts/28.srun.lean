/-! The symbolic machine's run -/
def g_r (ρ : GV) (r : AR) : AR := (match r.1 with
  | .inl v => .inl (v.map (g_v ρ))
  | .inr k => .inr k, g_H ρ r.2.1, r.2.2.1, r.2.2.2)
def s_end (E : SE) (mi : Nat) (i : Instr) (st : List Value) : Option (Option Value) := match i, st with
  | .ireturn, [.retAddr n] => match a_rty mi with
    | some ty => if n < E.length ∧ s_fit ty (s_get E n) = true then some (some (.retAddr n)) else none
    | none => none
  | i, st => a_end mi i st
noncomputable def s_go (call : SE → Nat → List Value → AH → Option (List (SE × AR))) (mi : Nat) : Nat → SE → Nat → AL → List Value → AH → Nat → Nat → Option (List (SE × AR))
  | 0, _, _, _, _, _, _, _ => none
  | f + 1, E, pc, al, st, h, mc, ms =>
    match a_ins mi pc with
    | none => none
    | some (i, len) => match s_end E mi i st with
      | some v => some [(E, .inl v, h, mc, ms)]
      | none => match a_trw mi pc i st with
        | some k => some [(E, .inr k, h, mc + 1, ms + 6)]
        | none => match a_call (a_own mi) i st h with
          | some (mt, as, rest) => (match call E mt as h with
            | none => none
            | some outs => (s_seq (outs.map fun o => match o.2.1 with
              | .inl v => s_go call mi f o.1 (pc + 3) al (v.toList ++ rest) o.2.2.1 (mc + o.2.2.2.1) (ms + o.2.2.2.2)
              | .inr k => if a_isSp i = true then none else if (a_hnd mi).isEmpty = true then some [(o.1, .inr k, o.2.2.1, mc + o.2.2.2.1, ms + o.2.2.2.2)] else (match a_cth mi pc k with
                | some x => (match a_hdl mi x.2.2.1 with
                  | some (hp, n) => if n < al.length then s_go call mi f o.1 hp (a_drop al n) [] o.2.2.1 (mc + o.2.2.2.1) (ms + o.2.2.2.2) else none
                  | none => none)
                | none => none))).map List.flatten)
          | none => match s_stp E (a_own mi) (a_ini mi) i len pc al st h with
            | none => none
            | some outs => (s_seq (outs.map fun o => s_go call mi f o.1 o.2.1 o.2.2.1 o.2.2.2.1 o.2.2.2.2.1 (mc + o.2.2.2.2.2.1) (ms + o.2.2.2.2.2.2))).map List.flatten
noncomputable def s_run : Nat → Nat → SE → Nat → List Value → AH → Option (List (SE × AR))
  | 0, _, _, _, _, _ => none
  | d + 1, F, E, mi, as, h => if as.length = a_nrg mi ∧ as.length ≤ a_mxl mi ∧ (as.all fun v => v.category == 1) = true then s_go (s_run d F) mi F E 0 (a_args mi as) [] h 0 0 else none
theorem a_end_stage {mi : Nat} {i : Instr} {st : List Value} {v : Option Value} (h : a_end mi i st = some v) : a_stage i = 0 := by
  unfold a_end at h
  split at h <;> first | rfl | (cases h; done)
theorem a_stp_stage {own : Nat} {ini : Bool} {i : Instr} {len pc : Nat} {al : AL} {st : List Value} {h : AH} {r : AS} (hr : a_stp own ini i len pc al st h = some r) : a_stage i ≠ 0 := by
  unfold a_stp at hr
  split at hr
  · rename_i h1; rw [a_n7 h1]; decide
  · split at hr
    · split at hr
      · rename_i h1; rw [a_n1 h1]; decide
      · split at hr
        · rename_i h1; rw [a_n4 h1]; decide
        · split at hr
          · rename_i h1; rw [a_n2 h1]; decide
          · split at hr
            · rename_i h1; rw [a_n3 h1]; decide
            · split at hr
              · rename_i h1; rw [a_n5 h1]; decide
              · rw [a_n6 hr]; decide
    · cases hr
theorem a_trw_stage {mi pc : Nat} {i : Instr} {st : List Value} {k : Nat} (h : a_trw mi pc i st = some k) : a_stage i = 5 := by
  unfold a_trw at h
  split at h
  · rfl
  · cases h
theorem a_call_end {own mi : Nat} {i : Instr} {st st' : List Value} {h : AH} {q : Nat × List Value × List Value} (hc : a_call own i st h = some q) : a_end mi i st' = none := by
  refine a_opt (fun v hv => ?_)
  have h0 := a_end_stage hv
  unfold a_call at hc
  split at hc
  · rw [show a_end mi (.invokevirtual _) st' = none from rfl] at hv; cases hv
  · cases h0
  · cases h0
  · cases hc
theorem a_call_stage {own : Nat} {i : Instr} {st : List Value} {h : AH} {q : Nat × List Value × List Value} (hc : a_call own i st h = some q) : a_stage i = 0 ∨ a_stage i = 5 := by
  unfold a_call at hc
  split at hc
  · exact Or.inl rfl
  · exact Or.inr rfl
  · exact Or.inr rfl
  · cases hc
section SG
variable {ρ : GV}
theorem g_own (mi : Nat) : a_own mi ≠ 99 := by
  have h : (a_mthC.flatten.all fun m => decide (m.1 < 14)) = true := by decide +kernel
  unfold a_own
  have h0 : a_mrow mi ∈ a_mthC.flatten ∨ a_mrow mi = (0, "", "", 0, none, 0, [], (0, 0)) := a_getD2
  rcases h0 with k | k
  · have := of_decide_eq_true (List.all_eq_true.mp h _ k)
    omega
  · rw [k]
    exact (by decide : ¬ (0 : Nat) = 99)
theorem g_Slen (st : List Value) : (g_S ρ st).length = st.length := by simp [g_S]
theorem g_Sdrop (n : Nat) (st : List Value) : (g_S ρ st).drop n = g_S ρ (st.drop n) := by simp [g_S, List.map_drop]
theorem g_Srev (n : Nat) (st : List Value) : ((g_S ρ st).take n).reverse = g_S ρ (st.take n).reverse := by simp [g_S, List.map_take, List.map_reverse]
theorem g_trw (mi pc : Nat) (i : Instr) (st : List Value) : a_trw mi pc i (g_S ρ st) = a_trw mi pc i st := by
  unfold a_trw
  split
  · rw [g_catS]
  · rfl
theorem g_head (l : List Value) : (∃ a as, l = .ref a :: as) ∨ ((∀ a as, l ≠ .ref a :: as) ∧ ∀ a as, g_S ρ l ≠ .ref a :: as) := by
  cases l with
  | nil => exact Or.inr ⟨(fun a as h => by cases h), (fun a as h => by cases h)⟩
  | cons v as =>
    cases v <;> first
      | exact Or.inl ⟨_, _, rfl⟩
      | exact Or.inr ⟨(fun a as h => by cases h), (fun a as h => by cases h)⟩
theorem g_call (own : Nat) (i : Instr) (st : List Value) (h : AH) (hi : a_stage i ≠ 0) : a_call own i (g_S ρ st) (g_H ρ h) = (a_call own i st h).map (fun q => (q.1, g_S ρ q.2.1, g_S ρ q.2.2)) := by
  unfold a_call
  split
  · exact absurd rfl hi
  · split
    · rename_i e he
      rw [g_Slen, g_Sdrop, g_catS, g_Srev]
      split <;> rfl
    · rfl
  · split
    · rename_i e he
      rw [g_Slen, g_Sdrop, g_catS, g_Srev]
      split
      · rename_i hc
        rcases g_head (ρ := ρ) (st.take (a_nrg e.2.2.1)).reverse with ⟨a, as, hl⟩ | ⟨n1, n2⟩
        · rw [hl]; rfl
        · split
          · rename_i hq; exact absurd hq (n2 _ _)
          · first
              | rfl
              | (split
                 · rename_i hq; exact absurd hq (n1 _ _)
                 · rfl)
      · rfl
    · rfl
  · rfl
theorem g_call_none {own : Nat} {i : Instr} {st : List Value} {h : AH} (hc : a_call own i st h = none) (hi : a_stage i ≠ 0) : a_call own i (g_S ρ st) (g_H ρ h) = none := by
  rw [g_call _ _ _ _ hi, hc]; rfl
theorem g_call_some {own : Nat} {i : Instr} {st : List Value} {h : AH} {q : Nat × List Value × List Value} (hc : a_call own i st h = some q) : a_call own i (g_S ρ st) (g_H ρ h) = some (q.1, g_S ρ q.2.1, g_S ρ q.2.2) := by
  rcases a_call_stage hc with h0 | h5
  · unfold a_call at hc
    split at hc
    · split at hc
      · rename_i e he
        split at hc
        · rename_i hcond
          split at hc
          · rename_i a as hl
            split at hc
            · rename_i t vs ha
              split at hc
              · rename_i ht
                cases hc
                unfold a_call
                dsimp only
                rw [he]
                dsimp only
                rw [g_Slen, g_Sdrop, g_catS, g_Srev, if_pos hcond, hl]
                show (match (g_H ρ h)[a]? with
                  | some (t, _) => if t = a_own e.2.2.1 then some (e.2.2.1, Value.ref a :: g_S ρ as, g_S ρ (st.drop (a_nrg e.2.2.1))) else none
                  | none => none) = _
                rw [g_cel ha (by rw [ht]; exact g_own _)]
                dsimp only
                rw [if_pos ht]; rfl
              · cases hc
            · cases hc
          · cases hc
        · cases hc
      · cases hc
    · cases h0
    · cases h0
    · cases hc
  · rw [g_call _ _ _ _ (by rw [h5]; decide), hc]; rfl
theorem s_end_ok {E : SE} (hs : s_sat E ρ) {mi : Nat} {i : Instr} {st : List Value} {v : Option Value} (h : s_end E mi i st = some v) : a_end mi i (g_S ρ st) = some (v.map (g_v ρ)) := by
  unfold s_end at h
  split at h
  · rename_i n
    split at h
    · rename_i ty hty
      split at h
      · rename_i hc
        cases h
        obtain ⟨f1, f2⟩ := s_fit_ok (hs.get hc.1) hc.2
        show (match a_rty mi with
          | some ty => if narrow ty (Value.int (ρ.1 n)) = Value.int (ρ.1 n) then some (some (Value.int (ρ.1 n))) else none
          | none => none) = _
        rw [hty]
        dsimp only
        rw [if_pos f1]; rfl
      · cases h
    · cases h
  · have h' := h
    unfold a_end at h
    split at h
    · split at h
      · cases h; exact h'
      · cases h
    · split at h
      · split at h
        · cases h; exact h'
        · cases h
      · cases h
    · split at h
      · cases h; exact h'
      · cases h
    · split at h
      · cases h; exact h'
      · cases h
    · split at h
      · cases h; exact h'
      · cases h
    · cases h
theorem s_fl {α : Type} {l : List (Option (List α))} {r : List α} (h : (s_seq l).map List.flatten = some r) {o : Option (List α)} (ho : o ∈ l) : ∃ a, o = some a ∧ ∀ x ∈ a, x ∈ r := by
  rw [Option.map_eq_some_iff] at h
  obtain ⟨q, h1, rfl⟩ := h
  obtain ⟨a, ha, e⟩ := s_seq_in h1 ho
  exact ⟨a, e, fun x hx => List.mem_flatten.mpr ⟨a, ha, hx⟩⟩
set_option maxHeartbeats 2000000 in
theorem s_go_ok (hρ : s_fix ρ) {mi : Nat} {cS : SE → Nat → List Value → AH → Option (List (SE × AR))} {cA : Nat → List Value → AH → Option AR} (hcall : ∀ (E : SE) (mt : Nat) (as : List Value) (h : AH) (outs : List (SE × AR)), cS E mt as h = some outs → s_sat E ρ → ∃ o ∈ outs, s_sat o.1 ρ ∧ cA mt (g_S ρ as) (g_H ρ h) = some (g_r ρ o.2)) :
    ∀ (f : Nat) (E : SE) (pc : Nat) (al : AL) (st : List Value) (h : AH) (mc ms : Nat) (outs : List (SE × AR)), s_go cS mi f E pc al st h mc ms = some outs → s_sat E ρ → ∃ o ∈ outs, s_sat o.1 ρ ∧ a_go cA mi f pc (g_A ρ al) (g_S ρ st) (g_H ρ h) mc ms = some (g_r ρ o.2)
  | 0, E, pc, al, st, h, mc, ms, outs, hr, hs => by cases hr
  | f + 1, E, pc, al, st, h, mc, ms, outs, hr, hs => by
    rw [s_go] at hr
    rw [a_go]
    split at hr
    · cases hr
    · rename_i i len hi
      rw [hi]
      dsimp only
      split at hr
      · rename_i v hv
        cases hr
        refine ⟨_, List.mem_cons_self, hs, ?_⟩
        rw [s_end_ok hs hv]; rfl
      · split at hr
        · rename_i k hk
          cases hr
          refine ⟨_, List.mem_cons_self, hs, ?_⟩
          have e0 : a_end mi i (g_S ρ st) = none := a_opt (fun v hv => by
            have h1 := a_end_stage hv
            rw [a_trw_stage hk] at h1
            cases h1)
          rw [e0, g_trw, hk]; rfl
        · rename_i htr
          split at hr
          · rename_i mt as rest hc
            split at hr
            · cases hr
            · rename_i os hos
              obtain ⟨o, ho, hso, hco⟩ := hcall E mt as h os hos hs
              obtain ⟨a, ea, hin⟩ := s_fl hr (List.mem_map.mpr ⟨o, ho, rfl⟩)
              have e1 : a_call (a_own mi) i (g_S ρ st) (g_H ρ h) = some (mt, g_S ρ as, g_S ρ rest) := g_call_some hc
              rw [a_call_end hc, g_trw, htr, e1]
              dsimp only
              rw [hco]
              obtain ⟨E', res, h', c', s'⟩ := o
              cases res with
              | inl v =>
                dsimp only at ea hso
                obtain ⟨o2, ho2, hs2, h2⟩ := s_go_ok hρ hcall f E' (pc + 3) al (v.toList ++ rest) h' (mc + c') (ms + s') a ea hso
                refine ⟨o2, hin o2 ho2, hs2, ?_⟩
                have e2 : (v.map (g_v ρ)).toList ++ g_S ρ rest = g_S ρ (v.toList ++ rest) := by cases v <;> simp [g_S]
                show a_go cA mi f (pc + 3) (g_A ρ al) ((v.map (g_v ρ)).toList ++ g_S ρ rest) (g_H ρ h') (mc + c') (ms + s') = _
                rw [e2]
                exact h2
              | inr k =>
                dsimp only at ea hso
                dsimp only [g_r]
                by_cases hsp : a_isSp i = true
                · rw [if_pos hsp] at ea; cases ea
                · rw [if_neg hsp] at ea
                  rw [if_neg hsp]
                  by_cases hemp : (a_hnd mi).isEmpty = true
                  · rw [if_pos hemp] at ea
                    rw [if_pos hemp]
                    cases ea
                    exact ⟨_, hin _ List.mem_cons_self, hso, rfl⟩
                  · rw [if_neg hemp] at ea
                    rw [if_neg hemp]
                    split at ea
                    · rename_i x hx
                      rw [hx]
                      dsimp only
                      split at ea
                      · rename_i hp n hh
                        rw [hh]
                        dsimp only
                        split at ea
                        · rename_i hn
                          rw [g_len, if_pos hn, ← g_drop]
                          obtain ⟨o2, ho2, hs2, h2⟩ := s_go_ok hρ hcall f E' hp (a_drop al n) [] h' (mc + c') (ms + s') a ea hso
                          exact ⟨o2, hin o2 ho2, hs2, h2⟩
                        · cases ea
                      · cases ea
                    · cases ea
          · rename_i hc
            split at hr
            · cases hr
            · rename_i os hos
              obtain ⟨o, ho, hso, hst⟩ := s_stp_ok hρ hs (fun q => a_ins_len hi q) hos
              obtain ⟨a, ea, hin⟩ := s_fl hr (List.mem_map.mpr ⟨o, ho, rfl⟩)
              have e0 : a_end mi i (g_S ρ st) = none := a_opt (fun v hv => a_stp_stage hst (a_end_stage hv))
              have e1 : a_call (a_own mi) i (g_S ρ st) (g_H ρ h) = none := g_call_none hc (a_stp_stage hst)
              rw [e0, g_trw, htr, e1]
              dsimp only
              rw [hst]
              obtain ⟨o2, ho2, hs2, h2⟩ := s_go_ok hρ hcall f o.1 o.2.1 o.2.2.1 o.2.2.2.1 o.2.2.2.2.1 (mc + o.2.2.2.2.2.1) (ms + o.2.2.2.2.2.2) a ea hso
              exact ⟨o2, hin o2 ho2, hs2, h2⟩
end SG
