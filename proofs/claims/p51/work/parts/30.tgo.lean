/-! The run with hints is a run -/
def t_srt : Nat → CL → Bool
  | _, [] => true
  | lo, e :: l => Nat.ble lo e.1 && t_srt (e.1 + 1) l
theorem t_srt_le : ∀ {L : CL} {lo : Nat}, t_srt lo L = true → ∀ {e : Nat × Instr × Nat}, e ∈ L → lo ≤ e.1
  | [], lo, h, e, he => absurd he List.not_mem_nil
  | x :: l, lo, h, e, he => by
    rw [t_srt, Bool.and_eq_true] at h
    have h1 := Nat.le_of_ble_eq_true h.1
    rcases List.mem_cons.mp he with rfl | he
    · exact h1
    · have := t_srt_le h.2 he; omega
theorem t_srt_find : ∀ {L : CL} {lo : Nat}, t_srt lo L = true → ∀ {e : Nat × Instr × Nat}, e ∈ L → L.find? (fun x => x.1 == e.1) = some e
  | [], lo, h, e, he => absurd he List.not_mem_nil
  | x :: l, lo, h, e, he => by
    rw [t_srt, Bool.and_eq_true] at h
    rw [List.find?_cons]
    rcases List.mem_cons.mp he with rfl | he
    · rw [beq_self_eq_true]
    · have h1 := t_srt_le h.2 he
      rw [show (x.1 == e.1) = false from beq_false_of_ne (by omega)]
      exact t_srt_find h.2 he
theorem t_srt_prog : (a_prog.all fun m => t_srt 0 m.2) = true := by decide +kernel
theorem t_srt_law : t_srt 0 a_lawP = true := by decide +kernel
theorem t_insL : (a_lawP.all fun e => decide (a_insL e.1 = some e.2)) = true := by decide +kernel
theorem t_ins {mi pc : Nat} {i : Instr} {len : Nat} (h : (pc, i, len) ∈ a_codeL mi) : a_ins mi pc = some (i, len) := by
  unfold a_ins
  by_cases hm : mi = 96
  · have e1 : a_codeL mi = a_lawP := if_pos hm
    rw [e1] at h
    rw [hm]
    exact of_decide_eq_true (List.all_eq_true.mp t_insL _ h)
  · have hb : Nat.beq mi 96 = false := by
      cases e : Nat.beq mi 96 with
      | false => rfl
      | true => exact absurd (Nat.eq_of_beq_eq_true e) hm
    have e1 : a_codeL mi = (a_prow mi).2 := if_neg hm
    have key : t_srt 0 (a_prow mi).2 = true := by
      rw [e1] at h
      exact List.all_eq_true.mp t_srt_prog _ (a_prow_in h)
    rw [hb]
    show ((a_prow mi).2.find? (fun e => Nat.beq e.1 pc)).map (fun e => e.2) = some (i, len)
    rw [e1] at h
    have hfe : (fun e : Nat × Instr × Nat => Nat.beq e.1 pc) = (fun e => e.1 == pc) := funext fun e => by
      cases hb2 : Nat.beq e.1 pc with
      | true => rw [Nat.eq_of_beq_eq_true hb2, beq_self_eq_true]
      | false => exact (beq_false_of_ne (Nat.ne_of_beq_eq_false hb2)).symm
    rw [hfe, t_srt_find key h]
    rfl
def t_drop (t : Nat) : CL → List Nat → CL × List Nat
  | e :: l, k :: ks => bif Nat.beq e.1 t then (e :: l, k :: ks) else t_drop t l ks
  | _, _ => ([], [])
def t_pos (pc : Nat) (cs : CL) (ks : List Nat) (fc : CL) (fk : List Nat) : CL × List Nat := match cs, ks with
  | e :: l, k :: ks => bif Nat.beq e.1 pc then (e :: l, k :: ks) else t_drop pc fc fk
  | _, _ => t_drop pc fc fk
theorem t_drop_in {t : Nat} : ∀ {l : CL} {ks : List Nat} {e : Nat × Instr × Nat}, e ∈ (t_drop t l ks).1 → e ∈ l
  | [], ks, e, h => by cases ks <;> cases h
  | x :: l, [], e, h => by cases h
  | x :: l, k :: ks, e, h => by
    rw [t_drop] at h
    cases hb : Nat.beq x.1 t with
    | true => rw [hb] at h; exact h
    | false => rw [hb] at h; exact List.mem_cons_of_mem _ (t_drop_in h)
theorem t_pos_in {pc : Nat} {cs fc : CL} {ks fk : List Nat} {P : Nat × Instr × Nat → Prop} (h1 : ∀ e ∈ cs, P e) (h2 : ∀ e ∈ fc, P e) : ∀ e ∈ (t_pos pc cs ks fc fk).1, P e := by
  intro e h
  unfold t_pos at h
  split at h
  · rename_i x l k ks'
    cases hb : Nat.beq x.1 pc with
    | true => rw [hb] at h; exact h1 e h
    | false => rw [hb] at h; exact h2 e (t_drop_in h)
  · exact h2 e (t_drop_in h)
def t_frc {α : Type} (n : Nat) (f : Nat → α) : α := match n with
  | 0 => f 0
  | Nat.succ n => f (Nat.succ n)
theorem t_frc_eq {α : Type} (n : Nat) (f : Nat → α) : t_frc n f = f n := by cases n <;> rfl
noncomputable def t_go (call : SE → Nat → List Value → AH → Option (List (SE × AR))) (mi : Nat) (fc : CL) (fk : List Nat) : Nat → SE → Nat → CL → List Nat → AL → List Value → AH → Nat → Nat → Option (List (SE × AR))
  | 0, _, _, _, _, _, _, _, _, _ => none
  | f + 1, E, pc, cs, ks, al, st, h, mc, ms =>
    match t_pos pc cs ks fc fk with
    | ((p, i, len) :: cs', k :: ks') => bif Nat.beq p pc then
      (match t_fast mi (a_own mi) (a_ini mi) i len p al st h k with
      | some r => t_frc (mc + r.2.2.2.2.1) fun mc' => t_frc (ms + r.2.2.2.2.2) fun ms' => t_go call mi fc fk f E r.1 cs' ks' r.2.1 r.2.2.1 r.2.2.2.1 mc' ms'
      | none => match s_end E mi i st with
        | some v => some [(E, .inl v, h, mc, ms)]
        | none => match a_trw mi p i st with
          | some k => some [(E, .inr k, h, mc + 1, ms + 6)]
          | none => match a_call (a_own mi) i st h with
            | some (mt, as, rest) => (match call E mt as h with
              | none => none
              | some outs => (s_seq (outs.map fun o => match o.2.1 with
                | .inl v => t_frc (mc + o.2.2.2.1) fun mc' => t_frc (ms + o.2.2.2.2) fun ms' => t_go call mi fc fk f o.1 (p + 3) cs' ks' al (v.toList ++ rest) o.2.2.1 mc' ms'
                | .inr k => if a_isSp i = true then none else if (a_hnd mi).isEmpty = true then some [(o.1, .inr k, o.2.2.1, mc + o.2.2.2.1, ms + o.2.2.2.2)] else (match a_cth mi p k with
                  | some x => (match a_hdl mi x.2.2.1 with
                    | some (hp, n) => if n < al.length then t_frc (mc + o.2.2.2.1) fun mc' => t_frc (ms + o.2.2.2.2) fun ms' => t_go call mi fc fk f o.1 hp cs' ks' (a_drop al n) [] o.2.2.1 mc' ms' else none
                    | none => none)
                  | none => none))).map List.flatten)
            | none => match s_stp E (a_own mi) (a_ini mi) i len p al st h with
              | none => none
              | some outs => (s_seq (outs.map fun o => t_frc (mc + o.2.2.2.2.2.1) fun mc' => t_frc (ms + o.2.2.2.2.2.2) fun ms' => t_go call mi fc fk f o.1 o.2.1 cs' ks' o.2.2.1 o.2.2.2.1 o.2.2.2.2.1 mc' ms')).map List.flatten)
      else none
    | _ => none
def t_hint (mi : Nat) : List Nat := t_hints.getD mi []
noncomputable def t_run : Nat → Nat → SE → Nat → List Value → AH → Option (List (SE × AR))
  | 0, _, _, _, _, _ => none
  | d + 1, F, E, mi, as, h => if as.length = a_nrg mi ∧ as.length ≤ a_mxl mi ∧ (as.all fun v => v.category == 1) = true then t_go (t_run d F) mi (a_codeL mi) (t_hint mi) F E 0 [] [] (a_args mi as) [] h 0 0 else none
section TG
variable {ρ : GV}
set_option maxHeartbeats 2000000 in
theorem t_go_ok (hρ : s_fix ρ) {mi : Nat} {fc : CL} {fk : List Nat} {cS : SE → Nat → List Value → AH → Option (List (SE × AR))} {cA : Nat → List Value → AH → Option AR} (hcall : ∀ (E : SE) (mt : Nat) (as : List Value) (h : AH) (outs : List (SE × AR)), cS E mt as h = some outs → s_sat E ρ → ∃ o ∈ outs, s_sat o.1 ρ ∧ cA mt (g_S ρ as) (g_H ρ h) = some (g_r ρ o.2)) (hfc : ∀ e ∈ fc, e ∈ a_codeL mi) :
    ∀ (f : Nat) (E : SE) (pc : Nat) (cs : CL) (ks : List Nat) (al : AL) (st : List Value) (h : AH) (mc ms : Nat) (outs : List (SE × AR)), (∀ e ∈ cs, e ∈ a_codeL mi) → t_go cS mi fc fk f E pc cs ks al st h mc ms = some outs → s_sat E ρ → ∃ o ∈ outs, s_sat o.1 ρ ∧ a_go cA mi f pc (g_A ρ al) (g_S ρ st) (g_H ρ h) mc ms = some (g_r ρ o.2)
  | 0, E, pc, cs, ks, al, st, h, mc, ms, outs, hcs, hr, hs => by cases hr
  | f + 1, E, pc, cs, ks, al, st, h, mc, ms, outs, hcs, hr, hs => by
    rw [t_go] at hr
    rw [a_go]
    have hpos := t_pos_in (pc := pc) (ks := ks) (fk := fk) hcs hfc
    split at hr
    · rename_i p i len cs' k ks' hp
      rw [hp] at hpos
      obtain ⟨hb, hr1⟩ := t_bif hr
      clear hr
      have hb1 := t_beq hb
      clear hb
      subst hb1
      have hr := hr1
      clear hr1
      have hi := t_ins (hpos _ List.mem_cons_self)
      have hcs' : ∀ e ∈ cs', e ∈ a_codeL mi := fun e he => hpos e (List.mem_cons_of_mem _ he)
      rw [hi]
      dsimp only
      split at hr
      · rename_i r hf
        rw [t_frc_eq, t_frc_eq] at hr
        obtain ⟨h1, h2, h3⟩ := t_fast_ok (ρ := ρ) (fun q => a_ins_len hi q) hf
        have e0 : a_end mi i (g_S ρ st) = none := a_opt (fun v hv => a_stp_stage h1 (a_end_stage hv))
        rw [e0, h2, h3, h1]
        exact t_go_ok hρ hcall hfc f E r.1 cs' ks' r.2.1 r.2.2.1 r.2.2.2.1 _ _ outs hcs' hr hs
      · split at hr
        · rename_i v hv
          cases hr
          refine ⟨_, List.mem_cons_self, hs, ?_⟩
          rw [s_end_ok hs hv]; rfl
        · split at hr
          · rename_i k hk
            cases hr
            refine ⟨_, List.mem_cons_self, hs, ?_⟩
            have e0 : a_end mi i (g_S ρ st) = none := a_opt (fun v hv => by
              have h1 := a_end_stage hv
              rw [a_trw_stage hk] at h1
              cases h1)
            rw [e0, g_trw, hk]; rfl
          · rename_i htr
            split at hr
            · rename_i mt as rest hc
              split at hr
              · cases hr
              · rename_i os hos
                obtain ⟨o, ho, hso, hco⟩ := hcall E mt as h os hos hs
                obtain ⟨a, ea, hin⟩ := s_fl hr (List.mem_map.mpr ⟨o, ho, rfl⟩)
                have e1 : a_call (a_own mi) i (g_S ρ st) (g_H ρ h) = some (mt, g_S ρ as, g_S ρ rest) := g_call_some hc
                rw [a_call_end hc, g_trw, htr, e1]
                dsimp only
                rw [hco]
                obtain ⟨E', res, h', c', s'⟩ := o
                cases res with
                | inl v =>
                  dsimp only at ea hso
                  rw [t_frc_eq, t_frc_eq] at ea
                  obtain ⟨o2, ho2, hs2, h2⟩ := t_go_ok hρ hcall hfc f E' (p + 3) cs' ks' al (v.toList ++ rest) h' (mc + c') (ms + s') a hcs' ea hso
                  refine ⟨o2, hin o2 ho2, hs2, ?_⟩
                  have e2 : (v.map (g_v ρ)).toList ++ g_S ρ rest = g_S ρ (v.toList ++ rest) := by cases v <;> simp [g_S]
                  show a_go cA mi f (p + 3) (g_A ρ al) ((v.map (g_v ρ)).toList ++ g_S ρ rest) (g_H ρ h') (mc + c') (ms + s') = _
                  rw [e2]
                  exact h2
                | inr k =>
                  dsimp only at ea hso
                  dsimp only [g_r]
                  by_cases hsp : a_isSp i = true
                  · rw [if_pos hsp] at ea; cases ea
                  · rw [if_neg hsp] at ea
                    rw [if_neg hsp]
                    by_cases hemp : (a_hnd mi).isEmpty = true
                    · rw [if_pos hemp] at ea
                      rw [if_pos hemp]
                      cases ea
                      exact ⟨_, hin _ List.mem_cons_self, hso, rfl⟩
                    · rw [if_neg hemp] at ea
                      rw [if_neg hemp]
                      split at ea
                      · rename_i x hx
                        rw [hx]
                        dsimp only
                        split at ea
                        · rename_i hp n hh
                          rw [hh]
                          dsimp only
                          split at ea
                          · rename_i hn
                            rw [t_frc_eq, t_frc_eq] at ea
                            rw [g_len, if_pos hn, ← g_drop]
                            obtain ⟨o2, ho2, hs2, h2⟩ := t_go_ok hρ hcall hfc f E' hp cs' ks' (a_drop al n) [] h' (mc + c') (ms + s') a hcs' ea hso
                            exact ⟨o2, hin o2 ho2, hs2, h2⟩
                          · cases ea
                        · cases ea
                      · cases ea
            · rename_i hc
              split at hr
              · cases hr
              · rename_i os hos
                obtain ⟨o, ho, hso, hst⟩ := s_stp_ok hρ hs (fun q => a_ins_len hi q) hos
                obtain ⟨a, ea, hin⟩ := s_fl hr (List.mem_map.mpr ⟨o, ho, rfl⟩)
                have e0 : a_end mi i (g_S ρ st) = none := a_opt (fun v hv => a_stp_stage hst (a_end_stage hv))
                have e1 : a_call (a_own mi) i (g_S ρ st) (g_H ρ h) = none := g_call_none hc (a_stp_stage hst)
                rw [e0, g_trw, htr, e1]
                dsimp only
                rw [hst]
                rw [t_frc_eq, t_frc_eq] at ea
                obtain ⟨o2, ho2, hs2, h2⟩ := t_go_ok hρ hcall hfc f o.1 o.2.1 cs' ks' o.2.2.1 o.2.2.2.1 o.2.2.2.2.1 (mc + o.2.2.2.2.2.1) (ms + o.2.2.2.2.2.2) a hcs' ea hso
                exact ⟨o2, hin o2 ho2, hs2, h2⟩
    · cases hr
theorem g_args (mi : Nat) (as : List Value) : g_A ρ (a_args mi as) = a_args mi (g_S ρ as) := by
  unfold a_args g_A g_S
  simp [List.map_append, List.map_map, Function.comp_def, List.map_replicate]
theorem t_run_ok (hρ : s_fix ρ) : ∀ (d F : Nat) (E : SE) (mi : Nat) (as : List Value) (h : AH) (outs : List (SE × AR)), t_run d F E mi as h = some outs → s_sat E ρ → ∃ o ∈ outs, s_sat o.1 ρ ∧ a_run d F mi (g_S ρ as) (g_H ρ h) = some (g_r ρ o.2)
  | 0, F, E, mi, as, h, outs, hr, hs => by cases hr
  | d + 1, F, E, mi, as, h, outs, hr, hs => by
    rw [t_run] at hr
    split at hr
    · rename_i hc
      obtain ⟨o, ho, hs2, h2⟩ := t_go_ok hρ (fun E mt as h outs => t_run_ok hρ d F E mt as h outs) (fun e he => he) F E 0 [] [] (a_args mi as) [] h 0 0 outs (fun e he => absurd he List.not_mem_nil) hr hs
      refine ⟨o, ho, hs2, ?_⟩
      have hc2 : (g_S ρ as).length = a_nrg mi ∧ (g_S ρ as).length ≤ a_mxl mi ∧ ((g_S ρ as).all fun v => v.category == 1) = true := by
        refine ⟨by rw [g_Slen]; exact hc.1, by rw [g_Slen]; exact hc.2.1, ?_⟩
        rw [List.all_eq_true]
        intro v hv
        obtain ⟨u, hu, rfl⟩ := List.mem_map.mp hv
        rw [g_cat]
        exact List.all_eq_true.mp hc.2.2 u hu
      show (if _ then _ else _) = _
      rw [if_pos hc2, ← g_args]
      exact h2
    · cases hr
end TG
