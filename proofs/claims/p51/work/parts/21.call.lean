/-! Calls -/
theorem a_run_arg {d F mt : Nat} {as : List Value} {h : AH} {q : AR} (hr : a_run d F mt as h = some q) : as.length = a_nrg mt ∧ as.length ≤ a_mxl mt ∧ ∀ v ∈ as, v.category = 1 := by
  cases d with
  | zero => cases hr
  | succ d =>
    rw [a_run] at hr
    split at hr
    · rename_i hc
      refine ⟨hc.1, hc.2.1, fun v hv => ?_⟩
      have := List.all_eq_true.mp hc.2.2 v hv
      simpa using this
    · cases hr
theorem a_inv_in {own idx : Nat} {P : AI → Bool} {e : AI} (h : (a_of a_inv own).find? (fun e => e.1 == idx && P e) = some e) : a_invB own e = true ∧ e.1 = idx ∧ P e = true := by
  have h1 := a_all_of a_inv_ok (List.mem_of_find?_eq_some h)
  have h2 := List.find?_some h
  simp only [Bool.and_eq_true, beq_iff_eq] at h2
  exact ⟨h1, h2.1, h2.2⟩
theorem a_invB_mt {own : Nat} {e : AI} (h : a_invB own e = true) : e.2.2.1 < 96 ∧ Cond.initialized (a_y e.2.2.1).cls ∈ a_wG := by
  unfold a_invB at h
  rw [Bool.and_eq_true, Bool.and_eq_true, decide_eq_true_eq] at h
  exact ⟨h.1, a_at_in h.2.1⟩
theorem a_inv0 {own : Nat} {e : AI} (h : a_invB own e = true) (hk : e.2.1 = 0) : Cond.methodLink (a_cN own) e.1 (a_y e.2.2.1) ∈ a_wG ∧ Cond.instanceMethod (a_y e.2.2.1) ∈ a_wG ∧ Cond.selects (a_y e.2.2.1).cls (a_y e.2.2.1) (a_y e.2.2.1) ∈ a_wG ∧ (a_np e.2.2.1).map (· + 1) = some (a_nrg e.2.2.1) ∧ (a_hnd e.2.2.1).isEmpty = true ∧ a_own e.2.2.1 < 12 := by
  unfold a_invB at h
  rw [hk] at h
  simp only [Bool.and_eq_true, decide_eq_true_eq] at h
  obtain ⟨-, -, h1, h2, h3, h4, h5, h6⟩ := h
  exact ⟨a_at_in h1, a_at_in h2, a_at_in h3, h4, h5, h6⟩
theorem a_inv1 {own : Nat} {e : AI} (h : a_invB own e = true) (hk : e.2.1 = 1) : Cond.methodLink (a_cN own) e.1 (a_y e.2.2.1) ∈ a_wG ∧ Cond.static (a_y e.2.2.1) ∈ a_wG ∧ a_np e.2.2.1 = some (a_nrg e.2.2.1) := by
  unfold a_invB at h
  rw [hk] at h
  simp only [Bool.and_eq_true, decide_eq_true_eq] at h
  obtain ⟨-, -, h1, h2, h3⟩ := h
  exact ⟨a_at_in h1, a_at_in h2, h3⟩
theorem a_inv2 {own : Nat} {e : AI} (h : a_invB own e = true) (hk : e.2.1 = 2) : Cond.methodLink (a_cN own) e.1 (a_y e.2.2.1) ∈ a_wG ∧ Cond.instanceMethod (a_y e.2.2.1) ∈ a_wG ∧ a_nam e.2.2.1 = "<init>" ∧ a_rty e.2.2.1 = none ∧ (a_np e.2.2.1).map (· + 1) = some (a_nrg e.2.2.1) ∧ (a_hnd e.2.2.1).isEmpty = true := by
  unfold a_invB at h
  rw [hk] at h
  simp only [Bool.and_eq_true, decide_eq_true_eq] at h
  obtain ⟨-, -, h1, h2, h3, h4, h5, h6⟩ := h
  exact ⟨a_at_in h1, a_at_in h2, h3, h4, h5, h6⟩
theorem a_inv3 {own : Nat} {e : AI} (h : a_invB own e = true) (hk : e.2.1 = 3) : Cond.methodLinkNest (a_cN own) e.1 (a_y e.2.2.1) "Juryreel" ∈ lw_tbl ∧ Cond.instanceMethod (a_y e.2.2.1) ∈ a_wG ∧ a_nam e.2.2.1 = "<init>" ∧ a_rty e.2.2.1 = none ∧ (a_np e.2.2.1).map (· + 1) = some (a_nrg e.2.2.1) ∧ (a_hnd e.2.2.1).isEmpty = true := by
  unfold a_invB at h
  rw [hk] at h
  simp only [Bool.and_eq_true, decide_eq_true_eq] at h
  obtain ⟨-, -, h1, h2, h3, h4, h5, h6⟩ := h
  exact ⟨a_chs_in (List.mem_of_getElem? h1), a_at_in h2, h3, h4, h5, h6⟩
theorem a_goodM {mt : Nat} (h : mt < 96) : GoodIn a_wG (a_cw mt :: a_wG) := fun w hw => by
  rcases List.mem_cons.mp hw with rfl | hw
  · exact a_wG_good _ (a_cw_in h)
  · exact a_wG_good w hw
theorem a_sig {mt n : Nat} (hn : a_np mt = some n) : ∀ sig, parseMethodDescriptor (a_y mt).desc = some sig → n = sig.parameters.length := by
  intro sig hs
  unfold a_np at hn
  have hs' : parseMethodDescriptor (a_dsc mt) = some sig := hs
  rw [hs'] at hn
  exact (Option.some.inj hn).symm
theorem a_sig1 {mt n : Nat} (hn : (a_np mt).map (· + 1) = some (a_nrg mt)) (h : n + 1 = a_nrg mt) : a_np mt = some n := by
  cases hq : a_np mt with
  | none => rw [hq] at hn; cases hn
  | some k =>
    rw [hq] at hn
    have : k + 1 = a_nrg mt := Option.some.inj hn
    congr 1
    omega
section AC
variable {p : Program} {l : Launch} {e : Env} {R : Room} {s : State} {m : MethodId} {args : Array Value} {below : List Frame} {meth : Method} {c : Code} {H : Heap} {locs : List Loc} {cells slots : Nat} {Q : State → Prop} {pc : Nat} {ls : Array Slot} {D : AD} {B : Nat} {ad : Nat → Nat} {h : AH}
theorem a_pre {as : List Value} (hK : a_K D B s) (hB : B ≤ s.heap.size) (hH : a_H D B ad h H) (hS : va_S (fun x => B ≤ x) s.heap H locs) : ∀ U : State, U.heap = H → s.WarmedH U.vm → a_Pc D B ad as h (as.map (a_ren ad)).toArray U := by
  intro U hU hW
  refine ⟨rfl, by rw [hU]; exact hH, a_K.go hW (fun q h1 h2 => by rw [hU]; exact hS.2.1 q h1 h2) hK, by rw [hU]; exact Nat.le_trans hB hS.1⟩
set_option maxHeartbeats 2000000 in
theorem a_callR {d F mi : Nat} (IH : ∀ (mt : Nat) (as : List Value) (h : AH) (q : AR) (D : AD) (B : Nat) (ad : Nat → Nat), mt < 96 → a_run d F mt as h = some q → a_wh h → (∀ v, v ∈ as → a_ok h.length v) → vx_Met l (a_y mt) (a_cw mt :: a_wG) (a_rm d q) (a_Pc D B ad as h) (a_Qc D B ad h q) (a_XC D B ad h q) q.2.2.1 q.2.2.2 (fun x => B ≤ x))
    (cx : a_Cx p l s m args meth c mi D B) {i : Instr} {len : Nat} {st as rest : List Value} {mt : Nat} {q : AR} (hi : a_ins mi pc = some (i, len)) (hc : a_call (a_own mi) i st h = some (mt, as, rest)) (hq : a_run d F mt as h = some q) (hsp : a_isSp i = true → ∃ v, q.1 = .inl v) (hw : a_wh h) (hok : ∀ v, v ∈ st → a_ok h.length v) (hsz : ls.size = c.maxLocals) (hH : a_H D B ad h H) (hS : va_S (fun x => B ≤ x) s.heap H locs)
    (hRf : d + 6 ≤ R.frames) (hRl : 120 + 60 * d ≤ R.locals) (hRc : cells + q.2.2.1 ≤ R.cells) (hRs : slots + q.2.2.2 ≤ R.slots)
    (k1 : ∀ (v : Option Value) (ad' : Nat → Nat) (H' : Heap) (locs' : List Loc), q.1 = .inl v → a_same h.length ad ad' → a_H D B ad' q.2.1 H' → va_S (fun x => B ≤ x) s.heap H' locs' → W p l e R s m args below meth c H' locs' (cells + q.2.2.1) (slots + q.2.2.2) Q (F0 m (pc + 3) ls ((v.map (a_ren ad')).toList ++ rest.map (a_ren ad))))
    (k2 : ∀ (k : Nat) (ad' : Nat → Nat) (H' : Heap) (locs' : List Loc) (q9 : Nat) (ce : Cell), q.1 = .inr k → a_same h.length ad ad' → a_H D B ad' q.2.1 H' → va_S (fun x => B ≤ x) s.heap H' locs' → H'[q9]? = some ce → ce.vm = .none → s.vm.findClass (a_exN k) = some ce.cls → vx_W p l e R s m args below meth c H' locs' (cells + q.2.2.1) (slots + q.2.2.2) Q (F0 m pc ls (rest.map (a_ren ad))) q9) : W p l e R s m args below meth c H locs cells slots Q (F0 m pc ls (st.map (a_ren ad))) := by
  obtain ⟨hx, hlt, hb, hown, hini, hts, hK, hB, hxt⟩ := cx
  have hdg := a_ins_ok hi
  obtain ⟨i1, i2, i3⟩ := a_call_in hc
  obtain ⟨n1, n2, n3⟩ := a_run_arg hq
  have hM := fun (hm : mt < 96) => IH mt as h q D B ad hm hq hw (fun v hv => hok v (i1 v hv))
  have hfr : (a_rm d q).frames + 1 ≤ R.frames := by show d + 5 + 1 ≤ _; omega
  have hlo : mt < 96 → 8 + (a_mxl mt + 11) + (a_rm d q).locals ≤ R.locals := fun hm => by
    have := (a_plain hm).2.2
    show 8 + (a_mxl mt + 11) + (60 + 60 * d) ≤ _
    omega
  have S : CallFix p m c (a_codeB mi) c.maxLocals s args a_wG (a_cN (a_own mi)) := ⟨hx, hb, rfl, hown, hts⟩
  have hcat := fun (h8 : a_cat rest ≤ 8) => (show 2 * (F0 m pc ls (st.map (a_ren ad))).monitorRoom + ((rest.map (a_ren ad)).map fun v => v.category).sum ≤ 8 by rw [a_cat_ren]; show 2 * 0 + _ ≤ 8; omega)
  have hpre := fun (as : List Value) => a_pre (as := as) hK hB hH hS
  have stk : ∀ {a : Nat} {as' : List Value}, as = .ref a :: as' → st.map (a_ren ad) = (as'.map (a_ren ad)).reverse ++ .ref (ad a) :: rest.map (a_ren ad) := by
    intro a as' ha
    rw [i3, ha, List.map_append, List.reverse_cons, List.map_append, List.map_reverse, List.append_assoc]
    rfl
  unfold a_call at hc
  split at hc
  · -- virtual
    rename_i idx
    obtain rfl : len = 3 := a_ins_len hi rfl
    split at hc
    · rename_i ev hf
      obtain ⟨v1, v2, v3⟩ := a_inv_in (P := fun e => e.2.1 == 0) hf
      have v4 : ev.2.1 = 0 := by simpa using v3
      obtain ⟨u1, u2⟩ := a_invB_mt v1
      obtain ⟨u3, u4, u5, u6, u7, u8⟩ := a_inv0 v1 v4
      rw [v2] at u3
      split at hc
      · rename_i hlen
        split at hc
        · rename_i a as' hrev
          split at hc
          · rename_i t vs ha
            split at hc
            · rename_i ht
              cases hc
              obtain ⟨cell, c1, c2⟩ := hH.1 a _ ha
              obtain ⟨b1, b2, -, -⟩ := c2.obj (show t < 19 by omega)
              have hcw : a_cw ev.2.2.1 = .code (a_y ev.2.2.1) (a_codeB ev.2.2.1) (a_mxl ev.2.2.1) (a_rty ev.2.2.1) := if_pos u7
              have hnp := a_sig1 u6 (n := as'.length) n1
              refine a_runK (vx_runV S (hM u1) ⟨⟨rfl, rfl, hfr, hlo u1, pay_in hts (a_goodM u1), by rw [← hcw]; exact List.mem_cons_self, by rw [← hcw]; exact hts _ (a_cw_in u1), hts _ u2, (a_plain u1).2.1, a_sig hnp, hts _ u3⟩, hts _ u4, hts _ u5⟩
                (b := ad a) (As := as'.map (a_ren ad)) (rest := (st.drop (a_nrg ev.2.2.1)).map (a_ren ad)) ⟨a_Pc_blind, ⟨cell, c1, by rw [b2]; rfl, ?_⟩, hpre (.ref a :: as')⟩ rfl (by rw [List.length_map]) hsz (stk rfl) (hcat hlen.2) hdg ⟨hRc, hRs⟩) hS k1 k2
              rw [b1, ht]
              exact (hK.1 _ u8).2.1
            · cases hc
          · cases hc
        · cases hc
      · cases hc
    · cases hc
  · -- static
    rename_i idx
    obtain rfl : len = 3 := a_ins_len hi rfl
    split at hc
    · rename_i ev hf
      obtain ⟨v1, v2, v3⟩ := a_inv_in (P := fun e => e.2.1 == 1) hf
      have v4 : ev.2.1 = 1 := by simpa using v3
      obtain ⟨u1, u2⟩ := a_invB_mt v1
      obtain ⟨u3, u4, u5⟩ := a_inv1 v1 v4
      rw [v2] at u3
      split at hc
      · rename_i hlen
        cases hc
        have hst : st.map (a_ren ad) = (((st.take (a_nrg ev.2.2.1)).reverse).map (a_ren ad)).reverse ++ (st.drop (a_nrg ev.2.2.1)).map (a_ren ad) := by
          rw [← List.map_reverse, List.reverse_reverse, ← List.map_append, List.take_append_drop]
        have hsig := a_sig (n := a_nrg ev.2.2.1) u5
        by_cases u7 : (a_hnd ev.2.2.1).isEmpty = true
        · have hcw : a_cw ev.2.2.1 = .code (a_y ev.2.2.1) (a_codeB ev.2.2.1) (a_mxl ev.2.2.1) (a_rty ev.2.2.1) := if_pos u7
          exact a_runK (vx_runS S (hM u1) ⟨⟨rfl, rfl, hfr, hlo u1, pay_in hts (a_goodM u1), by rw [← hcw]; exact List.mem_cons_self, by rw [← hcw]; exact hts _ (a_cw_in u1), hts _ u2, (a_plain u1).2.1, hsig, hts _ u3⟩, hts _ u4⟩
            (As := ((st.take (a_nrg ev.2.2.1)).reverse).map (a_ren ad)) (rest := (st.drop (a_nrg ev.2.2.1)).map (a_ren ad)) ⟨a_Pc_blind, hpre _⟩ rfl (by rw [List.length_map]; exact n1) hsz hst (hcat hlen.2) hdg ⟨hRc, hRs⟩) hS k1 k2
        · have hcw : a_cw ev.2.2.1 = .codeWith (a_y ev.2.2.1) (a_codeB ev.2.2.1) (a_mxl ev.2.2.1) (a_rty ev.2.2.1) (a_hh ev.2.2.1) := if_neg u7
          exact a_runK (vx_runSX S (hM u1) ⟨⟨rfl, rfl, hfr, hlo u1, pay_in hts (a_goodM u1), by rw [← hcw]; exact List.mem_cons_self⟩, by rw [← hcw]; exact hts _ (a_cw_in u1), hts _ u2, (a_plain u1).2.1, hsig, hts _ u3, hts _ u4⟩
            (As := ((st.take (a_nrg ev.2.2.1)).reverse).map (a_ren ad)) (rest := (st.drop (a_nrg ev.2.2.1)).map (a_ren ad)) ⟨a_Pc_blind, hpre _⟩ rfl (by rw [List.length_map]; exact n1) hsz hst (hcat hlen.2) hdg ⟨hRc, hRs⟩) hS k1 k2
      · cases hc
    · cases hc
  · -- special
    rename_i idx
    obtain rfl : len = 3 := a_ins_len hi rfl
    obtain ⟨v, hv⟩ := hsp rfl
    split at hc
    · rename_i ev hf
      obtain ⟨v1, v2, v3⟩ := a_inv_in (P := fun e => e.2.1 == 2 || e.2.1 == 3) hf
      obtain ⟨u1, u2⟩ := a_invB_mt v1
      split at hc
      · rename_i hlen
        split at hc
        · rename_i a as' hrev
          cases hc
          rw [Bool.or_eq_true, beq_iff_eq, beq_iff_eq] at v3
          rcases v3 with v4 | v4
          · obtain ⟨u3, u4, u5, u6, u7, u8⟩ := a_inv2 v1 v4
            rw [v2] at u3
            have hcw : a_cw ev.2.2.1 = .code (a_y ev.2.2.1) (a_codeB ev.2.2.1) (a_mxl ev.2.2.1) none := by rw [← u6]; exact if_pos u8
            have hnp := a_sig1 u7 (n := as'.length) n1
            exact a_runM (va_runI S (a_toMet (hM u1) hv) ⟨⟨rfl, rfl, hfr, hlo u1, pay_in hts (a_goodM u1), by rw [← hcw]; exact List.mem_cons_self, by rw [← hcw]; exact hts _ (a_cw_in u1), hts _ u2, (a_plain u1).2.1, a_sig hnp, hts _ u3⟩, u5, hts _ u4⟩
                (b := ad a) (As := as'.map (a_ren ad)) (rest := (st.drop (a_nrg ev.2.2.1)).map (a_ren ad)) ⟨a_Pc_blind, hpre (.ref a :: as')⟩ rfl (by rw [List.length_map]) hsz (stk rfl) (hcat hlen.2) hdg ⟨hRc, hRs⟩) hS k1
          · obtain ⟨u3, u4, u5, u6, u7, u8⟩ := a_inv3 v1 v4
            rw [v2] at u3
            have hcw : a_cw ev.2.2.1 = .code (a_y ev.2.2.1) (a_codeB ev.2.2.1) (a_mxl ev.2.2.1) none := by rw [← u6]; exact if_pos u8
            have hnp := a_sig1 u7 (n := as'.length) n1
            exact a_runM (va_runIN S (a_toMet (hM u1) hv) ⟨⟨⟨rfl, rfl, hfr, hlo u1, pay_in hts (a_goodM u1), by rw [← hcw]; exact List.mem_cons_self⟩, by rw [← hcw]; exact hts _ (a_cw_in u1), hts _ u2, (a_plain u1).2.1, a_sig hnp, va_Nw.use rfl (hK.2.2.2.1.1 _ u3 rfl)⟩, u5, hts _ u4⟩
                (b := ad a) (As := as'.map (a_ren ad)) (rest := (st.drop (a_nrg ev.2.2.1)).map (a_ren ad)) ⟨a_Pc_blind, hpre (.ref a :: as')⟩ rfl (by rw [List.length_map]) hsz (stk rfl) (hcat hlen.2) hdg ⟨hRc, hRs⟩) hS k1
        · cases hc
      · cases hc
    · cases hc
  · cases hc
end AC
