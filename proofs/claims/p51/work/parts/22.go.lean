/-! A body's walk, and every method's contract -/
theorem a_ncs_in0 : ∀ i, i < 5 → ∀ j, j < 5 → i = j ∨ (a_exN i, a_exN j) ∈ a_ncs := by decide +kernel
theorem a_ncs_in : ∀ i, i < 5 → ∀ j, j < 5 → i ≠ j → (a_exN i, a_exN j) ∈ a_ncs := fun i hi j hj h => (a_ncs_in0 i hi j hj).resolve_left h
theorem a_cast_in : ∀ i, i < 5 → Cond.castable (a_exN i) (a_exN i) ∈ lw_tbl := by decide +kernel
theorem a_hnd_law : a_hnd 96 = [] := by decide +kernel
theorem a_L.drop {ad ad' : Nat → Nat} {al : AL} {ls : Array Slot} {n k : Nat} (hs : a_same k ad ad') (hok : ∀ (i : Nat) (v : Value), a_get al i = some v → a_ok k v) (hl : a_L ad' (a_set1 al n (.ref k)) ls) : a_L ad (a_drop al n) ls := by
  refine ⟨by rw [hl.1]; simp [a_set1, a_drop, a_kill_len], hl.2.1, fun i v hi => ?_⟩
  have hg := a_drop_get hi
  have h1 : a_get (a_set1 al n (.ref k)) i = some v := by
    unfold a_drop at hi
    unfold a_set1
    rw [a_get_set] at hi ⊢
    split at hi
    · cases hi
    · rename_i h2
      rw [if_neg h2]
      exact hi
  rw [← a_ren_same hs (hok i v hg.1)]
  exact hl.2.2 i v h1
section AG
variable {p : Program} {l : Launch} {e : Env} {R : Room} {s : State} {m : MethodId} {args : Array Value} {below : List Frame} {meth : Method} {c : Code} {Q : State → Prop} {D : AD} {B : Nat}
/-- a handler takes exception k at pc -/
theorem a_catch_ok {mi pc k : Nat} {H : Heap} {locs : List Loc} {cells slots : Nat} {ls : Array Slot} {rest : List Value} {q9 : Nat} {ce : Cell} {x : Nat × Nat × Nat × Nat × Nat × Nat × Nat} (hmi : mi < 96) (cx : a_Cx p l s m args meth c mi D B) (hx : a_cth mi pc k = some x) (hce : H[q9]? = some ce) (hv : ce.vm = .none) (hcl : s.vm.findClass (a_exN k) = some ce.cls)
    (kk : W p l e R s m args below meth c H locs cells slots Q (F0 m x.2.2.1 ls [.ref q9])) : vx_W p l e R s m args below meth c H locs cells slots Q (F0 m pc ls rest) q9 := by
  obtain ⟨hxc, hlt, hb, hown, hini, hts, hK, hB, hxt⟩ := cx
  unfold a_cth at hx
  rw [List.find?_eq_some_iff_append] at hx
  obtain ⟨h1, pre, suf, h2, h3⟩ := hx
  simp only [Bool.and_eq_true, decide_eq_true_eq, beq_iff_eq] at h1
  have hxin : x ∈ a_hnd mi := by rw [h2]; simp
  obtain ⟨x1, x2, x3⟩ := a_hnd_in hmi hxin
  obtain ⟨hcov, hk⟩ := h1
  rw [hk] at x1 x3
  have hsplit : c.exceptionTable.toList = (pre.map fun x => (⟨x.1, x.2.1, x.2.2.1, x.2.2.2.1⟩ : ExceptionTableEntry)) ++ (⟨x.1, x.2.1, x.2.2.1, x.2.2.2.1⟩ : ExceptionTableEntry) :: (suf.map fun x => (⟨x.1, x.2.1, x.2.2.1, x.2.2.2.1⟩ : ExceptionTableEntry)) := by
    rw [hxt hmi]
    unfold tableOf a_hh
    rw [h2, List.map_map, List.map_append, List.map_cons]
    rfl
  refine vx_catch (name := a_exN k) hown _ _ _ hsplit (fun z hz => ?_) (by simp [hcov.1, hcov.2]) x2 (hts _ x1) (va_Nw.use rfl (hK.2.2.2.1.1 _ (a_cast_in k x3) rfl)) hce hv hcl kk
  rw [List.mem_map] at hz
  obtain ⟨y, hy, rfl⟩ := hz
  have h4 := h3 y hy
  obtain ⟨y1, y2, y3⟩ := a_hnd_in hmi (show y ∈ a_hnd mi by rw [h2]; simp [hy])
  by_cases hyc : y.1 ≤ pc ∧ pc < y.2.1
  · refine Or.inr ⟨y2, _, hts _ y1, hK.2.2.2.2.1 (a_exN k, a_exN y.2.2.2.2.1) (a_ncs_in _ x3 _ y3 (fun q => ?_))⟩
    simp [hyc.1, hyc.2, ← q] at h4
  · refine Or.inl ?_
    show (decide (y.1 ≤ pc) && decide (pc < y.2.1)) = false
    rw [Bool.and_eq_false_iff, decide_eq_false_iff_not, decide_eq_false_iff_not]
    by_cases h5 : y.1 ≤ pc
    · exact Or.inr (fun q => hyc ⟨h5, q⟩)
    · exact Or.inl h5
set_option maxHeartbeats 4000000 in
theorem a_go_ok {d F mi : Nat} (hmi : mi ≤ 96) (IH : ∀ (mt : Nat) (as : List Value) (h : AH) (q : AR) (D : AD) (B : Nat) (ad : Nat → Nat), mt < 96 → a_run d F mt as h = some q → a_wh h → (∀ v, v ∈ as → a_ok h.length v) → vx_Met l (a_y mt) (a_cw mt :: a_wG) (a_rm d q) (a_Pc D B ad as h) (a_Qc D B ad h q) (a_XC D B ad h q) q.2.2.1 q.2.2.2 (fun x => B ≤ x))
    (cx : a_Cx p l s m args meth c mi D B) {r : AR} {h0 : AH} {ad0 : Nat → Nat} (hRf : d + 6 ≤ R.frames) (hRl : 120 + 60 * d ≤ R.locals) (hRc : r.2.2.1 ≤ R.cells) (hRs : r.2.2.2 ≤ R.slots)
    (K1 : ∀ (pc : Nat) (i : Instr) (st : List Value) (v : Option Value) (ad : Nat → Nat) (H : Heap) (locs : List Loc) (ls : Array Slot), a_ins mi pc = some (i, a_len i) → a_end mi i st = some v → r.1 = .inl v → a_H D B ad r.2.1 H → va_S (fun x => B ≤ x) s.heap H locs → a_same h0.length ad0 ad → W p l e R s m args below meth c H locs r.2.2.1 r.2.2.2 Q (F0 m pc ls (st.map (a_ren ad))))
    (K2 : ∀ (pc : Nat) (i : Instr) (len : Nat) (st : List Value) (k : Nat) (ad : Nat → Nat) (H : Heap) (locs : List Loc) (ls : Array Slot) (cells slots : Nat), a_ins mi pc = some (i, len) → a_trw mi pc i st = some k → r.1 = .inr k → cells + 1 = r.2.2.1 → slots + 6 = r.2.2.2 → a_H D B ad r.2.1 H → va_S (fun x => B ≤ x) s.heap H locs → a_same h0.length ad0 ad → ls.size = c.maxLocals → W p l e R s m args below meth c H locs cells slots Q (F0 m pc ls (st.map (a_ren ad))))
    (K3 : ∀ (pc k : Nat) (rest : List Value) (ad : Nat → Nat) (H : Heap) (locs : List Loc) (ls : Array Slot) (q9 : Nat) (ce : Cell), (a_hnd mi).isEmpty = true → r.1 = .inr k → a_H D B ad r.2.1 H → va_S (fun x => B ≤ x) s.heap H locs → a_same h0.length ad0 ad → H[q9]? = some ce → ce.vm = .none → s.vm.findClass (a_exN k) = some ce.cls → vx_W p l e R s m args below meth c H locs r.2.2.1 r.2.2.2 Q (F0 m pc ls rest) q9) :
    ∀ (f pc : Nat) (al : AL) (st : List Value) (h : AH) (mc ms : Nat) (ad : Nat → Nat) (ls : Array Slot) (H : Heap) (locs : List Loc), a_go (a_run d F) mi f pc al st h mc ms = some r → a_wf al st h → a_L ad al ls → al.length = c.maxLocals → a_H D B ad h H → va_S (fun x => B ≤ x) s.heap H locs → a_same h0.length ad0 ad → h0.length ≤ h.length →
      W p l e R s m args below meth c H locs mc ms Q (F0 m pc ls (st.map (a_ren ad)))
  | 0, pc, al, st, h, mc, ms, ad, ls, H, locs, hr, _, _, _, _, _, _, _ => by cases hr
  | f + 1, pc, al, st, h, mc, ms, ad, ls, H, locs, hr, hw, hl, hsz, hH, hS, hsame, hle => by
    rw [a_go] at hr
    split at hr
    · cases hr
    · rename_i i len hi
      split at hr
      · rename_i v hv
        have hlen : len = a_len i := a_ins_len hi (by
          cases i <;> first | rfl | (simp [a_end] at hv))
        subst hlen
        cases hr
        exact K1 pc i st v ad H locs ls hi hv rfl hH hS hsame
      · split at hr
        · rename_i k hk
          cases hr
          exact K2 pc i len st k ad H locs ls mc ms hi hk rfl rfl rfl hH hS hsame (hl.1.trans hsz)
        · split at hr
          · rename_i mt as rest hc
            obtain ⟨i1, i2, i3⟩ := a_call_in hc
            split at hr
            · rename_i v h' c' s' hq
              obtain ⟨w1, w2, w3⟩ := a_run_wf F d mt as h _ hq hw.2.2 (fun v hv => hw.2.1 v (i1 v hv))
              obtain ⟨m1, m2⟩ := a_go_mono f _ _ _ _ _ _ r hr
              refine a_callR IH cx hi hc hq (fun _ => ⟨v, rfl⟩) hw.2.2 hw.2.1 (hl.1.trans hsz) hH hS hRf hRl (Nat.le_trans m1 hRc) (Nat.le_trans m2 hRs) (fun v' ad' H' locs' e1 g1 g2 g3 => ?_) (fun k ad' H' locs' q9 ce e1 => by cases e1)
              cases e1
              have hwf : a_wf al (v.toList ++ rest) h' := ⟨fun i u hi => a_ok_mono w2 (hw.1 i u hi), fun u hu => by
                rcases List.mem_append.mp hu with g | g
                · cases v with
                  | none => cases g
                  | some v =>
                    simp only [Option.toList, List.mem_cons, List.not_mem_nil, or_false] at g
                    rw [g]; exact w3 v rfl
                · exact a_ok_mono w2 (hw.2.1 u (i2 u g)), w1⟩
              have k1 := a_go_ok hmi IH cx hRf hRl hRc hRs K1 K2 K3 f (pc + 3) al (v.toList ++ rest) h' (mc + c') (ms + s') ad' ls H' locs' hr hwf (hl.same g1 hw.1) hsz g2 g3 (hsame.tr g1 hle) (Nat.le_trans hle w2)
              rw [List.map_append, a_map_same g1 (fun u hu => hw.2.1 u (i2 u hu))] at k1
              cases v with
              | none => exact k1
              | some v => exact k1
            · rename_i k h' c' s' hq
              obtain ⟨w1, w2, w3⟩ := a_run_wf F d mt as h _ hq hw.2.2 (fun v hv => hw.2.1 v (i1 v hv))
              split at hr
              · cases hr
              · rename_i hnsp
                split at hr
                · rename_i hemp
                  cases hr
                  refine a_callR IH cx hi hc hq (fun q => absurd q hnsp) hw.2.2 hw.2.1 (hl.1.trans hsz) hH hS hRf hRl hRc hRs (fun v' ad' H' locs' e1 => by cases e1) (fun k' ad' H' locs' q9 ce e1 g1 g2 g3 g4 g5 g6 => ?_)
                  cases e1
                  exact K3 pc k _ ad' H' locs' ls q9 ce hemp rfl g2 g3 (hsame.tr g1 hle) g4 g5 g6
                · rename_i hemp
                  have hmi' : mi < 96 := by
                    rcases Nat.lt_or_ge mi 96 with q | q
                    · exact q
                    · exfalso
                      have e : mi = 96 := Nat.le_antisymm hmi q
                      subst e
                      rw [a_hnd_law] at hemp
                      exact hemp rfl
                  split at hr
                  · rename_i x hx
                    split at hr
                    · rename_i hp n hh
                      split at hr
                      · rename_i hn
                        obtain ⟨m1, m2⟩ := a_go_mono f _ _ _ _ _ _ r hr
                        refine a_callR IH cx hi hc hq (fun q => absurd q hnsp) hw.2.2 hw.2.1 (hl.1.trans hsz) hH hS hRf hRl (Nat.le_trans m1 hRc) (Nat.le_trans m2 hRs) (fun v' ad' H' locs' e1 => by cases e1) (fun k' ad' H' locs' q9 ce e1 g1 g2 g3 g4 g5 g6 => ?_)
                        cases e1
                        refine a_catch_ok hmi' cx hx g4 g5 g6 ?_
                        unfold a_hdl at hh
                        split at hh
                        · rename_i i2 len2 hi2
                          split at hh
                          · rename_i hl2
                            subst hl2
                            split at hh
                            · rename_i n2 kd hst
                              split at hh
                              · rename_i hkd
                                subst hkd
                                cases hh
                                have hs3 : a_same h'.length ad' (a_up ad' h'.length q9) := fun k hk => a_up_lt hk
                                have hok3 : ∀ (i : Nat) (v : Value), a_get al i = some v → a_ok h'.length v := fun i v hi => a_ok_mono w2 (hw.1 i v hi)
                                have hl3 : a_L (a_up ad' h'.length q9) al ls := (hl.same g1 hw.1).same hs3 hok3
                                have hst2 : a_sto al n (.ref h'.length) = some (a_set1 al n (.ref h'.length)) := by
                                  unfold a_sto
                                  rw [if_neg (show ¬ (Value.ref h'.length).category = 2 from (by decide : ¬ (1 : Nat) = 2)), if_pos hn]
                                have k1 := a_store_ok (ad := a_up ad' h'.length q9) (v := .ref h'.length) (rest := []) (al := al) (p := p) (l := l) (e := e) (R := R) (s := s) (m := m) (args := args) (below := below) (meth := meth) (H := H') (locs := locs') (cells := mc + c') (slots := ms + s') (Q := Q) cx.1 cx.2.2.1 (a_ins_ok hi2) hst rfl hst2 hl3 (fun ls' hl' =>
                                  a_go_ok hmi IH cx hRf hRl hRc hRs K1 K2 K3 f _ (a_drop al n) [] h' (mc + c') (ms + s') ad' ls' H' locs' hr ⟨fun i u hi => hok3 i u (a_drop_get hi).1, fun u hu => absurd hu List.not_mem_nil, w1⟩ (hl'.drop hs3 hok3) (by simp [a_drop, a_kill_len, hsz]) g2 g3 (hsame.tr g1 hle) (Nat.le_trans hle w2))
                                have e9 : a_ren (a_up ad' h'.length q9) (.ref h'.length) = .ref q9 := by
                                  show Value.ref _ = _
                                  rw [a_up_n]
                                rw [e9] at k1
                                exact k1
                              · cases hh
                            · cases hh
                          · cases hh
                        · cases hh
                      · cases hr
                    · cases hr
                  · cases hr
            · cases hr
          · split at hr
            · rename_i pc' al' st' h' c' s' hq
              obtain ⟨w1, w2⟩ := a_stp_wf hq hw
              obtain ⟨m1, m2⟩ := a_go_mono f _ _ _ _ _ _ r hr
              exact a_stp_ok cx hi hq hw hl hsz hH hS (by omega) (by omega) (Nat.le_trans m1 hRc) (Nat.le_trans m2 hRs) (fun ad' H' locs' ls' g1 g2 g3 g4 g5 =>
                a_go_ok hmi IH cx hRf hRl hRc hRs K1 K2 K3 f pc' al' st' h' (mc + c') (ms + s') ad' ls' H' locs' hr w1 g4 (g5.trans hsz) g2 g3 (hsame.tr g1 hle) (Nat.le_trans hle w2))
            · split at hr
              · rename_i st' h' hq
                obtain ⟨w1, w2⟩ := a_acp_wf hq hw
                exact a_acp_ok cx.1 cx.2.2.1 (hl.1.trans hsz) cx.2.2.2.1 cx.2.2.2.2.2.1 cx.2.2.2.2.2.2.1.2.1 hH hS (a_ins_ok hi) hq (by omega) (by omega) (fun H' locs' g2 g3 =>
                  a_go_ok hmi IH cx hRf hRl hRc hRs K1 K2 K3 f (pc + len) al st' h' mc ms ad ls H' locs' hr w1 hl hsz g2 g3 hsame (Nat.le_trans hle w2))
              · cases hr
/-- every method's contract -/
theorem a_entry {as : List Value} {ad : Nat → Nat} {mi : Nat} (h1 : ∀ v ∈ as, v.category = 1) (h2 : as.length ≤ a_mxl mi) : ∃ ls : Array Slot, entryFrame m (as.map (a_ren ad)).toArray (a_mxl mi) = F0 m 0 ls [] ∧ a_L ad (a_args mi as) ls := by
  have hsl : lg_sl (as.map (a_ren ad)) = (as.map (a_ren ad)).map Slot.val := by
    unfold lg_sl
    have : ∀ vs : List Value, (∀ v ∈ vs, v.category = 1) → (vs.flatMap fun v => if v.category = 2 then [Slot.val v, .second] else [.val v]) = vs.map Slot.val := by
      intro vs
      induction vs with
      | nil => intro _; rfl
      | cons v t ih =>
        intro hv
        rw [List.flatMap_cons, ih (fun u hu => hv u (List.mem_cons_of_mem _ hu)), if_neg (by rw [hv v List.mem_cons_self]; decide)]
        rfl
    refine this _ (fun v hv => ?_)
    obtain ⟨u, hu, rfl⟩ := List.mem_map.mp hv
    rw [a_ren_cat]; exact h1 u hu
  have hlen : (lg_sl (as.map (a_ren ad))).length = as.length := by rw [hsl]; simp
  refine ⟨_, lg_entry_eq m (as.map (a_ren ad)) (a_mxl mi), ?_⟩
  obtain ⟨e1, e2, -⟩ := lv_entry (as.map (a_ren ad)) (n := a_mxl mi) (by rw [hlen]; exact h2)
  refine ⟨by rw [e1]; simp [a_args]; omega, e2, fun i v hi => ?_⟩
  have h3 := a_args_get hi
  have h4 := (List.getElem?_eq_some_iff.mp h3).1
  rw [hsl]
  simp only [List.getElem?_toArray]
  rw [List.getElem?_append_left (by simpa using h4)]
  simp [h3]
theorem a_cxOf {p : Program} {l : Launch} {e : Env} {s : State} {m : MethodId} {args : Array Value} {below : List Frame} {meth : Method} {c : Code} {s₁ : State} {mi : Nat} {rm : Room} {ws : List Cond} (hlt : l.stackTraces = false)
    (B' : BodyLoose p l (a_y mi) (headSpec ws rm) (a_codeB mi) (a_mxl mi) (a_rty mi) e s m args below meth c s₁) (hts : ∀ w ∈ a_wG, w.before args s = true) (hK : a_K D B s) (hB : B ≤ s.heap.size) (hxt : mi < 96 → c.exceptionTable.toList = tableOf (a_hh mi)) : a_Cx p l s m args meth c mi D B :=
  ⟨B'.exec, hlt, B'.bytes, findClass_of_methodNamed B'.named, fun q => by
    rw [(name_of_methodNamed B'.named B'.method).1]
    show a_nam mi = "<init>"
    simpa [a_ini] using q, hts, hK, hB, hxt⟩
theorem a_thr_at {mi pc : Nat} {i : Instr} {st : List Value} {k : Nat} (h : a_trw mi pc i st = some k) : ∃ r ∈ a_thr, r.1 = mi ∧ r.2.1 = pc ∧ r.2.2.2.2.2.2.2.1 = k ∧ a_cat st ≤ 8 := by
  unfold a_trw at h
  split at h
  · split at h
    · rename_i hc
      rw [Option.map_eq_some_iff] at h
      obtain ⟨r, h1, h2⟩ := h
      have h3 := List.find?_some h1
      simp only [Bool.and_eq_true, beq_iff_eq] at h3
      exact ⟨r, List.mem_of_find?_eq_some h1, h3.1, h3.2, h2, hc⟩
    · cases h
  · cases h
set_option maxHeartbeats 4000000 in
theorem a_throw_ok {p : Program} {l : Launch} {e : Env} {R : Room} {s : State} {m : MethodId} {args : Array Value} {below : List Frame} {meth : Method} {c : Code} {D : AD} {B : Nat} {mi pc : Nat} {i : Instr} {st : List Value} {k : Nat} {ad ad0 : Nat → Nat} {h0 : AH} {H : Heap} {locs : List Loc} {ls : Array Slot} {cells slots : Nat} {q : AR} (hmi : mi < 96) (cx : a_Cx p l s m args meth c mi D B) (hlocks : meth.locks = false)
    (ht : a_trw mi pc i st = some k) (hq : q.1 = .inr k) (hc : cells + 1 = q.2.2.1) (hs : slots + 6 = q.2.2.2) (hH : a_H D B ad q.2.1 H) (hS : va_S (fun x => B ≤ x) s.heap H locs) (hsame : a_same h0.length ad0 ad) (hsz : ls.size = c.maxLocals) (hRf : 5 < R.frames) (hRl : 90 ≤ R.locals) (hRc : q.2.2.1 ≤ R.cells) (hRs : q.2.2.2 ≤ R.slots) :
    W p l e R s m args below meth c H locs cells slots (vx_MQ below (a_Qc D B ad0 h0 q) (a_XC D B ad0 h0 q) args s q.2.2.1 q.2.2.2 (fun x => B ≤ x)) (F0 m pc ls (st.map (a_ren ad))) := by
  obtain ⟨hx, hlt, hb, hown, hini, hts, hK, hB, hxt⟩ := cx
  obtain ⟨r, hr, rfl, rfl, rfl, hcat⟩ := a_thr_at ht
  have h1 := List.all_eq_true.mp a_thr_ok r hr
  unfold a_thrB at h1
  simp only [Bool.and_eq_true, decide_eq_true_eq] at h1
  obtain ⟨hk, ho, hemp, d0, d3, dd⟩ := h1
  obtain ⟨t, ht5⟩ := Option.isSome_iff_exists.mp hk
  have ht6 := List.find?_some ht5
  have htin := List.mem_of_find?_eq_some ht5
  simp only [Bool.and_eq_true, beq_iff_eq] at ht6
  obtain ⟨t1, t2, t3, t4⟩ := ht6
  obtain ⟨b0, b1, b2, b5, b6⟩ := a_byt_ok t htin
  have hwt := a_thx_in htin
  have hwb := List.all_eq_true.mp (List.all_eq_true.mp a_thx_ok t htin)
  have hall : ∀ w ∈ a_thxW t, w.before args s = true := fun w hw => by
    have g := hwb w hw
    simp only [Bool.and_eq_true, Bool.or_eq_true] at g
    rcases g.2 with g2 | g2
    · exact hts w (a_wG_of (hwt w hw) g2)
    · have hn := hK.2.2.2.1.1 w (hwt w hw) g2
      cases w <;> first
        | exact va_Nw.use rfl hn
        | cases g2
  have hot : ∀ w ∈ a_thxW t, vx_ot w = true := fun w hw => by
    have g := hwb w hw
    simp only [Bool.and_eq_true] at g
    exact g.1
  obtain ⟨sa, hsa⟩ := hK.2.2.2.2.2.1 r hr
  have hout : ∀ x ∈ c.exceptionTable.toList, ∀ pc, covers x pc = false := by
    intro x hx2
    rw [hxt hmi] at hx2
    have : a_hnd r.1 = [] := List.isEmpty_iff.mp hemp
    unfold tableOf a_hh at hx2
    rw [this] at hx2
    cases hx2
  unfold a_thxW at hall hot
  rw [t1, t2, t3, t4] at hall hot
  rw [ho] at hown
  have hx' : ∀ t : State, s.vm.Alike t.vm → H.size ≤ t.heap.size → (∀ q : Nat, q < H.size → t.heap[q]? = H[q]?) → a_XC D B ad0 h0 q (a_exN r.2.2.2.2.2.2.2.1) s t := fun t _ g1 g2 =>
    ⟨_, ad, hq, rfl, hsame, hH.keep g2, ⟨Nat.le_trans hS.1 g1, fun x h1 h2 => by rw [g2 x (Nat.lt_of_lt_of_le h1 hS.1)]; exact hS.2.1 x h1 h2⟩⟩
  have hcr := a_cat_ren (ad := ad) st
  have hK7 := hK.2.2.2.2.2.2
  split at dd
  · simp only [Bool.and_eq_true, decide_eq_true_eq] at dd
    obtain ⟨e4, e6, e9⟩ := dd
    exact a_throw5 (w := 3) hx hb hlt b0 b1 b2 b5 hown (a_fit _ (by rw [← t4]; exact b6)) (hall _ List.mem_cons_self) (hall _ (List.mem_cons_of_mem _ List.mem_cons_self)) hsa (fun w hw => hall w (List.mem_cons_of_mem _ (List.mem_cons_of_mem _ hw))) hot hK7.1 hK7.2 hS hsz (a_ins_ok d0) (a_ins_ok d3) (Or.inr ⟨rfl, rfl⟩) (a_ins_ok e4) (a_ins_ok e6) (a_ins_ok e9) (fun x hx => hout x hx _) hRf (by rw [hcr]; omega) (by omega) (by omega) hlocks hx' hS.2.2 (Nat.le_of_eq hc) (Nat.le_of_eq hs)
  · simp only [Bool.and_eq_true, decide_eq_true_eq] at dd
    obtain ⟨e4, e6, e9⟩ := dd
    exact a_throw5 (w := 2) hx hb hlt b0 b1 b2 b5 hown (a_fit _ (by rw [← t4]; exact b6)) (hall _ List.mem_cons_self) (hall _ (List.mem_cons_of_mem _ List.mem_cons_self)) hsa (fun w hw => hall w (List.mem_cons_of_mem _ (List.mem_cons_of_mem _ hw))) hot hK7.1 hK7.2 hS hsz (a_ins_ok d0) (a_ins_ok d3) (Or.inl ⟨rfl, rfl⟩) (a_ins_ok e4) (a_ins_ok e6) (a_ins_ok e9) (fun x hx => hout x hx _) hRf (by rw [hcr]; omega) (by omega) (by omega) hlocks hx' hS.2.2 (Nat.le_of_eq hc) (Nat.le_of_eq hs)
set_option maxHeartbeats 4000000 in
theorem a_body {d F : Nat} (hlt : l.stackTraces = false) (IH : ∀ (mt : Nat) (as : List Value) (h : AH) (q : AR) (D : AD) (B : Nat) (ad : Nat → Nat), mt < 96 → a_run d F mt as h = some q → a_wh h → (∀ v, v ∈ as → a_ok h.length v) → vx_Met l (a_y mt) (a_cw mt :: a_wG) (a_rm d q) (a_Pc D B ad as h) (a_Qc D B ad h q) (a_XC D B ad h q) q.2.2.1 q.2.2.2 (fun x => B ≤ x))
    {mt : Nat} {as : List Value} {h : AH} {q : AR} {ad : Nat → Nat} (hmt : mt < 96) (h1 : ∀ v ∈ as, v.category = 1) (h2 : as.length ≤ a_mxl mt) (hr : a_go (a_run d F) mt F 0 (a_args mt as) [] h 0 0 = some q) (hw : a_wh h) (hv : ∀ v, v ∈ as → a_ok h.length v) {s₁ : State} {ws : List Cond}
    (B' : BodyLoose p l (a_y mt) (headSpec ws (a_rm (d + 1) q)) (a_codeB mt) (a_mxl mt) (a_rty mt) e s m args below meth c s₁) (hml : c.maxLocals = a_mxl mt) (hws : ∀ w ∈ a_wG, w ∈ ws) (hxt : c.exceptionTable.toList = tableOf (a_hh mt)) (hP : a_Pc D B ad as h args s) :
    W p l e (headSpec ws (a_rm (d + 1) q)).room s m args below meth c s.heap [] 0 0 (vx_MQ below (a_Qc D B ad h q) (a_XC D B ad h q) args s q.2.2.1 q.2.2.2 (fun x => B ≤ x)) (entryFrame m args (a_mxl mt)) := by
  obtain ⟨hA, hH, hK, hB⟩ := hP
  have hts : ∀ w ∈ a_wG, w.before args s = true := fun w hw => atoms_spec (ws := ws) B'.pre w (hws w hw)
  have cx := a_cxOf hlt B' hts hK hB (fun _ => hxt)
  obtain ⟨ls, e1, hl⟩ := a_entry (m := m) (ad := ad) (mi := mt) h1 h2
  have hR : (headSpec ws (a_rm (d + 1) q)).room = a_rm (d + 1) q := rfl
  rw [hR, hA, e1, ← hA]
  have hgo := a_go_ok (R := a_rm (d + 1) q) (e := e) (below := below) (Q := vx_MQ below (a_Qc D B ad h q) (a_XC D B ad h q) args s q.2.2.1 q.2.2.2 (fun x => B ≤ x)) (Nat.le_of_lt hmt) IH cx (r := q) (h0 := h) (ad0 := ad) (by show d + 6 ≤ d + 1 + 5; omega) (by show 120 + 60 * d ≤ 60 + 60 * (d + 1); omega) (Nat.le_refl _) (Nat.le_refl _) ?_ ?_ ?_ F 0 (a_args mt as) [] h 0 0 ad ls s.heap [] hr ⟨fun i v hi => hv v (List.mem_of_getElem? (a_args_get hi)), fun v hv => absurd hv List.not_mem_nil, hw⟩ hl (by rw [hml]; simp [a_args]; omega) hH va_S.rf a_same.rf (Nat.le_refl _)
  · exact hgo
  · intro pc i st v ad' H locs ls' hi hend hq hH' hS' hsame
    have hdg := a_ins_ok hi
    refine vx_ret ?_
    have hQ : ∀ t : State, t.heap = H → s.WarmedH t.vm → a_Qc D B ad h q args s (.returned (v.map (a_ren ad'))) t := fun t ht _ => ⟨v, ad', hq, rfl, hsame, by rw [ht]; exact hH', hS'.F ht⟩
    have hlk := B'.notSynchronized
    unfold a_end at hend
    split at hend
    · split at hend
      · rename_i hrt
        cases hend
        exact W.vret cx.1 cx.2.2.1 (B'.returns.trans hrt) hQ hS'.2.2 hdg hlk
      · cases hend
    · split at hend
      · rename_i ty hrt
        split at hend
        · rename_i hn
          cases hend
          exact W.zret cx.1 cx.2.2.1 (B'.returns.trans hrt) hn hQ hS'.2.2 hdg hlk
        · cases hend
      · cases hend
    · split at hend
      · rename_i hrt
        cases hend
        exact W.lret cx.1 cx.2.2.1 (B'.returns.trans hrt) hQ hS'.2.2 hdg hlk
      · cases hend
    · split at hend
      · rename_i hrt
        cases hend
        exact W.fret cx.1 cx.2.2.1 (B'.returns.trans hrt) hQ hS'.2.2 hdg hlk
      · cases hend
    · split at hend
      · rename_i hrt
        cases hend
        exact W.dret cx.1 cx.2.2.1 (B'.returns.trans hrt) hQ hS'.2.2 hdg hlk
      · cases hend
    · cases hend
  · intro pc i len st k ad' H locs ls' cells slots hi ht hq hc hs hH' hS' hsame hsz
    exact a_throw_ok hmt cx B'.notSynchronized ht hq hc hs hH' hS' hsame hsz (by show 5 < d + 1 + 5; omega) (by show 90 ≤ 60 + 60 * (d + 1); omega) (Nat.le_refl _) (Nat.le_refl _)
  · intro pc k rest ad' H locs ls' q9 ce hemp hq hH' hS' hsame hce hcv hcl
    refine vx_out (fun x hx => ?_) B'.notSynchronized hce hcv hcl (fun t ht _ => ⟨k, ad', hq, rfl, hsame, by rw [ht]; exact hH', hS'.F ht⟩) hS'.2.2 (Nat.le_refl _) (Nat.le_refl _)
    rw [hxt] at hx
    have : a_hnd mt = [] := List.isEmpty_iff.mp hemp
    unfold tableOf a_hh at hx
    rw [this] at hx
    cases hx
theorem a_met {l : Launch} (hlt : l.stackTraces = false) (F : Nat) : ∀ (d mt : Nat) (as : List Value) (h : AH) (q : AR) (D : AD) (B : Nat) (ad : Nat → Nat), mt < 96 → a_run d F mt as h = some q → a_wh h → (∀ v, v ∈ as → a_ok h.length v) → vx_Met l (a_y mt) (a_cw mt :: a_wG) (a_rm d q) (a_Pc D B ad as h) (a_Qc D B ad h q) (a_XC D B ad h q) q.2.2.1 q.2.2.2 (fun x => B ≤ x)
  | 0, mt, as, h, q, D, B, ad, hmt, hr, hw, hv => by cases hr
  | d + 1, mt, as, h, q, D, B, ad, hmt, hr, hw, hv => by
    obtain ⟨n1, n2, n3⟩ := a_run_arg hr
    rw [a_run] at hr
    split at hr
    · have IH := a_met hlt F d
      by_cases u7 : (a_hnd mt).isEmpty = true
      · have hcw : a_cw mt = .code (a_y mt) (a_codeB mt) (a_mxl mt) (a_rty mt) := if_pos u7
        refine vx_ofW (cc := a_codeB mt) (maxL := a_mxl mt) (ret := a_rty mt) (ws' := a_wG) (a_plain hmt).1 (by rw [hcw]) ?_
        intro p e s m args below meth c s₁ B' hml hno hP
        refine a_body hlt IH hmt n3 n2 hr hw hv B' hml (fun w hw => List.mem_cons_of_mem _ hw) ?_ hP
        have e1 : a_hnd mt = [] := List.isEmpty_iff.mp u7
        unfold tableOf a_hh
        rw [e1]
        exact List.eq_nil_iff_forall_not_mem.mpr hno
      · have hcw : a_cw mt = .codeWith (a_y mt) (a_codeB mt) (a_mxl mt) (a_rty mt) (a_hh mt) := if_neg u7
        refine vx_ofWH (cc := a_codeB mt) (maxL := a_mxl mt) (ret := a_rty mt) (hh := a_hh mt) (ws' := a_wG) (a_plain hmt).1 (by rw [hcw]) ?_
        intro p e s m args below meth c s₁ B' hml hP
        refine a_body hlt IH hmt n3 n2 hr hw hv B' hml (fun w hw => List.mem_cons_of_mem _ hw) ?_ hP
        refine vx_table (x := a_y mt) B' (bytes := a_codeB mt) (maxL' := a_mxl mt) (ret' := a_rty mt) ?_
        rw [← hcw]
        exact atoms_spec (ws := a_cw mt :: a_wG) B'.pre _ List.mem_cons_self
    · cases hr
end AG
