/-! part 20.mach -/
section
/-! What the abstract machine's run says, the machine does -/
def a_rm (d : Nat) (q : AR) : Room := { frames := d + 5, cells := q.2.2.1, slots := q.2.2.2, locals := 60 + 60 * d }
def a_Pc (D : AD) (B : Nat) (ad : Nat → Nat) (as : List Value) (h : AH) : Array Value → State → Prop := fun a U => a = (as.map (a_ren ad)).toArray ∧ a_H D B ad h U.heap ∧ a_K D B U ∧ B ≤ U.heap.size
def a_Qc (D : AD) (B : Nat) (ad : Nat → Nat) (h : AH) (q : AR) : Array Value → State → Outcome → State → Prop := fun _ st o t => ∃ (v : Option Value) (ad' : Nat → Nat), q.1 = .inl v ∧ o = .returned (v.map (a_ren ad')) ∧ a_same h.length ad ad' ∧ a_H D B ad' q.2.1 t.heap ∧ va_F (fun x => B ≤ x) st t
def a_XC (D : AD) (B : Nat) (ad : Nat → Nat) (h : AH) (q : AR) : String → State → State → Prop := fun E st t => ∃ (k : Nat) (ad' : Nat → Nat), q.1 = .inr k ∧ E = a_exN k ∧ a_same h.length ad ad' ∧ a_H D B ad' q.2.1 t.heap ∧ va_F (fun x => B ≤ x) st t
theorem a_Pc_blind {D : AD} {B : Nat} {ad : Nat → Nat} {as : List Value} {h : AH} : FrameBlind (a_Pc D B ad as h) := fun _ _ _ _ hp => ⟨hp.1, hp.2.1, hp.2.2.1.calling, hp.2.2.2⟩
theorem a_H.keep {D : AD} {B : Nat} {ad : Nat → Nat} {h : AH} {H H1 : Heap} (hH : a_H D B ad h H) (o : ∀ q, q < H.size → H1[q]? = H[q]?) : a_H D B ad h H1 := ⟨fun k x hk => by
  obtain ⟨cell, c1, c2⟩ := hH.1 k x hk
  exact ⟨cell, by rw [o _ (hH.lt (List.getElem?_eq_some_iff.mp hk).1)]; exact c1, c2⟩, hH.2.1, hH.2.2⟩
/-- a callee that doesn't throw here -/
theorem a_toMet {l : Launch} {y : MethodName} {ws : List Cond} {rm : Room} {Pc : Array Value → State → Prop} {D : AD} {B : Nat} {ad : Nat → Nat} {h : AH} {q : AR} {mc ms : Nat} {free : Addr → Prop} {v : Option Value} (hM : vx_Met l y ws rm Pc (a_Qc D B ad h q) (a_XC D B ad h q) mc ms free) (hq : q.1 = .inl v) : Met l y ws rm Pc (a_Qc D B ad h q) mc ms free := by
  intro p e ha hc hk s m args below hf happ hP hK
  obtain ⟨n, o, h1, h2, h3, h4⟩ := hM p e ha hc hk s m args below hf happ hP hK
  refine ⟨n, o, h1, h2, h3, ?_⟩
  rcases h4 with h4 | ⟨q9, -, E, ce, L, ⟨k, ad', g1, -⟩, -⟩
  · exact h4
  · rw [hq] at g1; cases g1
section AX
variable {p : Program} {l : Launch} {e : Env} {R : Room} {s : State} {m : MethodId} {args : Array Value} {below : List Frame} {meth : Method} {c : Code} {H : Heap} {locs : List Loc} {cells slots : Nat} {Q : State → Prop} {pc : Nat} {ls : Array Slot} {st0 rest : List Value} {D : AD} {B : Nat} {ad : Nat → Nat} {h : AH} {H0 : Heap} {A : Array Value} {q : AR} {mc ms : Nat}
theorem a_runK (hr : vx_Run p l e R s m args below meth c H locs cells slots mc ms (F0 m pc ls st0) rest (a_Qc D B ad h q A) (a_XC D B ad h q) (fun x => B ≤ x)) (hS : va_S (fun x => B ≤ x) H0 H locs)
    (k1 : ∀ (v : Option Value) (ad' : Nat → Nat) (H' : Heap) (locs' : List Loc), q.1 = .inl v → a_same h.length ad ad' → a_H D B ad' q.2.1 H' → va_S (fun x => B ≤ x) H0 H' locs' → W p l e R s m args below meth c H' locs' (cells + mc) (slots + ms) Q (F0 m (pc + 3) ls ((v.map (a_ren ad')).toList ++ rest)))
    (k2 : ∀ (k : Nat) (ad' : Nat → Nat) (H' : Heap) (locs' : List Loc) (q9 : Nat) (ce : Cell), q.1 = .inr k → a_same h.length ad ad' → a_H D B ad' q.2.1 H' → va_S (fun x => B ≤ x) H0 H' locs' → H'[q9]? = some ce → ce.vm = .none → s.vm.findClass (a_exN k) = some ce.cls → vx_W p l e R s m args below meth c H' locs' (cells + mc) (slots + ms) Q (F0 m pc ls rest) q9) : W p l e R s m args below meth c H locs cells slots Q (F0 m pc ls st0) := by
  intro T hT X
  rcases hr T hT X with ⟨v, st₀, t, T', L, h0, X', hL, e1, e2, ⟨v', ad', g1, g2, g3, g4, g5⟩, st⟩ | ⟨q9, st₀, t, T', L, E, ce, h0, X', hL, e1, e2, ⟨k, ad', g1, g2, g3, g4, g5⟩, hce, hcv, hcl, st⟩
  · obtain ⟨-, -, z3⟩ := vx_keep h0 e1 hS (fun q _ hq => hq) (fun q hq => hq) hL g5
    have hv : v = v'.map (a_ren ad') := by cases g2; rfl
    subst hv
    obtain ⟨t2, a1, b1⟩ := k1 v' ad' T'.heap (locs ++ L) g1 g3 (by rw [e1]; exact g4) z3 T' rfl X'
    exact ⟨t2, st t2 a1, b1⟩
  · obtain ⟨-, -, z3⟩ := vx_keep h0 e1 hS (fun q _ hq => hq) (fun q hq => hq) hL g5
    subst g2
    obtain ⟨t2, a1, b1⟩ := k2 k ad' T'.heap (locs ++ L) q9 ce g1 g3 (by rw [e1]; exact g4) z3 (by rw [e1]; exact hce) hcv hcl T' rfl X'
    exact ⟨t2, st.trans a1, b1⟩
theorem a_runM (hr : va_Run p l e R s m args below meth c H locs cells slots mc ms (F0 m pc ls st0) rest (a_Qc D B ad h q A) (fun x => B ≤ x)) (hS : va_S (fun x => B ≤ x) H0 H locs)
    (k1 : ∀ (v : Option Value) (ad' : Nat → Nat) (H' : Heap) (locs' : List Loc), q.1 = .inl v → a_same h.length ad ad' → a_H D B ad' q.2.1 H' → va_S (fun x => B ≤ x) H0 H' locs' → W p l e R s m args below meth c H' locs' (cells + mc) (slots + ms) Q (F0 m (pc + 3) ls ((v.map (a_ren ad')).toList ++ rest))) : W p l e R s m args below meth c H locs cells slots Q (F0 m pc ls st0) := by
  intro T hT X
  obtain ⟨v, st₀, t, T', L, h0, X', hL, e1, e2, ⟨v', ad', g1, g2, g3, g4, g5⟩, st⟩ := hr T hT X
  obtain ⟨-, -, z3⟩ := vx_keep h0 e1 hS (fun q _ hq => hq) (fun q hq => hq) hL g5
  have hv : v = v'.map (a_ren ad') := by cases g2; rfl
  subst hv
  obtain ⟨t2, a1, b1⟩ := k1 v' ad' T'.heap (locs ++ L) g1 g3 (by rw [e1]; exact g4) z3 T' rfl X'
  exact ⟨t2, st t2 a1, b1⟩
/-- what holds of a method's body -/
def a_Cx (p : Program) (l : Launch) (s : State) (m : MethodId) (args : Array Value) (meth : Method) (c : Code) (mi : Nat) (D : AD) (B : Nat) : Prop :=
  p.tables.exec = Jvm.exec ∧ l.stackTraces = false ∧ c.code = a_codeB mi ∧ s.vm.findClass (a_cN (a_own mi)) = some m.cls ∧ (a_ini mi = true → meth.name = "<init>") ∧ (∀ w ∈ a_wG, w.before args s = true) ∧ a_K D B s ∧ B ≤ s.heap.size ∧ (mi < 300 → c.exceptionTable.toList = tableOf (a_hh mi))
theorem a_st6_ok {cc : ByteArray} (hx : p.tables.exec = Jvm.exec) (hb : c.code = cc) {own : Nat} (hown : s.vm.findClass (a_cN own) = some m.cls) (hts : ∀ w ∈ a_wG, w.before args s = true) (hKN : a_KN D s) (hB : B ≤ H0.size) (hH : a_H D B ad h H) (hS : va_S (fun x => B ≤ x) H0 H locs) {i : Instr} {al : AL} {st : List Value} {r : AS} (hdg : decode cc pc = .ok (i, a_len i)) (hr : a_st6 own i pc al st h = some r) (hw : a_wf al st h) (hRc : cells + r.2.2.2.2.1 ≤ R.cells) (hRs : slots + r.2.2.2.2.2 ≤ R.slots)
    (kk : ∀ (ad' : Nat → Nat) (H' : Heap) (locs' : List Loc), a_same h.length ad ad' → a_H D B ad' r.2.2.2.1 H' → va_S (fun x => B ≤ x) H0 H' locs' → r.2.1 = al → W p l e R s m args below meth c H' locs' (cells + r.2.2.2.2.1) (slots + r.2.2.2.2.2) Q (F0 m r.1 ls (r.2.2.1.map (a_ren ad')))) : W p l e R s m args below meth c H locs cells slots Q (F0 m pc ls (st.map (a_ren ad))) := by
  unfold a_st6 at hr
  split at hr
  · rename_i idx k n st2
    split at hr
    · rename_i t hmt
      split at hr
      · rename_i hc
        cases hr
        refine a_multi_ok hx hb hown hts hKN hB hH hS hw.2.2 [n, k] hdg hmt hc.1 (fun x hx => by
          simp only [List.mem_cons, List.not_mem_nil, or_false] at hx
          rcases hx with rfl | rfl
          · exact hc.2.1
          · exact hc.2.2) (Or.inl ⟨rfl, n, k, rfl⟩) hRc hRs (fun ad' H' locs' g1 g2 g3 => ?_)
        have k1 := kk ad' H' locs' g1 g2 g3 rfl
        rw [List.map_cons, a_map_same g1 hw.tl.tl.2.1] at k1
        exact k1
      · cases hr
    · cases hr
  · rename_i idx k o n st2
    split at hr
    · rename_i t hmt
      split at hr
      · rename_i hc
        cases hr
        refine a_multi_ok hx hb hown hts hKN hB hH hS hw.2.2 [n, o, k] hdg hmt hc.1 (fun x hx => by
          simp only [List.mem_cons, List.not_mem_nil, or_false] at hx
          rcases hx with rfl | rfl | rfl
          · exact hc.2.1
          · exact hc.2.2.1
          · exact hc.2.2.2) (Or.inr ⟨rfl, n, o, k, rfl⟩) hRc hRs (fun ad' H' locs' g1 g2 g3 => ?_)
        have k1 := kk ad' H' locs' g1 g2 g3 rfl
        rw [List.map_cons, a_map_same g1 hw.tl.tl.tl.2.1] at k1
        exact k1
      · cases hr
    · cases hr
  · cases hr
theorem a_stp_ok {mi : Nat} (cx : a_Cx p l s m args meth c mi D B) {i : Instr} {len : Nat} {al : AL} {st : List Value} {r : AS} (hi : a_ins mi pc = some (i, len)) (hr : a_stp (a_own mi) (a_ini mi) i len pc al st h = some r) (hw : a_wf al st h) (hl : a_L ad al ls) (hsz : al.length = c.maxLocals) (hH : a_H D B ad h H) (hS : va_S (fun x => B ≤ x) s.heap H locs)
    (hRf : 1 ≤ R.frames) (hRl : 100 ≤ R.locals) (hRc : cells + r.2.2.2.2.1 ≤ R.cells) (hRs : slots + r.2.2.2.2.2 ≤ R.slots)
    (kk : ∀ (ad' : Nat → Nat) (H' : Heap) (locs' : List Loc) (ls' : Array Slot), a_same h.length ad ad' → a_H D B ad' r.2.2.2.1 H' → va_S (fun x => B ≤ x) s.heap H' locs' → a_L ad' r.2.1 ls' → r.2.1.length = al.length → W p l e R s m args below meth c H' locs' (cells + r.2.2.2.2.1) (slots + r.2.2.2.2.2) Q (F0 m r.1 ls' (r.2.2.1.map (a_ren ad')))) : W p l e R s m args below meth c H locs cells slots Q (F0 m pc ls (st.map (a_ren ad))) := by
  obtain ⟨hx, hlt, hb, hown, hini, hts, hK, hB, hxt⟩ := cx
  obtain ⟨hKC, hKA, hKN, hKW, -⟩ := hK
  have hdg := a_ins_ok hi
  have hls : ls.size = c.maxLocals := hl.1.trans hsz
  obtain ⟨pc', al', st', h', c', s'⟩ := r
  dsimp only at kk hRc hRs
  unfold a_stp at hr
  split at hr
  · rename_i r' h1
    cases hr
    unfold a_sw at h1
    split at h1
    · split at h1
      · rename_i hc
        rw [Option.map_eq_some_iff] at h1
        obtain ⟨t, h2, h3⟩ := h1
        cases h3
        exact lv_tableOut hx hb hdg hc (a_tgt_ok h2) (kk ad H locs ls a_same.rf hH hS hl rfl)
      · rename_i hc
        rw [Option.bind_eq_some_iff] at h1
        obtain ⟨off, h0, h1⟩ := h1
        rw [Option.map_eq_some_iff] at h1
        obtain ⟨t, h2, h3⟩ := h1
        cases h3
        exact lv_tableIn hx hb hdg (fun q => hc (Or.inl q)) (fun q => hc (Or.inr q)) h0 (a_tgt_ok h2) (kk ad H locs ls a_same.rf hH hS hl rfl)
    · cases h1
  · split at hr
    · rename_i hlen
      subst hlen
      split at hr
      · rename_i h1
        cases hr
        refine a_st1_ok hx hb hdg h1 hl hH.2.1 (fun e1 e2 ls' hl' => ?_)
        have e3 : h' = h ∧ c' = 0 ∧ s' = 0 := by cases e1; exact ⟨rfl, rfl, rfl⟩
        obtain ⟨rfl, rfl, rfl⟩ := e3
        exact kk ad H locs ls' a_same.rf hH hS hl' e2
      · split at hr
        · rename_i h1
          cases hr
          refine a_st4_ok hx hb hdg hown hini hts hKC hKA hH hS h1 (fun H' locs' g1 g2 g3 e1 e2 => ?_)
          have e3 : c' = 0 ∧ s' = 0 := by cases e1; exact ⟨rfl, rfl⟩
          obtain ⟨rfl, rfl⟩ := e3
          have e4 : al' = al := e2
          subst e4
          exact kk ad H' locs' ls a_same.rf g1 g2 hl rfl
        · split at hr
          · rename_i h1
            cases hr
            refine a_st2_ok hx hb hdg h1 (fun e1 e2 => ?_)
            have e3 : h' = h ∧ c' = 0 ∧ s' = 0 := by cases e1; exact ⟨rfl, rfl, rfl⟩
            obtain ⟨rfl, rfl, rfl⟩ := e3
            have e4 : al' = al := e2
            subst e4
            exact kk ad H locs ls a_same.rf hH hS hl rfl
          · split at hr
            · rename_i h1
              cases hr
              refine a_st3_ok hx hb hdg hKA hH h1 (fun e1 e2 => ?_)
              have e3 : h' = h ∧ c' = 0 ∧ s' = 0 := by cases e1; exact ⟨rfl, rfl, rfl⟩
              obtain ⟨rfl, rfl, rfl⟩ := e3
              have e4 : al' = al := e2
              subst e4
              exact kk ad H locs ls a_same.rf hH hS hl rfl
            · split at hr
              · rename_i h1
                cases hr
                refine a_st5_ok hx hb hdg hown hls hts hKC hKA hKN hKW hB hH hS hw h1 hRf hRl hRc hRs (fun ad' H' locs' g1 g2 g3 g4 e2 => ?_)
                have e4 : al' = al := e2
                subst e4
                exact kk ad' H' locs' ls g1 g2 g3 (hl.same g1 hw.1) rfl
              · refine a_st6_ok hx hb hown hts hKN hB hH hS hdg hr hw hRc hRs (fun ad' H' locs' g1 g2 g3 e2 => ?_)
                have e4 : al' = al := e2
                subst e4
                exact kk ad' H' locs' ls g1 g2 g3 (hl.same g1 hw.1) rfl
    · cases hr
end AX
end
/-! part 21.call -/
section
/-! Calls -/
theorem a_run_arg {d F mt : Nat} {as : List Value} {h : AH} {q : AR} (hr : a_run d F mt as h = some q) : as.length = a_nrg mt ∧ as.length ≤ a_mxl mt ∧ ∀ v ∈ as, v.category = 1 := by
  cases d with
  | zero => cases hr
  | succ d =>
    rw [a_run] at hr
    split at hr
    · rename_i hc
      refine ⟨hc.1, hc.2.1, fun v hv => ?_⟩
      have := List.all_eq_true.mp hc.2.2 v hv
      simpa using this
    · cases hr
theorem a_inv_in {own idx : Nat} {P : AI → Bool} {e : AI} (h : (a_of a_inv own).find? (fun e => e.1 == idx && P e) = some e) : a_invB own e = true ∧ e.1 = idx ∧ P e = true := by
  have h1 := a_all_of a_inv_ok (List.mem_of_find?_eq_some h)
  have h2 := List.find?_some h
  simp only [Bool.and_eq_true, beq_iff_eq] at h2
  exact ⟨h1, h2.1, h2.2⟩
theorem a_invB_mt {own : Nat} {e : AI} (h : a_invB own e = true) : e.2.2.1 < 300 ∧ Cond.initialized (a_y e.2.2.1).cls ∈ a_wG := by
  unfold a_invB at h
  rw [Bool.and_eq_true, Bool.and_eq_true, decide_eq_true_eq] at h
  exact ⟨h.1, a_at_in h.2.1⟩
theorem a_inv0 {own : Nat} {e : AI} (h : a_invB own e = true) (hk : e.2.1 = 0) : Cond.methodLink (a_cN own) e.1 (a_y e.2.2.1) ∈ a_wG ∧ Cond.instanceMethod (a_y e.2.2.1) ∈ a_wG ∧ Cond.selects (a_y e.2.2.1).cls (a_y e.2.2.1) (a_y e.2.2.1) ∈ a_wG ∧ (a_np e.2.2.1).map (· + 1) = some (a_nrg e.2.2.1) ∧ (a_hnd e.2.2.1).isEmpty = true ∧ a_own e.2.2.1 < 13 := by
  unfold a_invB at h
  rw [hk] at h
  simp only [Bool.and_eq_true, decide_eq_true_eq] at h
  obtain ⟨-, -, h1, h2, h3, h4, h5, h6⟩ := h
  exact ⟨a_at_in h1, a_at_in h2, a_at_in h3, h4, h5, h6⟩
theorem a_inv1 {own : Nat} {e : AI} (h : a_invB own e = true) (hk : e.2.1 = 1) : Cond.methodLink (a_cN own) e.1 (a_y e.2.2.1) ∈ a_wG ∧ Cond.static (a_y e.2.2.1) ∈ a_wG ∧ a_np e.2.2.1 = some (a_nrg e.2.2.1) := by
  unfold a_invB at h
  rw [hk] at h
  simp only [Bool.and_eq_true, decide_eq_true_eq] at h
  obtain ⟨-, -, h1, h2, h3⟩ := h
  exact ⟨a_at_in h1, a_at_in h2, h3⟩
theorem a_inv2 {own : Nat} {e : AI} (h : a_invB own e = true) (hk : e.2.1 = 2) : Cond.methodLink (a_cN own) e.1 (a_y e.2.2.1) ∈ a_wG ∧ Cond.instanceMethod (a_y e.2.2.1) ∈ a_wG ∧ a_nam e.2.2.1 = "<init>" ∧ a_rty e.2.2.1 = none ∧ (a_np e.2.2.1).map (· + 1) = some (a_nrg e.2.2.1) ∧ (a_hnd e.2.2.1).isEmpty = true := by
  unfold a_invB at h
  rw [hk] at h
  simp only [Bool.and_eq_true, decide_eq_true_eq] at h
  obtain ⟨-, -, h1, h2, h3, h4, h5, h6⟩ := h
  exact ⟨a_at_in h1, a_at_in h2, h3, h4, h5, h6⟩
theorem a_inv3 {own : Nat} {e : AI} (h : a_invB own e = true) (hk : e.2.1 = 3) : Cond.methodLinkNest (a_cN own) e.1 (a_y e.2.2.1) "Juryreel" ∈ lw_tbl ∧ Cond.instanceMethod (a_y e.2.2.1) ∈ a_wG ∧ a_nam e.2.2.1 = "<init>" ∧ a_rty e.2.2.1 = none ∧ (a_np e.2.2.1).map (· + 1) = some (a_nrg e.2.2.1) ∧ (a_hnd e.2.2.1).isEmpty = true := by
  unfold a_invB at h
  rw [hk] at h
  simp only [Bool.and_eq_true, decide_eq_true_eq] at h
  obtain ⟨-, -, h1, h2, h3, h4, h5, h6⟩ := h
  exact ⟨a_chs_in (List.mem_of_getElem? h1), a_at_in h2, h3, h4, h5, h6⟩
theorem a_goodM {mt : Nat} (h : mt < 300) : GoodIn a_wG (a_cw mt :: a_wG) := fun w hw => by
  rcases List.mem_cons.mp hw with rfl | hw
  · exact a_wG_good _ (a_cw_in h)
  · exact a_wG_good w hw
theorem a_sig {mt n : Nat} (hn : a_np mt = some n) : ∀ sig, parseMethodDescriptor (a_y mt).desc = some sig → n = sig.parameters.length := by
  intro sig hs
  unfold a_np at hn
  have hs' : parseMethodDescriptor (a_dsc mt) = some sig := hs
  rw [hs'] at hn
  exact (Option.some.inj hn).symm
theorem a_sig1 {mt n : Nat} (hn : (a_np mt).map (· + 1) = some (a_nrg mt)) (h : n + 1 = a_nrg mt) : a_np mt = some n := by
  cases hq : a_np mt with
  | none => rw [hq] at hn; cases hn
  | some k =>
    rw [hq] at hn
    have : k + 1 = a_nrg mt := Option.some.inj hn
    congr 1
    omega
section AC
variable {p : Program} {l : Launch} {e : Env} {R : Room} {s : State} {m : MethodId} {args : Array Value} {below : List Frame} {meth : Method} {c : Code} {H : Heap} {locs : List Loc} {cells slots : Nat} {Q : State → Prop} {pc : Nat} {ls : Array Slot} {D : AD} {B : Nat} {ad : Nat → Nat} {h : AH}
theorem a_pre {as : List Value} (hK : a_K D B s) (hB : B ≤ s.heap.size) (hH : a_H D B ad h H) (hS : va_S (fun x => B ≤ x) s.heap H locs) : ∀ U : State, U.heap = H → s.WarmedH U.vm → a_Pc D B ad as h (as.map (a_ren ad)).toArray U := by
  intro U hU hW
  refine ⟨rfl, by rw [hU]; exact hH, a_K.go hW (fun q h1 h2 => by rw [hU]; exact hS.2.1 q h1 h2) hK, by rw [hU]; exact Nat.le_trans hB hS.1⟩
set_option maxHeartbeats 2000000 in
theorem a_callR {d F mi : Nat} (IH : ∀ (mt : Nat) (as : List Value) (h : AH) (q : AR) (D : AD) (B : Nat) (ad : Nat → Nat), mt < 300 → a_run d F mt as h = some q → a_wh h → (∀ v, v ∈ as → a_ok h.length v) → vx_Met l (a_y mt) (a_cw mt :: a_wG) (a_rm d q) (a_Pc D B ad as h) (a_Qc D B ad h q) (a_XC D B ad h q) q.2.2.1 q.2.2.2 (fun x => B ≤ x))
    (cx : a_Cx p l s m args meth c mi D B) {i : Instr} {len : Nat} {st as rest : List Value} {mt : Nat} {q : AR} (hi : a_ins mi pc = some (i, len)) (hc : a_call (a_own mi) i st h = some (mt, as, rest)) (hq : a_run d F mt as h = some q) (hsp : a_isSp i = true → ∃ v, q.1 = .inl v) (hw : a_wh h) (hok : ∀ v, v ∈ st → a_ok h.length v) (hsz : ls.size = c.maxLocals) (hH : a_H D B ad h H) (hS : va_S (fun x => B ≤ x) s.heap H locs)
    (hRf : d + 6 ≤ R.frames) (hRl : 120 + 60 * d ≤ R.locals) (hRc : cells + q.2.2.1 ≤ R.cells) (hRs : slots + q.2.2.2 ≤ R.slots)
    (k1 : ∀ (v : Option Value) (ad' : Nat → Nat) (H' : Heap) (locs' : List Loc), q.1 = .inl v → a_same h.length ad ad' → a_H D B ad' q.2.1 H' → va_S (fun x => B ≤ x) s.heap H' locs' → W p l e R s m args below meth c H' locs' (cells + q.2.2.1) (slots + q.2.2.2) Q (F0 m (pc + 3) ls ((v.map (a_ren ad')).toList ++ rest.map (a_ren ad))))
    (k2 : ∀ (k : Nat) (ad' : Nat → Nat) (H' : Heap) (locs' : List Loc) (q9 : Nat) (ce : Cell), q.1 = .inr k → a_same h.length ad ad' → a_H D B ad' q.2.1 H' → va_S (fun x => B ≤ x) s.heap H' locs' → H'[q9]? = some ce → ce.vm = .none → s.vm.findClass (a_exN k) = some ce.cls → vx_W p l e R s m args below meth c H' locs' (cells + q.2.2.1) (slots + q.2.2.2) Q (F0 m pc ls (rest.map (a_ren ad))) q9) : W p l e R s m args below meth c H locs cells slots Q (F0 m pc ls (st.map (a_ren ad))) := by
  obtain ⟨hx, hlt, hb, hown, hini, hts, hK, hB, hxt⟩ := cx
  have hdg := a_ins_ok hi
  obtain ⟨i1, i2, i3⟩ := a_call_in hc
  obtain ⟨n1, n2, n3⟩ := a_run_arg hq
  have hM := fun (hm : mt < 300) => IH mt as h q D B ad hm hq hw (fun v hv => hok v (i1 v hv))
  have hfr : (a_rm d q).frames + 1 ≤ R.frames := by show d + 5 + 1 ≤ _; omega
  have hlo : mt < 300 → 8 + (a_mxl mt + 11) + (a_rm d q).locals ≤ R.locals := fun hm => by
    have := (a_plain hm).2.2
    show 8 + (a_mxl mt + 11) + (60 + 60 * d) ≤ _
    omega
  have S : CallFix p m c (a_codeB mi) c.maxLocals s args a_wG (a_cN (a_own mi)) := ⟨hx, hb, rfl, hown, hts⟩
  have hcat := fun (h8 : a_cat rest ≤ 8) => (show 2 * (F0 m pc ls (st.map (a_ren ad))).monitorRoom + ((rest.map (a_ren ad)).map fun v => v.category).sum ≤ 8 by rw [a_cat_ren]; show 2 * 0 + _ ≤ 8; omega)
  have hpre := fun (as : List Value) => a_pre (as := as) hK hB hH hS
  have stk : ∀ {a : Nat} {as' : List Value}, as = .ref a :: as' → st.map (a_ren ad) = (as'.map (a_ren ad)).reverse ++ .ref (ad a) :: rest.map (a_ren ad) := by
    intro a as' ha
    rw [i3, ha, List.map_append, List.reverse_cons, List.map_append, List.map_reverse, List.append_assoc]
    rfl
  unfold a_call at hc
  split at hc
  · -- virtual
    rename_i idx
    obtain rfl : len = 3 := a_ins_len hi rfl
    split at hc
    · rename_i ev hf
      obtain ⟨v1, v2, v3⟩ := a_inv_in (P := fun e => e.2.1 == 0) hf
      have v4 : ev.2.1 = 0 := by simpa using v3
      obtain ⟨u1, u2⟩ := a_invB_mt v1
      obtain ⟨u3, u4, u5, u6, u7, u8⟩ := a_inv0 v1 v4
      rw [v2] at u3
      split at hc
      · rename_i hlen
        split at hc
        · rename_i a as' hrev
          split at hc
          · rename_i t vs ha
            split at hc
            · rename_i ht
              cases hc
              obtain ⟨cell, c1, c2⟩ := hH.1 a _ ha
              obtain ⟨b1, b2, -, -⟩ := c2.obj (show t < 19 by omega)
              have hcw : a_cw ev.2.2.1 = .code (a_y ev.2.2.1) (a_codeB ev.2.2.1) (a_mxl ev.2.2.1) (a_rty ev.2.2.1) := if_pos u7
              have hnp := a_sig1 u6 (n := as'.length) n1
              refine a_runK (vx_runV S (hM u1) ⟨⟨rfl, rfl, hfr, hlo u1, pay_in hts (a_goodM u1), by rw [← hcw]; exact List.mem_cons_self, by rw [← hcw]; exact hts _ (a_cw_in u1), hts _ u2, (a_plain u1).2.1, a_sig hnp, hts _ u3⟩, hts _ u4, hts _ u5⟩
                (b := ad a) (As := as'.map (a_ren ad)) (rest := (st.drop (a_nrg ev.2.2.1)).map (a_ren ad)) ⟨a_Pc_blind, ⟨cell, c1, by rw [b2]; rfl, ?_⟩, hpre (.ref a :: as')⟩ rfl (by rw [List.length_map]) hsz (stk rfl) (hcat hlen.2) hdg ⟨hRc, hRs⟩) hS k1 k2
              rw [b1, ht]
              exact (hK.1 _ u8).2.1
            · cases hc
          · cases hc
        · cases hc
      · cases hc
    · cases hc
  · -- static
    rename_i idx
    obtain rfl : len = 3 := a_ins_len hi rfl
    split at hc
    · rename_i ev hf
      obtain ⟨v1, v2, v3⟩ := a_inv_in (P := fun e => e.2.1 == 1) hf
      have v4 : ev.2.1 = 1 := by simpa using v3
      obtain ⟨u1, u2⟩ := a_invB_mt v1
      obtain ⟨u3, u4, u5⟩ := a_inv1 v1 v4
      rw [v2] at u3
      split at hc
      · rename_i hlen
        cases hc
        have hst : st.map (a_ren ad) = (((st.take (a_nrg ev.2.2.1)).reverse).map (a_ren ad)).reverse ++ (st.drop (a_nrg ev.2.2.1)).map (a_ren ad) := by
          rw [← List.map_reverse, List.reverse_reverse, ← List.map_append, List.take_append_drop]
        have hsig := a_sig (n := a_nrg ev.2.2.1) u5
        by_cases u7 : (a_hnd ev.2.2.1).isEmpty = true
        · have hcw : a_cw ev.2.2.1 = .code (a_y ev.2.2.1) (a_codeB ev.2.2.1) (a_mxl ev.2.2.1) (a_rty ev.2.2.1) := if_pos u7
          exact a_runK (vx_runS S (hM u1) ⟨⟨rfl, rfl, hfr, hlo u1, pay_in hts (a_goodM u1), by rw [← hcw]; exact List.mem_cons_self, by rw [← hcw]; exact hts _ (a_cw_in u1), hts _ u2, (a_plain u1).2.1, hsig, hts _ u3⟩, hts _ u4⟩
            (As := ((st.take (a_nrg ev.2.2.1)).reverse).map (a_ren ad)) (rest := (st.drop (a_nrg ev.2.2.1)).map (a_ren ad)) ⟨a_Pc_blind, hpre _⟩ rfl (by rw [List.length_map]; exact n1) hsz hst (hcat hlen.2) hdg ⟨hRc, hRs⟩) hS k1 k2
        · have hcw : a_cw ev.2.2.1 = .codeWith (a_y ev.2.2.1) (a_codeB ev.2.2.1) (a_mxl ev.2.2.1) (a_rty ev.2.2.1) (a_hh ev.2.2.1) := if_neg u7
          exact a_runK (vx_runSX S (hM u1) ⟨⟨rfl, rfl, hfr, hlo u1, pay_in hts (a_goodM u1), by rw [← hcw]; exact List.mem_cons_self⟩, by rw [← hcw]; exact hts _ (a_cw_in u1), hts _ u2, (a_plain u1).2.1, hsig, hts _ u3, hts _ u4⟩
            (As := ((st.take (a_nrg ev.2.2.1)).reverse).map (a_ren ad)) (rest := (st.drop (a_nrg ev.2.2.1)).map (a_ren ad)) ⟨a_Pc_blind, hpre _⟩ rfl (by rw [List.length_map]; exact n1) hsz hst (hcat hlen.2) hdg ⟨hRc, hRs⟩) hS k1 k2
      · cases hc
    · cases hc
  · -- special
    rename_i idx
    obtain rfl : len = 3 := a_ins_len hi rfl
    obtain ⟨v, hv⟩ := hsp rfl
    split at hc
    · rename_i ev hf
      obtain ⟨v1, v2, v3⟩ := a_inv_in (P := fun e => e.2.1 == 2 || e.2.1 == 3) hf
      obtain ⟨u1, u2⟩ := a_invB_mt v1
      split at hc
      · rename_i hlen
        split at hc
        · rename_i a as' hrev
          cases hc
          rw [Bool.or_eq_true, beq_iff_eq, beq_iff_eq] at v3
          rcases v3 with v4 | v4
          · obtain ⟨u3, u4, u5, u6, u7, u8⟩ := a_inv2 v1 v4
            rw [v2] at u3
            have hcw : a_cw ev.2.2.1 = .code (a_y ev.2.2.1) (a_codeB ev.2.2.1) (a_mxl ev.2.2.1) none := by rw [← u6]; exact if_pos u8
            have hnp := a_sig1 u7 (n := as'.length) n1
            exact a_runM (va_runI S (a_toMet (hM u1) hv) ⟨⟨rfl, rfl, hfr, hlo u1, pay_in hts (a_goodM u1), by rw [← hcw]; exact List.mem_cons_self, by rw [← hcw]; exact hts _ (a_cw_in u1), hts _ u2, (a_plain u1).2.1, a_sig hnp, hts _ u3⟩, u5, hts _ u4⟩
                (b := ad a) (As := as'.map (a_ren ad)) (rest := (st.drop (a_nrg ev.2.2.1)).map (a_ren ad)) ⟨a_Pc_blind, hpre (.ref a :: as')⟩ rfl (by rw [List.length_map]) hsz (stk rfl) (hcat hlen.2) hdg ⟨hRc, hRs⟩) hS k1
          · obtain ⟨u3, u4, u5, u6, u7, u8⟩ := a_inv3 v1 v4
            rw [v2] at u3
            have hcw : a_cw ev.2.2.1 = .code (a_y ev.2.2.1) (a_codeB ev.2.2.1) (a_mxl ev.2.2.1) none := by rw [← u6]; exact if_pos u8
            have hnp := a_sig1 u7 (n := as'.length) n1
            exact a_runM (va_runIN S (a_toMet (hM u1) hv) ⟨⟨⟨rfl, rfl, hfr, hlo u1, pay_in hts (a_goodM u1), by rw [← hcw]; exact List.mem_cons_self⟩, by rw [← hcw]; exact hts _ (a_cw_in u1), hts _ u2, (a_plain u1).2.1, a_sig hnp, va_Nw.use rfl (hK.2.2.2.1.1 _ u3 rfl)⟩, u5, hts _ u4⟩
                (b := ad a) (As := as'.map (a_ren ad)) (rest := (st.drop (a_nrg ev.2.2.1)).map (a_ren ad)) ⟨a_Pc_blind, hpre (.ref a :: as')⟩ rfl (by rw [List.length_map]) hsz (stk rfl) (hcat hlen.2) hdg ⟨hRc, hRs⟩) hS k1
        · cases hc
      · cases hc
    · cases hc
  · cases hc
end AC
end
/-! part 22.go -/
section
/-! A body's walk, and every method's contract -/
theorem a_ncs_in0 : ∀ i, i < 6 → ∀ j, j < 6 → i = j ∨ (a_exN i, a_exN j) ∈ a_ncs := by decide +kernel
theorem a_ncs_in : ∀ i, i < 6 → ∀ j, j < 6 → i ≠ j → (a_exN i, a_exN j) ∈ a_ncs := fun i hi j hj h => (a_ncs_in0 i hi j hj).resolve_left h
theorem a_cast_in : ∀ i, i < 6 → Cond.castable (a_exN i) (a_exN i) ∈ lw_tbl := by decide +kernel
theorem a_hnd_law : a_hnd 300 = [] := by decide +kernel
theorem a_L.drop {ad ad' : Nat → Nat} {al : AL} {ls : Array Slot} {n k : Nat} (hs : a_same k ad ad') (hok : ∀ (i : Nat) (v : Value), a_get al i = some v → a_ok k v) (hl : a_L ad' (a_set1 al n (.ref k)) ls) : a_L ad (a_drop al n) ls := by
  refine ⟨by rw [hl.1]; simp [a_set1, a_drop, a_kill_len], hl.2.1, fun i v hi => ?_⟩
  have hg := a_drop_get hi
  have h1 : a_get (a_set1 al n (.ref k)) i = some v := by
    unfold a_drop at hi
    unfold a_set1
    rw [a_get_set] at hi ⊢
    split at hi
    · cases hi
    · rename_i h2
      rw [if_neg h2]
      exact hi
  rw [← a_ren_same hs (hok i v hg.1)]
  exact hl.2.2 i v h1
section AG
variable {p : Program} {l : Launch} {e : Env} {R : Room} {s : State} {m : MethodId} {args : Array Value} {below : List Frame} {meth : Method} {c : Code} {Q : State → Prop} {D : AD} {B : Nat}
/-- a handler takes exception k at pc -/
theorem a_catch_ok {mi pc k : Nat} {H : Heap} {locs : List Loc} {cells slots : Nat} {ls : Array Slot} {rest : List Value} {q9 : Nat} {ce : Cell} {x : Nat × Nat × Nat × Nat × Nat × Nat × Nat} (hmi : mi < 300) (cx : a_Cx p l s m args meth c mi D B) (hx : a_cth mi pc k = some x) (hce : H[q9]? = some ce) (hv : ce.vm = .none) (hcl : s.vm.findClass (a_exN k) = some ce.cls)
    (kk : W p l e R s m args below meth c H locs cells slots Q (F0 m x.2.2.1 ls [.ref q9])) : vx_W p l e R s m args below meth c H locs cells slots Q (F0 m pc ls rest) q9 := by
  obtain ⟨hxc, hlt, hb, hown, hini, hts, hK, hB, hxt⟩ := cx
  unfold a_cth at hx
  rw [List.find?_eq_some_iff_append] at hx
  obtain ⟨h1, pre, suf, h2, h3⟩ := hx
  simp only [Bool.and_eq_true, decide_eq_true_eq, beq_iff_eq] at h1
  have hxin : x ∈ a_hnd mi := by rw [h2]; simp
  obtain ⟨x1, x2, x3⟩ := a_hnd_in hmi hxin
  obtain ⟨hcov, hk⟩ := h1
  rw [hk] at x1 x3
  have hsplit : c.exceptionTable.toList = (pre.map fun x => (⟨x.1, x.2.1, x.2.2.1, x.2.2.2.1⟩ : ExceptionTableEntry)) ++ (⟨x.1, x.2.1, x.2.2.1, x.2.2.2.1⟩ : ExceptionTableEntry) :: (suf.map fun x => (⟨x.1, x.2.1, x.2.2.1, x.2.2.2.1⟩ : ExceptionTableEntry)) := by
    rw [hxt hmi]
    unfold tableOf a_hh
    rw [h2, List.map_map, List.map_append, List.map_cons]
    rfl
  refine vx_catch (name := a_exN k) hown _ _ _ hsplit (fun z hz => ?_) (by simp [hcov.1, hcov.2]) x2 (hts _ x1) (va_Nw.use rfl (hK.2.2.2.1.1 _ (a_cast_in k x3) rfl)) hce hv hcl kk
  rw [List.mem_map] at hz
  obtain ⟨y, hy, rfl⟩ := hz
  have h4 := h3 y hy
  obtain ⟨y1, y2, y3⟩ := a_hnd_in hmi (show y ∈ a_hnd mi by rw [h2]; simp [hy])
  by_cases hyc : y.1 ≤ pc ∧ pc < y.2.1
  · refine Or.inr ⟨y2, _, hts _ y1, hK.2.2.2.2.1 (a_exN k, a_exN y.2.2.2.2.1) (a_ncs_in _ x3 _ y3 (fun q => ?_))⟩
    simp [hyc.1, hyc.2, ← q] at h4
  · refine Or.inl ?_
    show (decide (y.1 ≤ pc) && decide (pc < y.2.1)) = false
    rw [Bool.and_eq_false_iff, decide_eq_false_iff_not, decide_eq_false_iff_not]
    by_cases h5 : y.1 ≤ pc
    · exact Or.inr (fun q => hyc ⟨h5, q⟩)
    · exact Or.inl h5
set_option maxHeartbeats 4000000 in
theorem a_go_ok {d F mi : Nat} (hmi : mi ≤ 300) (IH : ∀ (mt : Nat) (as : List Value) (h : AH) (q : AR) (D : AD) (B : Nat) (ad : Nat → Nat), mt < 300 → a_run d F mt as h = some q → a_wh h → (∀ v, v ∈ as → a_ok h.length v) → vx_Met l (a_y mt) (a_cw mt :: a_wG) (a_rm d q) (a_Pc D B ad as h) (a_Qc D B ad h q) (a_XC D B ad h q) q.2.2.1 q.2.2.2 (fun x => B ≤ x))
    (cx : a_Cx p l s m args meth c mi D B) {r : AR} {h0 : AH} {ad0 : Nat → Nat} (hRf : d + 6 ≤ R.frames) (hRl : 120 + 60 * d ≤ R.locals) (hRc : r.2.2.1 ≤ R.cells) (hRs : r.2.2.2 ≤ R.slots)
    (K1 : ∀ (pc : Nat) (i : Instr) (st : List Value) (v : Option Value) (ad : Nat → Nat) (H : Heap) (locs : List Loc) (ls : Array Slot), a_ins mi pc = some (i, a_len i) → a_end mi i st = some v → r.1 = .inl v → a_H D B ad r.2.1 H → va_S (fun x => B ≤ x) s.heap H locs → a_same h0.length ad0 ad → W p l e R s m args below meth c H locs r.2.2.1 r.2.2.2 Q (F0 m pc ls (st.map (a_ren ad))))
    (K2 : ∀ (pc : Nat) (i : Instr) (len : Nat) (st : List Value) (k : Nat) (ad : Nat → Nat) (H : Heap) (locs : List Loc) (ls : Array Slot) (cells slots : Nat), a_ins mi pc = some (i, len) → a_trw mi pc i st = some k → r.1 = .inr k → cells + 1 = r.2.2.1 → slots + 6 = r.2.2.2 → a_H D B ad r.2.1 H → va_S (fun x => B ≤ x) s.heap H locs → a_same h0.length ad0 ad → ls.size = c.maxLocals → W p l e R s m args below meth c H locs cells slots Q (F0 m pc ls (st.map (a_ren ad))))
    (K3 : ∀ (pc k : Nat) (rest : List Value) (ad : Nat → Nat) (H : Heap) (locs : List Loc) (ls : Array Slot) (q9 : Nat) (ce : Cell), (a_hnd mi).isEmpty = true → r.1 = .inr k → a_H D B ad r.2.1 H → va_S (fun x => B ≤ x) s.heap H locs → a_same h0.length ad0 ad → H[q9]? = some ce → ce.vm = .none → s.vm.findClass (a_exN k) = some ce.cls → vx_W p l e R s m args below meth c H locs r.2.2.1 r.2.2.2 Q (F0 m pc ls rest) q9) :
    ∀ (f pc : Nat) (al : AL) (st : List Value) (h : AH) (mc ms : Nat) (ad : Nat → Nat) (ls : Array Slot) (H : Heap) (locs : List Loc), a_go (a_run d F) mi f pc al st h mc ms = some r → a_wf al st h → a_L ad al ls → al.length = c.maxLocals → a_H D B ad h H → va_S (fun x => B ≤ x) s.heap H locs → a_same h0.length ad0 ad → h0.length ≤ h.length →
      W p l e R s m args below meth c H locs mc ms Q (F0 m pc ls (st.map (a_ren ad)))
  | 0, pc, al, st, h, mc, ms, ad, ls, H, locs, hr, _, _, _, _, _, _, _ => by cases hr
  | f + 1, pc, al, st, h, mc, ms, ad, ls, H, locs, hr, hw, hl, hsz, hH, hS, hsame, hle => by
    rw [a_go] at hr
    split at hr
    · cases hr
    · rename_i i len hi
      split at hr
      · rename_i v hv
        have hlen : len = a_len i := a_ins_len hi (by
          cases i <;> first | rfl | (simp [a_end] at hv))
        subst hlen
        cases hr
        exact K1 pc i st v ad H locs ls hi hv rfl hH hS hsame
      · split at hr
        · rename_i k hk
          cases hr
          exact K2 pc i len st k ad H locs ls mc ms hi hk rfl rfl rfl hH hS hsame (hl.1.trans hsz)
        · split at hr
          · rename_i mt as rest hc
            obtain ⟨i1, i2, i3⟩ := a_call_in hc
            split at hr
            · rename_i v h' c' s' hq
              obtain ⟨w1, w2, w3⟩ := a_run_wf F d mt as h _ hq hw.2.2 (fun v hv => hw.2.1 v (i1 v hv))
              obtain ⟨m1, m2⟩ := a_go_mono f _ _ _ _ _ _ r hr
              refine a_callR IH cx hi hc hq (fun _ => ⟨v, rfl⟩) hw.2.2 hw.2.1 (hl.1.trans hsz) hH hS hRf hRl (Nat.le_trans m1 hRc) (Nat.le_trans m2 hRs) (fun v' ad' H' locs' e1 g1 g2 g3 => ?_) (fun k ad' H' locs' q9 ce e1 => by cases e1)
              cases e1
              have hwf : a_wf al (v.toList ++ rest) h' := ⟨fun i u hi => a_ok_mono w2 (hw.1 i u hi), fun u hu => by
                rcases List.mem_append.mp hu with g | g
                · cases v with
                  | none => cases g
                  | some v =>
                    simp only [Option.toList, List.mem_cons, List.not_mem_nil, or_false] at g
                    rw [g]; exact w3 v rfl
                · exact a_ok_mono w2 (hw.2.1 u (i2 u g)), w1⟩
              have k1 := a_go_ok hmi IH cx hRf hRl hRc hRs K1 K2 K3 f (pc + 3) al (v.toList ++ rest) h' (mc + c') (ms + s') ad' ls H' locs' hr hwf (hl.same g1 hw.1) hsz g2 g3 (hsame.tr g1 hle) (Nat.le_trans hle w2)
              rw [List.map_append, a_map_same g1 (fun u hu => hw.2.1 u (i2 u hu))] at k1
              cases v with
              | none => exact k1
              | some v => exact k1
            · rename_i k h' c' s' hq
              obtain ⟨w1, w2, w3⟩ := a_run_wf F d mt as h _ hq hw.2.2 (fun v hv => hw.2.1 v (i1 v hv))
              split at hr
              · cases hr
              · rename_i hnsp
                split at hr
                · rename_i hemp
                  cases hr
                  refine a_callR IH cx hi hc hq (fun q => absurd q hnsp) hw.2.2 hw.2.1 (hl.1.trans hsz) hH hS hRf hRl hRc hRs (fun v' ad' H' locs' e1 => by cases e1) (fun k' ad' H' locs' q9 ce e1 g1 g2 g3 g4 g5 g6 => ?_)
                  cases e1
                  exact K3 pc k _ ad' H' locs' ls q9 ce hemp rfl g2 g3 (hsame.tr g1 hle) g4 g5 g6
                · rename_i hemp
                  have hmi' : mi < 300 := by
                    rcases Nat.lt_or_ge mi 300 with q | q
                    · exact q
                    · exfalso
                      have e : mi = 300 := Nat.le_antisymm hmi q
                      subst e
                      rw [a_hnd_law] at hemp
                      exact hemp rfl
                  split at hr
                  · rename_i x hx
                    split at hr
                    · rename_i hp n hh
                      split at hr
                      · rename_i hn
                        obtain ⟨m1, m2⟩ := a_go_mono f _ _ _ _ _ _ r hr
                        refine a_callR IH cx hi hc hq (fun q => absurd q hnsp) hw.2.2 hw.2.1 (hl.1.trans hsz) hH hS hRf hRl (Nat.le_trans m1 hRc) (Nat.le_trans m2 hRs) (fun v' ad' H' locs' e1 => by cases e1) (fun k' ad' H' locs' q9 ce e1 g1 g2 g3 g4 g5 g6 => ?_)
                        cases e1
                        refine a_catch_ok hmi' cx hx g4 g5 g6 ?_
                        unfold a_hdl at hh
                        split at hh
                        · rename_i i2 len2 hi2
                          split at hh
                          · rename_i hl2
                            subst hl2
                            split at hh
                            · rename_i n2 kd hst
                              split at hh
                              · rename_i hkd
                                subst hkd
                                cases hh
                                have hs3 : a_same h'.length ad' (a_up ad' h'.length q9) := fun k hk => a_up_lt hk
                                have hok3 : ∀ (i : Nat) (v : Value), a_get al i = some v → a_ok h'.length v := fun i v hi => a_ok_mono w2 (hw.1 i v hi)
                                have hl3 : a_L (a_up ad' h'.length q9) al ls := (hl.same g1 hw.1).same hs3 hok3
                                have hst2 : a_sto al n (.ref h'.length) = some (a_set1 al n (.ref h'.length)) := by
                                  unfold a_sto
                                  rw [if_neg (show ¬ (Value.ref h'.length).category = 2 from (by decide : ¬ (1 : Nat) = 2)), if_pos hn]
                                have k1 := a_store_ok (ad := a_up ad' h'.length q9) (v := .ref h'.length) (rest := []) (al := al) (p := p) (l := l) (e := e) (R := R) (s := s) (m := m) (args := args) (below := below) (meth := meth) (H := H') (locs := locs') (cells := mc + c') (slots := ms + s') (Q := Q) cx.1 cx.2.2.1 (a_ins_ok hi2) hst rfl hst2 hl3 (fun ls' hl' =>
                                  a_go_ok hmi IH cx hRf hRl hRc hRs K1 K2 K3 f _ (a_drop al n) [] h' (mc + c') (ms + s') ad' ls' H' locs' hr ⟨fun i u hi => hok3 i u (a_drop_get hi).1, fun u hu => absurd hu List.not_mem_nil, w1⟩ (hl'.drop hs3 hok3) (by simp [a_drop, a_kill_len, hsz]) g2 g3 (hsame.tr g1 hle) (Nat.le_trans hle w2))
                                have e9 : a_ren (a_up ad' h'.length q9) (.ref h'.length) = .ref q9 := by
                                  show Value.ref _ = _
                                  rw [a_up_n]
                                rw [e9] at k1
                                exact k1
                              · cases hh
                            · cases hh
                          · cases hh
                        · cases hh
                      · cases hr
                    · cases hr
                  · cases hr
            · cases hr
          · split at hr
            · rename_i pc' al' st' h' c' s' hq
              obtain ⟨w1, w2⟩ := a_stp_wf hq hw
              obtain ⟨m1, m2⟩ := a_go_mono f _ _ _ _ _ _ r hr
              exact a_stp_ok cx hi hq hw hl hsz hH hS (by omega) (by omega) (Nat.le_trans m1 hRc) (Nat.le_trans m2 hRs) (fun ad' H' locs' ls' g1 g2 g3 g4 g5 =>
                a_go_ok hmi IH cx hRf hRl hRc hRs K1 K2 K3 f pc' al' st' h' (mc + c') (ms + s') ad' ls' H' locs' hr w1 g4 (g5.trans hsz) g2 g3 (hsame.tr g1 hle) (Nat.le_trans hle w2))
            · split at hr
              · rename_i st' h' hq
                obtain ⟨w1, w2⟩ := a_acp_wf hq hw
                exact a_acp_ok cx.1 cx.2.2.1 (hl.1.trans hsz) cx.2.2.2.1 cx.2.2.2.2.2.1 cx.2.2.2.2.2.2.1.2.1 hH hS (a_ins_ok hi) hq (by omega) (by omega) (fun H' locs' g2 g3 =>
                  a_go_ok hmi IH cx hRf hRl hRc hRs K1 K2 K3 f (pc + len) al st' h' mc ms ad ls H' locs' hr w1 hl hsz g2 g3 hsame (Nat.le_trans hle w2))
              · cases hr
/-- every method's contract -/
theorem a_entry {as : List Value} {ad : Nat → Nat} {mi : Nat} (h1 : ∀ v ∈ as, v.category = 1) (h2 : as.length ≤ a_mxl mi) : ∃ ls : Array Slot, entryFrame m (as.map (a_ren ad)).toArray (a_mxl mi) = F0 m 0 ls [] ∧ a_L ad (a_args mi as) ls := by
  have hsl : lg_sl (as.map (a_ren ad)) = (as.map (a_ren ad)).map Slot.val := by
    unfold lg_sl
    have : ∀ vs : List Value, (∀ v ∈ vs, v.category = 1) → (vs.flatMap fun v => if v.category = 2 then [Slot.val v, .second] else [.val v]) = vs.map Slot.val := by
      intro vs
      induction vs with
      | nil => intro _; rfl
      | cons v t ih =>
        intro hv
        rw [List.flatMap_cons, ih (fun u hu => hv u (List.mem_cons_of_mem _ hu)), if_neg (by rw [hv v List.mem_cons_self]; decide)]
        rfl
    refine this _ (fun v hv => ?_)
    obtain ⟨u, hu, rfl⟩ := List.mem_map.mp hv
    rw [a_ren_cat]; exact h1 u hu
  have hlen : (lg_sl (as.map (a_ren ad))).length = as.length := by rw [hsl]; simp
  refine ⟨_, lg_entry_eq m (as.map (a_ren ad)) (a_mxl mi), ?_⟩
  obtain ⟨e1, e2, -⟩ := lv_entry (as.map (a_ren ad)) (n := a_mxl mi) (by rw [hlen]; exact h2)
  refine ⟨by rw [e1]; simp [a_args]; omega, e2, fun i v hi => ?_⟩
  have h3 := a_args_get hi
  have h4 := (List.getElem?_eq_some_iff.mp h3).1
  rw [hsl]
  simp only [List.getElem?_toArray]
  rw [List.getElem?_append_left (by simpa using h4)]
  simp [h3]
theorem a_cxOf {p : Program} {l : Launch} {e : Env} {s : State} {m : MethodId} {args : Array Value} {below : List Frame} {meth : Method} {c : Code} {s₁ : State} {mi : Nat} {rm : Room} {ws : List Cond} (hlt : l.stackTraces = false)
    (B' : BodyLoose p l (a_y mi) (headSpec ws rm) (a_codeB mi) (a_mxl mi) (a_rty mi) e s m args below meth c s₁) (hts : ∀ w ∈ a_wG, w.before args s = true) (hK : a_K D B s) (hB : B ≤ s.heap.size) (hxt : mi < 300 → c.exceptionTable.toList = tableOf (a_hh mi)) : a_Cx p l s m args meth c mi D B :=
  ⟨B'.exec, hlt, B'.bytes, findClass_of_methodNamed B'.named, fun q => by
    rw [(name_of_methodNamed B'.named B'.method).1]
    show a_nam mi = "<init>"
    simpa [a_ini] using q, hts, hK, hB, hxt⟩
theorem a_thr_at {mi pc : Nat} {i : Instr} {st : List Value} {k : Nat} (h : a_trw mi pc i st = some k) : ∃ r ∈ a_thr, r.1 = mi ∧ r.2.1 = pc ∧ r.2.2.2.2.2.2.2.1 = k ∧ a_cat st ≤ 8 := by
  unfold a_trw at h
  split at h
  · split at h
    · rename_i hc
      rw [Option.map_eq_some_iff] at h
      obtain ⟨r, h1, h2⟩ := h
      have h3 := List.find?_some h1
      simp only [Bool.and_eq_true, beq_iff_eq] at h3
      exact ⟨r, List.mem_of_find?_eq_some h1, h3.1, h3.2, h2, hc⟩
    · cases h
  · cases h
set_option maxHeartbeats 4000000 in
theorem a_throw_ok {p : Program} {l : Launch} {e : Env} {R : Room} {s : State} {m : MethodId} {args : Array Value} {below : List Frame} {meth : Method} {c : Code} {D : AD} {B : Nat} {mi pc : Nat} {i : Instr} {st : List Value} {k : Nat} {ad ad0 : Nat → Nat} {h0 : AH} {H : Heap} {locs : List Loc} {ls : Array Slot} {cells slots : Nat} {q : AR} (hmi : mi < 300) (cx : a_Cx p l s m args meth c mi D B) (hlocks : meth.locks = false)
    (ht : a_trw mi pc i st = some k) (hq : q.1 = .inr k) (hc : cells + 1 = q.2.2.1) (hs : slots + 6 = q.2.2.2) (hH : a_H D B ad q.2.1 H) (hS : va_S (fun x => B ≤ x) s.heap H locs) (hsame : a_same h0.length ad0 ad) (hsz : ls.size = c.maxLocals) (hRf : 5 < R.frames) (hRl : 90 ≤ R.locals) (hRc : q.2.2.1 ≤ R.cells) (hRs : q.2.2.2 ≤ R.slots) :
    W p l e R s m args below meth c H locs cells slots (vx_MQ below (a_Qc D B ad0 h0 q) (a_XC D B ad0 h0 q) args s q.2.2.1 q.2.2.2 (fun x => B ≤ x)) (F0 m pc ls (st.map (a_ren ad))) := by
  obtain ⟨hx, hlt, hb, hown, hini, hts, hK, hB, hxt⟩ := cx
  obtain ⟨r, hr, rfl, rfl, rfl, hcat⟩ := a_thr_at ht
  have h1 := List.all_eq_true.mp a_thr_ok r hr
  unfold a_thrB at h1
  simp only [Bool.and_eq_true, decide_eq_true_eq] at h1
  obtain ⟨hk, ho, hemp, d0, d3, dd⟩ := h1
  obtain ⟨t, ht5⟩ := Option.isSome_iff_exists.mp hk
  have ht6 := List.find?_some ht5
  have htin := List.mem_of_find?_eq_some ht5
  simp only [Bool.and_eq_true, beq_iff_eq] at ht6
  obtain ⟨t1, t2, t3, t4⟩ := ht6
  obtain ⟨b0, b1, b2, b5, b6⟩ := a_byt_ok t htin
  have hwt := a_thx_in htin
  have hwb := List.all_eq_true.mp (List.all_eq_true.mp a_thx_ok t htin)
  have hall : ∀ w ∈ a_thxW t, w.before args s = true := fun w hw => by
    have g := hwb w hw
    simp only [Bool.and_eq_true, Bool.or_eq_true] at g
    rcases g.2 with g2 | g2
    · exact hts w (a_wG_of (hwt w hw) g2)
    · have hn := hK.2.2.2.1.1 w (hwt w hw) g2
      cases w <;> first
        | exact va_Nw.use rfl hn
        | cases g2
  have hot : ∀ w ∈ a_thxW t, vx_ot w = true := fun w hw => by
    have g := hwb w hw
    simp only [Bool.and_eq_true] at g
    exact g.1
  obtain ⟨sa, hsa⟩ := hK.2.2.2.2.2.1 r hr
  have hout : ∀ x ∈ c.exceptionTable.toList, ∀ pc, covers x pc = false := by
    intro x hx2
    rw [hxt hmi] at hx2
    have : a_hnd r.1 = [] := List.isEmpty_iff.mp hemp
    unfold tableOf a_hh at hx2
    rw [this] at hx2
    cases hx2
  unfold a_thxW at hall hot
  rw [t1, t2, t3, t4] at hall hot
  rw [ho] at hown
  have hx' : ∀ t : State, s.vm.Alike t.vm → H.size ≤ t.heap.size → (∀ q : Nat, q < H.size → t.heap[q]? = H[q]?) → a_XC D B ad0 h0 q (a_exN r.2.2.2.2.2.2.2.1) s t := fun t _ g1 g2 =>
    ⟨_, ad, hq, rfl, hsame, hH.keep g2, ⟨Nat.le_trans hS.1 g1, fun x h1 h2 => by rw [g2 x (Nat.lt_of_lt_of_le h1 hS.1)]; exact hS.2.1 x h1 h2⟩⟩
  have hcr := a_cat_ren (ad := ad) st
  have hK7 := hK.2.2.2.2.2.2
  split at dd
  · simp only [Bool.and_eq_true, decide_eq_true_eq] at dd
    obtain ⟨e4, e6, e9⟩ := dd
    exact a_throw5 (w := 3) hx hb hlt b0 b1 b2 b5 hown (a_fit _ (by rw [← t4]; exact b6)) (hall _ List.mem_cons_self) (hall _ (List.mem_cons_of_mem _ List.mem_cons_self)) hsa (fun w hw => hall w (List.mem_cons_of_mem _ (List.mem_cons_of_mem _ hw))) hot hK7.1 hK7.2 hS hsz (a_ins_ok d0) (a_ins_ok d3) (Or.inr ⟨rfl, rfl⟩) (a_ins_ok e4) (a_ins_ok e6) (a_ins_ok e9) (fun x hx => hout x hx _) hRf (by rw [hcr]; omega) (by omega) (by omega) hlocks hx' hS.2.2 (Nat.le_of_eq hc) (Nat.le_of_eq hs)
  · simp only [Bool.and_eq_true, decide_eq_true_eq] at dd
    obtain ⟨e4, e6, e9⟩ := dd
    exact a_throw5 (w := 2) hx hb hlt b0 b1 b2 b5 hown (a_fit _ (by rw [← t4]; exact b6)) (hall _ List.mem_cons_self) (hall _ (List.mem_cons_of_mem _ List.mem_cons_self)) hsa (fun w hw => hall w (List.mem_cons_of_mem _ (List.mem_cons_of_mem _ hw))) hot hK7.1 hK7.2 hS hsz (a_ins_ok d0) (a_ins_ok d3) (Or.inl ⟨rfl, rfl⟩) (a_ins_ok e4) (a_ins_ok e6) (a_ins_ok e9) (fun x hx => hout x hx _) hRf (by rw [hcr]; omega) (by omega) (by omega) hlocks hx' hS.2.2 (Nat.le_of_eq hc) (Nat.le_of_eq hs)
set_option maxHeartbeats 4000000 in
theorem a_body {d F : Nat} (hlt : l.stackTraces = false) (IH : ∀ (mt : Nat) (as : List Value) (h : AH) (q : AR) (D : AD) (B : Nat) (ad : Nat → Nat), mt < 300 → a_run d F mt as h = some q → a_wh h → (∀ v, v ∈ as → a_ok h.length v) → vx_Met l (a_y mt) (a_cw mt :: a_wG) (a_rm d q) (a_Pc D B ad as h) (a_Qc D B ad h q) (a_XC D B ad h q) q.2.2.1 q.2.2.2 (fun x => B ≤ x))
    {mt : Nat} {as : List Value} {h : AH} {q : AR} {ad : Nat → Nat} (hmt : mt < 300) (h1 : ∀ v ∈ as, v.category = 1) (h2 : as.length ≤ a_mxl mt) (hr : a_go (a_run d F) mt F 0 (a_args mt as) [] h 0 0 = some q) (hw : a_wh h) (hv : ∀ v, v ∈ as → a_ok h.length v) {s₁ : State} {ws : List Cond}
    (B' : BodyLoose p l (a_y mt) (headSpec ws (a_rm (d + 1) q)) (a_codeB mt) (a_mxl mt) (a_rty mt) e s m args below meth c s₁) (hml : c.maxLocals = a_mxl mt) (hws : ∀ w ∈ a_wG, w ∈ ws) (hxt : c.exceptionTable.toList = tableOf (a_hh mt)) (hP : a_Pc D B ad as h args s) :
    W p l e (headSpec ws (a_rm (d + 1) q)).room s m args below meth c s.heap [] 0 0 (vx_MQ below (a_Qc D B ad h q) (a_XC D B ad h q) args s q.2.2.1 q.2.2.2 (fun x => B ≤ x)) (entryFrame m args (a_mxl mt)) := by
  obtain ⟨hA, hH, hK, hB⟩ := hP
  have hts : ∀ w ∈ a_wG, w.before args s = true := fun w hw => atoms_spec (ws := ws) B'.pre w (hws w hw)
  have cx := a_cxOf hlt B' hts hK hB (fun _ => hxt)
  obtain ⟨ls, e1, hl⟩ := a_entry (m := m) (ad := ad) (mi := mt) h1 h2
  have hR : (headSpec ws (a_rm (d + 1) q)).room = a_rm (d + 1) q := rfl
  rw [hR, hA, e1, ← hA]
  have hgo := a_go_ok (R := a_rm (d + 1) q) (e := e) (below := below) (Q := vx_MQ below (a_Qc D B ad h q) (a_XC D B ad h q) args s q.2.2.1 q.2.2.2 (fun x => B ≤ x)) (Nat.le_of_lt hmt) IH cx (r := q) (h0 := h) (ad0 := ad) (by show d + 6 ≤ d + 1 + 5; omega) (by show 120 + 60 * d ≤ 60 + 60 * (d + 1); omega) (Nat.le_refl _) (Nat.le_refl _) ?_ ?_ ?_ F 0 (a_args mt as) [] h 0 0 ad ls s.heap [] hr ⟨fun i v hi => hv v (List.mem_of_getElem? (a_args_get hi)), fun v hv => absurd hv List.not_mem_nil, hw⟩ hl (by rw [hml]; simp [a_args]; omega) hH va_S.rf a_same.rf (Nat.le_refl _)
  · exact hgo
  · intro pc i st v ad' H locs ls' hi hend hq hH' hS' hsame
    have hdg := a_ins_ok hi
    refine vx_ret ?_
    have hQ : ∀ t : State, t.heap = H → s.WarmedH t.vm → a_Qc D B ad h q args s (.returned (v.map (a_ren ad'))) t := fun t ht _ => ⟨v, ad', hq, rfl, hsame, by rw [ht]; exact hH', hS'.F ht⟩
    have hlk := B'.notSynchronized
    unfold a_end at hend
    split at hend
    · split at hend
      · rename_i hrt
        cases hend
        exact W.vret cx.1 cx.2.2.1 (B'.returns.trans hrt) hQ hS'.2.2 hdg hlk
      · cases hend
    · split at hend
      · rename_i ty hrt
        split at hend
        · rename_i hn
          cases hend
          exact W.zret cx.1 cx.2.2.1 (B'.returns.trans hrt) hn hQ hS'.2.2 hdg hlk
        · cases hend
      · cases hend
    · split at hend
      · rename_i hrt
        cases hend
        exact W.lret cx.1 cx.2.2.1 (B'.returns.trans hrt) hQ hS'.2.2 hdg hlk
      · cases hend
    · split at hend
      · rename_i hrt
        cases hend
        exact W.fret cx.1 cx.2.2.1 (B'.returns.trans hrt) hQ hS'.2.2 hdg hlk
      · cases hend
    · split at hend
      · rename_i hrt
        cases hend
        exact W.dret cx.1 cx.2.2.1 (B'.returns.trans hrt) hQ hS'.2.2 hdg hlk
      · cases hend
    · cases hend
  · intro pc i len st k ad' H locs ls' cells slots hi ht hq hc hs hH' hS' hsame hsz
    exact a_throw_ok hmt cx B'.notSynchronized ht hq hc hs hH' hS' hsame hsz (by show 5 < d + 1 + 5; omega) (by show 90 ≤ 60 + 60 * (d + 1); omega) (Nat.le_refl _) (Nat.le_refl _)
  · intro pc k rest ad' H locs ls' q9 ce hemp hq hH' hS' hsame hce hcv hcl
    refine vx_out (fun x hx => ?_) B'.notSynchronized hce hcv hcl (fun t ht _ => ⟨k, ad', hq, rfl, hsame, by rw [ht]; exact hH', hS'.F ht⟩) hS'.2.2 (Nat.le_refl _) (Nat.le_refl _)
    rw [hxt] at hx
    have : a_hnd mt = [] := List.isEmpty_iff.mp hemp
    unfold tableOf a_hh at hx
    rw [this] at hx
    cases hx
theorem a_met {l : Launch} (hlt : l.stackTraces = false) (F : Nat) : ∀ (d mt : Nat) (as : List Value) (h : AH) (q : AR) (D : AD) (B : Nat) (ad : Nat → Nat), mt < 300 → a_run d F mt as h = some q → a_wh h → (∀ v, v ∈ as → a_ok h.length v) → vx_Met l (a_y mt) (a_cw mt :: a_wG) (a_rm d q) (a_Pc D B ad as h) (a_Qc D B ad h q) (a_XC D B ad h q) q.2.2.1 q.2.2.2 (fun x => B ≤ x)
  | 0, mt, as, h, q, D, B, ad, hmt, hr, hw, hv => by cases hr
  | d + 1, mt, as, h, q, D, B, ad, hmt, hr, hw, hv => by
    obtain ⟨n1, n2, n3⟩ := a_run_arg hr
    rw [a_run] at hr
    split at hr
    · have IH := a_met hlt F d
      by_cases u7 : (a_hnd mt).isEmpty = true
      · have hcw : a_cw mt = .code (a_y mt) (a_codeB mt) (a_mxl mt) (a_rty mt) := if_pos u7
        refine vx_ofW (cc := a_codeB mt) (maxL := a_mxl mt) (ret := a_rty mt) (ws' := a_wG) (a_plain hmt).1 (by rw [hcw]) ?_
        intro p e s m args below meth c s₁ B' hml hno hP
        refine a_body hlt IH hmt n3 n2 hr hw hv B' hml (fun w hw => List.mem_cons_of_mem _ hw) ?_ hP
        have e1 : a_hnd mt = [] := List.isEmpty_iff.mp u7
        unfold tableOf a_hh
        rw [e1]
        exact List.eq_nil_iff_forall_not_mem.mpr hno
      · have hcw : a_cw mt = .codeWith (a_y mt) (a_codeB mt) (a_mxl mt) (a_rty mt) (a_hh mt) := if_neg u7
        refine vx_ofWH (cc := a_codeB mt) (maxL := a_mxl mt) (ret := a_rty mt) (hh := a_hh mt) (ws' := a_wG) (a_plain hmt).1 (by rw [hcw]) ?_
        intro p e s m args below meth c s₁ B' hml hP
        refine a_body hlt IH hmt n3 n2 hr hw hv B' hml (fun w hw => List.mem_cons_of_mem _ hw) ?_ hP
        refine vx_table (x := a_y mt) B' (bytes := a_codeB mt) (maxL' := a_mxl mt) (ret' := a_rty mt) ?_
        rw [← hcw]
        exact atoms_spec (ws := a_cw mt :: a_wG) B'.pre _ List.mem_cons_self
    · cases hr
end AG
end
