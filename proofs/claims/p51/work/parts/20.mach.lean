/-! What the abstract machine's run says, the machine does -/
def a_rm (d : Nat) (q : AR) : Room := { frames := d + 5, cells := q.2.2.1, slots := q.2.2.2, locals := 60 + 60 * d }
def a_Pc (D : AD) (B : Nat) (ad : Nat → Nat) (as : List Value) (h : AH) : Array Value → State → Prop := fun a U => a = (as.map (a_ren ad)).toArray ∧ a_H D B ad h U.heap ∧ a_K D B U ∧ B ≤ U.heap.size
def a_Qc (D : AD) (B : Nat) (ad : Nat → Nat) (h : AH) (q : AR) : Array Value → State → Outcome → State → Prop := fun _ st o t => ∃ (v : Option Value) (ad' : Nat → Nat), q.1 = .inl v ∧ o = .returned (v.map (a_ren ad')) ∧ a_same h.length ad ad' ∧ a_H D B ad' q.2.1 t.heap ∧ va_F (fun x => B ≤ x) st t
def a_XC (D : AD) (B : Nat) (ad : Nat → Nat) (h : AH) (q : AR) : String → State → State → Prop := fun E st t => ∃ (k : Nat) (ad' : Nat → Nat), q.1 = .inr k ∧ E = a_exN k ∧ a_same h.length ad ad' ∧ a_H D B ad' q.2.1 t.heap ∧ va_F (fun x => B ≤ x) st t
theorem a_Pc_blind {D : AD} {B : Nat} {ad : Nat → Nat} {as : List Value} {h : AH} : FrameBlind (a_Pc D B ad as h) := fun _ _ _ _ hp => ⟨hp.1, hp.2.1, hp.2.2.1.calling, hp.2.2.2⟩
theorem a_H.keep {D : AD} {B : Nat} {ad : Nat → Nat} {h : AH} {H H1 : Heap} (hH : a_H D B ad h H) (o : ∀ q, q < H.size → H1[q]? = H[q]?) : a_H D B ad h H1 := ⟨fun k x hk => by
  obtain ⟨cell, c1, c2⟩ := hH.1 k x hk
  exact ⟨cell, by rw [o _ (hH.lt (List.getElem?_eq_some_iff.mp hk).1)]; exact c1, c2⟩, hH.2.1, hH.2.2⟩
/-- a callee that doesn't throw here -/
theorem a_toMet {l : Launch} {y : MethodName} {ws : List Cond} {rm : Room} {Pc : Array Value → State → Prop} {D : AD} {B : Nat} {ad : Nat → Nat} {h : AH} {q : AR} {mc ms : Nat} {free : Addr → Prop} {v : Option Value} (hM : vx_Met l y ws rm Pc (a_Qc D B ad h q) (a_XC D B ad h q) mc ms free) (hq : q.1 = .inl v) : Met l y ws rm Pc (a_Qc D B ad h q) mc ms free := by
  intro p e ha hc hk s m args below hf happ hP hK
  obtain ⟨n, o, h1, h2, h3, h4⟩ := hM p e ha hc hk s m args below hf happ hP hK
  refine ⟨n, o, h1, h2, h3, ?_⟩
  rcases h4 with h4 | ⟨q9, -, E, ce, L, ⟨k, ad', g1, -⟩, -⟩
  · exact h4
  · rw [hq] at g1; cases g1
section AX
variable {p : Program} {l : Launch} {e : Env} {R : Room} {s : State} {m : MethodId} {args : Array Value} {below : List Frame} {meth : Method} {c : Code} {H : Heap} {locs : List Loc} {cells slots : Nat} {Q : State → Prop} {pc : Nat} {ls : Array Slot} {st0 rest : List Value} {D : AD} {B : Nat} {ad : Nat → Nat} {h : AH} {H0 : Heap} {A : Array Value} {q : AR} {mc ms : Nat}
theorem a_runK (hr : vx_Run p l e R s m args below meth c H locs cells slots mc ms (F0 m pc ls st0) rest (a_Qc D B ad h q A) (a_XC D B ad h q) (fun x => B ≤ x)) (hS : va_S (fun x => B ≤ x) H0 H locs)
    (k1 : ∀ (v : Option Value) (ad' : Nat → Nat) (H' : Heap) (locs' : List Loc), q.1 = .inl v → a_same h.length ad ad' → a_H D B ad' q.2.1 H' → va_S (fun x => B ≤ x) H0 H' locs' → W p l e R s m args below meth c H' locs' (cells + mc) (slots + ms) Q (F0 m (pc + 3) ls ((v.map (a_ren ad')).toList ++ rest)))
    (k2 : ∀ (k : Nat) (ad' : Nat → Nat) (H' : Heap) (locs' : List Loc) (q9 : Nat) (ce : Cell), q.1 = .inr k → a_same h.length ad ad' → a_H D B ad' q.2.1 H' → va_S (fun x => B ≤ x) H0 H' locs' → H'[q9]? = some ce → ce.vm = .none → s.vm.findClass (a_exN k) = some ce.cls → vx_W p l e R s m args below meth c H' locs' (cells + mc) (slots + ms) Q (F0 m pc ls rest) q9) : W p l e R s m args below meth c H locs cells slots Q (F0 m pc ls st0) := by
  intro T hT X
  rcases hr T hT X with ⟨v, st₀, t, T', L, h0, X', hL, e1, e2, ⟨v', ad', g1, g2, g3, g4, g5⟩, st⟩ | ⟨q9, st₀, t, T', L, E, ce, h0, X', hL, e1, e2, ⟨k, ad', g1, g2, g3, g4, g5⟩, hce, hcv, hcl, st⟩
  · obtain ⟨-, -, z3⟩ := vx_keep h0 e1 hS (fun q _ hq => hq) (fun q hq => hq) hL g5
    have hv : v = v'.map (a_ren ad') := by cases g2; rfl
    subst hv
    obtain ⟨t2, a1, b1⟩ := k1 v' ad' T'.heap (locs ++ L) g1 g3 (by rw [e1]; exact g4) z3 T' rfl X'
    exact ⟨t2, st t2 a1, b1⟩
  · obtain ⟨-, -, z3⟩ := vx_keep h0 e1 hS (fun q _ hq => hq) (fun q hq => hq) hL g5
    subst g2
    obtain ⟨t2, a1, b1⟩ := k2 k ad' T'.heap (locs ++ L) q9 ce g1 g3 (by rw [e1]; exact g4) z3 (by rw [e1]; exact hce) hcv hcl T' rfl X'
    exact ⟨t2, st.trans a1, b1⟩
theorem a_runM (hr : va_Run p l e R s m args below meth c H locs cells slots mc ms (F0 m pc ls st0) rest (a_Qc D B ad h q A) (fun x => B ≤ x)) (hS : va_S (fun x => B ≤ x) H0 H locs)
    (k1 : ∀ (v : Option Value) (ad' : Nat → Nat) (H' : Heap) (locs' : List Loc), q.1 = .inl v → a_same h.length ad ad' → a_H D B ad' q.2.1 H' → va_S (fun x => B ≤ x) H0 H' locs' → W p l e R s m args below meth c H' locs' (cells + mc) (slots + ms) Q (F0 m (pc + 3) ls ((v.map (a_ren ad')).toList ++ rest))) : W p l e R s m args below meth c H locs cells slots Q (F0 m pc ls st0) := by
  intro T hT X
  obtain ⟨v, st₀, t, T', L, h0, X', hL, e1, e2, ⟨v', ad', g1, g2, g3, g4, g5⟩, st⟩ := hr T hT X
  obtain ⟨-, -, z3⟩ := vx_keep h0 e1 hS (fun q _ hq => hq) (fun q hq => hq) hL g5
  have hv : v = v'.map (a_ren ad') := by cases g2; rfl
  subst hv
  obtain ⟨t2, a1, b1⟩ := k1 v' ad' T'.heap (locs ++ L) g1 g3 (by rw [e1]; exact g4) z3 T' rfl X'
  exact ⟨t2, st t2 a1, b1⟩
/-- what holds of a method's body -/
def a_Cx (p : Program) (l : Launch) (s : State) (m : MethodId) (args : Array Value) (meth : Method) (c : Code) (mi : Nat) (D : AD) (B : Nat) : Prop :=
  p.tables.exec = Jvm.exec ∧ l.stackTraces = false ∧ c.code = a_codeB mi ∧ s.vm.findClass (a_cN (a_own mi)) = some m.cls ∧ (a_ini mi = true → meth.name = "<init>") ∧ (∀ w ∈ a_wG, w.before args s = true) ∧ a_K D B s ∧ B ≤ s.heap.size ∧ (mi < 96 → c.exceptionTable.toList = tableOf (a_hh mi))
theorem a_st6_ok {cc : ByteArray} (hx : p.tables.exec = Jvm.exec) (hb : c.code = cc) {own : Nat} (hown : s.vm.findClass (a_cN own) = some m.cls) (hts : ∀ w ∈ a_wG, w.before args s = true) (hKN : a_KN D s) (hB : B ≤ H0.size) (hH : a_H D B ad h H) (hS : va_S (fun x => B ≤ x) H0 H locs) {i : Instr} {al : AL} {st : List Value} {r : AS} (hdg : decode cc pc = .ok (i, a_len i)) (hr : a_st6 own i pc al st h = some r) (hw : a_wf al st h) (hRc : cells + r.2.2.2.2.1 ≤ R.cells) (hRs : slots + r.2.2.2.2.2 ≤ R.slots)
    (kk : ∀ (ad' : Nat → Nat) (H' : Heap) (locs' : List Loc), a_same h.length ad ad' → a_H D B ad' r.2.2.2.1 H' → va_S (fun x => B ≤ x) H0 H' locs' → r.2.1 = al → W p l e R s m args below meth c H' locs' (cells + r.2.2.2.2.1) (slots + r.2.2.2.2.2) Q (F0 m r.1 ls (r.2.2.1.map (a_ren ad')))) : W p l e R s m args below meth c H locs cells slots Q (F0 m pc ls (st.map (a_ren ad))) := by
  unfold a_st6 at hr
  split at hr
  · rename_i idx k n st2
    split at hr
    · rename_i t hmt
      split at hr
      · rename_i hc
        cases hr
        refine a_multi_ok hx hb hown hts hKN hB hH hS hw.2.2 [n, k] hdg hmt hc.1 (fun x hx => by
          simp only [List.mem_cons, List.not_mem_nil, or_false] at hx
          rcases hx with rfl | rfl
          · exact hc.2.1
          · exact hc.2.2) (Or.inl ⟨rfl, n, k, rfl⟩) hRc hRs (fun ad' H' locs' g1 g2 g3 => ?_)
        have k1 := kk ad' H' locs' g1 g2 g3 rfl
        rw [List.map_cons, a_map_same g1 hw.tl.tl.2.1] at k1
        exact k1
      · cases hr
    · cases hr
  · rename_i idx k o n st2
    split at hr
    · rename_i t hmt
      split at hr
      · rename_i hc
        cases hr
        refine a_multi_ok hx hb hown hts hKN hB hH hS hw.2.2 [n, o, k] hdg hmt hc.1 (fun x hx => by
          simp only [List.mem_cons, List.not_mem_nil, or_false] at hx
          rcases hx with rfl | rfl | rfl
          · exact hc.2.1
          · exact hc.2.2.1
          · exact hc.2.2.2) (Or.inr ⟨rfl, n, o, k, rfl⟩) hRc hRs (fun ad' H' locs' g1 g2 g3 => ?_)
        have k1 := kk ad' H' locs' g1 g2 g3 rfl
        rw [List.map_cons, a_map_same g1 hw.tl.tl.tl.2.1] at k1
        exact k1
      · cases hr
    · cases hr
  · cases hr
theorem a_stp_ok {mi : Nat} (cx : a_Cx p l s m args meth c mi D B) {i : Instr} {len : Nat} {al : AL} {st : List Value} {r : AS} (hi : a_ins mi pc = some (i, len)) (hr : a_stp (a_own mi) (a_ini mi) i len pc al st h = some r) (hw : a_wf al st h) (hl : a_L ad al ls) (hsz : al.length = c.maxLocals) (hH : a_H D B ad h H) (hS : va_S (fun x => B ≤ x) s.heap H locs)
    (hRf : 1 ≤ R.frames) (hRl : 100 ≤ R.locals) (hRc : cells + r.2.2.2.2.1 ≤ R.cells) (hRs : slots + r.2.2.2.2.2 ≤ R.slots)
    (kk : ∀ (ad' : Nat → Nat) (H' : Heap) (locs' : List Loc) (ls' : Array Slot), a_same h.length ad ad' → a_H D B ad' r.2.2.2.1 H' → va_S (fun x => B ≤ x) s.heap H' locs' → a_L ad' r.2.1 ls' → r.2.1.length = al.length → W p l e R s m args below meth c H' locs' (cells + r.2.2.2.2.1) (slots + r.2.2.2.2.2) Q (F0 m r.1 ls' (r.2.2.1.map (a_ren ad')))) : W p l e R s m args below meth c H locs cells slots Q (F0 m pc ls (st.map (a_ren ad))) := by
  obtain ⟨hx, hlt, hb, hown, hini, hts, hK, hB, hxt⟩ := cx
  obtain ⟨hKC, hKA, hKN, hKW, -⟩ := hK
  have hdg := a_ins_ok hi
  have hls : ls.size = c.maxLocals := hl.1.trans hsz
  obtain ⟨pc', al', st', h', c', s'⟩ := r
  dsimp only at kk hRc hRs
  unfold a_stp at hr
  split at hr
  · rename_i r' h1
    cases hr
    unfold a_sw at h1
    split at h1
    · split at h1
      · rename_i hc
        rw [Option.map_eq_some_iff] at h1
        obtain ⟨t, h2, h3⟩ := h1
        cases h3
        exact lv_tableOut hx hb hdg hc (a_tgt_ok h2) (kk ad H locs ls a_same.rf hH hS hl rfl)
      · rename_i hc
        rw [Option.bind_eq_some_iff] at h1
        obtain ⟨off, h0, h1⟩ := h1
        rw [Option.map_eq_some_iff] at h1
        obtain ⟨t, h2, h3⟩ := h1
        cases h3
        exact lv_tableIn hx hb hdg (fun q => hc (Or.inl q)) (fun q => hc (Or.inr q)) h0 (a_tgt_ok h2) (kk ad H locs ls a_same.rf hH hS hl rfl)
    · cases h1
  · split at hr
    · rename_i hlen
      subst hlen
      split at hr
      · rename_i h1
        cases hr
        refine a_st1_ok hx hb hdg h1 hl hH.2.1 (fun e1 e2 ls' hl' => ?_)
        have e3 : h' = h ∧ c' = 0 ∧ s' = 0 := by cases e1; exact ⟨rfl, rfl, rfl⟩
        obtain ⟨rfl, rfl, rfl⟩ := e3
        exact kk ad H locs ls' a_same.rf hH hS hl' e2
      · split at hr
        · rename_i h1
          cases hr
          refine a_st4_ok hx hb hdg hown hini hts hKC hKA hH hS h1 (fun H' locs' g1 g2 g3 e1 e2 => ?_)
          have e3 : c' = 0 ∧ s' = 0 := by cases e1; exact ⟨rfl, rfl⟩
          obtain ⟨rfl, rfl⟩ := e3
          have e4 : al' = al := e2
          subst e4
          exact kk ad H' locs' ls a_same.rf g1 g2 hl rfl
        · split at hr
          · rename_i h1
            cases hr
            refine a_st2_ok hx hb hdg h1 (fun e1 e2 => ?_)
            have e3 : h' = h ∧ c' = 0 ∧ s' = 0 := by cases e1; exact ⟨rfl, rfl, rfl⟩
            obtain ⟨rfl, rfl, rfl⟩ := e3
            have e4 : al' = al := e2
            subst e4
            exact kk ad H locs ls a_same.rf hH hS hl rfl
          · split at hr
            · rename_i h1
              cases hr
              refine a_st3_ok hx hb hdg hKA hH h1 (fun e1 e2 => ?_)
              have e3 : h' = h ∧ c' = 0 ∧ s' = 0 := by cases e1; exact ⟨rfl, rfl, rfl⟩
              obtain ⟨rfl, rfl, rfl⟩ := e3
              have e4 : al' = al := e2
              subst e4
              exact kk ad H locs ls a_same.rf hH hS hl rfl
            · split at hr
              · rename_i h1
                cases hr
                refine a_st5_ok hx hb hdg hown hls hts hKC hKA hKN hKW hB hH hS hw h1 hRf hRl hRc hRs (fun ad' H' locs' g1 g2 g3 g4 e2 => ?_)
                have e4 : al' = al := e2
                subst e4
                exact kk ad' H' locs' ls g1 g2 g3 (hl.same g1 hw.1) rfl
              · refine a_st6_ok hx hb hown hts hKN hB hH hS hdg hr hw hRc hRs (fun ad' H' locs' g1 g2 g3 e2 => ?_)
                have e4 : al' = al := e2
                subst e4
                exact kk ad' H' locs' ls g1 g2 g3 (hl.same g1 hw.1) rfl
    · cases hr
end AX
