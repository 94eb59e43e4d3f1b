/-! The abstract machine's steps are the machine's: locals and stack -/
theorem a_ren_cat (ad : Nat → Nat) (v : Value) : (a_ren ad v).category = v.category := by cases v <;> rfl
def a_lv (ad : Nat → Nat) (al : AL) : List (Nat × Value) := (List.range al.length).filterMap (fun i => (a_get al i).map (fun v => (i, a_ren ad v)))
def a_L (ad : Nat → Nat) (al : AL) (ls : Array Slot) : Prop := ls.size = al.length ∧ lv_wf ls ∧ ∀ (i : Nat) (v : Value), a_get al i = some v → ls[i]? = some (.val (a_ren ad v))
theorem a_get_lt {al : AL} {i : Nat} {v : Value} (h : a_get al i = some v) : i < al.length := by
  rcases Nat.lt_or_ge i al.length with q | q
  · exact q
  · unfold a_get at h
    rw [List.getElem?_eq_none q] at h
    cases h
theorem a_lv_mem {ad : Nat → Nat} {al : AL} {i : Nat} {w : Value} : (i, w) ∈ a_lv ad al ↔ ∃ v, a_get al i = some v ∧ w = a_ren ad v := by
  unfold a_lv
  rw [List.mem_filterMap]
  constructor
  · rintro ⟨j, -, hj⟩
    rw [Option.map_eq_some_iff] at hj
    obtain ⟨v, h1, h2⟩ := hj
    cases h2
    exact ⟨v, h1, rfl⟩
  · rintro ⟨v, h1, rfl⟩
    exact ⟨i, List.mem_range.mpr (a_get_lt h1), by rw [h1]; rfl⟩
theorem a_L.has {ad : Nat → Nat} {al : AL} {ls : Array Slot} (h : a_L ad al ls) : lv_has ls al.length (a_lv ad al) := by
  refine ⟨h.1, h.2.1, fun q hq => ?_⟩
  obtain ⟨i, w⟩ := q
  obtain ⟨v, h1, rfl⟩ := a_lv_mem.mp hq
  exact h.2.2 i v h1
theorem a_get_set {al : AL} {i j : Nat} {o : Option Value} : a_get (al.set i o) j = if i = j ∧ j < al.length then o else a_get al j := by
  unfold a_get
  rw [List.getElem?_set]
  by_cases h : i = j
  · subst h
    by_cases h2 : i < al.length
    · simp [h2]
    · simp [h2]
  · simp [h]
theorem a_kill_len (al : AL) (i : Nat) : (a_kill al i).length = al.length := by
  unfold a_kill
  split
  · rfl
  · split
    · rw [List.length_set]
    · rfl
theorem a_kill_get {al : AL} {i j : Nat} {v : Value} (h : a_get (a_kill al i) j = some v) : a_get al j = some v ∧ ¬ (j + 1 = i ∧ v.category = 2) := by
  unfold a_kill at h
  split at h
  · exact ⟨h, fun q => by omega⟩
  · rename_i k
    split at h
    · rename_i h2
      rw [a_get_set] at h
      split at h
      · cases h
      · rename_i h3
        refine ⟨h, fun q => h3 ⟨by omega, a_get_lt h⟩⟩
    · rename_i h2
      refine ⟨h, fun q => h2 ?_⟩
      have e : j = k := by omega
      subst e
      rw [h]
      simp [q.2]
theorem a_L.set1 {ad : Nat → Nat} {al : AL} {ls : Array Slot} {i n : Nat} {v : Value} (hn : al.length = n) (hi : i < n) (h : lv_has ls n ((i, a_ren ad v) :: (a_lv ad al).filter (fun q => !(q.1 == i) && !(q.1 + 1 == i && q.2.category == 2)))) : a_L ad (a_set1 al i v) ls := by
  refine ⟨by rw [h.1, a_set1, List.length_set, a_kill_len, hn], h.2.1, fun j w hj => ?_⟩
  unfold a_set1 at hj
  rw [a_get_set] at hj
  split at hj
  · rename_i h1
    cases hj
    exact h.2.2 (j, a_ren ad v) (by rw [h1.1]; exact List.mem_cons_self)
  · rename_i h1
    rw [a_kill_len, hn] at h1
    obtain ⟨h2, h3⟩ := a_kill_get hj
    have h4 := a_get_lt h2
    refine h.2.2 (j, a_ren ad w) (List.mem_cons_of_mem _ (List.mem_filter.mpr ⟨a_lv_mem.mpr ⟨w, h2, rfl⟩, ?_⟩))
    have h5 : ¬ j = i := fun q => h1 ⟨q.symm, by omega⟩
    simp only [a_ren_cat]
    by_cases h6 : j + 1 = i
    · have h7 : ¬ w.category = 2 := fun q => h3 ⟨h6, q⟩
      simp [h5, h7]
    · simp [h5, h6]
theorem a_L.set2 {ad : Nat → Nat} {al : AL} {ls : Array Slot} {i n : Nat} {v : Value} (hn : al.length = n) (hi : i + 1 < n) (h : lv_has ls n ((i, a_ren ad v) :: (a_lv ad al).filter (fun q => !(q.1 == i) && (!(q.1 == i + 1) && !(q.1 + 1 == i && q.2.category == 2))))) : a_L ad (a_set2 al i v) ls := by
  refine ⟨by rw [h.1, a_set2, List.length_set, List.length_set, a_kill_len, hn], h.2.1, fun j w hj => ?_⟩
  unfold a_set2 at hj
  rw [a_get_set] at hj
  split at hj
  · cases hj
  · rename_i h0
    rw [List.length_set, a_kill_len, hn] at h0
    rw [a_get_set] at hj
    split at hj
    · rename_i h1
      cases hj
      exact h.2.2 (j, a_ren ad v) (by rw [h1.1]; exact List.mem_cons_self)
    · rename_i h1
      rw [a_kill_len, hn] at h1
      obtain ⟨h2, h3⟩ := a_kill_get hj
      have h4 := a_get_lt h2
      refine h.2.2 (j, a_ren ad w) (List.mem_cons_of_mem _ (List.mem_filter.mpr ⟨a_lv_mem.mpr ⟨w, h2, rfl⟩, ?_⟩))
      have h5 : ¬ j = i := fun q => h1 ⟨q.symm, by omega⟩
      have h8 : ¬ j = i + 1 := fun q => h0 ⟨q.symm, by omega⟩
      simp only [a_ren_cat]
      by_cases h6 : j + 1 = i
      · have h7 : ¬ w.category = 2 := fun q => h3 ⟨h6, q⟩
        simp [h5, h7, h8]
      · simp [h5, h6, h8]
theorem a_tgt_ok {pc t : Nat} {off : Int} (h : a_tgt pc off = some t) : (pc : Int) + off = (t : Int) := by
  unfold a_tgt at h
  split at h
  · rename_i h1
    cases h
    omega
  · cases h

section AW
variable {p : Program} {l : Launch} {e : Env} {R : Room} {s : State} {m : MethodId} {args : Array Value} {below : List Frame} {meth : Method} {c : Code} {H : Heap} {locs : List Loc} {cells slots : Nat} {Q : State → Prop} {cc : ByteArray} {pc : Nat} {ls : Array Slot} {rest : List Value} {i : Instr}
theorem a_const_ok (hx : p.tables.exec = Jvm.exec) (hb : c.code = cc) (hdg : decode cc pc = .ok (i, a_len i)) {v : Value} (h : a_const i = some v) (ad : Nat → Nat) (k : W p l e R s m args below meth c H locs cells slots Q (F0 m (pc + a_len i) ls (a_ren ad v :: rest))) : W p l e R s m args below meth c H locs cells slots Q (F0 m pc ls rest) := by
  cases i <;> simp only [a_const] at h <;> (try (cases h; done))
  · cases h; exact lv_bipush hx hb hdg rfl k
  · rename_i n
    split at h
    · rename_i h1; subst h1; cases h; exact lv_dconst0 hx hb hdg k
    · cases h
  · rename_i n
    split at h
    · rename_i h1; subst h1; cases h; exact lv_fconst0 hx hb hdg k
    · cases h
  · cases h; exact lv_iconst hx hb hdg rfl k
  · cases h; exact lv_lconst hx hb hdg rfl k
  · cases h; exact lv_sipush hx hb hdg rfl k
theorem a_load_ok (hx : p.tables.exec = Jvm.exec) (hb : c.code = cc) (hdg : decode cc pc = .ok (i, a_len i)) {j kd : Nat} {v : Value} (h : a_load i = some (j, kd)) (hk : a_kind v = kd) {ad : Nat → Nat} (hl : ls[j]? = some (.val (a_ren ad v))) (k : W p l e R s m args below meth c H locs cells slots Q (F0 m (pc + a_len i) ls (a_ren ad v :: rest))) : W p l e R s m args below meth c H locs cells slots Q (F0 m pc ls rest) := by
  cases i <;> simp only [a_load] at h <;> (try (cases h; done)) <;> cases h <;> cases v <;> (try (cases hk; done))
  · exact lv_aload hx hb hdg hl k
  · exact lv_aload_n hx hb hdg rfl hl k
  · exact lv_dload hx hb hdg hl k
  · exact lv_fload hx hb hdg hl k
  · exact lv_iload hx hb hdg hl k
  · exact lv_iload_n hx hb hdg rfl hl k
  · exact lv_lload hx hb hdg hl k
  · exact lv_lload_n hx hb hdg rfl hl k
theorem a_sto1 {al al' : AL} {j : Nat} {v : Value} (hc : v.category = 1) (h : a_sto al j v = some al') : j < al.length ∧ a_set1 al j v = al' := by
  unfold a_sto at h
  rw [hc, if_neg (by decide)] at h
  split at h
  · cases h; exact ⟨by assumption, rfl⟩
  · cases h
theorem a_sto2 {al al' : AL} {j : Nat} {v : Value} (hc : v.category = 2) (h : a_sto al j v = some al') : j + 1 < al.length ∧ a_set2 al j v = al' := by
  unfold a_sto at h
  rw [hc, if_pos rfl] at h
  split at h
  · cases h; exact ⟨by assumption, rfl⟩
  · cases h
theorem a_store_ok (hx : p.tables.exec = Jvm.exec) (hb : c.code = cc) (hdg : decode cc pc = .ok (i, a_len i)) {j kd : Nat} {v : Value} {al al' : AL} (h : a_store i = some (j, kd)) (hk : a_kind v = kd) {ad : Nat → Nat} (hs : a_sto al j v = some al') (hl : a_L ad al ls) (k : ∀ ls' : Array Slot, a_L ad al' ls' → W p l e R s m args below meth c H locs cells slots Q (F0 m (pc + a_len i) ls' rest)) : W p l e R s m args below meth c H locs cells slots Q (F0 m pc ls (a_ren ad v :: rest)) := by
  cases i <;> simp only [a_store] at h <;> (try (cases h; done)) <;> cases h <;> cases v <;> (try (cases hk; done))
  · obtain ⟨hj, rfl⟩ := a_sto1 rfl hs; exact lv_astore hx hb hdg hl.has hj rfl (fun ls' q => k ls' (a_L.set1 (v := .ref _) rfl hj q))
  · obtain ⟨hj, rfl⟩ := a_sto1 rfl hs; exact lv_astore_n hx hb hdg rfl hl.has hj rfl (fun ls' q => k ls' (a_L.set1 (v := .ref _) rfl hj q))
  · obtain ⟨hj, rfl⟩ := a_sto2 rfl hs; exact lv_dstore hx hb hdg hl.has hj rfl (fun ls' q => k ls' (a_L.set2 (v := .double _) rfl hj q))
  · obtain ⟨hj, rfl⟩ := a_sto1 rfl hs; exact lv_fstore hx hb hdg hl.has hj rfl (fun ls' q => k ls' (a_L.set1 (v := .float _) rfl hj q))
  · obtain ⟨hj, rfl⟩ := a_sto1 rfl hs; exact lv_istore hx hb hdg hl.has hj rfl (fun ls' q => k ls' (a_L.set1 (v := .int _) rfl hj q))
  · obtain ⟨hj, rfl⟩ := a_sto1 rfl hs; exact lv_istore_n hx hb hdg rfl hl.has hj rfl (fun ls' q => k ls' (a_L.set1 (v := .int _) rfl hj q))
  · obtain ⟨hj, rfl⟩ := a_sto2 rfl hs; exact lv_lstore hx hb hdg hl.has hj rfl (fun ls' q => k ls' (a_L.set2 (v := .long _) rfl hj q))
  · obtain ⟨hj, rfl⟩ := a_sto2 rfl hs; exact lv_lstore_n hx hb hdg rfl hl.has hj rfl (fun ls' q => k ls' (a_L.set2 (v := .long _) rfl hj q))
theorem a_br_ok {b : Bool} {off : Int} {t : Nat} (h : a_br pc b off = some t) : ∃ t0 : Nat, (pc : Int) + off = (t0 : Int) ∧ (b = true → t = t0) ∧ (b = false → t = pc + 3) := by
  unfold a_br at h
  rw [Option.map_eq_some_iff] at h
  obtain ⟨t0, h1, h2⟩ := h
  refine ⟨t0, a_tgt_ok h1, fun hb => ?_, fun hb => ?_⟩
  · rw [hb, if_pos rfl] at h2; exact h2.symm
  · rw [hb, if_neg (by decide)] at h2; exact h2.symm
theorem a_if1_ok (hx : p.tables.exec = Jvm.exec) (hb : c.code = cc) {k : Jvm.ClassFile.Cond} {off : Int} {x : Int32} {t : Nat} (hdg : decode cc pc = .ok (.ifCond k off, 3)) (h : a_br pc (a_if1 k x) off = some t) (kk : W p l e R s m args below meth c H locs cells slots Q (F0 m t ls rest)) : W p l e R s m args below meth c H locs cells slots Q (F0 m pc ls (.int x :: rest)) := by
  obtain ⟨t0, h0, h1, h2⟩ := a_br_ok h
  cases k
  · exact lv_if_eq hx hb hdg h0 (fun q => by rw [← h1 (by simp [a_if1, q])]; exact kk) (fun q => by rw [← h2 (by simp [a_if1, q])]; exact kk)
  · exact lv_if_ne hx hb hdg h0 (fun q => by rw [← h1 (by simp [a_if1, q])]; exact kk) (fun q => by rw [← h2 (by simp [a_if1, q])]; exact kk)
  · exact lv_if_lt hx hb hdg h0 (fun q => by rw [← h1 (by simp only [a_if1, q, decide_true])]; exact kk) (fun q => by rw [← h2 (by simp only [a_if1, q, decide_false])]; exact kk)
  · exact lv_if_ge hx hb hdg h0 (fun q => by rw [← h1 (by simp only [a_if1, q, decide_true])]; exact kk) (fun q => by rw [← h2 (by simp only [a_if1, q, decide_false])]; exact kk)
  · exact lv_if_gt hx hb hdg h0 (fun q => by rw [← h1 (by simp only [a_if1, q, decide_true])]; exact kk) (fun q => by rw [← h2 (by simp only [a_if1, q, decide_false])]; exact kk)
  · exact lv_if_le hx hb hdg h0 (fun q => by rw [← h1 (by simp only [a_if1, q, decide_true])]; exact kk) (fun q => by rw [← h2 (by simp only [a_if1, q, decide_false])]; exact kk)
theorem a_if2_ok (hx : p.tables.exec = Jvm.exec) (hb : c.code = cc) {k : Jvm.ClassFile.Cond} {off : Int} {x y : Int32} {t : Nat} (hdg : decode cc pc = .ok (.if_icmp k off, 3)) (h : a_br pc (a_if2 k x y) off = some t) (kk : W p l e R s m args below meth c H locs cells slots Q (F0 m t ls rest)) : W p l e R s m args below meth c H locs cells slots Q (F0 m pc ls (.int y :: .int x :: rest)) := by
  obtain ⟨t0, h0, h1, h2⟩ := a_br_ok h
  cases k
  · exact lv_icmp_eq hx hb hdg h0 (fun q => by rw [← h1 (by simp [a_if2, q])]; exact kk) (fun q => by rw [← h2 (by simp [a_if2, q])]; exact kk)
  · exact lv_icmp_ne hx hb hdg h0 (fun q => by rw [← h1 (by simp [a_if2, q])]; exact kk) (fun q => by rw [← h2 (by simp [a_if2, q])]; exact kk)
  · exact lv_icmp_lt hx hb hdg h0 (fun q => by rw [← h1 (by simp only [a_if2, q, decide_true])]; exact kk) (fun q => by rw [← h2 (by simp only [a_if2, q, decide_false])]; exact kk)
  · exact lv_icmp_ge hx hb hdg h0 (fun q => by rw [← h1 (by simp only [a_if2, q, decide_true])]; exact kk) (fun q => by rw [← h2 (by simp only [a_if2, q, decide_false])]; exact kk)
  · exact lv_icmp_gt hx hb hdg h0 (fun q => by rw [← h1 (by simp only [a_if2, q, decide_true])]; exact kk) (fun q => by rw [← h2 (by simp only [a_if2, q, decide_false])]; exact kk)
  · exact lv_icmp_le hx hb hdg h0 (fun q => by rw [← h1 (by simp only [a_if2, q, decide_true])]; exact kk) (fun q => by rw [← h2 (by simp only [a_if2, q, decide_false])]; exact kk)
/-- constants, locals, jumps, the stack: the machine does the same, the heap stays -/
theorem a_st1_ok (hx : p.tables.exec = Jvm.exec) (hb : c.code = cc) (hdg : decode cc pc = .ok (i, a_len i)) {ad : Nat → Nat} {al : AL} {st : List Value} {h : AH} {r : AS} (hr : a_st1 i pc al st h = some r) (hl : a_L ad al ls) (inj : ∀ j k, j < h.length → k < h.length → ad j = ad k → j = k)
    (kk : r.2.2.2 = (h, 0, 0) → r.2.1.length = al.length → ∀ ls' : Array Slot, a_L ad r.2.1 ls' → W p l e R s m args below meth c H locs cells slots Q (F0 m r.1 ls' (r.2.2.1.map (a_ren ad)))) : W p l e R s m args below meth c H locs cells slots Q (F0 m pc ls (st.map (a_ren ad))) := by
  unfold a_st1 at hr
  split at hr
  · rename_i v hv
    cases hr
    exact a_const_ok hx hb hdg hv ad (kk rfl rfl ls hl)
  split at hr
  · rename_i j kd hv
    split at hr
    · rename_i v hg
      split at hr
      · rename_i hk
        cases hr
        exact a_load_ok hx hb hdg hv hk (hl.2.2 j v hg) (kk rfl rfl ls hl)
      · cases hr
    · cases hr
  split at hr
  · rename_i j kd hv
    split at hr
    · rename_i v st'
      split at hr
      · rename_i hk
        rw [Option.map_eq_some_iff] at hr
        obtain ⟨al', h1, rfl⟩ := hr
        exact a_store_ok hx hb hdg hv hk h1 hl (fun ls' q => kk rfl (by have := q.1; have := hl.1; unfold a_sto at h1; split at h1 <;> split at h1 <;> cases h1 <;> simp [a_set1, a_set2, a_kill_len]) ls' q)
      · cases hr
    · cases hr
  split at hr
  · rename_i k n
    split at hr
    · rename_i x hg
      rw [Option.map_eq_some_iff] at hr
      obtain ⟨al', h1, rfl⟩ := hr
      obtain ⟨hj, rfl⟩ := a_sto1 rfl h1
      obtain ⟨z, hz⟩ := List.getElem?_of_mem (a_lv_mem (ad := ad).mpr ⟨_, hg, rfl⟩)
      exact lv_iinc hx hb hdg hl.has hz rfl hj rfl (fun ls' q => kk rfl (by simp [a_set1, a_kill_len]) ls' (a_L.set1 (v := .int _) rfl hj q))
    · cases hr
  · rw [Option.map_eq_some_iff] at hr
    obtain ⟨t, h1, rfl⟩ := hr
    exact lv_goto hx hb hdg (a_tgt_ok h1) (kk rfl rfl ls hl)
  · rw [Option.map_eq_some_iff] at hr
    obtain ⟨t, h1, rfl⟩ := hr
    exact a_if1_ok hx hb hdg h1 (kk rfl rfl ls hl)
  · rw [Option.map_eq_some_iff] at hr
    obtain ⟨t, h1, rfl⟩ := hr
    exact a_if2_ok hx hb hdg h1 (kk rfl rfl ls hl)
  · rename_i off y x st' _ _ _
    split at hr
    · rename_i hxy
      rw [Option.map_eq_some_iff] at hr
      obtain ⟨t, h1, rfl⟩ := hr
      obtain ⟨t0, h0, h2, h3⟩ := a_br_ok h1
      have k1 := kk rfl rfl ls hl
      have e : (some (ad x) = some (ad y)) ↔ x = y := ⟨fun q => inj x y hxy.1 hxy.2 (Option.some.inj q), fun q => by rw [q]⟩
      exact lv_acmp_eq (rx := some (ad x)) (ry := some (ad y)) hx hb hdg h0 (fun q => by rw [← h2 (decide_eq_true (e.mp q))]; exact k1) (fun q => by rw [← h3 (decide_eq_false (fun z => q (e.mpr z)))]; exact k1)
    · cases hr
  · rename_i v st'
    split at hr
    · rename_i hc
      cases hr
      exact lv_dup hx hb hdg (by rw [a_ren_cat]; exact hc) (kk rfl rfl ls hl)
    · cases hr
  · rename_i v u st'
    split at hr
    · rename_i hc
      cases hr
      exact lv_dup2_11 hx hb hdg (by rw [a_ren_cat]; exact hc.1) (by rw [a_ren_cat]; exact hc.2) (kk rfl rfl ls hl)
    · cases hr
  · rename_i v st'
    split at hr
    · rename_i hc
      cases hr
      exact lv_pop hx hb hdg (by rw [a_ren_cat]; exact hc) (kk rfl rfl ls hl)
    · cases hr
  · cases hr
end AW
