/-! One step on values known in part: (pc, locals, stack, what is known) -/
abbrev BZ : Type := Nat × BL × List BV × BG
def b_cv (v : Value) : BV := match v with
  | .int x => (0, 0, x.toInt)
  | .long x => (8, 0, x.toInt)
  | .float _ => (5, 0, 0)
  | .double _ => (6, 0, 0)
  | _ => (9, 0, 0)
def b_lg (bl : BL) (i : Nat) : Option BV := (bl[i]?).getD none
def b_kill (bl : BL) (i : Nat) : BL := match i with
  | 0 => bl
  | j + 1 => if (b_lg bl j).any b_two then bl.set j none else bl
def b_sto (bl : BL) (k : Nat) (b : BV) : Option BL := if b_two b = true then (if k + 1 < bl.length then some (((b_kill bl k).set k (some b)).set (k + 1) none) else none) else (if k < bl.length then some ((b_kill bl k).set k (some b)) else none)
/-- constants, locals, jumps, the stack -/
def b_st1 (K : BH) (i : Instr) (pc : Nat) (bl : BL) (bs : List BV) (G : BG) : Option (List BZ) :=
  match a_const i with
  | some v => some [(pc + a_len i, bl, b_cv v :: bs, G)]
  | none => match a_load i with
  | some (k, kd) => match b_lg bl k with
    | some b => if b_kd b = kd then some [(pc + a_len i, bl, b :: bs, G)] else none
    | none => none
  | none => match a_store i with
  | some (k, kd) => match bs with
    | b :: bs => if b_kd b = kd then (b_sto bl k b).map (fun bl' => [(pc + a_len i, bl', bs, G)]) else none
    | [] => none
  | none => match i, bs with
  | .iinc k n, bs => match b_lg bl k with
    | some b => if b.1 < 2 then (b_sto bl k (b_ar G 1 b (0, 0, (Int32.ofInt n).toInt)).1).map (fun bl' => [(pc + 3, bl', bs, (b_ar G 1 b (0, 0, (Int32.ofInt n).toInt)).2)]) else none
    | none => none
  | .goto off, bs => (a_tgt pc off).map (fun t => [(t, bl, bs, G)])
  | .ifCond c off, x :: bs => if x.1 < 2 then (a_tgt pc off).map (fun t => (b_cnd G c x (0, 0, 0) t (pc + 3)).map fun o => (o.1, bl, bs, o.2)) else none
  | .if_icmp c off, y :: x :: bs => if x.1 < 2 ∧ y.1 < 2 then (a_tgt pc off).map (fun t => (b_cnd G c x y t (pc + 3)).map fun o => (o.1, bl, bs, o.2)) else none
  | .if_acmp .eq off, y :: x :: bs => match b_row K G.1 x, b_row K G.1 y with
    | some _, some _ => (a_tgt pc off).map (fun t => [(t, bl, bs, G), (pc + 3, bl, bs, G)])
    | _, _ => none
  | .dup, v :: bs => if b_two v = false then some [(pc + 1, bl, v :: v :: bs, G)] else none
  | .dup2, v :: u :: bs => if b_two v = false ∧ b_two u = false then some [(pc + 1, bl, v :: u :: v :: u :: bs, G)] else none
  | .pop, v :: bs => if b_two v = false then some [(pc + 1, bl, bs, G)] else none
  | _, _ => none
section BS
variable {K : BH} {ν : BN} {h0 h : AH} {G : BG}
/-- an abstract state stands for a real one -/
def b_Z (K : BH) (ν : BN) (h0 : AH) (N : Nat) (o : BZ) (pc : Nat) (al : AL) (st : List Value) (h : AH) : Prop := o.1 = pc ∧ ∃ ν', b_ext N o.2.2.2.1.length ν ν' ∧ b_L o.2.2.2.1.length ν' o.2.1 al ∧ b_S o.2.2.2.1.length ν' o.2.2.1 st ∧ b_G K ν' h0 h o.2.2.2
theorem b_cv_ok {N : Nat} {i : Instr} {v : Value} (h : a_const i = some v) : b_v N ν (b_cv v) v := by
  cases i <;> simp only [a_const] at h <;> (try (cases h; done))
  all_goals first
    | (cases h; exact Or.inl ⟨rfl, rfl⟩)
    | (cases h; exact Or.inr (Or.inl ⟨rfl, rfl⟩))
    | (split at h <;> first | (cases h; done) | (cases h; exact Or.inl ⟨rfl, by decide +kernel⟩) | (cases h; exact Or.inl rfl))
theorem b_lg_ok {N : Nat} {bl : BL} {al : AL} {i : Nat} {b : BV} (hl : b_L N ν bl al) (h : b_lg bl i = some b) : ∃ v, a_get al i = some v ∧ b_v N ν b v := by
  unfold b_lg at h
  refine hl.2 i b ?_
  cases hq : bl[i]? with
  | none => rw [hq] at h; cases h
  | some o => rw [hq] at h; have h : o = some b := h; rw [h]
theorem b_kill_len {bl : BL} {i : Nat} : (b_kill bl i).length = bl.length := by
  unfold b_kill
  split
  · rfl
  · split
    · rw [List.length_set]
    · rfl
theorem b_kill_ok {N : Nat} {bl : BL} {al : AL} {i : Nat} (hl : b_L N ν bl al) : b_L N ν (b_kill bl i) (a_kill al i) := by
  refine ⟨by rw [b_kill_len, a_kill_len]; exact hl.1, ?_⟩
  cases i with
  | zero => exact hl.2
  | succ j =>
    intro k b hk
    have hk : (if (b_lg bl j).any b_two then bl.set j none else bl)[k]? = some (some b) := hk
    have hk' : bl[k]? = some (some b) ∧ ¬ (k = j ∧ b_two b = true) := by
      split at hk
      · rw [List.getElem?_set] at hk
        split at hk
        · split at hk <;> cases hk
        · rename_i e
          exact ⟨hk, fun q => e q.1.symm⟩
      · rename_i e
        refine ⟨hk, fun q => e ?_⟩
        unfold b_lg
        rw [← q.1, hk]
        exact q.2
    obtain ⟨v, h1, h2⟩ := hl.2 k b hk'.1
    refine ⟨v, ?_, h2⟩
    unfold a_kill
    dsimp only
    split
    · rename_i e
      rw [a_get_set]
      split
      · rename_i e2
        exfalso
        have e3 : k = j := e2.1.symm
        rw [← e3, h1] at e
        have e4 : v.category = 2 := by simpa using e
        rw [h2.cat] at e4
        split at e4
        · rename_i e5
          exact hk'.2 ⟨e3, e5⟩
        · exact absurd e4 (by decide)
      · exact h1
    · exact h1
theorem b_set_ok {N : Nat} {bl : BL} {al : AL} {k : Nat} {b : BV} {v : Value} (hl : b_L N ν bl al) (hv : b_v N ν b v) (hk : k < bl.length) : b_L N ν (bl.set k (some b)) (al.set k (some v)) := by
  refine ⟨by rw [List.length_set, List.length_set]; exact hl.1, fun i b' hi => ?_⟩
  rw [List.getElem?_set] at hi
  split at hi
  · rename_i e
    subst e
    (try rw [if_pos hk] at hi)
    cases hi
    refine ⟨v, ?_, hv⟩
    rw [a_get_set, if_pos ⟨rfl, by rw [← hl.1]; exact hk⟩]
  · rename_i e
    obtain ⟨w, h1, h2⟩ := hl.2 i b' hi
    refine ⟨w, ?_, h2⟩
    rw [a_get_set, if_neg (fun q => e q.1)]
    exact h1
theorem b_setN_ok {N : Nat} {bl : BL} {al : AL} {k : Nat} (hl : b_L N ν bl al) : b_L N ν (bl.set k none) (al.set k none) := by
  refine ⟨by rw [List.length_set, List.length_set]; exact hl.1, fun i b' hi => ?_⟩
  rw [List.getElem?_set] at hi
  split at hi
  · split at hi <;> cases hi
  · rename_i e
    obtain ⟨w, h1, h2⟩ := hl.2 i b' hi
    refine ⟨w, ?_, h2⟩
    rw [a_get_set, if_neg (fun q => e q.1)]
    exact h1
theorem b_sto_ok {N : Nat} {bl bl' : BL} {al : AL} {k : Nat} {b : BV} {v : Value} (hl : b_L N ν bl al) (hv : b_v N ν b v) (hs : b_sto bl k b = some bl') : ∃ al', a_sto al k v = some al' ∧ b_L N ν bl' al' := by
  have hc := hv.cat
  unfold b_sto at hs
  unfold a_sto
  split at hs
  · rename_i e
    rw [if_pos e] at hc
    rw [if_pos hc]
    split at hs
    · rename_i e2
      cases hs
      rw [if_pos (by rw [← hl.1]; exact e2)]
      exact ⟨_, rfl, b_setN_ok (b_set_ok (b_kill_ok hl) hv (by rw [b_kill_len]; omega))⟩
    · cases hs
  · rename_i e
    rw [if_neg e] at hc
    rw [if_neg (by rw [hc]; decide)]
    split at hs
    · rename_i e2
      cases hs
      rw [if_pos (by rw [← hl.1]; exact e2)]
      exact ⟨_, rfl, b_set_ok (b_kill_ok hl) hv (by rw [b_kill_len]; omega)⟩
    · cases hs
theorem b_st1_ok (g : b_G K ν h0 h G) {i : Instr} {pc : Nat} {bl : BL} {bs : List BV} {al : AL} {st : List Value} {L : List BZ} (hl : b_L G.1.length ν bl al) (hs : b_S G.1.length ν bs st) (hr : b_st1 K i pc bl bs G = some L) : ∃ pc' al' st', a_st1 i pc al st h = some (pc', al', st', h, 0, 0) ∧ ∃ o ∈ L, b_Z K ν h0 G.1.length o pc' al' st' h := by
  unfold b_st1 at hr
  unfold a_st1
  split at hr
  · rename_i v hv
    cases hr
    rw [hv]
    exact ⟨_, _, _, rfl, _, List.mem_cons_self, rfl, ν, b_ext.rf, hl, b_S.cons (b_cv_ok hv) hs, g⟩
  rename_i hc0
  rw [hc0]
  dsimp only
  split at hr
  · rename_i k kd hv
    rw [hv]
    dsimp only
    split at hr
    · rename_i b hb
      obtain ⟨v, h1, h2⟩ := b_lg_ok hl hb
      split at hr
      · rename_i e
        cases hr
        rw [h1]
        dsimp only
        rw [if_pos (by rw [h2.kind]; exact e)]
        exact ⟨_, _, _, rfl, _, List.mem_cons_self, rfl, ν, b_ext.rf, hl, b_S.cons h2 hs, g⟩
      · cases hr
    · cases hr
  rename_i hl0
  rw [hl0]
  dsimp only
  split at hr
  · rename_i k kd hv
    rw [hv]
    dsimp only
    split at hr
    · rename_i b bs'
      obtain ⟨v, st', rfl, h1, h2⟩ := hs.inv
      split at hr
      · rename_i e
        rw [Option.map_eq_some_iff] at hr
        obtain ⟨bl', k1, rfl⟩ := hr
        obtain ⟨al', k2, k3⟩ := b_sto_ok hl h1 k1
        dsimp only
        rw [if_pos (by rw [h1.kind]; exact e), k2]
        exact ⟨_, _, _, rfl, _, List.mem_cons_self, rfl, ν, b_ext.rf, k3, h2, g⟩
      · cases hr
    · cases hr
  rename_i hs0
  rw [hs0]
  dsimp only
  split at hr
  · rename_i k n
    split at hr
    · rename_i b hb
      split at hr
      · rename_i e
        rw [Option.map_eq_some_iff] at hr
        obtain ⟨bl', k1, rfl⟩ := hr
        obtain ⟨v, h1, h2⟩ := b_lg_ok hl hb
        obtain ⟨x, rfl, h3⟩ := h2.int e
        obtain ⟨ν', x1, g1, v1⟩ := b_ar_ok g (op := 1) (y := (0, 0, (Int32.ofInt n).toInt)) (Y := Int32.ofInt n) h3 (Or.inl ⟨rfl, rfl⟩)
        obtain ⟨al', k2, k3⟩ := b_sto_ok (hl.ext x1) v1 k1
        dsimp only
        rw [h1]
        dsimp only
        have k2' : a_sto al k (.int (x + Int32.ofInt n)) = some al' := k2
        rw [k2']
        exact ⟨_, _, _, rfl, _, List.mem_cons_self, rfl, ν', x1, k3, hs.ext x1, g1⟩
      · cases hr
    · cases hr
  · rw [Option.map_eq_some_iff] at hr
    obtain ⟨t, k1, rfl⟩ := hr
    dsimp only
    rw [k1]
    exact ⟨_, _, _, rfl, _, List.mem_cons_self, rfl, ν, b_ext.rf, hl, hs, g⟩
  · rename_i c off x bs'
    split at hr
    · rename_i e
      rw [Option.map_eq_some_iff] at hr
      obtain ⟨t, k1, rfl⟩ := hr
      obtain ⟨v, st', rfl, h1, h2⟩ := hs.inv
      obtain ⟨X, rfl, h3⟩ := h1.int e
      obtain ⟨o, o1, o2, o3, o4⟩ := b_cnd_ok g (c := c) (y := (0, 0, 0)) (Y := 0) (t := t) (n := pc + 3) h3 (Or.inl ⟨rfl, rfl⟩)
      have e1 : a_br pc (a_if1 c X) off = some (if a_if1 c X = true then t else pc + 3) := by unfold a_br; rw [k1]; rfl
      dsimp only
      rw [e1]
      refine ⟨_, _, _, rfl, _, List.mem_map.mpr ⟨o, o1, rfl⟩, ?_, ν, ?_, ?_, ?_, o3⟩
      · show o.1 = _
        rw [o2, s_if1]
      · show b_ext _ o.2.1.length _ _; rw [o4]; exact b_ext.rf
      · show b_L o.2.1.length _ _ _; rw [o4]; exact hl
      · show b_S o.2.1.length _ _ _; rw [o4]; exact h2
    · cases hr
  · rename_i c off y x bs'
    split at hr
    · rename_i e
      rw [Option.map_eq_some_iff] at hr
      obtain ⟨t, k1, rfl⟩ := hr
      obtain ⟨v, st', rfl, h1, h2⟩ := hs.inv
      obtain ⟨v2, st2, rfl, h4, h5⟩ := h2.inv
      obtain ⟨Y, rfl, h3⟩ := h1.int e.2
      obtain ⟨X, rfl, h6⟩ := h4.int e.1
      obtain ⟨o, o1, o2, o3, o4⟩ := b_cnd_ok g (c := c) (t := t) (n := pc + 3) h6 h3
      have e1 : a_br pc (a_if2 c X Y) off = some (if a_if2 c X Y = true then t else pc + 3) := by unfold a_br; rw [k1]; rfl
      dsimp only
      rw [e1]
      refine ⟨_, _, _, rfl, _, List.mem_map.mpr ⟨o, o1, rfl⟩, o2, ν, ?_, ?_, ?_, o3⟩
      · show b_ext _ o.2.1.length _ _; rw [o4]; exact b_ext.rf
      · show b_L o.2.1.length _ _ _; rw [o4]; exact hl
      · show b_S o.2.1.length _ _ _; rw [o4]; exact h5
    · cases hr
  · rename_i off y x bs'
    split at hr
    · rename_i qx qy hx hy
      rw [Option.map_eq_some_iff] at hr
      obtain ⟨t, k1, rfl⟩ := hr
      obtain ⟨v, st', rfl, h1, h2⟩ := hs.inv
      obtain ⟨v2, st2, rfl, h4, h5⟩ := h2.inv
      obtain ⟨a, rfl, ha⟩ := h1.ref (b_row_rf hy)
      obtain ⟨b, rfl, hb⟩ := h4.ref (b_row_rf hx)
      have la : a < h.length := by
        obtain ⟨z1, z2⟩ := b_row_ok g.1 ha hy
        obtain ⟨vs, z3, -⟩ := g.2.2.2.2.1.1 a _ _ z1 z2
        exact (List.getElem?_eq_some_iff.mp z3).1
      have lb : b < h.length := by
        obtain ⟨z1, z2⟩ := b_row_ok g.1 hb hx
        obtain ⟨vs, z3, -⟩ := g.2.2.2.2.1.1 b _ _ z1 z2
        exact (List.getElem?_eq_some_iff.mp z3).1
      have e1 : a_br pc (decide (b = a)) off = some (if decide (b = a) = true then t else pc + 3) := by unfold a_br; rw [k1]; rfl
      dsimp only
      rw [if_pos ⟨lb, la⟩, e1]
      by_cases q : b = a
      · exact ⟨_, _, _, rfl, _, List.mem_cons_self, by rw [if_pos (decide_eq_true q)], ν, b_ext.rf, hl, h5, g⟩
      · exact ⟨_, _, _, rfl, _, List.mem_cons_of_mem _ List.mem_cons_self, by rw [if_neg (by simpa using q)], ν, b_ext.rf, hl, h5, g⟩
    · cases hr
  · split at hr
    · rename_i e
      cases hr
      obtain ⟨v, st', rfl, h1, h2⟩ := hs.inv
      have hc : v.category = 1 := by rw [h1.cat, if_neg (by rw [e]; decide)]
      dsimp only
      rw [if_pos hc]
      exact ⟨_, _, _, rfl, _, List.mem_cons_self, rfl, ν, b_ext.rf, hl, b_S.cons h1 (b_S.cons h1 h2), g⟩
    · cases hr
  · split at hr
    · rename_i e
      cases hr
      obtain ⟨v, st', rfl, h1, h2⟩ := hs.inv
      obtain ⟨v2, st2, rfl, h4, h5⟩ := h2.inv
      have hc : v.category = 1 := by rw [h1.cat, if_neg (by rw [e.1]; decide)]
      have hc2 : v2.category = 1 := by rw [h4.cat, if_neg (by rw [e.2]; decide)]
      dsimp only
      rw [if_pos ⟨hc, hc2⟩]
      exact ⟨_, _, _, rfl, _, List.mem_cons_self, rfl, ν, b_ext.rf, hl, b_S.cons h1 (b_S.cons h4 (b_S.cons h1 (b_S.cons h4 h5))), g⟩
    · cases hr
  · split at hr
    · rename_i e
      cases hr
      obtain ⟨v, st', rfl, h1, h2⟩ := hs.inv
      have hc : v.category = 1 := by rw [h1.cat, if_neg (by rw [e]; decide)]
      dsimp only
      rw [if_pos hc]
      exact ⟨_, _, _, rfl, _, List.mem_cons_self, rfl, ν, b_ext.rf, hl, h2, g⟩
    · cases hr
  · cases hr
end BS
