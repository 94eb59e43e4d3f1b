/-! References lie within the heap -/
def a_ok (n : Nat) (v : Value) : Prop := ∀ k : Nat, v = .ref k → k < n
def a_wf (al : AL) (st : List Value) (h : AH) : Prop := (∀ (i : Nat) (v : Value), a_get al i = some v → a_ok h.length v) ∧ (∀ v, v ∈ st → a_ok h.length v) ∧ ∀ (k : Nat) (x : AC), h[k]? = some x → ∀ v, v ∈ x.2 → a_ok h.length v
theorem a_ok_int {n : Nat} (x : Int32) : a_ok n (.int x) := fun k h => by cases h
theorem a_ok_long {n : Nat} (x : Int64) : a_ok n (.long x) := fun k h => by cases h
theorem a_ok_float {n : Nat} (x : UInt32) : a_ok n (.float x) := fun k h => by cases h
theorem a_ok_double {n : Nat} (x : UInt64) : a_ok n (.double x) := fun k h => by cases h
theorem a_ok_null {n : Nat} : a_ok n .null := fun k h => by cases h
theorem a_ok_mono {n m : Nat} {v : Value} (hm : n ≤ m) (h : a_ok n v) : a_ok m v := fun k hk => Nat.lt_of_lt_of_le (h k hk) hm
theorem a_ok_narrow {n : Nat} {ty : FieldType} {x : Int32} : a_ok n (narrow ty (.int x)) := by
  intro k hk
  cases ty <;> simp [narrow] at hk
theorem a_wf.tl {al : AL} {v : Value} {st : List Value} {h : AH} (w : a_wf al (v :: st) h) : a_wf al st h := ⟨w.1, fun u hu => w.2.1 u (List.mem_cons_of_mem _ hu), w.2.2⟩
theorem a_wf.hd {al : AL} {v : Value} {st : List Value} {h : AH} (w : a_wf al (v :: st) h) : a_ok h.length v := w.2.1 v List.mem_cons_self
theorem a_wf.push {al : AL} {v : Value} {st : List Value} {h : AH} (w : a_wf al st h) (hv : a_ok h.length v) : a_wf al (v :: st) h := ⟨w.1, fun u hu => (List.mem_cons.mp hu).elim (fun q => by rw [q]; exact hv) (w.2.1 u), w.2.2⟩
theorem a_wf.loc {al al' : AL} {st : List Value} {h : AH} (w : a_wf al st h) (hl : ∀ (i : Nat) (v : Value), a_get al' i = some v → a_ok h.length v) : a_wf al' st h := ⟨hl, w.2.1, w.2.2⟩
theorem a_wf.upd {al : AL} {st : List Value} {h : AH} (w : a_wf al st h) {a t : Nat} {vs vs' : List Value} (ha : h[a]? = some (t, vs)) (hv : ∀ v, v ∈ vs' → a_ok h.length v) : a_wf al st (h.set a (t, vs')) := by
  refine ⟨fun i v hi => by rw [a_set_len]; exact w.1 i v hi, fun v hu => by rw [a_set_len]; exact w.2.1 v hu, fun k x hk v hx => ?_⟩
  rw [a_set_len]
  rw [List.getElem?_set] at hk
  split at hk
  · split at hk
    · cases hk; exact hv v hx
    · cases hk
  · exact w.2.2 k x hk v hx
theorem a_wf.upd1 {al : AL} {st : List Value} {h : AH} (w : a_wf al st h) {a t n : Nat} {vs : List Value} {v : Value} (ha : h[a]? = some (t, vs)) (hv : a_ok h.length v) : a_wf al st (h.set a (t, vs.set n v)) := by
  refine w.upd ha (fun u hu => ?_)
  rcases List.mem_or_eq_of_mem_set hu with q | q
  · exact w.2.2 a _ ha u q
  · rw [q]; exact hv
theorem a_sto_wf {al al' : AL} {i n : Nat} {v : Value} (hs : a_sto al i v = some al') (hl : ∀ (i : Nat) (v : Value), a_get al i = some v → a_ok n v) (hv : a_ok n v) : ∀ (i : Nat) (v : Value), a_get al' i = some v → a_ok n v := by
  have hk : ∀ (j : Nat) (u : Value), a_get ((a_kill al i).set i (some v)) j = some u → a_ok n u := by
    intro j u hj
    rw [a_get_set] at hj
    split at hj
    · cases hj; exact hv
    · exact hl j u (a_kill_get hj).1
  intro j u hj
  unfold a_sto at hs
  split at hs
  · split at hs
    · cases hs
      unfold a_set2 at hj
      rw [a_get_set] at hj
      split at hj
      · cases hj
      · exact hk j u hj
    · cases hs
  · split at hs
    · cases hs
      exact hk j u hj
    · cases hs
theorem a_const_wf {i : Instr} {v : Value} {n : Nat} (h : a_const i = some v) : a_ok n v := by
  cases i <;> simp only [a_const] at h <;> (try (cases h; done))
  all_goals first
    | (cases h; exact a_ok_int _)
    | (cases h; exact a_ok_long _)
    | (split at h <;> cases h <;> first | exact a_ok_double _ | exact a_ok_float _)
theorem a_st1_wf {i : Instr} {pc : Nat} {al : AL} {st : List Value} {h : AH} {r : AS} (hr : a_st1 i pc al st h = some r) (w : a_wf al st h) : a_wf r.2.1 r.2.2.1 r.2.2.2.1 := by
  unfold a_st1 at hr
  split at hr
  · rename_i v hv
    cases hr
    exact w.push (a_const_wf hv)
  split at hr
  · split at hr
    · rename_i v hg
      split at hr
      · cases hr; exact w.push (w.1 _ _ hg)
      · cases hr
    · cases hr
  split at hr
  · split at hr
    · split at hr
      · rw [Option.map_eq_some_iff] at hr
        obtain ⟨al', h1, rfl⟩ := hr
        exact w.tl.loc (a_sto_wf h1 w.1 w.hd)
      · cases hr
    · cases hr
  split at hr
  · split at hr
    · rw [Option.map_eq_some_iff] at hr
      obtain ⟨al', h1, rfl⟩ := hr
      exact w.loc (a_sto_wf h1 w.1 (a_ok_int _))
    · cases hr
  · rw [Option.map_eq_some_iff] at hr; obtain ⟨t, h1, rfl⟩ := hr; exact w
  · rw [Option.map_eq_some_iff] at hr; obtain ⟨t, h1, rfl⟩ := hr; exact w.tl
  · rw [Option.map_eq_some_iff] at hr; obtain ⟨t, h1, rfl⟩ := hr; exact w.tl.tl
  · split at hr
    · rw [Option.map_eq_some_iff] at hr; obtain ⟨t, h1, rfl⟩ := hr; exact w.tl.tl
    · cases hr
  · split at hr
    · cases hr; exact w.push w.hd
    · cases hr
  · split at hr
    · cases hr; exact (w.push w.tl.hd).push w.hd
    · cases hr
  · split at hr
    · cases hr; exact w.tl
    · cases hr
  · cases hr
theorem a_st2_wf {i : Instr} {pc : Nat} {al : AL} {st : List Value} {h : AH} {r : AS} (hr : a_st2 i pc al st h = some r) (w : a_wf al st h) : a_wf r.2.1 r.2.2.1 r.2.2.2.1 := by
  unfold a_st2 at hr
  split at hr
  · cases hr; exact w.tl.push (a_ok_long _)
  · cases hr; exact w.tl.push (a_ok_int _)
  · cases hr; exact w.tl.push (a_ok_float _)
  · cases hr; exact w.tl.push (a_ok_double _)
  · split at hr <;> cases hr; exact w.tl.push (a_ok_double _)
  · cases hr; exact w.tl.tl.push (a_ok_long _)
  · cases hr; exact w.tl.tl.push (a_ok_long _)
  · cases hr; exact w.tl.tl.push (a_ok_int _)
  · split at hr <;> cases hr; exact w.tl.tl.push (a_ok_float _)
  · split at hr <;> cases hr; exact w.tl.tl.push (a_ok_double _)
  · cases hr; exact w.tl.tl.push (a_ok_int _)
  · cases hr; exact w.tl.tl.push (a_ok_int _)
  · rw [Option.map_eq_some_iff] at hr; obtain ⟨t, h1, rfl⟩ := hr; exact w.tl.tl.push (a_ok_int _)
  · cases hr
theorem a_st3_wf {i : Instr} {pc : Nat} {al : AL} {st : List Value} {h : AH} {r : AS} (hr : a_st3 i pc al st h = some r) (w : a_wf al st h) : a_wf r.2.1 r.2.2.1 r.2.2.2.1 := by
  unfold a_st3 at hr
  split at hr
  · split at hr
    · rename_i t vs ha
      split at hr
      · rw [Option.bind_eq_some_iff] at hr
        obtain ⟨n, h1, hr⟩ := hr
        rw [Option.map_eq_some_iff] at hr
        obtain ⟨v, h2, rfl⟩ := hr
        exact w.tl.tl.push (w.2.2 _ _ ha v (List.mem_of_getElem? h2))
      · cases hr
    · cases hr
  · cases hr
theorem a_ast_wf {i : Instr} {t n : Nat} {x v : Value} (h : a_ast i t x = some v) : a_ok n v := by
  unfold a_ast at h
  split at h
  all_goals first
    | (split at h <;> cases h <;> first | exact a_ok_int _ | exact a_ok_narrow | exact a_ok_long _ | exact a_ok_double _)
    | cases h
theorem a_st4_wf {own : Nat} {ini : Bool} {i : Instr} {pc : Nat} {al : AL} {st : List Value} {h : AH} {r : AS} (hr : a_st4 own ini i pc al st h = some r) (w : a_wf al st h) : a_wf r.2.1 r.2.2.1 r.2.2.2.1 := by
  unfold a_st4 at hr
  split at hr
  · split at hr
    · split at hr <;> cases hr; exact w.tl.push (a_ok_int _)
    · cases hr
  · rw [Option.map_eq_some_iff] at hr; obtain ⟨t, h1, rfl⟩ := hr; exact w.push (a_ok_int _)
  · rw [Option.map_eq_some_iff] at hr; obtain ⟨t, h1, rfl⟩ := hr; exact w.push (a_ok_int _)
  · rw [Option.map_eq_some_iff] at hr; obtain ⟨t, h1, rfl⟩ := hr; exact w.push (a_ok_long _)
  · split at hr
    · split at hr
      · rename_i t vs ha
        split at hr
        · rw [Option.map_eq_some_iff] at hr
          obtain ⟨v, h2, rfl⟩ := hr
          exact w.tl.push (w.2.2 _ _ ha v (List.mem_of_getElem? h2))
        · cases hr
      · cases hr
    · cases hr
  · split at hr
    · split at hr
      · rename_i t vs ha
        split at hr
        · cases hr
          exact (w.tl.tl.upd1 ha w.hd)
        · cases hr
      · cases hr
    · cases hr
  · split at hr
    · rename_i t vs ha
      split at hr
      · rename_i v hv
        rw [Option.map_eq_some_iff] at hr
        obtain ⟨n, h1, rfl⟩ := hr
        exact w.tl.tl.tl.upd1 ha (a_ast_wf hv)
      · cases hr
    · cases hr
  · cases hr
