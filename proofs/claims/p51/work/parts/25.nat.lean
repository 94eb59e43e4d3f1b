/-! Symbols: a value .retAddr n stands for an unknown int; the abstract machine's steps don't look at it -/
/-- the symbols' values, and a cell that no step may look into (its tag is 99) -/
abbrev GV : Type := (Nat → Int32) × AC
def g_v (ρ : GV) (v : Value) : Value := match v with
  | .retAddr n => .int (ρ.1 n)
  | v => v
def g_A (ρ : GV) (al : AL) : AL := al.map (Option.map (g_v ρ))
def g_S (ρ : GV) (st : List Value) : List Value := st.map (g_v ρ)
def g_c (ρ : GV) (x : AC) : AC := if x.1 = 99 then ρ.2 else (x.1, x.2.map (g_v ρ))
def g_H (ρ : GV) (h : AH) : AH := h.map (g_c ρ)
def g_R (ρ : GV) (r : AS) : AS := (r.1, g_A ρ r.2.1, g_S ρ r.2.2.1, g_H ρ r.2.2.2.1, r.2.2.2.2.1, r.2.2.2.2.2)
section GN
variable {ρ : GV}
theorem g_cat (v : Value) : (g_v ρ v).category = v.category := by cases v <;> rfl
theorem g_kind {v : Value} {k : Nat} (h : a_kind v = k) (hk : k < 5) : g_v ρ v = v := by
  cases v <;> first
    | rfl
    | (exfalso; subst h; exact absurd hk (by decide : ¬ (5 : Nat) < 5))
theorem g_get (al : AL) (i : Nat) : a_get (g_A ρ al) i = (a_get al i).map (g_v ρ) := by
  unfold a_get g_A
  rw [List.getElem?_map]
  cases al[i]? <;> rfl
theorem g_len (al : AL) : (g_A ρ al).length = al.length := by simp [g_A]
theorem g_Hlen (h : AH) : (g_H ρ h).length = h.length := by simp [g_H]
theorem g_get_some {al : AL} {i : Nat} {v : Value} (h : a_get al i = some v) : a_get (g_A ρ al) i = some (g_v ρ v) := by rw [g_get, h]; rfl
theorem g_setA (al : AL) (i : Nat) (o : Option Value) : g_A ρ (al.set i o) = (g_A ρ al).set i (o.map (g_v ρ)) := by simp [g_A, List.map_set]
theorem g_kill (al : AL) (i : Nat) : g_A ρ (a_kill al i) = a_kill (g_A ρ al) i := by
  unfold a_kill
  cases i with
  | zero => rfl
  | succ j =>
    dsimp only
    rw [g_get]
    have e : ((a_get al j).map (g_v ρ)).any (fun v => v.category == 2) = (a_get al j).any (fun v => v.category == 2) := by
      cases a_get al j with
      | none => rfl
      | some v => simp [g_cat]
    rw [e]
    split
    · rw [g_setA]; rfl
    · rfl
theorem g_drop (al : AL) (n : Nat) : g_A ρ (a_drop al n) = a_drop (g_A ρ al) n := by
  unfold a_drop
  rw [g_setA, g_kill]; rfl
theorem g_set1 (al : AL) (i : Nat) (v : Value) : g_A ρ (a_set1 al i v) = a_set1 (g_A ρ al) i (g_v ρ v) := by
  unfold a_set1
  rw [g_setA, g_kill]; rfl
theorem g_sto {al al' : AL} {i : Nat} {v : Value} (h : a_sto al i v = some al') : a_sto (g_A ρ al) i (g_v ρ v) = some (g_A ρ al') := by
  unfold a_sto at h ⊢
  rw [g_cat, g_len]
  split at h
  · rename_i hc
    rw [if_pos hc]
    split at h
    · rename_i hl
      rw [if_pos hl]
      cases h
      simp only [a_set2, g_setA, g_kill]; rfl
    · cases h
  · rename_i hc
    rw [if_neg hc]
    split at h
    · rename_i hl
      rw [if_pos hl]
      cases h
      simp only [a_set1, g_setA, g_kill]; rfl
    · cases h
theorem g_cel {h : AH} {a t : Nat} {vs : List Value} (ha : h[a]? = some (t, vs)) (ht : t ≠ 99) : (g_H ρ h)[a]? = some (t, vs.map (g_v ρ)) := by
  unfold g_H
  rw [List.getElem?_map, ha]
  show some (if t = 99 then _ else _) = _
  rw [if_neg ht]
theorem g_celN {h : AH} {a : Nat} (ha : h[a]? = none) : (g_H ρ h)[a]? = none := by
  unfold g_H
  rw [List.getElem?_map, ha]; rfl
theorem g_setH (h : AH) (a t n : Nat) (vs : List Value) (v : Value) (ht : t ≠ 99) : g_H ρ (h.set a (t, vs.set n v)) = (g_H ρ h).set a (t, (vs.map (g_v ρ)).set n (g_v ρ v)) := by
  simp [g_H, List.map_set, g_c, ht]
theorem g_app (h : AH) (x : AC) : g_H ρ (h ++ [x]) = g_H ρ h ++ [g_c ρ x] := by simp [g_H]
theorem g_def (ty : FieldType) : g_v ρ (defaultValue ty) = defaultValue ty := by cases ty <;> rfl
theorem g_obj {c : Nat} (hc : c ≠ 99) : g_c ρ (a_obj c) = a_obj c := by
  unfold g_c
  rw [if_neg (show ¬ (a_obj c).1 = 99 from hc)]
  simp only [a_obj, List.map_map]
  congr 1
  exact List.map_congr_left fun k _ => g_def _
theorem g_tag (ty : FieldType) : a_atag ty ≠ 99 := by
  have h : a_atys.tail.idxOf ty ≤ a_atys.tail.length := List.idxOf_le_length
  have h2 : a_atys.tail.length = 13 := rfl
  unfold a_atag
  omega
theorem g_row (ty : FieldType) (n : Nat) : g_c ρ (a_row ty n) = a_row ty n := by
  unfold g_c
  rw [if_neg (show ¬ (a_row ty n).1 = 99 from g_tag ty)]
  simp only [a_row, List.map_replicate, g_def]
theorem g_ty99 {t : Nat} {ty : FieldType} (h : a_aty t = some ty) : t ≠ 99 := by
  rintro rfl
  rw [show a_aty 99 = none from rfl] at h
  cases h
theorem g_ald99 {i : Instr} {t : Nat} (h : a_ald i t = true) : t ≠ 99 := by
  unfold a_ald at h
  split at h <;> first
    | (exact g_ty99 (of_decide_eq_true h))
    | (cases h; done)
    | (rintro rfl; rw [show a_aty 99 = none from rfl] at h; cases h)
theorem g_ast99 {i : Instr} {t : Nat} {x v : Value} (h : a_ast i t x = some v) : t ≠ 99 := by
  unfold a_ast at h
  split at h <;> first
    | (cases h; done)
    | (split at h
       · rename_i hc
         first
           | exact g_ty99 hc
           | exact g_ty99 hc.2
       · cases h)
theorem g_catS (st : List Value) : a_cat (g_S ρ st) = a_cat st := by
  unfold a_cat g_S
  rw [List.map_map]
  congr 1
  exact List.map_congr_left fun v _ => g_cat v
theorem g_st1 {i : Instr} {pc : Nat} {al : AL} {st : List Value} {h : AH} {r : AS} (hr : a_st1 i pc al st h = some r) : a_st1 i pc (g_A ρ al) (g_S ρ st) (g_H ρ h) = some (g_R ρ r) := by
  unfold a_st1 at hr
  split at hr
  · rename_i v hv
    cases hr
    unfold a_st1
    rw [hv]
    have e : g_v ρ v = v := by
      cases i <;> simp only [a_const] at hv <;> (try (cases hv; done))
      all_goals first
        | (cases hv; rfl)
        | (split at hv <;> cases hv <;> rfl)
    show some (_, _, v :: _, _, _) = some (_, _, g_v ρ v :: _, _, _)
    rw [e]; rfl
  rename_i hc0
  split at hr
  · rename_i j kd hv
    split at hr
    · rename_i v hg
      split at hr
      · rename_i hk
        cases hr
        have hkd : kd < 5 := by
          cases i <;> simp only [a_load] at hv <;> (try (cases hv; done)) <;> cases hv <;> decide
        have e := g_kind (ρ := ρ) hk hkd
        unfold a_st1
        rw [hc0]
        dsimp only
        rw [hv]
        dsimp only
        rw [g_get_some hg]
        dsimp only
        rw [e, if_pos hk]
        show some (_, _, v :: _, _, _) = some (_, _, g_v ρ v :: _, _, _)
        rw [e]; rfl
      · cases hr
    · cases hr
  rename_i hl0
  split at hr
  · rename_i j kd hv
    split at hr
    · rename_i v st'
      split at hr
      · rename_i hk
        rw [Option.map_eq_some_iff] at hr
        obtain ⟨al', h1, rfl⟩ := hr
        have hkd : kd < 5 := by
          cases i <;> simp only [a_store] at hv <;> (try (cases hv; done)) <;> cases hv <;> decide
        have e := g_kind (ρ := ρ) hk hkd
        unfold a_st1
        rw [hc0]
        dsimp only
        rw [hl0]
        dsimp only
        rw [hv]
        show (if a_kind (g_v ρ v) = kd then _ else _) = _
        rw [e, if_pos hk]
        have h2 := g_sto (ρ := ρ) h1
        rw [e] at h2
        rw [h2]
        rfl
      · cases hr
    · cases hr
  rename_i hs0
  have key : ∀ {X Y : Option AS}, (a_const i = none → a_load i = none → a_store i = none → X = Y) → X = Y := fun f => f hc0 hl0 hs0
  split at hr
  · rename_i k n
    split at hr
    · rename_i x hg
      rw [Option.map_eq_some_iff] at hr
      obtain ⟨al', h1, rfl⟩ := hr
      have h2 := g_sto (ρ := ρ) h1
      have h3 : g_v ρ (.int (x + Int32.ofInt n)) = .int (x + Int32.ofInt n) := rfl
      rw [h3] at h2
      show (match a_get (g_A ρ al) k with
        | some (.int x) => (a_sto (g_A ρ al) k (.int (x + Int32.ofInt n))).map (fun al' => (pc + 3, al', g_S ρ st, g_H ρ h, 0, 0))
        | _ => none) = _
      rw [g_get_some hg]
      show (a_sto (g_A ρ al) k (.int (x + Int32.ofInt n))).map _ = _
      rw [h2]; rfl
    · cases hr
  · rw [Option.map_eq_some_iff] at hr; obtain ⟨t, h1, rfl⟩ := hr; show (a_tgt _ _).map _ = _; rw [h1]; rfl
  · rw [Option.map_eq_some_iff] at hr; obtain ⟨t, h1, rfl⟩ := hr; show (a_br _ _ _).map _ = _; rw [h1]; rfl
  · rw [Option.map_eq_some_iff] at hr; obtain ⟨t, h1, rfl⟩ := hr; show (a_br _ _ _).map _ = _; rw [h1]; rfl
  · rename_i off y x st'
    split at hr
    · rename_i hxy
      rw [Option.map_eq_some_iff] at hr
      obtain ⟨t, h1, rfl⟩ := hr
      show (if x < (g_H ρ h).length ∧ y < (g_H ρ h).length then (a_br pc (decide (x = y)) off).map _ else none) = _
      rw [g_Hlen, if_pos hxy, h1]; rfl
    · cases hr
  · rename_i v st'
    split at hr
    · rename_i hc
      cases hr
      show (if (g_v ρ v).category = 1 then _ else _) = _
      rw [g_cat, if_pos hc]; rfl
    · cases hr
  · rename_i v u st'
    split at hr
    · rename_i hc
      cases hr
      show (if (g_v ρ v).category = 1 ∧ (g_v ρ u).category = 1 then _ else _) = _
      rw [g_cat, g_cat, if_pos hc]; rfl
    · cases hr
  · rename_i v st'
    split at hr
    · rename_i hc
      cases hr
      show (if (g_v ρ v).category = 1 then _ else _) = _
      rw [g_cat, if_pos hc]; rfl
    · cases hr
  · cases hr
theorem g_bin {i : Instr} {x y v : Int32} (h1 : a_bin i x y = some v) {pc : Nat} {al : AL} {st : List Value} {h : AH} : a_st2 i pc al (.int y :: .int x :: st) h = some (pc + 1, al, .int v :: st, h, 0, 0) := by
  cases i <;> simp only [a_bin] at h1 <;> (try (cases h1; done)) <;> simp [a_st2, a_bin, h1]
theorem g_st2 {i : Instr} {pc : Nat} {al : AL} {st : List Value} {h : AH} {r : AS} (hr : a_st2 i pc al st h = some r) : a_st2 i pc (g_A ρ al) (g_S ρ st) (g_H ρ h) = some (g_R ρ r) := by
  unfold a_st2 at hr
  split at hr
  · cases hr; rfl
  · cases hr; rfl
  · cases hr; rfl
  · cases hr; rfl
  · split at hr
    · rename_i hn; cases hr; show (if _ then _ else _) = _; rw [if_pos hn]; rfl
    · cases hr
  · cases hr; rfl
  · cases hr; rfl
  · cases hr; rfl
  · split at hr
    · rename_i hn; cases hr; show (if _ then _ else _) = _; rw [if_pos hn]; rfl
    · cases hr
  · split at hr
    · rename_i hn; cases hr; show (if _ then _ else _) = _; rw [if_pos hn]; rfl
    · cases hr
  · cases hr; rfl
  · cases hr; rfl
  · rw [Option.map_eq_some_iff] at hr
    obtain ⟨v, h1, rfl⟩ := hr
    exact g_bin h1
  · cases hr
end GN
