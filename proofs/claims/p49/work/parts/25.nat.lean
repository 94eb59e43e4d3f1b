/-! part 25.nat -/
section
/-! Symbols: a value .retAddr n stands for an unknown int; the abstract machine's steps don't look at it -/
/-- the symbols' values, and a cell that no step may look into (its tag is 99) -/
abbrev GV : Type := (Nat → Int32) × AC
def g_v (ρ : GV) (v : Value) : Value := match v with
  | .retAddr n => .int (ρ.1 n)
  | v => v
def g_A (ρ : GV) (al : AL) : AL := al.map (Option.map (g_v ρ))
def g_S (ρ : GV) (st : List Value) : List Value := st.map (g_v ρ)
def g_c (ρ : GV) (x : AC) : AC := if x.1 = 99 then ρ.2 else (x.1, x.2.map (g_v ρ))
def g_H (ρ : GV) (h : AH) : AH := h.map (g_c ρ)
def g_R (ρ : GV) (r : AS) : AS := (r.1, g_A ρ r.2.1, g_S ρ r.2.2.1, g_H ρ r.2.2.2.1, r.2.2.2.2.1, r.2.2.2.2.2)
section GN
variable {ρ : GV}
theorem g_cat (v : Value) : (g_v ρ v).category = v.category := by cases v <;> rfl
theorem g_kind {v : Value} {k : Nat} (h : a_kind v = k) (hk : k < 5) : g_v ρ v = v := by
  cases v <;> first
    | rfl
    | (exfalso; subst h; exact absurd hk (by decide : ¬ (5 : Nat) < 5))
theorem g_get (al : AL) (i : Nat) : a_get (g_A ρ al) i = (a_get al i).map (g_v ρ) := by
  unfold a_get g_A
  rw [List.getElem?_map]
  cases al[i]? <;> rfl
theorem g_len (al : AL) : (g_A ρ al).length = al.length := by simp [g_A]
theorem g_Hlen (h : AH) : (g_H ρ h).length = h.length := by simp [g_H]
theorem g_get_some {al : AL} {i : Nat} {v : Value} (h : a_get al i = some v) : a_get (g_A ρ al) i = some (g_v ρ v) := by rw [g_get, h]; rfl
theorem g_setA (al : AL) (i : Nat) (o : Option Value) : g_A ρ (al.set i o) = (g_A ρ al).set i (o.map (g_v ρ)) := by simp [g_A, List.map_set]
theorem g_kill (al : AL) (i : Nat) : g_A ρ (a_kill al i) = a_kill (g_A ρ al) i := by
  unfold a_kill
  cases i with
  | zero => rfl
  | succ j =>
    dsimp only
    rw [g_get]
    have e : ((a_get al j).map (g_v ρ)).any (fun v => v.category == 2) = (a_get al j).any (fun v => v.category == 2) := by
      cases a_get al j with
      | none => rfl
      | some v => simp [g_cat]
    rw [e]
    split
    · rw [g_setA]; rfl
    · rfl
theorem g_drop (al : AL) (n : Nat) : g_A ρ (a_drop al n) = a_drop (g_A ρ al) n := by
  unfold a_drop
  rw [g_setA, g_kill]; rfl
theorem g_set1 (al : AL) (i : Nat) (v : Value) : g_A ρ (a_set1 al i v) = a_set1 (g_A ρ al) i (g_v ρ v) := by
  unfold a_set1
  rw [g_setA, g_kill]; rfl
theorem g_sto {al al' : AL} {i : Nat} {v : Value} (h : a_sto al i v = some al') : a_sto (g_A ρ al) i (g_v ρ v) = some (g_A ρ al') := by
  unfold a_sto at h ⊢
  rw [g_cat, g_len]
  split at h
  · rename_i hc
    rw [if_pos hc]
    split at h
    · rename_i hl
      rw [if_pos hl]
      cases h
      simp only [a_set2, g_setA, g_kill]; rfl
    · cases h
  · rename_i hc
    rw [if_neg hc]
    split at h
    · rename_i hl
      rw [if_pos hl]
      cases h
      simp only [a_set1, g_setA, g_kill]; rfl
    · cases h
theorem g_cel {h : AH} {a t : Nat} {vs : List Value} (ha : h[a]? = some (t, vs)) (ht : t ≠ 99) : (g_H ρ h)[a]? = some (t, vs.map (g_v ρ)) := by
  unfold g_H
  rw [List.getElem?_map, ha]
  show some (if t = 99 then _ else _) = _
  rw [if_neg ht]
theorem g_celN {h : AH} {a : Nat} (ha : h[a]? = none) : (g_H ρ h)[a]? = none := by
  unfold g_H
  rw [List.getElem?_map, ha]; rfl
theorem g_setH (h : AH) (a t n : Nat) (vs : List Value) (v : Value) (ht : t ≠ 99) : g_H ρ (h.set a (t, vs.set n v)) = (g_H ρ h).set a (t, (vs.map (g_v ρ)).set n (g_v ρ v)) := by
  simp [g_H, List.map_set, g_c, ht]
theorem g_app (h : AH) (x : AC) : g_H ρ (h ++ [x]) = g_H ρ h ++ [g_c ρ x] := by simp [g_H]
theorem g_def (ty : FieldType) : g_v ρ (defaultValue ty) = defaultValue ty := by cases ty <;> rfl
theorem g_obj {c : Nat} (hc : c ≠ 99) : g_c ρ (a_obj c) = a_obj c := by
  unfold g_c
  rw [if_neg (show ¬ (a_obj c).1 = 99 from hc)]
  simp only [a_obj, List.map_map]
  congr 1
  exact List.map_congr_left fun k _ => g_def _
theorem g_tag (ty : FieldType) : a_atag ty ≠ 99 := by
  have h : a_atys.tail.idxOf ty ≤ a_atys.tail.length := List.idxOf_le_length
  have h2 : a_atys.tail.length = 13 := rfl
  unfold a_atag
  omega
theorem g_row (ty : FieldType) (n : Nat) : g_c ρ (a_row ty n) = a_row ty n := by
  unfold g_c
  rw [if_neg (show ¬ (a_row ty n).1 = 99 from g_tag ty)]
  simp only [a_row, List.map_replicate, g_def]
theorem g_ty99 {t : Nat} {ty : FieldType} (h : a_aty t = some ty) : t ≠ 99 := by
  rintro rfl
  rw [show a_aty 99 = none from rfl] at h
  cases h
theorem g_ald99 {i : Instr} {t : Nat} (h : a_ald i t = true) : t ≠ 99 := by
  unfold a_ald at h
  split at h <;> first
    | (exact g_ty99 (of_decide_eq_true h))
    | (cases h; done)
    | (rintro rfl; rw [show a_aty 99 = none from rfl] at h; cases h)
theorem g_ast99 {i : Instr} {t : Nat} {x v : Value} (h : a_ast i t x = some v) : t ≠ 99 := by
  unfold a_ast at h
  split at h <;> first
    | (cases h; done)
    | (split at h
       · rename_i hc
         first
           | exact g_ty99 hc
           | exact g_ty99 hc.2
       · cases h)
theorem g_catS (st : List Value) : a_cat (g_S ρ st) = a_cat st := by
  unfold a_cat g_S
  rw [List.map_map]
  congr 1
  exact List.map_congr_left fun v _ => g_cat v
theorem g_st1 {i : Instr} {pc : Nat} {al : AL} {st : List Value} {h : AH} {r : AS} (hr : a_st1 i pc al st h = some r) : a_st1 i pc (g_A ρ al) (g_S ρ st) (g_H ρ h) = some (g_R ρ r) := by
  unfold a_st1 at hr
  split at hr
  · rename_i v hv
    cases hr
    unfold a_st1
    rw [hv]
    have e : g_v ρ v = v := by
      cases i <;> simp only [a_const] at hv <;> (try (cases hv; done))
      all_goals first
        | (cases hv; rfl)
        | (split at hv <;> cases hv <;> rfl)
    show some (_, _, v :: _, _, _) = some (_, _, g_v ρ v :: _, _, _)
    rw [e]; rfl
  rename_i hc0
  split at hr
  · rename_i j kd hv
    split at hr
    · rename_i v hg
      split at hr
      · rename_i hk
        cases hr
        have hkd : kd < 5 := by
          cases i <;> simp only [a_load] at hv <;> (try (cases hv; done)) <;> cases hv <;> decide
        have e := g_kind (ρ := ρ) hk hkd
        unfold a_st1
        rw [hc0]
        dsimp only
        rw [hv]
        dsimp only
        rw [g_get_some hg]
        dsimp only
        rw [e, if_pos hk]
        show some (_, _, v :: _, _, _) = some (_, _, g_v ρ v :: _, _, _)
        rw [e]; rfl
      · cases hr
    · cases hr
  rename_i hl0
  split at hr
  · rename_i j kd hv
    split at hr
    · rename_i v st'
      split at hr
      · rename_i hk
        rw [Option.map_eq_some_iff] at hr
        obtain ⟨al', h1, rfl⟩ := hr
        have hkd : kd < 5 := by
          cases i <;> simp only [a_store] at hv <;> (try (cases hv; done)) <;> cases hv <;> decide
        have e := g_kind (ρ := ρ) hk hkd
        unfold a_st1
        rw [hc0]
        dsimp only
        rw [hl0]
        dsimp only
        rw [hv]
        show (if a_kind (g_v ρ v) = kd then _ else _) = _
        rw [e, if_pos hk]
        have h2 := g_sto (ρ := ρ) h1
        rw [e] at h2
        rw [h2]
        rfl
      · cases hr
    · cases hr
  rename_i hs0
  have key : ∀ {X Y : Option AS}, (a_const i = none → a_load i = none → a_store i = none → X = Y) → X = Y := fun f => f hc0 hl0 hs0
  split at hr
  · rename_i k n
    split at hr
    · rename_i x hg
      rw [Option.map_eq_some_iff] at hr
      obtain ⟨al', h1, rfl⟩ := hr
      have h2 := g_sto (ρ := ρ) h1
      have h3 : g_v ρ (.int (x + Int32.ofInt n)) = .int (x + Int32.ofInt n) := rfl
      rw [h3] at h2
      show (match a_get (g_A ρ al) k with
        | some (.int x) => (a_sto (g_A ρ al) k (.int (x + Int32.ofInt n))).map (fun al' => (pc + 3, al', g_S ρ st, g_H ρ h, 0, 0))
        | _ => none) = _
      rw [g_get_some hg]
      show (a_sto (g_A ρ al) k (.int (x + Int32.ofInt n))).map _ = _
      rw [h2]; rfl
    · cases hr
  · rw [Option.map_eq_some_iff] at hr; obtain ⟨t, h1, rfl⟩ := hr; show (a_tgt _ _).map _ = _; rw [h1]; rfl
  · rw [Option.map_eq_some_iff] at hr; obtain ⟨t, h1, rfl⟩ := hr; show (a_br _ _ _).map _ = _; rw [h1]; rfl
  · rw [Option.map_eq_some_iff] at hr; obtain ⟨t, h1, rfl⟩ := hr; show (a_br _ _ _).map _ = _; rw [h1]; rfl
  · rename_i off y x st'
    split at hr
    · rename_i hxy
      rw [Option.map_eq_some_iff] at hr
      obtain ⟨t, h1, rfl⟩ := hr
      show (if x < (g_H ρ h).length ∧ y < (g_H ρ h).length then (a_br pc (decide (x = y)) off).map _ else none) = _
      rw [g_Hlen, if_pos hxy, h1]; rfl
    · cases hr
  · rename_i v st'
    split at hr
    · rename_i hc
      cases hr
      show (if (g_v ρ v).category = 1 then _ else _) = _
      rw [g_cat, if_pos hc]; rfl
    · cases hr
  · rename_i v u st'
    split at hr
    · rename_i hc
      cases hr
      show (if (g_v ρ v).category = 1 ∧ (g_v ρ u).category = 1 then _ else _) = _
      rw [g_cat, g_cat, if_pos hc]; rfl
    · cases hr
  · rename_i v st'
    split at hr
    · rename_i hc
      cases hr
      show (if (g_v ρ v).category = 1 then _ else _) = _
      rw [g_cat, if_pos hc]; rfl
    · cases hr
  · cases hr
theorem g_bin {i : Instr} {x y v : Int32} (h1 : a_bin i x y = some v) {pc : Nat} {al : AL} {st : List Value} {h : AH} : a_st2 i pc al (.int y :: .int x :: st) h = some (pc + 1, al, .int v :: st, h, 0, 0) := by
  cases i <;> simp only [a_bin] at h1 <;> (try (cases h1; done)) <;> simp [a_st2, a_bin, h1]
theorem g_st2 {i : Instr} {pc : Nat} {al : AL} {st : List Value} {h : AH} {r : AS} (hr : a_st2 i pc al st h = some r) : a_st2 i pc (g_A ρ al) (g_S ρ st) (g_H ρ h) = some (g_R ρ r) := by
  unfold a_st2 at hr
  split at hr
  · cases hr; rfl
  · cases hr; rfl
  · cases hr; rfl
  · cases hr; rfl
  · split at hr
    · rename_i hn; cases hr; show (if _ then _ else _) = _; rw [if_pos hn]; rfl
    · cases hr
  · cases hr; rfl
  · cases hr; rfl
  · cases hr; rfl
  · split at hr
    · rename_i hn; cases hr; show (if _ then _ else _) = _; rw [if_pos hn]; rfl
    · cases hr
  · split at hr
    · rename_i hn; cases hr; show (if _ then _ else _) = _; rw [if_pos hn]; rfl
    · cases hr
  · cases hr; rfl
  · cases hr; rfl
  · rw [Option.map_eq_some_iff] at hr
    obtain ⟨v, h1, rfl⟩ := hr
    exact g_bin h1
  · cases hr
end GN
end
/-! part 26.nat2 -/
section
section GN2
variable {ρ : GV}
theorem g_st3 {i : Instr} {pc : Nat} {al : AL} {st : List Value} {h : AH} {r : AS} (hr : a_st3 i pc al st h = some r) : a_st3 i pc (g_A ρ al) (g_S ρ st) (g_H ρ h) = some (g_R ρ r) := by
  unfold a_st3 at hr
  split at hr
  · rename_i j a st'
    split at hr
    · rename_i t vs ha
      split at hr
      · rename_i ht
        rw [Option.bind_eq_some_iff] at hr
        obtain ⟨n, h1, hr⟩ := hr
        rw [Option.map_eq_some_iff] at hr
        obtain ⟨v, h2, rfl⟩ := hr
        show (match (g_H ρ h)[a]? with
          | some (t, vs) => if a_ald i t = true then (a_ix j vs.length).bind (fun n => (vs[n]?).map (fun v => (pc + 1, g_A ρ al, v :: g_S ρ st', g_H ρ h, 0, 0))) else none
          | none => none) = _
        rw [g_cel ha (g_ald99 ht)]
        dsimp only
        rw [if_pos ht, List.length_map, h1]
        show ((vs.map (g_v ρ))[n]?).map _ = _
        rw [List.getElem?_map, h2]; rfl
      · cases hr
    · cases hr
  · cases hr
theorem g_fit {ty : FieldType} {v : Value} (h : fits ty v = true) : g_v ρ v = v := by
  cases v <;> first
    | rfl
    | (exfalso; cases ty <;> cases h)
theorem g_ast {i : Instr} {t : Nat} {x v : Value} (h : a_ast i t x = some v) : g_v ρ x = x ∧ g_v ρ v = v := by
  unfold a_ast at h
  split at h
  all_goals first
    | (cases h; done)
    | (split at h <;> first
        | (cases h; done)
        | (cases h; exact ⟨rfl, rfl⟩)
        | (cases h; refine ⟨rfl, ?_⟩; unfold narrow; first | rfl | (split <;> rfl)))
theorem g_st4 {own : Nat} {ini : Bool} {i : Instr} {pc : Nat} {al : AL} {st : List Value} {h : AH} {r : AS} (hr : a_st4 own ini i pc al st h = some r) : a_st4 own ini i pc (g_A ρ al) (g_S ρ st) (g_H ρ h) = some (g_R ρ r) := by
  unfold a_st4 at hr
  split at hr
  · split at hr
    · rename_i a st' _ t vs ha
      split at hr
      · rename_i ht
        cases hr
        show (match (g_H ρ h)[a]? with
          | some (t, vs) => if (a_aty t).isSome then some (pc + 1, g_A ρ al, Value.int vs.length.toInt32 :: g_S ρ st', g_H ρ h, 0, 0) else none
          | none => none) = _
        rw [g_cel ha (by obtain ⟨ty, hty⟩ := Option.isSome_iff_exists.mp ht; exact g_ty99 hty)]
        dsimp only
        rw [if_pos ht, List.length_map]; rfl
      · cases hr
    · cases hr
  · rw [Option.map_eq_some_iff] at hr; obtain ⟨q, h1, rfl⟩ := hr; show Option.map _ (List.find? _ _) = _; rw [h1]; rfl
  · rw [Option.map_eq_some_iff] at hr; obtain ⟨q, h1, rfl⟩ := hr; show Option.map _ (List.find? _ _) = _; rw [h1]; rfl
  · rw [Option.map_eq_some_iff] at hr; obtain ⟨q, h1, rfl⟩ := hr; show Option.map _ (List.find? _ _) = _; rw [h1]; rfl
  · split at hr
    · rename_i idx a st' _ ci k hf
      split at hr
      · rename_i t vs ha
        split at hr
        · rename_i ht
          rw [Option.map_eq_some_iff] at hr
          obtain ⟨v, h2, rfl⟩ := hr
          show (match a_field own idx with
            | some (ci, k) => match (g_H ρ h)[a]? with
              | some (t, vs) => if t = ci then (vs[k]?).map (fun v => (pc + 3, g_A ρ al, v :: g_S ρ st', g_H ρ h, 0, 0)) else none
              | none => none
            | none => none) = _
          rw [hf]
          dsimp only
          rw [g_cel ha (by have := (a_field_in hf).2.2; omega)]
          dsimp only
          rw [if_pos ht, List.getElem?_map, h2]; rfl
        · cases hr
      · cases hr
    · cases hr
  · split at hr
    · rename_i idx v a st' _ ci k hf
      split at hr
      · rename_i t vs ha
        split at hr
        · rename_i ht
          cases hr
          have e := g_fit (ρ := ρ) ht.2.2.2.1
          show (match a_field own idx with
            | some (ci, k) => match (g_H ρ h)[a]? with
              | some (t, vs) => if t = ci ∧ k < vs.length ∧ narrow (a_fty ci k) (g_v ρ v) = g_v ρ v ∧ fits (a_fty ci k) (g_v ρ v) = true ∧ ((a_cT ci k).2.2.2 = false ∨ (ini = true ∧ own = ci)) then some (pc + 3, g_A ρ al, g_S ρ st', (g_H ρ h).set a (t, vs.set k (g_v ρ v)), 0, 0) else none
              | none => none
            | none => none) = _
          rw [hf]
          dsimp only
          rw [g_cel ha (by have := (a_field_in hf).2.2; have := ht.1; omega)]
          dsimp only
          rw [e, List.length_map, if_pos ht]
          show _ = some (_, _, _, g_H ρ (h.set a (t, vs.set k v)), _, _)
          rw [g_setH _ _ _ _ _ _ (by have := (a_field_in hf).2.2; have := ht.1; omega), e]
        · cases hr
      · cases hr
    · cases hr
  · split at hr
    · rename_i x j a st' c1 c2 c3 c4 c5 c6 t vs ha
      split at hr
      · rename_i v hv
        rw [Option.map_eq_some_iff] at hr
        obtain ⟨n, h1, rfl⟩ := hr
        obtain ⟨e1, e2⟩ := g_ast (ρ := ρ) hv
        have key : ∀ (x : Value) (st : List Value), a_st4 own ini i pc (g_A ρ al) (x :: .int j :: .ref a :: st) (g_H ρ h) = (match (g_H ρ h)[a]? with
          | some (t, vs) => match a_ast i t x with
            | some v => (a_ix j vs.length).map (fun n => (pc + 1, g_A ρ al, st, (g_H ρ h).set a (t, vs.set n v), 0, 0))
            | none => none
          | none => none) := by
          intro x st
          have hi : ∃ k, i = .iastore ∨ i = .bastore ∨ i = .castore ∨ i = .lastore ∨ i = .dastore ∨ k = 0 := ⟨0, by simp⟩
          unfold a_ast at hv
          split at hv <;> first | (cases hv; done) | rfl
        show a_st4 own ini i pc (g_A ρ al) (g_v ρ x :: .int j :: .ref a :: g_S ρ st') (g_H ρ h) = _
        rw [key, g_cel ha (g_ast99 hv)]
        dsimp only
        rw [e1, hv]
        dsimp only
        rw [List.length_map, h1]
        show some (_, _, _, _, _, _) = some (_, _, _, g_H ρ (h.set a (t, vs.set n v)), _, _)
        rw [g_setH _ _ _ _ _ _ (g_ast99 hv), e2]
      · cases hr
    · cases hr
  · cases hr
theorem g_st5 {own : Nat} {i : Instr} {pc : Nat} {al : AL} {st : List Value} {h : AH} {r : AS} (hr : a_st5 own i pc al st h = some r) : a_st5 own i pc (g_A ρ al) (g_S ρ st) (g_H ρ h) = some (g_R ρ r) := by
  unfold a_st5 at hr
  split at hr
  · rw [Option.map_eq_some_iff] at hr
    obtain ⟨q, h1, rfl⟩ := hr
    show Option.map _ (List.find? _ _) = _
    rw [h1]
    show some (_, _, Value.ref (g_H ρ h).length :: _, _, _, _) = some (_, _, Value.ref h.length :: _, g_H ρ (h ++ [a_obj q.2.1]), _, _)
    rw [g_Hlen, g_app, g_obj (by
      have h3 := a_all_of a_new_ok (List.mem_of_find?_eq_some h1)
      simp only [Bool.and_eq_true, decide_eq_true_eq] at h3
      have := h3.2.2.2
      omega)]; rfl
  · split at hr
    · rename_i ht
      rw [Option.map_eq_some_iff] at hr
      obtain ⟨k, h1, rfl⟩ := hr
      show (if _ then Option.map _ _ else none) = _
      rw [if_pos ht, h1]
      show some (_, _, Value.ref (g_H ρ h).length :: _, _, _, _) = some (_, _, Value.ref h.length :: _, g_H ρ (h ++ [_]), _, _)
      rw [g_Hlen, g_app, g_row]
    · cases hr
  · split at hr
    · rename_i q hq
      split at hr
      · rename_i ht
        rw [Option.map_eq_some_iff] at hr
        obtain ⟨k, h1, rfl⟩ := hr
        show a_st5 own (.anewarray _) pc _ (Value.int _ :: g_S ρ _) _ = _
        unfold a_st5
        dsimp only
        rw [hq]
        dsimp only
        rw [if_pos ht, h1]
        show some (_, _, Value.ref (g_H ρ h).length :: _, _, _, _) = some (_, _, Value.ref h.length :: _, g_H ρ (h ++ [_]), _, _)
        rw [g_Hlen, g_app, g_row]; rfl
      · cases hr
    · cases hr
  · rename_i v j a st'
    split at hr
    · rename_i t vs ha
      split at hr
      · rename_i u us hv
        split at hr
        · rename_i hc
          rw [Option.map_eq_some_iff] at hr
          obtain ⟨n, h1, rfl⟩ := hr
          show (match (g_H ρ h)[a]? with
            | some (t, vs) => match (g_H ρ h)[v]? with
              | some (u, _) => if u < 13 ∧ t ≠ 19 ∧ a_aty t = some (FieldType.object (a_cN u)) then (a_ix j vs.length).map (fun n => (pc + 1, g_A ρ al, g_S ρ st', (g_H ρ h).set a (t, vs.set n (.ref v)), 0, 0)) else none
              | none => none
            | none => none) = _
          rw [g_cel ha (g_ty99 hc.2.2), g_cel hv (by have := hc.1; omega)]
          dsimp only
          rw [if_pos hc, List.length_map, h1]
          show some (_, _, _, _, _, _) = some (_, _, _, g_H ρ (h.set a (t, vs.set n (Value.ref v))), _, _)
          rw [g_setH _ _ _ _ _ _ (g_ty99 hc.2.2)]; rfl
        · cases hr
      · cases hr
    · cases hr
  · split at hr
    · rename_i hc
      cases hr
      show (if _ ∧ a_cat (g_S ρ _) ≤ 8 then _ else _) = _
      exact (if_pos ⟨hc.1, by rw [g_catS]; exact hc.2⟩).trans rfl
    · cases hr
  · split at hr
    · rename_i q hq
      split at hr
      · rename_i hc
        cases hr
        show a_st5 own (.invokestatic _) pc _ (Value.int _ :: Value.int _ :: g_S ρ _) _ = _
        unfold a_st5
        dsimp only
        rw [hq]
        exact (if_pos (by rw [g_catS]; exact hc)).trans rfl
      · cases hr
    · cases hr
  · cases hr
/-- the cell at a is not the one that no step may look into -/
def g_N (a : Nat) (h : AH) : Prop := ∀ (t : Nat) (vs : List Value), h[a]? = some (t, vs) → t ≠ 99
theorem g_setR {h : AH} {a : Nat} (hN : g_N a h) (i b : Nat) : g_H ρ (a_setR h a i b) = a_setR (g_H ρ h) a i b := by
  unfold a_setR
  cases ha : h[a]? with
  | none => rw [g_celN ha]
  | some x =>
    obtain ⟨t, vs⟩ := x
    have ht := hN t vs ha
    rw [g_cel ha ht]
    dsimp only
    rw [g_setH _ _ _ _ _ _ ht]; rfl
theorem g_setN {h : AH} {a c : Nat} (hN : g_N c h) (i b : Nat) : g_N c (a_setR h a i b) ∧ (a_setR h a i b).length = h.length := by
  unfold a_setR
  cases ha : h[a]? with
  | none => exact ⟨hN, rfl⟩
  | some x =>
    obtain ⟨t, vs⟩ := x
    dsimp only
    refine ⟨fun t' vs' h' => ?_, List.length_set⟩
    rw [List.getElem?_set] at h'
    split at h'
    · rename_i e
      subst e
      split at h'
      · cases h'; exact hN t vs ha
      · cases h'
    · exact hN _ _ h'
def g_F (ρ : GV) (f : AH → AH) : Prop := (∀ h, g_H ρ (f h) = f (g_H ρ h)) ∧ ∀ h, h.length ≤ (f h).length ∧ ∀ c, c < h.length → g_N c h → g_N c (f h)
theorem g_appN {h : AH} {c : Nat} (hc : c < h.length) (hN : g_N c h) (x : AC) : g_N c (h ++ [x]) := by
  intro t vs h'
  rw [List.getElem?_append_left hc] at h'
  exact hN t vs h'
theorem g_rowN (h : AH) (ty : FieldType) (n : Nat) : g_N h.length (h ++ [a_row ty n]) := by
  intro t vs h'
  rw [List.getElem?_concat_length] at h'
  cases h'
  exact g_tag ty
theorem g_mkL {f : AH → AH} (hf : g_F ρ f) (a : Nat) : ∀ (k i : Nat) (h : AH), a < h.length → g_N a h → g_H ρ (a_mkL f a k i h) = a_mkL f a k i (g_H ρ h) ∧ h.length ≤ (a_mkL f a k i h).length ∧ ∀ c, c < h.length → g_N c h → g_N c (a_mkL f a k i h)
  | 0, i, h, hl, hN => ⟨rfl, Nat.le_refl _, fun c _ h => h⟩
  | k + 1, i, h, hl, hN => by
    obtain ⟨f1, f2⟩ := hf
    obtain ⟨f3, f4⟩ := f2 h
    have hN1 := f4 a hl hN
    obtain ⟨hN2, hl2⟩ := g_setN (a := a) hN1 i h.length
    obtain ⟨r1, r2, r3⟩ := g_mkL ⟨f1, f2⟩ a k (i + 1) (a_setR (f h) a i h.length) (by omega) hN2
    refine ⟨?_, ?_, fun c hc hNc => r3 c (by omega) (g_setN (f4 c hc hNc) i h.length).1⟩
    · show g_H ρ (a_mkL f a k (i + 1) (a_setR (f h) a i h.length)) = a_mkL f a k (i + 1) (a_setR (f (g_H ρ h)) a i (g_H ρ h).length)
      rw [r1, g_setR hN1, f1 h, g_Hlen]
    · show h.length ≤ (a_mkL f a k (i + 1) (a_setR (f h) a i h.length)).length
      omega
theorem g_mk : ∀ (ns : List Nat) (tys : List FieldType), g_F ρ (a_mk tys ns)
  | [], tys => by
    have e : ∀ h, a_mk tys [] h = h := fun h => by rcases tys with _ | ⟨_, _ | ⟨_, _⟩⟩ <;> rfl
    exact ⟨fun h => by rw [e, e], fun h => by rw [e]; exact ⟨Nat.le_refl _, fun c _ h => h⟩⟩
  | [n], [] => ⟨fun h => rfl, fun h => ⟨Nat.le_refl _, fun c _ h => h⟩⟩
  | [n], ty :: tys => by
    have e : ∀ h, a_mk (ty :: tys) [n] h = h ++ [a_row ty n] := fun h => by cases tys <;> rfl
    exact ⟨fun h => by rw [e, e, g_app, g_row], fun h => by rw [e]; exact ⟨by simp, fun c hc hN => g_appN hc hN _⟩⟩
  | n :: n' :: ns, [] => ⟨fun h => rfl, fun h => ⟨Nat.le_refl _, fun c _ h => h⟩⟩
  | n :: n' :: ns, ty :: tys => by
    have hl : ∀ h : AH, (h ++ [a_row ty n]).length = h.length + 1 := fun h => by simp
    refine ⟨fun h => ?_, fun h => ?_⟩
    · show g_H ρ (a_mkL (a_mk tys (n' :: ns)) h.length n 0 (h ++ [a_row ty n])) = a_mkL (a_mk tys (n' :: ns)) (g_H ρ h).length n 0 (g_H ρ h ++ [a_row ty n])
      rw [(g_mkL (g_mk (n' :: ns) tys) h.length n 0 (h ++ [a_row ty n]) (by rw [hl]; omega) (g_rowN h ty n)).1, g_app, g_row, g_Hlen]
    · obtain ⟨-, r2, r3⟩ := g_mkL (ρ := ρ) (g_mk (n' :: ns) tys) h.length n 0 (h ++ [a_row ty n]) (by rw [hl]; omega) (g_rowN h ty n)
      rw [hl] at r2 r3
      exact ⟨Nat.le_trans (Nat.le_succ _) r2, fun c hc hN => r3 c (by omega) (g_appN hc hN _)⟩
theorem g_st6 {own : Nat} {i : Instr} {pc : Nat} {al : AL} {st : List Value} {h : AH} {r : AS} (hr : a_st6 own i pc al st h = some r) : a_st6 own i pc (g_A ρ al) (g_S ρ st) (g_H ρ h) = some (g_R ρ r) := by
  unfold a_st6 at hr
  split at hr
  · split at hr
    · rename_i t hmt
      split at hr
      · rename_i hc
        cases hr
        show (match a_mty own _ with
          | some t => if a_tys (a_comps t) [_, _] = true ∧ _ ∧ _ then _ else _
          | none => none) = _
        rw [hmt]
        dsimp only
        rw [if_pos hc]
        show some (_, _, Value.ref (g_H ρ h).length :: _, _, _, _) = some (_, _, Value.ref h.length :: _, g_H ρ (a_mk _ _ h), _, _)
        rw [g_Hlen, (g_mk _ _).1 h]
      · cases hr
    · cases hr
  · split at hr
    · rename_i t hmt
      split at hr
      · rename_i hc
        cases hr
        show (match a_mty own _ with
          | some t => if a_tys (a_comps t) [_, _, _] = true ∧ _ ∧ _ ∧ _ then _ else _
          | none => none) = _
        rw [hmt]
        dsimp only
        rw [if_pos hc]
        show some (_, _, Value.ref (g_H ρ h).length :: _, _, _, _) = some (_, _, Value.ref h.length :: _, g_H ρ (a_mk _ _ h), _, _)
        rw [g_Hlen, (g_mk _ _).1 h]
      · cases hr
    · cases hr
  · cases hr
theorem g_sw {i : Instr} {pc : Nat} {al : AL} {st : List Value} {h : AH} {r : AS} (hr : a_sw i pc al st h = some r) : a_sw i pc (g_A ρ al) (g_S ρ st) (g_H ρ h) = some (g_R ρ r) := by
  unfold a_sw at hr
  split at hr
  · split at hr
    · rename_i hc
      rw [Option.map_eq_some_iff] at hr
      obtain ⟨t, h1, rfl⟩ := hr
      show (if _ then Option.map _ _ else _) = _
      rw [if_pos hc, h1]; rfl
    · rename_i hc
      rw [Option.bind_eq_some_iff] at hr
      obtain ⟨off, h0, hr⟩ := hr
      rw [Option.map_eq_some_iff] at hr
      obtain ⟨t, h1, rfl⟩ := hr
      show (if _ then _ else Option.bind _ _) = _
      rw [if_neg hc, h0]
      show Option.map _ _ = _
      rw [h1]; rfl
  · cases hr
/-- which stage takes an instruction -/
def a_stage (i : Instr) : Nat := match i with
  | .tableswitch .. => 7
  | .iinc .. | .goto _ | .ifCond .. | .if_icmp .. | .if_acmp .. | .dup | .dup2 | .pop => 1
  | .iconst _ | .bipush _ | .sipush _ | .lconst _ | .fconst _ | .dconst _ => 1
  | .iload _ | .iload_n _ | .lload _ | .lload_n _ | .fload _ | .dload _ | .aload _ | .aload_n _ => 1
  | .istore _ | .istore_n _ | .lstore _ | .lstore_n _ | .fstore _ | .dstore _ | .astore _ | .astore_n _ => 1
  | .arraylength | .ldc _ | .ldc_w _ | .ldc2_w _ | .getfield _ | .putfield _ | .iastore | .bastore | .castore | .lastore | .dastore => 4
  | .i2l | .i2c | .i2f | .i2d | .f2d | .ladd | .lmul | .lcmp | .fdiv | .ddiv | .fcmp _ | .dcmp _ | .iadd | .isub | .imul | .iand | .ior | .idiv | .irem => 2
  | .iaload | .baload | .caload | .laload | .daload | .aaload => 3
  | .new _ | .newarray _ | .anewarray _ | .aastore | .invokespecial _ | .invokestatic _ => 5
  | .multianewarray .. => 6
  | _ => 0
theorem a_n1 {i : Instr} {pc : Nat} {al : AL} {st : List Value} {h : AH} {r : AS} (hr : a_st1 i pc al st h = some r) : a_stage i = 1 := by
  unfold a_st1 at hr
  split at hr
  · rename_i v hv
    cases i <;> first | rfl | (simp only [a_const] at hv; cases hv; done)
  split at hr
  · rename_i j kd hv
    cases i <;> first | rfl | (simp only [a_load] at hv; cases hv; done)
  split at hr
  · rename_i j kd hv
    cases i <;> first | rfl | (simp only [a_store] at hv; cases hv; done)
  split at hr <;> first | rfl | (cases hr; done)
theorem a_n2 {i : Instr} {pc : Nat} {al : AL} {st : List Value} {h : AH} {r : AS} (hr : a_st2 i pc al st h = some r) : a_stage i = 2 := by
  unfold a_st2 at hr
  split at hr <;> first
    | rfl
    | (cases hr; done)
    | (rw [Option.map_eq_some_iff] at hr
       obtain ⟨v, h1, -⟩ := hr
       unfold a_bin at h1
       split at h1 <;> first | rfl | (cases h1; done))
theorem a_n3 {i : Instr} {pc : Nat} {al : AL} {st : List Value} {h : AH} {r : AS} (hr : a_st3 i pc al st h = some r) : a_stage i = 3 := by
  unfold a_st3 at hr
  split at hr
  · split at hr
    · split at hr
      · rename_i ht
        unfold a_ald at ht
        split at ht <;> first | rfl | (cases ht; done)
      · cases hr
    · cases hr
  · cases hr
theorem a_n4 {own : Nat} {ini : Bool} {i : Instr} {pc : Nat} {al : AL} {st : List Value} {h : AH} {r : AS} (hr : a_st4 own ini i pc al st h = some r) : a_stage i = 4 := by
  unfold a_st4 at hr
  split at hr <;> first
    | rfl
    | (cases hr; done)
    | (split at hr
       · split at hr
         · rename_i hv
           unfold a_ast at hv
           split at hv <;> first | rfl | (cases hv; done)
         · cases hr
       · cases hr)
theorem a_n5 {own : Nat} {i : Instr} {pc : Nat} {al : AL} {st : List Value} {h : AH} {r : AS} (hr : a_st5 own i pc al st h = some r) : a_stage i = 5 := by
  unfold a_st5 at hr
  split at hr <;> first | rfl | (cases hr; done)
theorem a_n6 {own : Nat} {i : Instr} {pc : Nat} {al : AL} {st : List Value} {h : AH} {r : AS} (hr : a_st6 own i pc al st h = some r) : a_stage i = 6 := by
  unfold a_st6 at hr
  split at hr <;> first | rfl | (cases hr; done)
theorem a_n7 {i : Instr} {pc : Nat} {al : AL} {st : List Value} {h : AH} {r : AS} (hr : a_sw i pc al st h = some r) : a_stage i = 7 := by
  unfold a_sw at hr
  split at hr <;> first | rfl | (cases hr; done)
theorem a_opt {α : Type} {o : Option α} (h : ∀ r, o ≠ some r) : o = none := by
  cases o with
  | none => rfl
  | some r => exact absurd rfl (h r)
/-- the stage that takes the instruction takes the step -/
theorem a_by7 {own : Nat} {ini : Bool} {i : Instr} {len pc : Nat} {al : AL} {st : List Value} {h : AH} {r : AS} (hr : a_sw i pc al st h = some r) : a_stp own ini i len pc al st h = some r := by
  unfold a_stp
  rw [hr]
theorem a_by0 {own : Nat} {ini : Bool} {i : Instr} {len pc : Nat} {al : AL} {st : List Value} {h : AH} {r : AS} (hs : a_stage i ≠ 7) (hl : len = a_len i)
    (hr : (match a_st1 i pc al st h with
    | some r => some r
    | none => match a_st4 own ini i pc al st h with
    | some r => some r
    | none => match a_st2 i pc al st h with
    | some r => some r
    | none => match a_st3 i pc al st h with
    | some r => some r
    | none => match a_st5 own i pc al st h with
    | some r => some r
    | none => a_st6 own i pc al st h) = some r) : a_stp own ini i len pc al st h = some r := by
  unfold a_stp
  rw [a_opt (fun r hr => hs (a_n7 hr))]
  dsimp only
  rw [if_pos hl]
  exact hr
theorem a_by1 {own : Nat} {ini : Bool} {i : Instr} {len pc : Nat} {al : AL} {st : List Value} {h : AH} {r : AS} (hl : len = a_len i) (hr : a_st1 i pc al st h = some r) : a_stp own ini i len pc al st h = some r := by
  have e := a_n1 hr
  exact a_by0 (by rw [e]; decide) hl (by rw [hr])
theorem a_by4 {own : Nat} {ini : Bool} {i : Instr} {len pc : Nat} {al : AL} {st : List Value} {h : AH} {r : AS} (hl : len = a_len i) (hr : a_st4 own ini i pc al st h = some r) : a_stp own ini i len pc al st h = some r := by
  have e := a_n4 hr
  refine a_by0 (by rw [e]; decide) hl ?_
  rw [a_opt (o := a_st1 i pc al st h) (fun r hr => by have := a_n1 hr; rw [e] at this; cases this), hr]
theorem a_by2 {own : Nat} {ini : Bool} {i : Instr} {len pc : Nat} {al : AL} {st : List Value} {h : AH} {r : AS} (hl : len = a_len i) (hr : a_st2 i pc al st h = some r) : a_stp own ini i len pc al st h = some r := by
  have e := a_n2 hr
  refine a_by0 (by rw [e]; decide) hl ?_
  rw [a_opt (o := a_st1 i pc al st h) (fun r hr => by have := a_n1 hr; rw [e] at this; cases this), a_opt (o := a_st4 own ini i pc al st h) (fun r hr => by have := a_n4 hr; rw [e] at this; cases this), hr]
theorem a_by3 {own : Nat} {ini : Bool} {i : Instr} {len pc : Nat} {al : AL} {st : List Value} {h : AH} {r : AS} (hl : len = a_len i) (hr : a_st3 i pc al st h = some r) : a_stp own ini i len pc al st h = some r := by
  have e := a_n3 hr
  refine a_by0 (by rw [e]; decide) hl ?_
  rw [a_opt (o := a_st1 i pc al st h) (fun r hr => by have := a_n1 hr; rw [e] at this; cases this), a_opt (o := a_st4 own ini i pc al st h) (fun r hr => by have := a_n4 hr; rw [e] at this; cases this), a_opt (o := a_st2 i pc al st h) (fun r hr => by have := a_n2 hr; rw [e] at this; cases this), hr]
theorem a_by5 {own : Nat} {ini : Bool} {i : Instr} {len pc : Nat} {al : AL} {st : List Value} {h : AH} {r : AS} (hl : len = a_len i) (hr : a_st5 own i pc al st h = some r) : a_stp own ini i len pc al st h = some r := by
  have e := a_n5 hr
  refine a_by0 (by rw [e]; decide) hl ?_
  rw [a_opt (o := a_st1 i pc al st h) (fun r hr => by have := a_n1 hr; rw [e] at this; cases this), a_opt (o := a_st4 own ini i pc al st h) (fun r hr => by have := a_n4 hr; rw [e] at this; cases this), a_opt (o := a_st2 i pc al st h) (fun r hr => by have := a_n2 hr; rw [e] at this; cases this), a_opt (o := a_st3 i pc al st h) (fun r hr => by have := a_n3 hr; rw [e] at this; cases this), hr]
theorem a_by6 {own : Nat} {ini : Bool} {i : Instr} {len pc : Nat} {al : AL} {st : List Value} {h : AH} {r : AS} (hl : len = a_len i) (hr : a_st6 own i pc al st h = some r) : a_stp own ini i len pc al st h = some r := by
  have e := a_n6 hr
  refine a_by0 (by rw [e]; decide) hl ?_
  rw [a_opt (o := a_st1 i pc al st h) (fun r hr => by have := a_n1 hr; rw [e] at this; cases this), a_opt (o := a_st4 own ini i pc al st h) (fun r hr => by have := a_n4 hr; rw [e] at this; cases this), a_opt (o := a_st2 i pc al st h) (fun r hr => by have := a_n2 hr; rw [e] at this; cases this), a_opt (o := a_st3 i pc al st h) (fun r hr => by have := a_n3 hr; rw [e] at this; cases this), a_opt (o := a_st5 own i pc al st h) (fun r hr => by have := a_n5 hr; rw [e] at this; cases this)]
  exact hr
/-- a step that the symbols let be -/
theorem g_stp {own : Nat} {ini : Bool} {i : Instr} {len pc : Nat} {al : AL} {st : List Value} {h : AH} {r : AS} (hr : a_stp own ini i len pc al st h = some r) : a_stp own ini i len pc (g_A ρ al) (g_S ρ st) (g_H ρ h) = some (g_R ρ r) := by
  unfold a_stp at hr
  split at hr
  · rename_i h1; cases hr; exact a_by7 (g_sw h1)
  · split at hr
    · rename_i hl
      split at hr
      · rename_i h1; cases hr; exact a_by1 hl (g_st1 h1)
      · split at hr
        · rename_i h1; cases hr; exact a_by4 hl (g_st4 h1)
        · split at hr
          · rename_i h1; cases hr; exact a_by2 hl (g_st2 h1)
          · split at hr
            · rename_i h1; cases hr; exact a_by3 hl (g_st3 h1)
            · split at hr
              · rename_i h1; cases hr; exact a_by5 hl (g_st5 h1)
              · exact a_by6 hl (g_st6 hr)
    · cases hr
end GN2
end
/-! part 27.sym -/
section
/-! The symbolic machine: a symbol's values lie in a set of intervals; a branch on a symbol splits. Symbols below 8 are free; 8 + n is n as a char; 16 + n is n & 63. -/
abbrev SS : Type := List (Int × Int)
abbrev SE : Type := List SS
def s_in (S : SS) (x : Int) : Prop := ∃ q ∈ S, q.1 ≤ x ∧ x ≤ q.2
def s_sat (E : SE) (ρ : GV) : Prop := ∀ (k : Nat) (S : SS), E[k]? = some S → s_in S (ρ.1 k).toInt
def s_i2c (x : Int32) : Int32 := (x.toUInt32 % 65536).toInt32
def s_fix (ρ : GV) : Prop := ∀ n, n < 8 → ρ.1 (8 + n) = s_i2c (ρ.1 n) ∧ ρ.1 (16 + n) = ρ.1 n &&& 63
def s_get (E : SE) (k : Nat) : SS := (E[k]?).getD []
theorem s_sat.get {E : SE} {ρ : GV} (h : s_sat E ρ) {k : Nat} (hk : k < E.length) : s_in (s_get E k) (ρ.1 k).toInt := by
  unfold s_get
  rw [List.getElem?_eq_getElem hk]
  exact h k _ (List.getElem?_eq_getElem hk)
theorem s_sat.upd {E : SE} {ρ : GV} (h : s_sat E ρ) {k : Nat} {S : SS} (hS : s_in S (ρ.1 k).toInt) : s_sat (E.set k S) ρ := by
  intro j T hj
  rw [List.getElem?_set] at hj
  split at hj
  · rename_i e
    subst e
    split at hj
    · cases hj; exact hS
    · cases hj
  · exact h j T hj
def s_le (S : SS) (c : Int) : SS := S.filterMap (fun q => if q.1 ≤ c then some (q.1, if q.2 ≤ c then q.2 else c) else none)
def s_ge (S : SS) (c : Int) : SS := S.filterMap (fun q => if c ≤ q.2 then some (if c ≤ q.1 then q.1 else c, q.2) else none)
def s_eqs (S : SS) (c : Int) : SS := if (S.any fun q => decide (q.1 ≤ c) && decide (c ≤ q.2)) = true then [(c, c)] else []
def s_nes (S : SS) (c : Int) : SS := S.flatMap (fun q => if q.1 ≤ c ∧ c ≤ q.2 then (if q.1 < c then [(q.1, c - 1)] else []) ++ (if c < q.2 then [(c + 1, q.2)] else []) else [q])
theorem s_le_ok {S : SS} {c x : Int} (h : s_in S x) (hx : x ≤ c) : s_in (s_le S c) x := by
  obtain ⟨q, hq, h1, h2⟩ := h
  refine ⟨(q.1, if q.2 ≤ c then q.2 else c), List.mem_filterMap.mpr ⟨q, hq, if_pos (by omega)⟩, h1, ?_⟩
  dsimp only
  split <;> omega
theorem s_ge_ok {S : SS} {c x : Int} (h : s_in S x) (hx : c ≤ x) : s_in (s_ge S c) x := by
  obtain ⟨q, hq, h1, h2⟩ := h
  refine ⟨(if c ≤ q.1 then q.1 else c, q.2), List.mem_filterMap.mpr ⟨q, hq, if_pos (by omega)⟩, ?_, h2⟩
  dsimp only
  split <;> omega
theorem s_eqs_ok {S : SS} {c x : Int} (h : s_in S x) (hx : x = c) : s_in (s_eqs S c) x := by
  obtain ⟨q, hq, h1, h2⟩ := h
  unfold s_eqs
  rw [if_pos (List.any_eq_true.mpr ⟨q, hq, by rw [Bool.and_eq_true, decide_eq_true_eq, decide_eq_true_eq]; omega⟩)]
  exact ⟨(c, c), List.mem_cons_self, by dsimp only; omega, by dsimp only; omega⟩
theorem s_nes_ok {S : SS} {c x : Int} (h : s_in S x) (hx : ¬ x = c) : s_in (s_nes S c) x := by
  obtain ⟨q, hq, h1, h2⟩ := h
  unfold s_nes
  by_cases hc : q.1 ≤ c ∧ c ≤ q.2
  · rcases Int.lt_or_gt_of_ne hx with g | g
    · exact ⟨(q.1, c - 1), List.mem_flatMap.mpr ⟨q, hq, by rw [if_pos hc, if_pos (by omega)]; simp⟩, h1, by dsimp only; omega⟩
    · exact ⟨(c + 1, q.2), List.mem_flatMap.mpr ⟨q, hq, by rw [if_pos hc, if_pos (show c < q.2 by omega)]; simp⟩, by dsimp only; omega, h2⟩
  · exact ⟨q, List.mem_flatMap.mpr ⟨q, hq, by rw [if_neg hc]; simp⟩, h1, h2⟩
/-- where a symbol of S stands to c: the values for yes, for no -/
def s_cnd (k : Jvm.ClassFile.Cond) (S : SS) (c : Int) : SS × SS := match k with
  | .eq => (s_eqs S c, s_nes S c)
  | .ne => (s_nes S c, s_eqs S c)
  | .lt => (s_le S (c - 1), s_ge S c)
  | .ge => (s_ge S c, s_le S (c - 1))
  | .gt => (s_ge S (c + 1), s_le S c)
  | .le => (s_le S c, s_ge S (c + 1))
theorem s_cnd_ok {k : Jvm.ClassFile.Cond} {S : SS} {x c : Int32} (h : s_in S x.toInt) : (a_if2 k x c = true → s_in (s_cnd k S c.toInt).1 x.toInt) ∧ (a_if2 k x c = false → s_in (s_cnd k S c.toInt).2 x.toInt) := by
  have e1 : (x = c) ↔ x.toInt = c.toInt := Int32.toInt_inj.symm
  have e2 : (x < c) ↔ x.toInt < c.toInt := Int32.lt_iff_toInt_lt
  have e3 : (c ≤ x) ↔ c.toInt ≤ x.toInt := Int32.le_iff_toInt_le
  have e4 : (c < x) ↔ c.toInt < x.toInt := Int32.lt_iff_toInt_lt
  have e5 : (x ≤ c) ↔ x.toInt ≤ c.toInt := Int32.le_iff_toInt_le
  cases k <;> simp only [a_if2, s_cnd, decide_eq_true_eq, decide_eq_false_iff_not, Bool.not_eq_true', Bool.not_eq_false', e1, e2, e3, e4, e5]
  · exact ⟨s_eqs_ok h, s_nes_ok h⟩
  · exact ⟨s_nes_ok h, s_eqs_ok h⟩
  · exact ⟨fun g => s_le_ok h (by omega), fun g => s_ge_ok h (by omega)⟩
  · exact ⟨fun g => s_ge_ok h g, fun g => s_le_ok h (by omega)⟩
  · exact ⟨fun g => s_ge_ok h (by omega), fun g => s_le_ok h (by omega)⟩
  · exact ⟨fun g => s_le_ok h g, fun g => s_ge_ok h (by omega)⟩
def s_flip (k : Jvm.ClassFile.Cond) : Jvm.ClassFile.Cond := match k with
  | .eq => .eq
  | .ne => .ne
  | .lt => .gt
  | .ge => .le
  | .gt => .lt
  | .le => .ge
theorem s_flip_ok (k : Jvm.ClassFile.Cond) (x y : Int32) : a_if2 k x y = a_if2 (s_flip k) y x := by
  have e : decide (x = y) = decide (y = x) := by simp [eq_comm]
  cases k <;> simp only [a_if2, s_flip, e]
theorem s_if1 (k : Jvm.ClassFile.Cond) (x : Int32) : a_if1 k x = a_if2 k x 0 := by cases k <;> rfl
/-- the two ways of a branch, those that can be -/
def s_two (E : SE) (n : Nat) (q : SS × SS) (T F : AS) : List (SE × AS) := (if q.1.isEmpty = true then [] else [(E.set n q.1, T)]) ++ (if q.2.isEmpty = true then [] else [(E.set n q.2, F)])
theorem s_ne {S : SS} {x : Int} (h : s_in S x) : ¬ S.isEmpty = true := by
  obtain ⟨q, hq, -⟩ := h
  intro hn
  rw [List.isEmpty_iff.mp hn] at hq
  cases hq
theorem s_two_ok {E : SE} {ρ : GV} (hs : s_sat E ρ) {n : Nat} {q : SS × SS} {T F : AS} {b : Bool} (h1 : b = true → s_in q.1 (ρ.1 n).toInt) (h2 : b = false → s_in q.2 (ρ.1 n).toInt) : ∃ o ∈ s_two E n q T F, s_sat o.1 ρ ∧ o.2 = if b = true then T else F := by
  cases b with
  | true =>
    have h := h1 rfl
    exact ⟨(E.set n q.1, T), by unfold s_two; rw [if_neg (s_ne h)]; simp, hs.upd h, rfl⟩
  | false =>
    have h := h2 rfl
    exact ⟨(E.set n q.2, F), by unfold s_two; rw [if_neg (show ¬ q.2.isEmpty = true from s_ne h)]; simp, hs.upd h, rfl⟩
/-- all values of a set, if they are few -/
def s_vals (S : SS) : List Int := S.flatMap fun q => (List.range (q.2 - q.1 + 1).toNat).map fun (k : Nat) => q.1 + (k : Int)
theorem s_vals_ok {S : SS} {x : Int} (h : s_in S x) : x ∈ s_vals S := by
  obtain ⟨q, hq, h1, h2⟩ := h
  exact List.mem_flatMap.mpr ⟨q, hq, List.mem_map.mpr ⟨(x - q.1).toNat, List.mem_range.mpr (by omega), by omega⟩⟩
def s_few (S : SS) : Bool := decide ((S.map fun q => q.2 - q.1 + 1).sum ≤ 128)
/-- all values lie from a to b -/
def s_sub (S : SS) (a b : Int) : Bool := S.all fun q => decide (a ≤ q.1) && decide (q.2 ≤ b)
theorem s_sub_ok {S : SS} {a b x : Int} (h : s_in S x) (hs : s_sub S a b = true) : a ≤ x ∧ x ≤ b := by
  obtain ⟨q, hq, h1, h2⟩ := h
  have := List.all_eq_true.mp hs q hq
  rw [Bool.and_eq_true, decide_eq_true_eq, decide_eq_true_eq] at this
  omega
/-- a type takes all values of a set as they are -/
def s_fit (ty : FieldType) (S : SS) : Bool := match ty with
  | .int => true
  | .char => s_sub S 0 65535
  | .boolean => s_sub S 0 1
  | _ => false
theorem s_nat {x : Int32} {n : Nat} (h1 : 0 ≤ x.toInt) (h2 : x.toInt ≤ (n : Int)) (hn : n < 2 ^ 31) : ∃ j : Nat, j ≤ n ∧ x = nI j := by
  refine ⟨x.toInt.toNat, by omega, Int32.toInt_inj.mp ?_⟩
  rw [nI_toInt (by omega)]
  omega
theorem s_bv (y : Int32) : nI y.toBitVec.toNat = y := by
  apply Int32.toBitVec_inj.mp
  simp [nI]
theorem s_bvn {j : Nat} (h : j < 2 ^ 31) : (nI j).toBitVec.toNat = j := by
  simp [nI]
  omega
theorem s_i2c_in (x : Int32) : s_in [(0, 65535)] (s_i2c x).toInt := by
  have h : (s_i2c x).toInt = ((x.toBitVec.toNat % 65536 : Nat) : Int) := by
    unfold s_i2c
    rw [pk_char, nI_toInt (by omega)]
  exact ⟨(0, 65535), List.mem_cons_self, by rw [h]; omega, by rw [h]; dsimp only; omega⟩
theorem s_i2c_id {x : Int32} (h1 : 0 ≤ x.toInt) (h2 : x.toInt ≤ 65535) : s_i2c x = x := by
  obtain ⟨j, hj, rfl⟩ := s_nat (n := 65535) h1 h2 (by decide)
  unfold s_i2c
  rw [pk_char, s_bvn (by omega), Nat.mod_eq_of_lt (by omega)]
theorem s_and_in (x : Int32) : s_in [(0, 63)] (x &&& 63).toInt := by
  have h1 : (x &&& 63).toBitVec.toNat ≤ 63 := by
    have : (x &&& 63).toBitVec.toNat = x.toBitVec.toNat &&& 63 := by simp
    rw [this]
    exact Nat.and_le_right
  have h : (x &&& 63).toInt = (((x &&& 63).toBitVec.toNat : Nat) : Int) := by
    conv => lhs; rw [← s_bv (x &&& 63)]
    rw [nI_toInt (by omega)]
  exact ⟨(0, 63), List.mem_cons_self, by rw [h]; omega, by rw [h]; dsimp only; omega⟩
theorem s_fit_ok {ty : FieldType} {S : SS} {x : Int32} (h : s_in S x.toInt) (hf : s_fit ty S = true) : narrow ty (.int x) = .int x ∧ fits ty (.int x) = true := by
  cases ty <;> simp only [s_fit] at hf <;> first | (cases hf; done) | skip
  · obtain ⟨h1, h2⟩ := s_sub_ok h hf
    obtain ⟨j, hj, rfl⟩ := s_nat (n := 65535) h1 h2 (by decide)
    exact pk_charN (q := j) (by omega)
  · exact ⟨rfl, rfl⟩
  · obtain ⟨h1, h2⟩ := s_sub_ok h hf
    obtain ⟨j, hj, rfl⟩ := s_nat (n := 1) h1 h2 (by decide)
    have : j = 0 ∨ j = 1 := by omega
    rcases this with rfl | rfl <;> exact ⟨by decide, by decide⟩
/-- which symbol on the stack must be made a number: the top one (false), the second (true) -/
def s_con (i : Instr) (st : List Value) : Option (Nat × Bool) := match i, st with
  | .tableswitch .., .retAddr n :: _ => some (n, false)
  | .iadd, .retAddr n :: _ => some (n, false)
  | .isub, .retAddr n :: _ => some (n, false)
  | .imul, .retAddr n :: _ => some (n, false)
  | .i2l, .retAddr n :: _ => some (n, false)
  | .iaload, .retAddr n :: _ => some (n, false)
  | .baload, .retAddr n :: _ => some (n, false)
  | .caload, .retAddr n :: _ => some (n, false)
  | .aaload, .retAddr n :: _ => some (n, false)
  | .iadd, .int _ :: .retAddr n :: _ => some (n, true)
  | .isub, .int _ :: .retAddr n :: _ => some (n, true)
  | .imul, .int _ :: .retAddr n :: _ => some (n, true)
  | .idiv, .retAddr n :: _ => some (n, false)
  | .irem, .retAddr n :: _ => some (n, false)
  | .idiv, .int _ :: .retAddr n :: _ => some (n, true)
  | .irem, .int _ :: .retAddr n :: _ => some (n, true)
  | .iastore, _ :: .retAddr n :: _ => some (n, true)
  | .bastore, _ :: .retAddr n :: _ => some (n, true)
  | .castore, _ :: .retAddr n :: _ => some (n, true)
  | .aastore, _ :: .retAddr n :: _ => some (n, true)
  | _, _ => none
def s_put (b : Bool) (v : Value) (st : List Value) : List Value := match b, st with
  | false, _ :: st => v :: st
  | true, u :: _ :: st => u :: v :: st
  | _, st => st
def s_seq {α : Type} : List (Option α) → Option (List α)
  | [] => some []
  | none :: _ => none
  | some a :: l => (s_seq l).map (a :: ·)
theorem s_seq_in {α : Type} : ∀ {l : List (Option α)} {r : List α}, s_seq l = some r → ∀ {o : Option α}, o ∈ l → ∃ a ∈ r, o = some a
  | [], r, h, o, ho => absurd ho List.not_mem_nil
  | none :: l, r, h, o, ho => by cases h
  | some a :: l, r, h, o, ho => by
    rw [s_seq, Option.map_eq_some_iff] at h
    obtain ⟨r', h1, rfl⟩ := h
    rcases List.mem_cons.mp ho with rfl | ho
    · exact ⟨a, List.mem_cons_self, rfl⟩
    · obtain ⟨b, hb, e⟩ := s_seq_in h1 ho
      exact ⟨b, List.mem_cons_of_mem _ hb, e⟩
def s_gen (E : SE) (own : Nat) (ini : Bool) (i : Instr) (len pc : Nat) (al : AL) (st : List Value) (h : AH) : Option (List (SE × AS)) :=
  match a_load i with
  | some (k, kd) => (match a_get al k with
    | some (.retAddr n) => if kd = 0 then some [(E, (pc + len, al, .retAddr n :: st, h, 0, 0))] else none
    | _ => (a_stp own ini i len pc al st h).map fun r => [(E, r)])
  | none => match a_store i, st with
    | some (k, kd), .retAddr n :: st => if kd = 0 ∧ k < al.length then some [(E, (pc + len, a_set1 al k (.retAddr n), st, h, 0, 0))] else none
    | _, st => (a_stp own ini i len pc al st h).map fun r => [(E, r)]
def s_stp (E : SE) (own : Nat) (ini : Bool) (i : Instr) (len pc : Nat) (al : AL) (st : List Value) (h : AH) : Option (List (SE × AS)) :=
  match s_con i st with
  | some (n, b) => if n < E.length ∧ s_few (s_get E n) = true then s_seq ((s_vals (s_get E n)).map fun v => (a_stp own ini i len pc al (s_put b (.int (Int32.ofInt v)) st) h).map fun r => (E.set n [(v, v)], r)) else none
  | none => match i, st with
    | .ifCond c off, .retAddr n :: st => if n < E.length then (a_tgt pc off).map (fun t => s_two E n (s_cnd c (s_get E n) 0) (t, al, st, h, 0, 0) (pc + 3, al, st, h, 0, 0)) else none
    | .if_icmp c off, .int y :: .retAddr n :: st => if n < E.length then (a_tgt pc off).map (fun t => s_two E n (s_cnd c (s_get E n) y.toInt) (t, al, st, h, 0, 0) (pc + 3, al, st, h, 0, 0)) else none
    | .if_icmp c off, .retAddr n :: .int x :: st => if n < E.length then (a_tgt pc off).map (fun t => s_two E n (s_cnd (s_flip c) (s_get E n) x.toInt) (t, al, st, h, 0, 0) (pc + 3, al, st, h, 0, 0)) else none
    | .if_icmp _ off, .retAddr _ :: .retAddr _ :: st => (a_tgt pc off).map (fun t => [(E, (t, al, st, h, 0, 0)), (E, (pc + 3, al, st, h, 0, 0))])
    | .i2c, .retAddr n :: st => if n < 8 then some [(E, (pc + 1, al, .retAddr (8 + n) :: st, h, 0, 0))] else if n < E.length ∧ s_sub (s_get E n) 0 65535 = true then some [(E, (pc + 1, al, .retAddr n :: st, h, 0, 0))] else none
    | .iand, .int c :: .retAddr n :: st => if n < 8 ∧ c = 63 then some [(E, (pc + 1, al, .retAddr (16 + n) :: st, h, 0, 0))] else none
    | .putfield idx, .retAddr n :: .ref a :: st => match a_field own idx with
      | some (ci, k) => match h[a]? with
        | some (t, vs) => if t = ci ∧ k < vs.length ∧ n < E.length ∧ s_fit (a_fty ci k) (s_get E n) = true ∧ ((a_cT ci k).2.2.2 = false ∨ (ini = true ∧ own = ci)) then some [(E, (pc + 3, al, st, h.set a (t, vs.set k (.retAddr n)), 0, 0))] else none
        | none => none
      | none => none
    | .iastore, .retAddr n :: .int j :: .ref a :: st => match h[a]? with
      | some (t, vs) => if t ≠ 19 ∧ a_aty t = some .int then (a_ix j vs.length).map (fun k => [(E, (pc + 1, al, st, h.set a (t, vs.set k (.retAddr n)), 0, 0))]) else none
      | none => none
    | .castore, .retAddr n :: .int j :: .ref a :: st => match h[a]? with
      | some (t, vs) => if a_aty t = some .char ∧ n < E.length ∧ s_fit .char (s_get E n) = true then (a_ix j vs.length).map (fun k => [(E, (pc + 1, al, st, h.set a (t, vs.set k (.retAddr n)), 0, 0))]) else none
      | none => none
    | i, st => s_gen E own ini i len pc al st h
/-! its steps are the abstract machine's -/
section SY
variable {ρ : GV} {E : SE}
theorem s_put_g {i : Instr} {st : List Value} {n : Nat} {b : Bool} (hc : s_con i st = some (n, b)) : g_S ρ (s_put b (.int (ρ.1 n)) st) = g_S ρ st := by
  unfold s_con at hc
  split at hc <;> cases hc <;> rfl
theorem s_gen_ok (hs : s_sat E ρ) {own : Nat} {ini : Bool} {i : Instr} {len pc : Nat} {al : AL} {st : List Value} {h : AH} {outs : List (SE × AS)} (hlen : a_isSw i = false → len = a_len i) (hr : s_gen E own ini i len pc al st h = some outs) : ∃ o ∈ outs, s_sat o.1 ρ ∧ a_stp own ini i len pc (g_A ρ al) (g_S ρ st) (g_H ρ h) = some (g_R ρ o.2) := by
  have gen : ∀ {X : Option (List (SE × AS))}, X = ((a_stp own ini i len pc al st h).map fun r => [(E, r)]) → X = some outs → ∃ o ∈ outs, s_sat o.1 ρ ∧ a_stp own ini i len pc (g_A ρ al) (g_S ρ st) (g_H ρ h) = some (g_R ρ o.2) := by
    intro X e1 e2
    rw [e1, Option.map_eq_some_iff] at e2
    obtain ⟨r, h1, rfl⟩ := e2
    exact ⟨(E, r), List.mem_cons_self, hs, g_stp h1⟩
  unfold s_gen at hr
  split at hr
  · rename_i k kd hl
    split at hr
    · rename_i n hg
      split at hr
      · rename_i hk
        subst hk
        cases hr
        have hst : a_stage i = 1 := by
          cases i <;> first | rfl | (simp only [a_load] at hl; cases hl; done)
        have hsw : a_isSw i = false := by
          cases i <;> first | rfl | cases hst
        have hl2 := hlen hsw
        refine ⟨_, List.mem_cons_self, hs, a_by1 hl2 ?_⟩
        have hc0 : a_const i = none := by
          cases i <;> first | rfl | (simp only [a_load] at hl; cases hl; done)
        unfold a_st1
        rw [hc0]
        dsimp only
        rw [hl]
        dsimp only
        rw [g_get_some hg]
        show (if a_kind (Value.int (ρ.1 n)) = 0 then _ else _) = _
        rw [if_pos (show a_kind (Value.int (ρ.1 n)) = 0 from rfl), hl2]; rfl
      · cases hr
    · exact gen rfl hr
  · rename_i hl
    split at hr
    · rename_i k kd n st' hst0
      split at hr
      · rename_i hk
        obtain ⟨hk, hkl⟩ := hk
        subst hk
        cases hr
        have hst : a_stage i = 1 := by
          cases i <;> first | rfl | (simp only [a_store] at hst0; cases hst0; done)
        have hsw : a_isSw i = false := by
          cases i <;> first | rfl | cases hst
        have hl2 := hlen hsw
        refine ⟨_, List.mem_cons_self, hs, a_by1 hl2 ?_⟩
        have hc0 : a_const i = none := by
          cases i <;> first | rfl | (simp only [a_store] at hst0; cases hst0; done)
        unfold a_st1
        rw [hc0]
        dsimp only
        rw [hl]
        dsimp only
        rw [hst0]
        show (if a_kind (Value.int (ρ.1 n)) = 0 then (a_sto (g_A ρ al) k (.int (ρ.1 n))).map _ else _) = _
        have e : a_sto (g_A ρ al) k (.int (ρ.1 n)) = some (a_set1 (g_A ρ al) k (.int (ρ.1 n))) := by
          unfold a_sto
          rw [if_neg (show ¬ (Value.int (ρ.1 n)).category = 2 from (by decide : ¬ (1 : Nat) = 2)), if_pos (by rw [g_len]; exact hkl)]
        rw [if_pos (show a_kind (Value.int (ρ.1 n)) = 0 from rfl), e, hl2]
        show some (_, _, _, _, _, _) = some (_, g_A ρ (a_set1 al k (.retAddr n)), _, _, _, _)
        rw [g_set1]; rfl
      · cases hr
    · exact gen rfl hr
set_option maxHeartbeats 2000000 in
theorem s_stp_ok (hρ : s_fix ρ) (hs : s_sat E ρ) {own : Nat} {ini : Bool} {i : Instr} {len pc : Nat} {al : AL} {st : List Value} {h : AH} {outs : List (SE × AS)} (hlen : a_isSw i = false → len = a_len i) (hr : s_stp E own ini i len pc al st h = some outs) : ∃ o ∈ outs, s_sat o.1 ρ ∧ a_stp own ini i len pc (g_A ρ al) (g_S ρ st) (g_H ρ h) = some (g_R ρ o.2) := by
  unfold s_stp at hr
  split at hr
  · rename_i n b hc
    split at hr
    · rename_i hn
      have hin := hs.get hn.1
      obtain ⟨a, ha, e⟩ := s_seq_in hr (List.mem_map.mpr ⟨(ρ.1 n).toInt, s_vals_ok hin, rfl⟩)
      rw [Option.map_eq_some_iff] at e
      obtain ⟨r, h1, rfl⟩ := e
      have e2 : Int32.ofInt (ρ.1 n).toInt = ρ.1 n := Int32.ofInt_toInt _
      rw [e2] at h1
      have h2 := g_stp (ρ := ρ) h1
      rw [s_put_g hc] at h2
      exact ⟨_, ha, hs.upd ⟨((ρ.1 n).toInt, (ρ.1 n).toInt), List.mem_cons_self, Int.le_refl _, Int.le_refl _⟩, h2⟩
    · cases hr
  · split at hr
    · -- ifCond
      rename_i c off n st' _
      split at hr
      · rename_i hn
        rw [Option.map_eq_some_iff] at hr
        obtain ⟨t, h1, rfl⟩ := hr
        have hin := hs.get hn
        have hc := s_cnd_ok (k := c) (c := 0) hin
        obtain ⟨o, ho, h2, h3⟩ := s_two_ok (T := (t, al, st', h, 0, 0)) (F := (pc + 3, al, st', h, 0, 0)) hs hc.1 hc.2
        refine ⟨o, ho, h2, a_by1 (hlen rfl) ?_⟩
        show (a_br pc (a_if1 c (ρ.1 n)) off).map _ = _
        rw [s_if1]
        unfold a_br
        rw [h1, h3]
        cases a_if2 c (ρ.1 n) 0 <;> rfl
      · cases hr
    · -- if_icmp, the symbol first
      rename_i c off y n st' _
      split at hr
      · rename_i hn
        rw [Option.map_eq_some_iff] at hr
        obtain ⟨t, h1, rfl⟩ := hr
        have hin := hs.get hn
        have hc := s_cnd_ok (k := c) (c := y) hin
        obtain ⟨o, ho, h2, h3⟩ := s_two_ok (T := (t, al, st', h, 0, 0)) (F := (pc + 3, al, st', h, 0, 0)) hs hc.1 hc.2
        refine ⟨o, ho, h2, a_by1 (hlen rfl) ?_⟩
        show (a_br pc (a_if2 c (ρ.1 n) y) off).map _ = _
        unfold a_br
        rw [h1, h3]
        cases a_if2 c (ρ.1 n) y <;> rfl
      · cases hr
    · -- if_icmp, the symbol second
      rename_i c off n x st' _
      split at hr
      · rename_i hn
        rw [Option.map_eq_some_iff] at hr
        obtain ⟨t, h1, rfl⟩ := hr
        have hin := hs.get hn
        have hc := s_cnd_ok (k := s_flip c) (c := x) hin
        obtain ⟨o, ho, h2, h3⟩ := s_two_ok (T := (t, al, st', h, 0, 0)) (F := (pc + 3, al, st', h, 0, 0)) hs hc.1 hc.2
        refine ⟨o, ho, h2, a_by1 (hlen rfl) ?_⟩
        show (a_br pc (a_if2 c x (ρ.1 n)) off).map _ = _
        rw [s_flip_ok]
        unfold a_br
        rw [h1, h3]
        cases a_if2 (s_flip c) (ρ.1 n) x <;> rfl
      · cases hr
    · -- if_icmp, both
      rename_i c off m n st' _
      rw [Option.map_eq_some_iff] at hr
      obtain ⟨t, h1, rfl⟩ := hr
      have key : a_st1 (.if_icmp c off) pc (g_A ρ al) (.int (ρ.1 m) :: .int (ρ.1 n) :: g_S ρ st') (g_H ρ h) = some (g_R ρ (if a_if2 c (ρ.1 n) (ρ.1 m) = true then (t, al, st', h, 0, 0) else (pc + 3, al, st', h, 0, 0))) := by
        show (a_br pc (a_if2 c (ρ.1 n) (ρ.1 m)) off).map _ = _
        unfold a_br
        rw [h1]
        cases a_if2 c (ρ.1 n) (ρ.1 m) <;> rfl
      have key2 := a_by1 (own := own) (ini := ini) (hlen rfl) key
      cases hb : a_if2 c (ρ.1 n) (ρ.1 m) with
      | true => rw [hb] at key2; exact ⟨_, List.mem_cons_self, hs, key2⟩
      | false => rw [hb] at key2; exact ⟨_, List.mem_cons_of_mem _ List.mem_cons_self, hs, key2⟩
    · -- i2c
      rename_i n st' _
      split at hr
      · rename_i hn
        cases hr
        refine ⟨_, List.mem_cons_self, hs, a_by2 (hlen rfl) ?_⟩
        show some (_, _, Value.int (s_i2c (ρ.1 n)) :: _, _, _, _) = some (_, _, Value.int (ρ.1 (8 + n)) :: _, _, _, _)
        rw [(hρ n hn).1]
      · split at hr
        · rename_i hn
          cases hr
          refine ⟨_, List.mem_cons_self, hs, a_by2 (hlen rfl) ?_⟩
          obtain ⟨g1, g2⟩ := s_sub_ok (hs.get hn.1) hn.2
          show some (_, _, Value.int (s_i2c (ρ.1 n)) :: _, _, _, _) = some (_, _, Value.int (ρ.1 n) :: _, _, _, _)
          rw [s_i2c_id g1 g2]
        · cases hr
    · -- iand
      rename_i c n st' _
      split at hr
      · rename_i hn
        cases hr
        refine ⟨_, List.mem_cons_self, hs, a_by2 (hlen rfl) ?_⟩
        show some (_, _, Value.int (ρ.1 n &&& c) :: _, _, _, _) = some (_, _, Value.int (ρ.1 (16 + n)) :: _, _, _, _)
        rw [(hρ n hn.1).2, hn.2]
      · cases hr
    · -- putfield
      rename_i idx n a st' _
      split at hr
      · rename_i ci k hf
        split at hr
        · rename_i t vs ha
          split at hr
          · rename_i ht
            cases hr
            obtain ⟨f1, f2⟩ := s_fit_ok (hs.get ht.2.2.1) ht.2.2.2.1
            refine ⟨_, List.mem_cons_self, hs, a_by4 (hlen rfl) ?_⟩
            show (match a_field own idx with
              | some (ci, k) => match (g_H ρ h)[a]? with
                | some (t, vs) => if t = ci ∧ k < vs.length ∧ narrow (a_fty ci k) (Value.int (ρ.1 n)) = Value.int (ρ.1 n) ∧ fits (a_fty ci k) (Value.int (ρ.1 n)) = true ∧ ((a_cT ci k).2.2.2 = false ∨ (ini = true ∧ own = ci)) then some (pc + 3, g_A ρ al, g_S ρ st', (g_H ρ h).set a (t, vs.set k (Value.int (ρ.1 n))), 0, 0) else none
                | none => none
              | none => none) = _
            rw [hf]
            dsimp only
            rw [g_cel ha (by have := (a_field_in hf).2.2; have := ht.1; omega)]
            dsimp only
            rw [List.length_map, if_pos ⟨ht.1, ht.2.1, f1, f2, ht.2.2.2.2⟩]
            show _ = some (_, _, _, g_H ρ (h.set a (t, vs.set k (.retAddr n))), _, _)
            rw [g_setH _ _ _ _ _ _ (by have := (a_field_in hf).2.2; have := ht.1; omega)]; rfl
          · cases hr
        · cases hr
      · cases hr
    · -- iastore
      rename_i n j a st' _
      split at hr
      · rename_i t vs ha
        split at hr
        · rename_i ht
          rw [Option.map_eq_some_iff] at hr
          obtain ⟨k, h1, rfl⟩ := hr
          refine ⟨_, List.mem_cons_self, hs, a_by4 (hlen rfl) ?_⟩
          show (match (g_H ρ h)[a]? with
            | some (t, vs) => match (if t ≠ 19 ∧ a_aty t = some FieldType.int then some (Value.int (ρ.1 n)) else none) with
              | some v => (a_ix j vs.length).map (fun n => (pc + 1, g_A ρ al, g_S ρ st', (g_H ρ h).set a (t, vs.set n v), 0, 0))
              | none => none
            | none => none) = _
          rw [g_cel ha (g_ty99 ht.2)]
          dsimp only
          rw [if_pos ht]
          dsimp only
          rw [List.length_map, h1]
          show some (_, _, _, _, _, _) = some (_, _, _, g_H ρ (h.set a (t, vs.set k (.retAddr n))), _, _)
          rw [g_setH _ _ _ _ _ _ (g_ty99 ht.2)]; rfl
        · cases hr
      · cases hr
    · -- castore
      rename_i n j a st' _
      split at hr
      · rename_i t vs ha
        split at hr
        · rename_i ht
          rw [Option.map_eq_some_iff] at hr
          obtain ⟨k, h1, rfl⟩ := hr
          obtain ⟨f1, f2⟩ := s_fit_ok (hs.get ht.2.1) ht.2.2
          refine ⟨_, List.mem_cons_self, hs, a_by4 (hlen rfl) ?_⟩
          show (match (g_H ρ h)[a]? with
            | some (t, vs) => match (if a_aty t = some FieldType.char then some (narrow .char (.int (ρ.1 n))) else none) with
              | some v => (a_ix j vs.length).map (fun n => (pc + 1, g_A ρ al, g_S ρ st', (g_H ρ h).set a (t, vs.set n v), 0, 0))
              | none => none
            | none => none) = _
          rw [g_cel ha (g_ty99 ht.1), f1]
          dsimp only
          rw [if_pos ht.1]
          dsimp only
          rw [List.length_map, h1]
          show some (_, _, _, _, _, _) = some (_, _, _, g_H ρ (h.set a (t, vs.set k (.retAddr n))), _, _)
          rw [g_setH _ _ _ _ _ _ (g_ty99 ht.1)]; rfl
        · cases hr
      · cases hr
    · exact s_gen_ok hs hlen hr
end SY
end
/-! part 28.srun -/
section
/-! The symbolic machine's run -/
def g_r (ρ : GV) (r : AR) : AR := (match r.1 with
  | .inl v => .inl (v.map (g_v ρ))
  | .inr k => .inr k, g_H ρ r.2.1, r.2.2.1, r.2.2.2)
def s_end (E : SE) (mi : Nat) (i : Instr) (st : List Value) : Option (Option Value) := match i, st with
  | .ireturn, [.retAddr n] => match a_rty mi with
    | some ty => if n < E.length ∧ s_fit ty (s_get E n) = true then some (some (.retAddr n)) else none
    | none => none
  | i, st => a_end mi i st
noncomputable def s_go (call : SE → Nat → List Value → AH → Option (List (SE × AR))) (mi : Nat) : Nat → SE → Nat → AL → List Value → AH → Nat → Nat → Option (List (SE × AR))
  | 0, _, _, _, _, _, _, _ => none
  | f + 1, E, pc, al, st, h, mc, ms =>
    match a_ins mi pc with
    | none => none
    | some (i, len) => match s_end E mi i st with
      | some v => some [(E, .inl v, h, mc, ms)]
      | none => match a_trw mi pc i st with
        | some k => some [(E, .inr k, h, mc + 1, ms + 6)]
        | none => match a_call (a_own mi) i st h with
          | some (mt, as, rest) => (match call E mt as h with
            | none => none
            | some outs => (s_seq (outs.map fun o => match o.2.1 with
              | .inl v => s_go call mi f o.1 (pc + 3) al (v.toList ++ rest) o.2.2.1 (mc + o.2.2.2.1) (ms + o.2.2.2.2)
              | .inr k => if a_isSp i = true then none else if (a_hnd mi).isEmpty = true then some [(o.1, .inr k, o.2.2.1, mc + o.2.2.2.1, ms + o.2.2.2.2)] else (match a_cth mi pc k with
                | some x => (match a_hdl mi x.2.2.1 with
                  | some (hp, n) => if n < al.length then s_go call mi f o.1 hp (a_drop al n) [] o.2.2.1 (mc + o.2.2.2.1) (ms + o.2.2.2.2) else none
                  | none => none)
                | none => none))).map List.flatten)
          | none => match s_stp E (a_own mi) (a_ini mi) i len pc al st h with
            | none => none
            | some outs => (s_seq (outs.map fun o => s_go call mi f o.1 o.2.1 o.2.2.1 o.2.2.2.1 o.2.2.2.2.1 (mc + o.2.2.2.2.2.1) (ms + o.2.2.2.2.2.2))).map List.flatten
noncomputable def s_run : Nat → Nat → SE → Nat → List Value → AH → Option (List (SE × AR))
  | 0, _, _, _, _, _ => none
  | d + 1, F, E, mi, as, h => if as.length = a_nrg mi ∧ as.length ≤ a_mxl mi ∧ (as.all fun v => v.category == 1) = true then s_go (s_run d F) mi F E 0 (a_args mi as) [] h 0 0 else none
theorem a_end_stage {mi : Nat} {i : Instr} {st : List Value} {v : Option Value} (h : a_end mi i st = some v) : a_stage i = 0 := by
  unfold a_end at h
  split at h <;> first | rfl | (cases h; done)
theorem a_stp_stage {own : Nat} {ini : Bool} {i : Instr} {len pc : Nat} {al : AL} {st : List Value} {h : AH} {r : AS} (hr : a_stp own ini i len pc al st h = some r) : a_stage i ≠ 0 := by
  unfold a_stp at hr
  split at hr
  · rename_i h1; rw [a_n7 h1]; decide
  · split at hr
    · split at hr
      · rename_i h1; rw [a_n1 h1]; decide
      · split at hr
        · rename_i h1; rw [a_n4 h1]; decide
        · split at hr
          · rename_i h1; rw [a_n2 h1]; decide
          · split at hr
            · rename_i h1; rw [a_n3 h1]; decide
            · split at hr
              · rename_i h1; rw [a_n5 h1]; decide
              · rw [a_n6 hr]; decide
    · cases hr
theorem a_trw_stage {mi pc : Nat} {i : Instr} {st : List Value} {k : Nat} (h : a_trw mi pc i st = some k) : a_stage i = 5 := by
  unfold a_trw at h
  split at h
  · rfl
  · cases h
theorem a_call_end {own mi : Nat} {i : Instr} {st st' : List Value} {h : AH} {q : Nat × List Value × List Value} (hc : a_call own i st h = some q) : a_end mi i st' = none := by
  refine a_opt (fun v hv => ?_)
  have h0 := a_end_stage hv
  unfold a_call at hc
  split at hc
  · rw [show a_end mi (.invokevirtual _) st' = none from rfl] at hv; cases hv
  · cases h0
  · cases h0
  · cases hc
theorem a_call_stage {own : Nat} {i : Instr} {st : List Value} {h : AH} {q : Nat × List Value × List Value} (hc : a_call own i st h = some q) : a_stage i = 0 ∨ a_stage i = 5 := by
  unfold a_call at hc
  split at hc
  · exact Or.inl rfl
  · exact Or.inr rfl
  · exact Or.inr rfl
  · cases hc
section SG
variable {ρ : GV}
theorem g_own (mi : Nat) : a_own mi ≠ 99 := by
  have h : (a_mthC.flatten.all fun m => decide (m.1 < 14)) = true := by decide +kernel
  unfold a_own
  have h0 : a_mrow mi ∈ a_mthC.flatten ∨ a_mrow mi = (0, "", "", 0, none, 0, [], (0, 0)) := a_getD2
  rcases h0 with k | k
  · have := of_decide_eq_true (List.all_eq_true.mp h _ k)
    omega
  · rw [k]
    exact (by decide : ¬ (0 : Nat) = 99)
theorem g_Slen (st : List Value) : (g_S ρ st).length = st.length := by simp [g_S]
theorem g_Sdrop (n : Nat) (st : List Value) : (g_S ρ st).drop n = g_S ρ (st.drop n) := by simp [g_S, List.map_drop]
theorem g_Srev (n : Nat) (st : List Value) : ((g_S ρ st).take n).reverse = g_S ρ (st.take n).reverse := by simp [g_S, List.map_take, List.map_reverse]
theorem g_trw (mi pc : Nat) (i : Instr) (st : List Value) : a_trw mi pc i (g_S ρ st) = a_trw mi pc i st := by
  unfold a_trw
  split
  · rw [g_catS]
  · rfl
theorem g_head (l : List Value) : (∃ a as, l = .ref a :: as) ∨ ((∀ a as, l ≠ .ref a :: as) ∧ ∀ a as, g_S ρ l ≠ .ref a :: as) := by
  cases l with
  | nil => exact Or.inr ⟨(fun a as h => by cases h), (fun a as h => by cases h)⟩
  | cons v as =>
    cases v <;> first
      | exact Or.inl ⟨_, _, rfl⟩
      | exact Or.inr ⟨(fun a as h => by cases h), (fun a as h => by cases h)⟩
theorem g_call (own : Nat) (i : Instr) (st : List Value) (h : AH) (hi : a_stage i ≠ 0) : a_call own i (g_S ρ st) (g_H ρ h) = (a_call own i st h).map (fun q => (q.1, g_S ρ q.2.1, g_S ρ q.2.2)) := by
  unfold a_call
  split
  · exact absurd rfl hi
  · split
    · rename_i e he
      rw [g_Slen, g_Sdrop, g_catS, g_Srev]
      split <;> rfl
    · rfl
  · split
    · rename_i e he
      rw [g_Slen, g_Sdrop, g_catS, g_Srev]
      split
      · rename_i hc
        rcases g_head (ρ := ρ) (st.take (a_nrg e.2.2.1)).reverse with ⟨a, as, hl⟩ | ⟨n1, n2⟩
        · rw [hl]; rfl
        · split
          · rename_i hq; exact absurd hq (n2 _ _)
          · first
              | rfl
              | (split
                 · rename_i hq; exact absurd hq (n1 _ _)
                 · rfl)
      · rfl
    · rfl
  · rfl
theorem g_call_none {own : Nat} {i : Instr} {st : List Value} {h : AH} (hc : a_call own i st h = none) (hi : a_stage i ≠ 0) : a_call own i (g_S ρ st) (g_H ρ h) = none := by
  rw [g_call _ _ _ _ hi, hc]; rfl
theorem g_call_some {own : Nat} {i : Instr} {st : List Value} {h : AH} {q : Nat × List Value × List Value} (hc : a_call own i st h = some q) : a_call own i (g_S ρ st) (g_H ρ h) = some (q.1, g_S ρ q.2.1, g_S ρ q.2.2) := by
  rcases a_call_stage hc with h0 | h5
  · unfold a_call at hc
    split at hc
    · split at hc
      · rename_i e he
        split at hc
        · rename_i hcond
          split at hc
          · rename_i a as hl
            split at hc
            · rename_i t vs ha
              split at hc
              · rename_i ht
                cases hc
                unfold a_call
                dsimp only
                rw [he]
                dsimp only
                rw [g_Slen, g_Sdrop, g_catS, g_Srev, if_pos hcond, hl]
                show (match (g_H ρ h)[a]? with
                  | some (t, _) => if t = a_own e.2.2.1 then some (e.2.2.1, Value.ref a :: g_S ρ as, g_S ρ (st.drop (a_nrg e.2.2.1))) else none
                  | none => none) = _
                rw [g_cel ha (by rw [ht]; exact g_own _)]
                dsimp only
                rw [if_pos ht]; rfl
              · cases hc
            · cases hc
          · cases hc
        · cases hc
      · cases hc
    · cases h0
    · cases h0
    · cases hc
  · rw [g_call _ _ _ _ (by rw [h5]; decide), hc]; rfl
theorem s_end_ok {E : SE} (hs : s_sat E ρ) {mi : Nat} {i : Instr} {st : List Value} {v : Option Value} (h : s_end E mi i st = some v) : a_end mi i (g_S ρ st) = some (v.map (g_v ρ)) := by
  unfold s_end at h
  split at h
  · rename_i n
    split at h
    · rename_i ty hty
      split at h
      · rename_i hc
        cases h
        obtain ⟨f1, f2⟩ := s_fit_ok (hs.get hc.1) hc.2
        show (match a_rty mi with
          | some ty => if narrow ty (Value.int (ρ.1 n)) = Value.int (ρ.1 n) then some (some (Value.int (ρ.1 n))) else none
          | none => none) = _
        rw [hty]
        dsimp only
        rw [if_pos f1]; rfl
      · cases h
    · cases h
  · have h' := h
    unfold a_end at h
    split at h
    · split at h
      · cases h; exact h'
      · cases h
    · split at h
      · split at h
        · cases h; exact h'
        · cases h
      · cases h
    · split at h
      · cases h; exact h'
      · cases h
    · split at h
      · cases h; exact h'
      · cases h
    · split at h
      · cases h; exact h'
      · cases h
    · cases h
theorem s_fl {α : Type} {l : List (Option (List α))} {r : List α} (h : (s_seq l).map List.flatten = some r) {o : Option (List α)} (ho : o ∈ l) : ∃ a, o = some a ∧ ∀ x ∈ a, x ∈ r := by
  rw [Option.map_eq_some_iff] at h
  obtain ⟨q, h1, rfl⟩ := h
  obtain ⟨a, ha, e⟩ := s_seq_in h1 ho
  exact ⟨a, e, fun x hx => List.mem_flatten.mpr ⟨a, ha, hx⟩⟩
set_option maxHeartbeats 2000000 in
theorem s_go_ok (hρ : s_fix ρ) {mi : Nat} {cS : SE → Nat → List Value → AH → Option (List (SE × AR))} {cA : Nat → List Value → AH → Option AR} (hcall : ∀ (E : SE) (mt : Nat) (as : List Value) (h : AH) (outs : List (SE × AR)), cS E mt as h = some outs → s_sat E ρ → ∃ o ∈ outs, s_sat o.1 ρ ∧ cA mt (g_S ρ as) (g_H ρ h) = some (g_r ρ o.2)) :
    ∀ (f : Nat) (E : SE) (pc : Nat) (al : AL) (st : List Value) (h : AH) (mc ms : Nat) (outs : List (SE × AR)), s_go cS mi f E pc al st h mc ms = some outs → s_sat E ρ → ∃ o ∈ outs, s_sat o.1 ρ ∧ a_go cA mi f pc (g_A ρ al) (g_S ρ st) (g_H ρ h) mc ms = some (g_r ρ o.2)
  | 0, E, pc, al, st, h, mc, ms, outs, hr, hs => by cases hr
  | f + 1, E, pc, al, st, h, mc, ms, outs, hr, hs => by
    rw [s_go] at hr
    rw [a_go]
    split at hr
    · cases hr
    · rename_i i len hi
      rw [hi]
      dsimp only
      split at hr
      · rename_i v hv
        cases hr
        refine ⟨_, List.mem_cons_self, hs, ?_⟩
        rw [s_end_ok hs hv]; rfl
      · split at hr
        · rename_i k hk
          cases hr
          refine ⟨_, List.mem_cons_self, hs, ?_⟩
          have e0 : a_end mi i (g_S ρ st) = none := a_opt (fun v hv => by
            have h1 := a_end_stage hv
            rw [a_trw_stage hk] at h1
            cases h1)
          rw [e0, g_trw, hk]; rfl
        · rename_i htr
          split at hr
          · rename_i mt as rest hc
            split at hr
            · cases hr
            · rename_i os hos
              obtain ⟨o, ho, hso, hco⟩ := hcall E mt as h os hos hs
              obtain ⟨a, ea, hin⟩ := s_fl hr (List.mem_map.mpr ⟨o, ho, rfl⟩)
              have e1 : a_call (a_own mi) i (g_S ρ st) (g_H ρ h) = some (mt, g_S ρ as, g_S ρ rest) := g_call_some hc
              rw [a_call_end hc, g_trw, htr, e1]
              dsimp only
              rw [hco]
              obtain ⟨E', res, h', c', s'⟩ := o
              cases res with
              | inl v =>
                dsimp only at ea hso
                obtain ⟨o2, ho2, hs2, h2⟩ := s_go_ok hρ hcall f E' (pc + 3) al (v.toList ++ rest) h' (mc + c') (ms + s') a ea hso
                refine ⟨o2, hin o2 ho2, hs2, ?_⟩
                have e2 : (v.map (g_v ρ)).toList ++ g_S ρ rest = g_S ρ (v.toList ++ rest) := by cases v <;> simp [g_S]
                show a_go cA mi f (pc + 3) (g_A ρ al) ((v.map (g_v ρ)).toList ++ g_S ρ rest) (g_H ρ h') (mc + c') (ms + s') = _
                rw [e2]
                exact h2
              | inr k =>
                dsimp only at ea hso
                dsimp only [g_r]
                by_cases hsp : a_isSp i = true
                · rw [if_pos hsp] at ea; cases ea
                · rw [if_neg hsp] at ea
                  rw [if_neg hsp]
                  by_cases hemp : (a_hnd mi).isEmpty = true
                  · rw [if_pos hemp] at ea
                    rw [if_pos hemp]
                    cases ea
                    exact ⟨_, hin _ List.mem_cons_self, hso, rfl⟩
                  · rw [if_neg hemp] at ea
                    rw [if_neg hemp]
                    split at ea
                    · rename_i x hx
                      rw [hx]
                      dsimp only
                      split at ea
                      · rename_i hp n hh
                        rw [hh]
                        dsimp only
                        split at ea
                        · rename_i hn
                          rw [g_len, if_pos hn, ← g_drop]
                          obtain ⟨o2, ho2, hs2, h2⟩ := s_go_ok hρ hcall f E' hp (a_drop al n) [] h' (mc + c') (ms + s') a ea hso
                          exact ⟨o2, hin o2 ho2, hs2, h2⟩
                        · cases ea
                      · cases ea
                    · cases ea
          · rename_i hc
            split at hr
            · cases hr
            · rename_i os hos
              obtain ⟨o, ho, hso, hst⟩ := s_stp_ok hρ hs (fun q => a_ins_len hi q) hos
              obtain ⟨a, ea, hin⟩ := s_fl hr (List.mem_map.mpr ⟨o, ho, rfl⟩)
              have e0 : a_end mi i (g_S ρ st) = none := a_opt (fun v hv => a_stp_stage hst (a_end_stage hv))
              have e1 : a_call (a_own mi) i (g_S ρ st) (g_H ρ h) = none := g_call_none hc (a_stp_stage hst)
              rw [e0, g_trw, htr, e1]
              dsimp only
              rw [hst]
              obtain ⟨o2, ho2, hs2, h2⟩ := s_go_ok hρ hcall f o.1 o.2.1 o.2.2.1 o.2.2.2.1 o.2.2.2.2.1 (mc + o.2.2.2.2.2.1) (ms + o.2.2.2.2.2.2) a ea hso
              exact ⟨o2, hin o2 ho2, hs2, h2⟩
end SG
end
/-! part 28m.mk -/
section
/-! The rows that multianewarray makes, at once -/
def t_refs (m : Nat) : Nat → Nat → Nat → List Value → List Value
  | 0, _, _, vs => vs
  | k + 1, i, b, vs => t_refs m k (i + 1) (b + m) (vs.set i (.ref b))
def t_mkS (g : Nat → List AC) (m : Nat) : Nat → Nat → List AC
  | 0, _ => []
  | k + 1, b => g b ++ t_mkS g m k (b + m)
def t_mkG : List FieldType → List Nat → Nat → List AC
  | ty :: tys, n :: n' :: ns, b => (a_atag ty, t_refs (t_mkG tys (n' :: ns) 0).length n 0 (b + 1) (List.replicate n (defaultValue ty))) :: t_mkS (t_mkG tys (n' :: ns)) (t_mkG tys (n' :: ns) 0).length n (b + 1)
  | ty :: _, [n], _ => [a_row ty n]
  | _, _, _ => []
theorem t_mkS_len {g : Nat → List AC} {m : Nat} (hg : ∀ b, (g b).length = m) : ∀ (k b c : Nat), (t_mkS g m k b).length = (t_mkS g m k c).length
  | 0, b, c => rfl
  | k + 1, b, c => by
    simp only [t_mkS, List.length_append, hg]
    rw [t_mkS_len hg k (b + m) (c + m)]
theorem t_mkG_len : ∀ (ns : List Nat) (tys : List FieldType) (b c : Nat), (t_mkG tys ns b).length = (t_mkG tys ns c).length
  | [], tys, b, c => by cases tys <;> rfl
  | [n], [], b, c => rfl
  | [n], ty :: tys, b, c => by cases tys <;> rfl
  | n :: n' :: ns, [], b, c => rfl
  | n :: n' :: ns, ty :: tys, b, c => by
    have h := t_mkS_len (g := t_mkG tys (n' :: ns)) (m := (t_mkG tys (n' :: ns) 0).length) (fun b => t_mkG_len (n' :: ns) tys b 0) n (b + 1) (c + 1)
    simp only [t_mkG, List.length_cons]
    rw [h]
theorem t_setR (H0 R : AH) (t : Nat) (vs : List Value) (i b : Nat) : a_setR (H0 ++ (t, vs) :: R) H0.length i b = H0 ++ (t, vs.set i (.ref b)) :: R := by
  unfold a_setR
  rw [List.getElem?_append_right (Nat.le_refl _), Nat.sub_self]
  show (H0 ++ (t, vs) :: R).set H0.length (t, vs.set i (.ref b)) = _
  rw [List.set_append_right _ _ (Nat.le_refl _), Nat.sub_self]
  rfl
theorem t_mkL {f : AH → AH} {g : Nat → List AC} {m : Nat} (hf : ∀ h, f h = h ++ g h.length) (hg : ∀ b, (g b).length = m) (H0 : AH) (t : Nat) : ∀ (k i : Nat) (vs : List Value) (R : AH), a_mkL f H0.length k i (H0 ++ (t, vs) :: R) = H0 ++ (t, t_refs m k i (H0 ++ (t, vs) :: R).length vs) :: (R ++ t_mkS g m k (H0 ++ (t, vs) :: R).length)
  | 0, i, vs, R => by simp [a_mkL, t_refs, t_mkS]
  | k + 1, i, vs, R => by
    have e1 : f (H0 ++ (t, vs) :: R) = H0 ++ (t, vs) :: (R ++ g (H0 ++ (t, vs) :: R).length) := by
      rw [hf, List.append_assoc]; rfl
    show a_mkL f H0.length k (i + 1) (a_setR (f (H0 ++ (t, vs) :: R)) H0.length i (H0 ++ (t, vs) :: R).length) = _
    rw [e1, t_setR, t_mkL hf hg H0 t k (i + 1)]
    have e2 : (H0 ++ (t, vs.set i (.ref (H0 ++ (t, vs) :: R).length)) :: (R ++ g (H0 ++ (t, vs) :: R).length)).length = (H0 ++ (t, vs) :: R).length + m := by
      simp only [List.length_append, List.length_cons, hg]
      omega
    rw [e2]
    show H0 ++ (t, t_refs m k (i + 1) _ _) :: _ = H0 ++ (t, t_refs m k (i + 1) _ _) :: (R ++ (g _ ++ t_mkS g m k _))
    rw [List.append_assoc]
theorem t_mkE : ∀ (ns : List Nat) (tys : List FieldType) (h : AH), a_mk tys ns h = h ++ t_mkG tys ns h.length
  | [], tys, h => by
    have e : a_mk tys [] h = h := by rcases tys with _ | ⟨_, _ | ⟨_, _⟩⟩ <;> rfl
    have e2 : ∀ b, t_mkG tys [] b = [] := fun b => by rcases tys with _ | ⟨_, _ | ⟨_, _⟩⟩ <;> rfl
    rw [e, e2, List.append_nil]
  | [n], [], h => (List.append_nil h).symm
  | [n], ty :: tys, h => by cases tys <;> rfl
  | n :: n' :: ns, [], h => (List.append_nil h).symm
  | n :: n' :: ns, ty :: tys, h => by
    show a_mkL (a_mk tys (n' :: ns)) h.length n 0 (h ++ [a_row ty n]) = _
    have hm := t_mkL (f := a_mk tys (n' :: ns)) (g := t_mkG tys (n' :: ns)) (m := (t_mkG tys (n' :: ns) 0).length) (fun h => t_mkE (n' :: ns) tys h) (fun b => t_mkG_len (n' :: ns) tys b 0) h (a_atag ty) n 0 (List.replicate n (defaultValue ty)) []
    refine hm.trans ?_
    have e : (h ++ [(a_atag ty, List.replicate n (defaultValue ty))]).length = h.length + 1 := by simp
    rw [e]
    rfl
def t_st6 (own : Nat) (i : Instr) (pc : Nat) (al : AL) (st : List Value) (h : AH) : Option AS := match i, st with
  | .multianewarray idx 2, .int k :: .int n :: st => match a_mty own idx with
    | some t => if a_tys (a_comps t) [n.toNatClampNeg, k.toNatClampNeg] = true ∧ ¬ n < 0 ∧ ¬ k < 0 then some (pc + 4, al, .ref h.length :: st, h ++ t_mkG (a_comps t) [n.toNatClampNeg, k.toNatClampNeg] h.length, a_mkC [n.toNatClampNeg, k.toNatClampNeg], a_mkS [n.toNatClampNeg, k.toNatClampNeg]) else none
    | none => none
  | .multianewarray idx 3, .int k :: .int o :: .int n :: st => match a_mty own idx with
    | some t => if a_tys (a_comps t) [n.toNatClampNeg, o.toNatClampNeg, k.toNatClampNeg] = true ∧ ¬ n < 0 ∧ ¬ o < 0 ∧ ¬ k < 0 then some (pc + 4, al, .ref h.length :: st, h ++ t_mkG (a_comps t) [n.toNatClampNeg, o.toNatClampNeg, k.toNatClampNeg] h.length, a_mkC [n.toNatClampNeg, o.toNatClampNeg, k.toNatClampNeg], a_mkS [n.toNatClampNeg, o.toNatClampNeg, k.toNatClampNeg]) else none
    | none => none
  | _, _ => none
theorem t_st6_eq {own : Nat} {i : Instr} {pc : Nat} {al : AL} {st : List Value} {h : AH} {r : AS} (hr : t_st6 own i pc al st h = some r) : a_st6 own i pc al st h = some r := by
  unfold t_st6 at hr
  split at hr
  · simp only [← t_mkE] at hr
    exact hr
  · simp only [← t_mkE] at hr
    exact hr
  · cases hr
end
/-! part 29.trun -/
section
/-! The symbolic run with hints: the code goes by as a list, and a number beside each instruction says which kind of step to try first. The numbers prove nothing: a wrong one only costs. -/
abbrev CL : Type := List (Nat × Instr × Nat)
def t_kind (v : Value) : Nat := match v with
  | .retAddr _ => 0
  | v => a_kind v
def t_fast (mi own : Nat) (ini : Bool) (i : Instr) (len pc : Nat) (al : AL) (st : List Value) (h : AH) : Nat → Option AS
  | 0 => none
  | 1 => match a_load i with
    | some (n, kd) => (match a_get al n with
      | some v => bif Nat.beq (t_kind v) kd then some (pc + len, al, v :: st, h, 0, 0) else none
      | none => none)
    | none => none
  | 2 => match a_const i with
    | some v => some (pc + len, al, v :: st, h, 0, 0)
    | none => none
  | 3 => match a_store i, st with
    | some (n, kd), v :: st => bif Nat.beq (t_kind v) kd then (a_sto al n v).map (fun al' => (pc + len, al', st, h, 0, 0)) else none
    | _, _ => none
  | 4 => a_st1 i pc al st h
  | 5 => a_st4 own ini i pc al st h
  | 6 => a_st2 i pc al st h
  | 7 => a_st3 i pc al st h
  | 8 => match a_trw mi pc i st, a_call own i st h with
    | none, none => a_st5 own i pc al st h
    | _, _ => none
  | 9 => t_st6 own i pc al st h
  | _ => none
section TR
variable {ρ : GV}
theorem t_kind_g (v : Value) : a_kind (g_v ρ v) = t_kind v := by cases v <;> rfl
theorem t_side {mi own pc : Nat} {i : Instr} {st : List Value} {h : AH} (h0 : a_stage i ≠ 0) (h5 : a_stage i ≠ 5) : a_trw mi pc i st = none ∧ a_call own i st h = none :=
  ⟨a_opt (fun _ hk => h5 (a_trw_stage hk)), a_opt (fun _ hk => (a_call_stage hk).elim h0 h5)⟩
theorem t_beq {a b : Nat} (h : Nat.beq a b = true) : a = b := Nat.eq_of_beq_eq_true h
theorem t_bif {α : Type} {b : Bool} {x : Option α} {r : α} (h : (bif b then x else none) = some r) : b = true ∧ x = some r := by
  cases b with
  | true => exact ⟨rfl, h⟩
  | false => cases h
theorem t_fast_ok {mi own : Nat} {ini : Bool} {i : Instr} {len pc : Nat} {al : AL} {st : List Value} {h : AH} {r : AS} (hlen : a_isSw i = false → len = a_len i) : ∀ {k : Nat}, t_fast mi own ini i len pc al st h k = some r →
    a_stp own ini i len pc (g_A ρ al) (g_S ρ st) (g_H ρ h) = some (g_R ρ r) ∧ a_trw mi pc i (g_S ρ st) = none ∧ a_call own i (g_S ρ st) (g_H ρ h) = none := by
  intro k hr
  have hsw : ∀ {n : Nat}, a_stage i = n → n ≠ 7 → a_isSw i = false := by
    intro n h1 h2
    cases i <;> first | rfl | (subst h1; exact absurd rfl h2)
  unfold t_fast at hr
  split at hr
  · cases hr
  · -- load
    split at hr
    · rename_i n kd hl
      split at hr
      · rename_i v hg
        obtain ⟨hk, e⟩ := t_bif hr
        cases e
        have hs : a_stage i = 1 := by
          cases i <;> first | rfl | (simp only [a_load] at hl; cases hl; done)
        have hc0 : a_const i = none := by
          cases i <;> first | rfl | (simp only [a_load] at hl; cases hl; done)
        have hl2 := hlen (hsw hs (by decide))
        refine ⟨a_by1 hl2 ?_, t_side (by rw [hs]; decide) (by rw [hs]; decide)⟩
        unfold a_st1
        rw [hc0]
        dsimp only
        rw [hl]
        dsimp only
        rw [g_get_some hg]
        dsimp only
        rw [if_pos ((t_kind_g v).trans (t_beq hk)), hl2]; rfl
      · cases hr
    · cases hr
  · -- constant
    split at hr
    · rename_i v hv
      cases hr
      have hs : a_stage i = 1 := by
        cases i <;> first | rfl | (simp only [a_const] at hv; cases hv; done)
      have hl2 := hlen (hsw hs (by decide))
      refine ⟨a_by1 hl2 ?_, t_side (by rw [hs]; decide) (by rw [hs]; decide)⟩
      have h1 : a_st1 i pc al st h = some (pc + a_len i, al, v :: st, h, 0, 0) := by
        unfold a_st1
        rw [hv]
      rw [g_st1 h1, hl2]
    · cases hr
  · -- store
    split at hr
    · rename_i n kd v st' hl
      obtain ⟨hk, e⟩ := t_bif hr
      rw [Option.map_eq_some_iff] at e
      obtain ⟨al', e1, rfl⟩ := e
      have hs : a_stage i = 1 := by
        cases i <;> first | rfl | (simp only [a_store] at hl; cases hl; done)
      have hc0 : a_const i = none := by
        cases i <;> first | rfl | (simp only [a_store] at hl; cases hl; done)
      have hc1 : a_load i = none := by
        cases i <;> first | rfl | (simp only [a_store] at hl; cases hl; done)
      have hl2 := hlen (hsw hs (by decide))
      refine ⟨a_by1 hl2 ?_, t_side (by rw [hs]; decide) (by rw [hs]; decide)⟩
      unfold a_st1
      rw [hc0]
      dsimp only
      rw [hc1]
      dsimp only
      rw [hl]
      show (if a_kind (g_v ρ v) = kd then (a_sto (g_A ρ al) n (g_v ρ v)).map _ else _) = _
      rw [if_pos ((t_kind_g v).trans (t_beq hk)), g_sto e1, hl2]; rfl
    · cases hr
  · have hs := a_n1 hr
    exact ⟨a_by1 (hlen (hsw hs (by decide))) (g_st1 hr), t_side (by rw [hs]; decide) (by rw [hs]; decide)⟩
  · have hs := a_n4 hr
    exact ⟨a_by4 (hlen (hsw hs (by decide))) (g_st4 hr), t_side (by rw [hs]; decide) (by rw [hs]; decide)⟩
  · have hs := a_n2 hr
    exact ⟨a_by2 (hlen (hsw hs (by decide))) (g_st2 hr), t_side (by rw [hs]; decide) (by rw [hs]; decide)⟩
  · have hs := a_n3 hr
    exact ⟨a_by3 (hlen (hsw hs (by decide))) (g_st3 hr), t_side (by rw [hs]; decide) (by rw [hs]; decide)⟩
  · split at hr
    · rename_i e1 e2
      have hs := a_n5 hr
      exact ⟨a_by5 (hlen (hsw hs (by decide))) (g_st5 hr), by rw [g_trw]; exact e1, g_call_none e2 (by rw [hs]; decide)⟩
    · cases hr
  · have hr := t_st6_eq hr
    have hs := a_n6 hr
    exact ⟨a_by6 (hlen (hsw hs (by decide))) (g_st6 hr), t_side (by rw [hs]; decide) (by rw [hs]; decide)⟩
  · cases hr
end TR
end
/-! part 29h.hints -/
section
/-! Hints: which kind of step to try first, by program (wip/genhint.py). They prove nothing. -/
set_option maxRecDepth 100000 in
def t_hints : List (List Nat) := [
  [1, 8, 1, 2, 8, 5, 1, 2, 8, 5, 1, 2, 5, 1, 2, 5, 0],
  [1, 5, 1, 5, 1, 5, 1, 5, 1, 5, 1, 5, 1, 1, 5, 2, 6, 2, 6, 5, 1, 1, 5, 2, 6, 2, 8, 5, 0],
  [1, 5, 2, 6, 1, 6, 2, 6, 2, 6, 0],
  [1, 8, 1, 2, 8, 5, 1, 2, 8, 5, 1, 2, 8, 5, 1, 2, 2, 9, 5, 0],
  [1, 1, 0, 1, 5, 2, 4, 1, 1, 2, 0, 0, 1, 5, 2, 4, 1, 1, 0, 0, 1, 5, 2, 4, 1, 1, 0, 4, 1, 1, 2, 0, 0],
  [2, 3, 1, 2, 4, 1, 1, 5, 4, 1, 5, 1, 1, 1, 7, 5, 5, 4, 4, 0],
  [2, 3, 1, 1, 5, 4, 1, 5, 1, 7, 1, 4, 1, 0, 4, 4, 2, 0],
  [2, 3, 1, 1, 5, 4, 1, 5, 1, 5, 1, 7, 7, 4, 1, 5, 1, 7, 0, 4, 4, 2, 0],
  [2, 3, 1, 1, 5, 4, 1, 5, 1, 7, 4, 1, 1, 5, 1, 7, 1, 0, 2, 4, 2, 0, 4, 4, 2, 0],
  [2, 3, 2, 3, 1, 1, 5, 4, 1, 1, 5, 1, 7, 0, 1, 4, 4, 4, 4, 1, 0],
  [2, 3, 2, 3, 1, 1, 5, 4, 1, 5, 1, 7, 3, 1, 1, 1, 0, 3, 1, 2, 6, 3, 1, 2, 4, 1, 1, 5, 4, 1, 5, 1, 5, 1, 7, 7, 4, 4, 4, 4, 4, 4, 1, 0],
  [2, 3, 2, 3, 2, 3, 1, 2, 4, 1, 1, 1, 0, 4, 1, 4, 1, 1, 1, 0, 4, 1, 1, 1, 0, 3, 1, 1, 4, 1, 3, 1, 3, 4, 4, 1, 0],
  [2, 3, 1, 2, 4, 1, 1, 1, 0, 4, 1, 1, 1, 0, 4, 1, 0, 4, 4, 1, 1, 2, 0, 0],
  [2, 3, 1, 2, 4, 1, 1, 4, 1, 1, 1, 0, 4, 1, 1, 1, 1, 0, 4, 2, 0, 4, 4, 2, 0],
  [2, 3, 2, 3, 1, 1, 5, 4, 1, 1, 5, 1, 7, 1, 0, 3, 1, 1, 5, 1, 7, 1, 0, 3, 1, 2, 4, 1, 2, 4, 1, 1, 1, 4, 2, 4, 2, 6, 3, 4, 4, 1, 0],
  [2, 3, 1, 2, 4, 2, 3, 2, 3, 1, 1, 5, 4, 1, 1, 5, 1, 7, 0, 2, 4, 4, 4, 4, 1, 1, 2, 0, 3, 1, 2, 4, 2, 1, 1, 1, 0, 6, 1, 4, 1, 0, 1, 5, 1, 1, 0, 2, 5, 4, 4, 2, 0],
  [2, 3, 2, 3, 2, 3, 1, 2, 4, 1, 1, 1, 0, 4, 1, 1, 1, 0, 1, 4, 1, 3, 1, 1, 1, 0, 3, 4, 4, 1, 0],
  [1, 1, 0, 1, 5, 2, 4, 1, 1, 0, 0, 1, 1, 1, 5, 2, 4, 2, 4, 2, 0, 4, 1, 5, 2, 4, 1, 0, 3, 1, 2, 4, 1, 0, 4, 1, 0, 1, 0, 0],
  [2, 3, 2, 3, 1, 2, 4, 1, 5, 1, 2, 5, 1, 5, 1, 2, 5, 2, 3, 1, 2, 4, 1, 5, 1, 7, 1, 2, 5, 4, 4, 4, 4, 2, 3, 1, 1, 5, 4, 1, 1, 5, 1, 7, 1, 0, 4, 4, 4, 4, 1, 0],
  [2, 3, 2, 3, 1, 5, 2, 6, 3, 1, 4, 1, 5, 1, 7, 3, 1, 5, 1, 7, 4, 1, 5, 1, 2, 5, 1, 3, 1, 5, 1, 4, 7, 1, 4, 1, 4, 2, 6, 5, 4, 2, 3, 1, 1, 4, 1, 5, 1, 5, 1, 7, 7, 1, 4, 7, 2, 6, 5, 1, 5, 1, 7, 1, 5, 1, 7, 4, 7, 2, 6, 5, 4, 4, 4, 4, 1, 2, 4, 1, 4, 1, 5, 1, 4, 7, 2, 6, 5, 1, 2, 4, 2, 4, 2, 0],
  [2, 3, 2, 3, 1, 4, 1, 5, 1, 7, 4, 1, 2, 4, 1, 5, 1, 7, 1, 5, 1, 7, 4, 1, 3, 4, 4, 1, 0],
  [2, 3, 1, 2, 4, 1, 5, 1, 7, 3, 2, 3, 1, 2, 4, 1, 1, 4, 1, 5, 1, 7, 4, 1, 5, 1, 7, 1, 7, 4, 2, 3, 4, 4, 1, 4, 1, 0, 4, 4, 2, 0],
  [2, 3, 1, 2, 4, 1, 1, 2, 0, 3, 1, 0, 3, 1, 2, 4, 2, 1, 5, 1, 7, 6, 1, 4, 1, 0, 1, 3, 2, 3, 1, 2, 4, 1, 5, 1, 7, 4, 1, 5, 1, 7, 1, 5, 1, 7, 4, 1, 5, 1, 7, 1, 5, 1, 7, 4, 1, 1, 4, 1, 3, 4, 4, 1, 5, 1, 2, 5, 4, 4, 2, 0],
  [1, 8, 1, 2, 5, 1, 2, 5, 1, 2, 5, 1, 2, 5, 1, 2, 5, 1, 2, 5, 1, 2, 5, 1, 2, 5, 1, 2, 5, 0],
  [1, 1, 5, 1, 1, 5, 1, 1, 5, 0],
  [2, 3, 1, 2, 4, 2, 3, 4, 1, 2, 4, 2, 3, 1, 1, 5, 1, 8, 5, 0],
  [1, 1, 5, 1, 1, 5, 0],
  [1, 2, 5, 1, 2, 5, 1, 2, 5, 0],
  [1, 5, 1, 5, 4, 2, 4, 2, 0],
  [1, 5, 2, 4, 2, 4, 2, 0],
  [1, 8, 1, 2, 8, 5, 1, 8, 4, 0, 5, 1, 8, 4, 0, 5, 1, 2, 8, 5, 1, 2, 5, 1, 2, 5, 1, 2, 8, 5, 1, 2, 8, 5, 1, 2, 5, 2, 3, 1, 2, 4, 1, 5, 1, 8, 4, 0, 8, 4, 4, 2, 3, 1, 2, 4, 1, 5, 1, 8, 4, 0, 8, 4, 4, 0],
  [1, 5, 2, 4, 1, 5, 0, 1, 5, 1, 5, 4, 2, 0, 1, 5, 1, 5, 1, 5, 6, 4, 2, 4, 2, 0],
  [1, 5, 1, 7, 5, 3, 1, 2, 4, 1, 1, 4, 2, 0, 1, 2, 4, 1, 5, 5, 1, 7, 4, 1, 5, 1, 1, 1, 0, 0],
  [1, 1, 5, 1, 7, 0, 6, 3, 1, 3, 1, 1, 4, 1, 1, 1, 1, 1, 0, 4, 2, 0, 4, 4, 2, 0],
  [1, 5, 1, 7, 0, 3, 1, 1, 5, 4, 1, 2, 4, 1, 2, 6, 1, 6, 2, 4, 2, 0, 1, 5, 1, 2, 6, 7, 4, 2, 0, 1, 1, 1, 1, 1, 5, 1, 7, 5, 0, 4, 1, 1, 1, 1, 0, 4, 2, 4, 2, 0],
  [1, 5, 1, 7, 0, 3, 1, 5, 1, 7, 5, 3, 2, 3, 1, 1, 5, 4, 1, 5, 1, 7, 3, 1, 1, 1, 0, 4, 1, 5, 1, 4, 1, 5, 1, 4, 1, 5, 1, 5, 7, 5, 1, 4, 2, 0, 4, 4, 2, 0],
  [1, 5, 2, 4, 2, 0, 1, 5, 1, 5, 7, 1, 1, 1, 1, 5, 1, 7, 0, 0, 1, 4, 5, 2, 6, 5, 1, 5, 2, 1, 0, 1, 5, 2, 6, 0],
  [1, 5, 3, 1, 2, 4, 2, 3, 1, 1, 5, 5, 4, 1, 1, 1, 1, 0, 4, 1, 1, 1, 1, 0, 0, 4, 4, 4, 4, 2, 0],
  [2, 3, 1, 1, 5, 4, 1, 5, 1, 7, 5, 1, 4, 1, 5, 1, 7, 1, 2, 0, 4, 1, 0, 4, 4, 2, 0],
  [2, 3, 1, 1, 5, 4, 1, 5, 1, 7, 5, 1, 4, 1, 1, 5, 1, 7, 0, 2, 4, 2, 0, 4, 4, 2, 0],
  [2, 3, 1, 1, 5, 4, 1, 5, 1, 7, 5, 1, 4, 1, 5, 1, 7, 5, 2, 4, 2, 0, 4, 4, 2, 0],
  [1, 2, 5, 2, 3, 1, 1, 5, 4, 1, 1, 5, 1, 7, 0, 2, 4, 1, 5, 1, 7, 5, 2, 6, 1, 4, 1, 1, 0, 4, 4, 1, 5, 0],
  [1, 2, 5, 2, 3, 1, 1, 5, 4, 1, 5, 1, 7, 3, 1, 5, 1, 4, 1, 1, 0, 2, 4, 1, 1, 1, 5, 1, 5, 1, 0, 4, 1, 1, 0, 4, 4, 1, 5, 0],
  [1, 2, 5, 2, 3, 1, 1, 5, 4, 1, 5, 1, 7, 5, 1, 4, 1, 1, 5, 1, 7, 0, 2, 4, 1, 1, 0, 4, 4, 1, 5, 0],
  [1, 5, 2, 4, 1, 5, 1, 5, 1, 5, 1, 4, 5, 2, 6, 5, 0],
  [2, 3, 1, 1, 5, 4, 1, 5, 1, 5, 1, 7, 7, 3, 1, 1, 5, 1, 5, 2, 1, 5, 0, 4, 4, 0],
  [2, 3, 1, 1, 5, 4, 1, 5, 1, 5, 1, 7, 7, 3, 1, 1, 5, 0, 3, 1, 2, 4, 2, 3, 1, 1, 5, 4, 1, 5, 1, 7, 1, 5, 1, 7, 0, 4, 4, 4, 4, 0],
  [2, 3, 1, 1, 5, 4, 1, 5, 1, 7, 3, 1, 1, 4, 1, 5, 1, 7, 4, 1, 1, 5, 1, 5, 0, 4, 2, 0, 4, 4, 2, 0],
  [2, 3, 1, 1, 5, 4, 2, 3, 1, 1, 4, 1, 5, 1, 7, 5, 2, 4, 1, 5, 1, 7, 1, 5, 1, 7, 5, 1, 5, 1, 7, 5, 0, 4, 1, 5, 1, 7, 5, 1, 5, 1, 7, 5, 4, 1, 1, 5, 1, 7, 1, 5, 1, 7, 0, 4, 2, 0, 4, 4, 4, 4, 2, 0],
  [1, 5, 1, 5, 7, 5, 3, 1, 2, 4, 1, 5, 1, 5, 7, 5, 1, 4, 2, 4, 2, 0],
  [2, 3, 1, 1, 5, 4, 1, 5, 1, 7, 0, 1, 5, 5, 1, 5, 1, 7, 5, 7, 4, 2, 0, 2, 3, 1, 1, 4, 1, 5, 1, 7, 5, 2, 4, 1, 5, 1, 7, 5, 1, 7, 4, 1, 1, 1, 5, 1, 7, 0, 4, 2, 0, 4, 4, 4, 4, 2, 0],
  [1, 8, 1, 2, 5, 1, 2, 8, 5, 1, 2, 5, 1, 2, 5, 1, 2, 8, 5, 1, 2, 5, 0],
  [1, 5, 1, 4, 1, 5, 1, 4, 2, 4, 2, 0],
  [1, 1, 5, 1, 1, 5, 1, 5, 1, 2, 5, 0],
  [1, 1, 1, 5, 2, 8, 8, 5, 2, 3, 1, 1, 5, 4, 1, 5, 1, 1, 1, 7, 5, 4, 4, 0],
  [1, 8, 1, 2, 8, 5, 1, 2, 5, 0],
  [1, 5, 1, 5, 1, 5, 1, 4, 5, 2, 6, 5, 1, 5, 2, 6, 0],
  [2, 3, 2, 3, 1, 2, 4, 2, 3, 1, 1, 5, 4, 1, 5, 1, 7, 3, 1, 1, 4, 1, 5, 1, 7, 1, 4, 1, 1, 1, 0, 4, 1, 5, 1, 2, 5, 4, 4, 4, 4, 4, 1, 0],
  [1, 8, 1, 2, 8, 5, 1, 2, 8, 5, 1, 2, 8, 5, 1, 2, 8, 5, 1, 2, 2, 9, 5, 1, 2, 5, 2, 3, 1, 2, 4, 2, 3, 1, 2, 4, 1, 5, 1, 7, 1, 2, 5, 4, 4, 4, 4, 0],
  [1, 5, 1, 5, 1, 5, 1, 4, 5, 2, 6, 5, 1, 5, 2, 6, 0],
  [1, 5, 1, 7, 1, 4, 1, 5, 1, 7, 1, 7, 2, 4, 2, 4, 2, 0],
  [2, 3, 2, 3, 1, 1, 5, 4, 1, 1, 1, 1, 0, 4, 4, 4, 4, 1, 0],
  [2, 3, 2, 3, 1, 1, 5, 4, 1, 1, 1, 1, 0, 4, 1, 2, 4, 1, 5, 1, 7, 1, 5, 1, 7, 4, 1, 3, 4, 4, 1, 2, 4, 1, 5, 1, 7, 1, 2, 5, 1, 5, 1, 4, 7, 2, 6, 5, 0],
  [2, 3, 2, 3, 1, 1, 5, 4, 1, 5, 1, 7, 1, 7, 2, 4, 4, 4, 4, 1, 0],
  [1, 5, 1, 7, 1, 1, 5, 1, 5, 1, 4, 7, 2, 6, 5, 1, 5, 1, 4, 7, 1, 6, 5, 0],
  [2, 3, 2, 3, 1, 1, 5, 4, 1, 5, 1, 7, 1, 7, 4, 4, 4, 4, 1, 0],
  [1, 5, 1, 7, 4, 2, 4, 1, 5, 1, 7, 1, 5, 1, 7, 6, 3, 1, 5, 1, 7, 1, 7, 1, 6, 2, 6, 0],
  [2, 3, 2, 3, 2, 3, 1, 1, 5, 4, 1, 5, 1, 7, 1, 7, 4, 1, 1, 1, 1, 0, 6, 3, 4, 4, 4, 1, 4, 2, 4, 1, 1, 6, 0],
  [2, 3, 2, 3, 2, 3, 2, 3, 1, 1, 5, 4, 1, 5, 1, 7, 1, 7, 4, 1, 1, 1, 0, 3, 1, 4, 1, 1, 8, 4, 1, 3, 1, 4, 1, 1, 8, 4, 1, 3, 2, 3, 4, 4, 1, 1, 6, 0],
  [1, 8, 1, 2, 8, 5, 1, 2, 8, 5, 1, 2, 8, 5, 1, 2, 8, 5, 1, 2, 8, 5, 1, 2, 5, 0],
  [1, 5, 1, 5, 1, 5, 1, 5, 1, 5, 1, 5, 1, 5, 1, 5, 1, 5, 1, 5, 1, 5, 1, 5, 1, 5, 1, 5, 1, 5, 1, 4, 5, 2, 6, 5, 1, 5, 0],
  [1, 5, 1, 7, 1, 4, 1, 5, 1, 7, 1, 4, 1, 5, 1, 7, 1, 4, 1, 1, 5, 1, 7, 4, 2, 4, 2, 0],
  [2, 3, 1, 1, 5, 4, 1, 1, 1, 1, 1, 1, 0, 4, 2, 0, 4, 4, 2, 0],
  [2, 3, 1, 1, 5, 4, 1, 1, 1, 1, 1, 1, 0, 4, 1, 5, 1, 7, 0, 4, 4, 2, 0],
  [2, 3, 1, 1, 5, 4, 2, 3, 1, 1, 4, 1, 1, 1, 5, 1, 7, 1, 5, 1, 7, 1, 5, 1, 7, 1, 5, 1, 7, 0, 4, 2, 0, 4, 4, 4, 4, 2, 0],
  [1, 8, 1, 2, 5, 1, 2, 5, 1, 2, 5, 1, 2, 5, 1, 2, 5, 1, 2, 5, 1, 2, 5, 1, 2, 8, 5, 1, 2, 5, 2, 3, 1, 2, 4, 1, 5, 1, 8, 4, 0, 8, 4, 4, 0],
  [1, 1, 5, 1, 1, 5, 1, 1, 5, 1, 1, 5, 1, 1, 5, 0],
  [1, 5, 1, 5, 7, 1, 5, 1, 4, 5, 2, 6, 5, 1, 5, 2, 6, 0],
  [2, 3, 2, 3, 1, 1, 5, 4, 1, 5, 1, 7, 5, 4, 4, 4, 4, 1, 0],
  [1, 8, 1, 2, 5, 1, 2, 5, 1, 2, 5, 1, 2, 5, 1, 2, 5, 1, 2, 5, 1, 2, 8, 5, 1, 2, 5, 1, 2, 8, 5, 0],
  [1, 1, 5, 1, 1, 5, 1, 1, 5, 1, 1, 5, 0],
  [1, 5, 2, 4, 1, 5, 1, 1, 6, 4, 1, 1, 5, 1, 5, 6, 4, 2, 4, 2, 0],
  [2, 3, 1, 1, 5, 4, 1, 5, 1, 7, 1, 4, 2, 0, 4, 4, 2, 0],
  [1, 5, 2, 4, 1, 5, 1, 5, 1, 5, 1, 4, 5, 2, 6, 5, 0],
  [2, 3, 2, 3, 1, 2, 4, 1, 5, 1, 7, 4, 4, 4, 4, 1, 0],
  [1, 8, 1, 2, 8, 5, 1, 2, 8, 5, 1, 2, 5, 1, 2, 8, 5, 1, 2, 8, 5, 1, 2, 8, 5, 1, 2, 8, 5, 1, 2, 5, 0],
  [1, 5, 1, 5, 1, 5, 1, 5, 1, 5, 1, 5, 1, 4, 5, 2, 6, 5, 1, 5, 2, 6, 0],
  [1, 5, 1, 5, 1, 5, 1, 5, 1, 5, 1, 5, 1, 5, 1, 5, 1, 5, 1, 5, 1, 5, 1, 5, 1, 4, 5, 2, 6, 5, 1, 5, 0],
  [2, 3, 1, 1, 5, 4, 1, 5, 1, 7, 1, 4, 1, 5, 1, 7, 1, 4, 1, 1, 5, 1, 7, 4, 1, 1, 5, 1, 7, 4, 2, 0, 4, 4, 2, 0],
  [1, 8, 1, 8, 4, 0, 5, 1, 1, 5, 5, 5, 1, 1, 5, 5, 5, 1, 1, 5, 5, 5, 1, 2, 5, 1, 2, 8, 5, 1, 2, 5, 1, 8, 4, 0, 5, 1, 8, 4, 0, 5, 1, 8, 4, 0, 5, 1, 8, 4, 0, 5, 1, 2, 8, 5, 1, 2, 5, 1, 2, 8, 5, 1, 2, 8, 5, 2, 3, 1, 2, 4, 1, 5, 1, 8, 4, 0, 8, 4, 4, 0],
  [1, 0, 4, 1, 2, 2, 0, 4, 1, 2, 2, 0, 4, 8, 4, 5, 0, 0, 1, 5, 2, 4, 8, 4, 5, 0, 0, 1, 5, 1, 5, 7, 1, 1, 1, 0, 1, 4, 5, 2, 6, 5, 1, 5, 2, 6, 0],
  [1, 2, 2, 0, 4, 8, 4, 5, 0, 0, 1, 5, 5, 2, 4, 8, 4, 5, 0, 0, 1, 5, 1, 0, 0],
  [1, 1, 0, 1, 2, 2, 0, 4, 8, 4, 5, 0, 0, 1, 5, 1, 7, 5, 3, 1, 5, 1, 1, 0, 1, 4, 8, 4, 5, 0, 0, 2, 3, 1, 1, 4, 1, 5, 1, 1, 0, 4, 4, 1, 5, 1, 0, 0],
  [1, 1, 0, 1, 1, 0, 1, 5, 5, 1, 7, 1, 7, 2, 4, 2, 4, 2, 0],
  [1, 1, 0, 1, 1, 0, 1, 2, 2, 0, 4, 8, 4, 5, 0, 0, 1, 5, 5, 1, 7, 1, 7, 2, 4, 8, 4, 5, 0, 0, 1, 5, 1, 1, 1, 0, 1, 5, 1, 0, 0],
  [1, 1, 0, 1, 1, 0, 1, 5, 5, 1, 7, 1, 7, 4, 8, 4, 5, 0, 0, 1, 5, 1, 1, 0, 0],
  [1, 1, 0, 1, 5, 1, 0, 4, 8, 4, 5, 0, 0, 1, 5, 1, 0, 0],
  [1, 1, 0, 1, 5, 1, 0, 2, 4, 2, 4, 2, 0],
  [1, 1, 0, 1, 2, 4, 1, 2, 4, 1, 2, 4, 8, 4, 5, 0, 0, 1, 5, 1, 7, 1, 0, 1, 5, 1, 7, 5, 0, 0],
  [1, 2, 2, 0, 4, 1, 2, 2, 0, 4, 1, 2, 2, 0, 4, 8, 4, 5, 0, 0, 1, 2, 4, 1, 0, 4, 1, 0, 2, 4, 8, 4, 5, 0, 0, 1, 5, 2, 4, 8, 4, 5, 0, 0, 1, 5, 1, 5, 7, 1, 1, 1, 1, 1, 0, 0, 1, 4, 5, 2, 6, 5, 1, 5, 2, 6, 0],
  [1, 1, 0, 1, 0, 3, 2, 3, 2, 3, 1, 1, 4, 1, 5, 1, 7, 3, 1, 1, 1, 5, 1, 7, 1, 0, 4, 1, 5, 1, 7, 1, 1, 5, 1, 7, 5, 0, 1, 5, 2, 1, 0, 4, 4, 4, 1, 0],
  [1, 1, 0, 1, 5, 1, 7, 5, 2, 4, 8, 4, 5, 0, 0, 1, 5, 1, 7, 5, 0],
  [1, 1, 0, 1, 1, 0, 0],
  [1, 1, 0, 1, 5, 1, 7, 5, 3, 1, 4, 8, 4, 5, 0, 0, 1, 5, 1, 7, 2, 5, 1, 5, 2, 1, 0, 1, 0, 0],
  [1, 1, 0, 1, 5, 1, 7, 0, 0],
  [1, 2, 2, 0, 4, 8, 4, 5, 0, 0, 1, 5, 5, 2, 4, 8, 4, 5, 0, 0, 1, 5, 1, 1, 0, 0],
  [1, 1, 0, 1, 2, 4, 1, 2, 4, 8, 4, 5, 0, 0, 1, 1, 0, 1, 5, 1, 7, 5, 2, 4, 2, 4, 2, 3, 1, 5, 1, 7, 1, 5, 1, 5, 1, 7, 1, 5, 1, 0],
  [1, 1, 0, 1, 1, 0, 1, 1, 0, 1, 1, 0, 1, 1, 4, 8, 4, 5, 0, 0, 1, 5, 5, 2, 4, 8, 4, 5, 0, 0, 1, 5, 1, 1, 1, 1, 0, 0],
  [1, 1, 0, 1, 1, 0, 1, 1, 0, 1, 5, 1, 1, 1, 1, 5, 1, 7, 5, 0, 0],
  [1, 1, 0, 1, 1, 0, 1, 1, 0, 1, 5, 1, 7, 5, 2, 4, 1, 5, 1, 1, 1, 0, 4, 8, 4, 5, 0, 0, 1, 5, 5, 2, 4, 8, 4, 5, 0, 0, 1, 5, 1, 1, 1, 0, 0],
  [1, 1, 0, 1, 1, 0, 3, 1, 5, 5, 1, 6, 2, 4, 8, 4, 5, 0, 0, 2, 3, 2, 3, 1, 1, 4, 1, 5, 1, 5, 1, 7, 0, 2, 4, 4, 4, 4, 1, 0],
  [1, 1, 0, 1, 5, 5, 1, 7, 3, 1, 2, 4, 1, 5, 0, 1, 2, 4, 1, 5, 0, 1, 2, 4, 1, 5, 0, 1, 2, 4, 1, 5, 0, 8, 4, 5, 0, 0],
  [1, 1, 0, 1, 5, 1, 5, 5, 1, 7, 0, 0],
  [1, 1, 0, 1, 1, 0, 1, 5, 1, 1, 0, 3, 1, 2, 4, 8, 4, 5, 0, 0, 1, 0],
  [1, 2, 2, 0, 4, 8, 4, 5, 0, 0, 1, 5, 5, 1, 6, 2, 4, 8, 4, 5, 0, 0, 1, 5, 4, 5, 1, 6, 5, 1, 5, 5, 0],
  [1, 5, 5, 0],
  [1, 2, 2, 0, 4, 8, 4, 5, 0, 0, 1, 5, 5, 1, 7, 4, 8, 4, 5, 0, 0, 1, 5, 1, 0, 3, 1, 5, 5, 1, 6, 2, 4, 8, 4, 5, 0, 0, 1, 5, 5, 1, 2, 5, 1, 5, 2, 0, 1, 5, 0, 1, 0],
  [1, 1, 0, 1, 5, 1, 7, 5, 2, 4, 2, 4, 2, 3, 1, 2, 4, 1, 4, 1, 1, 5, 1, 7, 5, 4, 8, 4, 5, 0, 0, 1, 4, 8, 4, 5, 0, 0, 1, 5, 1, 1, 0, 3, 1, 5, 5, 1, 6, 2, 4, 8, 4, 5, 0, 0, 1, 5, 1, 7, 1, 5, 1, 5, 2, 0, 1, 5, 0, 1, 0],
  [1, 1, 0, 1, 5, 1, 7, 5, 4, 8, 4, 5, 0, 0, 1, 5, 1, 0, 3, 1, 5, 2, 0, 1, 5, 1, 7, 0, 1, 0],
  [1, 2, 2, 0, 4, 8, 4, 5, 0, 0, 1, 5, 5, 2, 4, 8, 4, 5, 0, 0, 1, 5, 1, 0, 0],
  [1, 1, 0, 1, 1, 0, 1, 5, 5, 1, 7, 3, 1, 5, 1, 0, 2, 4, 1, 5, 4, 1, 1, 0, 4, 8, 4, 5, 0, 0, 1, 1, 0, 1, 5, 0],
  [1, 1, 0, 1, 5, 5, 1, 7, 3, 1, 5, 1, 0, 3, 1, 2, 4, 1, 2, 4, 1, 5, 4, 1, 5, 1, 5, 5, 4, 8, 4, 5, 0, 0, 1, 2, 5, 1, 5, 2, 1, 5, 0, 1, 5, 1, 5, 1, 1, 5, 5, 1, 5, 7, 0, 0],
  [1, 1, 0, 1, 1, 0, 1, 5, 5, 1, 7, 5, 1, 7, 0],
  [1, 1, 0, 1, 2, 2, 0, 4, 8, 4, 5, 0, 0, 1, 5, 1, 7, 5, 2, 4, 8, 4, 5, 0, 0, 1, 5, 1, 7, 1, 0, 0],
  [1, 1, 0, 1, 2, 4, 1, 2, 4, 1, 2, 4, 1, 2, 4, 8, 4, 5, 0, 0, 1, 5, 1, 7, 5, 3, 1, 5, 1, 7, 1, 5, 1, 0],
  [1, 1, 0, 1, 1, 1, 0, 1, 1, 0, 1, 5, 5, 1, 7, 3, 1, 5, 1, 7, 5, 1, 7, 3, 1, 5, 1, 0, 2, 4, 1, 5, 1, 5, 7, 5, 1, 4, 1, 1, 1, 5, 5, 0, 4, 8, 4, 5, 0, 0, 1, 1, 1, 5, 1, 5, 5, 0, 1, 1, 1, 0, 0],
  [1, 1, 0, 1, 5, 2, 4, 8, 4, 5, 0, 0, 1, 5, 1, 5, 1, 5, 1, 4, 5, 2, 6, 5, 1, 5, 0],
  [1, 5, 3, 1, 2, 5, 1, 0],
  [1, 1, 0, 1, 1, 1, 0, 1, 5, 1, 7, 5, 1, 7, 3, 1, 1, 1, 0, 4, 8, 4, 5, 0, 0, 1, 1, 5, 1, 5, 0, 1, 2, 5, 1, 5, 1, 7, 0, 0],
  [1, 1, 0, 1, 5, 1, 5, 1, 5, 1, 7, 0, 3, 1, 2, 4, 8, 4, 5, 0, 0, 1, 0],
  [1, 1, 0, 1, 5, 1, 7, 5, 4, 8, 4, 5, 0, 0, 1, 5, 1, 5, 1, 5, 1, 7, 0, 3, 1, 2, 4, 8, 4, 5, 0, 0, 1, 5, 1, 7, 0, 4, 8, 4, 5, 0, 0, 1, 5, 1, 7, 2, 5, 1, 5, 2, 1, 0, 1, 0],
  [1, 1, 0, 1, 2, 2, 0, 4, 1, 2, 2, 0, 4, 8, 4, 5, 0, 0, 1, 2, 2, 0, 4, 1, 1, 2, 0, 4, 8, 4, 5, 0, 0, 1, 5, 1, 7, 5, 4, 1, 5, 1, 1, 1, 1, 0, 4, 8, 4, 5, 0, 0, 1, 5, 5, 2, 4, 8, 4, 5, 0, 0, 1, 5, 2, 1, 0, 1, 5, 1, 1, 1, 1, 1, 0, 0],
  [1, 1, 0, 1, 2, 2, 0, 4, 1, 2, 2, 0, 4, 8, 4, 5, 0, 0, 1, 5, 1, 1, 1, 0, 3, 1, 2, 4, 8, 4, 5, 0, 0, 1, 0],
  [1, 2, 1, 5, 5, 2, 6, 0, 4, 8, 4, 5, 0, 0, 1, 5, 1, 0, 3, 1, 4, 1, 5, 5, 1, 7, 4, 1, 5, 5, 1, 7, 0],
  [5, 3, 2, 3, 1, 1, 5, 5, 4, 1, 5, 5, 1, 7, 3, 5, 1, 6, 1, 5, 6, 6, 3, 5, 1, 6, 1, 5, 6, 6, 2, 1, 5, 6, 6, 6, 3, 5, 1, 6, 1, 5, 1, 0, 6, 6, 3, 4, 4, 1, 0],
  [2, 3, 2, 3, 2, 3, 1, 1, 5, 4, 1, 5, 1, 7, 5, 2, 4, 4, 1, 5, 1, 0, 4, 4, 4, 4, 1, 4, 8, 4, 5, 0, 0, 1, 6, 1, 6, 6, 0],
  [2, 3, 2, 3, 2, 3, 1, 1, 5, 4, 1, 5, 1, 0, 4, 4, 1, 1, 5, 1, 0, 6, 3, 4, 4, 1, 4, 8, 4, 5, 0, 0, 1, 6, 1, 6, 6, 0],
  [1, 5, 0, 4, 1, 5, 1, 5, 5, 0, 4, 1, 0, 4, 1, 0, 4, 1, 5, 0, 4, 2, 4, 2, 0],
  [1, 1, 4, 1, 1, 4, 2, 4, 2, 0],
  [1, 2, 4, 1, 2, 4, 1, 2, 4, 2, 4, 2, 0],
  [1, 2, 4, 2, 0, 1, 2, 4, 2, 0, 1, 2, 4, 2, 0, 1, 2, 4, 2, 4, 2, 0],
  [1, 2, 4, 2, 0, 1, 2, 4, 2, 0, 1, 2, 4, 2, 4, 2, 0],
  [1, 2, 1, 2, 6, 0, 4, 8, 4, 5, 0, 0, 0],
  [1, 1, 5, 0, 0],
  [1, 1, 5, 5, 0, 0],
  [1, 1, 5, 0, 0],
  [1, 1, 5, 1, 7, 5, 0, 0],
  [1, 1, 5, 5, 0, 0],
  [1, 1, 5, 5, 0, 0],
  [1, 1, 5, 5, 0, 0],
  [1, 2, 2, 0, 4, 8, 4, 5, 0, 0, 0],
  [1, 3, 1, 4, 1, 5, 1, 2, 6, 7, 1, 4, 1, 5, 1, 1, 5, 1, 2, 6, 7, 5, 1, 5, 1, 1, 5, 1, 2, 6, 7, 5, 4, 4, 1, 5, 1, 1, 5, 1, 5, 1, 1, 5, 0],
  [2, 3, 2, 3, 1, 1, 5, 4, 1, 5, 1, 0, 4, 1, 1, 1, 1, 5, 1, 0, 0, 4, 4, 4, 1, 0],
  [2, 3, 2, 3, 1, 1, 5, 4, 1, 5, 1, 7, 5, 1, 4, 1, 5, 1, 0, 4, 1, 1, 1, 1, 5, 1, 7, 5, 0, 4, 4, 4, 1, 0],
  [1, 5, 1, 7, 3, 1, 5, 1, 7, 3, 1, 5, 2, 4, 1, 5, 4, 1, 5, 1, 0, 2, 4, 1, 5, 2, 4, 1, 5, 1, 5, 4, 1, 1, 5, 4, 1, 5, 1, 5, 4, 1, 1, 0, 1, 5, 4, 1, 1, 0, 1, 5, 6, 1, 5, 4, 2, 4, 2, 0],
  [2, 3, 2, 3, 1, 1, 5, 4, 1, 5, 1, 7, 5, 1, 4, 4, 4, 4, 1, 0],
  [2, 3, 2, 3, 1, 1, 5, 4, 1, 5, 1, 7, 5, 1, 4, 1, 1, 5, 1, 7, 5, 6, 3, 4, 4, 1, 0],
  [2, 3, 2, 3, 1, 1, 5, 4, 1, 5, 1, 7, 5, 1, 4, 1, 5, 1, 7, 4, 4, 4, 4, 1, 0],
  [2, 3, 1, 1, 5, 4, 1, 5, 1, 7, 1, 4, 2, 0, 4, 4, 2, 0],
  [2, 3, 2, 3, 1, 1, 5, 4, 1, 5, 1, 7, 5, 1, 4, 1, 5, 1, 7, 5, 1, 5, 4, 4, 1, 5, 1, 7, 4, 1, 1, 0, 4, 2, 0, 4, 4, 1, 4, 1, 1, 5, 4, 2, 4, 2, 0],
  [2, 3, 1, 1, 5, 4, 1, 1, 0, 1, 5, 1, 7, 5, 4, 1, 1, 0, 1, 5, 1, 7, 5, 4, 2, 0, 4, 4, 2, 0],
  [2, 3, 1, 1, 5, 4, 1, 5, 1, 5, 1, 5, 1, 7, 0, 1, 5, 1, 5, 1, 5, 1, 7, 0, 4, 2, 0, 4, 4, 2, 0],
  [1, 8, 1, 2, 8, 5, 1, 2, 8, 5, 1, 2, 8, 5, 1, 2, 8, 5, 1, 2, 8, 5, 1, 2, 8, 5, 1, 2, 8, 5, 1, 2, 8, 5, 1, 2, 8, 5, 1, 2, 8, 5, 1, 2, 8, 5, 1, 2, 2, 9, 5, 1, 2, 2, 9, 5, 1, 2, 8, 5, 1, 2, 8, 5, 1, 2, 8, 5, 1, 2, 8, 5, 1, 2, 8, 5, 1, 2, 8, 5, 1, 2, 8, 5, 1, 2, 8, 5, 1, 2, 8, 5, 1, 2, 2, 9, 5, 1, 2, 8, 5, 1, 2, 8, 5, 1, 2, 8, 5, 1, 2, 8, 5, 1, 2, 8, 5, 1, 2, 2, 9, 5, 1, 2, 8, 5, 1, 2, 2, 9, 5, 1, 2, 8, 5, 1, 2, 8, 5, 1, 2, 8, 5, 1, 2, 2, 9, 5, 1, 2, 2, 2, 9, 5, 1, 2, 2, 2, 9, 5, 1, 2, 2, 9, 5, 1, 2, 2, 2, 9, 5, 1, 2, 8, 5, 1, 2, 2, 9, 5, 1, 2, 8, 5, 1, 2, 8, 5, 1, 2, 8, 5, 0],
  [1, 1, 4, 1, 4, 2, 5, 1, 0],
  [1, 1, 4, 1, 1, 4, 2, 4, 2, 0],
  [1, 2, 4, 1, 2, 4, 1, 2, 4, 2, 4, 2, 0],
  [1, 2, 1, 5, 2, 6, 0, 4, 2, 4, 2, 0],
  [1, 5, 2, 4, 1, 5, 2, 1, 5, 2, 2, 0, 1, 5, 2, 1, 5, 2, 2, 0, 1, 4, 5, 2, 6, 5, 1, 5, 1, 5, 1, 5, 1, 5, 1, 5, 1, 5, 1, 4, 5, 2, 6, 5, 0],
  [1, 1, 0, 4, 1, 2, 2, 0, 4, 1, 2, 2, 0, 4, 2, 4, 2, 2, 0, 4, 1, 1, 5, 2, 4, 2, 4, 2, 2, 0, 4, 2, 0, 1, 5, 1, 5, 1, 5, 1, 5, 1, 5, 1, 5, 1, 5, 1, 5, 1, 5, 1, 5, 1, 5, 2, 5, 1, 5, 1, 5, 2, 5, 2, 3, 1, 2, 4, 1, 5, 1, 5, 7, 1, 2, 5, 4, 4, 1, 4, 5, 2, 6, 5, 1, 5, 2, 6, 0],
  [1, 1, 2, 2, 0, 4, 2, 4, 2, 2, 0, 4, 1, 1, 5, 2, 4, 2, 4, 2, 2, 0, 4, 2, 0, 1, 5, 1, 5, 1, 5, 1, 4, 5, 2, 6, 5, 1, 5, 2, 6, 0],
  [1, 5, 1, 7, 1, 5, 1, 7, 4, 1, 5, 1, 7, 1, 7, 4, 2, 4, 2, 0],
  [1, 1, 1, 0, 2, 0, 4, 1, 1, 2, 2, 0, 4, 2, 4, 2, 2, 0, 4, 2, 0, 2, 3, 2, 3, 1, 1, 5, 4, 1, 1, 1, 1, 0, 4, 2, 4, 2, 6, 3, 4, 4, 1, 1, 1, 4, 2, 4, 2, 2, 0, 4, 2, 0, 2, 3, 1, 1, 4, 2, 3, 2, 3, 1, 1, 5, 4, 1, 1, 1, 0, 4, 1, 4, 1, 5, 1, 7, 1, 5, 1, 7, 4, 1, 4, 1, 3, 4, 4, 1, 5, 1, 7, 1, 2, 5, 1, 5, 1, 4, 7, 2, 6, 5, 4, 4, 2, 3, 2, 3, 1, 1, 5, 4, 1, 1, 5, 1, 7, 1, 7, 4, 2, 4, 2, 6, 3, 4, 4, 1, 0],
  [1, 1, 1, 0, 4, 1, 2, 1, 5, 2, 6, 0, 4, 2, 4, 2, 2, 0, 0],
  [1, 1, 1, 0, 4, 1, 5, 1, 7, 1, 7, 4, 2, 4, 2, 0],
  [2, 3, 2, 3, 1, 1, 5, 4, 1, 1, 5, 1, 7, 1, 7, 4, 2, 4, 2, 6, 3, 4, 4, 1, 0],
  [1, 1, 1, 0, 4, 1, 1, 2, 2, 0, 4, 2, 4, 2, 2, 0, 4, 1, 1, 5, 1, 7, 1, 7, 4, 1, 5, 1, 7, 1, 7, 4, 2, 4, 2, 2, 0, 4, 2, 0, 1, 5, 1, 7, 1, 1, 5, 1, 1, 0, 0],
  [2, 3, 2, 3, 2, 3, 1, 1, 5, 4, 1, 2, 1, 5, 1, 7, 1, 7, 8, 6, 3, 1, 1, 5, 1, 7, 1, 7, 4, 2, 4, 2, 6, 3, 4, 4, 1, 5, 1, 7, 1, 7, 1, 1, 6, 6, 2, 6, 0],
  [1, 1, 1, 0, 4, 1, 1, 5, 1, 7, 1, 7, 4, 2, 4, 2, 2, 0, 4, 2, 4, 1, 1, 1, 0, 0],
  [2, 3, 2, 3, 1, 1, 5, 4, 1, 1, 5, 1, 7, 1, 7, 4, 1, 1, 1, 0, 4, 2, 6, 3, 4, 4, 1, 1, 1, 0, 6, 0],
  [1, 1, 1, 0, 2, 0, 4, 1, 1, 1, 0, 4, 2, 4, 2, 2, 0, 4, 2, 4, 1, 1, 0, 0],
  [5, 3, 5, 3, 2, 3, 1, 1, 5, 4, 1, 5, 1, 7, 1, 7, 4, 1, 1, 1, 1, 0, 8, 3, 1, 1, 1, 1, 0, 8, 3, 4, 4, 1, 1, 0, 4, 1, 1, 6, 2, 4, 2, 4, 2, 0],
  [1, 1, 1, 0, 2, 0, 4, 1, 1, 0, 4, 2, 4, 2, 0],
  [1, 2, 4, 2, 4, 1, 2, 4, 2, 4, 1, 2, 4, 2, 4, 2, 0],
  [1, 2, 4, 2, 4, 1, 2, 4, 2, 4, 1, 2, 4, 2, 4, 1, 2, 4, 2, 4, 2, 0],
  [1, 2, 4, 2, 4, 1, 2, 4, 2, 4, 1, 2, 4, 2, 4, 2, 3, 1, 1, 1, 0, 2, 0, 4, 1, 1, 4, 2, 4, 2, 2, 0, 4, 2, 0, 1, 5, 1, 1, 5, 1, 7, 1, 8, 5, 1, 5, 1, 7, 0, 0],
  [1, 2, 2, 0, 4, 1, 2, 2, 0, 4, 1, 2, 2, 0, 4, 1, 0, 4, 1, 2, 4, 1, 0, 4, 2, 4, 2, 3, 1, 1, 4, 2, 4, 2, 2, 0, 4, 1, 1, 5, 2, 4, 2, 4, 2, 2, 0, 4, 2, 0, 1, 5, 1, 5, 1, 5, 1, 5, 1, 5, 1, 5, 1, 5, 1, 5, 1, 5, 1, 5, 1, 5, 1, 5, 1, 5, 1, 5, 1, 0, 5, 1, 5, 1, 5, 2, 5, 1, 4, 5, 2, 6, 5, 1, 5, 2, 6, 0],
  [1, 2, 1, 5, 2, 6, 0, 4, 2, 4, 2, 0],
  [2, 3, 2, 3, 1, 1, 5, 4, 1, 1, 5, 1, 7, 1, 4, 1, 5, 1, 7, 4, 2, 6, 3, 4, 4, 1, 0],
  [2, 3, 2, 3, 1, 1, 5, 4, 1, 1, 5, 1, 7, 1, 4, 2, 4, 2, 6, 3, 4, 4, 1, 0],
  [1, 5, 1, 7, 2, 4, 1, 5, 1, 7, 1, 5, 1, 7, 4, 2, 4, 2, 3, 1, 5, 1, 7, 4, 1, 5, 1, 7, 4, 1, 1, 0, 4, 1, 4, 2, 4, 2, 3, 1, 4, 1, 1, 0, 1, 5, 1, 7, 4, 1, 5, 1, 7, 1, 5, 1, 7, 4, 2, 4, 2, 3, 1, 4, 1, 1, 0, 1, 5, 1, 7, 4, 1, 1, 0, 1, 5, 1, 7, 6, 1, 5, 1, 7, 4, 2, 4, 2, 0],
  [1, 1, 1, 0, 2, 0, 4, 2, 0, 2, 3, 1, 1, 5, 4, 1, 5, 1, 1, 1, 0, 4, 2, 4, 2, 5, 4, 4, 2, 3, 2, 3, 1, 4, 2, 3, 2, 3, 1, 1, 5, 4, 1, 5, 1, 7, 4, 1, 4, 1, 1, 0, 1, 1, 0, 4, 1, 4, 1, 3, 4, 4, 1, 4, 1, 5, 1, 2, 5, 1, 1, 1, 0, 4, 1, 5, 1, 1, 5, 1, 5, 1, 1, 5, 1, 7, 5, 1, 2, 1, 0, 4, 4, 1, 0],
  [1, 1, 1, 0, 2, 0, 4, 1, 1, 5, 1, 7, 4, 2, 4, 2, 2, 0, 4, 2, 4, 1, 5, 1, 7, 0],
  [1, 1, 1, 0, 2, 0, 4, 2, 4, 1, 1, 0, 0],
  [1, 1, 1, 0, 2, 0, 4, 1, 1, 5, 1, 7, 4, 2, 4, 2, 2, 0, 4, 2, 0, 1, 5, 1, 7, 0, 3, 1, 5, 1, 2, 5, 1, 2, 1, 0, 1, 0],
  [1, 1, 1, 0, 2, 0, 4, 1, 5, 1, 7, 1, 5, 1, 7, 4, 2, 4, 2, 0],
  [1, 1, 2, 2, 0, 4, 2, 4, 2, 2, 0, 4, 1, 1, 5, 2, 4, 2, 4, 2, 2, 0, 4, 2, 0, 1, 5, 1, 5, 1, 5, 1, 5, 1, 5, 1, 5, 1, 4, 5, 2, 6, 5, 1, 5, 2, 6, 0],
  [1, 2, 1, 5, 2, 6, 0, 4, 2, 4, 2, 0],
  [1, 2, 2, 0, 0],
  [1, 1, 1, 0, 2, 0, 4, 1, 1, 2, 4, 1, 2, 4, 1, 0, 4, 2, 4, 2, 2, 0, 4, 2, 0, 1, 5, 1, 7, 4, 2, 4, 2, 3, 1, 5, 1, 1, 5, 1, 5, 1, 1, 5, 1, 0],
  [1, 1, 1, 0, 4, 1, 1, 0, 4, 2, 4, 2, 2, 0, 4, 1, 1, 0, 4, 1, 1, 2, 0, 4, 2, 4, 2, 2, 0, 4, 1, 1, 5, 2, 4, 2, 4, 2, 2, 0, 4, 2, 0, 2, 8, 4, 2, 1, 5, 4, 2, 1, 5, 4, 2, 1, 5, 4, 2, 1, 5, 3, 1, 2, 1, 5, 1, 5, 7, 2, 2, 0, 1, 4, 5, 2, 6, 5, 1, 5, 0],
  [1, 5, 1, 7, 4, 1, 5, 1, 7, 1, 4, 2, 0, 1, 5, 1, 7, 2, 4, 1, 5, 1, 7, 4, 2, 4, 2, 3, 2, 3, 1, 1, 5, 4, 1, 5, 1, 7, 2, 4, 1, 1, 5, 1, 7, 2, 7, 1, 4, 1, 5, 1, 7, 2, 7, 1, 4, 1, 1, 5, 1, 7, 2, 7, 1, 5, 1, 7, 2, 7, 0, 4, 2, 4, 2, 6, 3, 4, 4, 1, 0],
  [1, 1, 1, 0, 4, 1, 1, 0, 4, 2, 4, 2, 2, 0, 4, 1, 1, 0, 4, 2, 4, 2, 2, 0, 4, 1, 1, 1, 1, 0, 4, 2, 4, 2, 0],
  [1, 5, 1, 7, 2, 4, 2, 4, 2, 0],
  [1, 5, 1, 7, 1, 1, 5, 1, 7, 0, 6, 2, 6, 0],
  [1, 5, 1, 7, 4, 1, 5, 1, 7, 0, 1, 1, 0, 1, 5, 4, 2, 4, 1, 5, 1, 7, 1, 5, 4, 2, 4, 2, 0],
  [1, 5, 1, 7, 4, 1, 1, 5, 1, 7, 1, 1, 0, 0, 4, 2, 4, 2, 0],
  [1, 1, 0, 3, 1, 1, 5, 4, 1, 2, 6, 1, 6, 2, 4, 1, 5, 1, 2, 6, 7, 4, 2, 4, 2, 3, 1, 3, 1, 1, 1, 6, 4, 1, 4, 1, 1, 1, 1, 0, 3, 2, 3, 1, 1, 5, 4, 1, 5, 1, 7, 1, 4, 1, 5, 1, 7, 1, 4, 1, 5, 1, 5, 1, 7, 7, 1, 5, 1, 7, 4, 1, 5, 1, 7, 4, 2, 4, 2, 3, 1, 1, 1, 1, 0, 4, 1, 4, 2, 4, 2, 6, 3, 4, 4, 4, 4, 1, 0],
  [1, 5, 1, 5, 1, 5, 1, 5, 1, 5, 1, 5, 1, 5, 1, 5, 1, 5, 1, 2, 1, 0, 1, 4, 5, 2, 6, 5, 1, 5, 2, 6, 0],
  [1, 5, 3, 1, 2, 4, 2, 3, 1, 1, 5, 4, 1, 1, 1, 1, 0, 4, 1, 1, 1, 1, 0, 0, 4, 4, 4, 4, 2, 0],
  [1, 1, 1, 0, 4, 1, 1, 0, 4, 2, 4, 2, 2, 0, 4, 1, 1, 0, 4, 2, 4, 2, 2, 0, 4, 2, 0, 1, 1, 5, 1, 7, 4, 1, 1, 1, 1, 0, 4, 2, 4, 2, 2, 0, 4, 1, 1, 5, 2, 4, 2, 4, 2, 2, 0, 4, 2, 0, 1, 1, 1, 1, 0, 0],
  [2, 3, 2, 3, 1, 1, 5, 4, 1, 1, 5, 1, 7, 1, 4, 1, 1, 0, 2, 4, 2, 4, 2, 6, 3, 4, 4, 1, 0],
  [1, 1, 1, 0, 2, 0, 4, 2, 0, 2, 3, 2, 3, 1, 1, 5, 4, 1, 5, 1, 1, 5, 1, 7, 1, 4, 1, 1, 0, 4, 2, 4, 2, 5, 1, 1, 5, 1, 7, 4, 2, 4, 2, 6, 3, 4, 4, 1, 1, 5, 1, 6, 2, 4, 2, 4, 2, 2, 0, 4, 2, 0, 2, 3, 2, 3, 1, 1, 4, 2, 3, 2, 3, 1, 1, 5, 4, 1, 5, 1, 7, 4, 1, 4, 1, 5, 1, 7, 1, 5, 1, 7, 4, 1, 4, 1, 3, 4, 4, 1, 5, 1, 2, 5, 1, 1, 1, 0, 4, 2, 4, 2, 6, 3, 4, 4, 1, 0],
  [1, 2, 1, 5, 2, 6, 0, 4, 2, 4, 2, 0],
  [1, 1, 1, 0, 2, 0, 4, 1, 1, 2, 4, 1, 2, 4, 1, 2, 4, 1, 2, 4, 2, 4, 2, 2, 0, 4, 2, 0, 1, 2, 4, 1, 5, 1, 7, 4, 1, 2, 4, 1, 5, 1, 7, 4, 1, 2, 4, 1, 5, 1, 7, 4, 1, 1, 5, 1, 7, 0, 0],
  [1, 1, 1, 0, 2, 0, 4, 2, 4, 1, 1, 0, 0],
  [1, 1, 1, 0, 2, 0, 4, 1, 1, 0, 4, 2, 4, 2, 2, 0, 4, 2, 0, 2, 3, 2, 3, 1, 1, 5, 4, 1, 5, 1, 7, 1, 4, 1, 1, 1, 0, 4, 1, 4, 1, 3, 4, 4, 1, 1, 4, 2, 4, 2, 2, 0, 4, 2, 4, 1, 0],
  [1, 1, 2, 2, 0, 4, 2, 4, 2, 2, 0, 4, 1, 1, 5, 1, 6, 2, 4, 2, 4, 2, 2, 0, 4, 2, 0, 1, 4, 5, 1, 6, 5, 1, 5, 0],
  [1, 2, 5, 1, 5, 0],
  [1, 1, 0, 2, 4, 2, 0, 1, 4, 1, 5, 1, 7, 2, 6, 1, 4, 2, 4, 2, 0, 2, 3, 1, 5, 1, 7, 3, 1, 1, 1, 0, 4, 1, 1, 1, 1, 5, 1, 7, 1, 0, 6, 3, 4, 4, 1, 5, 1, 7, 1, 4, 1, 4, 2, 4, 2, 0],
  [1, 5, 3, 2, 3, 2, 8, 3, 2, 3, 1, 1, 4, 1, 1, 1, 1, 1, 1, 0, 5, 4, 4, 2, 3, 1, 1, 4, 1, 1, 7, 4, 1, 5, 1, 1, 5, 1, 2, 1, 5, 1, 7, 0, 4, 4, 4, 2, 3, 1, 1, 4, 1, 1, 7, 4, 1, 1, 5, 1, 7, 0, 4, 2, 3, 1, 4, 1, 5, 1, 7, 2, 1, 5, 1, 7, 2, 2, 0, 1, 5, 1, 1, 5, 1, 7, 5, 4, 4, 1, 0],
  [2, 3, 2, 3, 1, 1, 5, 4, 1, 1, 1, 1, 1, 0, 4, 2, 4, 2, 6, 3, 4, 4, 1, 0],
  [1, 1, 2, 2, 0, 4, 2, 4, 2, 2, 0, 4, 1, 1, 5, 1, 7, 2, 0, 4, 1, 1, 5, 1, 1, 2, 0, 6, 2, 4, 2, 4, 2, 2, 0, 4, 2, 0, 1, 5, 1, 2, 5, 1, 2, 1, 2, 0, 0],
  [1, 1, 1, 0, 2, 0, 4, 1, 1, 2, 4, 1, 5, 1, 7, 4, 1, 1, 5, 1, 7, 4, 2, 4, 2, 2, 0, 4, 1, 1, 5, 1, 7, 4, 2, 4, 2, 2, 0, 4, 2, 0, 1, 5, 1, 7, 3, 1, 5, 1, 1, 5, 1, 1, 5, 1, 2, 1, 0, 6, 2, 4, 2, 4, 2, 2, 0, 4, 1, 5, 1, 1, 5, 2, 0, 1, 2, 2, 1, 0, 0],
  [1, 1, 1, 0, 2, 0, 4, 1, 1, 5, 1, 7, 2, 0, 4, 2, 0, 2, 3, 2, 3, 1, 1, 5, 4, 1, 5, 1, 7, 1, 4, 1, 1, 0, 2, 4, 1, 5, 1, 2, 5, 1, 2, 1, 0, 4, 4, 4, 1, 5, 1, 2, 5, 1, 5, 1, 2, 5, 1, 5, 1, 2, 5, 1, 0],
  [1, 1, 2, 2, 0, 4, 2, 4, 2, 2, 0, 4, 1, 1, 5, 2, 4, 2, 4, 2, 2, 0, 4, 2, 0, 1, 5, 1, 5, 1, 5, 1, 4, 5, 2, 6, 5, 1, 5, 2, 6, 0],
  [2, 3, 2, 3, 1, 1, 5, 1, 7, 4, 1, 1, 5, 1, 7, 1, 7, 1, 4, 2, 4, 2, 6, 3, 4, 4, 1, 0],
  [1, 1, 2, 1, 5, 2, 6, 0, 4, 1, 1, 0, 4, 2, 4, 2, 2, 0, 4, 1, 1, 1, 0, 2, 4, 1, 5, 1, 7, 4, 1, 1, 1, 0, 4, 2, 4, 2, 2, 0, 4, 2, 0, 1, 5, 1, 7, 1, 5, 1, 7, 1, 5, 1, 5, 1, 4, 7, 2, 6, 5, 1, 5, 1, 7, 0],
  [2, 3, 2, 3, 1, 1, 5, 4, 1, 5, 1, 7, 3, 1, 1, 1, 0, 4, 1, 1, 1, 4, 1, 5, 1, 7, 1, 7, 4, 1, 1, 1, 0, 4, 2, 4, 2, 6, 3, 4, 4, 4, 4, 1, 0],
  [1, 1, 1, 0, 2, 0, 4, 1, 1, 5, 1, 7, 4, 1, 5, 1, 7, 4, 1, 5, 1, 7, 1, 5, 4, 2, 4, 2, 2, 0, 4, 2, 0, 2, 3, 2, 3, 1, 2, 4, 2, 3, 1, 1, 5, 1, 7, 4, 1, 5, 1, 7, 1, 7, 3, 1, 5, 1, 7, 1, 4, 1, 1, 5, 1, 5, 1, 7, 7, 4, 1, 1, 1, 0, 4, 1, 5, 1, 7, 1, 2, 5, 4, 4, 4, 4, 4, 1, 5, 1, 2, 5, 1, 2, 1, 5, 1, 7, 0, 1, 0],
  [1, 1, 2, 1, 5, 2, 6, 0, 4, 1, 1, 0, 4, 2, 4, 2, 2, 0, 4, 1, 5, 1, 7, 4, 1, 5, 1, 7, 1, 7, 4, 2, 4, 2, 0],
  [1, 1, 1, 0, 2, 0, 4, 1, 1, 2, 2, 0, 4, 2, 4, 2, 2, 0, 4, 1, 1, 5, 1, 7, 2, 4, 2, 4, 2, 2, 0, 4, 2, 0, 1, 5, 1, 7, 3, 1, 5, 1, 7, 1, 1, 5, 2, 3, 1, 2, 4, 1, 5, 1, 7, 1, 7, 1, 2, 5, 4, 4, 1, 5, 1, 4, 7, 2, 6, 5, 1, 0],
  [1, 1, 1, 0, 2, 0, 4, 1, 1, 2, 4, 1, 2, 4, 1, 2, 4, 1, 2, 4, 2, 4, 2, 2, 0, 4, 2, 0, 1, 5, 1, 7, 3, 1, 5, 1, 1, 5, 1, 0],
  [1, 1, 0, 4, 1, 2, 1, 5, 1, 7, 2, 6, 0, 4, 2, 4, 2, 0],
  [1, 1, 1, 1, 0, 4, 1, 1, 0, 4, 2, 4, 2, 2, 0, 4, 2, 0, 1, 5, 1, 7, 1, 7, 3, 1, 1, 0, 2, 4, 1, 5, 1, 5, 1, 7, 7, 1, 4, 2, 4, 2, 3, 1, 1, 4, 1, 1, 5, 7, 4, 1, 1, 5, 7, 1, 4, 2, 4, 2, 2, 0, 4, 2, 0, 1, 1, 5, 1, 5, 1, 5, 1, 7, 1, 7, 1, 5, 1, 7, 2, 5, 2, 3, 2, 3, 1, 1, 5, 4, 1, 1, 5, 1, 7, 1, 4, 1, 5, 1, 7, 1, 7, 1, 7, 4, 2, 4, 2, 6, 3, 4, 4, 1, 0],
  [1, 1, 1, 0, 2, 0, 4, 1, 1, 5, 2, 4, 2, 4, 2, 2, 0, 4, 2, 0, 1, 5, 1, 5, 1, 5, 1, 4, 5, 2, 6, 5, 1, 5, 0],
  [1, 2, 5, 1, 5, 3, 1, 2, 5, 1, 0],
  [2, 3, 2, 3, 1, 1, 5, 1, 7, 4, 1, 1, 5, 1, 7, 1, 7, 4, 2, 4, 2, 6, 3, 4, 4, 1, 0],
  [1, 1, 1, 1, 0, 2, 0, 4, 2, 0, 1, 5, 4, 2, 4, 2, 3, 2, 3, 1, 1, 5, 4, 2, 3, 2, 3, 1, 1, 5, 4, 1, 1, 5, 1, 7, 1, 4, 2, 4, 2, 6, 3, 4, 4, 1, 5, 1, 7, 1, 4, 1, 5, 1, 7, 1, 5, 1, 7, 1, 7, 4, 2, 4, 2, 3, 1, 1, 1, 4, 2, 4, 2, 4, 1, 4, 1, 5, 1, 7, 1, 7, 1, 7, 4, 2, 4, 2, 6, 3, 4, 4, 1, 1, 4, 2, 4, 2, 2, 0, 4, 2, 0, 1, 5, 2, 1, 5, 1, 7, 1, 7, 2, 2, 0, 1, 5, 1, 7, 1, 1, 5, 5, 1, 2, 5, 1, 1, 0, 0],
  [2, 3, 1, 1, 5, 1, 7, 1, 7, 4, 1, 5, 1, 5, 1, 7, 1, 7, 1, 7, 7, 4, 1, 5, 1, 7, 1, 7, 1, 7, 0, 4, 4, 2, 0],
  [2, 3, 2, 3, 1, 1, 5, 1, 7, 4, 1, 1, 1, 1, 0, 1, 4, 2, 4, 2, 6, 3, 4, 4, 1, 0],
  [2, 3, 2, 3, 1, 1, 5, 1, 7, 1, 7, 4, 1, 5, 1, 7, 1, 7, 1, 7, 1, 4, 1, 4, 1, 3, 4, 4, 1, 0],
  [2, 3, 2, 3, 1, 1, 5, 1, 7, 4, 1, 1, 1, 1, 0, 3, 1, 2, 6, 3, 1, 1, 5, 1, 7, 1, 7, 4, 1, 4, 1, 1, 5, 1, 5, 1, 7, 1, 7, 1, 7, 7, 4, 2, 4, 2, 6, 3, 4, 4, 4, 4, 1, 0],
  [2, 3, 2, 3, 1, 1, 5, 1, 7, 4, 1, 1, 1, 1, 0, 3, 1, 1, 1, 1, 0, 3, 1, 1, 4, 1, 4, 2, 4, 1, 1, 4, 2, 4, 2, 6, 3, 4, 4, 1, 4, 2, 4, 2, 0],
  [2, 3, 2, 3, 1, 1, 5, 4, 1, 5, 1, 7, 4, 1, 4, 1, 1, 1, 0, 4, 1, 1, 1, 0, 3, 1, 4, 2, 4, 1, 4, 1, 1, 1, 0, 4, 1, 1, 1, 0, 3, 1, 1, 4, 1, 4, 1, 3, 4, 4, 1, 0],
  [2, 3, 1, 1, 5, 4, 1, 5, 1, 7, 3, 2, 3, 1, 1, 5, 4, 1, 4, 1, 1, 4, 1, 5, 1, 7, 4, 1, 1, 1, 1, 0, 4, 2, 4, 2, 3, 4, 4, 1, 4, 1, 0, 4, 4, 1, 1, 2, 0, 0],
  [2, 3, 2, 3, 1, 1, 5, 1, 7, 4, 1, 1, 1, 1, 0, 4, 2, 4, 2, 6, 3, 4, 4, 2, 3, 2, 3, 1, 1, 5, 4, 1, 5, 1, 7, 4, 2, 1, 1, 1, 0, 6, 1, 4, 1, 0, 1, 4, 1, 1, 1, 0, 1, 1, 1, 0, 4, 1, 4, 1, 3, 4, 4, 1, 5, 1, 2, 5, 4],
  [2, 3, 2, 3, 1, 1, 5, 4, 1, 5, 1, 2, 5, 2, 3, 1, 1, 5, 1, 7, 4, 1, 5, 1, 4, 7, 1, 1, 1, 1, 0, 4, 1, 5, 1, 7, 4, 2, 4, 2, 6, 5, 4, 4, 1, 1, 5, 1, 7, 6, 3, 4, 4, 1, 4, 2, 0, 1, 5, 1, 7, 3, 1, 2, 4, 1, 1, 0, 4, 1, 2, 4, 1, 1, 0, 4, 1, 1, 1, 2, 4, 2, 4, 2, 0, 0],
  [1, 1, 1, 0, 2, 0, 4, 2, 0, 1, 1, 0, 3, 1, 1, 4, 2, 4, 2, 2, 0, 4, 2, 4, 1, 0],
  [1, 1, 1, 0, 2, 0, 4, 2, 0, 1, 1, 0, 3, 1, 1, 5, 1, 7, 4, 1, 4, 1, 5, 1, 7, 1, 5, 1, 7, 4, 2, 4, 2, 2, 0, 4, 1, 1, 4, 2, 4, 2, 2, 0, 4, 2, 0, 1, 5, 1, 2, 5, 1, 2, 1, 0, 1, 0],
  [1, 2, 2, 0, 4, 1, 2, 2, 0, 4, 1, 1, 2, 0, 4, 1, 2, 2, 0, 4, 2, 4, 2, 3, 1, 1, 1, 0, 2, 0, 4, 1, 1, 4, 2, 4, 2, 2, 0, 4, 2, 0, 1, 5, 1, 7, 3, 2, 3, 1, 1, 5, 4, 1, 1, 5, 1, 7, 2, 7, 1, 4, 1, 5, 1, 7, 2, 7, 1, 4, 1, 5, 1, 7, 2, 7, 1, 4, 1, 1, 5, 1, 7, 2, 7, 4, 2, 4, 2, 6, 3, 4, 4, 1, 1, 2, 0, 4, 1, 1, 5, 2, 4, 2, 4, 2, 2, 0, 4, 2, 0, 2, 8, 4, 2, 1, 5, 4, 2, 1, 5, 4, 2, 1, 5, 4, 2, 1, 5, 4, 2, 1, 5, 3, 1, 2, 1, 5, 1, 5, 7, 2, 2, 0, 1, 4, 5, 2, 6, 5, 1, 2, 1, 0, 1, 5, 0],
  [1, 1, 1, 0, 2, 0, 4, 1, 1, 2, 2, 0, 4, 1, 2, 2, 0, 4, 2, 4, 2, 2, 0, 4, 2, 0, 2, 3, 2, 3, 1, 1, 5, 4, 1, 5, 1, 7, 2, 7, 1, 4, 1, 5, 1, 7, 2, 7, 1, 4, 1, 1, 5, 1, 7, 2, 7, 1, 5, 1, 7, 2, 7, 0, 4, 2, 4, 2, 3, 1, 4, 1, 5, 1, 7, 2, 7, 4, 1, 3, 4, 4, 1, 1, 4, 2, 4, 2, 2, 0, 4, 2, 4, 1, 0],
  [1, 1, 2, 1, 5, 2, 6, 0, 4, 2, 4, 2, 2, 0, 4, 2, 0, 1, 5, 2, 6, 1, 6, 3, 1, 4, 1, 5, 1, 7, 4, 1, 5, 1, 7, 0],
  [1, 2, 5, 5, 3, 2, 3, 1, 1, 5, 4, 5, 1, 6, 1, 5, 1, 7, 6, 6, 3, 5, 1, 6, 1, 5, 1, 7, 2, 1, 5, 1, 7, 6, 6, 6, 6, 3, 5, 1, 6, 1, 1, 0, 6, 6, 3, 4, 4, 1, 0],
  [2, 3, 2, 3, 2, 3, 1, 1, 5, 4, 2, 3, 2, 3, 1, 1, 5, 4, 1, 1, 5, 1, 7, 1, 4, 1, 5, 1, 7, 4, 2, 4, 2, 6, 3, 4, 4, 1, 1, 5, 1, 7, 4, 2, 4, 2, 6, 3, 1, 1, 5, 1, 7, 4, 1, 4, 2, 4, 2, 6, 3, 4, 4, 1, 1, 4, 2, 4, 2, 2, 0, 4, 2, 4, 1, 6, 1, 6, 6, 0],
  [2, 3, 2, 3, 2, 3, 1, 1, 5, 4, 1, 1, 0, 4, 1, 1, 1, 0, 6, 3, 4, 4, 4, 1, 1, 4, 2, 4, 2, 2, 0, 4, 2, 4, 1, 6, 1, 6, 6, 0],
  [1, 2, 5, 2, 0],
  [1, 2, 1, 1, 1, 1, 0, 6, 5, 4, 3, 2, 0, 3, 2, 0, 2, 0],
  [1, 2, 1, 1, 0, 6, 5, 4, 3, 2, 0, 3, 2, 0, 2, 0],
  [1, 2, 1, 1, 1, 0, 6, 5, 4, 3, 2, 0, 3, 2, 0, 3, 2, 0, 2, 0],
  [1, 2, 1, 1, 1, 0, 4, 2, 4, 2, 5, 4, 3, 2, 0, 2, 0],
  [1, 2, 1, 1, 1, 1, 0, 6, 5, 4, 3, 2, 0, 3, 2, 0, 3, 2, 0, 2, 0],
  [1, 2, 1, 1, 1, 0, 6, 5, 4, 3, 2, 0, 3, 2, 0, 2, 0],
  [1, 2, 1, 1, 0, 6, 5, 4, 3, 2, 0, 3, 2, 0, 2, 0],
  [1, 2, 1, 1, 0, 4, 2, 4, 2, 5, 4, 3, 2, 0, 2, 0],
  [1, 2, 1, 1, 1, 0, 6, 5, 4, 3, 2, 0, 3, 2, 0, 2, 0],
  [1, 2, 1, 1, 1, 1, 1, 1, 0, 6, 5, 4, 3, 2, 0, 3, 2, 0, 2, 0],
  [1, 2, 1, 1, 0, 6, 5, 4, 3, 2, 0, 2, 0],
  [1, 2, 1, 1, 0, 6, 5, 4, 3, 2, 0, 3, 2, 0, 2, 0],
  [1, 2, 1, 1, 0, 6, 5, 4, 3, 2, 0, 2, 0],
  [1, 2, 1, 1, 0, 6, 5, 4, 3, 2, 0, 3, 2, 0, 2, 0],
  [1, 2, 1, 1, 0, 4, 2, 4, 2, 5, 4, 3, 2, 0, 2, 0],
  [1, 2, 1, 1, 1, 0, 6, 5, 4, 3, 2, 0, 3, 2, 0, 2, 0],
  [1, 2, 1, 1, 1, 1, 0, 4, 2, 4, 2, 5, 4, 3, 2, 0, 3, 2, 0, 2, 0],
  [1, 2, 1, 1, 1, 1, 1, 0, 6, 5, 4, 3, 2, 0, 3, 2, 0, 3, 2, 0, 2, 0],
  [1, 2, 1, 1, 1, 1, 0, 4, 2, 4, 2, 5, 4, 3, 2, 0, 3, 2, 0, 2, 0],
  [1, 2, 1, 1, 1, 1, 0, 6, 5, 4, 3, 2, 0, 3, 2, 0, 3, 2, 0, 3, 2, 0, 2, 0],
  [1, 2, 1, 1, 0, 6, 5, 4, 3, 2, 0, 3, 2, 0, 2, 0],
  [1, 2, 1, 1, 1, 0, 6, 5, 4, 3, 2, 0, 3, 2, 0, 2, 0],
  [1, 2, 1, 1, 0, 6, 5, 4, 3, 2, 0, 2, 0],
  [1, 2, 1, 1, 1, 0, 6, 5, 4, 3, 2, 0, 3, 2, 0, 3, 2, 0, 2, 0],
  [1, 2, 1, 1, 0, 6, 5, 4, 3, 2, 0, 3, 2, 0, 2, 0],
  [1, 2, 1, 1, 0, 6, 5, 4, 3, 2, 0, 3, 2, 0, 3, 2, 0, 2, 0],
  [1, 2, 1, 1, 1, 0, 6, 5, 4, 3, 2, 0, 3, 2, 0, 3, 2, 0, 3, 2, 0, 2, 0],
  [1, 2, 1, 1, 0, 6, 5, 4, 3, 2, 0, 3, 2, 0, 2, 0],
  [1, 2, 1, 1, 0, 6, 5, 4, 3, 2, 0, 3, 2, 0, 2, 0],
  [1, 2, 1, 1, 1, 0, 6, 5, 4, 3, 2, 0, 3, 2, 0, 2, 0],
  [1, 2, 1, 1, 0, 6, 5, 4, 3, 2, 0, 3, 2, 0, 2, 0],
  [1, 2, 1, 1, 1, 0, 4, 2, 4, 2, 5, 4, 3, 2, 0, 2, 0],
  [1, 2, 1, 1, 1, 0, 6, 5, 4, 3, 2, 0, 3, 2, 0, 3, 2, 0, 2, 0],
  [1, 2, 1, 1, 1, 0, 6, 5, 4, 3, 2, 0, 3, 2, 0, 2, 0],
  [1, 2, 1, 1, 1, 1, 0, 6, 5, 4, 3, 2, 0, 3, 2, 0, 2, 0],
  [1, 2, 1, 1, 0, 6, 5, 4, 3, 2, 0, 3, 2, 0, 2, 0],
  [1, 2, 1, 1, 1, 0, 6, 5, 4, 3, 2, 0, 3, 2, 0, 2, 0],
  [1, 2, 1, 1, 0, 6, 5, 4, 3, 2, 0, 3, 2, 0, 2, 0],
  [1, 2, 1, 1, 0, 6, 5, 4, 3, 2, 0, 3, 2, 0, 3, 2, 0, 2, 0],
  [1, 2, 1, 1, 1, 1, 1, 1, 0, 6, 5, 4, 3, 2, 0, 3, 2, 0, 3, 2, 0, 3, 2, 0, 2, 0],
  [1, 2, 1, 1, 1, 1, 0, 6, 5, 4, 3, 2, 0, 3, 2, 0, 3, 2, 0, 2, 0],
  [1, 2, 1, 1, 1, 0, 6, 5, 4, 3, 2, 0, 2, 0],
  [1, 2, 1, 0, 6, 5, 4, 3, 2, 0, 2, 0],
  [1, 2, 1, 0, 5, 4, 3, 2, 0, 2, 0],
  [8, 4, 0, 3, 8, 4, 0, 3, 2, 8, 3, 2, 8, 3, 2, 3, 1, 1, 5, 2, 6, 4, 1, 1, 7, 2, 6, 0, 1, 1, 1, 2, 6, 7, 6, 1, 1, 2, 6, 7, 1, 1, 2, 6, 7, 1, 0, 3, 1, 1, 1, 2, 6, 7, 6, 1, 1, 2, 6, 7, 1, 1, 2, 6, 7, 0, 3, 4, 1, 1, 1, 2, 6, 7, 1, 0, 3, 1, 1, 1, 2, 6, 7, 0, 3, 4, 1, 1, 1, 2, 6, 7, 1, 1, 2, 6, 7, 1, 0, 3, 1, 1, 1, 2, 6, 7, 1, 1, 2, 6, 7, 0, 3, 4, 1, 1, 1, 2, 6, 7, 1, 1, 2, 6, 7, 1, 0, 3, 1, 1, 1, 2, 6, 7, 1, 1, 2, 6, 7, 0, 3, 4, 1, 1, 1, 2, 6, 7, 1, 1, 2, 6, 7, 1, 1, 2, 6, 7, 1, 0, 3, 1, 1, 1, 2, 6, 7, 1, 1, 2, 6, 7, 1, 1, 2, 6, 7, 0, 3, 4, 1, 1, 1, 2, 6, 7, 1, 1, 2, 6, 7, 1, 0, 3, 1, 1, 1, 2, 6, 7, 1, 1, 2, 6, 7, 0, 3, 4, 1, 1, 1, 2, 6, 7, 1, 0, 3, 1, 1, 1, 2, 6, 7, 0, 3, 4, 1, 1, 1, 2, 6, 7, 1, 0, 3, 1, 1, 1, 2, 6, 7, 0, 3, 4, 1, 1, 1, 2, 6, 7, 1, 1, 2, 6, 7, 6, 1, 0, 3, 1, 1, 1, 2, 6, 7, 1, 1, 2, 6, 7, 6, 0, 3, 4, 1, 1, 1, 2, 6, 7, 1, 1, 2, 6, 7, 1, 1, 2, 6, 7, 1, 1, 2, 6, 7, 6, 1, 1, 2, 6, 7, 6, 1, 0, 3, 1, 1, 1, 2, 6, 7, 1, 1, 2, 6, 7, 1, 1, 2, 6, 7, 1, 1, 2, 6, 7, 6, 1, 1, 2, 6, 7, 6, 0, 3, 4, 1, 1, 1, 2, 6, 7, 1, 0, 3, 1, 1, 1, 2, 6, 7, 0, 3, 4, 1, 1, 1, 2, 6, 7, 1, 0, 3, 1, 1, 1, 2, 6, 7, 0, 3, 4, 1, 1, 1, 2, 6, 7, 1, 0, 3, 1, 1, 1, 2, 6, 7, 0, 3, 4, 1, 1, 1, 2, 6, 7, 1, 0, 3, 1, 1, 1, 2, 6, 7, 0, 3, 4, 1, 1, 1, 2, 6, 7, 1, 0, 3, 1, 1, 1, 2, 6, 7, 0, 3, 4, 1, 1, 1, 2, 6, 7, 1, 1, 2, 6, 7, 4, 2, 4, 2, 1, 0, 3, 1, 1, 1, 2, 6, 7, 1, 1, 2, 6, 7, 4, 2, 4, 2, 0, 3, 4, 1, 1, 1, 2, 6, 7, 1, 1, 2, 6, 7, 6, 1, 1, 2, 6, 7, 1, 0, 3, 1, 1, 1, 2, 6, 7, 1, 1, 2, 6, 7, 6, 1, 1, 2, 6, 7, 0, 3, 4, 1, 1, 1, 2, 6, 7, 1, 1, 2, 6, 7, 1, 1, 2, 6, 7, 1, 1, 2, 6, 7, 1, 0, 3, 1, 1, 1, 2, 6, 7, 1, 1, 2, 6, 7, 1, 1, 2, 6, 7, 1, 1, 2, 6, 7, 0, 3, 4, 1, 1, 1, 2, 6, 7, 1, 1, 2, 6, 7, 1, 1, 2, 6, 7, 1, 0, 3, 1, 1, 1, 2, 6, 7, 1, 1, 2, 6, 7, 1, 1, 2, 6, 7, 0, 3, 4, 1, 1, 1, 2, 6, 7, 1, 1, 2, 6, 7, 1, 1, 2, 6, 7, 1, 0, 3, 1, 1, 1, 2, 6, 7, 1, 1, 2, 6, 7, 1, 1, 2, 6, 7, 0, 3, 4, 1, 1, 1, 2, 6, 7, 1, 0, 3, 1, 1, 1, 2, 6, 7, 0, 3, 4, 1, 1, 1, 2, 6, 7, 1, 1, 2, 6, 7, 6, 1, 0, 3, 1, 1, 1, 2, 6, 7, 1, 1, 2, 6, 7, 6, 0, 3, 4, 1, 1, 1, 2, 6, 7, 1, 0, 3, 1, 1, 1, 2, 6, 7, 0, 3, 4, 1, 1, 1, 2, 6, 7, 1, 1, 2, 6, 7, 1, 0, 3, 1, 1, 1, 2, 6, 7, 1, 1, 2, 6, 7, 0, 3, 4, 1, 1, 1, 2, 6, 7, 1, 0, 3, 1, 1, 1, 2, 6, 7, 0, 3, 4, 1, 0, 4, 1, 0, 4, 4, 1, 1, 1, 2, 6, 7, 1, 0, 3, 1, 1, 1, 2, 6, 7, 0, 3, 4, 1, 1, 1, 2, 6, 7, 1, 1, 2, 6, 7, 1, 0, 3, 1, 1, 1, 2, 6, 7, 1, 1, 2, 6, 7, 0, 3, 4, 1, 1, 1, 2, 6, 7, 1, 0, 3, 1, 1, 1, 2, 6, 7, 0, 3, 4, 1, 1, 1, 2, 6, 7, 1, 0, 3, 1, 1, 1, 2, 6, 7, 0, 3, 4, 1, 1, 1, 2, 6, 7, 1, 1, 2, 6, 7, 1, 0, 3, 1, 1, 1, 2, 6, 7, 1, 1, 2, 6, 7, 0, 3, 4, 1, 1, 1, 2, 6, 7, 1, 0, 3, 1, 1, 1, 2, 6, 7, 0, 3, 4, 1, 1, 1, 2, 6, 7, 1, 1, 2, 6, 7, 1, 0, 3, 1, 1, 1, 2, 6, 7, 1, 1, 2, 6, 7, 0, 3, 4, 1, 1, 1, 2, 6, 7, 1, 1, 2, 6, 7, 1, 0, 3, 1, 1, 1, 2, 6, 7, 1, 1, 2, 6, 7, 0, 3, 4, 1, 1, 1, 2, 6, 7, 1, 1, 2, 6, 7, 6, 1, 0, 3, 1, 1, 1, 2, 6, 7, 1, 1, 2, 6, 7, 6, 0, 3, 4, 1, 1, 1, 2, 6, 7, 1, 1, 2, 6, 7, 1, 1, 2, 6, 7, 1, 0, 3, 1, 1, 1, 2, 6, 7, 1, 1, 2, 6, 7, 1, 1, 2, 6, 7, 0, 3, 4, 1, 1, 1, 2, 6, 7, 1, 0, 3, 1, 1, 1, 2, 6, 7, 0, 3, 4, 1, 0, 4, 1, 0, 4, 4, 1, 1, 1, 2, 6, 7, 1, 1, 2, 6, 7, 1, 0, 3, 1, 1, 1, 2, 6, 7, 1, 1, 2, 6, 7, 0, 3, 4, 1, 1, 1, 2, 6, 7, 1, 0, 3, 1, 1, 1, 2, 6, 7, 0, 3, 4, 1, 1, 1, 2, 6, 7, 1, 0, 3, 1, 1, 1, 2, 6, 7, 0, 3, 4, 1, 1, 1, 2, 6, 7, 1, 1, 2, 6, 7, 1, 1, 2, 6, 7, 1, 1, 2, 6, 7, 1, 1, 2, 6, 7, 1, 0, 3, 1, 1, 1, 2, 6, 7, 1, 1, 2, 6, 7, 1, 1, 2, 6, 7, 1, 1, 2, 6, 7, 1, 1, 2, 6, 7, 0, 3, 4, 1, 1, 1, 2, 6, 7, 1, 1, 2, 6, 7, 1, 1, 2, 6, 7, 1, 0, 3, 1, 1, 1, 2, 6, 7, 1, 1, 2, 6, 7, 1, 1, 2, 6, 7, 0, 3, 4, 1, 1, 1, 2, 6, 7, 1, 1, 2, 6, 7, 4, 2, 4, 2, 1, 0, 3, 1, 1, 1, 2, 6, 7, 1, 1, 2, 6, 7, 4, 2, 4, 2, 0, 3, 4, 1, 0, 0, 1, 0, 0, 4, 1, 1, 0, 3, 1, 0, 3, 4, 1, 1, 0, 3, 1, 0, 3, 4, 1, 0, 1, 0, 4, 2, 0, 4, 4, 2, 0]]
end
/-! part 30.tgo -/
section
/-! The run with hints is a run -/
def t_srt : Nat → CL → Bool
  | _, [] => true
  | lo, e :: l => Nat.ble lo e.1 && t_srt (e.1 + 1) l
theorem t_srt_le : ∀ {L : CL} {lo : Nat}, t_srt lo L = true → ∀ {e : Nat × Instr × Nat}, e ∈ L → lo ≤ e.1
  | [], lo, h, e, he => absurd he List.not_mem_nil
  | x :: l, lo, h, e, he => by
    rw [t_srt, Bool.and_eq_true] at h
    have h1 := Nat.le_of_ble_eq_true h.1
    rcases List.mem_cons.mp he with rfl | he
    · exact h1
    · have := t_srt_le h.2 he; omega
theorem t_srt_find : ∀ {L : CL} {lo : Nat}, t_srt lo L = true → ∀ {e : Nat × Instr × Nat}, e ∈ L → L.find? (fun x => x.1 == e.1) = some e
  | [], lo, h, e, he => absurd he List.not_mem_nil
  | x :: l, lo, h, e, he => by
    rw [t_srt, Bool.and_eq_true] at h
    rw [List.find?_cons]
    rcases List.mem_cons.mp he with rfl | he
    · rw [beq_self_eq_true]
    · have h1 := t_srt_le h.2 he
      rw [show (x.1 == e.1) = false from beq_false_of_ne (by omega)]
      exact t_srt_find h.2 he
theorem t_srt_prog : (a_prog.all fun m => t_srt 0 m.2) = true := by decide +kernel
theorem t_srt_law : t_srt 0 a_lawP = true := by decide +kernel
theorem t_insL : (a_lawP.all fun e => decide (a_insL e.1 = some e.2)) = true := by decide +kernel
theorem t_ins {mi pc : Nat} {i : Instr} {len : Nat} (h : (pc, i, len) ∈ a_codeL mi) : a_ins mi pc = some (i, len) := by
  unfold a_ins
  by_cases hm : mi = 300
  · have e1 : a_codeL mi = a_lawP := if_pos hm
    rw [e1] at h
    rw [hm]
    exact of_decide_eq_true (List.all_eq_true.mp t_insL _ h)
  · have hb : Nat.beq mi 300 = false := by
      cases e : Nat.beq mi 300 with
      | false => rfl
      | true => exact absurd (Nat.eq_of_beq_eq_true e) hm
    have e1 : a_codeL mi = (a_prow mi).2 := if_neg hm
    have key : t_srt 0 (a_prow mi).2 = true := by
      rw [e1] at h
      exact List.all_eq_true.mp t_srt_prog _ (a_prow_in h)
    rw [hb]
    show ((a_prow mi).2.find? (fun e => Nat.beq e.1 pc)).map (fun e => e.2) = some (i, len)
    rw [e1] at h
    have hfe : (fun e : Nat × Instr × Nat => Nat.beq e.1 pc) = (fun e => e.1 == pc) := funext fun e => by
      cases hb2 : Nat.beq e.1 pc with
      | true => rw [Nat.eq_of_beq_eq_true hb2, beq_self_eq_true]
      | false => exact (beq_false_of_ne (Nat.ne_of_beq_eq_false hb2)).symm
    rw [hfe, t_srt_find key h]
    rfl
def t_drop (t : Nat) : CL → List Nat → CL × List Nat
  | e :: l, k :: ks => bif Nat.beq e.1 t then (e :: l, k :: ks) else t_drop t l ks
  | _, _ => ([], [])
def t_pos (pc : Nat) (cs : CL) (ks : List Nat) (fc : CL) (fk : List Nat) : CL × List Nat := match cs, ks with
  | e :: l, k :: ks => bif Nat.beq e.1 pc then (e :: l, k :: ks) else t_drop pc fc fk
  | _, _ => t_drop pc fc fk
theorem t_drop_in {t : Nat} : ∀ {l : CL} {ks : List Nat} {e : Nat × Instr × Nat}, e ∈ (t_drop t l ks).1 → e ∈ l
  | [], ks, e, h => by cases ks <;> cases h
  | x :: l, [], e, h => by cases h
  | x :: l, k :: ks, e, h => by
    rw [t_drop] at h
    cases hb : Nat.beq x.1 t with
    | true => rw [hb] at h; exact h
    | false => rw [hb] at h; exact List.mem_cons_of_mem _ (t_drop_in h)
theorem t_pos_in {pc : Nat} {cs fc : CL} {ks fk : List Nat} {P : Nat × Instr × Nat → Prop} (h1 : ∀ e ∈ cs, P e) (h2 : ∀ e ∈ fc, P e) : ∀ e ∈ (t_pos pc cs ks fc fk).1, P e := by
  intro e h
  unfold t_pos at h
  split at h
  · rename_i x l k ks'
    cases hb : Nat.beq x.1 pc with
    | true => rw [hb] at h; exact h1 e h
    | false => rw [hb] at h; exact h2 e (t_drop_in h)
  · exact h2 e (t_drop_in h)
def t_frc {α : Type} (n : Nat) (f : Nat → α) : α := match n with
  | 0 => f 0
  | Nat.succ n => f (Nat.succ n)
theorem t_frc_eq {α : Type} (n : Nat) (f : Nat → α) : t_frc n f = f n := by cases n <;> rfl
noncomputable def t_go (call : SE → Nat → List Value → AH → Option (List (SE × AR))) (mi : Nat) (fc : CL) (fk : List Nat) : Nat → SE → Nat → CL → List Nat → AL → List Value → AH → Nat → Nat → Option (List (SE × AR))
  | 0, _, _, _, _, _, _, _, _, _ => none
  | f + 1, E, pc, cs, ks, al, st, h, mc, ms =>
    match t_pos pc cs ks fc fk with
    | ((p, i, len) :: cs', k :: ks') => bif Nat.beq p pc then
      (match t_fast mi (a_own mi) (a_ini mi) i len p al st h k with
      | some r => t_frc (mc + r.2.2.2.2.1) fun mc' => t_frc (ms + r.2.2.2.2.2) fun ms' => t_go call mi fc fk f E r.1 cs' ks' r.2.1 r.2.2.1 r.2.2.2.1 mc' ms'
      | none => match s_end E mi i st with
        | some v => some [(E, .inl v, h, mc, ms)]
        | none => match a_trw mi p i st with
          | some k => some [(E, .inr k, h, mc + 1, ms + 6)]
          | none => match a_call (a_own mi) i st h with
            | some (mt, as, rest) => (match call E mt as h with
              | none => none
              | some outs => (s_seq (outs.map fun o => match o.2.1 with
                | .inl v => t_frc (mc + o.2.2.2.1) fun mc' => t_frc (ms + o.2.2.2.2) fun ms' => t_go call mi fc fk f o.1 (p + 3) cs' ks' al (v.toList ++ rest) o.2.2.1 mc' ms'
                | .inr k => if a_isSp i = true then none else if (a_hnd mi).isEmpty = true then some [(o.1, .inr k, o.2.2.1, mc + o.2.2.2.1, ms + o.2.2.2.2)] else (match a_cth mi p k with
                  | some x => (match a_hdl mi x.2.2.1 with
                    | some (hp, n) => if n < al.length then t_frc (mc + o.2.2.2.1) fun mc' => t_frc (ms + o.2.2.2.2) fun ms' => t_go call mi fc fk f o.1 hp cs' ks' (a_drop al n) [] o.2.2.1 mc' ms' else none
                    | none => none)
                  | none => none))).map List.flatten)
            | none => match s_stp E (a_own mi) (a_ini mi) i len p al st h with
              | none => none
              | some outs => (s_seq (outs.map fun o => t_frc (mc + o.2.2.2.2.2.1) fun mc' => t_frc (ms + o.2.2.2.2.2.2) fun ms' => t_go call mi fc fk f o.1 o.2.1 cs' ks' o.2.2.1 o.2.2.2.1 o.2.2.2.2.1 mc' ms')).map List.flatten)
      else none
    | _ => none
def t_hint (mi : Nat) : List Nat := t_hints.getD mi []
noncomputable def t_run : Nat → Nat → SE → Nat → List Value → AH → Option (List (SE × AR))
  | 0, _, _, _, _, _ => none
  | d + 1, F, E, mi, as, h => if as.length = a_nrg mi ∧ as.length ≤ a_mxl mi ∧ (as.all fun v => v.category == 1) = true then t_go (t_run d F) mi (a_codeL mi) (t_hint mi) F E 0 [] [] (a_args mi as) [] h 0 0 else none
section TG
variable {ρ : GV}
set_option maxHeartbeats 2000000 in
theorem t_go_ok (hρ : s_fix ρ) {mi : Nat} {fc : CL} {fk : List Nat} {cS : SE → Nat → List Value → AH → Option (List (SE × AR))} {cA : Nat → List Value → AH → Option AR} (hcall : ∀ (E : SE) (mt : Nat) (as : List Value) (h : AH) (outs : List (SE × AR)), cS E mt as h = some outs → s_sat E ρ → ∃ o ∈ outs, s_sat o.1 ρ ∧ cA mt (g_S ρ as) (g_H ρ h) = some (g_r ρ o.2)) (hfc : ∀ e ∈ fc, e ∈ a_codeL mi) :
    ∀ (f : Nat) (E : SE) (pc : Nat) (cs : CL) (ks : List Nat) (al : AL) (st : List Value) (h : AH) (mc ms : Nat) (outs : List (SE × AR)), (∀ e ∈ cs, e ∈ a_codeL mi) → t_go cS mi fc fk f E pc cs ks al st h mc ms = some outs → s_sat E ρ → ∃ o ∈ outs, s_sat o.1 ρ ∧ a_go cA mi f pc (g_A ρ al) (g_S ρ st) (g_H ρ h) mc ms = some (g_r ρ o.2)
  | 0, E, pc, cs, ks, al, st, h, mc, ms, outs, hcs, hr, hs => by cases hr
  | f + 1, E, pc, cs, ks, al, st, h, mc, ms, outs, hcs, hr, hs => by
    rw [t_go] at hr
    rw [a_go]
    have hpos := t_pos_in (pc := pc) (ks := ks) (fk := fk) hcs hfc
    split at hr
    · rename_i p i len cs' k ks' hp
      rw [hp] at hpos
      obtain ⟨hb, hr1⟩ := t_bif hr
      clear hr
      have hb1 := t_beq hb
      clear hb
      subst hb1
      have hr := hr1
      clear hr1
      have hi := t_ins (hpos _ List.mem_cons_self)
      have hcs' : ∀ e ∈ cs', e ∈ a_codeL mi := fun e he => hpos e (List.mem_cons_of_mem _ he)
      rw [hi]
      dsimp only
      split at hr
      · rename_i r hf
        rw [t_frc_eq, t_frc_eq] at hr
        obtain ⟨h1, h2, h3⟩ := t_fast_ok (ρ := ρ) (fun q => a_ins_len hi q) hf
        have e0 : a_end mi i (g_S ρ st) = none := a_opt (fun v hv => a_stp_stage h1 (a_end_stage hv))
        rw [e0, h2, h3, h1]
        exact t_go_ok hρ hcall hfc f E r.1 cs' ks' r.2.1 r.2.2.1 r.2.2.2.1 _ _ outs hcs' hr hs
      · split at hr
        · rename_i v hv
          cases hr
          refine ⟨_, List.mem_cons_self, hs, ?_⟩
          rw [s_end_ok hs hv]; rfl
        · split at hr
          · rename_i k hk
            cases hr
            refine ⟨_, List.mem_cons_self, hs, ?_⟩
            have e0 : a_end mi i (g_S ρ st) = none := a_opt (fun v hv => by
              have h1 := a_end_stage hv
              rw [a_trw_stage hk] at h1
              cases h1)
            rw [e0, g_trw, hk]; rfl
          · rename_i htr
            split at hr
            · rename_i mt as rest hc
              split at hr
              · cases hr
              · rename_i os hos
                obtain ⟨o, ho, hso, hco⟩ := hcall E mt as h os hos hs
                obtain ⟨a, ea, hin⟩ := s_fl hr (List.mem_map.mpr ⟨o, ho, rfl⟩)
                have e1 : a_call (a_own mi) i (g_S ρ st) (g_H ρ h) = some (mt, g_S ρ as, g_S ρ rest) := g_call_some hc
                rw [a_call_end hc, g_trw, htr, e1]
                dsimp only
                rw [hco]
                obtain ⟨E', res, h', c', s'⟩ := o
                cases res with
                | inl v =>
                  dsimp only at ea hso
                  rw [t_frc_eq, t_frc_eq] at ea
                  obtain ⟨o2, ho2, hs2, h2⟩ := t_go_ok hρ hcall hfc f E' (p + 3) cs' ks' al (v.toList ++ rest) h' (mc + c') (ms + s') a hcs' ea hso
                  refine ⟨o2, hin o2 ho2, hs2, ?_⟩
                  have e2 : (v.map (g_v ρ)).toList ++ g_S ρ rest = g_S ρ (v.toList ++ rest) := by cases v <;> simp [g_S]
                  show a_go cA mi f (p + 3) (g_A ρ al) ((v.map (g_v ρ)).toList ++ g_S ρ rest) (g_H ρ h') (mc + c') (ms + s') = _
                  rw [e2]
                  exact h2
                | inr k =>
                  dsimp only at ea hso
                  dsimp only [g_r]
                  by_cases hsp : a_isSp i = true
                  · rw [if_pos hsp] at ea; cases ea
                  · rw [if_neg hsp] at ea
                    rw [if_neg hsp]
                    by_cases hemp : (a_hnd mi).isEmpty = true
                    · rw [if_pos hemp] at ea
                      rw [if_pos hemp]
                      cases ea
                      exact ⟨_, hin _ List.mem_cons_self, hso, rfl⟩
                    · rw [if_neg hemp] at ea
                      rw [if_neg hemp]
                      split at ea
                      · rename_i x hx
                        rw [hx]
                        dsimp only
                        split at ea
                        · rename_i hp n hh
                          rw [hh]
                          dsimp only
                          split at ea
                          · rename_i hn
                            rw [t_frc_eq, t_frc_eq] at ea
                            rw [g_len, if_pos hn, ← g_drop]
                            obtain ⟨o2, ho2, hs2, h2⟩ := t_go_ok hρ hcall hfc f E' hp cs' ks' (a_drop al n) [] h' (mc + c') (ms + s') a hcs' ea hso
                            exact ⟨o2, hin o2 ho2, hs2, h2⟩
                          · cases ea
                        · cases ea
                      · cases ea
            · rename_i hc
              split at hr
              · cases hr
              · rename_i os hos
                obtain ⟨o, ho, hso, hst⟩ := s_stp_ok hρ hs (fun q => a_ins_len hi q) hos
                obtain ⟨a, ea, hin⟩ := s_fl hr (List.mem_map.mpr ⟨o, ho, rfl⟩)
                have e0 : a_end mi i (g_S ρ st) = none := a_opt (fun v hv => a_stp_stage hst (a_end_stage hv))
                have e1 : a_call (a_own mi) i (g_S ρ st) (g_H ρ h) = none := g_call_none hc (a_stp_stage hst)
                rw [e0, g_trw, htr, e1]
                dsimp only
                rw [hst]
                rw [t_frc_eq, t_frc_eq] at ea
                obtain ⟨o2, ho2, hs2, h2⟩ := t_go_ok hρ hcall hfc f o.1 o.2.1 cs' ks' o.2.2.1 o.2.2.2.1 o.2.2.2.2.1 (mc + o.2.2.2.2.2.1) (ms + o.2.2.2.2.2.2) a hcs' ea hso
                exact ⟨o2, hin o2 ho2, hs2, h2⟩
    · cases hr
theorem g_args (mi : Nat) (as : List Value) : g_A ρ (a_args mi as) = a_args mi (g_S ρ as) := by
  unfold a_args g_A g_S
  simp [List.map_append, List.map_map, Function.comp_def, List.map_replicate]
theorem t_run_ok (hρ : s_fix ρ) : ∀ (d F : Nat) (E : SE) (mi : Nat) (as : List Value) (h : AH) (outs : List (SE × AR)), t_run d F E mi as h = some outs → s_sat E ρ → ∃ o ∈ outs, s_sat o.1 ρ ∧ a_run d F mi (g_S ρ as) (g_H ρ h) = some (g_r ρ o.2)
  | 0, F, E, mi, as, h, outs, hr, hs => by cases hr
  | d + 1, F, E, mi, as, h, outs, hr, hs => by
    rw [t_run] at hr
    split at hr
    · rename_i hc
      obtain ⟨o, ho, hs2, h2⟩ := t_go_ok hρ (fun E mt as h outs => t_run_ok hρ d F E mt as h outs) (fun e he => he) F E 0 [] [] (a_args mi as) [] h 0 0 outs (fun e he => absurd he List.not_mem_nil) hr hs
      refine ⟨o, ho, hs2, ?_⟩
      have hc2 : (g_S ρ as).length = a_nrg mi ∧ (g_S ρ as).length ≤ a_mxl mi ∧ ((g_S ρ as).all fun v => v.category == 1) = true := by
        refine ⟨by rw [g_Slen]; exact hc.1, by rw [g_Slen]; exact hc.2.1, ?_⟩
        rw [List.all_eq_true]
        intro v hv
        obtain ⟨u, hu, rfl⟩ := List.mem_map.mp hv
        rw [g_cat]
        exact List.all_eq_true.mp hc.2.2 u hu
      show (if _ then _ else _) = _
      rw [if_pos hc2, ← g_args]
      exact h2
    · cases hr
end TG
end
/-! part 31.canned -/
section
/-! A run that uses the results of earlier runs: (method, the object, the heap behind the first cell before and after, cells, slots) -/
abbrev XE : Type := Nat × Nat × AH × AH × Nat × Nat
def x_vp (v : Value) : Bool := match v with
  | .retAddr _ => false
  | _ => true
def x_pure (h : AH) : Bool := h.all fun x => !(Nat.beq x.1 99) && x.2.all x_vp
noncomputable def x_call (tab : List XE) (c : SE → Nat → List Value → AH → Option (List (SE × AR))) (E : SE) (mt : Nat) (as : List Value) (h : AH) : Option (List (SE × AR)) := match h with
  | [] => c E mt as []
  | c0 :: t => match tab.find? (fun e => Nat.beq e.1 mt && Nat.beq e.2.2.1.length t.length) with
    | some e => if as = [.ref e.2.1] ∧ t = e.2.2.1 then some [(E, .inl none, c0 :: e.2.2.2.1, e.2.2.2.2.1, e.2.2.2.2.2)] else none
    | none => c E mt as (c0 :: t)
def x_P (d F : Nat) (e : XE) : Prop := (x_pure e.2.2.1 = true ∧ x_pure e.2.2.2.1 = true) ∧ ∀ c0 : AC, a_run d F e.1 [.ref e.2.1] (c0 :: e.2.2.1) = some (.inl none, c0 :: e.2.2.2.1, e.2.2.2.2.1, e.2.2.2.2.2)
noncomputable def x_run (tab : List XE) (d F : Nat) (E : SE) (mi : Nat) (as : List Value) (h : AH) : Option (List (SE × AR)) := if as.length = a_nrg mi ∧ as.length ≤ a_mxl mi ∧ (as.all fun v => v.category == 1) = true then t_go (x_call tab (t_run d F)) mi (a_codeL mi) (t_hint mi) F E 0 [] [] (a_args mi as) [] h 0 0 else none
section XR
variable {ρ : GV}
theorem x_pure_g {h : AH} (hp : x_pure h = true) : g_H ρ h = h := by
  unfold g_H
  conv => rhs; rw [← List.map_id h]
  refine List.map_congr_left fun x hx => ?_
  have h1 := List.all_eq_true.mp hp x hx
  rw [Bool.and_eq_true] at h1
  have h2 : ¬ x.1 = 99 := by
    intro e
    rw [e] at h1
    exact absurd h1.1 (by decide)
  unfold g_c
  rw [if_neg h2]
  have h3 : x.2.map (g_v ρ) = x.2 := by
    conv => rhs; rw [← List.map_id x.2]
    refine List.map_congr_left fun v hv => ?_
    have h4 := List.all_eq_true.mp h1.2 v hv
    cases v <;> first | rfl | (cases h4; done)
  rw [h3]; rfl
theorem x_call_ok (hρ : s_fix ρ) {tab : List XE} {d F : Nat} (ht : ∀ e ∈ tab, x_P d F e) (E : SE) (mt : Nat) (as : List Value) (h : AH) (outs : List (SE × AR)) (hr : x_call tab (t_run d F) E mt as h = some outs) (hs : s_sat E ρ) : ∃ o ∈ outs, s_sat o.1 ρ ∧ a_run d F mt (g_S ρ as) (g_H ρ h) = some (g_r ρ o.2) := by
  unfold x_call at hr
  split at hr
  · exact t_run_ok hρ d F E mt as [] outs hr hs
  · rename_i c0 t
    split at hr
    · rename_i e he
      split at hr
      · rename_i hc
        cases hr
        obtain ⟨⟨p1, p2⟩, p3⟩ := ht e (List.mem_of_find?_eq_some he)
        have h1 := List.find?_some he
        rw [Bool.and_eq_true] at h1
        have h2 := t_beq h1.1
        refine ⟨_, List.mem_cons_self, hs, ?_⟩
        rw [hc.1, hc.2, ← h2]
        have e1 : g_H ρ (c0 :: e.2.2.1) = g_c ρ c0 :: e.2.2.1 := by
          show g_c ρ c0 :: g_H ρ e.2.2.1 = _
          rw [x_pure_g p1]
        have e2 : g_H ρ (c0 :: e.2.2.2.1) = g_c ρ c0 :: e.2.2.2.1 := by
          show g_c ρ c0 :: g_H ρ e.2.2.2.1 = _
          rw [x_pure_g p2]
        rw [e1]
        show a_run d F e.1 [.ref e.2.1] _ = some (.inl none, g_H ρ (c0 :: e.2.2.2.1), _, _)
        rw [e2]
        exact p3 _
      · cases hr
    · exact t_run_ok hρ d F E mt as _ outs hr hs
theorem x_run_ok (hρ : s_fix ρ) {tab : List XE} {d F : Nat} (ht : ∀ e ∈ tab, x_P d F e) {E : SE} {mi : Nat} {as : List Value} {h : AH} {outs : List (SE × AR)} (hr : x_run tab d F E mi as h = some outs) (hs : s_sat E ρ) : ∃ o ∈ outs, s_sat o.1 ρ ∧ a_run (d + 1) F mi (g_S ρ as) (g_H ρ h) = some (g_r ρ o.2) := by
  unfold x_run at hr
  split at hr
  · rename_i hc
    obtain ⟨o, ho, hs2, h2⟩ := t_go_ok hρ (x_call_ok hρ ht) (fun e he => he) F E 0 [] [] (a_args mi as) [] h 0 0 outs (fun e he => absurd he List.not_mem_nil) hr hs
    refine ⟨o, ho, hs2, ?_⟩
    have hc2 : (g_S ρ as).length = a_nrg mi ∧ (g_S ρ as).length ≤ a_mxl mi ∧ ((g_S ρ as).all fun v => v.category == 1) = true := by
      refine ⟨by rw [g_Slen]; exact hc.1, by rw [g_Slen]; exact hc.2.1, ?_⟩
      rw [List.all_eq_true]
      intro v hv
      obtain ⟨u, hu, rfl⟩ := List.mem_map.mp hv
      rw [g_cat]
      exact List.all_eq_true.mp hc.2.2 u hu
    show (if _ then _ else _) = _
    rw [if_pos hc2, ← g_args]
    exact h2
  · cases hr
end XR
def x_rv (c0 : AC) : GV := (fun _ => 0, c0)
theorem x_rv_fix (c0 : AC) : s_fix (x_rv c0) := fun n _ => ⟨show (0 : Int32) = s_i2c 0 by decide, show (0 : Int32) = 0 &&& 63 by decide⟩
def x_is (o : Option (List (SE × AR))) (h : AH) (mc ms : Nat) : Bool := match o with
  | some [([], .inl none, (99, []) :: t, c, s)] => decide (t = h) && (Nat.beq c mc && Nat.beq s ms)
  | _ => false
theorem x_is_eq {o : Option (List (SE × AR))} {h : AH} {mc ms : Nat} (hx : x_is o h mc ms = true) : o = some [([], .inl none, (99, []) :: h, mc, ms)] := by
  unfold x_is at hx
  split at hx
  · rw [Bool.and_eq_true, Bool.and_eq_true, decide_eq_true_eq] at hx
    rw [hx.1, t_beq hx.2.1, t_beq hx.2.2]
  · cases hx
/-- a run gives an entry of the next table -/
theorem x_entry {tab : List XE} {d F mt a mc ms : Nat} {tin tout : AH} (ht : ∀ e ∈ tab, x_P d F e) (h1 : x_pure tin = true) (h2 : x_pure tout = true) (hx : x_is (x_run tab d F [] mt [.ref a] ((99, []) :: tin)) tout mc ms = true) : x_P (d + 1) F (mt, a, tin, tout, mc, ms) := by
  have hr := x_is_eq hx
  refine ⟨⟨h1, h2⟩, fun c0 => ?_⟩
  obtain ⟨o, ho, -, h⟩ := x_run_ok (x_rv_fix c0) ht hr (fun k S hk => by cases hk)
  cases List.mem_singleton.mp ho
  have e1 : ∀ t, x_pure t = true → g_H (x_rv c0) ((99, []) :: t) = c0 :: t := by
    intro t hp
    show g_c (x_rv c0) (99, []) :: g_H (x_rv c0) t = _
    rw [x_pure_g hp]; rfl
  rw [e1 tin h1] at h
  rw [show g_S (x_rv c0) [.ref a] = [.ref a] from rfl] at h
  refine h.trans ?_
  show some ((Sum.inl none : Option Value ⊕ Nat), g_H (x_rv c0) ((99, []) :: tout), mc, ms) = _
  rw [e1 tout h2]
end
