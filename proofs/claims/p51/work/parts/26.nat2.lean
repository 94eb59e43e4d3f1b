section GN2
variable {ρ : GV}
theorem g_st3 {i : Instr} {pc : Nat} {al : AL} {st : List Value} {h : AH} {r : AS} (hr : a_st3 i pc al st h = some r) : a_st3 i pc (g_A ρ al) (g_S ρ st) (g_H ρ h) = some (g_R ρ r) := by
  unfold a_st3 at hr
  split at hr
  · rename_i j a st'
    split at hr
    · rename_i t vs ha
      split at hr
      · rename_i ht
        rw [Option.bind_eq_some_iff] at hr
        obtain ⟨n, h1, hr⟩ := hr
        rw [Option.map_eq_some_iff] at hr
        obtain ⟨v, h2, rfl⟩ := hr
        show (match (g_H ρ h)[a]? with
          | some (t, vs) => if a_ald i t = true then (a_ix j vs.length).bind (fun n => (vs[n]?).map (fun v => (pc + 1, g_A ρ al, v :: g_S ρ st', g_H ρ h, 0, 0))) else none
          | none => none) = _
        rw [g_cel ha (g_ald99 ht)]
        dsimp only
        rw [if_pos ht, List.length_map, h1]
        show ((vs.map (g_v ρ))[n]?).map _ = _
        rw [List.getElem?_map, h2]; rfl
      · cases hr
    · cases hr
  · cases hr
theorem g_fit {ty : FieldType} {v : Value} (h : fits ty v = true) : g_v ρ v = v := by
  cases v <;> first
    | rfl
    | (exfalso; cases ty <;> cases h)
theorem g_ast {i : Instr} {t : Nat} {x v : Value} (h : a_ast i t x = some v) : g_v ρ x = x ∧ g_v ρ v = v := by
  unfold a_ast at h
  split at h
  all_goals first
    | (cases h; done)
    | (split at h <;> first
        | (cases h; done)
        | (cases h; exact ⟨rfl, rfl⟩)
        | (cases h; refine ⟨rfl, ?_⟩; unfold narrow; first | rfl | (split <;> rfl)))
theorem g_st4 {own : Nat} {ini : Bool} {i : Instr} {pc : Nat} {al : AL} {st : List Value} {h : AH} {r : AS} (hr : a_st4 own ini i pc al st h = some r) : a_st4 own ini i pc (g_A ρ al) (g_S ρ st) (g_H ρ h) = some (g_R ρ r) := by
  unfold a_st4 at hr
  split at hr
  · split at hr
    · rename_i a st' _ t vs ha
      split at hr
      · rename_i ht
        cases hr
        show (match (g_H ρ h)[a]? with
          | some (t, vs) => if (a_aty t).isSome then some (pc + 1, g_A ρ al, Value.int vs.length.toInt32 :: g_S ρ st', g_H ρ h, 0, 0) else none
          | none => none) = _
        rw [g_cel ha (by obtain ⟨ty, hty⟩ := Option.isSome_iff_exists.mp ht; exact g_ty99 hty)]
        dsimp only
        rw [if_pos ht, List.length_map]; rfl
      · cases hr
    · cases hr
  · rw [Option.map_eq_some_iff] at hr; obtain ⟨q, h1, rfl⟩ := hr; show Option.map _ (List.find? _ _) = _; rw [h1]; rfl
  · rw [Option.map_eq_some_iff] at hr; obtain ⟨q, h1, rfl⟩ := hr; show Option.map _ (List.find? _ _) = _; rw [h1]; rfl
  · rw [Option.map_eq_some_iff] at hr; obtain ⟨q, h1, rfl⟩ := hr; show Option.map _ (List.find? _ _) = _; rw [h1]; rfl
  · split at hr
    · rename_i idx a st' _ ci k hf
      split at hr
      · rename_i t vs ha
        split at hr
        · rename_i ht
          rw [Option.map_eq_some_iff] at hr
          obtain ⟨v, h2, rfl⟩ := hr
          show (match a_field own idx with
            | some (ci, k) => match (g_H ρ h)[a]? with
              | some (t, vs) => if t = ci then (vs[k]?).map (fun v => (pc + 3, g_A ρ al, v :: g_S ρ st', g_H ρ h, 0, 0)) else none
              | none => none
            | none => none) = _
          rw [hf]
          dsimp only
          rw [g_cel ha (by have := (a_field_in hf).2.2; omega)]
          dsimp only
          rw [if_pos ht, List.getElem?_map, h2]; rfl
        · cases hr
      · cases hr
    · cases hr
  · split at hr
    · rename_i idx v a st' _ ci k hf
      split at hr
      · rename_i t vs ha
        split at hr
        · rename_i ht
          cases hr
          have e := g_fit (ρ := ρ) ht.2.2.2.1
          show (match a_field own idx with
            | some (ci, k) => match (g_H ρ h)[a]? with
              | some (t, vs) => if t = ci ∧ k < vs.length ∧ narrow (a_fty ci k) (g_v ρ v) = g_v ρ v ∧ fits (a_fty ci k) (g_v ρ v) = true ∧ ((a_cT ci k).2.2.2 = false ∨ (ini = true ∧ own = ci)) then some (pc + 3, g_A ρ al, g_S ρ st', (g_H ρ h).set a (t, vs.set k (g_v ρ v)), 0, 0) else none
              | none => none
            | none => none) = _
          rw [hf]
          dsimp only
          rw [g_cel ha (by have := (a_field_in hf).2.2; have := ht.1; omega)]
          dsimp only
          rw [e, List.length_map, if_pos ht]
          show _ = some (_, _, _, g_H ρ (h.set a (t, vs.set k v)), _, _)
          rw [g_setH _ _ _ _ _ _ (by have := (a_field_in hf).2.2; have := ht.1; omega), e]
        · cases hr
      · cases hr
    · cases hr
  · split at hr
    · rename_i x j a st' c1 c2 c3 c4 c5 c6 t vs ha
      split at hr
      · rename_i v hv
        rw [Option.map_eq_some_iff] at hr
        obtain ⟨n, h1, rfl⟩ := hr
        obtain ⟨e1, e2⟩ := g_ast (ρ := ρ) hv
        have key : ∀ (x : Value) (st : List Value), a_st4 own ini i pc (g_A ρ al) (x :: .int j :: .ref a :: st) (g_H ρ h) = (match (g_H ρ h)[a]? with
          | some (t, vs) => match a_ast i t x with
            | some v => (a_ix j vs.length).map (fun n => (pc + 1, g_A ρ al, st, (g_H ρ h).set a (t, vs.set n v), 0, 0))
            | none => none
          | none => none) := by
          intro x st
          have hi : ∃ k, i = .iastore ∨ i = .bastore ∨ i = .castore ∨ i = .lastore ∨ i = .dastore ∨ k = 0 := ⟨0, by simp⟩
          unfold a_ast at hv
          split at hv <;> first | (cases hv; done) | rfl
        show a_st4 own ini i pc (g_A ρ al) (g_v ρ x :: .int j :: .ref a :: g_S ρ st') (g_H ρ h) = _
        rw [key, g_cel ha (g_ast99 hv)]
        dsimp only
        rw [e1, hv]
        dsimp only
        rw [List.length_map, h1]
        show some (_, _, _, _, _, _) = some (_, _, _, g_H ρ (h.set a (t, vs.set n v)), _, _)
        rw [g_setH _ _ _ _ _ _ (g_ast99 hv), e2]
      · cases hr
    · cases hr
  · cases hr
theorem g_st5 {own : Nat} {i : Instr} {pc : Nat} {al : AL} {st : List Value} {h : AH} {r : AS} (hr : a_st5 own i pc al st h = some r) : a_st5 own i pc (g_A ρ al) (g_S ρ st) (g_H ρ h) = some (g_R ρ r) := by
  unfold a_st5 at hr
  split at hr
  · rw [Option.map_eq_some_iff] at hr
    obtain ⟨q, h1, rfl⟩ := hr
    show Option.map _ (List.find? _ _) = _
    rw [h1]
    show some (_, _, Value.ref (g_H ρ h).length :: _, _, _, _) = some (_, _, Value.ref h.length :: _, g_H ρ (h ++ [a_obj q.2.1]), _, _)
    rw [g_Hlen, g_app, g_obj (by
      have h3 := a_all_of a_new_ok (List.mem_of_find?_eq_some h1)
      simp only [Bool.and_eq_true, decide_eq_true_eq] at h3
      have := h3.2.2.2
      omega)]; rfl
  · split at hr
    · rename_i ht
      rw [Option.map_eq_some_iff] at hr
      obtain ⟨k, h1, rfl⟩ := hr
      show (if _ then Option.map _ _ else none) = _
      rw [if_pos ht, h1]
      show some (_, _, Value.ref (g_H ρ h).length :: _, _, _, _) = some (_, _, Value.ref h.length :: _, g_H ρ (h ++ [_]), _, _)
      rw [g_Hlen, g_app, g_row]
    · cases hr
  · split at hr
    · rename_i q hq
      split at hr
      · rename_i ht
        rw [Option.map_eq_some_iff] at hr
        obtain ⟨k, h1, rfl⟩ := hr
        show a_st5 own (.anewarray _) pc _ (Value.int _ :: g_S ρ _) _ = _
        unfold a_st5
        dsimp only
        rw [hq]
        dsimp only
        rw [if_pos ht, h1]
        show some (_, _, Value.ref (g_H ρ h).length :: _, _, _, _) = some (_, _, Value.ref h.length :: _, g_H ρ (h ++ [_]), _, _)
        rw [g_Hlen, g_app, g_row]; rfl
      · cases hr
    · cases hr
  · rename_i v j a st'
    split at hr
    · rename_i t vs ha
      split at hr
      · rename_i u us hv
        split at hr
        · rename_i hc
          rw [Option.map_eq_some_iff] at hr
          obtain ⟨n, h1, rfl⟩ := hr
          show (match (g_H ρ h)[a]? with
            | some (t, vs) => match (g_H ρ h)[v]? with
              | some (u, _) => if u < 12 ∧ t ≠ 19 ∧ a_aty t = some (FieldType.object (a_cN u)) then (a_ix j vs.length).map (fun n => (pc + 1, g_A ρ al, g_S ρ st', (g_H ρ h).set a (t, vs.set n (.ref v)), 0, 0)) else none
              | none => none
            | none => none) = _
          rw [g_cel ha (g_ty99 hc.2.2), g_cel hv (by have := hc.1; omega)]
          dsimp only
          rw [if_pos hc, List.length_map, h1]
          show some (_, _, _, _, _, _) = some (_, _, _, g_H ρ (h.set a (t, vs.set n (Value.ref v))), _, _)
          rw [g_setH _ _ _ _ _ _ (g_ty99 hc.2.2)]; rfl
        · cases hr
      · cases hr
    · cases hr
  · split at hr
    · rename_i hc
      cases hr
      show (if _ ∧ a_cat (g_S ρ _) ≤ 8 then _ else _) = _
      exact (if_pos ⟨hc.1, by rw [g_catS]; exact hc.2⟩).trans rfl
    · cases hr
  · split at hr
    · rename_i q hq
      split at hr
      · rename_i hc
        cases hr
        show a_st5 own (.invokestatic _) pc _ (Value.int _ :: Value.int _ :: g_S ρ _) _ = _
        unfold a_st5
        dsimp only
        rw [hq]
        exact (if_pos (by rw [g_catS]; exact hc)).trans rfl
      · cases hr
    · cases hr
  · cases hr
/-- the cell at a is not the one that no step may look into -/
def g_N (a : Nat) (h : AH) : Prop := ∀ (t : Nat) (vs : List Value), h[a]? = some (t, vs) → t ≠ 99
theorem g_setR {h : AH} {a : Nat} (hN : g_N a h) (i b : Nat) : g_H ρ (a_setR h a i b) = a_setR (g_H ρ h) a i b := by
  unfold a_setR
  cases ha : h[a]? with
  | none => rw [g_celN ha]
  | some x =>
    obtain ⟨t, vs⟩ := x
    have ht := hN t vs ha
    rw [g_cel ha ht]
    dsimp only
    rw [g_setH _ _ _ _ _ _ ht]; rfl
theorem g_setN {h : AH} {a c : Nat} (hN : g_N c h) (i b : Nat) : g_N c (a_setR h a i b) ∧ (a_setR h a i b).length = h.length := by
  unfold a_setR
  cases ha : h[a]? with
  | none => exact ⟨hN, rfl⟩
  | some x =>
    obtain ⟨t, vs⟩ := x
    dsimp only
    refine ⟨fun t' vs' h' => ?_, List.length_set⟩
    rw [List.getElem?_set] at h'
    split at h'
    · rename_i e
      subst e
      split at h'
      · cases h'; exact hN t vs ha
      · cases h'
    · exact hN _ _ h'
def g_F (ρ : GV) (f : AH → AH) : Prop := (∀ h, g_H ρ (f h) = f (g_H ρ h)) ∧ ∀ h, h.length ≤ (f h).length ∧ ∀ c, c < h.length → g_N c h → g_N c (f h)
theorem g_appN {h : AH} {c : Nat} (hc : c < h.length) (hN : g_N c h) (x : AC) : g_N c (h ++ [x]) := by
  intro t vs h'
  rw [List.getElem?_append_left hc] at h'
  exact hN t vs h'
theorem g_rowN (h : AH) (ty : FieldType) (n : Nat) : g_N h.length (h ++ [a_row ty n]) := by
  intro t vs h'
  rw [List.getElem?_concat_length] at h'
  cases h'
  exact g_tag ty
theorem g_mkL {f : AH → AH} (hf : g_F ρ f) (a : Nat) : ∀ (k i : Nat) (h : AH), a < h.length → g_N a h → g_H ρ (a_mkL f a k i h) = a_mkL f a k i (g_H ρ h) ∧ h.length ≤ (a_mkL f a k i h).length ∧ ∀ c, c < h.length → g_N c h → g_N c (a_mkL f a k i h)
  | 0, i, h, hl, hN => ⟨rfl, Nat.le_refl _, fun c _ h => h⟩
  | k + 1, i, h, hl, hN => by
    obtain ⟨f1, f2⟩ := hf
    obtain ⟨f3, f4⟩ := f2 h
    have hN1 := f4 a hl hN
    obtain ⟨hN2, hl2⟩ := g_setN (a := a) hN1 i h.length
    obtain ⟨r1, r2, r3⟩ := g_mkL ⟨f1, f2⟩ a k (i + 1) (a_setR (f h) a i h.length) (by omega) hN2
    refine ⟨?_, ?_, fun c hc hNc => r3 c (by omega) (g_setN (f4 c hc hNc) i h.length).1⟩
    · show g_H ρ (a_mkL f a k (i + 1) (a_setR (f h) a i h.length)) = a_mkL f a k (i + 1) (a_setR (f (g_H ρ h)) a i (g_H ρ h).length)
      rw [r1, g_setR hN1, f1 h, g_Hlen]
    · show h.length ≤ (a_mkL f a k (i + 1) (a_setR (f h) a i h.length)).length
      omega
theorem g_mk : ∀ (ns : List Nat) (tys : List FieldType), g_F ρ (a_mk tys ns)
  | [], tys => by
    have e : ∀ h, a_mk tys [] h = h := fun h => by rcases tys with _ | ⟨_, _ | ⟨_, _⟩⟩ <;> rfl
    exact ⟨fun h => by rw [e, e], fun h => by rw [e]; exact ⟨Nat.le_refl _, fun c _ h => h⟩⟩
  | [n], [] => ⟨fun h => rfl, fun h => ⟨Nat.le_refl _, fun c _ h => h⟩⟩
  | [n], ty :: tys => by
    have e : ∀ h, a_mk (ty :: tys) [n] h = h ++ [a_row ty n] := fun h => by cases tys <;> rfl
    exact ⟨fun h => by rw [e, e, g_app, g_row], fun h => by rw [e]; exact ⟨by simp, fun c hc hN => g_appN hc hN _⟩⟩
  | n :: n' :: ns, [] => ⟨fun h => rfl, fun h => ⟨Nat.le_refl _, fun c _ h => h⟩⟩
  | n :: n' :: ns, ty :: tys => by
    have hl : ∀ h : AH, (h ++ [a_row ty n]).length = h.length + 1 := fun h => by simp
    refine ⟨fun h => ?_, fun h => ?_⟩
    · show g_H ρ (a_mkL (a_mk tys (n' :: ns)) h.length n 0 (h ++ [a_row ty n])) = a_mkL (a_mk tys (n' :: ns)) (g_H ρ h).length n 0 (g_H ρ h ++ [a_row ty n])
      rw [(g_mkL (g_mk (n' :: ns) tys) h.length n 0 (h ++ [a_row ty n]) (by rw [hl]; omega) (g_rowN h ty n)).1, g_app, g_row, g_Hlen]
    · obtain ⟨-, r2, r3⟩ := g_mkL (ρ := ρ) (g_mk (n' :: ns) tys) h.length n 0 (h ++ [a_row ty n]) (by rw [hl]; omega) (g_rowN h ty n)
      rw [hl] at r2 r3
      exact ⟨Nat.le_trans (Nat.le_succ _) r2, fun c hc hN => r3 c (by omega) (g_appN hc hN _)⟩
theorem g_st6 {own : Nat} {i : Instr} {pc : Nat} {al : AL} {st : List Value} {h : AH} {r : AS} (hr : a_st6 own i pc al st h = some r) : a_st6 own i pc (g_A ρ al) (g_S ρ st) (g_H ρ h) = some (g_R ρ r) := by
  unfold a_st6 at hr
  split at hr
  · split at hr
    · rename_i t hmt
      split at hr
      · rename_i hc
        cases hr
        show (match a_mty own _ with
          | some t => if a_tys (a_comps t) [_, _] = true ∧ _ ∧ _ then _ else _
          | none => none) = _
        rw [hmt]
        dsimp only
        rw [if_pos hc]
        show some (_, _, Value.ref (g_H ρ h).length :: _, _, _, _) = some (_, _, Value.ref h.length :: _, g_H ρ (a_mk _ _ h), _, _)
        rw [g_Hlen, (g_mk _ _).1 h]
      · cases hr
    · cases hr
  · split at hr
    · rename_i t hmt
      split at hr
      · rename_i hc
        cases hr
        show (match a_mty own _ with
          | some t => if a_tys (a_comps t) [_, _, _] = true ∧ _ ∧ _ ∧ _ then _ else _
          | none => none) = _
        rw [hmt]
        dsimp only
        rw [if_pos hc]
        show some (_, _, Value.ref (g_H ρ h).length :: _, _, _, _) = some (_, _, Value.ref h.length :: _, g_H ρ (a_mk _ _ h), _, _)
        rw [g_Hlen, (g_mk _ _).1 h]
      · cases hr
    · cases hr
  · cases hr
theorem g_sw {i : Instr} {pc : Nat} {al : AL} {st : List Value} {h : AH} {r : AS} (hr : a_sw i pc al st h = some r) : a_sw i pc (g_A ρ al) (g_S ρ st) (g_H ρ h) = some (g_R ρ r) := by
  unfold a_sw at hr
  split at hr
  · split at hr
    · rename_i hc
      rw [Option.map_eq_some_iff] at hr
      obtain ⟨t, h1, rfl⟩ := hr
      show (if _ then Option.map _ _ else _) = _
      rw [if_pos hc, h1]; rfl
    · rename_i hc
      rw [Option.bind_eq_some_iff] at hr
      obtain ⟨off, h0, hr⟩ := hr
      rw [Option.map_eq_some_iff] at hr
      obtain ⟨t, h1, rfl⟩ := hr
      show (if _ then _ else Option.bind _ _) = _
      rw [if_neg hc, h0]
      show Option.map _ _ = _
      rw [h1]; rfl
  · cases hr
/-- which stage takes an instruction -/
def a_stage (i : Instr) : Nat := match i with
  | .tableswitch .. => 7
  | .iinc .. | .goto _ | .ifCond .. | .if_icmp .. | .if_acmp .. | .dup | .dup2 | .pop => 1
  | .iconst _ | .bipush _ | .sipush _ | .lconst _ | .fconst _ | .dconst _ => 1
  | .iload _ | .iload_n _ | .lload _ | .lload_n _ | .fload _ | .dload _ | .aload _ | .aload_n _ => 1
  | .istore _ | .istore_n _ | .lstore _ | .lstore_n _ | .fstore _ | .dstore _ | .astore _ | .astore_n _ => 1
  | .arraylength | .ldc _ | .ldc_w _ | .ldc2_w _ | .getfield _ | .putfield _ | .iastore | .bastore | .castore | .lastore | .dastore => 4
  | .i2l | .i2c | .i2f | .i2d | .f2d | .ladd | .lmul | .lcmp | .fdiv | .ddiv | .fcmp _ | .dcmp _ | .iadd | .isub | .imul | .iand | .ior | .idiv | .irem | .ixor | .iushr => 2
  | .iaload | .baload | .caload | .laload | .daload | .aaload => 3
  | .new _ | .newarray _ | .anewarray _ | .aastore | .invokespecial _ | .invokestatic _ => 5
  | .multianewarray .. => 6
  | _ => 0
theorem a_n1 {i : Instr} {pc : Nat} {al : AL} {st : List Value} {h : AH} {r : AS} (hr : a_st1 i pc al st h = some r) : a_stage i = 1 := by
  unfold a_st1 at hr
  split at hr
  · rename_i v hv
    cases i <;> first | rfl | (simp only [a_const] at hv; cases hv; done)
  split at hr
  · rename_i j kd hv
    cases i <;> first | rfl | (simp only [a_load] at hv; cases hv; done)
  split at hr
  · rename_i j kd hv
    cases i <;> first | rfl | (simp only [a_store] at hv; cases hv; done)
  split at hr <;> first | rfl | (cases hr; done)
theorem a_n2 {i : Instr} {pc : Nat} {al : AL} {st : List Value} {h : AH} {r : AS} (hr : a_st2 i pc al st h = some r) : a_stage i = 2 := by
  unfold a_st2 at hr
  split at hr <;> first
    | rfl
    | (cases hr; done)
    | (rw [Option.map_eq_some_iff] at hr
       obtain ⟨v, h1, -⟩ := hr
       unfold a_bin at h1
       split at h1 <;> first | rfl | (cases h1; done))
theorem a_n3 {i : Instr} {pc : Nat} {al : AL} {st : List Value} {h : AH} {r : AS} (hr : a_st3 i pc al st h = some r) : a_stage i = 3 := by
  unfold a_st3 at hr
  split at hr
  · split at hr
    · split at hr
      · rename_i ht
        unfold a_ald at ht
        split at ht <;> first | rfl | (cases ht; done)
      · cases hr
    · cases hr
  · cases hr
theorem a_n4 {own : Nat} {ini : Bool} {i : Instr} {pc : Nat} {al : AL} {st : List Value} {h : AH} {r : AS} (hr : a_st4 own ini i pc al st h = some r) : a_stage i = 4 := by
  unfold a_st4 at hr
  split at hr <;> first
    | rfl
    | (cases hr; done)
    | (split at hr
       · split at hr
         · rename_i hv
           unfold a_ast at hv
           split at hv <;> first | rfl | (cases hv; done)
         · cases hr
       · cases hr)
theorem a_n5 {own : Nat} {i : Instr} {pc : Nat} {al : AL} {st : List Value} {h : AH} {r : AS} (hr : a_st5 own i pc al st h = some r) : a_stage i = 5 := by
  unfold a_st5 at hr
  split at hr <;> first | rfl | (cases hr; done)
theorem a_n6 {own : Nat} {i : Instr} {pc : Nat} {al : AL} {st : List Value} {h : AH} {r : AS} (hr : a_st6 own i pc al st h = some r) : a_stage i = 6 := by
  unfold a_st6 at hr
  split at hr <;> first | rfl | (cases hr; done)
theorem a_n7 {i : Instr} {pc : Nat} {al : AL} {st : List Value} {h : AH} {r : AS} (hr : a_sw i pc al st h = some r) : a_stage i = 7 := by
  unfold a_sw at hr
  split at hr <;> first | rfl | (cases hr; done)
theorem a_opt {α : Type} {o : Option α} (h : ∀ r, o ≠ some r) : o = none := by
  cases o with
  | none => rfl
  | some r => exact absurd rfl (h r)
/-- the stage that takes the instruction takes the step -/
theorem a_by7 {own : Nat} {ini : Bool} {i : Instr} {len pc : Nat} {al : AL} {st : List Value} {h : AH} {r : AS} (hr : a_sw i pc al st h = some r) : a_stp own ini i len pc al st h = some r := by
  unfold a_stp
  rw [hr]
theorem a_by0 {own : Nat} {ini : Bool} {i : Instr} {len pc : Nat} {al : AL} {st : List Value} {h : AH} {r : AS} (hs : a_stage i ≠ 7) (hl : len = a_len i)
    (hr : (match a_st1 i pc al st h with
    | some r => some r
    | none => match a_st4 own ini i pc al st h with
    | some r => some r
    | none => match a_st2 i pc al st h with
    | some r => some r
    | none => match a_st3 i pc al st h with
    | some r => some r
    | none => match a_st5 own i pc al st h with
    | some r => some r
    | none => a_st6 own i pc al st h) = some r) : a_stp own ini i len pc al st h = some r := by
  unfold a_stp
  rw [a_opt (fun r hr => hs (a_n7 hr))]
  dsimp only
  rw [if_pos hl]
  exact hr
theorem a_by1 {own : Nat} {ini : Bool} {i : Instr} {len pc : Nat} {al : AL} {st : List Value} {h : AH} {r : AS} (hl : len = a_len i) (hr : a_st1 i pc al st h = some r) : a_stp own ini i len pc al st h = some r := by
  have e := a_n1 hr
  exact a_by0 (by rw [e]; decide) hl (by rw [hr])
theorem a_by4 {own : Nat} {ini : Bool} {i : Instr} {len pc : Nat} {al : AL} {st : List Value} {h : AH} {r : AS} (hl : len = a_len i) (hr : a_st4 own ini i pc al st h = some r) : a_stp own ini i len pc al st h = some r := by
  have e := a_n4 hr
  refine a_by0 (by rw [e]; decide) hl ?_
  rw [a_opt (o := a_st1 i pc al st h) (fun r hr => by have := a_n1 hr; rw [e] at this; cases this), hr]
theorem a_by2 {own : Nat} {ini : Bool} {i : Instr} {len pc : Nat} {al : AL} {st : List Value} {h : AH} {r : AS} (hl : len = a_len i) (hr : a_st2 i pc al st h = some r) : a_stp own ini i len pc al st h = some r := by
  have e := a_n2 hr
  refine a_by0 (by rw [e]; decide) hl ?_
  rw [a_opt (o := a_st1 i pc al st h) (fun r hr => by have := a_n1 hr; rw [e] at this; cases this), a_opt (o := a_st4 own ini i pc al st h) (fun r hr => by have := a_n4 hr; rw [e] at this; cases this), hr]
theorem a_by3 {own : Nat} {ini : Bool} {i : Instr} {len pc : Nat} {al : AL} {st : List Value} {h : AH} {r : AS} (hl : len = a_len i) (hr : a_st3 i pc al st h = some r) : a_stp own ini i len pc al st h = some r := by
  have e := a_n3 hr
  refine a_by0 (by rw [e]; decide) hl ?_
  rw [a_opt (o := a_st1 i pc al st h) (fun r hr => by have := a_n1 hr; rw [e] at this; cases this), a_opt (o := a_st4 own ini i pc al st h) (fun r hr => by have := a_n4 hr; rw [e] at this; cases this), a_opt (o := a_st2 i pc al st h) (fun r hr => by have := a_n2 hr; rw [e] at this; cases this), hr]
theorem a_by5 {own : Nat} {ini : Bool} {i : Instr} {len pc : Nat} {al : AL} {st : List Value} {h : AH} {r : AS} (hl : len = a_len i) (hr : a_st5 own i pc al st h = some r) : a_stp own ini i len pc al st h = some r := by
  have e := a_n5 hr
  refine a_by0 (by rw [e]; decide) hl ?_
  rw [a_opt (o := a_st1 i pc al st h) (fun r hr => by have := a_n1 hr; rw [e] at this; cases this), a_opt (o := a_st4 own ini i pc al st h) (fun r hr => by have := a_n4 hr; rw [e] at this; cases this), a_opt (o := a_st2 i pc al st h) (fun r hr => by have := a_n2 hr; rw [e] at this; cases this), a_opt (o := a_st3 i pc al st h) (fun r hr => by have := a_n3 hr; rw [e] at this; cases this), hr]
theorem a_by6 {own : Nat} {ini : Bool} {i : Instr} {len pc : Nat} {al : AL} {st : List Value} {h : AH} {r : AS} (hl : len = a_len i) (hr : a_st6 own i pc al st h = some r) : a_stp own ini i len pc al st h = some r := by
  have e := a_n6 hr
  refine a_by0 (by rw [e]; decide) hl ?_
  rw [a_opt (o := a_st1 i pc al st h) (fun r hr => by have := a_n1 hr; rw [e] at this; cases this), a_opt (o := a_st4 own ini i pc al st h) (fun r hr => by have := a_n4 hr; rw [e] at this; cases this), a_opt (o := a_st2 i pc al st h) (fun r hr => by have := a_n2 hr; rw [e] at this; cases this), a_opt (o := a_st3 i pc al st h) (fun r hr => by have := a_n3 hr; rw [e] at this; cases this), a_opt (o := a_st5 own i pc al st h) (fun r hr => by have := a_n5 hr; rw [e] at this; cases this)]
  exact hr
/-- a step that the symbols let be -/
theorem g_stp {own : Nat} {ini : Bool} {i : Instr} {len pc : Nat} {al : AL} {st : List Value} {h : AH} {r : AS} (hr : a_stp own ini i len pc al st h = some r) : a_stp own ini i len pc (g_A ρ al) (g_S ρ st) (g_H ρ h) = some (g_R ρ r) := by
  unfold a_stp at hr
  split at hr
  · rename_i h1; cases hr; exact a_by7 (g_sw h1)
  · split at hr
    · rename_i hl
      split at hr
      · rename_i h1; cases hr; exact a_by1 hl (g_st1 h1)
      · split at hr
        · rename_i h1; cases hr; exact a_by4 hl (g_st4 h1)
        · split at hr
          · rename_i h1; cases hr; exact a_by2 hl (g_st2 h1)
          · split at hr
            · rename_i h1; cases hr; exact a_by3 hl (g_st3 h1)
            · split at hr
              · rename_i h1; cases hr; exact a_by5 hl (g_st5 h1)
              · exact a_by6 hl (g_st6 hr)
    · cases hr
end GN2
