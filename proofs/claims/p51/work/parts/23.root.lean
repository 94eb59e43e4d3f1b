/-! What the Statement gives at the start -/
def a_flat : List Cond := flatC (Jvm.Cond.and given_1 narrow_1)
theorem a_rt_ins : ∀ k, k < 12 → Cond.instantiable (a_cN k) (a_cl k) ∈ lw_tbl := by decide +kernel
theorem a_rt_obj : ∀ C ∈ a_objs, Cond.arrayOver (.object C) ∈ lw_tbl := by decide +kernel
def a_prims : List FieldType := [.int, .boolean, .char]
theorem a_rt_prim : ∀ ty ∈ a_prims, Cond.arrayClass ty ∈ lw_tbl := by decide +kernel
def a_inner : List FieldType := [.int, .boolean]
theorem a_rt_inner : ∀ ty ∈ a_inner, Cond.arrayOver (.array ty) ∈ lw_tbl := by decide +kernel
theorem a_rt_tys : ∀ t, t < 14 → 1 ≤ t → ∀ ty, a_atys[t]? = some ty → ty ∈ a_prims ∨ (∃ C ∈ a_objs, ty = .object C) ∨ ∃ u ∈ a_inner, ty = .array u := by
  intro t h1 h2 ty h
  have key : ∀ k, k < 14 → 1 ≤ k → (match a_atys[k]? with
    | some ty => decide (ty ∈ a_prims) || (a_objs.any (fun C => decide (ty = .object C)) || a_inner.any (fun u => decide (ty = .array u)))
    | none => true) = true := by decide +kernel
  have := key t h1 h2
  rw [h] at this
  simp only [Bool.or_eq_true, decide_eq_true_eq, List.any_eq_true] at this
  rcases this with q | ⟨C, q1, q2⟩ | ⟨u, q1, q2⟩
  · exact Or.inl q
  · exact Or.inr (Or.inl ⟨C, q1, q2⟩)
  · exact Or.inr (Or.inr ⟨u, q1, q2⟩)
theorem a_rt_nc : (a_ncs.all fun q => decide (Cond.not (.castable q.1 q.2) ∈ a_flat)) = true := by decide +kernel
theorem a_rt_st : Cond.laysStatic Bundle.tN "UNASSIGNED_STACK" Bundle.steD ∈ lw_tbl ∧ Cond.laysStatic Bundle.tN "SUPPRESSED_SENTINEL" Bundle.listD ∈ lw_tbl ∧ Cond.initialized Bundle.tN ∈ lw_tbl := by decide +kernel
theorem a_rt_sr : Cond.isRef (.static Bundle.tN "UNASSIGNED_STACK" Bundle.steD) ∈ a_flat ∧ Cond.isRef (.static Bundle.tN "SUPPRESSED_SENTINEL" Bundle.listD) ∈ a_flat := by decide +kernel
theorem a_rt_str : (a_thr.all fun r => decide ((a_chs r.2.2.2.2.2.2.2.2.2.2.1)[r.2.2.2.2.2.2.2.2.2.2.2]? = some (.stringRef (a_cN r.2.2.1) r.2.2.2.2.1 r.2.2.2.2.2.2.2.2.1))) = true := by decide +kernel
theorem a_rt_exa : (a_thr.all fun r => decide (Cond.exactly (.string (a_cN r.2.2.1) r.2.2.2.2.1) "java/lang/String" ∈ a_flat)) = true := by decide +kernel
theorem a_ng_tab {w : Cond} (h : a_ng w = true) : w.onTables = true := by
  cases w <;> first
    | rfl
    | cases h
theorem a_root {s : State} {b : Nat} {tS : Nat} (hts : ∀ w ∈ lw_tbl, w.before #[Value.ref b] s = true) (hgv : (Jvm.Cond.and given_1 narrow_1).before #[Value.ref b] s = true) (hS : ∃ (kA : Class) (comp : ClassId), s.vm.classes[tS]? = some kA ∧ kA.kind = .array comp .int) : ∃ D : AD, a_K D s.heap.size s ∧ D.2.2 19 = tS := by
  have hfl : ∀ w ∈ a_flat, w.before #[Value.ref b] s = true := flat_of_before _ hgv
  have hC : ∀ k, ∃ (cC : ClassId) (iS : Nat → Nat), k < 12 → u_Kn s (a_cN k) (a_cT k) (a_cl k) cC iS := by
    intro k
    by_cases hk : k < 12
    · obtain ⟨cC, iS, h⟩ := u_known (n := a_cl k) hts (fun w hw => (a_wsC_ok k hk w hw).1) (hts _ (a_rt_ins k hk))
      exact ⟨cC, iS, fun _ => h⟩
    · exact ⟨0, fun _ => 0, fun h => absurd h hk⟩
  have hA : ∀ t, ∃ cA : ClassId, (t = 19 → cA = tS) ∧ ∀ ty, 20 ≤ t → a_aty t = some ty → s.vm.findClass ("[" ++ ty.toString) = some cA ∧ ∃ (kA : Class) (comp : ClassId), s.vm.classes[cA]? = some kA ∧ kA.kind = .array comp ty ∧ (∀ C, ty = .object C → s.vm.findClass C = some comp) ∧ ∀ t', ty = .array t' → s.vm.findClass ("[" ++ t'.toString) = some comp := by
    intro t
    by_cases h19 : t = 19
    · exact ⟨tS, fun _ => rfl, fun ty h _ => by omega⟩
    · cases hty : a_aty t with
      | none => exact ⟨0, fun h => absurd h h19, fun ty _ h => by cases h⟩
      | some ty =>
        have hge := a_aty_ge hty
        have hty2 : a_atys[t - 19]? = some ty := by
          unfold a_aty at hty
          rw [if_neg (by omega)] at hty
          exact hty
        have hlt : t - 19 < 14 := (List.getElem?_eq_some_iff.mp hty2).1
        rcases a_rt_tys (t - 19) hlt (by omega) ty hty2 with q | ⟨C, q1, rfl⟩ | ⟨u, q1, rfl⟩
        · obtain ⟨cA, kA, comp, f1, f2, f3⟩ := Cond.arrayClass_spec (hts _ (a_rt_prim ty q))
          refine ⟨cA, fun h => absurd h h19, fun ty' _ h => ?_⟩
          cases h
          refine ⟨f1, kA, comp, f2, f3, fun C hC => ?_, fun t' hC => ?_⟩
          · subst hC; simp [a_prims] at q
          · subst hC; simp [a_prims] at q
        · obtain ⟨comp, cA, kA, f0, -, f2, f3, f1⟩ := Cond.arrayOver_spec (hts _ (a_rt_obj C q1))
          refine ⟨cA, fun h => absurd h h19, fun ty' _ h => ?_⟩
          cases h
          refine ⟨f1, kA, comp, f2, f3, fun C' hC => ?_, fun t' hC => by cases hC⟩
          cases hC
          exact f0
        · obtain ⟨comp, cA, kA, f0, -, f2, f3, f1⟩ := arrayOverA_spec (hts _ (a_rt_inner u q1))
          refine ⟨cA, fun h => absurd h h19, fun ty' _ h => ?_⟩
          cases h
          refine ⟨f1, kA, comp, f2, f3, (fun C' hC => by cases hC), fun t' hC => ?_⟩
          cases hC
          exact f0
  refine ⟨(fun k => Classical.choose (hC k), fun k => Classical.choose (Classical.choose_spec (hC k)), fun t => Classical.choose (hA t)), ⟨fun k hk => Classical.choose_spec (Classical.choose_spec (hC k)) hk, fun t ty hty => ?_, fun t ty h20 hty => (Classical.choose_spec (hA t)).2 ty h20 hty, ⟨fun w hw g => va_Nw.of (a_ng_tab g) (hts w hw), fun C hC' => va_AO.of (hts _ (a_rt_obj C hC'))⟩, fun q hq => va_Nc.of (hfl _ (of_decide_eq_true (List.all_eq_true.mp a_rt_nc q hq))), fun r hr => ?_, ?_, ?_⟩, (Classical.choose_spec (hA 19)).1 rfl⟩
  · by_cases h19 : t = 19
    · subst h19
      have hty' : ty = .int := by
        have : a_aty 19 = some .int := by decide +kernel
        rw [this] at hty
        exact (Option.some.inj hty).symm
      subst hty'
      show ∃ (kA : Class) (comp : ClassId), s.vm.classes[Classical.choose (hA 19)]? = some kA ∧ _
      rw [(Classical.choose_spec (hA 19)).1 rfl]
      exact hS
    · have h20 : 20 ≤ t := by have := a_aty_ge hty; omega
      obtain ⟨-, kA, comp, g1, g2, -⟩ := (Classical.choose_spec (hA t)).2 ty h20 hty
      exact ⟨kA, comp, g1, g2⟩
  · have h1 := hts _ (a_chs_in (List.mem_of_getElem? (of_decide_eq_true (List.all_eq_true.mp a_rt_str r hr))))
    obtain ⟨a, -, -, -, h2, -⟩ := Cond.exactly_spec (hfl _ (of_decide_eq_true (List.all_eq_true.mp a_rt_exa r hr)))
    exact ⟨a, vk_R.of h1 h2⟩
  · exact vx_Zqof (hts _ a_rt_st.1) (hts _ a_rt_st.2.2) (hfl _ a_rt_sr.1) (fun a h1 h2 => absurd h2 (Nat.not_le.mpr h1))
  · exact vx_Zqof (hts _ a_rt_st.2.1) (hts _ a_rt_st.2.2) (hfl _ a_rt_sr.2) (fun a h1 h2 => absurd h2 (Nat.not_le.mpr h1))
