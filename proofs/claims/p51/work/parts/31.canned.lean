/-! A run that uses the results of earlier runs: (method, the object, the heap behind the first cell before and after, cells, slots) -/
abbrev XE : Type := Nat × Nat × AH × AH × Nat × Nat
def x_vp (v : Value) : Bool := match v with
  | .retAddr _ => false
  | _ => true
def x_pure (h : AH) : Bool := h.all fun x => !(Nat.beq x.1 99) && x.2.all x_vp
noncomputable def x_call (tab : List XE) (c : SE → Nat → List Value → AH → Option (List (SE × AR))) (E : SE) (mt : Nat) (as : List Value) (h : AH) : Option (List (SE × AR)) := match h with
  | [] => c E mt as []
  | c0 :: t => match tab.find? (fun e => Nat.beq e.1 mt && Nat.beq e.2.2.1.length t.length) with
    | some e => if as = [.ref e.2.1] ∧ t = e.2.2.1 then some [(E, .inl none, c0 :: e.2.2.2.1, e.2.2.2.2.1, e.2.2.2.2.2)] else none
    | none => c E mt as (c0 :: t)
def x_P (d F : Nat) (e : XE) : Prop := (x_pure e.2.2.1 = true ∧ x_pure e.2.2.2.1 = true) ∧ ∀ c0 : AC, a_run d F e.1 [.ref e.2.1] (c0 :: e.2.2.1) = some (.inl none, c0 :: e.2.2.2.1, e.2.2.2.2.1, e.2.2.2.2.2)
noncomputable def x_run (tab : List XE) (d F : Nat) (E : SE) (mi : Nat) (as : List Value) (h : AH) : Option (List (SE × AR)) := if as.length = a_nrg mi ∧ as.length ≤ a_mxl mi ∧ (as.all fun v => v.category == 1) = true then t_go (x_call tab (t_run d F)) mi (a_codeL mi) (t_hint mi) F E 0 [] [] (a_args mi as) [] h 0 0 else none
section XR
variable {ρ : GV}
theorem x_pure_g {h : AH} (hp : x_pure h = true) : g_H ρ h = h := by
  unfold g_H
  conv => rhs; rw [← List.map_id h]
  refine List.map_congr_left fun x hx => ?_
  have h1 := List.all_eq_true.mp hp x hx
  rw [Bool.and_eq_true] at h1
  have h2 : ¬ x.1 = 99 := by
    intro e
    rw [e] at h1
    exact absurd h1.1 (by decide)
  unfold g_c
  rw [if_neg h2]
  have h3 : x.2.map (g_v ρ) = x.2 := by
    conv => rhs; rw [← List.map_id x.2]
    refine List.map_congr_left fun v hv => ?_
    have h4 := List.all_eq_true.mp h1.2 v hv
    cases v <;> first | rfl | (cases h4; done)
  rw [h3]; rfl
theorem x_call_ok (hρ : s_fix ρ) {tab : List XE} {d F : Nat} (ht : ∀ e ∈ tab, x_P d F e) (E : SE) (mt : Nat) (as : List Value) (h : AH) (outs : List (SE × AR)) (hr : x_call tab (t_run d F) E mt as h = some outs) (hs : s_sat E ρ) : ∃ o ∈ outs, s_sat o.1 ρ ∧ a_run d F mt (g_S ρ as) (g_H ρ h) = some (g_r ρ o.2) := by
  unfold x_call at hr
  split at hr
  · exact t_run_ok hρ d F E mt as [] outs hr hs
  · rename_i c0 t
    split at hr
    · rename_i e he
      split at hr
      · rename_i hc
        cases hr
        obtain ⟨⟨p1, p2⟩, p3⟩ := ht e (List.mem_of_find?_eq_some he)
        have h1 := List.find?_some he
        rw [Bool.and_eq_true] at h1
        have h2 := t_beq h1.1
        refine ⟨_, List.mem_cons_self, hs, ?_⟩
        rw [hc.1, hc.2, ← h2]
        have e1 : g_H ρ (c0 :: e.2.2.1) = g_c ρ c0 :: e.2.2.1 := by
          show g_c ρ c0 :: g_H ρ e.2.2.1 = _
          rw [x_pure_g p1]
        have e2 : g_H ρ (c0 :: e.2.2.2.1) = g_c ρ c0 :: e.2.2.2.1 := by
          show g_c ρ c0 :: g_H ρ e.2.2.2.1 = _
          rw [x_pure_g p2]
        rw [e1]
        show a_run d F e.1 [.ref e.2.1] _ = some (.inl none, g_H ρ (c0 :: e.2.2.2.1), _, _)
        rw [e2]
        exact p3 _
      · cases hr
    · exact t_run_ok hρ d F E mt as _ outs hr hs
theorem x_run_ok (hρ : s_fix ρ) {tab : List XE} {d F : Nat} (ht : ∀ e ∈ tab, x_P d F e) {E : SE} {mi : Nat} {as : List Value} {h : AH} {outs : List (SE × AR)} (hr : x_run tab d F E mi as h = some outs) (hs : s_sat E ρ) : ∃ o ∈ outs, s_sat o.1 ρ ∧ a_run (d + 1) F mi (g_S ρ as) (g_H ρ h) = some (g_r ρ o.2) := by
  unfold x_run at hr
  split at hr
  · rename_i hc
    obtain ⟨o, ho, hs2, h2⟩ := t_go_ok hρ (x_call_ok hρ ht) (fun e he => he) F E 0 [] [] (a_args mi as) [] h 0 0 outs (fun e he => absurd he List.not_mem_nil) hr hs
    refine ⟨o, ho, hs2, ?_⟩
    have hc2 : (g_S ρ as).length = a_nrg mi ∧ (g_S ρ as).length ≤ a_mxl mi ∧ ((g_S ρ as).all fun v => v.category == 1) = true := by
      refine ⟨by rw [g_Slen]; exact hc.1, by rw [g_Slen]; exact hc.2.1, ?_⟩
      rw [List.all_eq_true]
      intro v hv
      obtain ⟨u, hu, rfl⟩ := List.mem_map.mp hv
      rw [g_cat]
      exact List.all_eq_true.mp hc.2.2 u hu
    show (if _ then _ else _) = _
    rw [if_pos hc2, ← g_args]
    exact h2
  · cases hr
end XR
def x_rv (c0 : AC) : GV := (fun _ => 0, c0)
theorem x_rv_fix (c0 : AC) : s_fix (x_rv c0) := fun n _ => ⟨show (0 : Int32) = s_i2c 0 by decide, show (0 : Int32) = 0 &&& 63 by decide⟩
def x_is (o : Option (List (SE × AR))) (h : AH) (mc ms : Nat) : Bool := match o with
  | some [([], .inl none, (99, []) :: t, c, s)] => decide (t = h) && (Nat.beq c mc && Nat.beq s ms)
  | _ => false
theorem x_is_eq {o : Option (List (SE × AR))} {h : AH} {mc ms : Nat} (hx : x_is o h mc ms = true) : o = some [([], .inl none, (99, []) :: h, mc, ms)] := by
  unfold x_is at hx
  split at hx
  · rw [Bool.and_eq_true, Bool.and_eq_true, decide_eq_true_eq] at hx
    rw [hx.1, t_beq hx.2.1, t_beq hx.2.2]
  · cases hx
/-- a run gives an entry of the next table -/
theorem x_entry {tab : List XE} {d F mt a mc ms : Nat} {tin tout : AH} (ht : ∀ e ∈ tab, x_P d F e) (h1 : x_pure tin = true) (h2 : x_pure tout = true) (hx : x_is (x_run tab d F [] mt [.ref a] ((99, []) :: tin)) tout mc ms = true) : x_P (d + 1) F (mt, a, tin, tout, mc, ms) := by
  have hr := x_is_eq hx
  refine ⟨⟨h1, h2⟩, fun c0 => ?_⟩
  obtain ⟨o, ho, -, h⟩ := x_run_ok (x_rv_fix c0) ht hr (fun k S hk => by cases hk)
  cases List.mem_singleton.mp ho
  have e1 : ∀ t, x_pure t = true → g_H (x_rv c0) ((99, []) :: t) = c0 :: t := by
    intro t hp
    show g_c (x_rv c0) (99, []) :: g_H (x_rv c0) t = _
    rw [x_pure_g hp]; rfl
  rw [e1 tin h1] at h
  rw [show g_S (x_rv c0) [.ref a] = [.ref a] from rfl] at h
  refine h.trans ?_
  show some ((Sum.inl none : Option Value ⊕ Nat), g_H (x_rv c0) ((99, []) :: tout), mc, ms) = _
  rw [e1 tout h2]
