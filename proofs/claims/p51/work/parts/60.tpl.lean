/-! Instances: how a template's symbols are found, and what is checked -/
/-- symbols, facts, constraints of a template -/
abbrev BP : Type := BQ × BF × BC
/-- the symbols' values so far -/
abbrev BI : Type := List (Option BV)
def b_bd (σ : BI) (p b : BV) : BI := if (p.1 = 1 ∨ p.1 = 3) ∧ p.2.2 = 0 then (match σ[p.2.1]? with
  | some none => σ.set p.2.1 (some b)
  | _ => σ) else σ
def b_tot (σ : BI) : Option (List BV) := match σ with
  | [] => some []
  | some b :: l => (b_tot l).map fun r => b :: r
  | none :: _ => none
def b_get (σ : BI) : List BV := σ.map fun o => o.getD (9, 0, 0)
/-- locals or arguments against those of a template -/
def b_bdL (σ : BI) : BL → BL → BI
  | some p :: ps, some b :: bs => b_bdL (b_bd σ p b) ps bs
  | _ :: ps, _ :: bs => b_bdL σ ps bs
  | _, _ => σ
/-- facts against those of a template (its symbols' own: TE) -/
def b_bdF (K : BH) (E TE : BQ) (σ : BI) (F : BF) : BF → BI
  | [] => σ
  | f :: fs => match b_sb (b_get σ) f.1 with
    | some base => (match (F.find? fun g => g.1 == base && (((f.2.1.1 == 1 && (σ[f.2.1.2.1]?.getD none).isNone) || b_sb (b_get σ) f.2.1 == some g.2.1) && (!(f.2.2.1 == 1 && (σ[f.2.2.2.1]?.getD none).isNone) || (match TE[f.2.2.2.1]? with
        | some q => b_okq K E g.2.2 q
        | none => false)))) with
      | some g => b_bdF K E TE (b_bd (b_bd σ f.2.1 g.2.1) f.2.2 g.2.2) F fs
      | none => b_bdF K E TE σ F fs)
    | none => b_bdF K E TE σ F fs
/-- x is at most y plus c, for what is known -/
def b_leq (G : BG) (x y : BV) (c : Int) : Bool :=
  (x.1 == 0 && (y.1 == 0 && decide (x.2.2 ≤ y.2.2 + c))) ||
  ((x.1 == 1 && (y.1 == 1 && (x.2.1 == y.2.1 && decide (x.2.2 ≤ y.2.2 + c)))) ||
  ((x.1 == 1 && (y.1 == 1 && (G.2.2.1.any fun d => d.1 == x.2.1 && ((d.2.1 == y.2.1 && decide (x.2.2 + d.2.2 ≤ y.2.2 + c)) || G.2.2.1.any fun d' => d'.1 == d.2.1 && (d'.2.1 == y.2.1 && decide (x.2.2 + d.2.2 + d'.2.2 ≤ y.2.2 + c)))))) ||
  ((match (if x.1 = 0 then some x.2.2 else if x.1 = 1 then (match G.1[x.2.1]? with
    | some (0, _, hi) => some (hi + x.2.2)
    | _ => none) else none), (if y.1 = 0 then some y.2.2 else if y.1 = 1 then (match G.1[y.2.1]? with
    | some (0, lo, _) => some (lo + y.2.2)
    | _ => none) else none) with
  | some u, some w => decide (u ≤ w + c)
  | _, _ => false))))
def b_allq (K : BH) (E : BQ) : List BV → BQ → Bool
  | b :: bs, q :: qs => b_okq K E b q && b_allq K E bs qs
  | [], [] => true
  | _, _ => false
/-- an instance of a template -/
def b_inst (K : BH) (σ : List BV) (T : BP) (G : BG) : Bool := b_allq K G.1 σ T.1 &&
  ((T.2.1.all fun f => match b_sb σ f.1, b_sb σ f.2.1, b_sb σ f.2.2 with
    | some x, some y, some z => G.2.1.contains (x, y, z)
    | _, _, _ => false) &&
  T.2.2.all fun c => match σ[c.1]?, σ[c.2.1]? with
    | some x, some y => b_leq G x y c.2.2
    | _, _ => false)
def b_locs (σ : List BV) : BL → BL → Bool
  | none :: ps, _ :: bs => b_locs σ ps bs
  | some p :: ps, some b :: bs => b_sb σ p == some b && b_locs σ ps bs
  | [], [] => true
  | _, _ => false
section BI
variable {K : BH} {ν : BN} {h0 h : AH} {G : BG}
theorem b_leq_ok (g : b_G K ν h0 h G) {x y : BV} {c : Int} (hl : b_leq G x y c = true) : b_vl ν x ≤ b_vl ν y + c := by
  unfold b_leq at hl
  rw [Bool.or_eq_true, Bool.or_eq_true, Bool.or_eq_true] at hl
  have v0 : ∀ b : BV, b.1 = 0 → b_vl ν b = b.2.2 := fun b e => by unfold b_vl; rw [if_pos e]
  have v1 : ∀ b : BV, b.1 = 1 → b_vl ν b = ν b.2.1 + b.2.2 := fun b e => by unfold b_vl; rw [if_neg (by omega), if_pos e]
  rcases hl with h | h | h | h
  · simp only [Bool.and_eq_true, beq_iff_eq, decide_eq_true_eq] at h
    rw [v0 x h.1, v0 y h.2.1]
    exact h.2.2
  · simp only [Bool.and_eq_true, beq_iff_eq, decide_eq_true_eq] at h
    rw [v1 x h.1, v1 y h.2.1, h.2.2.1]
    omega
  · simp only [Bool.and_eq_true, beq_iff_eq] at h
    obtain ⟨d, d1, d2⟩ := List.any_eq_true.mp h.2.2
    rw [Bool.and_eq_true, beq_iff_eq, Bool.or_eq_true] at d2
    obtain ⟨d2, d4⟩ := d2
    have d3 := (g.2.2.1 d d1).2.2
    rw [d2] at d3
    rw [v1 x h.1, v1 y h.2.1]
    rcases d4 with d4 | d4
    · simp only [Bool.and_eq_true, beq_iff_eq, decide_eq_true_eq] at d4
      rw [d4.1] at d3
      omega
    · obtain ⟨d', e1, e2⟩ := List.any_eq_true.mp d4
      simp only [Bool.and_eq_true, beq_iff_eq, decide_eq_true_eq] at e2
      have e3 := (g.2.2.1 d' e1).2.2
      rw [e2.1, e2.2.1] at e3
      omega
  · split at h
    · rename_i u w hu hw
      have h := of_decide_eq_true h
      have ku : b_vl ν x ≤ u := by
        split at hu
        · rename_i e
          cases hu
          rw [v0 x e]; exact Int.le_refl _
        · split at hu
          · rename_i e
            split at hu
            · rename_i hi he
              cases hu
              have k := g.1 _ _ he
              unfold b_q at k
              rw [if_pos rfl] at k
              dsimp only at k
              rw [v1 x e]
              omega
            · cases hu
          · cases hu
      have kw : w ≤ b_vl ν y := by
        split at hw
        · rename_i e
          cases hw
          rw [v0 y e]; exact Int.le_refl _
        · split at hw
          · rename_i e
            split at hw
            · rename_i lo _ he
              cases hw
              have k := g.1 _ _ he
              unfold b_q at k
              rw [if_pos rfl] at k
              dsimp only at k
              rw [v1 y e]
              omega
            · cases hw
          · cases hw
      omega
    · cases h
theorem b_allq_ok {E : BQ} (hs : b_sat K E ν) : ∀ {σ : List BV} {Q : BQ}, b_allq K E σ Q = true → σ.length = Q.length ∧ ∀ (n : Nat) (b : BV) (q : Nat × Int × Int), σ[n]? = some b → Q[n]? = some q → b_okq K E b q = true
  | [], [], h => ⟨rfl, fun n b q hb => by cases hb⟩
  | b :: bs, q :: qs, h => by
    rw [b_allq, Bool.and_eq_true] at h
    obtain ⟨k1, k2⟩ := b_allq_ok hs h.2
    refine ⟨by rw [List.length_cons, List.length_cons, k1], fun n b' q' hb hq => ?_⟩
    cases n with
    | zero => cases hb; cases hq; exact h.1
    | succ n => exact k2 n b' q' hb hq
  | [], q :: qs, h => by cases h
  | b :: bs, [], h => by cases h
theorem b_inst_ok (g : b_G K ν h0 h G) {σ : List BV} {T : BP} (hi : b_inst K σ T G = true) : σ.length = T.1.length ∧ b_lt G.1.length σ ∧ b_sat K T.1 (b_vT σ ν) ∧ (∀ f ∈ T.2.1, b_fa T.1.length (b_vT σ ν) h f) ∧ ∀ c ∈ T.2.2, b_co T.1.length (b_vT σ ν) c := by
  unfold b_inst at hi
  rw [Bool.and_eq_true, Bool.and_eq_true] at hi
  obtain ⟨i1, i2, i3⟩ := hi
  obtain ⟨l1, l2⟩ := b_allq_ok g.1 i1
  have get : ∀ (n : Nat) (b : BV), σ[n]? = some b → ∃ q, T.1[n]? = some q ∧ b_okq K G.1 b q = true := fun n b hb => by
    have hn : n < T.1.length := by rw [← l1]; exact b_at_lt hb
    exact ⟨_, List.getElem?_eq_getElem hn, l2 n b _ hb (List.getElem?_eq_getElem hn)⟩
  refine ⟨l1, fun n b hb => ?_, fun n q hq => ?_, fun f hf => ?_, fun c hc => ?_⟩
  · obtain ⟨q, q1, q2⟩ := get n b hb
    exact (b_okq_ok g.1 q2).2
  · have hn : n < σ.length := by rw [l1]; exact (List.getElem?_eq_some_iff.mp hq).1
    have hb := List.getElem?_eq_getElem hn
    rw [b_vT_at hb]
    exact (b_okq_ok g.1 (l2 n _ q hb hq)).1
  · have := List.all_eq_true.mp i2 f hf
    split at this
    · rename_i x y z hx hy hz
      have hm : (x, y, z) ∈ G.2.1 := by simpa using this
      obtain ⟨a, t, vs, k1, k2, k3⟩ := g.2.1 _ hm
      rw [← l1]
      have f1 : f.1.1 = 2 ∨ f.1.1 = 3 := by
        have k1 : b_r G.1.length ν x a := k1
        have e : x.1 = 2 ∨ x.1 = 3 := by rcases k1 with ⟨e, -⟩ | ⟨e, -⟩ <;> omega
        unfold b_sb at hx
        split at hx
        · split at hx <;> cases hx <;> (exfalso; dsimp only at e; omega)
        · rename_i e3; exact Or.inr e3
        · split at hx <;> cases hx <;> (exfalso; dsimp only at e; omega)
        · cases hx; exact e
      refine ⟨a, t, vs, b_sb_r hx f1 k1, k2, ?_⟩
      by_cases e9 : f.2.1.1 = 9
      · rw [if_pos e9]
        have ey : y = f.2.1 := by
          unfold b_sb at hy
          rw [e9] at hy
          cases hy; rfl
        rw [if_pos (by show y.1 = 9; rw [ey]; exact e9)] at k3
        have hk : f.2.2.1 < 2 := by
          have e : z.1 < 2 := by
            have k3 : b_i G.1.length ν z _ := k3
            rcases k3 with ⟨e, -⟩ | ⟨e, -⟩ <;> omega
          unfold b_sb at hz
          split at hz
          · rename_i e3; omega
          · split at hz <;> cases hz <;> (exfalso; dsimp only at e; omega)
          · split at hz <;> cases hz <;> (exfalso; dsimp only at e; omega)
          · cases hz; exact e
        exact b_sb_i hz hk k3
      · rw [if_neg e9]
        have hy9 : ¬ y.1 = 9 := by
          intro q
          unfold b_sb at hy
          split at hy
          · split at hy <;> cases hy <;> (dsimp only at q; omega)
          · split at hy <;> cases hy <;> (dsimp only at q; omega)
          · split at hy <;> cases hy <;> (dsimp only at q; omega)
          · cases hy; exact e9 q
        rw [if_neg hy9] at k3
        obtain ⟨j, v, m1, m2, m3⟩ := k3
        have hk : f.2.1.1 < 2 := by
          have e : y.1 < 2 := by rcases m1 with ⟨e, -⟩ | ⟨e, -⟩ <;> (have e : y.1 = _ := e; omega)
          unfold b_sb at hy
          split at hy
          · rename_i e3; omega
          · split at hy <;> cases hy <;> (exfalso; dsimp only at e; omega)
          · split at hy <;> cases hy <;> (exfalso; dsimp only at e; omega)
          · cases hy; exact e
        exact ⟨j, v, b_sb_i hy hk m1, m2, b_sb_v hz m3⟩
    · cases this
  · have := List.all_eq_true.mp i3 c hc
    split at this
    · rename_i x y hx hy
      rw [← l1]
      refine ⟨b_at_lt hx, b_at_lt hy, ?_⟩
      rw [b_vT_at hx, b_vT_at hy]
      exact b_leq_ok g this
    · cases this
theorem b_locs_ok {σ : List BV} {N : Nat} : ∀ {ps bl : BL} {al : AL}, b_locs σ ps bl = true → b_L N ν bl al → b_L σ.length (b_vT σ ν) ps al := by
  intro ps bl al hl h
  have key : ∀ (ps bl : BL), b_locs σ ps bl = true → ps.length = bl.length ∧ ∀ (i : Nat) (p : BV), ps[i]? = some (some p) → ∃ b, bl[i]? = some (some b) ∧ b_sb σ p = some b := by
    intro ps
    induction ps with
    | nil =>
      intro bl hb
      cases bl with
      | nil => exact ⟨rfl, fun i p hp => by cases hp⟩
      | cons b bs => cases hb
    | cons p ps ih =>
      intro bl hb
      cases bl with
      | nil => cases p <;> cases hb
      | cons b bs =>
        cases p with
        | none =>
          obtain ⟨k1, k2⟩ := ih bs hb
          refine ⟨by rw [List.length_cons, List.length_cons, k1], fun i p hp => ?_⟩
          cases i with
          | zero => cases hp
          | succ i => exact k2 i p hp
        | some p =>
          cases b with
          | none => cases hb
          | some b =>
            rw [b_locs, Bool.and_eq_true, beq_iff_eq] at hb
            obtain ⟨k1, k2⟩ := ih bs hb.2
            refine ⟨by rw [List.length_cons, List.length_cons, k1], fun i p' hp => ?_⟩
            cases i with
            | zero => cases hp; exact ⟨b, rfl, hb.1⟩
            | succ i => exact k2 i p' hp
  obtain ⟨k1, k2⟩ := key ps bl hl
  refine ⟨k1.trans h.1, fun i p hp => ?_⟩
  obtain ⟨b, b1, b2⟩ := k2 i p hp
  obtain ⟨v, v1, v2⟩ := h.2 i b b1
  exact ⟨v, v1, b_sb_v b2 v2⟩
end BI
