/-! A stretch of a method, from one place to others: the rule that a proof by hand uses -/
/-- an outcome: an end, or a place with its locals and stack; what is known of more symbols then; cells and slots made -/
abbrev BSo : Type := (BE ⊕ (Nat × BL × List BV)) × BP × (Nat × Nat)
/-- (method, place), the start, what may be written, the outcomes -/
abbrev BSg : Type := (Nat × Nat) × (BL × List BV × BP) × BW × List BSo
def b_sgo (K : BH) (E0 : BQ) (W : BW) (p : BSo) (o : BY) : Bool := decide (o.2.2 = p.2.2) && (b_subW o.2.1.2.2.2.2 W && match p.1, o.1 with
  | .inl k, .inl q => (match b_tot (b_bdF K o.2.1.1 (E0 ++ p.2.1.1) (b_bdK (b_i0 E0 p.2.1.1.length) k q) o.2.1.2.1 p.2.1.2.1) with
    | some σ => decide (σ.take E0.length = b_id E0) && (decide (b_sbE σ k = some q) && b_inst K σ (E0 ++ p.2.1.1, p.2.1.2) o.2.1)
    | none => false)
  | .inr (pc, bl, bs), .inr (pc', bl', bs') => decide (pc = pc') && (match b_tot (b_bdF K o.2.1.1 (E0 ++ p.2.1.1) (b_bdL (b_bdL (b_i0 E0 p.2.1.1.length) bl bl') (bs.map some) (bs'.map some)) o.2.1.2.1 p.2.1.2.1) with
    | some σ => decide (σ.take E0.length = b_id E0) && (b_locs σ bl bl' && (b_locs σ (bs.map some) (bs'.map some) && b_inst K σ (E0 ++ p.2.1.1, p.2.1.2) o.2.1))
    | none => false)
  | _, _ => false)
noncomputable def b_sgc (K : BH) (cB : BK) (S : BSg) (cuts : List Nat) (F : Nat) : Bool := match b_ex K cB cuts S.1.1 F true S.1.2 S.2.1.1 S.2.1.2.1 (S.2.1.2.2.1, S.2.1.2.2.2.1, S.2.1.2.2.2.2, [], []) 0 0 with
  | some L => L.all fun o => S.2.2.2.any fun p => b_sgo K S.2.1.2.2.1 S.2.2.1 p o
  | none => false
section SG
variable {K : BH} {ν : BN} {h0 h : AH} {G : BG}
def b_sgq (d mi pc : Nat) (al : AL) (st : List Value) (h : AH) (mc ms : Nat) (N : Nat) (ν' : BN) (h' : AH) (p : BSo) : Prop := match p.1 with
  | .inl k => ∃ r, b_R d mi pc al st h mc ms r ∧ b_fin N ν' k r.1 ∧ r.2.1 = h' ∧ r.2.2 = (mc + p.2.2.1, ms + p.2.2.2)
  | .inr (pc', bl', bs') => ∃ al' st', b_L N ν' bl' al' ∧ b_S N ν' bs' st' ∧ ∀ r, b_R d mi pc' al' st' h' (mc + p.2.2.1) (ms + p.2.2.2) r → b_R d mi pc al st h mc ms r
theorem b_sgo_ok {d mi pc mc ms : Nat} {E0 : BQ} {W : BW} {p : BSo} {o : BY} {N : Nat} {al : AL} {st : List Value} {hs : AH} (hN : E0.length = N) (ho : b_sgo K E0 W p o = true) (k : b_Ok K d mi pc ν h0 N al st hs mc ms mc ms o) : ∃ ν' h', b_ext E0.length (E0 ++ p.2.1.1).length ν ν' ∧ b_G K ν' h0 h' (E0 ++ p.2.1.1, p.2.1.2.1, p.2.1.2.2, [], W) ∧ b_sgq d mi pc al st hs mc ms (E0 ++ p.2.1.1).length ν' h' p := by
  subst hN
  unfold b_sgo at ho
  rw [Bool.and_eq_true, decide_eq_true_eq, Bool.and_eq_true] at ho
  obtain ⟨ho1, ho2, ho3⟩ := ho
  obtain ⟨ν1, x1, k⟩ := k
  have inst : ∀ {σ : List BV} {h' : AH}, b_G K ν1 h0 h' o.2.1 → σ.take E0.length = b_id E0 → b_inst K σ (E0 ++ p.2.1.1, p.2.1.2) o.2.1 = true → σ.length = (E0 ++ p.2.1.1).length ∧ b_ext E0.length (E0 ++ p.2.1.1).length ν (b_vT σ ν1) ∧ b_G K (b_vT σ ν1) h0 h' (E0 ++ p.2.1.1, p.2.1.2.1, p.2.1.2.2, [], W) := by
    intro σ h' g s1 s3
    obtain ⟨i1, i2, i3, i4, i5⟩ := b_inst_ok g s3
    have i1 : σ.length = (E0 ++ p.2.1.1).length := i1
    have x := b_id_ext (ν := ν1) (by rw [i1, List.length_append]; exact Nat.le_add_right _ _) s1
    rw [i1] at x
    exact ⟨i1, ⟨x.1, fun n hn => (x.2 n hn).trans (x1.2 n hn)⟩, i3, i4, i5, (fun o ho => by cases ho), g.2.2.2.2.1, g.2.2.2.2.2.mono (b_subW_ok ho2)⟩
  rcases k with ⟨q, r, q1, q2, q3, q4, q5, q6⟩ | ⟨pc', bl', bs', al', st', h', mc', ms', q1, q2, q3, q4, q5, q6, q7⟩
  · rw [q1] at ho3
    cases hp : p.1 with
    | inr z => rw [hp] at ho3; cases ho3
    | inl k =>
      rw [hp] at ho3
      dsimp only at ho3
      split at ho3
      · rename_i σ hσ
        rw [Bool.and_eq_true, decide_eq_true_eq, Bool.and_eq_true, decide_eq_true_eq] at ho3
        obtain ⟨s1, s2, s3⟩ := ho3
        obtain ⟨i1, x, g⟩ := inst q4 s1 s3
        refine ⟨b_vT σ ν1, r.2.1, x, g, ?_⟩
        unfold b_sgq
        rw [hp]
        refine ⟨r, q2, ?_, rfl, ?_⟩
        · rw [← i1]
          cases k with
          | inl o' =>
            cases o' with
            | none =>
              cases s2
              cases hr : r.1 with
              | inl v => rw [hr] at q3; cases v <;> exact q3
              | inr v => rw [hr] at q3; exact q3
            | some b =>
              have s2 : (b_sb σ b).map (fun b => (.inl (some b) : BE)) = some q := s2
              rw [Option.map_eq_some_iff] at s2
              obtain ⟨b', h1, rfl⟩ := s2
              cases hr : r.1 with
              | inl v =>
                rw [hr] at q3
                cases v with
                | none => exact q3
                | some v => exact b_sb_v h1 q3
              | inr v => rw [hr] at q3; exact q3
          | inr k' =>
            cases s2
            cases hr : r.1 with
            | inl v => rw [hr] at q3; cases v <;> exact q3
            | inr v => rw [hr] at q3; exact q3
        · rw [← ho1]
          exact Prod.ext q5 q6
      · cases ho3
  · rw [q1] at ho3
    cases hp : p.1 with
    | inl z => rw [hp] at ho3; cases ho3
    | inr z =>
      obtain ⟨pc2, bl2, bs2⟩ := z
      rw [hp] at ho3
      dsimp only at ho3
      rw [Bool.and_eq_true, decide_eq_true_eq] at ho3
      obtain ⟨e0, ho3⟩ := ho3
      subst e0
      split at ho3
      · rename_i σ hσ
        rw [Bool.and_eq_true, decide_eq_true_eq, Bool.and_eq_true, Bool.and_eq_true] at ho3
        obtain ⟨s1, s2, s4, s3⟩ := ho3
        obtain ⟨i1, x, g⟩ := inst q5 s1 s3
        refine ⟨b_vT σ ν1, h', x, g, ?_⟩
        unfold b_sgq
        rw [hp]
        have l1 := b_locs_ok (ν := ν1) s2 q3
        have l2 := b_locsA (ν := ν1) s4 q4
        rw [i1] at l1 l2
        refine ⟨al', st', l1, l2, fun r hr => q2 r ?_⟩
        rw [q6, q7, ho1]
        exact hr
      · cases ho3
theorem b_sgc_ok (hJ : b_JF K) {d F : Nat} {cB : BK} (hc : b_cal K (b_lim d) cB) {S : BSg} {cuts : List Nat} (hk : b_sgc K cB S cuts F = true) {al : AL} {st : List Value} {mc ms : Nat} (hl : b_L S.2.1.2.2.1.length ν S.2.1.1 al) (hs : b_S S.2.1.2.2.1.length ν S.2.1.2.1 st) (g : b_G K ν h h (S.2.1.2.2.1, S.2.1.2.2.2.1, S.2.1.2.2.2.2, [], [])) : ∃ p ∈ S.2.2.2, ∃ ν' h', b_ext S.2.1.2.2.1.length (S.2.1.2.2.1 ++ p.2.1.1).length ν ν' ∧ b_G K ν' h h' (S.2.1.2.2.1 ++ p.2.1.1, p.2.1.2.1, p.2.1.2.2, [], S.2.2.1) ∧ b_sgq d S.1.1 S.1.2 al st h mc ms (S.2.1.2.2.1 ++ p.2.1.1).length ν' h' p := by
  unfold b_sgc at hk
  split at hk
  · rename_i L hL
    obtain ⟨o, o1, k⟩ := b_ex_ok hJ (mc0 := mc) (ms0 := ms) hc F true S.1.2 S.2.1.1 S.2.1.2.1 _ 0 0 L ν al st h mc ms hL hl hs g rfl rfl
    have ho := List.all_eq_true.mp hk o o1
    obtain ⟨p, p1, p2⟩ := List.any_eq_true.mp ho
    obtain ⟨ν', h', y⟩ := b_sgo_ok rfl p2 k
    exact ⟨p, p1, ν', h', y⟩
  · cases hk
end SG
