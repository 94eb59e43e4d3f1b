/-! The law's run as a whole -/
theorem b_R.up {d k mi pc mc ms : Nat} {al : AL} {st : List Value} {h : AH} {r : AR} (hr : b_R d mi pc al st h mc ms r) : b_R (d + k) mi pc al st h mc ms r := by
  obtain ⟨f, hf⟩ := hr
  exact ⟨f + 0, b_up (fun mt as h r q => b_lim_up q) f 0 _ _ _ _ _ _ r hf⟩
theorem b_R.run {d mi pc mc ms : Nat} {al : AL} {st : List Value} {h : AH} {r : AR} (hr : b_R d mi pc al st h mc ms r) : ∃ F, a_go (a_run d F) mi F pc al st h mc ms = some r := by
  obtain ⟨f, hf⟩ := hr
  obtain ⟨F, hF⟩ := b_go_lim f _ _ _ _ _ _ r hf
  refine ⟨F + f, ?_⟩
  have := b_up (c1 := a_run d F) (c2 := a_run d (F + f)) (fun mt as h r q => b_run_up d 0 F f mt as h r q) f F _ _ _ _ _ _ r hF
  rwa [Nat.add_comm f F] at this
theorem c_F28e : c_F28 = [((2, 0, 0), (9, 0, 0), (1, 1, 0))] := rfl
theorem c_hourF {ν : BN} {vs : List Value} {b n s k : Nat} (hn : n + 1 = b) (hk : k < 2) (h2 : ν k = 0) (k1 : (c_h0[n]?).map (fun c => c.2[s]?) = some (some (.int 0))) : b_fa 2 ν ((19, vs) :: c_h0) ((2, b, 0), (0, 0, (s : Int)), (1, k, 0)) := by
  rw [Option.map_eq_some_iff] at k1
  obtain ⟨c, k1, k2⟩ := k1
  obtain ⟨t, us⟩ := c
  subst hn
  refine ⟨n + 1, t, us, Or.inl ⟨rfl, rfl⟩, (c_cons (n := n)).trans k1, ?_⟩
  rw [if_neg (show ¬ (0 : Nat) = 9 by decide)]
  exact ⟨s, _, Or.inl ⟨rfl, rfl⟩, k2, Or.inr ⟨rfl, hk, by show (0 : Int32).toInt = ν k + 0; rw [h2]; decide⟩⟩
theorem c_law (hv : ∀ q ∈ c_lawL, ∀ R ∈ q.2, b_valid c_K R) {vs : List Value} (hL : vs.length ≤ 3072) (h2 : ∀ v ∈ vs, ∃ x : Int32, v = .int x) : ∃ F r, a_go (a_run 13 F) 301 F 0 (a_args 301 [.ref 0]) [] [(19, vs)] 0 0 = some r ∧ r.1 = .inl (some (.int 1)) ∧ r.2.2.1 ≤ 603072 ∧ r.2.2.2 ≤ 7219306 := by
  generalize hν : (fun n => if n = 1 then (vs.length : Int) else 0 : BN) = ν
  have v0 : ν 0 = 0 := by rw [← hν]; rfl
  have v1 : ν 1 = vs.length := by rw [← hν]; rfl
  have hg : b_G c_K ν ((19, vs) :: c_h0) ((19, vs) :: c_h0) (c_E28, c_F28, [], [], []) := by
    refine ⟨fun n q hq => ?_, fun f hf => ?_, (fun f hf => by cases hf), (fun f hf => by cases hf), c_H0 h2, b_frm.rf⟩
    · have hq : ([(0, 0, 3072), (0, 0, 3072)] : BQ)[n]? = some q := hq
      match n, hq with
      | 0, hq => cases hq; unfold b_q; rw [if_pos rfl, v0]; decide
      | 1, hq => cases hq; unfold b_q; rw [if_pos rfl, v1]; dsimp only; omega
    · have hf : f ∈ c_F28 := hf
      rw [c_F28e] at hf
      simp only [List.mem_cons, List.not_mem_nil, or_false] at hf
      rcases hf with rfl
      · refine ⟨0, 19, vs, Or.inl ⟨rfl, rfl⟩, rfl, ?_⟩
        rw [if_pos rfl]
        exact Or.inr ⟨rfl, (by decide : 1 < 2), by show _ = ν 1 + 0; rw [v1]; omega⟩
  have hl : b_L c_E28.length ν c_bl28 (c_al0 (some (.ref 1)) (some (.ref 365)) (some (.ref 770)) (some (.ref 771)) (some (.int 0))) := by
    refine ⟨rfl, fun i b hb => ?_⟩
    have hb : ([some (2, 0, 0), some (2, 1, 0), some (2, 365, 0), some (2, 770, 0), some (2, 771, 0), some (1, 0, 0), none, none, none] : BL)[i]? = some (some b) := hb
    match i, hb with
    | 0, hb => cases hb; exact ⟨_, rfl, Or.inl ⟨rfl, rfl⟩⟩
    | 1, hb => cases hb; exact ⟨_, rfl, Or.inl ⟨rfl, rfl⟩⟩
    | 2, hb => cases hb; exact ⟨_, rfl, Or.inl ⟨rfl, rfl⟩⟩
    | 3, hb => cases hb; exact ⟨_, rfl, Or.inl ⟨rfl, rfl⟩⟩
    | 4, hb => cases hb; exact ⟨_, rfl, Or.inl ⟨rfl, rfl⟩⟩
    | 5, hb => cases hb; exact ⟨_, rfl, Or.inr ⟨rfl, (by decide : 0 < 2), by show (0 : Int32).toInt = ν 0 + 0; rw [v0]; decide⟩⟩
    | 6, hb => cases hb
    | 7, hb => cases hb
    | 8, hb => cases hb
    | i + 9, hb => cases hb
  obtain ⟨r, r1, r2, r3, r4⟩ := c_turn hv 3079 ν _ _ c_mc c_ms (by rw [v0, v1]; omega) hl hg
  obtain ⟨F, hF⟩ := (c_law0 (b_R.up (k := 1) r1)).run
  refine ⟨F, r, hF, z_one r1 r2, Nat.le_trans r3 (by unfold c_mc; omega), Nat.le_trans r4 ?_⟩
  have e : c_ms ≤ 20000 := by decide +kernel
  generalize c_ms = k at e
  omega
