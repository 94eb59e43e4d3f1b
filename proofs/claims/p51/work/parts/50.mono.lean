/-! A run with more fuel, deeper, or counted from elsewhere -/
theorem b_up {c1 c2 : Nat → List Value → AH → Option AR} {mi : Nat} (hc : ∀ mt as h r, c1 mt as h = some r → c2 mt as h = some r) : ∀ (f k pc : Nat) (al : AL) (st : List Value) (h : AH) (mc ms : Nat) (r : AR), a_go c1 mi f pc al st h mc ms = some r → a_go c2 mi (f + k) pc al st h mc ms = some r
  | 0, k, pc, al, st, h, mc, ms, r, hr => by cases hr
  | f + 1, k, pc, al, st, h, mc, ms, r, hr => by
    rw [show f + 1 + k = (f + k) + 1 from by omega]
    rw [a_go] at hr ⊢
    split at hr
    · cases hr
    · rename_i i len hi
      (try rw [hi])
      (try dsimp only)
      split at hr
      · rename_i v hv
        (try rw [hv])
        exact hr
      · rename_i hv
        (try rw [hv])
        (try dsimp only)
        split at hr
        · rename_i q hq
          (try rw [hq])
          exact hr
        · rename_i hq
          (try rw [hq])
          (try dsimp only)
          split at hr
          · rename_i mt as rest hca
            (try rw [hca])
            (try dsimp only)
            split at hr
            · rename_i v h' c s hcc
              rw [hc _ _ _ _ hcc]
              exact b_up hc f k _ _ _ _ _ _ r hr
            · rename_i q h' c s hcc
              rw [hc _ _ _ _ hcc]
              (try dsimp only)
              split at hr
              · cases hr
              · rename_i hsp
                (try rw [if_neg hsp])
                split at hr
                · rename_i he
                  (try rw [if_pos he])
                  exact hr
                · rename_i he
                  (try rw [if_neg he])
                  split at hr
                  · rename_i x hx
                    (try rw [hx])
                    (try dsimp only)
                    split at hr
                    · rename_i hp n hh
                      (try rw [hh])
                      (try dsimp only)
                      split at hr
                      · rename_i hn
                        (try rw [if_pos hn])
                        exact b_up hc f k _ _ _ _ _ _ r hr
                      · cases hr
                    · cases hr
                  · cases hr
            · cases hr
          · rename_i hca
            (try rw [hca])
            (try dsimp only)
            split at hr
            · rename_i pc' al' st' h' c s hst
              (try rw [hst])
              exact b_up hc f k _ _ _ _ _ _ r hr
            · rename_i hst
              (try rw [hst])
              (try dsimp only)
              split at hr
              · rename_i st' h' hq
                (try rw [hq])
                exact b_up hc f k _ _ _ _ _ _ r hr
              · cases hr
theorem b_run_up : ∀ (d k F j mi : Nat) (as : List Value) (h : AH) (r : AR), a_run d F mi as h = some r → a_run (d + k) (F + j) mi as h = some r
  | 0, k, F, j, mi, as, h, r, hr => by cases hr
  | d + 1, k, F, j, mi, as, h, r, hr => by
    rw [show d + 1 + k = (d + k) + 1 from by omega]
    rw [a_run] at hr ⊢
    split at hr
    · rename_i hc
      rw [if_pos hc]
      exact b_up (fun mt as h r hr => b_run_up d k F j mt as h r hr) F j _ _ _ _ _ _ r hr
    · cases hr
/-! The limit over the fuel -/
noncomputable def b_lim (d mt : Nat) (as : List Value) (h : AH) : Option AR := by
  classical
  exact if q : ∃ r F, a_run d F mt as h = some r then some q.choose else none
theorem b_lim_of {d F mt : Nat} {as : List Value} {h : AH} {r : AR} (hr : a_run d F mt as h = some r) : b_lim d mt as h = some r := by
  have q : ∃ r F, a_run d F mt as h = some r := ⟨r, F, hr⟩
  unfold b_lim
  rw [dif_pos q]
  obtain ⟨F2, h2⟩ := q.choose_spec
  have e1 := b_run_up d 0 F F2 mt as h r hr
  have e2 := b_run_up d 0 F2 F mt as h _ h2
  rw [Nat.add_comm F2 F, e1] at e2
  exact congrArg some (Option.some.inj e2).symm
theorem b_lim_ex {d mt : Nat} {as : List Value} {h : AH} {r : AR} (hr : b_lim d mt as h = some r) : ∃ F, a_run d F mt as h = some r := by
  unfold b_lim at hr
  split at hr
  · rename_i q
    cases hr
    exact q.choose_spec
  · cases hr
theorem b_lim_up {d k mt : Nat} {as : List Value} {h : AH} {r : AR} (hr : b_lim d mt as h = some r) : b_lim (d + k) mt as h = some r := by
  obtain ⟨F, hF⟩ := b_lim_ex hr
  exact b_lim_of (b_run_up d k F 0 mt as h r hF)
theorem b_go_lim {d mi : Nat} : ∀ (f pc : Nat) (al : AL) (st : List Value) (h : AH) (mc ms : Nat) (r : AR), a_go (b_lim d) mi f pc al st h mc ms = some r → ∃ F, a_go (a_run d F) mi f pc al st h mc ms = some r
  | 0, pc, al, st, h, mc, ms, r, hr => by cases hr
  | f + 1, pc, al, st, h, mc, ms, r, hr => by
    rw [a_go] at hr
    simp only [a_go]
    split at hr
    · cases hr
    · rename_i i len hi
      (try rw [hi])
      (try dsimp only)
      split at hr
      · rename_i v hv
        (try rw [hv])
        exact ⟨0, hr⟩
      · rename_i hv
        (try rw [hv])
        (try dsimp only)
        split at hr
        · rename_i q hq
          (try rw [hq])
          exact ⟨0, hr⟩
        · rename_i hq
          (try rw [hq])
          (try dsimp only)
          split at hr
          · rename_i mt as rest hca
            (try rw [hca])
            (try dsimp only)
            split at hr
            · rename_i v h' c s hcc
              obtain ⟨F1, g1⟩ := b_lim_ex hcc
              obtain ⟨F2, g2⟩ := b_go_lim f _ _ _ _ _ _ r hr
              refine ⟨F1 + F2, ?_⟩
              rw [show a_run d (F1 + F2) mt as h = _ from b_run_up d 0 F1 F2 _ _ _ _ g1]
              exact b_up (fun mt as h r q => by have := b_run_up d 0 F2 F1 mt as h r q; rwa [Nat.add_comm F2 F1] at this) f 0 _ _ _ _ _ _ r g2
            · rename_i q h' c s hcc
              obtain ⟨F1, g1⟩ := b_lim_ex hcc
              split at hr
              · cases hr
              · rename_i hsp
                split at hr
                · rename_i he
                  refine ⟨F1, ?_⟩
                  rw [g1]
                  (try dsimp only)
                  (try rw [if_neg hsp])
                  (try rw [if_pos he])
                  exact hr
                · rename_i he
                  split at hr
                  · rename_i x hx
                    split at hr
                    · rename_i hp n hh
                      split at hr
                      · rename_i hn
                        obtain ⟨F2, g2⟩ := b_go_lim f _ _ _ _ _ _ r hr
                        refine ⟨F1 + F2, ?_⟩
                        rw [show a_run d (F1 + F2) mt as h = _ from b_run_up d 0 F1 F2 _ _ _ _ g1]
                        (try dsimp only)
                        (try rw [if_neg hsp])
                        (try rw [if_neg he])
                        (try rw [hx])
                        (try dsimp only)
                        (try rw [hh])
                        (try dsimp only)
                        (try rw [if_pos hn])
                        exact b_up (fun mt as h r q => by have := b_run_up d 0 F2 F1 mt as h r q; rwa [Nat.add_comm F2 F1] at this) f 0 _ _ _ _ _ _ r g2
                      · cases hr
                    · cases hr
                  · cases hr
            · cases hr
          · rename_i hca
            (try rw [hca])
            (try dsimp only)
            split at hr
            · rename_i pc' al' st' h' c s hst
              (try rw [hst])
              exact b_go_lim f _ _ _ _ _ _ r hr
            · rename_i hst
              (try rw [hst])
              (try dsimp only)
              split at hr
              · rename_i st' h' hq
                (try rw [hq])
                exact b_go_lim f _ _ _ _ _ _ r hr
              · cases hr
/-- a run to its end from here -/
def b_R (d mi pc : Nat) (al : AL) (st : List Value) (h : AH) (mc ms : Nat) (r : AR) : Prop := ∃ f, a_go (b_lim d) mi f pc al st h mc ms = some r
theorem b_lim_run {d mi : Nat} {as : List Value} {h : AH} {r : AR} (h1 : as.length = a_nrg mi ∧ as.length ≤ a_mxl mi ∧ (as.all fun v => v.category == 1) = true) (hr : b_R d mi 0 (a_args mi as) [] h 0 0 r) : b_lim (d + 1) mi as h = some r := by
  obtain ⟨f, hf⟩ := hr
  obtain ⟨F, hF⟩ := b_go_lim f _ _ _ _ _ _ r hf
  refine b_lim_of (F := F + f) ?_
  rw [a_run, if_pos h1]
  have := b_up (c1 := a_run d F) (c2 := a_run d (F + f)) (fun mt as h r q => b_run_up d 0 F f mt as h r q) f F _ _ _ _ _ _ r hF
  rwa [Nat.add_comm f F] at this
