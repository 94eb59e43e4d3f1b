/-! Moves are right -/
section MV
variable {call : Nat → List Value → AH → Option AR} {mi f pc len mc ms : Nat} {i : Instr} {al : AL} {st : List Value} {h : AH} {r : AR} {ν : List Int} {bl : ZL} {bs : List ZV}
theorem z_goS (hi : a_ins mi pc = some (i, len)) (c0 : z_cl i ≠ 0) (c10 : z_cl i ≠ 10) (c8 : z_cl i ≠ 8) (c6 : z_cl i = 6 → a_call (a_own mi) i st h = none) (hr : a_go call mi f pc al st h mc ms = some r) : ∃ f', f = f' + 1 ∧ ((∃ q : AS, a_stp (a_own mi) (a_ini mi) i len pc al st h = some q ∧ a_go call mi f' q.1 q.2.1 q.2.2.1 q.2.2.2.1 (mc + q.2.2.2.2.1) (ms + q.2.2.2.2.2) = some r) ∨ ((z_cl i = 6 ∨ z_cl i = 7) ∧ ∃ st' h', a_acp (a_own mi) i len st h = some (st', h') ∧ a_go call mi f' (pc + len) al st' h' mc ms = some r)) := by
  obtain ⟨f', i', len', e, hi', k⟩ := z_goI hr
  rw [hi] at hi'
  cases hi'
  refine ⟨f', e, ?_⟩
  rcases k with ⟨w, k1, k2⟩ | ⟨k, k1, k2⟩ | ⟨-, -, k⟩
  · rw [z_ne c10] at k1
    cases k1
  · rw [z_nt c0] at k1
    cases k1
  · rcases k with ⟨mt, as, rest, q, h', c, s, k1, k2, k3⟩ | ⟨-, k⟩
    · by_cases c : z_cl i = 6
      · rw [c6 c] at k1
        cases k1
      · rw [z_nc c0 c c8] at k1
        cases k1
    · rcases k with ⟨pc', al', st', h', c, s, k1, k2⟩ | ⟨st', h', k1, k2⟩
      · exact Or.inl ⟨_, k1, k2⟩
      · right
        refine ⟨?_, st', h', k1, k2⟩
        by_cases c : z_cl i = 6
        · exact Or.inl c
        · by_cases c7 : z_cl i = 7
          · exact Or.inr c7
          · rw [z_na c0 c c7] at k1
            cases k1
theorem z_cl_const {v : Value} (h : a_const i = some v) : z_cl i = 1 := by
  cases i <;> first | rfl | (cases h; done)
theorem z_cl_load {q : Nat × Nat} (h : a_load i = some q) : z_cl i = 1 ∧ a_const i = none := by
  cases i <;> first | exact ⟨rfl, rfl⟩ | (cases h; done)
theorem z_cl_store {q : Nat × Nat} (h : a_store i = some q) : z_cl i = 1 ∧ a_const i = none ∧ a_load i = none := by
  cases i <;> first | exact ⟨rfl, rfl, rfl⟩ | (cases h; done)
/-- instructions of the first step -/
theorem z_go1 (hi : a_ins mi pc = some (i, len)) (c1 : z_cl i = 1) (hr : a_go call mi f pc al st h mc ms = some r) : ∃ f', f = f' + 1 ∧ ∃ q : AS, a_st1 i pc al st h = some q ∧ a_go call mi f' q.1 q.2.1 q.2.2.1 q.2.2.2.1 (mc + q.2.2.2.2.1) (ms + q.2.2.2.2.2) = some r := by
  obtain ⟨f', e, k⟩ := z_goS hi (by omega) (by omega) (by omega) (fun q => by omega) hr
  refine ⟨f', e, ?_⟩
  rcases k with ⟨q, k1, k2⟩ | ⟨k, -⟩
  · rcases z_stp (by omega) k1 with ⟨a, -⟩ | ⟨-, ⟨-, b⟩ | ⟨a, -⟩ | ⟨a, -⟩ | ⟨a, -⟩ | ⟨a, -⟩⟩ <;> first | exact ⟨q, b, k2⟩ | omega
  · omega
theorem z_go4 (hi : a_ins mi pc = some (i, len)) (c1 : z_cl i = 4) (hr : a_go call mi f pc al st h mc ms = some r) : ∃ f', f = f' + 1 ∧ ∃ q : AS, a_st4 (a_own mi) (a_ini mi) i pc al st h = some q ∧ a_go call mi f' q.1 q.2.1 q.2.2.1 q.2.2.2.1 (mc + q.2.2.2.2.1) (ms + q.2.2.2.2.2) = some r := by
  obtain ⟨f', e, k⟩ := z_goS hi (by omega) (by omega) (by omega) (fun q => by omega) hr
  refine ⟨f', e, ?_⟩
  rcases k with ⟨q, k1, k2⟩ | ⟨k, -⟩
  · rcases z_stp (by omega) k1 with ⟨a, -⟩ | ⟨-, ⟨a, -⟩ | ⟨-, b⟩ | ⟨a, -⟩ | ⟨a, -⟩ | ⟨a, -⟩⟩ <;> first | exact ⟨q, b, k2⟩ | omega
  · omega
theorem z_go2 (hi : a_ins mi pc = some (i, len)) (c1 : z_cl i = 2) (hr : a_go call mi f pc al st h mc ms = some r) : ∃ f', f = f' + 1 ∧ ∃ q : AS, a_st2 i pc al st h = some q ∧ a_go call mi f' q.1 q.2.1 q.2.2.1 q.2.2.2.1 (mc + q.2.2.2.2.1) (ms + q.2.2.2.2.2) = some r := by
  obtain ⟨f', e, k⟩ := z_goS hi (by omega) (by omega) (by omega) (fun q => by omega) hr
  refine ⟨f', e, ?_⟩
  rcases k with ⟨q, k1, k2⟩ | ⟨k, -⟩
  · rcases z_stp (by omega) k1 with ⟨a, -⟩ | ⟨-, ⟨a, -⟩ | ⟨a, -⟩ | ⟨-, b⟩ | ⟨a, -⟩ | ⟨a, -⟩⟩ <;> first | exact ⟨q, b, k2⟩ | omega
  · omega
theorem z_go3 (hi : a_ins mi pc = some (i, len)) (c1 : z_cl i = 3) (hr : a_go call mi f pc al st h mc ms = some r) : ∃ f', f = f' + 1 ∧ ∃ q : AS, a_st3 i pc al st h = some q ∧ a_go call mi f' q.1 q.2.1 q.2.2.1 q.2.2.2.1 (mc + q.2.2.2.2.1) (ms + q.2.2.2.2.2) = some r := by
  obtain ⟨f', e, k⟩ := z_goS hi (by omega) (by omega) (by omega) (fun q => by omega) hr
  refine ⟨f', e, ?_⟩
  rcases k with ⟨q, k1, k2⟩ | ⟨k, -⟩
  · rcases z_stp (by omega) k1 with ⟨a, -⟩ | ⟨-, ⟨a, -⟩ | ⟨a, -⟩ | ⟨a, -⟩ | ⟨-, b⟩ | ⟨a, -⟩⟩ <;> first | exact ⟨q, b, k2⟩ | omega
  · omega
theorem z_ix {j : Int32} {n k : Nat} (h : a_ix j n = some k) : (k : Int) = j.toInt ∧ k < n := by
  obtain ⟨h1, h2, h3⟩ := a_ix_ok h
  refine ⟨?_, h3⟩
  have h0 : 0 ≤ j.toInt := by
    by_cases q : j.toInt < 0
    · exact absurd (Or.inl (Int32.lt_iff_toInt_lt.mpr (by simpa using q))) h1
    · omega
  have : j.toNatClampNeg = j.toInt.toNat := rfl
  omega
/-- what a move leaves -/
def z_next (w : Bool) (h : AH) (call : Nat → List Value → AH → Option AR) (mi f : Nat) (r : AR) (ν : List Int) (S : ZS) (pc' : Nat) (bl' : ZL) (bs' : List ZV) : Prop := ∃ f' al' st' h' mc' ms', f = f' + 1 ∧ a_go call mi f' pc' al' st' h' mc' ms' = some r ∧ z_loc ν bl' al' ∧ z_stk ν bs' st' ∧ z_PI h' ∧ z_al h' = S ∧ (w = true ∨ h' = h)
theorem z_k {ν : List Int} {z : Int} {w : Value} (h : e_v w = z) : z_val ν (0, (0, z), (0, 0)) w := ⟨Nat.zero_le _, Nat.zero_le _, h⟩
theorem z_mv_ok {pc' : Nat} {bl' : ZL} {bs' : List ZV} (hi : a_ins mi pc = some (i, len)) (hm : z_mv (a_own mi) i pc bl bs = some (pc', bl', bs')) (hl : z_loc ν bl al) (hs : z_stk ν bs st) (P : z_PI h) (hr : a_go call mi f pc al st h mc ms = some r) : z_next false h call mi f r ν (z_al h) pc' bl' bs' := by
  unfold z_mv at hm
  split at hm
  · -- goto
    obtain ⟨f', e, q, k1, k2⟩ := z_go1 hi rfl hr
    unfold a_st1 at k1
    simp only [a_const, a_load, a_store, Option.map_eq_some_iff] at k1
    simp only [Option.map_eq_some_iff] at hm
    obtain ⟨t, h1, h2⟩ := hm
    obtain ⟨t', h1', rfl⟩ := k1
    rw [h1] at h1'
    cases h1'
    cases h2
    exact ⟨f', _, _, _, _, _, e, k2, hl, hs, P, rfl, Or.inr rfl⟩
  · -- dup
    obtain ⟨f', e, q, k1, k2⟩ := z_go1 hi rfl hr
    obtain ⟨w, ws, rfl, s1, s2⟩ := hs.c
    unfold a_st1 at k1
    simp only [a_const, a_load, a_store] at k1
    cases hm
    split at k1
    · cases k1
      exact ⟨f', _, _, _, _, _, e, k2, hl, ⟨s1, s1, s2⟩, P, rfl, Or.inr rfl⟩
    · cases k1
  · -- dup2
    obtain ⟨f', e, q, k1, k2⟩ := z_go1 hi rfl hr
    obtain ⟨w, ws, rfl, s1, s2⟩ := hs.c
    obtain ⟨u, us, rfl, s3, s4⟩ := s2.c
    unfold a_st1 at k1
    simp only [a_const, a_load, a_store] at k1
    cases hm
    split at k1
    · cases k1
      exact ⟨f', _, _, _, _, _, e, k2, hl, ⟨s1, s3, s1, s3, s4⟩, P, rfl, Or.inr rfl⟩
    · cases k1
  · -- pop
    obtain ⟨f', e, q, k1, k2⟩ := z_go1 hi rfl hr
    obtain ⟨w, ws, rfl, s1, s2⟩ := hs.c
    unfold a_st1 at k1
    simp only [a_const, a_load, a_store] at k1
    cases hm
    split at k1
    · cases k1
      exact ⟨f', _, _, _, _, _, e, k2, hl, s2, P, rfl, Or.inr rfl⟩
    · cases k1
  · -- pop2
    obtain ⟨w, ws, rfl, s1, s2⟩ := hs.c
    obtain ⟨f', e, k⟩ := z_goS hi (by decide) (by decide) (by decide) (fun q => absurd q (by decide)) hr
    cases hm
    rcases k with ⟨q, k1, k2⟩ | ⟨k, st', h', k1, k2⟩
    · rcases z_stp (by decide) k1 with ⟨a, -⟩ | ⟨-, ⟨a, -⟩ | ⟨a, -⟩ | ⟨a, -⟩ | ⟨a, -⟩ | ⟨a, -⟩⟩ <;> exact absurd a (by decide)
    · unfold a_acp at k1
      dsimp only at k1
      split at k1
      · rename_i c
        cases k1
        rw [c.1] at k2
        exact ⟨f', _, _, _, _, _, e, k2, hl, s2, P, rfl, Or.inr rfl⟩
      · cases k1
  · -- i2l
    obtain ⟨f', e, q, k1, k2⟩ := z_go2 hi rfl hr
    obtain ⟨w, ws, rfl, s1, s2⟩ := hs.c
    split at hm
    · rename_i c
      cases hm
      cases w <;> first
        | (cases k1; done)
        | (cases k1
           refine ⟨f', _, _, _, _, _, e, k2, hl, ⟨z_val.n (by decide) s1.1 s1.2.1 ?_, s2⟩, P, rfl, Or.inr rfl⟩
           rw [← z_num s1 c]
           exact Int32.toInt_toInt64 _)
    · cases hm
  · -- ldc
    obtain ⟨f', e, q, k1, k2⟩ := z_go4 hi rfl hr
    unfold a_st4 at k1
    simp only [Option.map_eq_some_iff] at k1 hm
    obtain ⟨t, h1, h2⟩ := hm
    obtain ⟨t', h1', rfl⟩ := k1
    rw [h1] at h1'
    cases h1'
    cases h2
    exact ⟨f', _, _, _, _, _, e, k2, hl, ⟨z_k rfl, hs⟩, P, rfl, Or.inr rfl⟩
  · -- ldc_w
    obtain ⟨f', e, q, k1, k2⟩ := z_go4 hi rfl hr
    unfold a_st4 at k1
    simp only [Option.map_eq_some_iff] at k1 hm
    obtain ⟨t, h1, h2⟩ := hm
    obtain ⟨t', h1', rfl⟩ := k1
    rw [h1] at h1'
    cases h1'
    cases h2
    exact ⟨f', _, _, _, _, _, e, k2, hl, ⟨z_k rfl, hs⟩, P, rfl, Or.inr rfl⟩
  · -- ldc2_w
    obtain ⟨f', e, q, k1, k2⟩ := z_go4 hi rfl hr
    unfold a_st4 at k1
    simp only [Option.map_eq_some_iff] at k1 hm
    obtain ⟨t, h1, h2⟩ := hm
    obtain ⟨t', h1', rfl⟩ := k1
    rw [h1] at h1'
    cases h1'
    cases h2
    exact ⟨f', _, _, _, _, _, e, k2, hl, ⟨z_k rfl, hs⟩, P, rfl, Or.inr rfl⟩
  · -- getfield
    obtain ⟨f', e, q, k1, k2⟩ := z_go4 hi rfl hr
    obtain ⟨w, ws, rfl, s1, s2⟩ := hs.c
    split at hm
    · rename_i ci k hf
      split at hm
      · rename_i c2
        obtain ⟨m, hb⟩ := Nat.exists_eq_add_of_le' c2
        obtain ⟨a, rfl, ha⟩ := z_ref s1 hb
        rw [hb, Nat.add_sub_cancel, Option.map_eq_some_iff] at hm
        obtain ⟨g, h1, h2⟩ := hm
        cases h2
        unfold a_st4 at k1
        dsimp only at k1
        rw [hf] at k1
        dsimp only at k1
        split at k1
        · rename_i t vs hh
          split at k1
          · rw [Option.map_eq_some_iff] at k1
            obtain ⟨v, hv, rfl⟩ := k1
            obtain ⟨b2, rfl, hb2⟩ := (P.2 _ _ _ _ _ _ ha hh).1 _ _ _ h1 hv
            exact ⟨f', _, _, _, _, _, e, k2, hl, ⟨⟨s1.1, s1.2.1, b2, rfl, hb2⟩, s2⟩, P, rfl, Or.inr rfl⟩
          · cases k1
        · cases k1
      · cases hm
    · cases hm
  · -- aaload
    obtain ⟨f', e, q, k1, k2⟩ := z_go3 hi rfl hr
    obtain ⟨u, us, rfl, s1, s2⟩ := hs.c
    obtain ⟨w, ws, rfl, s3, s4⟩ := s2.c
    split at hm
    · rename_i c2
      obtain ⟨m, hb⟩ := Nat.exists_eq_add_of_le' c2.1
      obtain ⟨a, rfl, ha⟩ := z_ref s3 hb
      rw [hb, Nat.add_sub_cancel, Option.map_eq_some_iff] at hm
      obtain ⟨g, h1, h2⟩ := hm
      cases h2
      have hu := z_num s1 c2.2
      cases u <;> first
        | (cases k1; done)
        | skip
      rename_i j
      unfold a_st3 at k1
      dsimp only at k1
      split at k1
      · rename_i t vs hh
        split at k1
        · rw [Option.bind_eq_some_iff] at k1
          obtain ⟨n, hn, k1⟩ := k1
          rw [Option.map_eq_some_iff] at k1
          obtain ⟨v, hv, rfl⟩ := k1
          obtain ⟨n1, n2⟩ := z_ix hn
          obtain ⟨b2, rfl, hb2⟩ := (P.2 _ _ _ _ _ _ ha hh).2 _ _ _ _ h1 hv
          refine ⟨f', _, _, _, _, _, e, k2, hl, ⟨?_, s4⟩, P, rfl, Or.inr rfl⟩
          rw [n1, show j.toInt = _ from hu] at hb2
          split
          · rename_i e1
            rw [if_pos e1, if_pos e1] at hb2
            exact ⟨s1.1, s3.2.1, b2, rfl, hb2⟩
          · rename_i e1
            rw [if_neg e1, if_neg e1] at hb2
            exact ⟨s3.1, s1.1, b2, rfl, hb2⟩
        · cases k1
      · cases k1
    · cases hm
  · -- constants, loads, stores
    split at hm
    · rename_i v hv
      obtain ⟨f', e, q, k1, k2⟩ := z_go1 hi (z_cl_const hv) hr
      cases hm
      unfold a_st1 at k1
      rw [hv] at k1
      cases k1
      exact ⟨f', _, _, _, _, _, e, k2, hl, ⟨z_k rfl, hs⟩, P, rfl, Or.inr rfl⟩
    · split at hm
      · rename_i k kd hv
        obtain ⟨c1, c2⟩ := z_cl_load hv
        obtain ⟨f', e, q, k1, k2⟩ := z_go1 hi c1 hr
        split at hm
        · rename_i b hb
          cases hm
          unfold a_st1 at k1
          rw [c2] at k1
          dsimp only at k1
          rw [hv] at k1
          dsimp only at k1
          obtain ⟨w, w1, w2, w3⟩ := hl.2 _ _ hb
          rw [w1] at k1
          dsimp only at k1
          split at k1
          · cases k1
            exact ⟨f', _, _, _, _, _, e, k2, hl, ⟨w2, hs⟩, P, rfl, Or.inr rfl⟩
          · cases k1
        · cases hm
      · split at hm
        · rename_i k kd v bs0 hv _ _ _ _ _ _ _
          obtain ⟨c1, c2, c3⟩ := z_cl_store hv
          obtain ⟨f', e, q, k1, k2⟩ := z_go1 hi c1 hr
          obtain ⟨w, ws, rfl, s1, s2⟩ := hs.c
          rw [Option.map_eq_some_iff] at hm
          obtain ⟨bl2, h1, h2⟩ := hm
          cases h2
          unfold a_st1 at k1
          rw [c2] at k1
          dsimp only at k1
          rw [c3] at k1
          dsimp only at k1
          rw [hv] at k1
          dsimp only at k1
          split at k1
          · rename_i hk
            rw [Option.map_eq_some_iff] at k1
            obtain ⟨al2, h3, rfl⟩ := k1
            exact ⟨f', _, _, _, _, _, e, k2, z_sto_ok hl h1 s1 hk h3, s2, P, rfl, Or.inr rfl⟩
          · cases k1
        · cases hm
end MV
