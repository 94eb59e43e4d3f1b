/-! Operations are right -/
section OP
variable {call : Nat → List Value → AH → Option AR} {mi f pc len mc ms : Nat} {i : Instr} {al : AL} {st : List Value} {h : AH} {r : AR} {ν : List Int} {bl : ZL} {bs : List ZV} {pc' : Nat} {bl' : ZL} {bs' : List ZV}
theorem z_isA_slot {f : Nat} (h : z_isA f = true) {k : Int} (hk : 0 ≤ k) : z_slot f 0 k = some k.toNat := by
  unfold z_isA at h
  unfold z_slot
  split at h
  · rename_i row hrow
    rw [hrow]
    dsimp only
    rw [if_neg (by simpa using h), if_pos ⟨rfl, hk⟩]
  · cases h
theorem z_isA_po {f : Nat} (h : z_isA f = true) (s : Nat) : z_po f s = none := by
  unfold z_isA at h
  unfold z_po
  split at h
  · rename_i row hrow
    rw [hrow]
    dsimp only
    rw [if_neg (by simpa using h)]
  · cases h
theorem z_isA_pa {f : Nat} (h : z_isA f = false) : z_pa f = none := by
  unfold z_isA at h
  unfold z_pa
  split at h
  · rename_i row hrow
    rw [hrow]
    dsimp only
    rw [if_pos (by simpa using h)]
  · rename_i hrow
    rw [hrow]
theorem z_al_at {f s a n : Nat} {i j k : Int} (hd : z_ad f i j = some a) (hs : z_slot f s k = some n) : z_al h (f * 64 + s) i j k = e_at h a n := by
  have hlt := z_slot_lt hs
  obtain ⟨g1, g2⟩ := z_reg (f := f) (s := s) (by omega)
  unfold z_al
  rw [if_neg (by unfold z_rA; omega), g1, g2, hd]
  dsimp only
  rw [hs]
theorem e_at_of {a t n : Nat} {vs : List Value} {v : Value} (ha : h[a]? = some (t, vs)) (hv : vs[n]? = some v) : e_at h a n = e_v v := by
  unfold e_at
  rw [ha]
  dsimp only
  rw [hv]
theorem z_al_len {f a : Nat} {i j : Int} (hd : z_ad f i j = some a) (hA : z_isA f = true) (hn : f ≠ 51) : z_al h (f * 64 + 63) i j 0 = e_len h a := by
  have hlt : f < 52 := by
    have := (z_slot_lt (z_isA_slot hA (Int.le_refl 0))).2
    exact this
  obtain ⟨g1, g2⟩ := z_reg (f := f) (s := 63) (by omega)
  have hs : z_slot f 63 0 = none := by
    unfold z_isA at hA
    unfold z_slot
    split at hA
    · rename_i row hrow
      rw [hrow]
      dsimp only
      rw [if_neg (by simpa using hA), if_neg (fun q => absurd q.1 (by decide))]
    · cases hA
  unfold z_al
  rw [if_neg (by unfold z_rA; omega), g1, g2, hd]
  dsimp only
  rw [hs]
  dsimp only
  rw [if_pos ⟨rfl, rfl, hn⟩]
theorem z_stk.top {w : Value} {z : Int} {st : List Value} (hs : z_stk ν bs st) (h : e_v w = z) : z_stk (ν ++ [z]) (z_top ν.length :: bs) (w :: st) := ⟨z_val.new h, hs.app z⟩
theorem z_opA_iinc {o x y : ZN} {k : Nat} {n : Int} (hi : a_ins mi pc = some (.iinc k n, len)) (hm : (match bl[k]? with
    | some (some b) => if b.1 = 0 ∧ o.1 = 0 ∧ x = b.2.1 ∧ y = (0, n) then (z_sto 0 bl k (z_top ν.length)).map fun bl' => (pc + 3, bl', bs) else none
    | _ => none) = some (pc', bl', bs')) (hl : z_loc ν bl al) (hs : z_stk ν bs st) (P : z_PI h) (hr : a_go call mi f pc al st h mc ms = some r) : z_next false h call mi f r (ν ++ [e_bin o.1 (o_v ν x) (o_v ν y)]) (z_al h) pc' bl' bs' := by
  obtain ⟨f', e, q, k1, k2⟩ := z_go1 hi rfl hr
  split at hm
  · rename_i b hb
    rw [Option.ite_none_right_eq_some] at hm
    obtain ⟨⟨c1, c2, rfl, rfl⟩, hm⟩ := hm
    rw [Option.map_eq_some_iff] at hm
    obtain ⟨bl2, h1, h2⟩ := hm
    cases h2
    obtain ⟨w, w1, w2, w3⟩ := hl.2 _ _ hb
    unfold a_st1 at k1
    simp only [a_const, a_load, a_store] at k1
    rw [w1] at k1
    cases w <;> first
      | (cases k1; done)
      | skip
    rename_i X
    dsimp only at k1
    rw [Option.map_eq_some_iff] at k1
    obtain ⟨al2, h3, rfl⟩ := k1
    have w4 := z_num w2 (by omega)
    have hv : e_v (.int (X + Int32.ofInt n)) = e_bin o.1 (o_v ν b.2.1) (o_v ν (0, n)) := by
      rw [c2, ← w4]
      show (X + Int32.ofInt n).toInt = e_wr (X.toInt + n)
      unfold e_wr
      rw [Int32.toInt_add, Int32.toInt_ofInt]
      exact Int.add_bmod_bmod
    exact ⟨f', _, _, _, _, _, e, k2, z_sto_ok (hl.app _) h1 (z_val.new hv) rfl h3, hs.app _, P, rfl, Or.inr rfl⟩
  · cases hm
theorem z_opA_math {o x y : ZN} {idx : Nat} {u v : ZV} (hi : a_ins mi pc = some (.invokestatic idx, len)) (hm : (match (a_of a_mat (a_own mi)).find? (fun e => e.1 == idx) with
    | some e => if (u.1 < 2 ∧ v.1 < 2) ∧ ((a_of a_inv (a_own mi)).find? (fun e => e.1 == idx && e.2.1 == 1)).isNone = true ∧ ¬ (a_own mi = 12 ∧ idx = 166) ∧ o.1 = (if e.2.1 = true then 8 else 7) ∧ x = u.2.1 ∧ y = v.2.1 then some (pc + 3, bl, z_top ν.length :: bs) else none
    | none => none) = some (pc', bl', bs')) (hl : z_loc ν bl al) (hs : z_stk ν (v :: u :: bs) st) (P : z_PI h) (hr : a_go call mi f pc al st h mc ms = some r) : z_next false h call mi f r (ν ++ [e_bin o.1 (o_v ν x) (o_v ν y)]) (z_al h) pc' bl' bs' := by
  obtain ⟨wv, ws, rfl, s1, s2⟩ := hs.c
  obtain ⟨wu, us, rfl, s3, s4⟩ := s2.c
  split at hm
  · rename_i e0 he
    rw [Option.ite_none_right_eq_some] at hm
    obtain ⟨⟨⟨c1, c2⟩, c3, c4, c5, rfl, rfl⟩, hm⟩ := hm
    cases hm
    have hca : a_call (a_own mi) (.invokestatic idx) (wv :: wu :: us) h = none := by
      unfold a_call
      dsimp only
      rw [Option.isNone_iff_eq_none.mp c3]
    obtain ⟨f', e, k⟩ := z_goS hi (by show (6 : Nat) ≠ 0; decide) (by show (6 : Nat) ≠ 10; decide) (by show (6 : Nat) ≠ 8; decide) (fun _ => hca) hr
    rcases k with ⟨q, k1, k2⟩ | ⟨-, st', h', k1, -⟩
    · rcases z_stp (by show (6 : Nat) ≠ 0; decide) k1 with ⟨a, -⟩ | ⟨-, ⟨a, -⟩ | ⟨a, -⟩ | ⟨a, -⟩ | ⟨a, -⟩ | ⟨-, b⟩⟩
      · exact absurd a (by show ¬ (6 : Nat) = 9; decide)
      · exact absurd a (by show ¬ (6 : Nat) = 1; decide)
      · exact absurd a (by show ¬ (6 : Nat) = 4; decide)
      · exact absurd a (by show ¬ (6 : Nat) = 2; decide)
      · exact absurd a (by show ¬ (6 : Nat) = 3; decide)
      · cases wv <;> first
          | (cases b; done)
          | skip
        cases wu <;> first
          | (cases b; done)
          | skip
        rename_i Y X
        unfold a_st5 at b
        dsimp only at b
        rw [he] at b
        dsimp only at b
        rw [Option.ite_none_right_eq_some] at b
        obtain ⟨-, b⟩ := b
        cases b
        refine ⟨f', _, _, _, _, _, e, k2, hl.app _, s4.top ?_, P, rfl, Or.inr rfl⟩
        rw [← z_num s3 c1, ← z_num s1 c2, c5]
        by_cases em : e0.2.1 = true
        · rw [if_pos em, if_pos em]
          show (if X < Y then Y else X).toInt = if X.toInt < Y.toInt then Y.toInt else X.toInt
          by_cases l : X < Y
          · rw [if_pos l, if_pos (Int32.lt_iff_toInt_lt.mp l)]
          · rw [if_neg l, if_neg (fun q => l (Int32.lt_iff_toInt_lt.mpr q))]
        · rw [if_neg em, if_neg em]
          show (if Y < X then Y else X).toInt = if Y.toInt < X.toInt then Y.toInt else X.toInt
          by_cases l : Y < X
          · rw [if_pos l, if_pos (Int32.lt_iff_toInt_lt.mp l)]
          · rw [if_neg l, if_neg (fun q => l (Int32.lt_iff_toInt_lt.mpr q))]
    · exfalso
      unfold a_acp at k1
      split at k1
      · rename_i q _
        cases q
        split at k1
        · rename_i c6
          exact c4 ⟨c6.1, c6.2.1⟩
        · cases k1
      · rename_i q _
        cases q
      · cases k1
  · cases hm
theorem z_opA_2 {o x y : ZN} {c : Nat} {u v : ZV} (hi : a_ins mi pc = some (i, len)) (hb : z_bin i = some (c, true)) (hm : (if (u.1 < 2 ∧ v.1 < 2) ∧ o.1 = c ∧ x = u.2.1 ∧ y = v.2.1 then some (pc + 1, bl, z_top ν.length :: bs) else none) = some (pc', bl', bs')) (hl : z_loc ν bl al) (hs : z_stk ν (v :: u :: bs) st) (P : z_PI h) (hr : a_go call mi f pc al st h mc ms = some r) : z_next false h call mi f r (ν ++ [e_bin o.1 (o_v ν x) (o_v ν y)]) (z_al h) pc' bl' bs' := by
  obtain ⟨wv, ws, rfl, s1, s2⟩ := hs.c
  obtain ⟨wu, us, rfl, s3, s4⟩ := s2.c
  rw [Option.ite_none_right_eq_some] at hm
  obtain ⟨⟨⟨c1, c2⟩, c3, rfl, rfl⟩, hm⟩ := hm
  cases hm
  obtain ⟨f', e, q, k1, k2⟩ := z_go2 hi (z_bin2 ⟨_, hb⟩) hr
  obtain ⟨w, rfl, hv⟩ := z_st2_2 hb k1
  refine ⟨f', _, _, _, _, _, e, k2, hl.app _, s4.top ?_, P, rfl, Or.inr rfl⟩
  rw [hv, z_num s3 c1, z_num s1 c2, c3]
theorem z_opA_1 {o x y : ZN} {c : Nat} {u : ZV} (hi : a_ins mi pc = some (i, len)) (hb : z_bin i = some (c, false)) (hm : (if u.1 < 2 ∧ o.1 = c ∧ x = u.2.1 ∧ y = (0, 0) then some (pc + 1, bl, z_top ν.length :: bs) else none) = some (pc', bl', bs')) (hl : z_loc ν bl al) (hs : z_stk ν (u :: bs) st) (P : z_PI h) (hr : a_go call mi f pc al st h mc ms = some r) : z_next false h call mi f r (ν ++ [e_bin o.1 (o_v ν x) (o_v ν y)]) (z_al h) pc' bl' bs' := by
  obtain ⟨wu, us, rfl, s3, s4⟩ := hs.c
  rw [Option.ite_none_right_eq_some] at hm
  obtain ⟨⟨c1, c3, rfl, rfl⟩, hm⟩ := hm
  cases hm
  obtain ⟨f', e, q, k1, k2⟩ := z_go2 hi (z_bin2 ⟨_, hb⟩) hr
  obtain ⟨w, rfl, hv⟩ := z_st2_1 hb k1
  refine ⟨f', _, _, _, _, _, e, k2, hl.app _, s4.top ?_, P, rfl, Or.inr rfl⟩
  rw [hv, z_num s3 c1, c3]
  rfl
theorem z_opA_ok {o x y : ZN} (hi : a_ins mi pc = some (i, len)) (hm : z_opA (a_own mi) i pc bl bs ν.length o x y = some (pc', bl', bs')) (hl : z_loc ν bl al) (hs : z_stk ν bs st) (P : z_PI h) (hr : a_go call mi f pc al st h mc ms = some r) : z_next false h call mi f r (ν ++ [e_bin o.1 (o_v ν x) (o_v ν y)]) (z_al h) pc' bl' bs' := by
  unfold z_opA at hm
  split at hm
  · exact z_opA_iinc hi hm hl hs P hr
  · exact z_opA_math hi hm hl hs P hr
  · split at hm
    · exact z_opA_2 hi (by assumption) hm hl hs P hr
    · exact z_opA_1 hi (by assumption) hm hl hs P hr
    · cases hm
/-! Reads -/
theorem z_obj {b : ZV} {w : Value} (h1 : 2 ≤ b.1) (s : z_val ν b w) : ∃ a, w = .ref a ∧ z_ad (b.1 - 2) (o_v ν b.2.1) (o_v ν b.2.2) = some a := by
  obtain ⟨m, hb⟩ := Nat.exists_eq_add_of_le' h1
  rw [hb, Nat.add_sub_cancel]
  exact z_ref s hb
theorem z_opR_f {r' x y k : ZN} {idx : Nat} {b : ZV} (hi : a_ins mi pc = some (.getfield idx, len)) (hm : (match a_field (a_own mi) idx with
    | some (_, s) => if 2 ≤ b.1 ∧ z_slot (b.1 - 2) s 0 = some s ∧ r'.1 = (b.1 - 2) * 64 + s ∧ x = b.2.1 ∧ y = b.2.2 ∧ k = (0, 0) then some (pc + 3, bl, z_top ν.length :: bs) else none
    | none => none) = some (pc', bl', bs')) (hl : z_loc ν bl al) (hs : z_stk ν (b :: bs) st) (P : z_PI h) (hr : a_go call mi f pc al st h mc ms = some r) : z_next false h call mi f r (ν ++ [z_al h r'.1 (o_v ν x) (o_v ν y) (o_v ν k)]) (z_al h) pc' bl' bs' := by
  obtain ⟨f', e, q, k1, k2⟩ := z_go4 hi rfl hr
  obtain ⟨w, ws, rfl, s1, s2⟩ := hs.c
  split at hm
  · rename_i ci s hf
    rw [Option.ite_none_right_eq_some] at hm
    obtain ⟨⟨c1, c2, c3, rfl, rfl, rfl⟩, hm⟩ := hm
    cases hm
    obtain ⟨a, rfl, ha⟩ := z_obj c1 s1
    unfold a_st4 at k1
    dsimp only at k1
    rw [hf] at k1
    dsimp only at k1
    split at k1
    · rename_i t vs hh
      rw [Option.ite_none_right_eq_some] at k1
      obtain ⟨-, k1⟩ := k1
      rw [Option.map_eq_some_iff] at k1
      obtain ⟨v, hv, rfl⟩ := k1
      refine ⟨f', _, _, _, _, _, e, k2, hl.app _, s2.top ?_, P, rfl, Or.inr rfl⟩
      rw [c3, show o_v ν (0, 0) = 0 from rfl, z_al_at ha c2, e_at_of hh hv]
    · cases k1
  · cases hm
theorem z_opR_l {r' x y k : ZN} {b : ZV} (hi : a_ins mi pc = some (.arraylength, len)) (hm : (if 2 ≤ b.1 ∧ z_isA (b.1 - 2) = true ∧ b.1 ≠ 53 ∧ r'.1 = (b.1 - 2) * 64 + 63 ∧ x = b.2.1 ∧ y = b.2.2 ∧ k = (0, 0) then some (pc + 1, bl, z_top ν.length :: bs) else none) = some (pc', bl', bs')) (hl : z_loc ν bl al) (hs : z_stk ν (b :: bs) st) (P : z_PI h) (hr : a_go call mi f pc al st h mc ms = some r) : z_next false h call mi f r (ν ++ [z_al h r'.1 (o_v ν x) (o_v ν y) (o_v ν k)]) (z_al h) pc' bl' bs' := by
  obtain ⟨f', e, q, k1, k2⟩ := z_go4 hi rfl hr
  obtain ⟨w, ws, rfl, s1, s2⟩ := hs.c
  rw [Option.ite_none_right_eq_some] at hm
  obtain ⟨⟨c1, c2, c4, c3, rfl, rfl, rfl⟩, hm⟩ := hm
  cases hm
  obtain ⟨a, rfl, ha⟩ := z_obj c1 s1
  unfold a_st4 at k1
  dsimp only at k1
  split at k1
  · rename_i t vs hh
    rw [Option.ite_none_right_eq_some] at k1
    obtain ⟨-, k1⟩ := k1
    cases k1
    refine ⟨f', _, _, _, _, _, e, k2, hl.app _, s2.top ?_, P, rfl, Or.inr rfl⟩
    rw [c3, show o_v ν (0, 0) = 0 from rfl, z_al_len ha c2 (by omega)]
    unfold e_len
    rw [hh]
    rfl
  · cases k1
theorem z_ald3 (h : z_ald i = true) : z_cl i = 3 := by
  cases i <;> first | rfl | (cases h; done)
theorem z_opR_a {r' x y k : ZN} {b eb : ZV} (hi : a_ins mi pc = some (i, len)) (hm : (if z_ald i = true ∧ 2 ≤ b.1 ∧ eb.1 < 2 ∧ z_isA (b.1 - 2) = true ∧ r'.1 = (b.1 - 2) * 64 ∧ x = b.2.1 ∧ y = b.2.2 ∧ k = eb.2.1 then some (pc + 1, bl, z_top ν.length :: bs) else none) = some (pc', bl', bs')) (hl : z_loc ν bl al) (hs : z_stk ν (eb :: b :: bs) st) (P : z_PI h) (hr : a_go call mi f pc al st h mc ms = some r) : z_next false h call mi f r (ν ++ [z_al h r'.1 (o_v ν x) (o_v ν y) (o_v ν k)]) (z_al h) pc' bl' bs' := by
  obtain ⟨u, us, rfl, s1, s2⟩ := hs.c
  obtain ⟨w, ws, rfl, s3, s4⟩ := s2.c
  rw [Option.ite_none_right_eq_some] at hm
  obtain ⟨⟨c0, c1, c2, c4, c3, rfl, rfl, rfl⟩, hm⟩ := hm
  cases hm
  obtain ⟨f', e, q, k1, k2⟩ := z_go3 hi (z_ald3 c0) hr
  obtain ⟨a, rfl, ha⟩ := z_obj c1 s3
  have hu := z_num s1 c2
  cases u <;> first
    | (cases k1; done)
    | skip
  rename_i j
  unfold a_st3 at k1
  dsimp only at k1
  split at k1
  · rename_i t vs hh
    rw [Option.ite_none_right_eq_some] at k1
    obtain ⟨-, k1⟩ := k1
    rw [Option.bind_eq_some_iff] at k1
    obtain ⟨n, hn, k1⟩ := k1
    rw [Option.map_eq_some_iff] at k1
    obtain ⟨v, hv, rfl⟩ := k1
    obtain ⟨n1, n2⟩ := z_ix hn
    have hu : j.toInt = o_v ν eb.2.1 := hu
    refine ⟨f', _, _, _, _, _, e, k2, hl.app _, s4.top ?_, P, rfl, Or.inr rfl⟩
    rw [← hu, ← n1, c3]
    have k0 := z_isA_slot c4 (k := (n : Int)) (by omega)
    rw [Int.toNat_natCast] at k0
    have := z_al_at (h := h) ha k0
    rw [Nat.add_zero] at this
    rw [this, e_at_of hh hv]
  · cases k1
theorem z_opR_ok {r' x y k : ZN} (hi : a_ins mi pc = some (i, len)) (hm : z_opR (a_own mi) i pc bl bs ν.length r' x y k = some (pc', bl', bs')) (hl : z_loc ν bl al) (hs : z_stk ν bs st) (P : z_PI h) (hr : a_go call mi f pc al st h mc ms = some r) : z_next false h call mi f r (ν ++ [z_al h r'.1 (o_v ν x) (o_v ν y) (o_v ν k)]) (z_al h) pc' bl' bs' := by
  unfold z_opR at hm
  split at hm
  · exact z_opR_f hi hm hl hs P hr
  · exact z_opR_l hi hm hl hs P hr
  · exact z_opR_a hi hm hl hs P hr
  · cases hm
/-! Writes -/
theorem z_slot_nat {f s n : Nat} {k : Int} (h : z_slot f s k = some n) : s < 63 := (z_slot_lt h).1
theorem z_opW_f {r' md x y k w' : ZN} {idx : Nat} {v b : ZV} (hi : a_ins mi pc = some (.putfield idx, len)) (hm : (match a_field (a_own mi) idx with
    | some (_, s) => if (v.1 < 2 ∧ 2 ≤ b.1) ∧ z_slot (b.1 - 2) s 0 = some s ∧ z_isA (b.1 - 2) = false ∧ z_po (b.1 - 2) s = none ∧ r'.1 = (b.1 - 2) * 64 + s ∧ md.1 = 0 ∧ x = b.2.1 ∧ y = b.2.2 ∧ k = (0, 0) ∧ w' = v.2.1 then some (pc + 3, bl, bs) else none
    | none => none) = some (pc', bl', bs')) (hl : z_loc ν bl al) (hs : z_stk ν (v :: b :: bs) st) (P : z_PI h) (hr : a_go call mi f pc al st h mc ms = some r) : z_next true h call mi f r ν (e_upd (z_al h) r'.1 (o_v ν x) (o_v ν y) (o_v ν k) (e_nar md.1 (o_v ν w'))) pc' bl' bs' := by
  obtain ⟨f', e, q, k1, k2⟩ := z_go4 hi rfl hr
  obtain ⟨wv, ws, rfl, s1, s2⟩ := hs.c
  obtain ⟨wb, us, rfl, s3, s4⟩ := s2.c
  split at hm
  · rename_i ci s hf
    rw [Option.ite_none_right_eq_some] at hm
    obtain ⟨⟨⟨c1, c2⟩, c3, c4, c5, c6, c7, rfl, rfl, rfl, rfl⟩, hm⟩ := hm
    cases hm
    obtain ⟨a, rfl, ha⟩ := z_obj c2 s3
    unfold a_st4 at k1
    dsimp only at k1
    rw [hf] at k1
    dsimp only at k1
    split at k1
    · rename_i t vs hh
      rw [Option.ite_none_right_eq_some] at k1
      obtain ⟨⟨-, hk, -⟩, k1⟩ := k1
      cases k1
      refine ⟨f', _, _, _, _, _, e, k2, hl, s4, z_PI_put P ha hh c5 (z_isA_pa c4), ?_, Or.inl rfl⟩
      rw [z_al_put ha c3 hh hk, c6, c7, z_num s1 c1]
      rfl
    · cases k1
  · cases hm
theorem z_ast4 {m : Nat} (h : z_ast i = some m) : z_cl i = 4 := by
  cases i <;> first | rfl | (cases h; done)
theorem z_ast_v {t m : Nat} {x v : Value} (h : z_ast i = some m) (ha : a_ast i t x = some v) : e_v v = e_nar m (e_v x) := by
  cases i <;> first
    | (simp [z_ast] at h; done)
    | skip
  all_goals
    cases h
    cases x <;> first
      | (cases ha; done)
      | skip
    all_goals
      rename_i X
      simp only [a_ast, Option.ite_none_right_eq_some] at ha
      obtain ⟨-, ha⟩ := ha
      cases ha
      first
        | rfl
        | (unfold e_nar; rw [show e_v (.int X) = X.toInt from rfl, z_ofI]; rfl)
theorem z_opW_a {r' md x y k w' : ZN} {m : Nat} {v eb b : ZV} (hi : a_ins mi pc = some (i, len)) (hz : z_ast i = some m) (hm : (if (v.1 < 2 ∧ eb.1 < 2 ∧ 2 ≤ b.1) ∧ z_isA (b.1 - 2) = true ∧ z_pa (b.1 - 2) = none ∧ r'.1 = (b.1 - 2) * 64 ∧ md.1 = m ∧ x = b.2.1 ∧ y = b.2.2 ∧ k = eb.2.1 ∧ w' = v.2.1 then some (pc + 1, bl, bs) else none) = some (pc', bl', bs')) (hl : z_loc ν bl al) (hs : z_stk ν (v :: eb :: b :: bs) st) (P : z_PI h) (hr : a_go call mi f pc al st h mc ms = some r) : z_next true h call mi f r ν (e_upd (z_al h) r'.1 (o_v ν x) (o_v ν y) (o_v ν k) (e_nar md.1 (o_v ν w'))) pc' bl' bs' := by
  obtain ⟨f', e, q, k1, k2⟩ := z_go4 hi (z_ast4 hz) hr
  obtain ⟨wv, ws, rfl, s1, s2⟩ := hs.c
  obtain ⟨we, us, rfl, s3, s4⟩ := s2.c
  obtain ⟨wb, bs0, rfl, s5, s6⟩ := s4.c
  rw [Option.ite_none_right_eq_some] at hm
  obtain ⟨⟨⟨c1, c2, c3⟩, c4, c5, c6, c7, rfl, rfl, rfl, rfl⟩, hm⟩ := hm
  cases hm
  obtain ⟨a, rfl, ha⟩ := z_obj c3 s5
  have hu := z_num s3 c2
  have k3 : ∃ j : Int32, we = .int j ∧ (match h[a]? with
    | some (t, vs) => match a_ast i t wv with
      | some v => (a_ix j vs.length).map (fun n => ((pc + 1, al, bs0, h.set a (t, vs.set n v), 0, 0) : AS))
      | none => none
    | none => none) = some q := by
    cases i <;> first
      | (simp [z_ast] at hz; done)
      | (cases we <;> first
        | (cases k1; done)
        | exact ⟨_, rfl, k1⟩)
  obtain ⟨j, rfl, k3⟩ := k3
  have hu : j.toInt = o_v ν eb.2.1 := hu
  split at k3
  · rename_i t vs hh
    split at k3
    · rename_i v' hv'
      rw [Option.map_eq_some_iff] at k3
      obtain ⟨n, hn, rfl⟩ := k3
      obtain ⟨n1, n2⟩ := z_ix hn
      refine ⟨f', _, _, _, _, _, e, k2, hl, s6, z_PI_put P ha hh (z_isA_po c4 n) c5, ?_, Or.inl rfl⟩
      have k0 := z_isA_slot c4 (k := (n : Int)) (by omega)
      rw [Int.toNat_natCast] at k0
      have := z_al_put (v := v') ha k0 hh n2
      rw [Nat.add_zero] at this
      rw [this, c6, c7, ← z_num s1 c1, ← hu, n1, z_ast_v hz hv']
    · cases k3
  · cases k3
theorem z_opW_ok {r' md x y k w' : ZN} (hi : a_ins mi pc = some (i, len)) (hm : z_opW (a_own mi) i pc bl bs r' md x y k w' = some (pc', bl', bs')) (hl : z_loc ν bl al) (hs : z_stk ν bs st) (P : z_PI h) (hr : a_go call mi f pc al st h mc ms = some r) : z_next true h call mi f r ν (e_upd (z_al h) r'.1 (o_v ν x) (o_v ν y) (o_v ν k) (e_nar md.1 (o_v ν w'))) pc' bl' bs' := by
  unfold z_opW at hm
  split at hm
  · exact z_opW_f hi hm hl hs P hr
  · split at hm
    · exact z_opW_a hi (by assumption) hm hl hs P hr
    · cases hm
  · cases hm
/-! Arrays made, stretches copied -/
theorem z_row0 {ty : FieldType} {n : Nat} : ∀ v ∈ (a_row ty n).2, e_v v = 0 := by
  intro v hv
  have : v = defaultValue ty := by
    unfold a_row at hv
    exact List.eq_of_mem_replicate hv
  rw [this]
  cases ty <;> first | rfl | decide
theorem z_opN_ok {t : ArrayType} {b : ZV} (hi : a_ins mi pc = some (.newarray t, len)) (hl : z_loc ν bl al) (hs : z_stk ν (b :: bs) st) (P : z_PI h) (hr : a_go call mi f pc al st h mc ms = some r) : z_next true h call mi f r (ν ++ [z_al h z_rA 0 0 0]) (e_upd (z_al h) z_rA 0 0 0 (z_al h z_rA 0 0 0 + 1)) (pc + 2) bl ((53, (ν.length + 1, 0), (0, 0)) :: bs) := by
  obtain ⟨w, ws, rfl, s1, s2⟩ := hs.c
  obtain ⟨f', e, k⟩ := z_goS hi (by show (5 : Nat) ≠ 0; decide) (by show (5 : Nat) ≠ 10; decide) (by show (5 : Nat) ≠ 8; decide) (fun q => absurd q (by show ¬ (5 : Nat) = 6; decide)) hr
  rcases k with ⟨q, k1, k2⟩ | ⟨k, -⟩
  · rcases z_stp (by show (5 : Nat) ≠ 0; decide) k1 with ⟨a, -⟩ | ⟨-, ⟨a, -⟩ | ⟨a, -⟩ | ⟨a, -⟩ | ⟨a, -⟩ | ⟨-, b⟩⟩
    · exact absurd a (by show ¬ (5 : Nat) = 9; decide)
    · exact absurd a (by show ¬ (5 : Nat) = 1; decide)
    · exact absurd a (by show ¬ (5 : Nat) = 4; decide)
    · exact absurd a (by show ¬ (5 : Nat) = 2; decide)
    · exact absurd a (by show ¬ (5 : Nat) = 3; decide)
    · cases w <;> first
        | (cases b; done)
        | skip
      unfold a_st5 at b
      dsimp only at b
      rw [Option.ite_none_right_eq_some] at b
      obtain ⟨-, b⟩ := b
      rw [Option.map_eq_some_iff] at b
      obtain ⟨n, hn, rfl⟩ := b
      obtain ⟨g1, g2, g3⟩ := z_al_new (t := (a_row (Op.newarray.typeOf t) n).1) (vs := (a_row (Op.newarray.typeOf t) n).2) P z_row0
      refine ⟨f', _, _, _, _, _, e, k2, hl.app _, ⟨⟨?_, Nat.zero_le _, _, rfl, ?_⟩, s2.app _⟩, g2, g1, Or.inl rfl⟩
      · show ν.length + 1 ≤ (ν ++ [_]).length
        rw [List.length_append]
        exact Nat.le_refl _
      · show z_ad 51 (o_v _ (ν.length + 1, 0)) 0 = some _
        rw [o_new]
        exact g3
  · rcases k with k | k
    · exact absurd k (by show ¬ (5 : Nat) = 6; decide)
    · exact absurd k (by show ¬ (5 : Nat) = 7; decide)
theorem z_nn {x : Int32} (h : ¬ x < 0) : 0 ≤ x.toInt ∧ x.toNatClampNeg = x.toInt.toNat := by
  refine ⟨?_, rfl⟩
  by_cases q : x.toInt < 0
  · exact absurd (Int32.lt_iff_toInt_lt.mpr (by simpa using q)) h
  · omega
theorem z_opC_1 {r' x y sp r'' x' y' dp m : ZN} {idx : Nat} {n d b s a : ZV} (hi : a_ins mi pc = some (.invokestatic idx, len)) (hm : (if (a_own mi = 12 ∧ idx = 166) ∧ ((a_of a_inv (a_own mi)).find? (fun e => e.1 == idx && e.2.1 == 1)).isNone = true ∧ ((a_of a_mat (a_own mi)).find? (fun e => e.1 == idx)).isNone = true ∧ (2 ≤ a.1 ∧ 2 ≤ b.1 ∧ n.1 < 2 ∧ d.1 < 2 ∧ s.1 < 2) ∧ (z_isA (a.1 - 2) = true ∧ z_isA (b.1 - 2) = true ∧ z_pa (b.1 - 2) = none) ∧ (r'.1 = (a.1 - 2) * 64 ∧ x = a.2.1 ∧ y = a.2.2 ∧ sp = s.2.1) ∧ (r''.1 = (b.1 - 2) * 64 ∧ x' = b.2.1 ∧ y' = b.2.2 ∧ dp = d.2.1) ∧ m = n.2.1 then some (pc + 3, bl, bs) else none) = some (pc', bl', bs')) (hl : z_loc ν bl al) (hs : z_stk ν (n :: d :: b :: s :: a :: bs) st) (P : z_PI h) (hr : a_go call mi f pc al st h mc ms = some r) : z_next true h call mi f r ν (e_acp (z_al h) r'.1 (o_v ν x) (o_v ν y) (o_v ν sp) r''.1 (o_v ν x') (o_v ν y') (o_v ν dp) (o_v ν m)) pc' bl' bs' := by
  obtain ⟨w1, t1, rfl, s1, s⟩ := hs.c
  obtain ⟨w2, t2, rfl, s2, s⟩ := s.c
  obtain ⟨w3, t3, rfl, s3, s⟩ := s.c
  obtain ⟨w4, t4, rfl, s4, s⟩ := s.c
  obtain ⟨w5, t5, rfl, s5, s6⟩ := s.c
  rw [Option.ite_none_right_eq_some] at hm
  obtain ⟨⟨⟨c1, c2⟩, c3, c4, ⟨c5, c6, c7, c8, c9⟩, ⟨c10, c11, c12⟩, ⟨c13, rfl, rfl, rfl⟩, ⟨c14, rfl, rfl, rfl⟩, rfl⟩, hm⟩ := hm
  cases hm
  have hca : a_call (a_own mi) (.invokestatic idx) (w1 :: w2 :: w3 :: w4 :: w5 :: t5) h = none := by
    unfold a_call
    dsimp only
    rw [Option.isNone_iff_eq_none.mp c3]
  obtain ⟨f', e, k⟩ := z_goS hi (by show (6 : Nat) ≠ 0; decide) (by show (6 : Nat) ≠ 10; decide) (by show (6 : Nat) ≠ 8; decide) (fun _ => hca) hr
  obtain ⟨a3, rfl, ha3⟩ := z_obj c6 s3
  obtain ⟨a5, rfl, ha5⟩ := z_obj c5 s5
  have u1 := z_num s1 c7
  have u2 := z_num s2 c8
  have u4 := z_num s4 c9
  rcases k with ⟨q, k1, k2⟩ | ⟨-, st', h', k1, k2⟩
  · exfalso
    rcases z_stp (by show (6 : Nat) ≠ 0; decide) k1 with ⟨a, -⟩ | ⟨-, ⟨a, -⟩ | ⟨a, -⟩ | ⟨a, -⟩ | ⟨a, -⟩ | ⟨-, b⟩⟩
    · exact absurd a (by show ¬ (6 : Nat) = 9; decide)
    · exact absurd a (by show ¬ (6 : Nat) = 1; decide)
    · exact absurd a (by show ¬ (6 : Nat) = 4; decide)
    · exact absurd a (by show ¬ (6 : Nat) = 2; decide)
    · exact absurd a (by show ¬ (6 : Nat) = 3; decide)
    · cases w1 <;> first
        | (cases b; done)
        | skip
      cases w2 <;> first
        | (cases b; done)
        | skip
      unfold a_st5 at b
      dsimp only at b
      rw [Option.isNone_iff_eq_none.mp c4] at b
      cases b
  · cases w1 <;> first
      | (cases k1; done)
      | skip
    cases w2 <;> first
      | (cases k1; done)
      | skip
    cases w4 <;> first
      | (cases k1; done)
      | skip
    unfold a_acp at k1
    dsimp only at k1
    rw [Option.ite_none_right_eq_some] at k1
    obtain ⟨⟨-, -, b1, -, b2, b3, b4⟩, k1⟩ := k1
    split at k1
    · rename_i n0 d0 s0 _ _ t vs u ws hA hB
      split at k1
      · rename_i ty hty
        rw [Option.ite_none_right_eq_some] at k1
        obtain ⟨⟨-, -, -, b5, b6, -⟩, k1⟩ := k1
        cases k1
        obtain ⟨n1, n2⟩ := z_nn b2
        obtain ⟨n3, n4⟩ := z_nn b3
        obtain ⟨n5, n6⟩ := z_nn b4
        rw [n2, n6] at b5
        rw [n4, n6] at b6
        rw [b1] at k2
        refine ⟨f', _, _, _, _, _, e, k2, hl, s6, ?_, ?_, Or.inl rfl⟩
        · exact z_PI_set P ha3 hB (fun n => z_isA_po c11 n) c12
        · rw [n2, n4, n6, z_al_acp ha5 ha3 hA hB (fun k hk => z_isA_slot c10 hk) (fun k hk => z_isA_slot c11 hk) n1 n3 b5 b6, c13, c14, ← u1, ← u2, ← u4]
          congr 1
          show (_ : Int) = Int32.toInt _
          omega
      · cases k1
    · cases k1
/-- an operation that writes -/
def z_wop (op : ZO) : Bool := op.1 == 6 || (op.1 == 8 || op.1 == 9)
theorem z_op_ok {op : ZO} (hi : a_ins mi pc = some (i, len)) (hm : z_op1 (a_own mi) i pc bl bs ν.length op = some (pc', bl', bs')) (hl : z_loc ν bl al) (hs : z_stk ν bs st) (P : z_PI h) (hr : a_go call mi f pc al st h mc ms = some r) : z_next (z_wop op) h call mi f r (z_nx op ν (z_al h)).1 (z_nx op ν (z_al h)).2 pc' bl' bs' ∧ (z_nx op ν (z_al h)).1.length = z_nm op ν.length ∧ ∀ (F : Nat → ZFn) (n : Nat) (p : List ZO), z_ev F (n + 1) (op :: p) ν (z_al h) = z_ev F n p (z_nx op ν (z_al h)).1 (z_nx op ν (z_al h)).2 := by
  have la : ∀ z : Int, (ν ++ [z]).length = ν.length + 1 := fun z => by rw [List.length_append]; rfl
  unfold z_op1 at hm
  split at hm
  · exact ⟨z_opA_ok hi hm hl hs P hr, la _, fun F n p => rfl⟩
  · exact ⟨z_opR_ok hi hm hl hs P hr, la _, fun F n p => rfl⟩
  · exact ⟨z_opW_ok hi hm hl hs P hr, rfl, fun F n p => rfl⟩
  · split at hm
    · cases hm
      exact ⟨z_opN_ok hi hl hs P hr, la _, fun F n p => rfl⟩
    · cases hm
  · unfold z_opC at hm
    split at hm
    · exact ⟨z_opC_1 hi hm hl hs P hr, rfl, fun F n p => rfl⟩
    · cases hm
  · cases hm
end OP
