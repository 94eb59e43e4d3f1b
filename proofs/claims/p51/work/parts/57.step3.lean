/-! Fields, array stores, the pool, tables; the step as a whole -/
section BS3
variable {K : BH} {ν : BN} {h0 h : AH} {G : BG}
theorem b_keyF {a g : Nat} {row : BR} {k : Nat} (h1 : K.1 a = some g) (h2 : K.2.1 g = some row) (h3 : row.2.2.1 = 0) : b_key K a k = some (g, k) := by
  unfold b_key
  rw [h1]; dsimp only
  rw [h2]; dsimp only
  rw [if_pos h3]
theorem b_keyA {a g : Nat} {row : BR} {k : Nat} (h1 : K.1 a = some g) (h2 : K.2.1 g = some row) (h3 : row.2.2.1 ≠ 0) : b_key K a k = some (g, 0) := by
  unfold b_key
  rw [h1]; dsimp only
  rw [h2]; dsimp only
  rw [if_neg h3]
/-- the value that an array of ints, booleans or chars keeps -/
theorem b_asv_ok {i : Instr} {t : Nat} {v : BV} {x : Value} (g : b_sat K G.1 ν) (hv : b_v G.1.length ν v x) (ha : b_asv i t G.1 v = true) : a_ast i t x = some x := by
  cases i <;> simp only [b_asv] at ha <;> (try (cases ha; done))
  case iastore =>
    rw [Bool.and_eq_true, decide_eq_true_eq, Bool.and_eq_true] at ha
    obtain ⟨X, rfl, hX⟩ := hv.int ha.1
    have e1 : ¬ t = 19 := by simpa using ha.2.1
    have e2 : a_aty t = some .int := by simpa using ha.2.2
    show (if _ then _ else _) = _
    rw [if_pos ⟨e1, e2⟩]
  case lastore =>
    rw [Bool.and_eq_true, beq_iff_eq, beq_iff_eq] at ha
    have h1 := hv.kind
    rw [ha.1] at h1
    obtain ⟨X, rfl⟩ : ∃ X, x = .long X := by cases x <;> first | exact ⟨_, rfl⟩ | (simp [a_kind] at h1)
    show (if _ then _ else _) = _
    rw [if_pos ha.2]
  case dastore =>
    rw [Bool.and_eq_true, beq_iff_eq, beq_iff_eq] at ha
    have h1 := hv.kind
    rw [ha.1] at h1
    obtain ⟨X, rfl⟩ : ∃ X, x = .double X := by cases x <;> first | exact ⟨_, rfl⟩ | (simp [a_kind] at h1)
    show (if _ then _ else _) = _
    rw [if_pos ha.2]
  case bastore =>
    rw [Bool.and_eq_true, decide_eq_true_eq, Bool.and_eq_true] at ha
    obtain ⟨X, rfl, hX⟩ := hv.int ha.1
    have e2 : a_aty t = some .boolean := by simpa using ha.2.1
    have iv := b_iv_ok g hX
    have e3 := (s_fit_ok (x := X) (ty := .boolean) ⟨_, List.mem_cons_self, iv⟩ ha.2.2).1
    show (if _ then some (narrow .boolean (.int X)) else _) = _
    rw [if_pos e2, e3]
  case castore =>
    rw [Bool.and_eq_true, decide_eq_true_eq, Bool.and_eq_true] at ha
    obtain ⟨X, rfl, hX⟩ := hv.int ha.1
    have e2 : a_aty t = some .char := by simpa using ha.2.1
    have iv := b_iv_ok g hX
    have e3 := (s_fit_ok (x := X) (ty := .char) ⟨_, List.mem_cons_self, iv⟩ ha.2.2).1
    show (if _ then some (narrow .char (.int X)) else _) = _
    rw [if_pos e2, e3]
theorem b_asvI {i : Instr} {t : Nat} {E : BQ} {v : BV} (ha : b_asv i t E v = true) : i = .iastore ∨ i = .bastore ∨ i = .castore ∨ i = .lastore ∨ i = .dastore := by
  cases i <;> simp only [b_asv] at ha <;> first | (cases ha; done) | simp
theorem b_st4A {own : Nat} {ini : Bool} {i : Instr} {pc : Nat} {al : AL} {st : List Value} {h : AH} {a t n : Nat} {vs : List Value} {x : Value} {j : Int32} (hi : i = .iastore ∨ i = .bastore ∨ i = .castore ∨ i = .lastore ∨ i = .dastore) (ha : h[a]? = some (t, vs)) (h1 : a_ast i t x = some x) (h2 : a_ix j vs.length = some n) : a_st4 own ini i pc al (x :: .int j :: .ref a :: st) h = some (pc + 1, al, st, h.set a (t, vs.set n x), 0, 0) := by
  rcases hi with rfl | rfl | rfl | rfl | rfl <;> (unfold a_st4; dsimp only; rw [ha]; dsimp only; rw [h1]; dsimp only; rw [h2]; rfl)
theorem b_st4_ok (hJ : b_JF K) (g : b_G K ν h0 h G) {own : Nat} {ini : Bool} {i : Instr} {pc : Nat} {bl : BL} {bs : List BV} {al : AL} {st : List Value} {L : List BZ} (hl : b_L G.1.length ν bl al) (hs : b_S G.1.length ν bs st) (hr : b_st4 K own i pc bl bs G = some L) : ∃ pc' al' st' h', a_st4 own ini i pc al st h = some (pc', al', st', h', 0, 0) ∧ ∃ o ∈ L, b_Z K ν h0 G.1.length o pc' al' st' h' := by
  unfold b_st4 at hr
  split at hr
  · rename_i base bs'
    split at hr
    · rename_i gg row hrow
      obtain ⟨v, st', rfl, h1, h2⟩ := hs.inv
      obtain ⟨a, vs, rfl, ha, -, -, m1, m2, m3⟩ := g.2.2.2.2.1.at g.1 h1 hrow
      have e : (a_aty row.1).isSome = true → a_st4 own ini .arraylength pc al (.ref a :: st') h = some (pc + 1, al, .int vs.length.toInt32 :: st', h, 0, 0) := fun q => by
        unfold a_st4
        dsimp only
        rw [m1]
        dsimp only
        rw [if_pos q]
      split at hr
      · rename_i hc
        cases hr
        refine ⟨_, _, _, _, e hc.2.1, _, List.mem_cons_self, rfl, ν, b_ext.rf, hl, b_S.cons ?_ h2, g⟩
        refine Or.inl ⟨rfl, ?_⟩
        have e2 : vs.length = row.2.1 := m2 (by rw [hc.1]; decide)
        have e3 : vs.length.toInt32 = nI vs.length := rfl
        rw [e3, nI_toInt (by omega), e2]
      · split at hr
        · rename_i hc
          split at hr
          · rename_i f hf
            split at hr
            · rename_i hb
              cases hr
              refine ⟨_, _, _, _, e hc.2, _, List.mem_cons_self, rfl, ν, b_ext.rf, hl, b_S.cons ?_ h2, g⟩
              have k1 := g.2.1 f (List.mem_of_find?_eq_some hf)
              have k2 := List.find?_some hf
              simp only [Bool.and_eq_true, beq_iff_eq] at k2
              obtain ⟨a', t', vs', n1, n2, n3⟩ := k1
              rw [k2.1] at n1
              have e5 := n1.fn ha
              subst e5
              rw [m1] at n2
              cases n2
              rw [if_pos k2.2] at n3
              have iv : (b_iv G.1 f.2.2).1 ≤ (vs.length : Int) ∧ (vs.length : Int) ≤ (b_iv G.1 f.2.2).2 ∨ (vs.length : Int) ≤ 2147483647 := by
                rcases n3 with ⟨q1, q2⟩ | ⟨q1, q2, q3⟩
                · left
                  unfold b_iv
                  rw [if_pos q1]
                  exact ⟨by rw [q2]; exact Int.le_refl _, by rw [q2]; exact Int.le_refl _⟩
                · have hb1 := hb.2.1
                  have hb2 := hb.2.2
                  unfold b_iv at hb1 hb2 ⊢
                  rw [if_neg (by omega)] at hb1 hb2 ⊢
                  split at hb1
                  · rename_i lo hi he
                    have hq := g.1 _ _ he
                    unfold b_q at hq
                    rw [if_pos rfl] at hq
                    dsimp only at hq hb1 hb2 ⊢
                    left
                    omega
                  · exact absurd hb1 (by decide)
              have iv2 : (vs.length : Int) ≤ 2147483647 := by
                rcases iv with q | q
                · omega
                · exact q
              have e3 : vs.length.toInt32 = nI vs.length := rfl
              show b_i _ ν _ _
              rw [e3, nI_toInt (by omega)]
              exact n3
            · cases hr
          · cases hr
        · cases hr
    · cases hr
  · rw [Option.map_eq_some_iff] at hr
    obtain ⟨q, k1, rfl⟩ := hr
    refine ⟨_, _, _, _, ?_, _, List.mem_cons_self, rfl, ν, b_ext.rf, hl, b_S.cons (v := .int q.2.1) (Or.inl ⟨rfl, rfl⟩) hs, g⟩
    unfold a_st4
    dsimp only
    rw [k1]; rfl
  · rw [Option.map_eq_some_iff] at hr
    obtain ⟨q, k1, rfl⟩ := hr
    refine ⟨_, _, _, _, ?_, _, List.mem_cons_self, rfl, ν, b_ext.rf, hl, b_S.cons (v := .int q.2.1) (Or.inl ⟨rfl, rfl⟩) hs, g⟩
    unfold a_st4
    dsimp only
    rw [k1]; rfl
  · rw [Option.map_eq_some_iff] at hr
    obtain ⟨q, k1, rfl⟩ := hr
    refine ⟨_, _, _, _, ?_, _, List.mem_cons_self, rfl, ν, b_ext.rf, hl, b_S.cons (v := .long q.2.1) (Or.inl rfl) hs, g⟩
    unfold a_st4
    dsimp only
    rw [k1]; rfl
  · rename_i idx base bs'
    split at hr
    · rename_i ci k hf
      split at hr
      · rename_i gg row hrow
        split at hr
        · rename_i hc
          obtain ⟨c1, c2, c3⟩ := hc
          split at hr
          · rename_i ty hty
            rw [Option.map_eq_some_iff] at hr
            obtain ⟨o, ho, rfl⟩ := hr
            obtain ⟨v, st', rfl, h1, h2⟩ := hs.inv
            obtain ⟨a, vs, rfl, ha, -, -, m1, m2, m3⟩ := g.2.2.2.2.1.at g.1 h1 hrow
            have m1 : h[a]? = some (row.1, vs) := m1
            have hk : k < vs.length := by rw [m2 (by show row.2.2.1 ≠ 2; omega)]; exact c3
            have hv := List.getElem?_eq_getElem hk
            have e : a_st4 own ini (.getfield idx) pc al (.ref a :: st') h = some (pc + 3, al, vs[k] :: st', h, 0, 0) := by
              unfold a_st4
              dsimp only
              rw [hf]
              dsimp only
              rw [m1]
              dsimp only
              rw [if_pos c1, hv]; rfl
            exact ⟨_, _, _, _, e, _, List.mem_cons_self, b_one (b_ld_ok g ha m1 (j := k) (Or.inl ⟨rfl, rfl⟩) hv (m3 _ _ _ hv hty) ho) hl h2⟩
          · cases hr
        · cases hr
      · cases hr
    · cases hr
  · rename_i idx v base bs'
    split at hr
    · rename_i ci k hf
      split at hr
      · rename_i gg row hrow
        split at hr
        · rename_i hc
          obtain ⟨c1, c2, c3, c4, c5, c6, c7⟩ := hc
          split at hr
          · rename_i ty hty
            split at hr
            · rename_i hfit
              cases hr
              obtain ⟨x, st1, rfl, h1, h2⟩ := hs.inv
              obtain ⟨v2, st', rfl, h4, h5⟩ := h2.inv
              obtain ⟨a, vs, rfl, ha, z1, z2, m1, m2, m3⟩ := g.2.2.2.2.1.at g.1 h4 hrow
              have m1 : h[a]? = some (row.1, vs) := m1
              obtain ⟨X, rfl, hX⟩ := h1.int c4
              have hk : k < vs.length := by rw [m2 (by show row.2.2.1 ≠ 2; omega)]; exact c3
              obtain ⟨f1, f2⟩ := s_fit_ok (x := X) ⟨_, List.mem_cons_self, b_iv_ok g.1 hX⟩ c5
              have e : a_st4 own ini (.putfield idx) pc al (.int X :: .ref a :: st') h = some (pc + 3, al, st', h.set a (row.1, vs.set k (.int X)), 0, 0) := by
                unfold a_st4
                dsimp only
                rw [hf]
                dsimp only
                rw [m1]
                dsimp only
                rw [if_pos ⟨c1, hk, f1, f2, Or.inl c6⟩]
              refine ⟨_, _, _, _, e, _, List.mem_cons_self, rfl, ν, b_ext.rf, hl, h5, b_put_ok hJ g ha m1 (Or.inl ⟨rfl, rfl⟩) hk h1 (b_keyF z1 z2 c2) c7 (fun g' row' ty' y1 y2 y3 => ?_)⟩
              rw [z1] at y1
              cases y1
              rw [z2] at y2
              cases y2
              have y3 : b_ty row k = some ty' := y3
              rw [hty] at y3
              cases y3
              exact b_fit_ok g.1 h1 hfit
            · cases hr
          · cases hr
        · cases hr
      · cases hr
    · cases hr
  · rename_i i v x base bs' _ _ _ _ _ _
    split at hr
    · rename_i gg row hrow
      split at hr
      · rename_i hc
        obtain ⟨c1, c2, c3, c7⟩ := hc
        split at hr
        · rename_i ty hty
          split at hr
          · rename_i hfit
            cases hr
            obtain ⟨w, st1, rfl, h1, h2⟩ := hs.inv
            obtain ⟨v2, st2, rfl, h4, h5⟩ := h2.inv
            obtain ⟨v3, st', rfl, h6, h7⟩ := h5.inv
            obtain ⟨a, vs, rfl, ha, z1, z2, m1, m2, m3⟩ := g.2.2.2.2.1.at g.1 h6 hrow
            have m1 : h[a]? = some (row.1, vs) := m1
            have m2 : row.2.2.1 ≠ 2 → vs.length = row.2.1 := m2
            have hx : x.1 < 2 := by
              unfold b_inb at c3
              rw [Bool.and_eq_true, decide_eq_true_eq] at c3
              exact c3.1
            obtain ⟨j, rfl, hj⟩ := h4.int hx
            obtain ⟨i1, i2⟩ := b_inb_ok g ha m1 m2 hj c3
            obtain ⟨k1, k2, k3⟩ := b_ix_ok i1 i2
            have e := b_st4A (own := own) (ini := ini) (pc := pc) (al := al) (st := st') (b_asvI c2) m1 (b_asv_ok g.1 h1 c2) k1
            have n0 : row.2.2.1 ≠ 0 := by omega
            refine ⟨_, _, _, _, e, _, List.mem_cons_self, rfl, ν, b_ext.rf, hl, h7, b_put_ok hJ g ha m1 (by rw [k3]; exact hj) k2 h1 (b_keyA z1 z2 n0) c7 (fun g' row' ty' y1 y2 y3 => ?_)⟩
            rw [z1] at y1
            cases y1
            rw [z2] at y2
            cases y2
            have y3 : b_ty row _ = some ty' := y3
            rw [b_tyA n0, hty] at y3
            cases y3
            exact b_fit_ok g.1 h1 hfit
          · cases hr
        · cases hr
      · cases hr
    · cases hr
  · cases hr
theorem b_catL {N : Nat} : ∀ {bs : List BV} {st : List Value}, b_S N ν bs st → a_cat st = b_cat bs
  | [], st, hs => by rw [hs.inv0]; rfl
  | b :: bs, st, hs => by
    obtain ⟨v, st', rfl, h1, h2⟩ := hs.inv
    have h3 := b_catL h2
    have h5 : a_cat (v :: st') = v.category + a_cat st' := by unfold a_cat; rw [List.map_cons, List.sum_cons]
    rw [h5, h3, h1.cat, b_cat]
theorem b_st5_ok (g : b_G K ν h0 h G) {own : Nat} {i : Instr} {pc : Nat} {bl : BL} {bs : List BV} {al : AL} {st : List Value} {L : List BZ} (hl : b_L G.1.length ν bl al) (hs : b_S G.1.length ν bs st) (hr : b_st5 own i pc bl bs G = some L) : ∃ pc' al' st', a_st5 own i pc al st h = some (pc', al', st', h, 0, 0) ∧ ∃ o ∈ L, b_Z K ν h0 G.1.length o pc' al' st' h := by
  unfold b_st5 at hr
  split at hr
  · rename_i idx y x bs'
    split at hr
    · rename_i e he
      split at hr
      · rename_i hc
        cases hr
        obtain ⟨v, st', rfl, h1, h2⟩ := hs.inv
        obtain ⟨v2, st2, rfl, h4, h5⟩ := h2.inv
        obtain ⟨Y, rfl, h3⟩ := h1.int hc.2.1
        obtain ⟨X, rfl, h6⟩ := h4.int hc.1
        have hcat : a_cat st2 ≤ 8 := by rw [b_catL h5]; exact hc.2.2
        have eq : a_st5 own (.invokestatic idx) pc al (.int Y :: .int X :: st2) h = some (pc + 3, al, .int (b_f2 (if e.2.1 = true then 9 else 8) X Y) :: st2, h, 0, 0) := by
          unfold a_st5
          dsimp only
          rw [he]
          dsimp only
          rw [if_pos hcat]
          by_cases q : e.2.1 = true
          · rw [if_pos q, if_pos q]; rfl
          · rw [if_neg q, if_neg q]; rfl
        exact ⟨_, _, _, eq, _, List.mem_cons_self, b_one (b_ar_ok g h6 h3) hl h5⟩
      · cases hr
    · cases hr
  · cases hr
theorem b_sw_ok (g : b_G K ν h0 h G) {i : Instr} {pc : Nat} {bl : BL} {bs : List BV} {al : AL} {st : List Value} {L : List BZ} (hl : b_L G.1.length ν bl al) (hs : b_S G.1.length ν bs st) (hr : b_sw i pc bl bs G = some L) : ∃ pc' al' st', a_sw i pc al st h = some (pc', al', st', h, 0, 0) ∧ ∃ o ∈ L, b_Z K ν h0 G.1.length o pc' al' st' h := by
  unfold b_sw at hr
  split at hr
  · rename_i dflt lo hi offs x bs'
    split at hr
    · rename_i hc
      obtain ⟨v, st', rfl, h1, h2⟩ := hs.inv
      obtain ⟨X, rfl, h3⟩ := h1.int hc.1
      have iv := b_iv_ok g.1 h3
      have hm : X.toInt ∈ (List.range ((b_iv G.1 x).2 - (b_iv G.1 x).1 + 1).toNat).map fun (k : Nat) => (b_iv G.1 x).1 + (k : Int) := List.mem_map.mpr ⟨(X.toInt - (b_iv G.1 x).1).toNat, List.mem_range.mpr (by omega), by omega⟩
      obtain ⟨z, z1, z2⟩ := b_all_ok hr _ hm
      rw [Option.map_eq_some_iff] at z1
      obtain ⟨t, k1, rfl⟩ := z1
      have hX : a_if2 .eq X X = true := by simp [a_if2]
      obtain ⟨G1, m1, g1, l1⟩ := b_as_ok g (c := .eq) (y := (0, 0, X.toInt)) h3 (Or.inl ⟨rfl, rfl⟩) hX
      rw [m1] at z2
      have e : a_sw (.tableswitch dflt lo hi offs) pc al (.int X :: st') h = some (t, al, st', h, 0, 0) := by
        unfold a_sw
        dsimp only
        unfold b_swt at k1
        split at k1
        · rename_i hq
          rw [if_pos hq, k1]; rfl
        · rename_i hq
          rw [if_neg hq]
          rw [Option.bind_eq_some_iff] at k1
          obtain ⟨off, k0, k1⟩ := k1
          have k0' : offs[(X.toInt - lo).toNat]? = some off := by simpa using k0
          rw [k0']
          dsimp only [Option.bind]
          rw [k1]; rfl
      refine ⟨_, _, _, e, _, z2 _ List.mem_cons_self, rfl, ν, ?_, ?_, ?_, g1⟩
      · show b_ext _ G1.1.length _ _; rw [l1]; exact b_ext.rf
      · show b_L G1.1.length _ _ _; rw [l1]; exact hl
      · show b_S G1.1.length _ _ _; rw [l1]; exact h2
    · cases hr
  · cases hr
/-- the step -/
def b_stp (K : BH) (own : Nat) (i : Instr) (len pc : Nat) (bl : BL) (bs : List BV) (G : BG) : Option (List BZ) :=
  if a_stage i = 7 then b_sw i pc bl bs G else if len = a_len i then (match a_stage i with
  | 1 => b_st1 K i pc bl bs G
  | 2 => b_st2 i pc bl bs G
  | 3 => b_st3 K i pc bl bs G
  | 4 => b_st4 K own i pc bl bs G
  | 5 => b_st5 own i pc bl bs G
  | _ => none) else none
theorem b_stp_ok (hJ : b_JF K) (g : b_G K ν h0 h G) {own : Nat} {ini : Bool} {i : Instr} {len pc : Nat} {bl : BL} {bs : List BV} {al : AL} {st : List Value} {L : List BZ} (hl : b_L G.1.length ν bl al) (hs : b_S G.1.length ν bs st) (hr : b_stp K own i len pc bl bs G = some L) : ∃ pc' al' st' h', a_stp own ini i len pc al st h = some (pc', al', st', h', 0, 0) ∧ ∃ o ∈ L, b_Z K ν h0 G.1.length o pc' al' st' h' := by
  unfold b_stp at hr
  split at hr
  · obtain ⟨pc', al', st', e, k⟩ := b_sw_ok g hl hs hr
    exact ⟨pc', al', st', h, a_by7 e, k⟩
  · split at hr
    · rename_i hlen
      split at hr
      · obtain ⟨pc', al', st', e, k⟩ := b_st1_ok g hl hs hr
        exact ⟨pc', al', st', h, a_by1 hlen e, k⟩
      · obtain ⟨pc', al', st', e, k⟩ := b_st2_ok g hl hs hr
        exact ⟨pc', al', st', h, a_by2 hlen e, k⟩
      · obtain ⟨pc', al', st', e, k⟩ := b_st3_ok g hl hs hr
        exact ⟨pc', al', st', h, a_by3 hlen e, k⟩
      · obtain ⟨pc', al', st', h', e, k⟩ := b_st4_ok hJ (ini := ini) g hl hs hr
        exact ⟨pc', al', st', h', a_by4 hlen e, k⟩
      · obtain ⟨pc', al', st', e, k⟩ := b_st5_ok g hl hs hr
        exact ⟨pc', al', st', h, a_by5 hlen e, k⟩
      · cases hr
    · cases hr
end BS3
