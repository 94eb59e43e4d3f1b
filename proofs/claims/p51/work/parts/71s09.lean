/-! A method's code that is a program does what the program does -/
def z_out (q : (Option Value) ⊕ Nat) : Nat × List Int := match q with
  | .inl none => (0, [])
  | .inl (some v) => (0, [e_v v])
  | .inr k => (k + 1, [])
/-- a method does to the flat state what a function says -/
def z_met (mt nv : Nat) (ps : List ZV) (φ : ZFn) : Prop := ∀ (d : Nat) (as : List Value) (h : AH) (r : AR) (L : List Int), b_lim d mt as h = some r → z_PI h → L.length = nv → z_stk L ps as → z_PI r.2.1 ∧ (z_out r.1).1 < 1000 ∧ (z_out r.1, z_al r.2.1) = φ L (z_al h)
abbrev ZX : Type := ZR × Prop
def z_X (r : AR) : ZX := ((z_out r.1, z_al r.2.1), z_PI r.2.1 ∧ (z_out r.1).1 < 1000)
/-- a run of a method from a cut, with f steps, comes to X -/
def z_goes (Q : AH → Prop) (C : ZC) (mi f pc : Nat) (L : List Int) (S : ZS) (X : ZX) : Prop := ∃ (sg : ZL) (d : Nat) (al : AL) (h : AH) (mc ms : Nat) (r : AR), z_sg C pc = some (L.length, sg) ∧ a_go (b_lim d) mi f pc al [] h mc ms = some r ∧ z_loc L sg al ∧ (z_PI h ∧ Q h) ∧ z_al h = S ∧ X = z_X r
def z_post (Q : AH → Prop) (C : ZC) (mi f : Nat) (X : ZX) (R : ZR) : Prop := (R.1.1 < 1000 → X.1 = R ∧ X.2) ∧ (1000 ≤ R.1.1 → ∃ f', f' < f ∧ z_goes Q C mi f' (R.1.1 - 1000) R.1.2 R.2 X)
/-! Matching -/
theorem o_sb {ν : List Int} {xs : List ZN} {x y : ZN} (h : z_sb xs x = some y) : x.1 ≤ (xs.map (o_v ν)).length ∧ o_v (xs.map (o_v ν)) x = o_v ν y := by
  obtain ⟨n, c⟩ := x
  cases n with
  | zero =>
    cases h
    exact ⟨Nat.zero_le _, rfl⟩
  | succ n =>
    have h : xs[n]? = some y := h
    have hn := (List.getElem?_eq_some_iff.mp h).1
    refine ⟨by rw [List.length_map]; exact hn, ?_⟩
    show (xs.map (o_v ν)).getD n 0 = _
    rw [List.getD_eq_getElem?_getD, List.getElem?_map, h]
    rfl
theorem z_mt1_ok {ν : List Int} {xs : List ZN} {p b : ZV} {w : Value} (h : z_mt1 xs p b = true) (hv : z_val ν b w) : z_val (xs.map (o_v ν)) p w ∧ p.1 = b.1 := by
  unfold z_mt1 at h
  rw [Bool.and_eq_true, Bool.and_eq_true, beq_iff_eq, beq_iff_eq] at h
  obtain ⟨h1, h2, h3⟩ := h
  obtain ⟨k1, k2⟩ := o_sb (ν := ν) h2
  refine ⟨?_, h1⟩
  split at h3
  · rename_i c
    rw [beq_iff_eq] at h3
    obtain ⟨n, x, y⟩ := p
    have hb : b.1 < 2 := by
      have h1 : n = b.1 := h1
      have c : n < 2 := c
      omega
    exact z_val.n c k1 (by have h3 : y.1 = 0 := h3; omega) ((z_num hv hb).trans k2.symm)
  · rename_i c
    rw [beq_iff_eq] at h3
    obtain ⟨m1, m2⟩ := o_sb (ν := ν) h3
    obtain ⟨m, hm⟩ := Nat.exists_eq_add_of_le' (Nat.le_of_not_lt c)
    obtain ⟨a, rfl, ha⟩ := z_ref hv (h1.symm.trans hm)
    refine ⟨k1, m1, ?_⟩
    rw [k2, m2, hm]
    exact ⟨a, rfl, ha⟩
theorem z_mtA_ok {ν : List Int} {xs : List ZN} : ∀ {ps bs : List ZV} {ws : List Value}, z_mtA xs ps bs = true → z_stk ν bs ws → z_stk (xs.map (o_v ν)) ps ws
  | [], [], ws, _, h => by
    obtain rfl := z_stk.n h
    exact trivial
  | p :: ps, b :: bs, ws, hm, h => by
    obtain ⟨w, ws, rfl, h1, h2⟩ := h.c
    rw [z_mtA, Bool.and_eq_true] at hm
    exact ⟨(z_mt1_ok hm.1 h1).1, z_mtA_ok hm.2 h2⟩
  | [], _ :: _, _, hm, _ => by cases hm
  | _ :: _, [], _, hm, _ => by cases hm
theorem z_mtL_get {xs : List ZN} : ∀ {ps bl : ZL}, z_mtL xs ps bl = true → ps.length = bl.length ∧ ∀ (i : Nat) (p : ZV), ps[i]? = some (some p) → ∃ b, bl[i]? = some (some b) ∧ z_mt1 xs p b = true
  | [], [], _ => ⟨rfl, fun i p h => by cases h⟩
  | none :: ps, b :: bl, h => by
    rw [z_mtL] at h
    obtain ⟨h1, h2⟩ := z_mtL_get h
    refine ⟨by rw [List.length_cons, List.length_cons, h1], fun i p hp => ?_⟩
    cases i with
    | zero => cases hp
    | succ i => exact h2 i p hp
  | some p :: ps, some b :: bl, h => by
    rw [z_mtL, Bool.and_eq_true] at h
    obtain ⟨h1, h2⟩ := z_mtL_get h.2
    refine ⟨by rw [List.length_cons, List.length_cons, h1], fun i p' hp => ?_⟩
    cases i with
    | zero =>
      cases hp
      exact ⟨b, rfl, h.1⟩
    | succ i => exact h2 i p' hp
  | some _ :: _, none :: _, h => by cases h
  | [], _ :: _, h => by cases h
  | none :: _, [], h => by cases h
  | some _ :: _, [], h => by cases h
theorem z_mtL_ok {ν : List Int} {xs : List ZN} {sg bl : ZL} {al : AL} (h : z_mtL xs sg bl = true) (hl : z_loc ν bl al) : z_loc (xs.map (o_v ν)) sg al := by
  obtain ⟨h1, h2⟩ := z_mtL_get h
  refine ⟨h1.trans hl.1, fun i p hp => ?_⟩
  obtain ⟨b, b1, b2⟩ := h2 i p hp
  obtain ⟨w, w1, w2, w3⟩ := hl.2 i b b1
  obtain ⟨k1, k2⟩ := z_mt1_ok b2 w2
  exact ⟨w, w1, k1, fun q => w3 (by rw [← k2]; exact q)⟩
/-! Ends -/
section EN
variable {d : Nat} {mi f pc len mc ms : Nat} {i : Instr} {al : AL} {st : List Value} {h : AH} {r : AR} {ν : List Int} {bl : ZL} {bs : List ZV}
theorem z_go10 {call : Nat → List Value → AH → Option AR} (hi : a_ins mi pc = some (i, len)) (c : z_cl i = 10) (hr : a_go call mi f pc al st h mc ms = some r) : ∃ v, a_end mi i st = some v ∧ r = (.inl v, h, mc, ms) := by
  obtain ⟨f', i', len', e, hi', k⟩ := z_goI hr
  rw [hi] at hi'
  cases hi'
  rcases k with ⟨w, k1, k2⟩ | ⟨k, k1, k2⟩ | ⟨-, -, k⟩
  · exact ⟨w, k1, k2⟩
  · rw [z_nt (by omega)] at k1
    cases k1
  · exfalso
    rcases k with ⟨mt, as, rest, q, h', c', s, k1, k2, k3⟩ | ⟨-, k⟩
    · rw [z_nc (by omega) (by omega) (by omega)] at k1
      cases k1
    · rcases k with ⟨pc', al', st', h', c', s, k1, k2⟩ | ⟨st', h', k1, k2⟩
      · rcases z_stp (by omega) k1 with ⟨a, -⟩ | ⟨-, ⟨a, -⟩ | ⟨a, -⟩ | ⟨a, -⟩ | ⟨a, -⟩ | ⟨a, -⟩⟩ <;> omega
      · rw [z_na (by omega) (by omega) (by omega)] at k1
        cases k1
theorem a_cat_le : ∀ (st : List Value), a_cat st ≤ 2 * st.length
  | [] => by simp [a_cat]
  | v :: st => by
    have := a_cat_le st
    have hc : v.category ≤ 2 := by cases v <;> first | exact Nat.le_refl 2 | exact Nat.le_succ 1
    simp only [a_cat, List.map_cons, List.sum_cons, List.length_cons] at this ⊢
    omega
theorem z_end_r {v : Option Value} (h1 : a_end mi .return_ st = some v) : v = none := by
  cases st with
  | nil =>
    have h1 : (if a_rty mi = none then some none else none) = some v := h1
    rw [Option.ite_none_right_eq_some] at h1
    exact (Option.some.inj h1.2).symm
  | cons w ws => cases h1
theorem z_end_v {v : Option Value} {w : Value} (e1 : z_isE i = true) (h1 : a_end mi i [w] = some v) : v = some w := by
  cases i <;> first
    | (cases e1; done)
    | skip
  all_goals
    cases w <;> first
      | (cases h1; done)
      | skip
  case ireturn.int x =>
    have h1 : (match a_rty mi with
      | some ty => if narrow ty (.int x) = .int x then some (some (.int x)) else none
      | none => none) = some v := h1
    split at h1
    · rw [Option.ite_none_right_eq_some] at h1
      exact (Option.some.inj h1.2).symm
    · cases h1
  case lreturn.long x =>
    have h1 : (if a_rty mi = some .long then some (some (.long x)) else none) = some v := h1
    rw [Option.ite_none_right_eq_some] at h1
    exact (Option.some.inj h1.2).symm
  case freturn.float x =>
    have h1 : (if a_rty mi = some .float then some (some (.float x)) else none) = some v := h1
    rw [Option.ite_none_right_eq_some] at h1
    exact (Option.some.inj h1.2).symm
  case dreturn.double x =>
    have h1 : (if a_rty mi = some .double then some (some (.double x)) else none) = some v := h1
    rw [Option.ite_none_right_eq_some] at h1
    exact (Option.some.inj h1.2).symm
theorem z_end_ok {op : ZO} {call : Nat → List Value → AH → Option AR} (hi : a_ins mi pc = some (i, len)) (he : z_end mi pc i bs op = true) (hs : z_stk ν bs st) (hr : a_go call mi f pc al st h mc ms = some r) : r.2.1 = h ∧ (z_out r.1).1 < 1000 ∧ ∀ (F : Nat → ZFn) (n : Nat) (p : List ZO) (S : ZS), z_ev F (n + 1) (op :: p) ν S = (z_out r.1, S) := by
  unfold z_end at he
  split at he
  · split at he
    · obtain ⟨v, h1, h2⟩ := z_go10 hi rfl hr
      obtain rfl := z_end_r h1
      rw [h2]
      exact ⟨rfl, (by show (0 : Nat) < 1000; decide), fun F n p S => rfl⟩
    · cases he
  · rename_i x
    rw [Bool.and_eq_true] at he
    obtain ⟨e1, e2⟩ := he
    split at e2
    · rename_i b
      rw [Bool.and_eq_true, decide_eq_true_eq, beq_iff_eq] at e2
      obtain ⟨e2, rfl⟩ := e2
      obtain ⟨w, ws, rfl, s1, s2⟩ := hs.c
      obtain rfl := z_stk.n s2
      have c10 : z_cl i = 10 := by cases i <;> first | rfl | (cases e1; done)
      obtain ⟨v, h1, h2⟩ := z_go10 hi c10 hr
      have hv : v = some w := z_end_v e1 h1
      rw [h2, hv]
      refine ⟨rfl, by show (0 : Nat) < 1000; decide, fun F n p S => ?_⟩
      show ((0, [o_v ν b.2.1]), S) = ((0, [e_v w]), S)
      rw [z_num s1 e2]
    · cases e2
  · rename_i k
    split at he
    · rw [Bool.and_eq_true, decide_eq_true_eq, Bool.and_eq_true, decide_eq_true_eq, beq_iff_eq] at he
      obtain ⟨e1, e2, e3⟩ := he
      have hc : a_cat st ≤ 8 := by
        have := a_cat_le st
        have := hs.len
        omega
      rename_i cl
      have ht : a_trw mi pc (.new cl) st = some k.1 := by
        unfold a_trw
        dsimp only
        rw [if_pos hc]
        exact e3
      obtain ⟨f', i', len', e, hi', kk⟩ := z_goI hr
      rw [hi] at hi'
      cases hi'
      rcases kk with ⟨w, k1, k2⟩ | ⟨k', k1, k2⟩ | ⟨-, k1, -⟩
      · cases k1
      · rw [ht] at k1
        cases k1
        rw [k2]
        exact ⟨rfl, by show k.1 + 1 < 1000; omega, fun F n p S => rfl⟩
      · rw [ht] at k1
        cases k1
    · cases he
  · cases he
/-! Branches -/
theorem z_cc1 {c : Jvm.ClassFile.Cond} {X : Int32} : e_cmp (z_cc c) X.toInt 0 = a_if1 c X := by
  have e0 : X.toInt = 0 ↔ X = 0 := by
    rw [show (0 : Int) = (0 : Int32).toInt from rfl]
    exact Int32.toInt_inj
  have l1 : X.toInt < 0 ↔ X < 0 := by rw [Int32.lt_iff_toInt_lt]; rfl
  have l2 : 0 < X.toInt ↔ 0 < X := by rw [Int32.lt_iff_toInt_lt]; rfl
  have l3 : 0 ≤ X.toInt ↔ 0 ≤ X := by rw [Int32.le_iff_toInt_le]; rfl
  have l4 : X.toInt ≤ 0 ↔ X ≤ 0 := by rw [Int32.le_iff_toInt_le]; rfl
  cases c <;> simp only [z_cc, e_cmp, a_if1, e0, l1, l2, l3, l4]
theorem z_cc2 {c : Jvm.ClassFile.Cond} {X Y : Int32} : e_cmp (z_cc c) X.toInt Y.toInt = a_if2 c X Y := by
  have e0 : X.toInt = Y.toInt ↔ X = Y := Int32.toInt_inj
  have l1 : X.toInt < Y.toInt ↔ X < Y := Int32.lt_iff_toInt_lt.symm
  have l2 : Y.toInt < X.toInt ↔ Y < X := Int32.lt_iff_toInt_lt.symm
  have l3 : Y.toInt ≤ X.toInt ↔ Y ≤ X := Int32.le_iff_toInt_le.symm
  have l4 : X.toInt ≤ Y.toInt ↔ X ≤ Y := Int32.le_iff_toInt_le.symm
  cases c <;> simp only [z_cc, e_cmp, a_if2, e0, l1, l2, l3, l4]
theorem z_cnd_ok {call : Nat → List Value → AH → Option AR} {c : Nat} {x y : ZN} {t : Nat} {bs' : List ZV} (hi : a_ins mi pc = some (i, len)) (hc : z_cnd i pc bs = some (c, x, y, t, bs')) (hs : z_stk ν bs st) (hr : a_go call mi f pc al st h mc ms = some r) : ∃ f' st' mc' ms', f = f' + 1 ∧ a_go call mi f' (if e_cmp c (o_v ν x) (o_v ν y) = true then t else pc + 3) al st' h mc' ms' = some r ∧ z_stk ν bs' st' := by
  unfold z_cnd at hc
  split at hc
  · rename_i cc off b bs0
    rw [Option.ite_none_right_eq_some, Option.map_eq_some_iff] at hc
    obtain ⟨h1, t', h2, h3⟩ := hc
    cases h3
    obtain ⟨w, ws, rfl, s1, s2⟩ := hs.c
    obtain ⟨f', e, q, k1, k2⟩ := z_go1 hi rfl hr
    cases w <;> first
      | (cases k1; done)
      | skip
    rename_i X
    have k1 : (a_br pc (a_if1 cc X) off).map (fun t => ((t, al, ws, h, 0, 0) : AS)) = some q := k1
    unfold a_br at k1
    rw [h2] at k1
    cases k1
    refine ⟨f', ws, mc + 0, ms + 0, e, ?_, s2⟩
    rw [← z_num s1 h1, show o_v ν (0, 0) = 0 from rfl, show e_v (.int X) = X.toInt from rfl, z_cc1]
    exact k2
  · rename_i cc off b' b bs0
    rw [Option.ite_none_right_eq_some, Option.map_eq_some_iff] at hc
    obtain ⟨h1, t', h2, h3⟩ := hc
    cases h3
    obtain ⟨w, ws, rfl, s1, s2⟩ := hs.c
    obtain ⟨u, us, rfl, s3, s4⟩ := s2.c
    obtain ⟨f', e, q, k1, k2⟩ := z_go1 hi rfl hr
    cases w <;> first
      | (cases k1; done)
      | skip
    cases u <;> first
      | (cases k1; done)
      | skip
    rename_i Y X
    have k1 : (a_br pc (a_if2 cc X Y) off).map (fun t => ((t, al, us, h, 0, 0) : AS)) = some q := k1
    unfold a_br at k1
    rw [h2] at k1
    cases k1
    refine ⟨f', us, mc + 0, ms + 0, e, ?_, s4⟩
    rw [← z_num s1 h1.2, ← z_num s3 h1.1, show e_v (.int X) = X.toInt from rfl, show e_v (.int Y) = Y.toInt from rfl, z_cc2]
    exact k2
  · rename_i off b' b bs0
    rw [Option.ite_none_right_eq_some, Option.map_eq_some_iff] at hc
    obtain ⟨⟨h1, h4, h5, h6⟩, t', h2, h3⟩ := hc
    cases h3
    obtain ⟨w, ws, rfl, s1, s2⟩ := hs.c
    obtain ⟨u, us, rfl, s3, s4⟩ := s2.c
    obtain ⟨f', e, q, k1, k2⟩ := z_go1 hi rfl hr
    obtain ⟨a2, rfl, d2⟩ := z_obj (by omega) s1
    obtain ⟨a1, rfl, d1⟩ := z_obj h1 s3
    have k1 : (if a1 < h.length ∧ a2 < h.length then (a_br pc (decide (a1 = a2)) off).map (fun t => ((t, al, us, h, 0, 0) : AS)) else none) = some q := k1
    rw [Option.ite_none_right_eq_some] at k1
    obtain ⟨-, k1⟩ := k1
    unfold a_br at k1
    rw [h2] at k1
    cases k1
    refine ⟨f', us, mc + 0, ms + 0, e, ?_, s4⟩
    rw [h6, h4] at d2
    rw [h5] at d1
    have key : e_cmp 0 (o_v ν b.2.1) (o_v ν b'.2.1) = decide (a1 = a2) := decide_eq_decide.mpr ⟨fun q => by
      rw [q] at d1
      rw [d1] at d2
      exact Option.some.inj d2, fun q => by
      subst q
      exact (z_inj d1 d2).2.1.symm⟩
    rw [key]
    exact k2
  · cases hc
/-! Calls -/
theorem z_lim_rty {mt : Nat} {as : List Value} {q : AR} (hq : b_lim d mt as h = some q) : ∀ v, q.1 = .inl v → (v = none ↔ a_rty mt = none) := by
  obtain ⟨F, hF⟩ := b_lim_ex hq
  cases d with
  | zero => cases hF
  | succ d =>
    rw [a_run] at hF
    split at hF
    · exact z_rty _ _ _ _ _ _ _ _ hF
    · cases hF
theorem z_cal_ok {call : Nat → List Value → AH → Option AR} {mt : Nat} {as rest : List ZV} (hi : a_ins mi pc = some (i, len)) (hc : z_cal (a_own mi) i bs = some (mt, as, rest)) (hs : z_stk ν bs st) (hr : a_go call mi f pc al st h mc ms = some r) : ∃ f' cas crest q h' c s, f = f' + 1 ∧ z_stk ν as cas ∧ z_stk ν rest crest ∧ call mt cas h = some (q, h', c, s) ∧ z_cont call mi f' pc i al crest h' (mc + c) (ms + s) r q := by
  obtain ⟨f', i', len', e, hi', k⟩ := z_goI hr
  rw [hi] at hi'
  cases hi'
  have key : ∀ (e0 : Nat × Nat × Nat × Nat × Nat × Nat × Nat), True := fun _ => trivial
  unfold z_cal at hc
  split at hc
  · rename_i idx
    split at hc
    · rename_i e0 he0
      rw [Option.ite_none_right_eq_some] at hc
      obtain ⟨hn, hc⟩ := hc
      cases hc
      rcases k with ⟨w, k1, k2⟩ | ⟨k, k1, k2⟩ | ⟨-, -, k⟩
      · cases k1
      · cases k1
      · rcases k with ⟨mt', as', rest', q, h', c', s, k1, k2, k3⟩ | ⟨-, k⟩
        · have hx : mt' = e0.2.2.1 ∧ as' = (st.take (a_nrg e0.2.2.1)).reverse ∧ rest' = st.drop (a_nrg e0.2.2.1) := by
            unfold a_call at k1
            dsimp only at k1
            rw [he0] at k1
            dsimp only at k1
            rw [Option.ite_none_right_eq_some] at k1
            obtain ⟨-, k1⟩ := k1
            split at k1
            · rename_i a as2 hrev
              split at k1
              · rw [Option.ite_none_right_eq_some] at k1
                obtain ⟨-, k1⟩ := k1
                cases k1
                exact ⟨rfl, hrev.symm, rfl⟩
              · cases k1
            · cases k1
          obtain ⟨rfl, rfl, rfl⟩ := hx
          exact ⟨f', _, _, q, h', c', s, e, (hs.take _).1.rev, (hs.take _).2, k2, k3⟩
        · exfalso
          rcases k with ⟨pc', al', st', h', c', s, k1, k2⟩ | ⟨st', h', k1, k2⟩
          · rcases z_stp (by show (8 : Nat) ≠ 0; decide) k1 with ⟨a, -⟩ | ⟨-, ⟨a, -⟩ | ⟨a, -⟩ | ⟨a, -⟩ | ⟨a, -⟩ | ⟨a | a, -⟩⟩
            · exact absurd a (by show ¬ (8 : Nat) = 9; decide)
            · exact absurd a (by show ¬ (8 : Nat) = 1; decide)
            · exact absurd a (by show ¬ (8 : Nat) = 4; decide)
            · exact absurd a (by show ¬ (8 : Nat) = 2; decide)
            · exact absurd a (by show ¬ (8 : Nat) = 3; decide)
            · exact absurd a (by show ¬ (8 : Nat) = 5; decide)
            · exact absurd a (by show ¬ (8 : Nat) = 6; decide)
          · rw [z_na (by show (8 : Nat) ≠ 0; decide) (by show (8 : Nat) ≠ 6; decide) (by show (8 : Nat) ≠ 7; decide)] at k1
            cases k1
    · cases hc
  · rename_i idx
    split at hc
    · rename_i e0 he0
      rw [Option.ite_none_right_eq_some] at hc
      obtain ⟨⟨hn, hm, ha⟩, hc⟩ := hc
      cases hc
      rcases k with ⟨w, k1, k2⟩ | ⟨k, k1, k2⟩ | ⟨-, -, k⟩
      · cases k1
      · cases k1
      · rcases k with ⟨mt', as', rest', q, h', c', s, k1, k2, k3⟩ | ⟨-, k⟩
        · have hx : mt' = e0.2.2.1 ∧ as' = (st.take (a_nrg e0.2.2.1)).reverse ∧ rest' = st.drop (a_nrg e0.2.2.1) := by
            unfold a_call at k1
            dsimp only at k1
            rw [he0] at k1
            dsimp only at k1
            rw [Option.ite_none_right_eq_some] at k1
            obtain ⟨-, k1⟩ := k1
            cases k1
            exact ⟨rfl, rfl, rfl⟩
          obtain ⟨rfl, rfl, rfl⟩ := hx
          exact ⟨f', _, _, q, h', c', s, e, (hs.take _).1.rev, (hs.take _).2, k2, k3⟩
        · exfalso
          rcases k with ⟨pc', al', st', h', c', s, k1, k2⟩ | ⟨st', h', k1, k2⟩
          · rcases z_stp (by show (6 : Nat) ≠ 0; decide) k1 with ⟨a, -⟩ | ⟨-, ⟨a, -⟩ | ⟨a, -⟩ | ⟨a, -⟩ | ⟨a, -⟩ | ⟨-, b⟩⟩
            · exact absurd a (by show ¬ (6 : Nat) = 9; decide)
            · exact absurd a (by show ¬ (6 : Nat) = 1; decide)
            · exact absurd a (by show ¬ (6 : Nat) = 4; decide)
            · exact absurd a (by show ¬ (6 : Nat) = 2; decide)
            · exact absurd a (by show ¬ (6 : Nat) = 3; decide)
            · cases st with
              | nil => cases b
              | cons w ws => cases w <;> first
                | (cases b; done)
                | (cases ws with
                  | nil => cases b
                  | cons u us => cases u <;> first
                    | (cases b; done)
                    | (unfold a_st5 at b
                       dsimp only at b
                       rw [Option.isNone_iff_eq_none.mp hm] at b
                       cases b))
          · unfold a_acp at k1
            split at k1
            · rename_i q
              cases q
              rw [Option.ite_none_right_eq_some] at k1
              exact ha ⟨k1.1.1, k1.1.2.1⟩
            · rename_i q
              cases q
            · cases k1
    · cases hc
  · cases hc
end EN
