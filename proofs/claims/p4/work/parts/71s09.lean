/-! part 71s09 -/
section
/-! A method's code that is a program does what the program does -/
def z_out (q : (Option Value) ⊕ Nat) : Nat × List Int := match q with
  | .inl none => (0, [])
  | .inl (some v) => (0, [e_v v])
  | .inr k => (k + 1, [])
/-- a method does to the flat state what a function says -/
def z_met (mt nv : Nat) (ps : List ZV) (φ : ZFn) : Prop := ∀ (d : Nat) (as : List Value) (h : AH) (r : AR) (L : List Int), b_lim d mt as h = some r → z_PI h → L.length = nv → z_stk L ps as → z_PI r.2.1 ∧ (z_out r.1).1 < 1000 ∧ (z_out r.1, z_al r.2.1) = φ L (z_al h)
abbrev ZX : Type := ZR × Prop
def z_X (r : AR) : ZX := ((z_out r.1, z_al r.2.1), z_PI r.2.1 ∧ (z_out r.1).1 < 1000)
/-- a run of a method from a cut, with f steps, comes to X -/
def z_goes (Q : AH → Prop) (C : ZC) (mi f pc : Nat) (L : List Int) (S : ZS) (X : ZX) : Prop := ∃ (sg : ZL) (d : Nat) (al : AL) (h : AH) (mc ms : Nat) (r : AR), z_sg C pc = some (L.length, sg) ∧ a_go (b_lim d) mi f pc al [] h mc ms = some r ∧ z_loc L sg al ∧ (z_PI h ∧ Q h) ∧ z_al h = S ∧ X = z_X r
def z_post (Q : AH → Prop) (C : ZC) (mi f : Nat) (X : ZX) (R : ZR) : Prop := (R.1.1 < 1000 → X.1 = R ∧ X.2) ∧ (1000 ≤ R.1.1 → ∃ f', f' < f ∧ z_goes Q C mi f' (R.1.1 - 1000) R.1.2 R.2 X)
/-! Matching -/
theorem o_sb {ν : List Int} {xs : List ZN} {x y : ZN} (h : z_sb xs x = some y) : x.1 ≤ (xs.map (o_v ν)).length ∧ o_v (xs.map (o_v ν)) x = o_v ν y := by
  obtain ⟨n, c⟩ := x
  cases n with
  | zero =>
    cases h
    exact ⟨Nat.zero_le _, rfl⟩
  | succ n =>
    have h : xs[n]? = some y := h
    have hn := (List.getElem?_eq_some_iff.mp h).1
    refine ⟨by rw [List.length_map]; exact hn, ?_⟩
    show (xs.map (o_v ν)).getD n 0 = _
    rw [List.getD_eq_getElem?_getD, List.getElem?_map, h]
    rfl
theorem z_mt1_ok {ν : List Int} {xs : List ZN} {p b : ZV} {w : Value} (h : z_mt1 xs p b = true) (hv : z_val ν b w) : z_val (xs.map (o_v ν)) p w ∧ p.1 = b.1 := by
  unfold z_mt1 at h
  rw [Bool.and_eq_true, Bool.and_eq_true, beq_iff_eq, beq_iff_eq] at h
  obtain ⟨h1, h2, h3⟩ := h
  obtain ⟨k1, k2⟩ := o_sb (ν := ν) h2
  refine ⟨?_, h1⟩
  split at h3
  · rename_i c
    rw [beq_iff_eq] at h3
    obtain ⟨n, x, y⟩ := p
    have hb : b.1 < 2 := by
      have h1 : n = b.1 := h1
      have c : n < 2 := c
      omega
    exact z_val.n c k1 (by have h3 : y.1 = 0 := h3; omega) ((z_num hv hb).trans k2.symm)
  · rename_i c
    rw [beq_iff_eq] at h3
    obtain ⟨m1, m2⟩ := o_sb (ν := ν) h3
    obtain ⟨m, hm⟩ := Nat.exists_eq_add_of_le' (Nat.le_of_not_lt c)
    obtain ⟨a, rfl, ha⟩ := z_ref hv (h1.symm.trans hm)
    refine ⟨k1, m1, ?_⟩
    rw [k2, m2, hm]
    exact ⟨a, rfl, ha⟩
theorem z_mtA_ok {ν : List Int} {xs : List ZN} : ∀ {ps bs : List ZV} {ws : List Value}, z_mtA xs ps bs = true → z_stk ν bs ws → z_stk (xs.map (o_v ν)) ps ws
  | [], [], ws, _, h => by
    obtain rfl := z_stk.n h
    exact trivial
  | p :: ps, b :: bs, ws, hm, h => by
    obtain ⟨w, ws, rfl, h1, h2⟩ := h.c
    rw [z_mtA, Bool.and_eq_true] at hm
    exact ⟨(z_mt1_ok hm.1 h1).1, z_mtA_ok hm.2 h2⟩
  | [], _ :: _, _, hm, _ => by cases hm
  | _ :: _, [], _, hm, _ => by cases hm
theorem z_mtL_get {xs : List ZN} : ∀ {ps bl : ZL}, z_mtL xs ps bl = true → ps.length = bl.length ∧ ∀ (i : Nat) (p : ZV), ps[i]? = some (some p) → ∃ b, bl[i]? = some (some b) ∧ z_mt1 xs p b = true
  | [], [], _ => ⟨rfl, fun i p h => by cases h⟩
  | none :: ps, b :: bl, h => by
    rw [z_mtL] at h
    obtain ⟨h1, h2⟩ := z_mtL_get h
    refine ⟨by rw [List.length_cons, List.length_cons, h1], fun i p hp => ?_⟩
    cases i with
    | zero => cases hp
    | succ i => exact h2 i p hp
  | some p :: ps, some b :: bl, h => by
    rw [z_mtL, Bool.and_eq_true] at h
    obtain ⟨h1, h2⟩ := z_mtL_get h.2
    refine ⟨by rw [List.length_cons, List.length_cons, h1], fun i p' hp => ?_⟩
    cases i with
    | zero =>
      cases hp
      exact ⟨b, rfl, h.1⟩
    | succ i => exact h2 i p' hp
  | some _ :: _, none :: _, h => by cases h
  | [], _ :: _, h => by cases h
  | none :: _, [], h => by cases h
  | some _ :: _, [], h => by cases h
theorem z_mtL_ok {ν : List Int} {xs : List ZN} {sg bl : ZL} {al : AL} (h : z_mtL xs sg bl = true) (hl : z_loc ν bl al) : z_loc (xs.map (o_v ν)) sg al := by
  obtain ⟨h1, h2⟩ := z_mtL_get h
  refine ⟨h1.trans hl.1, fun i p hp => ?_⟩
  obtain ⟨b, b1, b2⟩ := h2 i p hp
  obtain ⟨w, w1, w2, w3⟩ := hl.2 i b b1
  obtain ⟨k1, k2⟩ := z_mt1_ok b2 w2
  exact ⟨w, w1, k1, fun q => w3 (by rw [← k2]; exact q)⟩
/-! Ends -/
section EN
variable {d : Nat} {mi f pc len mc ms : Nat} {i : Instr} {al : AL} {st : List Value} {h : AH} {r : AR} {ν : List Int} {bl : ZL} {bs : List ZV}
theorem z_go10 {call : Nat → List Value → AH → Option AR} (hi : a_ins mi pc = some (i, len)) (c : z_cl i = 10) (hr : a_go call mi f pc al st h mc ms = some r) : ∃ v, a_end mi i st = some v ∧ r = (.inl v, h, mc, ms) := by
  obtain ⟨f', i', len', e, hi', k⟩ := z_goI hr
  rw [hi] at hi'
  cases hi'
  rcases k with ⟨w, k1, k2⟩ | ⟨k, k1, k2⟩ | ⟨-, -, k⟩
  · exact ⟨w, k1, k2⟩
  · rw [z_nt (by omega)] at k1
    cases k1
  · exfalso
    rcases k with ⟨mt, as, rest, q, h', c', s, k1, k2, k3⟩ | ⟨-, k⟩
    · rw [z_nc (by omega) (by omega) (by omega)] at k1
      cases k1
    · rcases k with ⟨pc', al', st', h', c', s, k1, k2⟩ | ⟨st', h', k1, k2⟩
      · rcases z_stp (by omega) k1 with ⟨a, -⟩ | ⟨-, ⟨a, -⟩ | ⟨a, -⟩ | ⟨a, -⟩ | ⟨a, -⟩ | ⟨a, -⟩⟩ <;> omega
      · rw [z_na (by omega) (by omega) (by omega)] at k1
        cases k1
theorem a_cat_le : ∀ (st : List Value), a_cat st ≤ 2 * st.length
  | [] => by simp [a_cat]
  | v :: st => by
    have := a_cat_le st
    have hc : v.category ≤ 2 := by cases v <;> first | exact Nat.le_refl 2 | exact Nat.le_succ 1
    simp only [a_cat, List.map_cons, List.sum_cons, List.length_cons] at this ⊢
    omega
theorem z_end_r {v : Option Value} (h1 : a_end mi .return_ st = some v) : v = none := by
  cases st with
  | nil =>
    have h1 : (if a_rty mi = none then some none else none) = some v := h1
    rw [Option.ite_none_right_eq_some] at h1
    exact (Option.some.inj h1.2).symm
  | cons w ws => cases h1
theorem z_end_v {v : Option Value} {w : Value} (e1 : z_isE i = true) (h1 : a_end mi i [w] = some v) : v = some w := by
  cases i <;> first
    | (cases e1; done)
    | skip
  all_goals
    cases w <;> first
      | (cases h1; done)
      | skip
  case ireturn.int x =>
    have h1 : (match a_rty mi with
      | some ty => if narrow ty (.int x) = .int x then some (some (.int x)) else none
      | none => none) = some v := h1
    split at h1
    · rw [Option.ite_none_right_eq_some] at h1
      exact (Option.some.inj h1.2).symm
    · cases h1
  case lreturn.long x =>
    have h1 : (if a_rty mi = some .long then some (some (.long x)) else none) = some v := h1
    rw [Option.ite_none_right_eq_some] at h1
    exact (Option.some.inj h1.2).symm
  case freturn.float x =>
    have h1 : (if a_rty mi = some .float then some (some (.float x)) else none) = some v := h1
    rw [Option.ite_none_right_eq_some] at h1
    exact (Option.some.inj h1.2).symm
  case dreturn.double x =>
    have h1 : (if a_rty mi = some .double then some (some (.double x)) else none) = some v := h1
    rw [Option.ite_none_right_eq_some] at h1
    exact (Option.some.inj h1.2).symm
theorem z_end_ok {op : ZO} {call : Nat → List Value → AH → Option AR} (hi : a_ins mi pc = some (i, len)) (he : z_end mi pc i bs op = true) (hs : z_stk ν bs st) (hr : a_go call mi f pc al st h mc ms = some r) : r.2.1 = h ∧ (z_out r.1).1 < 1000 ∧ ∀ (F : Nat → ZFn) (n : Nat) (p : List ZO) (S : ZS), z_ev F (n + 1) (op :: p) ν S = (z_out r.1, S) := by
  unfold z_end at he
  split at he
  · split at he
    · obtain ⟨v, h1, h2⟩ := z_go10 hi rfl hr
      obtain rfl := z_end_r h1
      rw [h2]
      exact ⟨rfl, (by show (0 : Nat) < 1000; decide), fun F n p S => rfl⟩
    · cases he
  · rename_i x
    rw [Bool.and_eq_true] at he
    obtain ⟨e1, e2⟩ := he
    split at e2
    · rename_i b
      rw [Bool.and_eq_true, decide_eq_true_eq, beq_iff_eq] at e2
      obtain ⟨e2, rfl⟩ := e2
      obtain ⟨w, ws, rfl, s1, s2⟩ := hs.c
      obtain rfl := z_stk.n s2
      have c10 : z_cl i = 10 := by cases i <;> first | rfl | (cases e1; done)
      obtain ⟨v, h1, h2⟩ := z_go10 hi c10 hr
      have hv : v = some w := z_end_v e1 h1
      rw [h2, hv]
      refine ⟨rfl, by show (0 : Nat) < 1000; decide, fun F n p S => ?_⟩
      show ((0, [o_v ν b.2.1]), S) = ((0, [e_v w]), S)
      rw [z_num s1 e2]
    · cases e2
  · rename_i k
    split at he
    · rw [Bool.and_eq_true, decide_eq_true_eq, Bool.and_eq_true, decide_eq_true_eq, beq_iff_eq] at he
      obtain ⟨e1, e2, e3⟩ := he
      have hc : a_cat st ≤ 8 := by
        have := a_cat_le st
        have := hs.len
        omega
      rename_i cl
      have ht : a_trw mi pc (.new cl) st = some k.1 := by
        unfold a_trw
        dsimp only
        rw [if_pos hc]
        exact e3
      obtain ⟨f', i', len', e, hi', kk⟩ := z_goI hr
      rw [hi] at hi'
      cases hi'
      rcases kk with ⟨w, k1, k2⟩ | ⟨k', k1, k2⟩ | ⟨-, k1, -⟩
      · cases k1
      · rw [ht] at k1
        cases k1
        rw [k2]
        exact ⟨rfl, by show k.1 + 1 < 1000; omega, fun F n p S => rfl⟩
      · rw [ht] at k1
        cases k1
    · cases he
  · cases he
/-! Branches -/
theorem z_cc1 {c : Jvm.ClassFile.Cond} {X : Int32} : e_cmp (z_cc c) X.toInt 0 = a_if1 c X := by
  have e0 : X.toInt = 0 ↔ X = 0 := by
    rw [show (0 : Int) = (0 : Int32).toInt from rfl]
    exact Int32.toInt_inj
  have l1 : X.toInt < 0 ↔ X < 0 := by rw [Int32.lt_iff_toInt_lt]; rfl
  have l2 : 0 < X.toInt ↔ 0 < X := by rw [Int32.lt_iff_toInt_lt]; rfl
  have l3 : 0 ≤ X.toInt ↔ 0 ≤ X := by rw [Int32.le_iff_toInt_le]; rfl
  have l4 : X.toInt ≤ 0 ↔ X ≤ 0 := by rw [Int32.le_iff_toInt_le]; rfl
  cases c <;> simp only [z_cc, e_cmp, a_if1, e0, l1, l2, l3, l4]
theorem z_cc2 {c : Jvm.ClassFile.Cond} {X Y : Int32} : e_cmp (z_cc c) X.toInt Y.toInt = a_if2 c X Y := by
  have e0 : X.toInt = Y.toInt ↔ X = Y := Int32.toInt_inj
  have l1 : X.toInt < Y.toInt ↔ X < Y := Int32.lt_iff_toInt_lt.symm
  have l2 : Y.toInt < X.toInt ↔ Y < X := Int32.lt_iff_toInt_lt.symm
  have l3 : Y.toInt ≤ X.toInt ↔ Y ≤ X := Int32.le_iff_toInt_le.symm
  have l4 : X.toInt ≤ Y.toInt ↔ X ≤ Y := Int32.le_iff_toInt_le.symm
  cases c <;> simp only [z_cc, e_cmp, a_if2, e0, l1, l2, l3, l4]
theorem z_cnd_ok {call : Nat → List Value → AH → Option AR} {c : Nat} {x y : ZN} {t : Nat} {bs' : List ZV} (hi : a_ins mi pc = some (i, len)) (hc : z_cnd i pc bs = some (c, x, y, t, bs')) (hs : z_stk ν bs st) (hr : a_go call mi f pc al st h mc ms = some r) : ∃ f' st' mc' ms', f = f' + 1 ∧ a_go call mi f' (if e_cmp c (o_v ν x) (o_v ν y) = true then t else pc + 3) al st' h mc' ms' = some r ∧ z_stk ν bs' st' := by
  unfold z_cnd at hc
  split at hc
  · rename_i cc off b bs0
    rw [Option.ite_none_right_eq_some, Option.map_eq_some_iff] at hc
    obtain ⟨h1, t', h2, h3⟩ := hc
    cases h3
    obtain ⟨w, ws, rfl, s1, s2⟩ := hs.c
    obtain ⟨f', e, q, k1, k2⟩ := z_go1 hi rfl hr
    cases w <;> first
      | (cases k1; done)
      | skip
    rename_i X
    have k1 : (a_br pc (a_if1 cc X) off).map (fun t => ((t, al, ws, h, 0, 0) : AS)) = some q := k1
    unfold a_br at k1
    rw [h2] at k1
    cases k1
    refine ⟨f', ws, mc + 0, ms + 0, e, ?_, s2⟩
    rw [← z_num s1 h1, show o_v ν (0, 0) = 0 from rfl, show e_v (.int X) = X.toInt from rfl, z_cc1]
    exact k2
  · rename_i cc off b' b bs0
    rw [Option.ite_none_right_eq_some, Option.map_eq_some_iff] at hc
    obtain ⟨h1, t', h2, h3⟩ := hc
    cases h3
    obtain ⟨w, ws, rfl, s1, s2⟩ := hs.c
    obtain ⟨u, us, rfl, s3, s4⟩ := s2.c
    obtain ⟨f', e, q, k1, k2⟩ := z_go1 hi rfl hr
    cases w <;> first
      | (cases k1; done)
      | skip
    cases u <;> first
      | (cases k1; done)
      | skip
    rename_i Y X
    have k1 : (a_br pc (a_if2 cc X Y) off).map (fun t => ((t, al, us, h, 0, 0) : AS)) = some q := k1
    unfold a_br at k1
    rw [h2] at k1
    cases k1
    refine ⟨f', us, mc + 0, ms + 0, e, ?_, s4⟩
    rw [← z_num s1 h1.2, ← z_num s3 h1.1, show e_v (.int X) = X.toInt from rfl, show e_v (.int Y) = Y.toInt from rfl, z_cc2]
    exact k2
  · rename_i off b' b bs0
    rw [Option.ite_none_right_eq_some, Option.map_eq_some_iff] at hc
    obtain ⟨⟨h1, h4, h5, h6⟩, t', h2, h3⟩ := hc
    cases h3
    obtain ⟨w, ws, rfl, s1, s2⟩ := hs.c
    obtain ⟨u, us, rfl, s3, s4⟩ := s2.c
    obtain ⟨f', e, q, k1, k2⟩ := z_go1 hi rfl hr
    obtain ⟨a2, rfl, d2⟩ := z_obj (by omega) s1
    obtain ⟨a1, rfl, d1⟩ := z_obj h1 s3
    have k1 : (if a1 < h.length ∧ a2 < h.length then (a_br pc (decide (a1 = a2)) off).map (fun t => ((t, al, us, h, 0, 0) : AS)) else none) = some q := k1
    rw [Option.ite_none_right_eq_some] at k1
    obtain ⟨-, k1⟩ := k1
    unfold a_br at k1
    rw [h2] at k1
    cases k1
    refine ⟨f', us, mc + 0, ms + 0, e, ?_, s4⟩
    rw [h6, h4] at d2
    rw [h5] at d1
    have key : e_cmp 0 (o_v ν b.2.1) (o_v ν b'.2.1) = decide (a1 = a2) := decide_eq_decide.mpr ⟨fun q => by
      rw [q] at d1
      rw [d1] at d2
      exact Option.some.inj d2, fun q => by
      subst q
      exact (z_inj d1 d2).2.1.symm⟩
    rw [key]
    exact k2
  · cases hc
/-! Calls -/
theorem z_lim_rty {mt : Nat} {as : List Value} {q : AR} (hq : b_lim d mt as h = some q) : ∀ v, q.1 = .inl v → (v = none ↔ a_rty mt = none) := by
  obtain ⟨F, hF⟩ := b_lim_ex hq
  cases d with
  | zero => cases hF
  | succ d =>
    rw [a_run] at hF
    split at hF
    · exact z_rty _ _ _ _ _ _ _ _ hF
    · cases hF
theorem z_cal_ok {call : Nat → List Value → AH → Option AR} {mt : Nat} {as rest : List ZV} (hi : a_ins mi pc = some (i, len)) (hc : z_cal (a_own mi) i bs = some (mt, as, rest)) (hs : z_stk ν bs st) (hr : a_go call mi f pc al st h mc ms = some r) : ∃ f' cas crest q h' c s, f = f' + 1 ∧ z_stk ν as cas ∧ z_stk ν rest crest ∧ call mt cas h = some (q, h', c, s) ∧ z_cont call mi f' pc i al crest h' (mc + c) (ms + s) r q := by
  obtain ⟨f', i', len', e, hi', k⟩ := z_goI hr
  rw [hi] at hi'
  cases hi'
  have key : ∀ (e0 : Nat × Nat × Nat × Nat × Nat × Nat × Nat), True := fun _ => trivial
  unfold z_cal at hc
  split at hc
  · rename_i idx
    split at hc
    · rename_i e0 he0
      rw [Option.ite_none_right_eq_some] at hc
      obtain ⟨hn, hc⟩ := hc
      cases hc
      rcases k with ⟨w, k1, k2⟩ | ⟨k, k1, k2⟩ | ⟨-, -, k⟩
      · cases k1
      · cases k1
      · rcases k with ⟨mt', as', rest', q, h', c', s, k1, k2, k3⟩ | ⟨-, k⟩
        · have hx : mt' = e0.2.2.1 ∧ as' = (st.take (a_nrg e0.2.2.1)).reverse ∧ rest' = st.drop (a_nrg e0.2.2.1) := by
            unfold a_call at k1
            dsimp only at k1
            rw [he0] at k1
            dsimp only at k1
            rw [Option.ite_none_right_eq_some] at k1
            obtain ⟨-, k1⟩ := k1
            split at k1
            · rename_i a as2 hrev
              split at k1
              · rw [Option.ite_none_right_eq_some] at k1
                obtain ⟨-, k1⟩ := k1
                cases k1
                exact ⟨rfl, hrev.symm, rfl⟩
              · cases k1
            · cases k1
          obtain ⟨rfl, rfl, rfl⟩ := hx
          exact ⟨f', _, _, q, h', c', s, e, (hs.take _).1.rev, (hs.take _).2, k2, k3⟩
        · exfalso
          rcases k with ⟨pc', al', st', h', c', s, k1, k2⟩ | ⟨st', h', k1, k2⟩
          · rcases z_stp (by show (8 : Nat) ≠ 0; decide) k1 with ⟨a, -⟩ | ⟨-, ⟨a, -⟩ | ⟨a, -⟩ | ⟨a, -⟩ | ⟨a, -⟩ | ⟨a | a, -⟩⟩
            · exact absurd a (by show ¬ (8 : Nat) = 9; decide)
            · exact absurd a (by show ¬ (8 : Nat) = 1; decide)
            · exact absurd a (by show ¬ (8 : Nat) = 4; decide)
            · exact absurd a (by show ¬ (8 : Nat) = 2; decide)
            · exact absurd a (by show ¬ (8 : Nat) = 3; decide)
            · exact absurd a (by show ¬ (8 : Nat) = 5; decide)
            · exact absurd a (by show ¬ (8 : Nat) = 6; decide)
          · rw [z_na (by show (8 : Nat) ≠ 0; decide) (by show (8 : Nat) ≠ 6; decide) (by show (8 : Nat) ≠ 7; decide)] at k1
            cases k1
    · cases hc
  · rename_i idx
    split at hc
    · rename_i e0 he0
      rw [Option.ite_none_right_eq_some] at hc
      obtain ⟨⟨hn, hm, ha⟩, hc⟩ := hc
      cases hc
      rcases k with ⟨w, k1, k2⟩ | ⟨k, k1, k2⟩ | ⟨-, -, k⟩
      · cases k1
      · cases k1
      · rcases k with ⟨mt', as', rest', q, h', c', s, k1, k2, k3⟩ | ⟨-, k⟩
        · have hx : mt' = e0.2.2.1 ∧ as' = (st.take (a_nrg e0.2.2.1)).reverse ∧ rest' = st.drop (a_nrg e0.2.2.1) := by
            unfold a_call at k1
            dsimp only at k1
            rw [he0] at k1
            dsimp only at k1
            rw [Option.ite_none_right_eq_some] at k1
            obtain ⟨-, k1⟩ := k1
            cases k1
            exact ⟨rfl, rfl, rfl⟩
          obtain ⟨rfl, rfl, rfl⟩ := hx
          exact ⟨f', _, _, q, h', c', s, e, (hs.take _).1.rev, (hs.take _).2, k2, k3⟩
        · exfalso
          rcases k with ⟨pc', al', st', h', c', s, k1, k2⟩ | ⟨st', h', k1, k2⟩
          · rcases z_stp (by show (6 : Nat) ≠ 0; decide) k1 with ⟨a, -⟩ | ⟨-, ⟨a, -⟩ | ⟨a, -⟩ | ⟨a, -⟩ | ⟨a, -⟩ | ⟨-, b⟩⟩
            · exact absurd a (by show ¬ (6 : Nat) = 9; decide)
            · exact absurd a (by show ¬ (6 : Nat) = 1; decide)
            · exact absurd a (by show ¬ (6 : Nat) = 4; decide)
            · exact absurd a (by show ¬ (6 : Nat) = 2; decide)
            · exact absurd a (by show ¬ (6 : Nat) = 3; decide)
            · cases st with
              | nil => cases b
              | cons w ws => cases w <;> first
                | (cases b; done)
                | (cases ws with
                  | nil => cases b
                  | cons u us => cases u <;> first
                    | (cases b; done)
                    | (unfold a_st5 at b
                       dsimp only at b
                       rw [Option.isNone_iff_eq_none.mp hm] at b
                       cases b))
          · unfold a_acp at k1
            split at k1
            · rename_i q
              cases q
              rw [Option.ite_none_right_eq_some] at k1
              exact ha ⟨k1.1.1, k1.1.2.1⟩
            · rename_i q
              cases q
            · cases k1
    · cases hc
  · cases hc
end EN
end
/-! part 71s10 -/
section
/-! The rule: from a cut a method does what its program says -/
theorem e_hs_ok {k : Nat} {g : Nat → ZR} {S : ZS} : ∀ {l : List ZN}, (∃ e ∈ l, e.1 = k) → ∃ e ∈ l, e.1 = k ∧ e_hs (k + 1) g S l = g e.2.toNat
  | [], h => by
    obtain ⟨e, h1, -⟩ := h
    cases h1
  | a :: l, h => by
    by_cases c : a.1 = k
    · refine ⟨a, List.mem_cons_self, c, ?_⟩
      rw [e_hs, c]
      simp
    · obtain ⟨e, h1, h2⟩ := h
      rcases List.mem_cons.mp h1 with rfl | h1
      · exact absurd h2 c
      · obtain ⟨e', k1, k2, k3⟩ := e_hs_ok (g := g) (S := S) (l := l) ⟨e, h1, h2⟩
        refine ⟨e', List.mem_cons_of_mem _ k1, k2, ?_⟩
        rw [e_hs, ← k3]
        have : (a.1 + 1 == k + 1) = false := by simpa using c
        rw [this]
        rfl
theorem z_all2_ok {f : Int → Nat → Bool} : ∀ {os : List Int} {ts : List ZN}, z_all2 f os ts = true → os.length = ts.length ∧ ∀ (k : Nat) (o : Int), os[k]? = some o → ∃ t, ts[k]? = some t ∧ f o t.1 = true
  | [], [], _ => ⟨rfl, fun k o h => by cases h⟩
  | o :: os, t :: ts, h => by
    rw [z_all2, Bool.and_eq_true] at h
    obtain ⟨h1, h2⟩ := z_all2_ok h.2
    refine ⟨by rw [List.length_cons, List.length_cons, h1], fun k o' hk => ?_⟩
    cases k with
    | zero =>
      cases hk
      exact ⟨t, rfl, h.1⟩
    | succ k => exact h2 k o' hk
  | [], _ :: _, h => by cases h
  | _ :: _, [], h => by cases h
section GO
variable {Q : AH → Prop} {C : ZC} {A : ZM} {I : List (Nat × Nat)} {F : Nat → ZFn} {mi : Nat}
theorem z_swc_ok {d f pc len mc ms : Nat} {i : Instr} {al : AL} {st : List Value} {h : AH} {r : AR} {ν : List Int} {bl : ZL} {bs : List ZV} {op : ZO} (hi : a_ins mi pc = some (i, len)) (hc : z_swc C pc i bl bs op = true) (hl : z_loc ν bl al) (hs : z_stk ν bs st) (P : z_PI h ∧ Q h) (hr : a_go (b_lim d) mi f pc al st h mc ms = some r) (n : Nat) (p : List ZO) : ∃ t xs, z_ev F (n + 1) (op :: p) ν (z_al h) = ((1000 + t, xs), z_al h) ∧ ∃ f', f = f' + 1 ∧ z_goes Q C mi f' t xs (z_al h) (z_X r) := by
  unfold z_swc at hc
  split at hc
  · rename_i x lo m dd xs dflt l hi' offs b
    simp only [Bool.and_eq_true, decide_eq_true_eq, beq_iff_eq] at hc
    obtain ⟨c1, rfl, c2, c3, c4, c5, c6, c7⟩ := hc
    obtain ⟨w, ws, rfl, s1, s2⟩ := hs.c
    obtain rfl := z_stk.n s2
    obtain ⟨f', e, k⟩ := z_goS hi (by show (9 : Nat) ≠ 0; decide) (by show (9 : Nat) ≠ 10; decide) (by show (9 : Nat) ≠ 8; decide) (fun q => absurd q (by show ¬ (9 : Nat) = 6; decide)) hr
    obtain ⟨a1, a2⟩ := z_all2_ok c7
    have tg : ∀ {off : Int} {t : Nat}, z_tgts C pc (xs.drop m.1) bl off t = true → ∀ t', a_tgt pc off = some t' → t' = t ∧ ∀ {mc' ms' : Nat}, a_go (b_lim d) mi f' t' al [] h mc' ms' = some r → z_goes Q C mi f' t ((xs.drop m.1).map (o_v ν)) (z_al h) (z_X r) := fun ht t' ht' => by
      unfold z_tgts at ht
      rw [Bool.and_eq_true, beq_iff_eq] at ht
      obtain ⟨t1, t2⟩ := ht
      rw [t1] at ht'
      cases ht'
      refine ⟨rfl, fun hg => ?_⟩
      split at t2
      · rename_i k sg hsg
        rw [Bool.and_eq_true, decide_eq_true_eq] at t2
        exact ⟨sg, d, al, h, _, _, r, by rw [List.length_map, t2.1]; exact hsg, hg, z_mtL_ok t2.2 hl, P, rfl, rfl⟩
      · cases t2
    rcases k with ⟨q, k1, k2⟩ | ⟨k, -⟩
    · rcases z_stp (by show (9 : Nat) ≠ 0; decide) k1 with ⟨-, b'⟩ | ⟨-, ⟨a, -⟩ | ⟨a, -⟩ | ⟨a, -⟩ | ⟨a, -⟩ | ⟨a | a, -⟩⟩
      · cases w <;> first
          | (cases b'; done)
          | skip
        rename_i X
        have hX : X.toInt = o_v ν b.2.1 := z_num s1 c1
        unfold a_sw at b'
        dsimp only at b'
        by_cases cx : X.toInt < l ∨ hi' < X.toInt
        · rw [if_pos cx, Option.map_eq_some_iff] at b'
          obtain ⟨t', ht', rfl⟩ := b'
          obtain ⟨rfl, g⟩ := tg c6 t' ht'
          refine ⟨dd.1, (xs.drop m.1).map (o_v ν), ?_, f', e, g k2⟩
          show ((1000 + e_sw (o_v ν b.2.1) lo.2 (xs.take m.1) dd.1, _), _) = _
          unfold e_sw
          rw [if_pos]
          rw [← hX, c2, ← a1]
          omega
        · rw [if_neg cx, Option.bind_eq_some_iff] at b'
          obtain ⟨off, ho, b'⟩ := b'
          rw [Option.map_eq_some_iff] at b'
          obtain ⟨t', ht', rfl⟩ := b'
          rw [← Array.getElem?_toList] at ho
          obtain ⟨t, g1, g2⟩ := a2 _ _ ho
          obtain ⟨rfl, g⟩ := tg g2 t' ht'
          refine ⟨t.1, (xs.drop m.1).map (o_v ν), ?_, f', e, g k2⟩
          show ((1000 + e_sw (o_v ν b.2.1) lo.2 (xs.take m.1) dd.1, _), _) = _
          unfold e_sw
          rw [if_neg (by rw [← hX, c2, ← a1]; omega), ← hX, c2, List.getD_eq_getElem?_getD, g1]
          rfl
      · exact absurd a (by show ¬ (9 : Nat) = 1; decide)
      · exact absurd a (by show ¬ (9 : Nat) = 4; decide)
      · exact absurd a (by show ¬ (9 : Nat) = 2; decide)
      · exact absurd a (by show ¬ (9 : Nat) = 3; decide)
      · exact absurd a (by show ¬ (9 : Nat) = 5; decide)
      · exact absurd a (by show ¬ (9 : Nat) = 6; decide)
    · rcases k with k | k
      · exact absurd k (by show ¬ (9 : Nat) = 6; decide)
      · exact absurd k (by show ¬ (9 : Nat) = 7; decide)
  · cases hc
theorem z_post_if {f : Nat} {X : ZX} {b : Bool} {R R' : ZR} (h : z_post Q C mi f X (if b = true then R else R')) : z_post Q C mi f X (bif b then R else R') := by
  cases b <;> exact h
/-- nothing is written but by calls -/
def z_now (p : List ZO) : Bool := p.all fun op => !(z_wop op)
theorem z_nowT {op : ZO} {p : List ZO} (h : (∀ h, Q h) ∨ z_now (op :: p) = true) : (∀ h, Q h) ∨ z_now p = true := by
  rcases h with h | h
  · exact Or.inl h
  · right
    unfold z_now at h ⊢
    rw [List.all_cons, Bool.and_eq_true] at h
    exact h.2
theorem z_nowD {p : List ZO} {o : Nat} (h : (∀ h, Q h) ∨ z_now p = true) : (∀ h, Q h) ∨ z_now (p.drop o) = true := by
  rcases h with h | h
  · exact Or.inl h
  · right
    unfold z_now at h ⊢
    exact List.all_eq_true.mpr fun x hx => List.all_eq_true.mp h x (List.mem_of_mem_drop hx)
theorem z_resT {mt nv d : Nat} {as : List Value} {h : AH} {q : AR} {v : Option Value} {ν : List Int} {rest : List ZV} {crest : List Value} {φ : ZR} (hq : b_lim d mt as h = some q) (hv : q.1 = .inl v) (hn : nv = ν.length) (he : z_out q.1 = φ.1) (hs : z_stk ν rest crest) : z_stk (ν ++ [φ.1.2.getD 0 0]) (z_res mt nv ++ rest) (v.toList ++ crest) := by
  have hrt := z_lim_rty hq v hv
  subst hn
  unfold z_res
  cases v with
  | none =>
    rw [if_pos (hrt.mp rfl)]
    exact hs.app _
  | some w =>
    rw [if_neg (fun c => by have := hrt.mpr c; cases this)]
    refine ⟨z_val.new ?_, hs.app _⟩
    rw [← he, hv]
    rfl
theorem z_go_ok (hF : ∀ mt k ps, z_ps A mt = some (k, ps) → z_met mt k ps (F mt)) (hI : ∀ mt k, (mt, k) ∈ I → ∀ L S, (F mt L S).1 = (0, [L.getD k 0])) (hQ : ∀ mt k ps, z_ps A mt = some (k, ps) → ∀ (d : Nat) (as : List Value) (h : AH) (r : AR) (L : List Int), b_lim d mt as h = some r → z_PI h → L.length = k → z_stk L ps as → Q h → Q r.2.1) : ∀ (g : Nat) (first : Bool) (n : Nat) (p : List ZO) (pc : Nat) (bl : ZL) (bs : List ZV) (nv : Nat), z_go C A I mi g first n p pc bl bs nv = true → ∀ (d f : Nat) (al : AL) (st : List Value) (h : AH) (mc ms : Nat) (r : AR) (ν : List Int) (f0 : Nat), nv = ν.length → a_go (b_lim d) mi f pc al st h mc ms = some r → z_loc ν bl al → z_stk ν bs st → (z_PI h ∧ Q h) → ((∀ h, Q h) ∨ z_now p = true) → (first = false → f < f0) → f ≤ f0 → z_post Q C mi f0 (z_X r) (z_ev F n p ν (z_al h))
  | 0, _, _, _, _, _, _, _, hg, _, _, _, _, _, _, _, _, _, _, _, _, _, _, _, _, _, _ => by cases hg
  | g + 1, first, n, p, pc, bl, bs, nv, hg, d, f, al, st, h, mc, ms, r, ν, f0, hn, hr, hl, hs, P, hw, hf1, hf2 => by
    rw [z_go] at hg
    split at hg
    · -- a cut
      rename_i kc sg hsg
      split at hsg
      · cases hsg
      · rename_i hfirst
        split at hg
        · rename_i n' q xs p'
          rw [Bool.and_eq_true, decide_eq_true_eq] at hg
          obtain ⟨⟨g1, g3⟩, g2⟩ := hg
          obtain rfl := z_stk.n hs
          refine ⟨fun c => absurd c (by show ¬ 1000 + q.1 < 1000; omega), fun _ => ⟨f, hf1 (by simpa using hfirst), ?_⟩⟩
          show z_goes Q C mi f (1000 + q.1 - 1000) _ _ _
          rw [Nat.add_sub_cancel_left, g1]
          exact ⟨sg, d, al, h, mc, ms, r, by show z_sg C pc = some ((xs.map (o_v ν)).length, sg); rw [List.length_map, g3]; exact hsg, hr, z_mtL_ok g2 hl, P, rfl, rfl⟩
        · cases hg
    · split at hg
      · cases hg
      · rename_i i len hi
        split at hg
        · -- a move
          rename_i pc' bl' bs' hm
          rw [f_zs_eq] at hg
          obtain ⟨f', al', st', h', mc', ms', e, hr', hl', hs', P', hS, hh⟩ := z_mv_ok hi hm hl hs P.1 hr
          have P' : z_PI h' ∧ Q h' := ⟨P', by rcases hh with hh | hh; · cases hh
                                              · rw [hh]; exact P.2⟩
          rw [← hS]
          exact z_go_ok hF hI hQ g false n p pc' bl' bs' nv hg d f' al' st' h' mc' ms' r ν f0 hn hr' hl' hs' P' hw (fun _ => by omega) (by omega)
        · split at hg
          · -- a branch on what is known
            rename_i pc' bs' hc
            rw [f_zs_eq] at hg
            unfold z_cc0 at hc
            split at hc
            · rename_i c z z' t bs2 hcnd
              cases hc
              obtain ⟨f', st', mc', ms', e, hr', hs'⟩ := z_cnd_ok hi hcnd hs hr
              exact z_go_ok hF hI hQ g false n p _ bl bs' nv hg d f' al st' h mc' ms' r ν f0 hn hr' hl hs' P hw (fun _ => by omega) (by omega)
            · cases hc
          split at hg
          · rename_i n0 p0 n1 op p1
            split at hg
            · -- an operation
              rename_i pc' bl' bs' hm
              rw [f_zs_eq, f_n_eq] at hg
              rw [hn] at hm
              obtain ⟨⟨f', al', st', h', mc', ms', e, hr', hl', hs', P', hS, hh⟩, hlen, hev⟩ := z_op_ok hi hm hl hs P.1 hr
              have P' : z_PI h' ∧ Q h' := ⟨P', by
                rcases hw with hw | hw
                · exact hw h'
                · rcases hh with hh | hh
                  · unfold z_now at hw
                    rw [List.all_cons, hh] at hw
                    cases hw
                  · rw [hh]
                    exact P.2⟩
              rw [hev F n1 p1, ← hS]
              exact z_go_ok hF hI hQ g false n1 p1 pc' bl' bs' _ hg d f' al' st' h' mc' ms' r _ f0 (by rw [hlen, hn]) hr' hl' hs' P' (z_nowT hw) (fun _ => by omega) (by omega)
            · rw [Bool.or_eq_true, Bool.or_eq_true] at hg
              rcases hg with hg | hg | hg
              · -- an end
                obtain ⟨e1, e2, e3⟩ := z_end_ok hi hg hs hr
                rw [e3 F n1 p1]
                refine ⟨fun _ => ⟨?_, by unfold z_X; rw [e1]; exact ⟨P.1, e2⟩⟩, fun c => absurd c (by show ¬ 1000 ≤ (z_out r.1).1; omega)⟩
                unfold z_X
                rw [e1]
              · -- a switch
                obtain ⟨t, xs, e1, f', e2, e3⟩ := z_swc_ok (F := F) hi hg hl hs P hr n1 p1
                rw [e1]
                refine ⟨fun c => absurd c (by show ¬ 1000 + t < 1000; omega), fun _ => ⟨f', by omega, ?_⟩⟩
                show z_goes Q C mi f' (1000 + t - 1000) _ _ _
                rw [Nat.add_sub_cancel_left]
                exact e3
              · split at hg
                · -- a branch
                  rename_i c sk x y _
                  split at hg
                  · rename_i c' x' y' t bs' hc
                    simp only [Bool.and_eq_true, decide_eq_true_eq, beq_iff_eq, f_n_eq] at hg
                    obtain ⟨⟨g1, rfl, rfl⟩, g2, g3⟩ := hg
                    obtain ⟨f', st', mc', ms', e, hr', hs'⟩ := z_cnd_ok hi hc hs hr
                    show z_post Q C mi f0 _ (bif e_cmp c.1 (o_v ν x) (o_v ν y) then z_ev F n1 p1 ν (z_al h) else z_ev F n1 (p1.drop sk.1) ν (z_al h))
                    rw [g1]
                    apply z_post_if
                    by_cases hb : e_cmp c' (o_v ν x) (o_v ν y) = true
                    · rw [if_pos hb] at hr' ⊢
                      exact z_go_ok hF hI hQ g false n1 p1 t bl bs' nv g2 d f' al st' h mc' ms' r ν f0 hn hr' hl hs' P (z_nowT hw) (fun _ => by omega) (by omega)
                    · rw [if_neg hb] at hr' ⊢
                      exact z_go_ok hF hI hQ g false n1 (p1.drop sk.1) (pc + 3) bl bs' nv g3 d f' al st' h mc' ms' r ν f0 hn hr' hl hs' P (z_nowD (z_nowT hw)) (fun _ => by omega) (by omega)
                  · cases hg
                · -- a call
                  rename_i mt xs _
                  split at hg
                  · rename_i m as rest hc
                    split at hg
                    · rename_i kn ps hps
                      rw [f_zs_eq, f_n_eq] at hg
                      simp only [Bool.and_eq_true, decide_eq_true_eq] at hg
                      obtain ⟨⟨⟨g1, g0⟩, g2, g3⟩, g4⟩ := hg
                      obtain ⟨f', cas, crest, q, h', c', s', e, hsa, hsr, hcall, hcont⟩ := z_cal_ok hi hc hs hr
                      obtain ⟨P', lt, hm⟩ := hF m kn ps hps d cas h _ (xs.map (o_v ν)) hcall P.1 (by rw [List.length_map]; exact g0) (z_mtA_ok g3 hsa)
                      have Q' : Q h' := hQ m kn ps hps d cas h _ (xs.map (o_v ν)) hcall P.1 (by rw [List.length_map]; exact g0) (z_mtA_ok g3 hsa) P.2
                      have e0 : z_out q = (F m (xs.map (o_v ν)) (z_al h)).1 := congrArg Prod.fst hm
                      have eS : z_al h' = (F m (xs.map (o_v ν)) (z_al h)).2 := congrArg Prod.snd hm
                      show z_post Q C mi f0 _ (e_bind (F mt.1 (xs.map (o_v ν)) (z_al h)) (fun v S1 => z_ev F n1 p1 (ν ++ [v]) S1))
                      rw [g1]
                      unfold e_bind
                      cases q with
                      | inl v =>
                        have hv0 : (F m (xs.map (o_v ν)) (z_al h)).1.1 = 0 := by
                          rw [← e0]
                          cases v <;> rfl
                        rw [hv0]
                        show z_post Q C mi f0 _ (z_ev F n1 p1 (ν ++ [(F m (xs.map (o_v ν)) (z_al h)).1.2.getD 0 0]) (F m (xs.map (o_v ν)) (z_al h)).2)
                        rw [← eS]
                        have hcont : a_go (b_lim d) mi f' (pc + 3) al (v.toList ++ crest) h' (mc + c') (ms + s') = some r := hcont
                        exact z_go_ok hF hI hQ g false n1 p1 (pc + 3) bl _ (nv + 1) g4 d f' al _ h' _ _ r _ f0 (by rw [List.length_append, hn]; rfl) hcont (hl.app _) (z_resT hcall rfl hn e0 hsr) ⟨P', Q'⟩ (z_nowT hw) (fun _ => by omega) (by omega)
                      | inr k =>
                        have hv0 : (F m (xs.map (o_v ν)) (z_al h)).1.1 = k + 1 := by
                          rw [← e0]
                          rfl
                        rw [hv0]
                        have lt : k + 1 < 1000 := lt
                        show z_post Q C mi f0 _ (((k + 1) % 1000, []), (F m (xs.map (o_v ν)) (z_al h)).2)
                        rw [← eS, Nat.mod_eq_of_lt lt]
                        rcases hcont with ⟨-, hx⟩ | ⟨hx, -⟩
                        · rw [hx]
                          exact ⟨fun _ => ⟨rfl, P', lt⟩, fun c => absurd c (by show ¬ 1000 ≤ k + 1; omega)⟩
                        · rw [g2] at hx
                          cases hx
                    · cases hg
                  · cases hg
                · -- a call that gives an argument back
                  rename_i mt kk xs _
                  split at hg
                  · rename_i m as rest hc
                    split at hg
                    · rename_i kn ps hps
                      rw [f_zs_eq] at hg
                      simp only [Bool.and_eq_true, decide_eq_true_eq] at hg
                      obtain ⟨⟨⟨⟨g1, g0⟩, g2, g3⟩, g5, g6, g7⟩, g4⟩ := hg
                      obtain ⟨f', cas, crest, q, h', c', s', e, hsa, hsr, hcall, hcont⟩ := z_cal_ok hi hc hs hr
                      obtain ⟨P', lt, hm⟩ := hF m kn ps hps d cas h _ (xs.map (o_v ν)) hcall P.1 (by rw [List.length_map]; exact g0) (z_mtA_ok g3 hsa)
                      have Q' : Q h' := hQ m kn ps hps d cas h _ (xs.map (o_v ν)) hcall P.1 (by rw [List.length_map]; exact g0) (z_mtA_ok g3 hsa) P.2
                      have e0 : z_out q = (F m (xs.map (o_v ν)) (z_al h)).1 := congrArg Prod.fst hm
                      have eS : z_al h' = (F m (xs.map (o_v ν)) (z_al h)).2 := congrArg Prod.snd hm
                      have eI := hI mt.1 kk.1 (by simpa using g5) (xs.map (o_v ν)) (z_al h)
                      show z_post Q C mi f0 _ (z_ev F n1 p1 ν (F mt.1 (xs.map (o_v ν)) (z_al h)).2)
                      rw [g1] at eI ⊢
                      rw [← e0] at eI
                      rw [← eS]
                      cases q with
                      | inl v =>
                        cases v with
                        | none => exact absurd eI (by show ¬ ((0, []) : Nat × List Int) = _; intro q; cases q)
                        | some w =>
                          have hcont : a_go (b_lim d) mi f' (pc + 3) al (w :: crest) h' (mc + c') (ms + s') = some r := hcont
                          have ew : e_v w = o_v ν (xs.getD kk.1 (0, 0)) := by
                            have eI : ((0, [e_v w]) : Nat × List Int) = (0, [(xs.map (o_v ν)).getD kk.1 0]) := eI
                            rw [Prod.mk.injEq, List.cons.injEq] at eI
                            rw [eI.2.1, List.getD_eq_getElem?_getD, List.getD_eq_getElem?_getD, List.getElem?_map]
                            cases xs[kk.1]? <;> rfl
                          exact z_go_ok hF hI hQ g false n1 p1 (pc + 3) bl _ nv g4 d f' al _ h' _ _ r ν f0 hn hcont hl ⟨z_val.n (by decide) (by rw [← hn]; exact g7) (Nat.zero_le _) ew, hsr⟩ ⟨P', Q'⟩ (z_nowT hw) (fun _ => by omega) (by omega)
                      | inr k => exact absurd eI (by show ¬ ((k + 1, []) : Nat × List Int) = _; intro q; cases q)
                    · cases hg
                  · cases hg
                · -- a call whose exceptions are taken
                  rename_i mt m0 xs _
                  split at hg
                  · rename_i m as rest hc
                    split at hg
                    · rename_i kn ps hps
                      rw [f_zs_eq, f_n_eq] at hg
                      simp only [Bool.and_eq_true, decide_eq_true_eq] at hg
                      obtain ⟨⟨⟨⟨⟨g1, g0⟩, g2, g3⟩, g5⟩, g6⟩, g4⟩ := hg
                      obtain ⟨f', cas, crest, q, h', c', s', e, hsa, hsr, hcall, hcont⟩ := z_cal_ok hi hc hs hr
                      obtain ⟨P', lt, hm⟩ := hF m kn ps hps d cas h _ ((xs.drop m0.1).map (o_v ν)) hcall P.1 (by rw [List.length_map]; exact g0) (z_mtA_ok g3 hsa)
                      have Q' : Q h' := hQ m kn ps hps d cas h _ ((xs.drop m0.1).map (o_v ν)) hcall P.1 (by rw [List.length_map]; exact g0) (z_mtA_ok g3 hsa) P.2
                      have e0 : z_out q = (F m ((xs.drop m0.1).map (o_v ν)) (z_al h)).1 := congrArg Prod.fst hm
                      have eS : z_al h' = (F m ((xs.drop m0.1).map (o_v ν)) (z_al h)).2 := congrArg Prod.snd hm
                      show z_post Q C mi f0 _ (e_bindX (F mt.1 ((xs.drop m0.1).map (o_v ν)) (z_al h)) (fun v S1 => z_ev F n1 p1 (ν ++ [v]) S1) (xs.take m0.1) (fun o S1 => z_ev F n1 (p1.drop o) ν S1))
                      rw [g1]
                      unfold e_bindX
                      cases q with
                      | inl v =>
                        have hv0 : (F m ((xs.drop m0.1).map (o_v ν)) (z_al h)).1.1 = 0 := by
                          rw [← e0]
                          cases v <;> rfl
                        rw [hv0]
                        show z_post Q C mi f0 _ (z_ev F n1 p1 (ν ++ [(F m ((xs.drop m0.1).map (o_v ν)) (z_al h)).1.2.getD 0 0]) (F m ((xs.drop m0.1).map (o_v ν)) (z_al h)).2)
                        rw [← eS]
                        have hcont : a_go (b_lim d) mi f' (pc + 3) al (v.toList ++ crest) h' (mc + c') (ms + s') = some r := hcont
                        exact z_go_ok hF hI hQ g false n1 p1 (pc + 3) bl _ (nv + 1) g4 d f' al _ h' _ _ r _ f0 (by rw [List.length_append, hn]; rfl) hcont (hl.app _) (z_resT hcall rfl hn e0 hsr) ⟨P', Q'⟩ (z_nowT hw) (fun _ => by omega) (by omega)
                      | inr k =>
                        have hv0 : (F m ((xs.drop m0.1).map (o_v ν)) (z_al h)).1.1 = k + 1 := by
                          rw [← e0]
                          rfl
                        rw [hv0]
                        show z_post Q C mi f0 _ (e_hs (k + 1) (fun o => z_ev F n1 (p1.drop o) ν (F m ((xs.drop m0.1).map (o_v ν)) (z_al h)).2) (F m ((xs.drop m0.1).map (o_v ν)) (z_al h)).2 (xs.take m0.1))
                        rw [← eS]
                        rcases hcont with ⟨hx, -⟩ | ⟨-, x, hp, nn, x1, x2, x3, x4⟩
                        · rw [hx] at g2
                          cases g2
                        · have hmem : ∃ e ∈ xs.take m0.1, e.1 = k := by
                            have q1 := List.mem_of_find?_eq_some x1
                            have q2 := List.find?_some x1
                            have q3 := List.all_eq_true.mp g5 x q1
                            simp only [Bool.and_eq_true, beq_iff_eq] at q2
                            simp only [Bool.or_eq_true, Bool.not_eq_true', q2.1, Bool.and_self] at q3
                            rcases q3 with q3 | q3
                            · cases q3
                            · obtain ⟨e', e1, e2⟩ := List.any_eq_true.mp q3
                              exact ⟨e', e1, (beq_iff_eq.mp e2).trans q2.2⟩
                          obtain ⟨e', e1, e2, e3⟩ := e_hs_ok (g := fun o => z_ev F n1 (p1.drop o) ν (z_al h')) (S := z_al h') hmem
                          rw [e3]
                          have q4 := List.all_eq_true.mp g6 e' e1
                          rw [e2, x1] at q4
                          dsimp only at q4
                          rw [x2] at q4
                          dsimp only at q4
                          rw [Bool.and_eq_true, decide_eq_true_eq] at q4
                          exact z_go_ok hF hI hQ g false n1 _ hp _ [] nv q4.2 d f' (a_drop al nn) [] h' _ _ r ν f0 hn x4 ((hl.kill nn).setN nn) trivial ⟨P', Q'⟩ (z_nowD (z_nowT hw)) (fun _ => by omega) (by omega)
                    · cases hg
                  · cases hg
                · cases hg
          · cases hg
/-- the rule: one turn from a cut -/
theorem z_turn {g n : Nat} {p : List ZO} {sg : ZL} {f pc : Nat} {L : List Int} {S : ZS} {X : ZX} (hF : ∀ mt k ps, z_ps A mt = some (k, ps) → z_met mt k ps (F mt)) (hI : ∀ mt k, (mt, k) ∈ I → ∀ L S, (F mt L S).1 = (0, [L.getD k 0])) (hQ : ∀ mt k ps, z_ps A mt = some (k, ps) → ∀ (d : Nat) (as : List Value) (h : AH) (r : AR) (L : List Int), b_lim d mt as h = some r → z_PI h → L.length = k → z_stk L ps as → Q h → Q r.2.1) (hw : (∀ h, Q h) ∨ z_now p = true) (hsg : z_sg C pc = some (L.length, sg)) (hg : z_go C A I mi g true n p pc sg [] L.length = true) (hr : z_goes Q C mi f pc L S X) : z_post Q C mi f X (z_ev F n p L S) := by
  obtain ⟨sg', d, al, h, mc, ms, r, h1, h2, h3, h4, h5, h6⟩ := hr
  rw [hsg] at h1
  cases h1
  rw [h6, ← h5]
  exact z_go_ok hF hI hQ g true n p pc sg [] _ hg d f al [] h mc ms r L f rfl h2 h3 trivial h4 hw (fun q => by cases q) (Nat.le_refl _)
end GO
/-- a method's function out of its runs -/
def z_args (mt : Nat) (ps : List ZV) : ZL := ps.map some ++ List.replicate (a_mxl mt - ps.length) none
theorem z_args_ok {L : List Int} {mt : Nat} : ∀ {ps : List ZV} {as : List Value}, z_stk L ps as → (as.all fun v => v.category == 1) = true → ps.length = as.length ∧ ∀ (i : Nat) (p : ZV), ps[i]? = some p → ∃ w, as[i]? = some w ∧ z_val L p w ∧ w.category ≠ 2
  | [], [], _, _ => ⟨rfl, fun i p hp => by cases hp⟩
  | p :: ps, a :: as, h, hc => by
    rw [List.all_cons, Bool.and_eq_true, beq_iff_eq] at hc
    obtain ⟨h1, h2⟩ := z_args_ok (mt := mt) h.2 hc.2
    refine ⟨by rw [List.length_cons, List.length_cons, h1], fun i p' hp => ?_⟩
    cases i with
    | zero =>
      cases hp
      exact ⟨a, rfl, h.1, by rw [hc.1]; decide⟩
    | succ i => exact h2 i p' hp
  | [], _ :: _, h, _ => h.elim
  | _ :: _, [], h, _ => h.elim
def z_Q0 : AH → Prop := fun _ => True
theorem z_met_of {C : ZC} {mt nv : Nat} {ps : List ZV} {φ : ZFn} (hsg : z_sg C 0 = some (nv, z_args mt ps)) (hr : ∀ (f : Nat) (L : List Int) (S : ZS) (X : ZX), L.length = nv → z_goes z_Q0 C mt f 0 L S X → X.1 = φ L S ∧ X.2) : z_met mt nv ps φ := by
  intro d as h r L hq P hn hs
  obtain ⟨F, hF⟩ := b_lim_ex hq
  cases d with
  | zero => cases hF
  | succ d =>
    rw [a_run] at hF
    split at hF
    · rename_i hc
      obtain ⟨q1, q2⟩ := z_args_ok (mt := mt) hs hc.2.2
      have hg := b_up (c2 := b_lim d) (fun mt as h r q => b_lim_of q) F 0 _ _ _ _ _ _ _ hF
      have hl : z_loc L (z_args mt ps) (a_args mt as) := by
        refine ⟨by simp only [z_args, a_args, List.length_append, List.length_map, List.length_replicate]; rw [q1], fun i b hb => ?_⟩
        unfold z_args at hb
        rcases Nat.lt_or_ge i ps.length with q | q
        · rw [List.getElem?_append_left (by rw [List.length_map]; exact q), List.getElem?_map] at hb
          cases hp : ps[i]? with
          | none => rw [hp] at hb; cases hb
          | some p =>
            rw [hp] at hb
            cases hb
            obtain ⟨w, w1, w2, w3⟩ := q2 i b hp
            refine ⟨w, ?_, w2, fun _ => w3⟩
            unfold a_get a_args
            rw [List.getElem?_append_left (by rw [List.length_map, ← q1]; exact q), List.getElem?_map, w1]
            rfl
        · rw [List.getElem?_append_right (by rw [List.length_map]; exact q), List.getElem?_replicate] at hb
          split at hb <;> cases hb
      obtain ⟨k1, k2⟩ := hr _ L (z_al h) (z_X r) hn ⟨_, d, _, h, 0, 0, r, by rw [hn]; exact hsg, hg, hl, ⟨P, trivial⟩, rfl, rfl⟩
      exact ⟨k2.1, k2.2, k1⟩
    · cases hF
/-- a program without cuts -/
def z_no1 (op : ZO) : Bool := match op with
  | (1, [k]) => decide (k.1 < 900)
  | (2, _) => false
  | (10, _) => false
  | _ => true
def z_nog (p : List ZO) : Bool := p.all z_no1
theorem e_hs_lt {c : Nat} {g : Nat → ZR} {S : ZS} (hg : ∀ o, (g o).1.1 < 1000) : ∀ {l : List ZN}, (e_hs c g S l).1.1 < 1000
  | [] => by rw [e_hs]; exact Nat.mod_lt _ (by decide)
  | e :: l => by
    rw [e_hs]
    cases (e.1 + 1 == c) with
    | true => exact hg _
    | false => exact e_hs_lt hg
theorem z_nog_ok {F : Nat → ZFn} : ∀ (n : Nat) (p : List ZO) (ν : List Int) (S : ZS), z_nog p = true → (z_ev F n p ν S).1.1 < 1000
  | 0, _, _, _, _ => by rw [z_ev]; show (0 : Nat) < 1000; decide
  | n + 1, [], _, _, _ => by rw [z_ev]; show (0 : Nat) < 1000; decide
  | n + 1, op :: p, ν, S, h => by
    have hp : z_nog p = true := by
      unfold z_nog at h ⊢
      rw [List.all_cons, Bool.and_eq_true] at h
      exact h.2
    have h1 : z_no1 op = true := by
      unfold z_nog at h
      rw [List.all_cons, Bool.and_eq_true] at h
      exact h.1
    have hd : ∀ o, z_nog (p.drop o) = true := fun o => by
      unfold z_nog at hp ⊢
      exact List.all_eq_true.mpr fun x hx => List.all_eq_true.mp hp x (List.mem_of_mem_drop hx)
    have zz : (0 : Nat) < 1000 := by decide
    unfold z_ev
    split
    · exact zz
    · rename_i k
      have h1 := of_decide_eq_true h1
      show k.1 + 1 < 1000
      omega
    · cases h1
    · rename_i c sk x y
      cases e_cmp c.1 (o_v ν x) (o_v ν y) with
      | true => exact z_nog_ok n _ _ _ hp
      | false => exact z_nog_ok n _ _ _ (hd _)
    · exact z_nog_ok n _ _ _ hp
    · exact z_nog_ok n _ _ _ hp
    · exact z_nog_ok n _ _ _ hp
    · rename_i mt xs
      unfold e_bind
      cases ((F mt.1 (xs.map (o_v ν)) S).1.1 == 0) with
      | true => exact z_nog_ok n _ _ _ hp
      | false => exact Nat.mod_lt _ (by decide)
    · exact z_nog_ok n _ _ _ hp
    · exact z_nog_ok n _ _ _ hp
    · cases h1
    · exact z_nog_ok n _ _ _ hp
    · rename_i mt m xs
      unfold e_bindX
      cases ((F mt.1 ((xs.drop m.1).map (o_v ν)) S).1.1 == 0) with
      | true => exact z_nog_ok n _ _ _ hp
      | false => exact e_hs_lt (fun o => z_nog_ok n _ _ _ (hd _))
    · exact zz
/-- the methods that a method calls, with what they do -/
abbrev ZT : Type := List (Nat × Nat × List ZV × ZFn)
def z_A (T : ZT) : ZM := T.map fun e => (e.1, e.2.1, e.2.2.1)
def z_F (T : ZT) (mt : Nat) : ZFn := match T.find? (fun e => e.1 == mt) with
  | some e => e.2.2.2
  | none => fun _ S => ((0, []), S)
def z_ok (T : ZT) : Prop := ∀ e ∈ T, z_met e.1 e.2.1 e.2.2.1 e.2.2.2
theorem z_ok.n : z_ok [] := fun _ h => absurd h List.not_mem_nil
theorem z_ok.c {mt k : Nat} {ps : List ZV} {φ : ZFn} {T : ZT} (h : z_met mt k ps φ) (hT : z_ok T) : z_ok ((mt, k, ps, φ) :: T) := List.forall_mem_cons.mpr ⟨h, hT⟩
theorem z_ok.h {T : ZT} (h : z_ok T) : ∀ mt k ps, z_ps (z_A T) mt = some (k, ps) → z_met mt k ps (z_F T mt) := by
  intro mt k ps hp
  induction T with
  | nil => cases hp
  | cons e T ih =>
    unfold z_ps z_A at hp
    rw [List.map_cons, List.find?_cons] at hp
    unfold z_F
    rw [List.find?_cons]
    dsimp only at hp
    cases hc : (e.1 == mt) with
    | true =>
      rw [hc] at hp
      have hp : (e.2.1, e.2.2.1) = (k, ps) := Option.some.inj hp
      have := h e List.mem_cons_self
      rw [Prod.mk.injEq] at hp
      rw [hp.1, hp.2, beq_iff_eq.mp hc] at this
      exact this
    | false =>
      rw [hc] at hp
      exact ih (fun e' he' => h e' (List.mem_cons_of_mem _ he')) hp
/-- a method without a loop -/
theorem z_met_ev {C : ZC} {T : ZT} {I : List (Nat × Nat)} {mt g n nv : Nat} {p : List ZO} {ps : List ZV} {φ : ZFn} (hT : z_ok T) (hI : ∀ mt k, (mt, k) ∈ I → ∀ L S, (z_F T mt L S).1 = (0, [L.getD k 0])) (hsg : z_sg C 0 = some (nv, z_args mt ps)) (hg : z_go C (z_A T) I mt g true n p 0 (z_args mt ps) [] nv = true) (hp : z_nog p = true) (hφ : ∀ (L : List Int) (S : ZS), L.length = nv → z_ev (z_F T) n p L S = φ L S) : z_met mt nv ps φ := z_met_of hsg fun f L S X hn hr => by
  subst hn
  have := z_turn hT.h hI (fun _ _ _ _ _ _ _ _ _ _ _ _ _ _ => trivial) (Or.inl fun _ => trivial) hsg hg hr
  rw [← hφ L S rfl]
  exact this.1 (z_nog_ok n p L S hp)
/-! Methods with loops: where they end, going on from cut to cut -/
def z_it (st : Nat → List Int → ZS → ZR) : Nat → ZR → ZR
  | 0, R => R
  | n + 1, R => if R.1.1 < 1000 then R else z_it st n (st (R.1.1 - 1000) R.1.2 R.2)
noncomputable def z_psi (st : Nat → List Int → ZS → ZR) (R : ZR) : ZR := by
  classical
  exact if q : ∃ n, (z_it st n R).1.1 < 1000 then z_it st q.choose R else ((999, []), fun _ _ _ _ => 0)
theorem z_it_fin {st : Nat → List Int → ZS → ZR} {R : ZR} (h : R.1.1 < 1000) : ∀ n, z_it st n R = R
  | 0 => rfl
  | n + 1 => if_pos h
theorem z_it_go {st : Nat → List Int → ZS → ZR} {R : ZR} {n : Nat} (h : ¬ R.1.1 < 1000) : z_it st (n + 1) R = z_it st n (st (R.1.1 - 1000) R.1.2 R.2) := if_neg h
theorem z_it_up {st : Nat → List Int → ZS → ZR} : ∀ (n k : Nat) (R : ZR), (z_it st n R).1.1 < 1000 → z_it st (n + k) R = z_it st n R
  | 0, k, R, h => by rw [Nat.zero_add]; exact z_it_fin h k
  | n + 1, k, R, h => by
    by_cases c : R.1.1 < 1000
    · rw [z_it_fin c, z_it_fin c]
    · rw [z_it_go c] at h ⊢
      rw [show n + 1 + k = (n + k) + 1 by omega, z_it_go c]
      exact z_it_up n k _ h
theorem z_psi_of {st : Nat → List Int → ZS → ZR} {R : ZR} {n : Nat} (h : (z_it st n R).1.1 < 1000) : z_psi st R = z_it st n R := by
  have q : ∃ n, (z_it st n R).1.1 < 1000 := ⟨n, h⟩
  unfold z_psi
  rw [dif_pos q]
  have e1 := z_it_up n q.choose R h
  have e2 := z_it_up q.choose n R q.choose_spec
  rw [Nat.add_comm] at e2
  exact e2.symm.trans e1
theorem z_psi_fin {st : Nat → List Int → ZS → ZR} {R : ZR} (h : R.1.1 < 1000) : z_psi st R = R := z_psi_of (n := 0) h
theorem z_psi_go {st : Nat → List Int → ZS → ZR} {pc : Nat} {L : List Int} {S : ZS} : z_psi st ((1000 + pc, L), S) = z_psi st (st pc L S) := by
  have c : ¬ (((1000 + pc, L), S) : ZR).1.1 < 1000 := by show ¬ 1000 + pc < 1000; omega
  have step : ∀ n, z_it st (n + 1) ((1000 + pc, L), S) = z_it st n (st pc L S) := fun n => by
    rw [z_it_go c]
    show z_it _ n (st (1000 + pc - 1000) L S) = _
    rw [Nat.add_sub_cancel_left]
  by_cases q : ∃ n, (z_it st n ((1000 + pc, L), S)).1.1 < 1000
  · obtain ⟨n, hn⟩ := q
    cases n with
    | zero => exact absurd hn c
    | succ n =>
      rw [z_psi_of hn]
      rw [step n] at hn ⊢
      exact (z_psi_of hn).symm
  · have q2 : ¬ ∃ n, (z_it st n (st pc L S)).1.1 < 1000 := fun ⟨n, hn⟩ => q ⟨n + 1, by rw [step n]; exact hn⟩
    unfold z_psi
    rw [dif_neg q, dif_neg q2]
abbrev ZD : Type := List (Nat × Nat × ZL × Nat × List ZO)
def z_C (D : ZD) : ZC := D.map fun e => (e.1, e.2.1, e.2.2.1)
def z_st (F : Nat → ZFn) (D : ZD) (pc : Nat) (L : List Int) (S : ZS) : ZR := match D.find? (fun e => e.1 == pc) with
  | some e => z_ev F e.2.2.2.1 e.2.2.2.2 L S
  | none => ((0, []), S)
noncomputable def z_chk (T : ZT) (I : List (Nat × Nat)) (mi : Nat) (D : ZD) : Bool := D.all fun e => z_go (z_C D) (z_A T) I mi 400 true e.2.2.2.1 e.2.2.2.2 e.1 e.2.2.1 [] e.2.1
theorem z_stP {Q : AH → Prop} {T : ZT} {I : List (Nat × Nat)} {mi : Nat} {D : ZD} (hT : z_ok T) (hI : ∀ mt k, (mt, k) ∈ I → ∀ L S, (z_F T mt L S).1 = (0, [L.getD k 0])) (hQ : ∀ mt k ps, z_ps (z_A T) mt = some (k, ps) → ∀ (d : Nat) (as : List Value) (h : AH) (r : AR) (L : List Int), b_lim d mt as h = some r → z_PI h → L.length = k → z_stk L ps as → Q h → Q r.2.1) (hw : (∀ h, Q h) ∨ (D.all fun e => z_now e.2.2.2.2) = true) (hc : z_chk T I mi D = true) {f pc : Nat} {L : List Int} {S : ZS} {X : ZX} (hr : z_goes Q (z_C D) mi f pc L S X) : z_post Q (z_C D) mi f X (z_st (z_F T) D pc L S) := by
  obtain ⟨sg, d, al, h, mc, ms, r, h1, hrest⟩ := id hr
  have hs := h1
  unfold z_sg z_C at h1
  rw [List.find?_map, Option.map_map, Option.map_eq_some_iff] at h1
  obtain ⟨e, he, h2⟩ := h1
  have he : D.find? (fun e => e.1 == pc) = some e := he
  have h2 : e.2.1 = L.length ∧ e.2.2.1 = sg := by
    have h2 : (e.2.1, e.2.2.1) = (L.length, sg) := h2
    rw [Prod.mk.injEq] at h2
    exact h2
  have hm := List.mem_of_find?_eq_some he
  have hp : e.1 = pc := by simpa using List.find?_some he
  have hg := List.all_eq_true.mp hc e hm
  rw [hp, h2.1, h2.2] at hg
  unfold z_st
  rw [he]
  exact z_turn hT.h hI hQ (hw.imp id fun q => List.all_eq_true.mp q e hm) hs hg hr
theorem z_met_psi {T : ZT} {I : List (Nat × Nat)} {mt nv : Nat} {ps : List ZV} {D : ZD} (hT : z_ok T) (hI : ∀ mt k, (mt, k) ∈ I → ∀ L S, (z_F T mt L S).1 = (0, [L.getD k 0])) (hsg : z_sg (z_C D) 0 = some (nv, z_args mt ps)) (hc : z_chk T I mt D = true) : z_met mt nv ps (fun L S => z_psi (z_st (z_F T) D) ((1000, L), S)) := z_met_of hsg fun f L S X hn hr => by
  have key : ∀ (f pc : Nat) (L : List Int) (S : ZS), z_goes z_Q0 (z_C D) mt f pc L S X → (∃ n, z_it (z_st (z_F T) D) n ((1000 + pc, L), S) = X.1 ∧ X.1.1.1 < 1000) ∧ X.2 := by
    intro f
    induction f using Nat.strongRecOn with
    | ind f ih =>
      intro pc L S hr
      obtain ⟨k1, k2⟩ := z_stP hT hI (fun _ _ _ _ _ _ _ _ _ _ _ _ _ _ => trivial) (Or.inl fun _ => trivial) hc hr
      have c : ¬ (((1000 + pc, L), S) : ZR).1.1 < 1000 := by show ¬ 1000 + pc < 1000; omega
      have step : ∀ n, z_it (z_st (z_F T) D) (n + 1) ((1000 + pc, L), S) = z_it (z_st (z_F T) D) n (z_st (z_F T) D pc L S) := fun n => by
        rw [z_it_go c]
        show z_it _ n (z_st (z_F T) D (1000 + pc - 1000) L S) = _
        rw [Nat.add_sub_cancel_left]
      rcases Nat.lt_or_ge (z_st (z_F T) D pc L S).1.1 1000 with q | q
      · obtain ⟨e1, e2⟩ := k1 q
        refine ⟨⟨1, ?_, by rw [e1]; exact q⟩, e2⟩
        rw [step 0, e1]
        rfl
      · obtain ⟨f', hf, hg⟩ := k2 q
        obtain ⟨⟨n, n1, n2⟩, e2⟩ := ih f' hf _ _ _ hg
        refine ⟨⟨n + 1, ?_, n2⟩, e2⟩
        rw [step n, ← n1]
        generalize z_st (z_F T) D pc L S = R at q
        obtain ⟨⟨a, b⟩, c2⟩ := R
        have q : 1000 ≤ a := q
        show z_it _ n ((a, b), c2) = z_it _ n ((1000 + (a - 1000), b), c2)
        rw [show 1000 + (a - 1000) = a by omega]
  obtain ⟨⟨n, n1, n2⟩, e2⟩ := key f 0 L S hr
  refine ⟨?_, e2⟩
  rw [← n1] at n2 ⊢
  exact (z_psi_of n2).symm
end
/-! part 71s11 -/
section
/-! What the texts of the methods use -/
theorem z_cv {b : Bool} {x y : Int} {S : ZS} : (bif b then (((0, [x]), S) : ZR) else ((0, [y]), S)) = ((0, [bif b then x else y]), S) := by cases b <;> rfl
def e_tr (c : Nat) (S : ZS) : List (Nat × Int) → ZR
  | [] => ((c % 1000, []), S)
  | e :: t => bif e.1 + 1 == c then ((0, [e.2]), S) else e_tr c S t
def e_try (R : ZR) (k : Int → ZS → ZR) (hs : List (Nat × Int)) : ZR := bif R.1.1 == 0 then k (R.1.2.getD 0 0) R.2 else e_tr R.1.1 R.2 hs
section ZE
variable {F : Nat → ZFn} {n : Nat} {p : List ZO} {ν : List Int} {S : ZS}
theorem z_e0 {xs : List ZN} : z_ev F (n + 1) ((0, xs) :: p) ν S = ((0, xs.map (o_v ν)), S) := id rfl
theorem z_e1 {k : ZN} : z_ev F (n + 1) ((1, [k]) :: p) ν S = ((k.1 + 1, []), S) := id rfl
theorem z_e2 {k : Nat} {z : Int} {xs : List ZN} : z_ev F (n + 1) ((2, (k, z) :: xs) :: p) ν S = ((1000 + k, xs.map (o_v ν)), S) := id rfl
theorem z_e3 {c sk : Nat} {z z' : Int} {x y : ZN} : z_ev F (n + 1) ((3, [(c, z), (sk, z'), x, y]) :: p) ν S = bif e_cmp c (o_v ν x) (o_v ν y) then z_ev F n p ν S else z_ev F n (p.drop sk) ν S := id rfl
theorem z_e4 {o : Nat} {z : Int} {x y : ZN} : z_ev F (n + 1) ((4, [(o, z), x, y]) :: p) ν S = z_ev F n p (ν ++ [e_bin o (o_v ν x) (o_v ν y)]) S := id rfl
theorem z_e5 {r : Nat} {z : Int} {i j k : ZN} : z_ev F (n + 1) ((5, [(r, z), i, j, k]) :: p) ν S = z_ev F n p (ν ++ [S r (o_v ν i) (o_v ν j) (o_v ν k)]) S := id rfl
theorem z_e6 {r md : Nat} {z z' : Int} {i j k v : ZN} : z_ev F (n + 1) ((6, [(r, z), (md, z'), i, j, k, v]) :: p) ν S = z_ev F n p ν (e_upd S r (o_v ν i) (o_v ν j) (o_v ν k) (e_nar md (o_v ν v))) := id rfl
theorem z_e7 {mt : Nat} {z : Int} {xs : List ZN} : z_ev F (n + 1) ((7, (mt, z) :: xs) :: p) ν S = e_bind (F mt (xs.map (o_v ν)) S) (fun v S1 => z_ev F n p (ν ++ [v]) S1) := id rfl
theorem z_e8 : z_ev F (n + 1) ((8, []) :: p) ν S = z_ev F n p (ν ++ [S z_rA 0 0 0]) (e_upd S z_rA 0 0 0 (S z_rA 0 0 0 + 1)) := id rfl
theorem z_e13 {mt kk : Nat} {z z' : Int} {xs : List ZN} : z_ev F (n + 1) ((13, (mt, z) :: (kk, z') :: xs) :: p) ν S = z_ev F n p ν (F mt (xs.map (o_v ν)) S).2 := id rfl
theorem o_v0 {z : Int} : o_v ν (0, z) = z := id rfl
theorem o_v1 {a z : Int} : o_v (a :: ν) (1, z) = a := id rfl
theorem o_v2 {a z : Int} {k : Nat} : o_v (a :: ν) (k + 2, z) = o_v ν (k + 1, z) := id rfl
theorem e_bnd {z : Int} {k : Int → ZS → ZR} : e_bind ((0, [z]), S) k = k z S := id rfl
theorem e_bnd0 {k : Int → ZS → ZR} : e_bind ((0, []), S) k = k 0 S := id rfl
theorem e_un {r r' : Nat} {i j k i' j' k' z : Int} (h : (r' == r) = false) : e_upd S r i j k z r' i' j' k' = S r' i' j' k' := if_neg (fun q => by rw [q.1, beq_self_eq_true] at h; cases h)
theorem z_e11 {mt m : Nat} {z z' : Int} {xs : List ZN} : z_ev F (n + 1) ((11, (mt, z) :: (m, z') :: xs) :: p) ν S = e_bindX (F mt ((xs.drop m).map (o_v ν)) S) (fun v S1 => z_ev F n p (ν ++ [v]) S1) (xs.take m) (fun o S1 => z_ev F n (p.drop o) ν S1) := id rfl
theorem e_b0 {x y : Int} : e_bin 0 x y = e_wr (x + y) := id rfl
theorem e_b1 {x y : Int} : e_bin 1 x y = e_wr (x - y) := id rfl
theorem e_b2 {x y : Int} : e_bin 2 x y = e_wr (x * y) := id rfl
theorem e_b3 {x y : Int} : e_bin 3 x y = e_div x y := id rfl
theorem e_b4 {x y : Int} : e_bin 4 x y = e_wr (x - e_wr (e_div x y * y)) := id rfl
theorem e_b5 {x y : Int} : e_bin 5 x y = e_and x y := id rfl
theorem e_b6 {x y : Int} : e_bin 6 x y = e_or x y := id rfl
theorem e_b7 {x y : Int} : e_bin 7 x y = if y < x then y else x := id rfl
theorem e_b8 {x y : Int} : e_bin 8 x y = if x < y then y else x := id rfl
theorem e_b9 {x y : Int} : e_bin 9 x y = e_i2c x := id rfl
theorem e_b10 {x y : Int} : e_bin 10 x y = e_wl (x + y) := id rfl
theorem e_b11 {x y : Int} : e_bin 11 x y = e_wl (x * y) := id rfl
theorem e_b12 {x y : Int} : e_bin 12 x y = e_lcmp x y := id rfl
theorem e_b13 {x y : Int} : e_bin 13 x y = e_i2f x := id rfl
theorem e_b14 {x y : Int} : e_bin 14 x y = e_i2d x := id rfl
theorem e_b15 {x y : Int} : e_bin 15 x y = e_f2d x := id rfl
theorem e_b16 {x y : Int} : e_bin 16 x y = e_fdiv x y := id rfl
theorem e_b17 {x y : Int} : e_bin 17 x y = e_ddiv x y := id rfl
theorem e_n0 {x : Int} : e_nar 0 x = x := id rfl
theorem e_c0 {x y : Int} : e_cmp 0 x y = decide (x = y) := id rfl
theorem e_c1 {x y : Int} : e_cmp 1 x y = !decide (x = y) := id rfl
theorem e_c2 {x y : Int} : e_cmp 2 x y = decide (x < y) := id rfl
theorem e_c3 {x y : Int} : e_cmp 3 x y = decide (y ≤ x) := id rfl
theorem e_c4 {x y : Int} : e_cmp 4 x y = decide (y < x) := id rfl
theorem e_c5 {x y : Int} : e_cmp 5 x y = decide (x ≤ y) := id rfl
end ZE
theorem z_psi_c {st : Nat → List Int → ZS → ZR} {b : Bool} {R R' : ZR} : z_psi st (bif b then R else R') = bif b then z_psi st R else z_psi st R' := by cases b <;> rfl
theorem z_psi_n {st : Nat → List Int → ZS → ZR} {k : Nat} {l : List Int} {S : ZS} (h : decide (k < 1000) = true) : z_psi st ((k, l), S) = ((k, l), S) := z_psi_fin (of_decide_eq_true h)
theorem z_psi_b {st : Nat → List Int → ZS → ZR} {R : ZR} {k : Int → ZS → ZR} : z_psi st (e_bind R k) = e_bind R (fun v S => z_psi st (k v S)) := by
  unfold e_bind
  rw [z_psi_c]
  rw [z_psi_fin (R := ((R.1.1 % 1000, []), R.2)) (Nat.mod_lt _ (by decide))]
end
/-! part 71s12 -/
section
/-! What a method leaves as it is -/
/-- all regions but those of W are as before, where it comes to an end -/
def z_kp (nv : Nat) (W : List Nat) (φ : ZFn) : Prop := ∀ (L : List Int) (S : ZS), L.length = nv → (φ L S).1.1 ≠ 999 → ∀ (r : Nat) (i j k : Int), W.contains r = false → (φ L S).2 r i j k = S r i j k
/-- methods that are called, the number of their arguments, what they write -/
abbrev ZK : Type := List (Nat × Nat × List Nat)
def z_sub (V W : List Nat) : Bool := V.all fun r => W.contains r
def z_kc (KT : ZK) (W : List Nat) (mt n : Nat) : Bool := KT.any fun e => e.1 == mt && (e.2.1 == n && z_sub e.2.2 W)
def z_wr1 (KT : ZK) (W : List Nat) (op : ZO) : Bool := match op with
  | (6, r :: _) => W.contains r.1
  | (8, _) => W.contains z_rA
  | (9, [_, _, _, _, r', _, _, _, _]) => W.contains r'.1
  | (7, mt :: xs) => z_kc KT W mt.1 xs.length
  | (11, mt :: m :: xs) => z_kc KT W mt.1 (xs.drop m.1).length && (xs.take m.1).all fun e => decide (e.1 < 900)
  | (13, mt :: _ :: xs) => decide (mt.1 = 163) && (z_kc KT W mt.1 xs.length && decide (xs.length = 2))
  | _ => true
theorem e_upd_kp {S : ZS} {W : List Nat} {r r' : Nat} {i j k z i' j' k' : Int} (h : W.contains r = true) (h' : W.contains r' = false) : e_upd S r i j k z r' i' j' k' = S r' i' j' k' := if_neg fun q => by
  rw [q.1, h] at h'
  cases h'
theorem e_acp_kp {S : ZS} {W : List Nat} {r r' ρ : Nat} {x y sp x' y' dp n i j k : Int} (h : W.contains r' = true) (h' : W.contains ρ = false) : e_acp S r x y sp r' x' y' dp n ρ i j k = S ρ i j k := if_neg fun q => by
  rw [q.1, h] at h'
  cases h'
/-- the callees keep what they say -/
def z_kOK (KT : ZK) (F : Nat → ZFn) : Prop := ∀ e ∈ KT, z_kp e.2.1 e.2.2 (F e.1)
theorem z_kc_ok {KT : ZK} {F : Nat → ZFn} (hK : z_kOK KT F) {W : List Nat} {mt n : Nat} (h : z_kc KT W mt n = true) : z_kp n W (F mt) := by
  obtain ⟨e, e1, e2⟩ := List.any_eq_true.mp h
  simp only [Bool.and_eq_true, beq_iff_eq] at e2
  obtain ⟨rfl, rfl, e3⟩ := e2
  intro L S hL hc r i j k hr
  refine hK e e1 L S hL hc r i j k ?_
  cases hq : e.2.2.contains r with
  | false => rfl
  | true =>
    have := List.all_eq_true.mp e3 r (by simpa using hq)
    rw [hr] at this
    cases this
theorem z_ev_kp {KT : ZK} {F : Nat → ZFn} {W : List Nat} (hK : z_kOK KT F) (h163 : ∀ L S, (F 163 L S).1.1 = 0 ∨ (∀ n, z_kc KT W 163 n = false)) : ∀ (n : Nat) (p : List ZO) (ν : List Int) (S : ZS), (p.all (z_wr1 KT W)) = true → (z_ev F n p ν S).1.1 ≠ 999 → ∀ (r : Nat) (i j k : Int), W.contains r = false → (z_ev F n p ν S).2 r i j k = S r i j k
  | 0, _, _, _, _, _, _, _, _, _, _ => rfl
  | _ + 1, [], _, _, _, _, _, _, _, _, _ => rfl
  | n + 1, op :: p, ν, S, hp, hc, r, i, j, k, hr => by
    rw [List.all_cons, Bool.and_eq_true] at hp
    obtain ⟨h1, h2⟩ := hp
    have hd : ∀ o, ((p.drop o).all (z_wr1 KT W)) = true := fun o => List.all_eq_true.mpr fun x hx => List.all_eq_true.mp h2 x (List.mem_of_mem_drop hx)
    have ih := fun ν S => z_ev_kp hK h163 n p ν S h2
    unfold z_ev at hc ⊢
    split at hc
    · rfl
    · rfl
    · rfl
    · rename_i c sk x y
      (try dsimp only at hc ⊢)
      cases hb : e_cmp c.1 (o_v ν x) (o_v ν y) with
      | true =>
        rw [hb] at hc
        exact ih _ _ hc r i j k hr
      | false =>
        rw [hb] at hc
        exact z_ev_kp hK h163 n _ _ _ (hd _) hc r i j k hr
    · exact ih _ _ hc r i j k hr
    · exact ih _ _ hc r i j k hr
    · exact (ih _ _ hc r i j k hr).trans (e_upd_kp h1 hr)
    · rename_i mt xs
      unfold e_bind at hc ⊢
      have hF := z_kc_ok hK h1 (xs.map (o_v ν)) S (List.length_map _)
      (try dsimp only at hc ⊢)
      cases hb : ((F mt.1 (xs.map (o_v ν)) S).1.1 == 0) with
      | true =>
        rw [hb] at hc
        have h0 : (F mt.1 (xs.map (o_v ν)) S).1.1 = 0 := by simpa using hb
        exact (ih _ _ hc r i j k hr).trans (hF (by rw [h0]; decide) r i j k hr)
      | false =>
        rw [hb] at hc
        have hc : (F mt.1 (xs.map (o_v ν)) S).1.1 % 1000 ≠ 999 := hc
        exact hF (fun q => by rw [q] at hc; exact hc rfl) r i j k hr
    · exact (ih _ _ hc r i j k hr).trans (e_upd_kp h1 hr)
    · exact (ih _ _ hc r i j k hr).trans (e_acp_kp h1 hr)
    · rfl
    · rename_i mt kk xs
      have h1 : (decide (mt.1 = 163) && (z_kc KT W mt.1 xs.length && decide (xs.length = 2))) = true := h1
      simp only [Bool.and_eq_true, decide_eq_true_eq] at h1
      obtain ⟨h3, h4, h5⟩ := h1
      refine (ih _ _ hc r i j k hr).trans (z_kc_ok hK h4 (xs.map (o_v ν)) S (List.length_map _) ?_ r i j k hr)
      rw [h3] at h4 ⊢
      rcases h163 (xs.map (o_v ν)) S with q | q
      · rw [q]; decide
      · rw [q] at h4; cases h4
    · rename_i mt m xs
      have h1 : (z_kc KT W mt.1 (xs.drop m.1).length && (xs.take m.1).all fun e => decide (e.1 < 900)) = true := h1
      rw [Bool.and_eq_true] at h1
      obtain ⟨h1, h9⟩ := h1
      unfold e_bindX at hc ⊢
      have hF := z_kc_ok hK h1 ((xs.drop m.1).map (o_v ν)) S (List.length_map _)
      (try dsimp only at hc ⊢)
      cases hb : ((F mt.1 ((xs.drop m.1).map (o_v ν)) S).1.1 == 0) with
      | true =>
        rw [hb] at hc
        have h0 : (F mt.1 ((xs.drop m.1).map (o_v ν)) S).1.1 = 0 := by simpa using hb
        exact (ih _ _ hc r i j k hr).trans (hF (by rw [h0]; decide) r i j k hr)
      | false =>
        rw [hb] at hc
        generalize hR : F mt.1 ((xs.drop m.1).map (o_v ν)) S = R at hc hF ⊢
        have key : ∀ (l : List ZN), (l.all fun e => decide (e.1 < 900)) = true → (e_hs R.1.1 (fun o => z_ev F n (p.drop o) ν R.2) R.2 l).1.1 ≠ 999 → (e_hs R.1.1 (fun o => z_ev F n (p.drop o) ν R.2) R.2 l).2 r i j k = S r i j k := by
          intro l
          induction l with
          | nil =>
            intro _ q
            have q : R.1.1 % 1000 ≠ 999 := q
            exact hF (fun q2 => by rw [q2] at q; exact q rfl) r i j k hr
          | cons e l ih2 =>
            intro h9 q
            rw [List.all_cons, Bool.and_eq_true, decide_eq_true_eq] at h9
            rw [e_hs] at q ⊢
            cases hb2 : (e.1 + 1 == R.1.1) with
            | true =>
              rw [hb2] at q
              have q8 : e.1 + 1 = R.1.1 := by simpa using hb2
              have q9 : R.1.1 ≠ 999 := by omega
              exact (z_ev_kp hK h163 n _ _ _ (hd _) q r i j k hr).trans (hF q9 r i j k hr)
            | false =>
              rw [hb2] at q
              exact ih2 h9.2 q
        exact key _ h9 hc
    · rfl
theorem z_h163 {KT : ZK} {F : Nat → ZFn} {W : List Nat} (h : (KT.all fun e => !(e.1 == 163)) = true) (L : List Int) (S : ZS) : (F 163 L S).1.1 = 0 ∨ (∀ n, z_kc KT W 163 n = false) := Or.inr fun n => by
  cases hq : z_kc KT W 163 n with
  | false => rfl
  | true =>
    obtain ⟨e, e1, e2⟩ := List.any_eq_true.mp hq
    have := List.all_eq_true.mp h e e1
    rw [Bool.and_eq_true] at e2
    rw [e2.1] at this
    cases this
theorem z_psi_kp {KT : ZK} {F : Nat → ZFn} {W : List Nat} {D : ZD} (hK : z_kOK KT F) (h163 : ∀ L S, (F 163 L S).1.1 = 0 ∨ (∀ n, z_kc KT W 163 n = false)) (hD : (D.all fun e => e.2.2.2.2.all (z_wr1 KT W)) = true) (R : ZR) (hR : (z_psi (z_st F D) R).1.1 ≠ 999) (r : Nat) (i j k : Int) (hr : W.contains r = false) : (z_psi (z_st F D) R).2 r i j k = R.2 r i j k := by
  have st : ∀ (pc : Nat) (L : List Int) (S : ZS), (z_st F D pc L S).1.1 ≠ 999 → (z_st F D pc L S).2 r i j k = S r i j k := by
    intro pc L S hc
    unfold z_st at hc ⊢
    split
    · rename_i e he
      rw [he] at hc
      exact z_ev_kp hK h163 _ _ _ _ (List.all_eq_true.mp hD e (List.mem_of_find?_eq_some he)) hc r i j k hr
    · rfl
  have it : ∀ (n : Nat) (R : ZR), (z_it (z_st F D) n R).1.1 < 1000 → (z_it (z_st F D) n R).1.1 ≠ 999 → (z_it (z_st F D) n R).2 r i j k = R.2 r i j k := by
    intro n
    induction n with
    | zero => intro R _ _; rfl
    | succ n ih =>
      intro R h1 h2
      by_cases c : R.1.1 < 1000
      · rw [z_it_fin c]
      · rw [z_it_go c] at h1 h2 ⊢
        refine (ih _ h1 h2).trans (st _ _ _ fun q => ?_)
        rw [z_it_fin (by rw [q]; decide)] at h2
        exact h2 q
  by_cases q : ∃ n, (z_it (z_st F D) n R).1.1 < 1000
  · obtain ⟨n, hn⟩ := q
    rw [z_psi_of hn] at hR ⊢
    exact it n R hn hR
  · exfalso
    apply hR
    unfold z_psi
    rw [dif_neg q]
theorem z_kOK.n {F : Nat → ZFn} : z_kOK [] F := fun _ h => absurd h List.not_mem_nil
theorem z_kOK.c {mt nv : Nat} {W : List Nat} {KT : ZK} {F : Nat → ZFn} {φ : ZFn} (hF : F mt = φ) (h : z_kp nv W φ) (hT : z_kOK KT F) : z_kOK ((mt, nv, W) :: KT) F := List.forall_mem_cons.mpr ⟨by subst hF; exact h, hT⟩
theorem z_kp_ev {KT : ZK} {F : Nat → ZFn} {W : List Nat} {n nv : Nat} {p : List ZO} {φ : ZFn} (hK : z_kOK KT F) (h163 : ∀ L S, (F 163 L S).1.1 = 0 ∨ (∀ n, z_kc KT W 163 n = false)) (hp : (p.all (z_wr1 KT W)) = true) (he : ∀ (L : List Int) (S : ZS), L.length = nv → z_ev F n p L S = φ L S) : z_kp nv W φ := fun L S hL hc r i j k hr => by
  rw [← he L S hL] at hc ⊢
  exact z_ev_kp hK h163 n p L S hp hc r i j k hr
/-! A long table of cuts, one by one -/
noncomputable def z_chk1 (C : ZC) (A : ZM) (I : List (Nat × Nat)) (mi : Nat) (l : ZD) : Bool := l.all fun e => z_go C A I mi 400 true e.2.2.2.1 e.2.2.2.2 e.1 e.2.2.1 [] e.2.1
theorem z_chk1.n {C : ZC} {A : ZM} {I : List (Nat × Nat)} {mi : Nat} : z_chk1 C A I mi [] = true := rfl
theorem z_chk1.c {C : ZC} {A : ZM} {I : List (Nat × Nat)} {mi pc nv n : Nat} {sg : ZL} {p : List ZO} {l : ZD} (h : z_go C A I mi 400 true n p pc sg [] nv = true) (hl : z_chk1 C A I mi l = true) : z_chk1 C A I mi ((pc, nv, sg, n, p) :: l) = true := by
  unfold z_chk1 at hl ⊢
  rw [List.all_cons, Bool.and_eq_true]
  exact ⟨h, hl⟩
/-- the rule where all cuts have the same locals -/
def z_Cm (ps : List Nat) (k : Nat) (sg : ZL) : ZC := ps.map fun pc => (pc, k, sg)
theorem z_turnA {Q : AH → Prop} {T : ZT} {ps : List Nat} {k : Nat} {sg : ZL} {mi g n f pc : Nat} {p : List ZO} {L : List Int} {S : ZS} {X : ZX} (hT : z_ok T) (hQ : ∀ h, Q h) (hg : z_go (z_Cm ps k sg) (z_A T) [] mi g true n p pc sg [] k = true) (hr : z_goes Q (z_Cm ps k sg) mi f pc L S X) : z_post Q (z_Cm ps k sg) mi f X (z_ev (z_F T) n p L S) := by
  obtain ⟨sg', d, al, h, mc, ms, r, h1, hrest⟩ := id hr
  have hs := h1
  unfold z_sg z_Cm at h1
  rw [Option.map_eq_some_iff] at h1
  obtain ⟨e, he, h2⟩ := h1
  obtain ⟨_, _, rfl⟩ := List.mem_map.mp (List.mem_of_find?_eq_some he)
  have h2 : ((k, sg) : Nat × ZL) = (L.length, sg') := h2
  rw [Prod.mk.injEq] at h2
  rw [← h2.2] at hs
  rw [h2.1] at hg
  exact z_turn hT.h (fun _ _ h => absurd h List.not_mem_nil) (fun _ _ _ _ _ _ _ _ _ _ _ _ _ _ => hQ _) (Or.inl hQ) hs (by rw [← h2.1] at hg ⊢; exact hg) hr
end
/-! part 71t00 -/
section
/-! The regions by name, by program (wip/s/sgen.py) -/
abbrev r_x_filmCount : Nat := 4
abbrev r_x_sectionCount : Nat := 6
abbrev r_x_typedCount : Nat := 12
abbrev r_Grid_showCount : Nat := 68
abbrev r_Grid_hour : Nat := 69
abbrev r_Grid_foundCount : Nat := 72
abbrev r_Grid_films_len : Nat := 191
abbrev r_Film_form : Nat := 192
abbrev r_Film_minutes : Nat := 193
abbrev r_Film_land : Nat := 194
abbrev r_Film_section : Nat := 195
abbrev r_Film_isWithdrawn : Nat := 196
abbrev r_Film_stillIs : Nat := 197
abbrev r_Film_promise : Nat := 198
abbrev r_Film_kind : Nat := 199
abbrev r_Film_comes : Nat := 200
abbrev r_Venue_screenCount : Nat := 258
abbrev r_Venue_keyCount : Nat := 263
abbrev r_Venue_seats : Nat := 320
abbrev r_Venue_hasGear : Nat := 384
abbrev r_Venue_keyFilms : Nat := 448
abbrev r_Venue_keyScreens : Nat := 512
abbrev r_Venue_keyFrom : Nat := 576
abbrev r_Venue_keyTo : Nat := 640
abbrev r_Archive_lineCount : Nat := 706
abbrev r_Archive_next : Nat := 707
abbrev r_Archive_letters : Nat := 768
abbrev r_Archive_filmOf : Nat := 832
abbrev r_Show_film : Nat := 960
abbrev r_Show_screen : Nat := 961
abbrev r_Show_first : Nat := 962
abbrev r_Show_length : Nat := 963
abbrev r_Show_cause : Nat := 964
abbrev r_Show_isOpened : Nat := 965
abbrev r_Show_waiting : Nat := 967
abbrev r_Show_queue : Nat := 1024
abbrev r_Show_isSeated : Nat := 1088
abbrev r_Grid_isStormy : Nat := 1152
abbrev r_Grid_found : Nat := 1216
abbrev r_Section_quota : Nat := 1344
abbrev r_Section_budget : Nat := 1345
abbrev r_Section_least : Nat := 1346
abbrev r_Section_form : Nat := 1347
abbrev r_Section_premiere : Nat := 1348
abbrev r_Section_rule : Nat := 1349
abbrev r_Section_isAwarded : Nat := 1350
abbrev r_Section_jurorCount : Nat := 1352
abbrev r_Juror_land : Nat := 1472
abbrev r_Juror_lastHour : Nat := 1474
abbrev r_Juror_lastShow : Nat := 1475
abbrev r_Juror_ballotSize : Nat := 1477
abbrev r_Juror_hasSeen : Nat := 1536
abbrev r_Juror_ballot : Nat := 1600
abbrev r_Readings_readerCount : Nat := 1669
abbrev r_Readings_lands : Nat := 1728
abbrev r_Readings_dealtFilms : Nat := 1792
abbrev r_Readings_toldScores : Nat := 1856
abbrev r_Readings_sums : Nat := 1920
abbrev r_Readings_marks_r : Nat := 2048
abbrev r_Passes_passCount : Nat := 2113
abbrev r_Passes_ranks : Nat := 2176
abbrev r_Count_isOut : Nat := 2304
abbrev r_Count_isOnBallot : Nat := 2368
abbrev r_Count_tally : Nat := 2432
abbrev r_Count_leads_r : Nat := 2560
abbrev r_Rights_dealCount : Nat := 2629
abbrev r_Rights_soldFilms : Nat := 2688
abbrev r_Rights_lands : Nat := 2752
abbrev r_Rights_firstMonths : Nat := 2816
abbrev r_Rights_lastMonths : Nat := 2880
abbrev r_Rights_buyers : Nat := 2944
abbrev r_x_typed : Nat := 3008
abbrev r_x_typed_len : Nat := 3071
abbrev r_x_order : Nat := 3072
abbrev r_x_weights : Nat := 3136
abbrev r_m_films : Nat := 3244
abbrev r_m_readers : Nat := 3245
abbrev r_m_sectionMany : Nat := 3246
abbrev r_m_screens : Nat := 3247
abbrev r_m_keyMany : Nat := 3248
abbrev r_m_shows : Nat := 3249
abbrev r_m_passes : Nat := 3250
abbrev r_m_typedMany : Nat := 3251
abbrev r_m_dealMany : Nat := 3252
abbrev r_m_lineMany : Nat := 3253
abbrev r_m_hour : Nat := 3254
abbrev r_m_thrown : Nat := 3255
abbrev r_m_forms : Nat := 3264
abbrev r_m_minutes : Nat := 3328
abbrev r_m_lands : Nat := 3392
abbrev r_m_still : Nat := 3456
abbrev r_m_sections : Nat := 3520
abbrev r_m_promises : Nat := 3584
abbrev r_m_areWithdrawn : Nat := 3648
abbrev r_m_prints : Nat := 3712
abbrev r_m_printHours : Nat := 3776
abbrev r_m_readerLands : Nat := 3840
abbrev r_m_dealtMany : Nat := 3904
abbrev r_m_areDealt_r : Nat := 4032
abbrev r_m_scores_r : Nat := 4160
abbrev r_m_quotas : Nat := 4224
abbrev r_m_budgets : Nat := 4288
abbrev r_m_leasts : Nat := 4352
abbrev r_m_sectionForms : Nat := 4416
abbrev r_m_premieres : Nat := 4480
abbrev r_m_rules : Nat := 4544
abbrev r_m_areGiven : Nat := 4608
abbrev r_m_seats : Nat := 4672
abbrev r_m_haveGear : Nat := 4736
abbrev r_m_keys_r : Nat := 4864
abbrev r_m_showFilms : Nat := 4928
abbrev r_m_showScreens : Nat := 4992
abbrev r_m_showHours : Nat := 5056
abbrev r_m_gone : Nat := 5120
abbrev r_m_areOpened : Nat := 5184
abbrev r_m_waits_r : Nat := 5312
abbrev r_m_waitMany : Nat := 5376
abbrev r_m_haveSeats_r : Nat := 5504
abbrev r_m_storms : Nat := 5568
abbrev r_m_ranks : Nat := 5632
abbrev r_m_jurorMany : Nat := 5696
abbrev r_m_jurorLands_r : Nat := 5824
abbrev r_m_haveSeen_r_r : Nat := 6016
abbrev r_m_sawAt_r_r : Nat := 6208
abbrev r_m_ballotMany_r : Nat := 6336
abbrev r_m_ballots_r_r : Nat := 6528
abbrev r_m_typed : Nat := 6592
abbrev r_m_deals_r : Nat := 6720
abbrev r_m_letters : Nat := 6784
abbrev r_m_lineFilms : Nat := 6848
abbrev r_m_areLeft : Nat := 6912
abbrev r_out : Nat := 6976
abbrev r_outD : Nat := 7040
abbrev r_script : Nat := 7104
abbrev r_script_len : Nat := 7167
abbrev r_new : Nat := 7168
end
