/-! A method's run forward: a step of each kind. b: how many cells it may still make -/
def n_ok (d mi : Nat) (P : Value → AH → Prop) (pc : Nat) (al : AL) (st : List Value) (h : AH) (b : Nat) : Prop := ∀ mc ms : Nat, ∃ (r : AR) (v : Value), b_R d mi pc al st h mc ms r ∧ r.1 = .inl (some v) ∧ P v r.2.1 ∧ r.2.2.1 ≤ mc + b ∧ r.2.2.2 ≤ ms + 100 * b
section
variable {d mi : Nat} {P : Value → AH → Prop} {pc len : Nat} {al : AL} {st : List Value} {h : AH} {b : Nat} {i : Instr}
theorem n_ok.le {b' : Nat} (hk : n_ok d mi P pc al st h b) (hb : b ≤ b') : n_ok d mi P pc al st h b' := fun mc ms => by
  obtain ⟨r, v, k1, k2, k3, k4, k5⟩ := hk mc ms
  exact ⟨r, v, k1, k2, k3, by omega, by omega⟩
theorem n_st {pc' c s b' : Nat} {al' : AL} {st' : List Value} {h' : AH} (hi : a_ins mi pc = some (i, len)) (h1 : a_end mi i st = none) (h2 : a_trw mi pc i st = none) (h3 : a_call (a_own mi) i st h = none) (h4 : a_stp (a_own mi) (a_ini mi) i len pc al st h = some (pc', al', st', h', c, s)) (hc : c + b ≤ b') (hs : s + 100 * b ≤ 100 * b') (k : n_ok d mi P pc' al' st' h' b) : n_ok d mi P pc al st h b' := fun mc ms => by
  obtain ⟨r, v, k1, k2, k3, k4, k5⟩ := k (mc + c) (ms + s)
  exact ⟨r, v, b_R.stp hi h1 h2 h3 h4 k1, k2, k3, by omega, by omega⟩
theorem n_s1 {pc' : Nat} {al' : AL} {st' : List Value} {h' : AH} (hi : a_ins mi pc = some (i, len)) (hz : z_cl i = 1) (hl : len = a_len i) (h4 : a_st1 i pc al st h = some (pc', al', st', h', 0, 0)) (k : n_ok d mi P pc' al' st' h' b) : n_ok d mi P pc al st h b := by
  have e : ∀ n, n ≠ 1 → z_cl i ≠ n := fun n hn q => hn (q.symm.trans hz)
  refine n_st (c := 0) (s := 0) hi (z_ne (e 10 (by decide))) (z_nt (e 0 (by decide))) (z_nc (e 0 (by decide)) (e 6 (by decide)) (e 8 (by decide))) ?_ (by omega) (by omega) k
  unfold a_stp
  rw [z_nw (e 0 (by decide)) (e 9 (by decide))]
  dsimp only
  rw [if_pos hl, h4]
theorem n_s2 {pc' : Nat} {al' : AL} {st' : List Value} {h' : AH} (hi : a_ins mi pc = some (i, len)) (hz : z_cl i = 2) (hl : len = a_len i) (h4 : a_st2 i pc al st h = some (pc', al', st', h', 0, 0)) (k : n_ok d mi P pc' al' st' h' b) : n_ok d mi P pc al st h b := by
  have e : ∀ n, n ≠ 2 → z_cl i ≠ n := fun n hn q => hn (q.symm.trans hz)
  refine n_st (c := 0) (s := 0) hi (z_ne (e 10 (by decide))) (z_nt (e 0 (by decide))) (z_nc (e 0 (by decide)) (e 6 (by decide)) (e 8 (by decide))) ?_ (by omega) (by omega) k
  unfold a_stp
  rw [z_nw (e 0 (by decide)) (e 9 (by decide))]
  dsimp only
  rw [if_pos hl, z_n1 (e 0 (by decide)) (e 1 (by decide))]
  dsimp only
  rw [z_n4 (e 0 (by decide)) (e 4 (by decide))]
  dsimp only
  rw [h4]
theorem n_s3 {pc' : Nat} {al' : AL} {st' : List Value} {h' : AH} (hi : a_ins mi pc = some (i, len)) (hz : z_cl i = 3) (hl : len = a_len i) (h4 : a_st3 i pc al st h = some (pc', al', st', h', 0, 0)) (k : n_ok d mi P pc' al' st' h' b) : n_ok d mi P pc al st h b := by
  have e : ∀ n, n ≠ 3 → z_cl i ≠ n := fun n hn q => hn (q.symm.trans hz)
  refine n_st (c := 0) (s := 0) hi (z_ne (e 10 (by decide))) (z_nt (e 0 (by decide))) (z_nc (e 0 (by decide)) (e 6 (by decide)) (e 8 (by decide))) ?_ (by omega) (by omega) k
  unfold a_stp
  rw [z_nw (e 0 (by decide)) (e 9 (by decide))]
  dsimp only
  rw [if_pos hl, z_n1 (e 0 (by decide)) (e 1 (by decide))]
  dsimp only
  rw [z_n4 (e 0 (by decide)) (e 4 (by decide))]
  dsimp only
  rw [z_n2 (e 0 (by decide)) (e 2 (by decide))]
  dsimp only
  rw [h4]
theorem n_s4 {pc' : Nat} {al' : AL} {st' : List Value} {h' : AH} (hi : a_ins mi pc = some (i, len)) (hz : z_cl i = 4) (hl : len = a_len i) (h4 : a_st4 (a_own mi) (a_ini mi) i pc al st h = some (pc', al', st', h', 0, 0)) (k : n_ok d mi P pc' al' st' h' b) : n_ok d mi P pc al st h b := by
  have e : ∀ n, n ≠ 4 → z_cl i ≠ n := fun n hn q => hn (q.symm.trans hz)
  refine n_st (c := 0) (s := 0) hi (z_ne (e 10 (by decide))) (z_nt (e 0 (by decide))) (z_nc (e 0 (by decide)) (e 6 (by decide)) (e 8 (by decide))) ?_ (by omega) (by omega) k
  unfold a_stp
  rw [z_nw (e 0 (by decide)) (e 9 (by decide))]
  dsimp only
  rw [if_pos hl, z_n1 (e 0 (by decide)) (e 1 (by decide))]
  dsimp only
  rw [h4]
theorem n_push {v : Value} (hi : a_ins mi pc = some (i, len)) (hz : z_cl i = 1) (hl : len = a_len i) (hv : a_const i = some v) (k : n_ok d mi P (pc + a_len i) al (v :: st) h b) : n_ok d mi P pc al st h b := n_s1 hi hz hl (by
  unfold a_st1
  rw [hv]) k
theorem n_load {q kd : Nat} {v : Value} (hi : a_ins mi pc = some (i, len)) (hz : z_cl i = 1) (hl : len = a_len i) (hc : a_const i = none) (hq : a_load i = some (q, kd)) (hv : a_get al q = some v) (hk : a_kind v = kd) (k : n_ok d mi P (pc + a_len i) al (v :: st) h b) : n_ok d mi P pc al st h b := n_s1 hi hz hl (by
  unfold a_st1
  rw [hc]
  dsimp only
  rw [hq]
  dsimp only
  rw [hv]
  dsimp only
  rw [if_pos hk]) k
theorem n_store {q kd : Nat} {v : Value} {al' : AL} (hi : a_ins mi pc = some (i, len)) (hz : z_cl i = 1) (hl : len = a_len i) (hc : a_const i = none) (hd : a_load i = none) (hq : a_store i = some (q, kd)) (hk : a_kind v = kd) (hs : a_sto al q v = some al') (k : n_ok d mi P (pc + a_len i) al' st h b) : n_ok d mi P pc al (v :: st) h b := n_s1 hi hz hl (by
  unfold a_st1
  rw [hc]
  dsimp only
  rw [hd]
  dsimp only
  rw [hq]
  dsimp only
  rw [if_pos hk, hs]
  rfl) k
theorem n_iinc {q : Nat} {n : Int} {x : Int32} {al' : AL} (hi : a_ins mi pc = some (.iinc q n, 3)) (hv : a_get al q = some (.int x)) (hs : a_sto al q (.int (x + Int32.ofInt n)) = some al') (k : n_ok d mi P (pc + 3) al' st h b) : n_ok d mi P pc al st h b := n_s1 hi rfl rfl (by
  unfold a_st1 a_const a_load a_store
  dsimp only
  rw [hv]
  dsimp only
  rw [hs]
  rfl) k
theorem n_goto {off : Int} {t : Nat} (hi : a_ins mi pc = some (.goto off, 3)) (ht : a_tgt pc off = some t) (k : n_ok d mi P t al st h b) : n_ok d mi P pc al st h b := n_s1 hi rfl rfl (by
  unfold a_st1 a_const a_load a_store
  dsimp only
  rw [ht]
  rfl) k
theorem n_if1 {c : Jvm.ClassFile.Cond} {off : Int} {t : Nat} {x : Int32} (hi : a_ins mi pc = some (.ifCond c off, 3)) (ht : a_tgt pc off = some t) (k1 : a_if1 c x = true → n_ok d mi P t al st h b) (k2 : a_if1 c x = false → n_ok d mi P (pc + 3) al st h b) : n_ok d mi P pc al (.int x :: st) h b := by
  cases e : a_if1 c x
  · refine n_s1 hi rfl rfl (pc' := pc + 3) ?_ (k2 e)
    unfold a_st1 a_const a_load a_store a_br
    dsimp only
    rw [ht, e]
    rfl
  · refine n_s1 hi rfl rfl (pc' := t) ?_ (k1 e)
    unfold a_st1 a_const a_load a_store a_br
    dsimp only
    rw [ht, e]
    rfl
theorem n_if2 {c : Jvm.ClassFile.Cond} {off : Int} {t : Nat} {x y : Int32} (hi : a_ins mi pc = some (.if_icmp c off, 3)) (ht : a_tgt pc off = some t) (k1 : a_if2 c x y = true → n_ok d mi P t al st h b) (k2 : a_if2 c x y = false → n_ok d mi P (pc + 3) al st h b) : n_ok d mi P pc al (.int y :: .int x :: st) h b := by
  cases e : a_if2 c x y
  · refine n_s1 hi rfl rfl (pc' := pc + 3) ?_ (k2 e)
    unfold a_st1 a_const a_load a_store a_br
    dsimp only
    rw [ht, e]
    rfl
  · refine n_s1 hi rfl rfl (pc' := t) ?_ (k1 e)
    unfold a_st1 a_const a_load a_store a_br
    dsimp only
    rw [ht, e]
    rfl
theorem n_pop {v : Value} (hi : a_ins mi pc = some (.pop, 1)) (hv : v.category = 1) (k : n_ok d mi P (pc + 1) al st h b) : n_ok d mi P pc al (v :: st) h b := n_s1 hi rfl rfl (by
  unfold a_st1 a_const a_load a_store
  dsimp only
  rw [if_pos hv]) k
theorem n_dup {v : Value} (hi : a_ins mi pc = some (.dup, 1)) (hv : v.category = 1) (k : n_ok d mi P (pc + 1) al (v :: v :: st) h b) : n_ok d mi P pc al (v :: st) h b := n_s1 hi rfl rfl (by
  unfold a_st1 a_const a_load a_store
  dsimp only
  rw [if_pos hv]) k
theorem n_dup2 {v u : Value} (hi : a_ins mi pc = some (.dup2, 1)) (hv : v.category = 1 ∧ u.category = 1) (k : n_ok d mi P (pc + 1) al (v :: u :: v :: u :: st) h b) : n_ok d mi P pc al (v :: u :: st) h b := n_s1 hi rfl rfl (by
  unfold a_st1 a_const a_load a_store
  dsimp only
  rw [if_pos hv]) k
theorem n_add {x y : Int32} (hi : a_ins mi pc = some (.iadd, 1)) (k : n_ok d mi P (pc + 1) al (.int (x + y) :: st) h b) : n_ok d mi P pc al (.int y :: .int x :: st) h b := n_s2 hi rfl rfl rfl k
theorem n_sub {x y : Int32} (hi : a_ins mi pc = some (.isub, 1)) (k : n_ok d mi P (pc + 1) al (.int (x - y) :: st) h b) : n_ok d mi P pc al (.int y :: .int x :: st) h b := n_s2 hi rfl rfl rfl k
theorem n_mul {x y : Int32} (hi : a_ins mi pc = some (.imul, 1)) (k : n_ok d mi P (pc + 1) al (.int (x * y) :: st) h b) : n_ok d mi P pc al (.int y :: .int x :: st) h b := n_s2 hi rfl rfl rfl k
theorem n_and {x y : Int32} (hi : a_ins mi pc = some (.iand, 1)) (k : n_ok d mi P (pc + 1) al (.int (x &&& y) :: st) h b) : n_ok d mi P pc al (.int y :: .int x :: st) h b := n_s2 hi rfl rfl rfl k
theorem n_or {x y : Int32} (hi : a_ins mi pc = some (.ior, 1)) (k : n_ok d mi P (pc + 1) al (.int (x ||| y) :: st) h b) : n_ok d mi P pc al (.int y :: .int x :: st) h b := n_s2 hi rfl rfl rfl k
theorem n_div {x y : Int32} (hi : a_ins mi pc = some (.idiv, 1)) (hy : ¬ y = 0) (k : n_ok d mi P (pc + 1) al (.int (x / y) :: st) h b) : n_ok d mi P pc al (.int y :: .int x :: st) h b := n_s2 hi rfl rfl (by
  show ((a_bin .idiv x y).map fun v => (pc + 1, al, Value.int v :: st, h, 0, 0)) = _
  unfold a_bin
  dsimp only
  rw [if_neg hy]
  rfl) k
theorem n_rem {x y : Int32} (hi : a_ins mi pc = some (.irem, 1)) (hy : ¬ y = 0) (k : n_ok d mi P (pc + 1) al (.int (x - x / y * y) :: st) h b) : n_ok d mi P pc al (.int y :: .int x :: st) h b := n_s2 hi rfl rfl (by
  show ((a_bin .irem x y).map fun v => (pc + 1, al, Value.int v :: st, h, 0, 0)) = _
  unfold a_bin
  dsimp only
  rw [if_neg hy]
  rfl) k
theorem n_ald {a t n : Nat} {j : Int32} {vs : List Value} {v : Value} (hi : a_ins mi pc = some (i, 1)) (hz : z_cl i = 3) (hl : 1 = a_len i) (ha : h[a]? = some (t, vs)) (ht : a_ald i t = true) (hj : a_ix j vs.length = some n) (hv : vs[n]? = some v) (k : n_ok d mi P (pc + 1) al (v :: st) h b) : n_ok d mi P pc al (.int j :: .ref a :: st) h b := n_s3 hi hz hl (by
  unfold a_st3
  dsimp only
  rw [ha]
  dsimp only
  rw [if_pos ht, hj]
  show (vs[n]?).map _ = _
  rw [hv]
  rfl) k
theorem n_len {a t : Nat} {vs : List Value} (hi : a_ins mi pc = some (.arraylength, 1)) (ha : h[a]? = some (t, vs)) (ht : (a_aty t).isSome = true) (k : n_ok d mi P (pc + 1) al (.int vs.length.toInt32 :: st) h b) : n_ok d mi P pc al (.ref a :: st) h b := n_s4 hi rfl rfl (by
  unfold a_st4
  dsimp only
  rw [ha]
  dsimp only
  rw [if_pos ht]) k
theorem n_ret {v : Int32} {ty : FieldType} (hi : a_ins mi pc = some (.ireturn, len)) (ht : a_rty mi = some ty) (hn : narrow ty (.int v) = .int v) (hP : P (.int v) h) : n_ok d mi P pc al [.int v] h b := fun mc ms => by
  refine ⟨(.inl (some (.int v)), h, mc, ms), .int v, ⟨1, ?_⟩, rfl, hP, Nat.le_add_right _ _, Nat.le_add_right _ _⟩
  rw [a_go, hi]
  have e : a_end mi .ireturn [.int v] = some (some (.int v)) := by
    unfold a_end
    dsimp only
    rw [ht]
    dsimp only
    rw [if_pos hn]
  dsimp only
  rw [e]
theorem n_call {mt b1 : Nat} {as rest : List Value} {Q : Value → AH → Prop} (hi : a_ins mi pc = some (i, len)) (h1 : a_end mi i st = none) (h2 : a_trw mi pc i st = none) (h3 : a_call (a_own mi) i st h = some (mt, as, rest)) (hc : ∃ v h' c s, b_lim d mt as h = some (.inl (some v), h', c, s) ∧ Q v h' ∧ c ≤ b1 ∧ s ≤ 100 * b1) (k : ∀ v h', Q v h' → n_ok d mi P (pc + 3) al (v :: rest) h' b) : n_ok d mi P pc al st h (b1 + b) := fun mc ms => by
  obtain ⟨v, h', c, s, e, q, hc, hs⟩ := hc
  obtain ⟨r, w, k1, k2, k3, k4, k5⟩ := k v h' q (mc + c) (ms + s)
  exact ⟨r, w, b_R.cal hi h1 h2 h3 e k1, k2, k3, by omega, by omega⟩
/-- a run from the start is a call's answer -/
theorem n_ok.lim {as : List Value} (h1 : as.length = a_nrg mi ∧ as.length ≤ a_mxl mi ∧ (as.all fun v => v.category == 1) = true) (k : n_ok d mi P 0 (a_args mi as) [] h b) : ∃ v h' c s, b_lim (d + 1) mi as h = some (.inl (some v), h', c, s) ∧ P v h' ∧ c ≤ b ∧ s ≤ 100 * b := by
  obtain ⟨⟨x, h', c, s⟩, v, k1, k2, k3, k4, k5⟩ := k 0 0
  have k2 : x = .inl (some v) := k2
  subst k2
  have k4 : c ≤ 0 + b := k4
  have k5 : s ≤ 0 + 100 * b := k5
  exact ⟨v, h', c, s, b_lim_run h1 k1, k3, by omega, by omega⟩
end
/-! Numbers: an int as a number of its range -/
abbrev n_v (z : Int) : Value := .int (Int32.ofInt z)
def n_r (z : Int) : Prop := -2147483648 ≤ z ∧ z ≤ 2147483647
theorem n_to {z : Int} (h : n_r z) : (Int32.ofInt z).toInt = z := by
  rw [Int32.toInt_ofInt]
  exact b_bm h.1 h.2
theorem n_lt {x y : Int} (hx : n_r x) (hy : n_r y) : decide (Int32.ofInt x < Int32.ofInt y) = decide (x < y) := decide_eq_decide.mpr (by rw [Int32.lt_iff_toInt_lt, n_to hx, n_to hy])
theorem n_le {x y : Int} (hx : n_r x) (hy : n_r y) : decide (Int32.ofInt x ≤ Int32.ofInt y) = decide (x ≤ y) := decide_eq_decide.mpr (by rw [Int32.le_iff_toInt_le, n_to hx, n_to hy])
theorem n_eq {x y : Int} (hx : n_r x) (hy : n_r y) : decide (Int32.ofInt x = Int32.ofInt y) = decide (x = y) := decide_eq_decide.mpr ⟨fun h => by
  have := congrArg Int32.toInt h
  rwa [n_to hx, n_to hy] at this, fun h => by rw [h]⟩
theorem n_z0 : (0 : Int32) = Int32.ofInt 0 := rfl
theorem n_i2 {c : Jvm.ClassFile.Cond} {x y : Int} (hx : n_r x) (hy : n_r y) : a_if2 c (Int32.ofInt x) (Int32.ofInt y) = match c with
    | .eq => decide (x = y)
    | .ne => !decide (x = y)
    | .lt => decide (x < y)
    | .ge => decide (y ≤ x)
    | .gt => decide (y < x)
    | .le => decide (x ≤ y) := by
  cases c <;> simp only [a_if2, n_eq hx hy, n_lt hx hy, n_lt hy hx, n_le hx hy, n_le hy hx]
theorem n_i1 {c : Jvm.ClassFile.Cond} {x : Int} (hx : n_r x) : a_if1 c (Int32.ofInt x) = match c with
    | .eq => decide (x = 0)
    | .ne => !decide (x = 0)
    | .lt => decide (x < 0)
    | .ge => decide (0 ≤ x)
    | .gt => decide (0 < x)
    | .le => decide (x ≤ 0) := by
  have h0 : n_r 0 := ⟨by decide, by decide⟩
  cases c <;> simp only [a_if1, n_z0, n_eq hx h0, n_lt hx h0, n_lt h0 hx, n_le hx h0, n_le h0 hx]
theorem n_oadd {x y : Int} : Int32.ofInt x + Int32.ofInt y = Int32.ofInt (x + y) := (Int32.ofInt_add x y).symm
theorem n_osub {x y : Int} : Int32.ofInt x - Int32.ofInt y = Int32.ofInt (x - y) := (Int32.ofInt_sub x y).symm
theorem n_omul {x y : Int} : Int32.ofInt x * Int32.ofInt y = Int32.ofInt (x * y) := (Int32.ofInt_mul x y).symm
theorem n_mm : Int32.minValue.toInt = -2147483648 ∧ Int32.maxValue.toInt = 2147483647 := by decide
theorem n_odiv {x y : Int} (hx : n_r x) (hy : n_r y) : Int32.ofInt x / Int32.ofInt y = Int32.ofInt (x.tdiv y) := (Int32.ofInt_tdiv (by rw [n_mm.1]; exact hx.1) (by rw [n_mm.2]; exact hx.2) (by rw [n_mm.1]; exact hy.1) (by rw [n_mm.2]; exact hy.2)).symm
