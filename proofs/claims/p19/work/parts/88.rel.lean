/-! The law's loop with a relation of the heap beside its symbols (wip/g3/70.rel.txt) -/
def c_bl28 : BL := c_law28.2.1.1
def c_E28 : BQ := c_law28.2.1.2.2.1
def c_E28x : BQ := c_E28.set 0 (0, 0, 3078)
def c_F28 : BF := c_law28.2.1.2.2.2.1
def c_I (h : AH) (a j : Nat) : Int := match c_at h a j with
  | some (.int x) => x.toInt
  | _ => 0
theorem c_I_of {h : AH} {a j : Nat} {x : Int32} (e : c_at h a j = some (.int x)) : c_I h a j = x.toInt := by unfold c_I; rw [e]
theorem c_I_cg {h h' : AH} {a j : Nat} (e : c_at h' a j = c_at h a j) : c_I h' a j = c_I h a j := by unfold c_I; rw [e]
section CI
variable {K : BH} {ν : BN} {h0 h : AH} {G : BG}
theorem b_i.vl {N : Nat} {b : BV} {z : Int} (h : b_i N ν b z) : z = b_vl ν b := by
  unfold b_vl
  rcases h with ⟨h1, h2⟩ | ⟨h1, h2, h3⟩
  · rw [if_pos h1]; exact h2
  · rw [if_neg (by omega), if_pos h1]; exact h3
theorem b_r.vl {N : Nat} {b : BV} {a : Nat} (h : b_r N ν b a) : (a : Int) = b_vl ν b := by
  unfold b_vl
  rcases h with ⟨h1, h2⟩ | ⟨h1, h2, h3⟩
  · rw [if_neg (by omega), if_neg (by omega), if_pos h1, h2]
  · rw [if_neg (by omega), if_neg (by omega), if_neg (by omega)]; exact h3
/-- what a fact says of the heap -/
theorem b_G.rI (g : b_G K ν h0 h G) {base slot val : BV} (hm : G.2.1.contains (base, slot, val) = true) (hs : slot.1 < 2) (hv : val.1 < 2) {a j : Nat} (hb : (a : Int) = b_vl ν base) (hj : (j : Int) = b_vl ν slot) : c_I h a j = b_vl ν val := by
  have f := g.fa _ hm
  obtain ⟨a', j', q0, q1⟩ := f.ne9 (by exact hs)
  have e1 : a' = a := by have := q0.vl; omega
  have e2 : j' = j := by have := q1.vl; omega
  subst e1 e2
  obtain ⟨x, x1, x2⟩ := f.atI q0 q1 (by exact hv)
  rw [c_I_of x1]
  exact x2.vl
end CI
/-- a run from an opcode's place to the loop's head -/
def c_res (pc : Nat) (ν : BN) (al : AL) (h : AH) (mc ms : Nat) (Q : AH → Prop) : Prop := ∃ (ν' : BN) (al' : AL) (h' : AH) (c s : Nat), c ≤ 2 ∧ s ≤ 66 ∧ ν' 0 = ν 0 + 6 ∧ ν' 1 = ν 1 ∧ b_L c_E28.length ν' c_bl28 al' ∧ b_G c_K ν' h' h' (c_E28, c_F28, [], [], []) ∧ b_hit 12 301 [28] true (pc, al, [], h, mc, ms) (28, al', [], h', mc + c, ms + s) ∧ Q h'
theorem c_res.mono {pc : Nat} {ν : BN} {al : AL} {h : AH} {mc ms : Nat} {Q Q' : AH → Prop} (k : c_res pc ν al h mc ms Q) (hq : ∀ h', Q h' → Q' h') : c_res pc ν al h mc ms Q' := by
  obtain ⟨ν', al', h', c, s, k1, k2, k3, k4, k5, k6, k7, k8⟩ := k
  exact ⟨ν', al', h', c, s, k1, k2, k3, k4, k5, k6, k7, hq h' k8⟩
/-- runs from one place come to one heap -/
theorem c_res.and {pc : Nat} {ν : BN} {al : AL} {h : AH} {mc ms : Nat} {Q Q' : AH → Prop} (hp : pc ≠ 28) (k : c_res pc ν al h mc ms Q) (k' : c_res pc ν al h mc ms Q') : c_res pc ν al h mc ms (fun h' => Q h' ∧ Q' h') := by
  obtain ⟨ν1, al1, h1, c, s, k1, k2, k3, k4, k5, k6, k7, k8⟩ := k
  obtain ⟨ν2, al2, h2, c', s', -, -, -, -, -, -, m7, m8⟩ := k'
  have e := k7.one (by simpa using hp) m7
  injection e with e1 e
  injection e with e2 e
  injection e with e3 e
  injection e with e4 e
  subst e4
  exact ⟨ν1, al1, h1, c, s, k1, k2, k3, k4, k5, k6, k7, k8, m8⟩
theorem c_res.all {pc : Nat} {ν : BN} {al : AL} {h : AH} {mc ms : Nat} {Q : AH → Prop} {P : Nat → AH → Prop} {n : Nat} (hp : pc ≠ 28) (k : c_res pc ν al h mc ms Q) (k' : ∀ i, i < n → c_res pc ν al h mc ms (P i)) : c_res pc ν al h mc ms (fun h' => Q h' ∧ ∀ i, i < n → P i h') := by
  obtain ⟨ν1, al1, h1, c, s, k1, k2, k3, k4, k5, k6, k7, k8⟩ := k
  refine ⟨ν1, al1, h1, c, s, k1, k2, k3, k4, k5, k6, k7, k8, fun i hi => ?_⟩
  obtain ⟨ν2, al2, h2, c', s', -, -, -, -, -, -, m7, m8⟩ := k' i hi
  have e := k7.one (by simpa using hp) m7
  injection e with e1 e
  injection e with e2 e
  injection e with e3 e
  injection e with e4 e
  subst e4
  exact m8
def c_sg (S : BSg) : List BV := [(1, 0, 6), (1, 1, 0)] ++ (List.range (c_E28.length - 2)).map fun i => (1, S.2.1.2.2.1.length + i, 0)
/-- a stretch that leads back to the head -/
def c_shp (S : BSg) : Bool := decide (S.1.1 = 301) && (decide (S.2.1.1 = c_bl28) && (decide (S.2.1.2.1 = []) && (decide (c_E28.length ≤ S.2.1.2.2.1.length) && (decide (S.2.1.2.2.1.take 2 = [(0, 0, 3072), (0, 0, 3072)]) && (S.2.2.2.all fun p => (match p.1 with
  | .inl _ => false
  | .inr z => decide (z.1 = 28) && (decide (p.2.2.1 ≤ 2) && (decide (p.2.2.2 ≤ 66) && (decide (z.2.2 = []) && ((p.2.1.2.2.any fun c => decide (c.1 = 0) && (decide (c.2.1 = 1) && decide (c.2.2 = -6))) && (b_locs (c_sg S) c_bl28 z.2.1 && b_inst c_K (c_sg S) (c_E28x, c_F28, []) (S.2.1.2.2.1 ++ p.2.1.1, p.2.1.2.1, p.2.1.2.2, [], []))))))))))))
theorem c_noin {S : BSg} (h : c_shp S = true) : S.2.2.2.all (fun p => match p.1 with
    | .inl _ => false
    | .inr _ => true) = true := by
  unfold c_shp at h
  simp only [Bool.and_eq_true] at h
  refine List.all_eq_true.mpr fun p hp => ?_
  have k := List.all_eq_true.mp h.2.2.2.2.2 p hp
  cases hq : p.1 with
  | inl z => rw [hq] at k; cases k
  | inr z => rfl
noncomputable def b_sgcO (K : BH) (cB : BK) (S : BSg) (O : BO) (cuts : List Nat) (F : Nat) : Bool := match b_ex K cB cuts S.1.1 F true S.1.2 S.2.1.1 S.2.1.2.1 (S.2.1.2.2.1, S.2.1.2.2.2.1, S.2.1.2.2.2.2, O, []) 0 0 with
  | some L => L.all fun o => S.2.2.2.any fun p => b_sgo K S.2.1.2.2.1 S.2.2.1 p o
  | none => false
theorem b_sgcO_hit {K : BH} {ν : BN} {h : AH} (hJ : b_JF K) {d F : Nat} {cB : BK} (hc : b_cal K (b_lim d) cB) {S : BSg} {O : BO} {cuts : List Nat} (hk : b_sgcO K cB S O cuts F = true) (ha : S.2.2.2.all (fun p => match p.1 with
    | .inl _ => false
    | .inr _ => true) = true) {al : AL} {st : List Value} {mc ms : Nat} (hl : b_L S.2.1.2.2.1.length ν S.2.1.1 al) (hs : b_S S.2.1.2.2.1.length ν S.2.1.2.1 st) (g : b_G K ν h h (S.2.1.2.2.1, S.2.1.2.2.2.1, S.2.1.2.2.2.2, O, [])) : ∃ p ∈ S.2.2.2, ∃ pc' bl' bs', p.1 = .inr (pc', bl', bs') ∧ ∃ ν' h', b_ext S.2.1.2.2.1.length (S.2.1.2.2.1 ++ p.2.1.1).length ν ν' ∧ b_G K ν' h h' (S.2.1.2.2.1 ++ p.2.1.1, p.2.1.2.1, p.2.1.2.2, [], S.2.2.1) ∧ ∃ al' st', b_L (S.2.1.2.2.1 ++ p.2.1.1).length ν' bl' al' ∧ b_S (S.2.1.2.2.1 ++ p.2.1.1).length ν' bs' st' ∧ b_hit d S.1.1 cuts true (S.1.2, al, st, h, mc, ms) (pc', al', st', h', mc + p.2.2.1, ms + p.2.2.2) := by
  unfold b_sgcO at hk
  split at hk
  · rename_i L hL
    obtain ⟨o, o1, k⟩ := b_ex_hit hJ (mc0 := mc) (ms0 := ms) hc F true S.1.2 S.2.1.1 S.2.1.2.1 _ 0 0 L ν al st h mc ms hL hl hs g rfl rfl
    have ho := List.all_eq_true.mp hk o o1
    obtain ⟨p, p1, p2⟩ := List.any_eq_true.mp ho
    have hp := List.all_eq_true.mp ha p p1
    cases hq : p.1 with
    | inl z => rw [hq] at hp; cases hp
    | inr z =>
      obtain ⟨pc', bl', bs'⟩ := z
      obtain ⟨ν', h', y⟩ := b_sgo_hit rfl p2 k hq
      exact ⟨p, p1, pc', bl', bs', hq, ν', h', y⟩
  · cases hk
theorem c_spO {S : BSg} {O : BO} {F : Nat} {cB : BK} (hc : b_cal c_K (b_lim 12) cB) (hk : b_sgcO c_K cB S O [28] F = true) (hs : c_shp S = true) {ν ν0 : BN} {al : AL} {h : AH} {mc ms : Nat} {Q : AH → Prop} (hl : b_L c_E28.length ν0 c_bl28 al) (hx : ∀ n, n < c_E28.length → ν n = ν0 n) (g : b_G c_K ν h h (S.2.1.2.2.1, S.2.1.2.2.2.1, S.2.1.2.2.2.2, O, [])) (k : b_al (fun p => ∀ (ν' : BN) (h' : AH), b_ext S.2.1.2.2.1.length (S.2.1.2.2.1 ++ p.2.1.1).length ν ν' → b_G c_K ν' h h' (S.2.1.2.2.1 ++ p.2.1.1, p.2.1.2.1, p.2.1.2.2, [], S.2.2.1) → Q h') S.2.2.2) : c_res S.1.2 ν0 al h mc ms Q := by
  have hn := c_noin hs
  unfold c_shp at hs
  simp only [Bool.and_eq_true, decide_eq_true_eq] at hs
  obtain ⟨s1, s2, s3, s4, s6, s5⟩ := hs
  have hl' : b_L S.2.1.2.2.1.length ν S.2.1.1 al := by
    rw [s2]
    exact hl.ext ⟨s4, hx⟩
  obtain ⟨p, p1, pc', bl', bs', hp, ν', h', x, g', al', st', l', st2, hit⟩ := b_sgcO_hit (mc := mc) (ms := ms) (st := []) c_hJ hc hk hn hl' (by rw [s3]; exact b_S.nil) g
  have k2 := List.all_eq_true.mp s5 p p1
  have kk := b_al_at k p p1 ν' h' x g'
  rw [hp] at k2
  dsimp only at k2
  simp only [Bool.and_eq_true, decide_eq_true_eq] at k2
  obtain ⟨c1, c2, c3, c4, c5, c7, c8⟩ := k2
  subst c1
  subst c4
  obtain rfl := st2.inv0
  have c8' : b_inst c_K (c_sg S) (c_E28x, c_F28, []) (S.2.1.2.2.1 ++ p.2.1.1, p.2.1.2.1, p.2.1.2.2, [], S.2.2.1) = true := c8
  obtain ⟨i1, i2, i3, i4, i5⟩ := b_inst_ok g' c8'
  have l2 := b_locs_ok (ν := ν') c7 l'
  have e28 : c_E28x.length = c_E28.length := List.length_set ..
  have i1 : (c_sg S).length = c_E28x.length := i1
  rw [i1, e28] at l2
  have gx : b_G c_K (b_vT (c_sg S) ν') h' h' (c_E28x, c_F28, [], [], []) := ⟨i3, i4, i5, (fun o ho => by cases ho), g'.2.2.2.2.1, b_frm.rf⟩
  have v0 : b_vT (c_sg S) ν' 0 = ν' 0 + 6 := rfl
  have v1 : b_vT (c_sg S) ν' 1 = ν' 1 := by show ν' 1 + 0 = ν' 1; omega
  have hC : ν' 0 ≤ ν' 1 + (-6) := by
    obtain ⟨c, q1, q2⟩ := List.any_eq_true.mp c5
    simp only [Bool.and_eq_true, decide_eq_true_eq] at q2
    have := (g'.2.2.1 c q1).2.2
    rw [q2.1, q2.2.1, q2.2.2] at this
    exact this
  have t2 : 2 ≤ S.2.1.2.2.1.length := by
    have := congrArg List.length s6
    rw [List.length_take] at this
    have e : ([(0, 0, 3072), (0, 0, 3072)] : BQ).length = 2 := rfl
    omega
  have at2 : ∀ n, n < 2 → S.2.1.2.2.1[n]? = ([(0, 0, 3072), (0, 0, 3072)] : BQ)[n]? := fun n hn => by
    rw [← s6, List.getElem?_take, if_pos hn]
  have s1' : 0 ≤ ν' 1 ∧ ν' 1 ≤ 3072 := by
    refine g'.1.iv (n := 1) ?_
    rw [List.getElem?_append_left (by omega), at2 1 (by decide)]
    rfl
  have s0' : 0 ≤ ν' 0 ∧ ν' 0 ≤ 3072 := by
    refine g'.1.iv (n := 0) ?_
    rw [List.getElem?_append_left (by omega), at2 0 (by decide)]
    rfl
  obtain ⟨gz, -⟩ := b_setQ gx (n := 0) (lo := 0) (hi := 3072) (by rw [v0]; omega) (by rw [v0]; omega)
  have n0 : ν' 0 = ν0 0 := (x.2 0 (by omega)).trans (hx 0 (by decide))
  have n1 : ν' 1 = ν0 1 := (x.2 1 (by omega)).trans (hx 1 (by decide))
  refine ⟨b_vT (c_sg S) ν', al', h', p.2.2.1, p.2.2.2, c2, c3, by rw [v0, n0], by rw [v1, n1], l2, gz, ?_, kk⟩
  rw [← s1]
  exact hit
theorem c_sp {S : BSg} {F : Nat} {cB : BK} (hc : b_cal c_K (b_lim 12) cB) (hk : b_sgc c_K cB S [28] F = true) (hs : c_shp S = true) {ν ν0 : BN} {al : AL} {h : AH} {mc ms : Nat} {Q : AH → Prop} (hl : b_L c_E28.length ν0 c_bl28 al) (hx : ∀ n, n < c_E28.length → ν n = ν0 n) (g : b_G c_K ν h h (S.2.1.2.2.1, S.2.1.2.2.2.1, S.2.1.2.2.2.2, [], [])) (k : b_al (fun p => ∀ (ν' : BN) (h' : AH), b_ext S.2.1.2.2.1.length (S.2.1.2.2.1 ++ p.2.1.1).length ν ν' → b_G c_K ν' h h' (S.2.1.2.2.1 ++ p.2.1.1, p.2.1.2.1, p.2.1.2.2, [], S.2.2.1) → Q h') S.2.2.2) : c_res S.1.2 ν0 al h mc ms Q := c_spO (O := []) hc hk hs hl hx g k
/-- outcomes that end the law are allowed, where what is known of them is false -/
def c_cl (Q : AH → Prop) (p : BSo) (h : AH) : Prop := match p.1 with
  | .inl _ => False
  | .inr _ => Q h
def c_shpX (S : BSg) : Bool := decide (S.1.1 = 301) && (decide (S.2.1.1 = c_bl28) && (decide (S.2.1.2.1 = []) && (decide (c_E28.length ≤ S.2.1.2.2.1.length) && (decide (S.2.1.2.2.1.take 2 = [(0, 0, 3072), (0, 0, 3072)]) && (S.2.2.2.all fun p => (match p.1 with
  | .inl _ => true
  | .inr z => decide (z.1 = 28) && (decide (p.2.2.1 ≤ 2) && (decide (p.2.2.2 ≤ 66) && (decide (z.2.2 = []) && ((p.2.1.2.2.any fun c => decide (c.1 = 0) && (decide (c.2.1 = 1) && decide (c.2.2 = -6))) && (b_locs (c_sg S) c_bl28 z.2.1 && b_inst c_K (c_sg S) (c_E28x, c_F28, []) (S.2.1.2.2.1 ++ p.2.1.1, p.2.1.2.1, p.2.1.2.2, [], []))))))))))))
theorem c_spP {S : BSg} {O : BO} {F : Nat} {cB : BK} {ν ν0 : BN} {al : AL} {h : AH} {mc ms : Nat} {Q : AH → Prop} (hc : b_calP c_K S.2.1.2.2.1.length ν h (b_lim 12) cB) (hk : b_sgcO c_K cB S O [28] F = true) (hs : c_shpX S = true) (hl : b_L c_E28.length ν0 c_bl28 al) (hx : ∀ n, n < c_E28.length → ν n = ν0 n) (g : b_G c_K ν h h (S.2.1.2.2.1, S.2.1.2.2.2.1, S.2.1.2.2.2.2, O, [])) (k : b_al (fun p => ∀ (ν' : BN) (h' : AH), b_ext S.2.1.2.2.1.length (S.2.1.2.2.1 ++ p.2.1.1).length ν ν' → b_G c_K ν' h h' (S.2.1.2.2.1 ++ p.2.1.1, p.2.1.2.1, p.2.1.2.2, [], S.2.2.1) → c_cl Q p h') S.2.2.2) : c_res S.1.2 ν0 al h mc ms Q := by
  unfold c_shpX at hs
  simp only [Bool.and_eq_true, decide_eq_true_eq] at hs
  obtain ⟨s1, s2, s3, s4, s6, s5⟩ := hs
  have hl' : b_L S.2.1.2.2.1.length ν S.2.1.1 al := by
    rw [s2]
    exact hl.ext ⟨s4, hx⟩
  have hk2 := hk
  unfold b_sgcO at hk2
  split at hk2
  · rename_i L hL
    obtain ⟨o, o1, ok⟩ := b_exP_hit (h0 := h) c_hJ (mc0 := mc) (ms0 := ms) hc F true S.1.2 S.2.1.1 S.2.1.2.1 _ 0 0 L ν al [] h mc ms hL hl' (by rw [s3]; exact b_S.nil) g rfl rfl b_ext.rf
    have ho := List.all_eq_true.mp hk2 o o1
    obtain ⟨p, p1, p2⟩ := List.any_eq_true.mp ho
    have k2 := List.all_eq_true.mp s5 p p1
    cases hp : p.1 with
    | inl z =>
      exfalso
      obtain ⟨ν', h', x, g', -⟩ := b_sgo_ok (ν := ν) (N := S.2.1.2.2.1.length) rfl p2 ok.ok
      have kk := b_al_at k p p1 ν' h' x g'
      unfold c_cl at kk
      rw [hp] at kk
      exact kk
    | inr z =>
    obtain ⟨pc', bl', bs'⟩ := z
    obtain ⟨ν', h', x, g', al', st', l', st2, hit⟩ := b_sgo_hit rfl p2 ok hp
    have kk := b_al_at k p p1 ν' h' x g'
    unfold c_cl at kk
    rw [hp] at kk
    dsimp only at kk
    rw [hp] at k2
    dsimp only at k2
    simp only [Bool.and_eq_true, decide_eq_true_eq] at k2
    obtain ⟨c1, c2, c3, c4, c5, c7, c8⟩ := k2
    subst c1
    subst c4
    obtain rfl := st2.inv0
    have c8' : b_inst c_K (c_sg S) (c_E28x, c_F28, []) (S.2.1.2.2.1 ++ p.2.1.1, p.2.1.2.1, p.2.1.2.2, [], S.2.2.1) = true := c8
    obtain ⟨i1, i2, i3, i4, i5⟩ := b_inst_ok g' c8'
    have l2 := b_locs_ok (ν := ν') c7 l'
    have e28 : c_E28x.length = c_E28.length := List.length_set ..
    have i1 : (c_sg S).length = c_E28x.length := i1
    rw [i1, e28] at l2
    have gx : b_G c_K (b_vT (c_sg S) ν') h' h' (c_E28x, c_F28, [], [], []) := ⟨i3, i4, i5, (fun o ho => by cases ho), g'.2.2.2.2.1, b_frm.rf⟩
    have v0 : b_vT (c_sg S) ν' 0 = ν' 0 + 6 := rfl
    have v1 : b_vT (c_sg S) ν' 1 = ν' 1 := by show ν' 1 + 0 = ν' 1; omega
    have hC : ν' 0 ≤ ν' 1 + (-6) := by
      obtain ⟨c, q1, q2⟩ := List.any_eq_true.mp c5
      simp only [Bool.and_eq_true, decide_eq_true_eq] at q2
      have := (g'.2.2.1 c q1).2.2
      rw [q2.1, q2.2.1, q2.2.2] at this
      exact this
    have t2 : 2 ≤ S.2.1.2.2.1.length := by
      have := congrArg List.length s6
      rw [List.length_take] at this
      have e : ([(0, 0, 3072), (0, 0, 3072)] : BQ).length = 2 := rfl
      omega
    have at2 : ∀ n, n < 2 → S.2.1.2.2.1[n]? = ([(0, 0, 3072), (0, 0, 3072)] : BQ)[n]? := fun n hn => by
      rw [← s6, List.getElem?_take, if_pos hn]
    have s1' : 0 ≤ ν' 1 ∧ ν' 1 ≤ 3072 := by
      refine g'.1.iv (n := 1) ?_
      rw [List.getElem?_append_left (by omega), at2 1 (by decide)]
      rfl
    have s0' : 0 ≤ ν' 0 ∧ ν' 0 ≤ 3072 := by
      refine g'.1.iv (n := 0) ?_
      rw [List.getElem?_append_left (by omega), at2 0 (by decide)]
      rfl
    obtain ⟨gz, -⟩ := b_setQ gx (n := 0) (lo := 0) (hi := 3072) (by rw [v0]; omega) (by rw [v0]; omega)
    have n0 : ν' 0 = ν0 0 := (x.2 0 (by omega)).trans (hx 0 (by decide))
    have n1 : ν' 1 = ν0 1 := (x.2 1 (by omega)).trans (hx 1 (by decide))
    refine ⟨b_vT (c_sg S) ν', al', h', p.2.2.1, p.2.2.2, c2, c3, by rw [v0, n0], by rw [v1, n1], l2, gz, ?_, kk⟩
    rw [← s1]
    exact hit
  · cases hk2
