/-! Proofs by hand: a place of a method from which all goes well -/
section HV
variable {K : BH} {ν : BN} {h0 h : AH} {G : BG}
def b_gd (K : BH) (R : BRw) (d pc : Nat) (bl : BL) (bs : List BV) (N : Nat) (ν : BN) (h : AH) (mc ms : Nat) : Prop := ∀ (al : AL) (st : List Value), b_L N ν bl al → b_S N ν bs st → ∃ r, b_R d R.1 pc al st h mc ms r ∧ b_post K R ν h r
theorem b_post.ext {R : BRw} {ν ν' : BN} {N : Nat} {r : AR} (x : b_ext R.2.2.1.2.1.length N ν ν') (k : b_post K R ν' h r) : b_post K R ν h r := by
  obtain ⟨p, p1, ν2, y, q⟩ := k
  exact ⟨p, p1, ν2, ⟨y.1, fun n hn => (y.2 n hn).trans (x.2 n hn)⟩, q⟩
theorem b_G.here (g : b_G K ν h0 h G) : b_G K ν h h (G.1, G.2.1, G.2.2.1, [], []) := ⟨g.1, g.2.1, g.2.2.1, (fun o ho => by cases ho), g.2.2.2.2.1, b_frm.rf⟩
def b_al (P : BSo → Prop) : List BSo → Prop
  | [] => True
  | p :: l => P p ∧ b_al P l
theorem b_al_at {P : BSo → Prop} : ∀ {l : List BSo}, b_al P l → ∀ p ∈ l, P p
  | [], _, p, hp => by cases hp
  | q :: l, h, p, hp => (List.mem_cons.mp hp).elim (fun e => by rw [e]; exact h.1) (b_al_at h.2 p)
def b_pq (K : BH) (R : BRw) (d : Nat) (p : BSo) (N : Nat) (ν : BN) (h : AH) (mc ms : Nat) : Prop := match p.1 with
  | .inl k => ∀ r : AR, b_fin N ν k r.1 → r.2.1 = h → r.2.2 = (mc + p.2.2.1, ms + p.2.2.2) → b_post K R ν h r
  | .inr (pc, bl, bs) => b_gd K R d pc bl bs N ν h (mc + p.2.2.1) (ms + p.2.2.2)
def b_hyp (K : BH) (R : BRw) (d : Nat) (S : BSg) (ν : BN) (h : AH) (mc ms : Nat) (p : BSo) : Prop := ∀ (ν' : BN) (h' : AH), b_ext S.2.1.2.2.1.length (S.2.1.2.2.1 ++ p.2.1.1).length ν ν' → b_G K ν' h h' (S.2.1.2.2.1 ++ p.2.1.1, p.2.1.2.1, p.2.1.2.2, [], S.2.2.1) → b_pq K R d p (S.2.1.2.2.1 ++ p.2.1.1).length ν' h' mc ms
theorem b_gd.of {R : BRw} {S : BSg} {d mc ms : Nat} (hR : S.1.1 = R.1) (hN : R.2.2.1.2.1.length ≤ S.2.1.2.2.1.length) (hW : b_subW S.2.2.1 R.2.2.2.1 = true) (hx : ∀ al st, b_L S.2.1.2.2.1.length ν S.2.1.1 al → b_S S.2.1.2.2.1.length ν S.2.1.2.1 st → b_rgq K S d S.1.2 ν h al st h mc ms) (ha : b_al (b_hyp K R d S ν h mc ms) S.2.2.2) : b_gd K R d S.1.2 S.2.1.1 S.2.1.2.1 S.2.1.2.2.1.length ν h mc ms := by
  intro al st hl hs
  obtain ⟨p, p1, ν', h', x, g, q⟩ := hx al st hl hs
  have k := b_al_at ha p p1 ν' h' x g
  have x0 : b_ext R.2.2.1.2.1.length (S.2.1.2.2.1 ++ p.2.1.1).length ν ν' := ⟨Nat.le_trans hN x.1, fun n hn => x.2 n (Nat.lt_of_lt_of_le hn hN)⟩
  unfold b_sgq at q
  unfold b_pq at k
  cases hp : p.1 with
  | inl z =>
    rw [hp] at q k
    dsimp only at q k
    obtain ⟨r, q1, q2, q3, q4⟩ := q
    rw [hR] at q1
    exact ⟨r, q1, ((k r q2 q3 q4).cut g.2.2.2.2.2 (b_subW_ok hW)).ext x0⟩
  | inr z =>
    obtain ⟨pc', bl', bs'⟩ := z
    rw [hp] at q k
    dsimp only at q k
    obtain ⟨al', st', q1, q2, q3⟩ := q
    obtain ⟨r, r1, r2⟩ := k al' st' q1 q2
    rw [hR] at q3
    exact ⟨r, q3 r r1, (r2.cut g.2.2.2.2.2 (b_subW_ok hW)).ext x0⟩
theorem b_gd.sg (hJ : b_JF K) {R : BRw} {S : BSg} {d F mc ms : Nat} {cB : BK} {cuts : List Nat} (hc : b_cal K (b_lim d) cB) (hk : b_sgc K cB S cuts F = true) (hR : S.1.1 = R.1) (hN : R.2.2.1.2.1.length ≤ S.2.1.2.2.1.length) (hW : b_subW S.2.2.1 R.2.2.2.1 = true) (g : b_G K ν h h (S.2.1.2.2.1, S.2.1.2.2.2.1, S.2.1.2.2.2.2, [], [])) (ha : b_al (b_hyp K R d S ν h mc ms) S.2.2.2) : b_gd K R d S.1.2 S.2.1.1 S.2.1.2.1 S.2.1.2.2.1.length ν h mc ms := b_gd.of hR hN hW (fun _ _ hl hs => b_sgc_ok hJ hc hk hl hs g) ha
theorem b_gd.rg (hJ : b_JF K) {R : BRw} {S : BSg} {d F mc ms : Nat} {cB : BK} {cuts : List BCu} {stops : List Nat} (hc : b_cal K (b_lim d) cB) (hk : b_rgc K cB S cuts stops F = true) (hR : S.1.1 = R.1) (hN : R.2.2.1.2.1.length ≤ S.2.1.2.2.1.length) (hW : b_subW S.2.2.1 R.2.2.2.1 = true) (g : b_G K ν h h (S.2.1.2.2.1, S.2.1.2.2.2.1, S.2.1.2.2.2.2, [], [])) (ha : b_al (b_hyp K R d S ν h mc ms) S.2.2.2) : b_gd K R d S.1.2 S.2.1.1 S.2.1.2.1 S.2.1.2.2.1.length ν h mc ms := b_gd.of hR hN hW (fun _ _ hl hs => b_rgc_ok hJ hc hk hl hs g) ha
/-- the same state, its symbols in another order -/
def b_cvc (K : BH) (R : BRw) (T : BP) (bl : BL) (bs : List BV) (bl' : BL) (bs' : List BV) (G : BG) (σ : List BV) : Bool := decide (R.2.2.1.2.1.length ≤ T.1.length) && (b_locs σ bl bl' && (b_locs σ (bs.map some) (bs'.map some) && (b_inst K σ T G && decide (σ.take R.2.2.1.2.1.length = b_id R.2.2.1.2.1))))
theorem b_gd.cv {R : BRw} {d pc : Nat} {T : BP} {bl bl' : BL} {bs bs' : List BV} {σ : List BV} {mc ms : Nat} (hi : b_cvc K R T bl bs bl' bs' G σ = true) (g : b_G K ν h0 h G) (k : b_G K (b_vT σ ν) h h (T.1, T.2.1, T.2.2, [], []) → b_gd K R d pc bl bs T.1.length (b_vT σ ν) h mc ms) : b_gd K R d pc bl' bs' G.1.length ν h mc ms := by
  unfold b_cvc at hi
  simp only [Bool.and_eq_true, decide_eq_true_eq] at hi
  obtain ⟨s1, s2, s3, s4, s5⟩ := hi
  intro al st hl hs
  obtain ⟨i1, i2, i3, i4, i5⟩ := b_inst_ok g s4
  have l1 := b_locs_ok (ν := ν) s2 hl
  have l2 := b_locsA (ν := ν) s3 hs
  rw [i1] at l1 l2
  obtain ⟨r, r1, r2⟩ := k ⟨i3, i4, i5, (fun o ho => by cases ho), g.2.2.2.2.1, b_frm.rf⟩ al st l1 l2
  have x := b_id_ext (ν := ν) (by rw [i1]; exact s1) s5
  exact ⟨r, r1, r2.ext x⟩
theorem b_sat.pre {E E0 : BQ} (hs : b_sat K E ν) (h : E.take E0.length = E0) : b_sat K E0 ν := fun n q hq => by
  refine hs n q ?_
  rw [← h, List.getElem?_take] at hq
  split at hq
  · exact hq
  · cases hq
/-- an end with an int, checked -/
def b_pqI (R : BRw) (p : BSo) (E0 : BQ) (mc ms : Nat) (lo hi : Int) : Bool := match p.1 with
  | .inl (.inl (some b)) => decide (b.1 < 2) && (decide (lo ≤ (b_iv (E0 ++ p.2.1.1) b).1) && (decide ((b_iv (E0 ++ p.2.1.1) b).2 ≤ hi) && (decide ((E0 ++ p.2.1.1).take R.2.2.1.2.1.length = R.2.2.1.2.1) && R.2.2.2.2.any fun q => decide (q.1 = .inl (some (1, R.2.2.1.2.1.length, 0))) && ((decide (q.2.1.1 = [(0, lo, hi)]) && (q.2.1.2.1.isEmpty && q.2.1.2.2.isEmpty)) && decide (q.2.2 = (mc + p.2.2.1, ms + p.2.2.2))))))
  | _ => false
theorem b_pq.int {R : BRw} {d : Nat} {p : BSo} {E0 : BQ} {mc ms : Nat} {lo hi : Int} {F : BF} {C : BC} {O : BO} {W : BW} (hk : b_pqI R p E0 mc ms lo hi = true) (g : b_G K ν h0 h (E0 ++ p.2.1.1, F, C, O, W)) : b_pq K R d p (E0 ++ p.2.1.1).length ν h mc ms := by
  unfold b_pqI at hk
  unfold b_pq
  split at hk
  · rename_i b hp
    rw [hp]
    dsimp only
    simp only [Bool.and_eq_true, decide_eq_true_eq] at hk
    obtain ⟨h1, h2, h3, h4, h5⟩ := hk
    have h5 : ((.inl (some (1, R.2.2.1.2.1.length, 0)), ([(0, lo, hi)], [], []), (mc + p.2.2.1, ms + p.2.2.2)) : BPo) ∈ R.2.2.2.2 := by
      obtain ⟨q, q1, q2⟩ := List.any_eq_true.mp h5
      simp only [Bool.and_eq_true, decide_eq_true_eq] at q2
      obtain ⟨q2, ⟨q3, q5, q6⟩, q4⟩ := q2
      have e : q = (.inl (some (1, R.2.2.1.2.1.length, 0)), ([(0, lo, hi)], [], []), (mc + p.2.2.1, ms + p.2.2.2)) := Prod.ext q2 (Prod.ext (Prod.ext q3 (Prod.ext (List.isEmpty_iff.mp q5) (List.isEmpty_iff.mp q6))) q4)
      rw [← e]
      exact q1
    intro r r1 r2 r3
    cases hr : r.1 with
    | inr k' => rw [hr] at r1; exact r1.elim
    | inl v =>
      rw [hr] at r1
      cases v with
      | none => exact r1.elim
      | some v =>
        obtain ⟨x, rfl, hx⟩ := b_v.int (b := b) r1 h1
        have iv : (b_iv (E0 ++ p.2.1.1) b).1 ≤ x.toInt ∧ x.toInt ≤ (b_iv (E0 ++ p.2.1.1) b).2 := b_iv_ok g.1 hx
        refine b_post_int h5 hr (by omega) (by omega) (F := []) (C := []) (O := []) (W := []) ⟨g.1.pre h4, (fun f hf => by cases hf), (fun f hf => by cases hf), (fun f hf => by cases hf), ?_, ?_⟩ (fun w hw => by cases hw) r3
        · rw [r2]; exact g.2.2.2.2.1
        · rw [r2]; exact b_frm.rf
  · cases hk
/-! Reading the heap -/
def c_at (h : AH) (a j : Nat) : Option Value := (h[a]?).bind fun c => c.2[j]?
theorem c_at_of {a j t : Nat} {vs : List Value} {v : Value} (h1 : h[a]? = some (t, vs)) (h2 : vs[j]? = some v) : c_at h a j = some v := by
  unfold c_at
  rw [h1]
  exact h2
theorem b_fa.at {N : Nat} {base slot v : BV} {a j : Nat} (f : b_fa N ν h (base, slot, v)) (hb : b_r N ν base a) (hs : b_i N ν slot (j : Int)) : ∃ w, c_at h a j = some w ∧ b_v N ν v w := by
  have n9 : ¬ slot.1 = 9 := by rcases hs with ⟨e, -⟩ | ⟨e, -⟩ <;> omega
  obtain ⟨a1, t, vs, k1, k2, k3⟩ := f
  have e1 := k1.fn hb
  subst e1
  rw [if_neg n9] at k3
  obtain ⟨j1, w, j2, j3, j4⟩ := k3
  have e2 : (j1 : Int) = j := j2.fn hs
  have e3 : j1 = j := by omega
  subst e3
  exact ⟨w, c_at_of k2 j3, j4⟩
theorem b_fa.atI {N : Nat} {base slot v : BV} {a j : Nat} (f : b_fa N ν h (base, slot, v)) (hb : b_r N ν base a) (hs : b_i N ν slot (j : Int)) (hv : v.1 < 2) : ∃ x : Int32, c_at h a j = some (.int x) ∧ b_i N ν v x.toInt := by
  obtain ⟨w, w1, w2⟩ := f.at hb hs
  obtain ⟨x, rfl, hx⟩ := w2.int hv
  exact ⟨x, w1, hx⟩
theorem b_fa.atR {N : Nat} {base slot v : BV} {a j : Nat} (f : b_fa N ν h (base, slot, v)) (hb : b_r N ν base a) (hs : b_i N ν slot (j : Int)) (hv : v.1 = 2 ∨ v.1 = 3) : ∃ b : Nat, c_at h a j = some (.ref b) ∧ b_r N ν v b := by
  obtain ⟨w, w1, w2⟩ := f.at hb hs
  obtain ⟨x, rfl, hx⟩ := w2.ref hv
  exact ⟨x, w1, hx⟩
theorem b_fa.mk {N : Nat} {base slot v : BV} {a j : Nat} {w : Value} (hw : c_at h a j = some w) (hb : b_r N ν base a) (hs : b_i N ν slot (j : Int)) (hv : b_v N ν v w) : b_fa N ν h (base, slot, v) := by
  unfold c_at at hw
  cases hh : h[a]? with
  | none => rw [hh] at hw; cases hw
  | some c =>
    rw [hh] at hw
    have n9 : ¬ slot.1 = 9 := by rcases hs with ⟨e, -⟩ | ⟨e, -⟩ <;> omega
    exact ⟨a, c.1, c.2, hb, hh, by rw [if_neg n9]; exact ⟨j, w, hs, hw, hv⟩⟩
theorem b_fa.ne9 {N : Nat} {base slot v : BV} (f : b_fa N ν h (base, slot, v)) (hs : slot.1 < 2) : ∃ (a j : Nat), b_r N ν base a ∧ b_i N ν slot (j : Int) := by
  obtain ⟨a1, t, vs, k1, k2, k3⟩ := f
  rw [if_neg (show ¬ slot.1 = 9 by omega)] at k3
  obtain ⟨j1, w, j2, j3, j4⟩ := k3
  exact ⟨a1, j1, k1, j2⟩
/-- one more symbol, and where it stands -/
theorem b_G.rdI (g : b_G K ν h0 h G) {base slot : BV} {a j : Nat} {x : Int32} {lo hi : Int} (hw : c_at h a j = some (.int x)) (hb : b_r G.1.length ν base a) (hs : b_i G.1.length ν slot (j : Int)) (h1 : lo ≤ x.toInt) (h2 : x.toInt ≤ hi) : b_G K (b_nu ν G.1.length x.toInt) h0 h (b_addF (b_add G (0, lo, hi)) (base, slot, (1, G.1.length, 0))) ∧ b_ext G.1.length (G.1.length + 1) ν (b_nu ν G.1.length x.toInt) := by
  obtain ⟨g1, x1⟩ := g.add (q := (0, lo, hi)) (z := x.toInt) (by unfold b_q; rw [if_pos rfl]; exact ⟨h1, h2⟩)
  refine ⟨g1.addF (b_fa.mk hw (hb.ext x1) (hs.ext x1) ?_), b_nu_ext⟩
  refine Or.inr ⟨rfl, ?_, ?_⟩
  · show _ < (G.1 ++ [_]).length
    rw [List.length_append]
    exact Nat.lt_succ_self _
  · show _ = b_nu _ _ _ G.1.length + 0
    rw [b_nu_n, Int.add_zero]
theorem b_G.rdR (g : b_G K ν h0 h G) {base slot : BV} {a j b gg : Nat} (hw : c_at h a j = some (.ref b)) (hb : b_r G.1.length ν base a) (hs : b_i G.1.length ν slot (j : Int)) (h1 : K.1 b = some gg) : b_G K (b_nu ν G.1.length b) h0 h (b_addF (b_add G (gg + 1, 0, 0)) (base, slot, (3, G.1.length, 0))) ∧ b_ext G.1.length (G.1.length + 1) ν (b_nu ν G.1.length b) := by
  obtain ⟨g1, x1⟩ := g.add (q := (gg + 1, 0, 0)) (z := (b : Int)) (by unfold b_q; rw [if_neg (Nat.succ_ne_zero _)]; exact ⟨b, rfl, fun _ => h1⟩)
  refine ⟨g1.addF (b_fa.mk hw (hb.ext x1) (hs.ext x1) ?_), b_nu_ext⟩
  refine Or.inr ⟨rfl, ?_, ?_⟩
  · show _ < (G.1 ++ [_]).length
    rw [List.length_append]
    exact Nat.lt_succ_self _
  · show _ = b_nu _ _ _ G.1.length
    rw [b_nu_n]
/-- one more symbol -/
theorem b_G.sy (g : b_G K ν h0 h G) {z lo hi : Int} (h1 : lo ≤ z) (h2 : z ≤ hi) : b_G K (b_nu ν G.1.length z) h0 h (b_add G (0, lo, hi)) ∧ b_ext G.1.length (G.1.length + 1) ν (b_nu ν G.1.length z) := by
  obtain ⟨g1, x1⟩ := g.add (q := (0, lo, hi)) (z := z) (by unfold b_q; rw [if_pos rfl]; exact ⟨h1, h2⟩)
  exact ⟨g1, b_nu_ext⟩
theorem b_sat.iv {E : BQ} (hs : b_sat K E ν) {n : Nat} {lo hi : Int} (h : E[n]? = some (0, lo, hi)) : lo ≤ ν n ∧ ν n ≤ hi := by
  have := hs n _ h
  unfold b_q at this
  rw [if_pos rfl] at this
  exact this
theorem b_sat.rf {E : BQ} (hs : b_sat K E ν) {n g : Nat} (h : E[n]? = some (g + 1, 0, 0)) : ∃ a : Nat, ν n = a ∧ K.1 a = some g := by
  have := hs n _ h
  unfold b_q at this
  rw [if_neg (Nat.succ_ne_zero _)] at this
  obtain ⟨a, h1, h2⟩ := this
  exact ⟨a, h1, h2 rfl⟩
/-- a place that a run hasn't written -/
theorem b_frm.keep {W : BW} {h' : AH} (f : b_frm K W h h') {a j g : Nat} {row : BR} (h1 : K.1 a = some g) (h2 : K.2.1 g = some row) (h3 : row.2.2.1 ≠ 0) (hW : W.contains (g, 0) = false) (he : (h[a]?).isSome = true) : c_at h' a j = c_at h a j := by
  unfold c_at
  obtain ⟨c, hc⟩ := Option.isSome_iff_exists.mp he
  obtain ⟨us, k1, k2, k3⟩ := f a c hc
  rw [hc, k1]
  refine k3 j (fun w hw q => ?_)
  rw [b_keyA h1 h2 h3] at q
  cases q
  simp [hw] at hW
theorem b_frm.keepF {W : BW} {h' : AH} (f : b_frm K W h h') {a j g : Nat} {row : BR} (h1 : K.1 a = some g) (h2 : K.2.1 g = some row) (h3 : row.2.2.1 = 0) (hW : W.contains (g, j) = false) (he : (h[a]?).isSome = true) : c_at h' a j = c_at h a j := by
  unfold c_at
  obtain ⟨c, hc⟩ := Option.isSome_iff_exists.mp he
  obtain ⟨us, k1, k2, k3⟩ := f a c hc
  rw [hc, k1]
  refine k3 j (fun w hw q => ?_)
  rw [b_keyF h1 h2 h3] at q
  cases q
  simp [hw] at hW
theorem b_H.has (H : b_H K h) {a g : Nat} {row : BR} (h1 : K.1 a = some g) (h2 : K.2.1 g = some row) : (h[a]?).isSome = true := by
  obtain ⟨vs, k1, -⟩ := H.1 a g row h1 h2
  rw [k1]; rfl
/-- a typed place -/
theorem b_H.rdI (H : b_H K h) {a j g : Nat} {row : BR} {lo hi : Int} (h1 : K.1 a = some g) (h2 : K.2.1 g = some row) (h3 : row.2.2.1 ≠ 2) (hj : j < row.2.1) (ht : b_ty row j = some (0, lo, hi)) : ∃ x : Int32, c_at h a j = some (.int x) ∧ lo ≤ x.toInt ∧ x.toInt ≤ hi := by
  obtain ⟨vs, k1, k2, k3⟩ := H.1 a g row h1 h2
  have hl : j < vs.length := by rw [k2 h3]; exact hj
  have k4 := k3 j _ _ (List.getElem?_eq_getElem hl) ht
  have e := c_at_of k1 (List.getElem?_eq_getElem hl)
  unfold b_st at k4
  cases hv : vs[j] with
  | int x =>
    rw [hv] at k4 e
    exact ⟨x, e, k4⟩
  | _ => rw [hv] at k4; exact k4.elim
theorem b_H.rdR (H : b_H K h) {a j g : Nat} {g' : Nat} {row : BR} {z : Int} (h1 : K.1 a = some g) (h2 : K.2.1 g = some row) (h3 : row.2.2.1 ≠ 2) (hj : j < row.2.1) (ht : b_ty row j = some (2, (g' : Int), z)) : ∃ b : Nat, c_at h a j = some (.ref b) ∧ K.1 b = some g' := by
  obtain ⟨vs, k1, k2, k3⟩ := H.1 a g row h1 h2
  have hl : j < vs.length := by rw [k2 h3]; exact hj
  have k4 := k3 j _ _ (List.getElem?_eq_getElem hl) ht
  have e := c_at_of k1 (List.getElem?_eq_getElem hl)
  unfold b_st at k4
  cases hv : vs[j] with
  | ref x =>
    rw [hv] at k4 e
    obtain ⟨g2, q1, q2⟩ := k4
    have q1 : (g2 : Int) = (g' : Int) := q1
    have q3 : g2 = g' := by omega
    exact ⟨x, e, by rw [q2, q3]⟩
  | _ => rw [hv] at k4; exact k4.elim
/-- a store into an array, and what it is exactly -/
theorem b_gd.put (hJ : b_JF K) {R : BRw} {d pc : Nat} {bl : BL} {bs : List BV} {v x base : BV} {i : Instr} {gg : Nat} {row : BR} {ty : BT} {mc ms : Nat} (hi : a_ins R.1 pc = some (i, 1)) (hr : b_row K G.1 base = some (gg, row)) (hc : row.2.2.1 = 1 ∧ b_asv i row.1 G.1 v = true ∧ b_inb G row base x = true ∧ K.2.2.1.contains (gg, 0) = false) (hty : b_ty row 0 = some ty) (hfit : b_fit G.1 v ty = true) (hN : R.2.2.1.2.1.length ≤ G.1.length) (hW : R.2.2.2.1.contains (gg, 0) = true) (g : b_G K ν h h G) (k : ∀ (a n t : Nat) (vs : List Value) (w : Value), b_r G.1.length ν base a → b_i G.1.length ν x (n : Int) → b_v G.1.length ν v w → h[a]? = some (t, vs) → n < vs.length → b_G K ν h (h.set a (t, vs.set n w)) (b_put K G (gg, 0) base x v) → b_gd K R d (pc + 1) bl bs G.1.length ν (h.set a (t, vs.set n w)) mc ms) : b_gd K R d pc bl (v :: x :: base :: bs) G.1.length ν h mc ms := by
  intro al st hl hs
  obtain ⟨c1, c2, c3, c7⟩ := hc
  obtain ⟨w, st1, rfl, h1, h2⟩ := hs.inv
  obtain ⟨v2, st2, rfl, h4, h5⟩ := h2.inv
  obtain ⟨v3, st', rfl, h6, h7⟩ := h5.inv
  obtain ⟨a, vs, rfl, ha, z1, z2, m1, m2, m3⟩ := g.2.2.2.2.1.at g.1 h6 hr
  have m1 : h[a]? = some (row.1, vs) := m1
  have m2 : row.2.2.1 ≠ 2 → vs.length = row.2.1 := m2
  have hx : x.1 < 2 := by
    unfold b_inb at c3
    rw [Bool.and_eq_true, decide_eq_true_eq] at c3
    exact c3.1
  obtain ⟨j, rfl, hj⟩ := h4.int hx
  obtain ⟨i1, i2⟩ := b_inb_ok g ha m1 m2 hj c3
  obtain ⟨k1, k2, k3⟩ := b_ix_ok i1 i2
  have hI := b_asvI c2
  have e := b_st4A (own := a_own R.1) (ini := a_ini R.1) (pc := pc) (al := al) (st := st') hI m1 (b_asv_ok g.1 h1 c2) k1
  have n0 : row.2.2.1 ≠ 0 := by omega
  have g' := b_put_ok hJ g ha m1 (by rw [k3]; exact hj) k2 h1 (b_keyA z1 z2 n0) c7 (fun g' row' ty' y1 y2 y3 => by
    rw [z1] at y1
    cases y1
    rw [z2] at y2
    cases y2
    have y3 : b_ty row _ = some ty' := y3
    rw [b_tyA n0, hty] at y3
    cases y3
    exact b_fit_ok g.1 h1 hfit)
  obtain ⟨r, r1, r2⟩ := k a _ _ vs w ha (by rw [k3]; exact hj) h1 m1 k2 g' al st' hl h7
  refine ⟨r, ?_, r2.cut (W := [(gg, 0)]) ?_ (fun w hw => ?_)⟩
  · have hlen : 1 = a_len i := by rcases hI with rfl | rfl | rfl | rfl | rfl <;> rfl
    refine b_R.stp hi ?_ ?_ ?_ (a_by4 hlen e) r1
    · rcases hI with rfl | rfl | rfl | rfl | rfl <;> rfl
    · rcases hI with rfl | rfl | rfl | rfl | rfl <;> rfl
    · rcases hI with rfl | rfl | rfl | rfl | rfl <;> rfl
  · have f := b_frm.put (v := w) (b_frm.rf (K := K) (h := h)) m1 (b_keyA (k := j.toNatClampNeg) z1 z2 n0)
    simpa using f
  · simp only [List.mem_cons, List.not_mem_nil, or_false] at hw
    rw [hw]
    simpa using hW
theorem c_at_set {a n t : Nat} {vs : List Value} {w : Value} (h1 : h[a]? = some (t, vs)) (hn : n < vs.length) (a' j : Nat) : c_at (h.set a (t, vs.set n w)) a' j = if a' = a ∧ j = n then some w else c_at h a' j := by
  unfold c_at
  have hal := (List.getElem?_eq_some_iff.mp h1).1
  by_cases e : a' = a
  · subst e
    rw [List.getElem?_set_self hal, h1]
    show (vs.set n w)[j]? = _
    by_cases e2 : j = n
    · subst e2
      rw [if_pos ⟨rfl, rfl⟩, List.getElem?_set_self hn]
    · rw [if_neg (fun q => e2 q.2), List.getElem?_set_ne (Ne.symm e2)]
      rfl
  · rw [if_neg (fun q => e q.1), List.getElem?_set_ne (Ne.symm e)]
end HV
/-! Counts -/
noncomputable def c_cnt (p : Nat → Prop) : Nat → Nat
  | 0 => 0
  | n + 1 => c_cnt p n + @ite Nat (p n) (Classical.propDecidable (p n)) 1 0
theorem c_cnt_s {p : Nat → Prop} {n : Nat} : (p n → c_cnt p (n + 1) = c_cnt p n + 1) ∧ (¬ p n → c_cnt p (n + 1) = c_cnt p n) := by
  refine ⟨fun h => ?_, fun h => ?_⟩
  · show c_cnt p n + _ = _
    rw [if_pos h]
  · show c_cnt p n + _ = _
    rw [if_neg h, Nat.add_zero]
theorem c_cnt_up {p : Nat → Prop} {n : Nat} : c_cnt p n ≤ c_cnt p (n + 1) := Nat.le_add_right _ _
theorem c_cnt_mono {p : Nat → Prop} {n : Nat} : ∀ {m : Nat}, n ≤ m → c_cnt p n ≤ c_cnt p m
  | 0, h => by rw [Nat.le_zero.mp h]; exact Nat.le_refl _
  | m + 1, h => by
    rcases Nat.lt_or_ge n (m + 1) with q | q
    · exact Nat.le_trans (c_cnt_mono (Nat.le_of_lt_succ q)) c_cnt_up
    · rw [Nat.le_antisymm h q]; exact Nat.le_refl _
theorem c_cnt_le {p q : Nat → Prop} : ∀ {n : Nat}, (∀ k, k < n → p k → q k) → c_cnt p n ≤ c_cnt q n
  | 0, _ => Nat.le_refl _
  | n + 1, h => by
    have ih := c_cnt_le (p := p) (q := q) (n := n) (fun k hk => h k (Nat.lt_succ_of_lt hk))
    by_cases e : p n
    · rw [c_cnt_s.1 e, c_cnt_s.1 (h n (Nat.lt_succ_self _) e)]
      exact Nat.succ_le_succ ih
    · rw [c_cnt_s.2 e]
      exact Nat.le_trans ih c_cnt_up
/-- all but one place -/
theorem c_cnt_one {p q : Nat → Prop} {m : Nat} : ∀ {n : Nat}, (∀ k, k < n → k ≠ m → p k → q k) → c_cnt p n ≤ c_cnt q n + 1
  | 0, _ => Nat.zero_le _
  | n + 1, h => by
    by_cases e : n = m
    · have ih : c_cnt p n ≤ c_cnt q n := c_cnt_le fun k hk => h k (Nat.lt_succ_of_lt hk) (by omega)
      have := c_cnt_up (p := q) (n := n)
      by_cases e2 : p n
      · rw [c_cnt_s.1 e2]; omega
      · rw [c_cnt_s.2 e2]; omega
    · have ih := c_cnt_one (p := p) (q := q) (m := m) (n := n) (fun k hk => h k (Nat.lt_succ_of_lt hk))
      by_cases e2 : p n
      · rw [c_cnt_s.1 e2, c_cnt_s.1 (h n (Nat.lt_succ_self _) e e2)]; omega
      · rw [c_cnt_s.2 e2]
        have := c_cnt_up (p := q) (n := n)
        omega
theorem c_cnt_lt {p q : Nat → Prop} {m : Nat} : ∀ {n : Nat}, m < n → q m → ¬ p m → (∀ k, k < n → p k → q k) → c_cnt p n < c_cnt q n
  | 0, h, _, _, _ => absurd h (Nat.not_lt_zero _)
  | n + 1, h, h1, h2, h3 => by
    rcases Nat.lt_or_ge m n with a | a
    · have ih := c_cnt_lt a h1 h2 (fun k hk => h3 k (Nat.lt_succ_of_lt hk))
      by_cases e : p n
      · rw [c_cnt_s.1 e, c_cnt_s.1 (h3 n (Nat.lt_succ_self _) e)]; omega
      · rw [c_cnt_s.2 e]
        have := c_cnt_up (p := q) (n := n)
        omega
    · have e : m = n := by omega
      subst e
      rw [c_cnt_s.2 h2, c_cnt_s.1 h1]
      exact Nat.lt_succ_of_le (c_cnt_le fun k hk => h3 k (Nat.lt_succ_of_lt hk))
theorem c_cnt_pos {p : Nat → Prop} : ∀ {n : Nat}, 0 < c_cnt p n → ∃ k, k < n ∧ p k
  | 0, h => absurd h (Nat.not_lt_zero _)
  | n + 1, h => by
    by_cases e : p n
    · exact ⟨n, Nat.lt_succ_self _, e⟩
    · rw [c_cnt_s.2 e] at h
      obtain ⟨k, k1, k2⟩ := c_cnt_pos h
      exact ⟨k, Nat.lt_succ_of_lt k1, k2⟩
theorem c_cnt_bd {p : Nat → Prop} : ∀ {n : Nat}, c_cnt p n ≤ n
  | 0 => Nat.le_refl _
  | n + 1 => by
    have := c_cnt_bd (p := p) (n := n)
    by_cases e : p n
    · rw [c_cnt_s.1 e]; omega
    · rw [c_cnt_s.2 e]; omega
section HW
variable {K : BH} {ν : BN} {h0 h : AH} {G : BG}
theorem b_al.c {P : BSo → Prop} {p : BSo} {l : List BSo} (h : P p) (t : b_al P l) : b_al P (p :: l) := ⟨h, t⟩
theorem b_al.n {P : BSo → Prop} : b_al P [] := trivial
theorem b_pq.to {R : BRw} {d : Nat} {p : BSo} {N mc ms pc : Nat} {bl : BL} {bs : List BV} (hp : p.1 = .inr (pc, bl, bs)) (k : b_gd K R d pc bl bs N ν h (mc + p.2.2.1) (ms + p.2.2.2)) : b_pq K R d p N ν h mc ms := by
  unfold b_pq
  rw [hp]
  exact k
/-- nothing but the symbols -/
theorem b_G.bare (g : b_G K ν h0 h G) : b_G K ν h h (G.1, [], [], [], []) := ⟨g.1, (fun f hf => by cases hf), (fun f hf => by cases hf), (fun f hf => by cases hf), g.2.2.2.2.1, b_frm.rf⟩
/-- less is known -/
def b_wkc (G G' : BG) : Bool := decide (G'.1 = G.1) && (G'.2.1.all (fun f => G.2.1.contains f) && G'.2.2.1.all (fun c => G.2.2.1.contains c))
theorem b_G.wk (g : b_G K ν h0 h G) {E : BQ} {F : BF} {C : BC} (hk : b_wkc G (E, F, C, [], []) = true) : b_G K ν h h (E, F, C, [], []) := by
  unfold b_wkc at hk
  simp only [Bool.and_eq_true, decide_eq_true_eq] at hk
  obtain ⟨k1, k2, k3⟩ := hk
  have k1 : E = G.1 := k1
  subst k1
  exact ⟨g.1, fun f hf => g.2.1 f (by simpa using List.all_eq_true.mp k2 f hf), fun c hc => g.2.2.1 c (by simpa using List.all_eq_true.mp k3 c hc), (fun o ho => by cases ho), g.2.2.2.2.1, b_frm.rf⟩
/-- with more symbols -/
theorem b_gd.more {R : BRw} {d pc : Nat} {bl : BL} {bs : List BV} {N N' : Nat} {ν' : BN} {mc ms : Nat} (x : b_ext N N' ν ν') (hN : R.2.2.1.2.1.length ≤ N) (k : b_gd K R d pc bl bs N' ν' h mc ms) : b_gd K R d pc bl bs N ν h mc ms := fun al st hl hs => by
  obtain ⟨r, r1, r2⟩ := k al st (hl.ext x) (hs.ext x)
  exact ⟨r, r1, r2.ext (N := N') ⟨Nat.le_trans hN x.1, fun n hn => x.2 n (Nat.lt_of_lt_of_le hn hN)⟩⟩
theorem b_gd.valid {R : BRw} {d : Nat} (hd : R.2.1 = d + 1) (ha : b_argOK R.1 R.2.2.1.1 = true) (hr : ∀ (ν : BN) (h : AH), b_G K ν h h (b_pre R) → b_gd K R d 0 (b_args R.1 R.2.2.1.1) [] (b_pre R).1.length ν h 0 0) : b_valid K R := b_valid_of hd ha fun ν h al hl g => hr ν h g al [] hl b_S.nil
theorem b_i.s {N n : Nat} {k : Int} (h : n < N) : b_i N ν (1, n, k) (ν n + k) := Or.inr ⟨rfl, h, rfl⟩
theorem b_i.v {N n : Nat} {k z : Int} (h : b_i N ν (1, n, k) z) : z = ν n + k := by
  rcases h with ⟨e, -⟩ | ⟨-, -, e⟩
  · cases e
  · exact e
theorem b_i.k {N n : Nat} {k z : Int} (h : b_i N ν (0, n, k) z) : z = k := by
  rcases h with ⟨-, e⟩ | ⟨e, -⟩
  · exact e
  · cases e
theorem b_r.k {N a b : Nat} {z : Int} (h : b_r N ν (2, a, z) b) : b = a := by
  rcases h with ⟨-, e⟩ | ⟨e, -⟩
  · exact e
  · cases e
theorem b_r.v {N n b : Nat} {z : Int} (h : b_r N ν (3, n, z) b) : (b : Int) = ν n := by
  rcases h with ⟨e, -⟩ | ⟨-, -, e⟩
  · cases e
  · exact e
theorem b_r.s {N n b : Nat} {z : Int} (hn : n < N) (h : (b : Int) = ν n) : b_r N ν (3, n, z) b := Or.inr ⟨rfl, hn, h⟩
theorem b_co.v {N a b : Nat} {c : Int} (h : b_co N ν (a, b, c)) : ν a ≤ ν b + c := h.2.2
theorem b_G.co (g : b_G K ν h0 h G) {a b : Nat} {c : Int} (hm : G.2.2.1.contains (a, b, c) = true) : ν a ≤ ν b + c := (g.2.2.1 (a, b, c) (by simpa using hm)).2.2
theorem b_G.fa (g : b_G K ν h0 h G) (f : BV × BV × BV) (hm : G.2.1.contains f = true) : b_fa G.1.length ν h f := g.2.1 f (by simpa using hm)
theorem b_G.iv (g : b_G K ν h0 h G) (n : Nat) {lo hi : Int} (hm : G.1[n]? = some (0, lo, hi)) : lo ≤ ν n ∧ ν n ≤ hi := g.1.iv hm
/-- an int fact at a known array -/
theorem b_G.rd (g : b_G K ν h0 h G) {a n m : Nat} {k k' : Int} (hm : G.2.1.contains ((2, a, 0), (1, n, k), (1, m, k')) = true) {j : Nat} (hj : (j : Int) = ν n + k) : ∃ x : Int32, c_at h a j = some (.int x) ∧ x.toInt = ν m + k' := by
  have f := g.fa _ hm
  obtain ⟨b, i, -, q⟩ := f.ne9 (by show 1 < 2; decide)
  obtain ⟨x, x1, x2⟩ := f.atI (a := a) (j := j) (Or.inl ⟨rfl, rfl⟩) (by rw [hj, ← q.v]; exact q) (by show 1 < 2; decide)
  exact ⟨x, x1, x2.v⟩
/-- an int fact at a row -/
theorem b_G.rd2 (g : b_G K ν h0 h G) {p n m : Nat} {k k' : Int} (hm : G.2.1.contains ((3, p, 0), (1, n, k), (1, m, k')) = true) {j : Nat} (hj : (j : Int) = ν n + k) : ∃ (a : Nat) (x : Int32), (a : Int) = ν p ∧ c_at h a j = some (.int x) ∧ x.toInt = ν m + k' := by
  have f := g.fa _ hm
  obtain ⟨b, i, q0, q⟩ := f.ne9 (by show 1 < 2; decide)
  obtain ⟨x, x1, x2⟩ := f.atI (a := b) (j := j) q0 (by rw [hj, ← q.v]; exact q) (by show 1 < 2; decide)
  exact ⟨b, x, q0.v, x1, x2.v⟩
/-- a field of a known object -/
theorem b_G.rdF (g : b_G K ν h0 h G) {a j m : Nat} {k' : Int} (hm : G.2.1.contains ((2, a, 0), (0, 0, (j : Int)), (1, m, k')) = true) : ∃ x : Int32, c_at h a j = some (.int x) ∧ x.toInt = ν m + k' := by
  obtain ⟨x, x1, x2⟩ := (g.fa _ hm).atI (a := a) (j := j) (Or.inl ⟨rfl, rfl⟩) (Or.inl ⟨rfl, rfl⟩) (by show 1 < 2; decide)
  exact ⟨x, x1, x2.v⟩
/-- a reference in a known array -/
theorem b_G.rdA (g : b_G K ν h0 h G) {a n m : Nat} {k : Int} (hm : G.2.1.contains ((2, a, 0), (1, n, k), (3, m, 0)) = true) {j : Nat} (hj : (j : Int) = ν n + k) : ∃ b : Nat, c_at h a j = some (.ref b) ∧ (b : Int) = ν m := by
  have f := g.fa _ hm
  obtain ⟨b, i, -, q⟩ := f.ne9 (by show 1 < 2; decide)
  obtain ⟨x, x1, x2⟩ := f.atR (a := a) (j := j) (Or.inl ⟨rfl, rfl⟩) (by rw [hj, ← q.v]; exact q) (Or.inr rfl)
  exact ⟨x, x1, x2.v⟩
end HW
section HX
variable {K : BH} {ν : BN} {h0 h : AH} {G : BG}
/-- more symbols, with what is known of them -/
def b_satL (K : BH) (ν : BN) : Nat → BQ → Prop
  | _, [] => True
  | N, q :: l => b_q K q (ν N) ∧ b_satL K ν (N + 1) l
def b_faL (N : Nat) (ν : BN) (h : AH) : BF → Prop
  | [] => True
  | f :: l => b_fa N ν h f ∧ b_faL N ν h l
def b_coL (N : Nat) (ν : BN) : BC → Prop
  | [] => True
  | c :: l => b_co N ν c ∧ b_coL N ν l
theorem b_satL.at : ∀ {E : BQ} {N : Nat}, b_satL K ν N E → ∀ (n : Nat) (q : Nat × Int × Int), E[n]? = some q → b_q K q (ν (N + n))
  | [], _, _, n, q, hq => by cases hq
  | p :: E, N, h, 0, q, hq => by cases hq; exact h.1
  | p :: E, N, h, n + 1, q, hq => by
    have := b_satL.at h.2 n q hq
    rw [show N + (n + 1) = N + 1 + n by omega]
    exact this
theorem b_faL.at {N : Nat} : ∀ {F : BF}, b_faL N ν h F → ∀ f ∈ F, b_fa N ν h f
  | [], _, f, hf => by cases hf
  | p :: F, h, f, hf => (List.mem_cons.mp hf).elim (fun e => by rw [e]; exact h.1) (b_faL.at h.2 f)
theorem b_coL.at {N : Nat} : ∀ {F : BC}, b_coL N ν F → ∀ f ∈ F, b_co N ν f
  | [], _, f, hf => by cases hf
  | p :: F, h, f, hf => (List.mem_cons.mp hf).elim (fun e => by rw [e]; exact h.1) (b_coL.at h.2 f)
theorem b_G.ad (g : b_G K ν h0 h G) {ν' : BN} {E' : BQ} {F' : BF} {C' : BC} (hx : ∀ n, n < G.1.length → ν' n = ν n) (hE : b_satL K ν' G.1.length E') (hF : b_faL (G.1 ++ E').length ν' h F') (hC : b_coL (G.1 ++ E').length ν' C') : b_G K ν' h h (G.1 ++ E', F' ++ G.2.1, C' ++ G.2.2.1, [], []) := by
  have x : b_ext G.1.length (G.1 ++ E').length ν ν' := ⟨by rw [List.length_append]; exact Nat.le_add_right _ _, hx⟩
  refine ⟨fun n q hq => ?_, fun f hf => ?_, fun c hc => ?_, (fun o ho => by cases ho), g.2.2.2.2.1, b_frm.rf⟩
  · have hq : (G.1 ++ E')[n]? = some q := hq
    rcases Nat.lt_or_ge n G.1.length with a | a
    · rw [List.getElem?_append_left a] at hq
      rw [hx n a]
      exact g.1 n q hq
    · rw [List.getElem?_append_right a] at hq
      have := hE.at _ q hq
      rw [show G.1.length + (n - G.1.length) = n by omega] at this
      exact this
  · rcases List.mem_append.mp hf with a | a
    · exact hF.at f a
    · exact (g.2.1 f a).ext x
  · rcases List.mem_append.mp hc with a | a
    · exact hC.at c a
    · exact (g.2.2.1 c a).ext x
theorem b_q.i {z lo hi : Int} (h1 : lo ≤ z) (h2 : z ≤ hi) : b_q K (0, lo, hi) z := by unfold b_q; rw [if_pos rfl]; exact ⟨h1, h2⟩
theorem b_q.r {a g : Nat} (h : K.1 a = some g) : b_q K (g + 1, 0, 0) (a : Int) := by unfold b_q; rw [if_neg (Nat.succ_ne_zero _)]; exact ⟨a, rfl, fun _ => h⟩
theorem b_q.r0 {a g : Nat} : b_q K (g + 1, 1, 0) (a : Int) := by unfold b_q; rw [if_neg (Nat.succ_ne_zero _)]; exact ⟨a, rfl, fun e => absurd e (by show ¬ (1 : Int) = 0; decide)⟩
theorem b_frm.k {W : BW} {h' : AH} (f : b_frm K W h h') (H : b_H K h) {a g : Nat} {row : BR} (h1 : K.1 a = some g) (h2 : K.2.1 g = some row) (h3 : row.2.2.1 ≠ 0) (hW : W.contains (g, 0) = false) (j : Nat) : c_at h' a j = c_at h a j := f.keep h1 h2 h3 hW (H.has h1 h2)
theorem b_frm.kF {W : BW} {h' : AH} (f : b_frm K W h h') (H : b_H K h) {a g : Nat} {row : BR} (h1 : K.1 a = some g) (h2 : K.2.1 g = some row) (h3 : row.2.2.1 = 0) {j : Nat} (hW : W.contains (g, j) = false) : c_at h' a j = c_at h a j := f.keepF h1 h2 h3 hW (H.has h1 h2)
end HX
section HY
variable {K : BH} {ν : BN} {h0 h : AH} {G : BG}
/-- a store at a place that stays for the programs -/
theorem b_putP_ok (g : b_G K ν h0 h G) {base slot : BV} {a n t : Nat} {vs : List Value} {b : BV} {v : Value} {w : Nat × Nat} (hb : b_r G.1.length ν base a) (ha : h[a]? = some (t, vs)) (hs : b_i G.1.length ν slot n) (hn : n < vs.length) (hbv : b_v G.1.length ν b v) (hk : b_key K a n = some w) (hJ : K.2.2.2 (h.set a (t, vs.set n v))) (hv : ∀ g row ty, K.1 a = some g → K.2.1 g = some row → b_ty row n = some ty → b_st K ty v) : b_G K ν h0 (h.set a (t, vs.set n v)) (b_put K G w base slot b) := by
  have s9 : ¬ slot.1 = 9 := by rcases hs with ⟨e, -⟩ | ⟨e, -⟩ <;> omega
  have hal := (List.getElem?_eq_some_iff.mp ha).1
  refine ⟨g.1, fun f hf => ?_, g.2.2.1, g.2.2.2.1, ⟨g.2.2.2.2.1.1.put ha hv, hJ⟩, g.2.2.2.2.2.put ha hk⟩
  have hf : f ∈ (if b.1 < 2 ∨ 6 < b.1 then [(base, slot, b)] else []) ++ G.2.1.filter (fun f => b_kp K G.1 w f || b_dif G base slot f) := hf
  rcases List.mem_append.mp hf with q | q
  · split at q
    · simp only [List.mem_cons, List.not_mem_nil, or_false] at q
      subst q
      exact ⟨a, t, vs.set n v, hb, List.getElem?_set_self hal, by rw [if_neg (show ¬ (base, slot, b).2.1.1 = 9 from s9)]; exact ⟨n, v, hs, List.getElem?_set_self hn, hbv⟩⟩
    · cases q
  · obtain ⟨q1, q2⟩ := List.mem_filter.mp q
    have q2 : (b_kp K G.1 w f || b_dif G base slot f) = true := q2
    rw [Bool.or_eq_true] at q2
    rcases q2 with q2 | q2
    case inr => exact b_dif_ok g (g.2.1 f q1) hb ha hs q2
    refine b_kp_ok g (g.2.1 f q1) q2 (fun a' t' vs' h' => ?_)
    by_cases e : a' = a
    · subst e
      rw [ha] at h'
      cases h'
      refine ⟨vs.set n v, List.getElem?_set_self hal, List.length_set .., fun j hj => ?_⟩
      have hnj : ¬ n = j := fun q => by subst q; exact hj hk
      rw [List.getElem?_set_ne hnj]
    · exact ⟨vs', by rw [List.getElem?_set_ne (Ne.symm e)]; exact h', rfl, fun _ _ => rfl⟩
theorem b_gd.putP {R : BRw} {d pc : Nat} {bl : BL} {bs : List BV} {v x base : BV} {i : Instr} {gg : Nat} {row : BR} {ty : BT} {mc ms : Nat} (hi : a_ins R.1 pc = some (i, 1)) (hr : b_row K G.1 base = some (gg, row)) (hc : row.2.2.1 = 1 ∧ b_asv i row.1 G.1 v = true ∧ b_inb G row base x = true) (hty : b_ty row 0 = some ty) (hfit : b_fit G.1 v ty = true) (hN : R.2.2.1.2.1.length ≤ G.1.length) (hW : R.2.2.2.1.contains (gg, 0) = true) (g : b_G K ν h h G) (hJ : ∀ (a n t : Nat) (vs : List Value) (w : Value), b_r G.1.length ν base a → b_i G.1.length ν x (n : Int) → b_v G.1.length ν v w → h[a]? = some (t, vs) → n < vs.length → K.2.2.2 (h.set a (t, vs.set n w))) (k : ∀ (a n t : Nat) (vs : List Value) (w : Value), b_r G.1.length ν base a → b_i G.1.length ν x (n : Int) → b_v G.1.length ν v w → h[a]? = some (t, vs) → n < vs.length → b_G K ν h (h.set a (t, vs.set n w)) (b_put K G (gg, 0) base x v) → b_gd K R d (pc + 1) bl bs G.1.length ν (h.set a (t, vs.set n w)) mc ms) : b_gd K R d pc bl (v :: x :: base :: bs) G.1.length ν h mc ms := by
  intro al st hl hs
  obtain ⟨c1, c2, c3⟩ := hc
  obtain ⟨w, st1, rfl, h1, h2⟩ := hs.inv
  obtain ⟨v2, st2, rfl, h4, h5⟩ := h2.inv
  obtain ⟨v3, st', rfl, h6, h7⟩ := h5.inv
  obtain ⟨a, vs, rfl, ha, z1, z2, m1, m2, m3⟩ := g.2.2.2.2.1.at g.1 h6 hr
  have m1 : h[a]? = some (row.1, vs) := m1
  have m2 : row.2.2.1 ≠ 2 → vs.length = row.2.1 := m2
  have hx : x.1 < 2 := by
    unfold b_inb at c3
    rw [Bool.and_eq_true, decide_eq_true_eq] at c3
    exact c3.1
  obtain ⟨j, rfl, hj⟩ := h4.int hx
  obtain ⟨i1, i2⟩ := b_inb_ok g ha m1 m2 hj c3
  obtain ⟨k1, k2, k3⟩ := b_ix_ok i1 i2
  have hI := b_asvI c2
  have e := b_st4A (own := a_own R.1) (ini := a_ini R.1) (pc := pc) (al := al) (st := st') hI m1 (b_asv_ok g.1 h1 c2) k1
  have n0 : row.2.2.1 ≠ 0 := by omega
  have kj : b_i G.1.length ν x (j.toNatClampNeg : Int) := by rw [k3]; exact hj
  have g' := b_putP_ok g ha m1 kj k2 h1 (b_keyA z1 z2 n0) (hJ a _ _ vs w ha kj h1 m1 k2) (fun g' row' ty' y1 y2 y3 => by
    rw [z1] at y1
    cases y1
    rw [z2] at y2
    cases y2
    have y3 : b_ty row _ = some ty' := y3
    rw [b_tyA n0, hty] at y3
    cases y3
    exact b_fit_ok g.1 h1 hfit)
  obtain ⟨r, r1, r2⟩ := k a _ _ vs w ha kj h1 m1 k2 g' al st' hl h7
  refine ⟨r, ?_, r2.cut (W := [(gg, 0)]) ?_ (fun w hw => ?_)⟩
  · have hlen : 1 = a_len i := by rcases hI with rfl | rfl | rfl | rfl | rfl <;> rfl
    refine b_R.stp hi ?_ ?_ ?_ (a_by4 hlen e) r1
    · rcases hI with rfl | rfl | rfl | rfl | rfl <;> rfl
    · rcases hI with rfl | rfl | rfl | rfl | rfl <;> rfl
    · rcases hI with rfl | rfl | rfl | rfl | rfl <;> rfl
  · have f := b_frm.put (v := w) (b_frm.rf (K := K) (h := h)) m1 (b_keyA (k := j.toNatClampNeg) z1 z2 n0)
    simpa using f
  · simp only [List.mem_cons, List.not_mem_nil, or_false] at hw
    rw [hw]
    simpa using hW
end HY
/-! What is known of the places that stay: stores by hand -/
theorem c_Ja_set {h : AH} (J : c_Ja h) {a : Nat} {c : AC} (h1 : a < 494) : c_Ja (h.set a c) := by
  obtain ⟨⟨t0, q1⟩, ⟨xB, q2⟩, q3, q4⟩ := J
  have hw : ∀ s b, c_wr[s]? = some b → 494 < b := fun s b e => by
    have := List.all_eq_true.mp (show (c_wr.all fun b => decide (494 < b)) = true by decide +kernel) b (List.mem_of_getElem? e)
    exact of_decide_eq_true this
  refine ⟨⟨t0, by rw [List.getElem?_set_ne (by omega)]; exact q1⟩, ⟨xB, by rw [List.getElem?_set_ne (by omega)]; exact q2⟩, fun b hb => ?_, fun s' b t1 t2 ms ws' n' hs' hB hn hb i j hij hj => ?_⟩
  · obtain ⟨s, e⟩ := List.mem_iff_getElem?.mp hb
    have := hw s b e
    rw [List.getElem?_set_ne (by omega)]
    exact q3 b hb
  · have := hw s' b hs'
    rw [List.getElem?_set_ne (by omega)] at hB hb
    exact q4 s' b t1 t2 ms ws' n' hs' hB hn hb i j hij hj
theorem c_Ja_setL {h : AH} (J : c_Ja h) {a : Nat} {c : AC} (h1 : 555 < a) : c_Ja (h.set a c) := by
  obtain ⟨⟨t0, q1⟩, ⟨xB, q2⟩, q3, q4⟩ := J
  have hw : ∀ s b, c_wr[s]? = some b → b < 555 := fun s b e => by
    have := List.all_eq_true.mp (show (c_wr.all fun b => decide (b < 555)) = true by decide +kernel) b (List.mem_of_getElem? e)
    exact of_decide_eq_true this
  refine ⟨⟨t0, by rw [List.getElem?_set_ne (by omega)]; exact q1⟩, ⟨xB, by rw [List.getElem?_set_ne (by omega)]; exact q2⟩, fun b hb => ?_, fun s' b t1 t2 ms ws' n' hs' hB hn hb i j hij hj => ?_⟩
  · obtain ⟨s, e⟩ := List.mem_iff_getElem?.mp hb
    have := hw s b e
    rw [List.getElem?_set_ne (by omega)]
    exact q3 b hb
  · have := hw s' b hs'
    rw [List.getElem?_set_ne (by omega)] at hB hb
    exact q4 s' b t1 t2 ms ws' n' hs' hB hn hb i j hij hj
theorem c_Jb_set {h : AH} (J : c_Jb h) {a : Nat} {c : AC} (h1 : a ≠ 365) (h2 : a ≠ 769) : c_Jb (h.set a c) := by
  obtain ⟨⟨x, q1⟩, ⟨y, q2⟩, q3⟩ := J
  refine ⟨⟨x, by rw [List.getElem?_set_ne h1]; exact q1⟩, ⟨y, by rw [List.getElem?_set_ne h2]; exact q2⟩, fun t t2 ms ls n f e1 e2 e3 e4 => ?_⟩
  rw [List.getElem?_set_ne h1] at e1
  rw [List.getElem?_set_ne h2] at e3
  exact q3 t t2 ms ls n f e1 e2 e3 e4
/-- a store among the films that are left -/
theorem c_J_left {h : AH} (J : c_J h) {t n : Nat} {vs : List Value} {v : Value} (ha : h[769]? = some (t, vs)) (hv : v = .int 1 → ∀ f : Int32, c_at h 365 44 = some (.int f) → (n : Int) < f.toInt) : c_J (h.set 769 (t, vs.set n v)) := by
  have lt := (List.getElem?_eq_some_iff.mp ha).1
  refine ⟨c_Ja_setL J.1 (by decide), ?_⟩
  obtain ⟨⟨x, q1⟩, -, q3⟩ := J.2
  refine ⟨⟨x, by rw [List.getElem?_set_ne (by decide)]; exact q1⟩, ⟨_, List.getElem?_set_self lt⟩, fun t1 t2 ms ls m f e1 e2 e3 e4 => ?_⟩
  rw [List.getElem?_set_ne (by decide)] at e1
  rw [List.getElem?_set_self lt] at e3
  cases e3
  by_cases e : f = n
  · subst e
    rw [List.getElem?_set] at e4
    split at e4
    · split at e4
      · cases e4
        exact hv rfl m (c_at_of e1 e2)
      · cases e4
    · rename_i c
      exact absurd rfl c
  · rw [List.getElem?_set_ne (Ne.symm e)] at e4
    exact q3 t1 t ms vs m f e1 e2 ha e4
theorem c_J_left0 {h : AH} (J : c_J h) {t n : Nat} {vs : List Value} {v : Value} (ha : h[769]? = some (t, vs)) (hv : v ≠ .int 1) : c_J (h.set 769 (t, vs.set n v)) := c_J_left J ha fun e => absurd e hv
/-- no film is left that there is not -/
theorem c_J_lt {h : AH} (J : c_J h) {n : Int32} {f : Nat} (e1 : c_at h 365 44 = some (.int n)) (e2 : c_at h 769 f = some (.int 1)) : (f : Int) < n.toInt := by
  obtain ⟨⟨x, q1⟩, ⟨y, q2⟩, q3⟩ := J.2
  unfold c_at at e1 e2
  rw [q1] at e1
  rw [q2] at e2
  exact q3 x.1 y.1 x.2 y.2 n f q1 e1 q2 e2
