/-! part 72.law -/
section
/-! The law's run as a whole -/
theorem b_R.up {d k mi pc mc ms : Nat} {al : AL} {st : List Value} {h : AH} {r : AR} (hr : b_R d mi pc al st h mc ms r) : b_R (d + k) mi pc al st h mc ms r := by
  obtain ⟨f, hf⟩ := hr
  exact ⟨f + 0, b_up (fun mt as h r q => b_lim_up q) f 0 _ _ _ _ _ _ r hf⟩
theorem b_R.run {d mi pc mc ms : Nat} {al : AL} {st : List Value} {h : AH} {r : AR} (hr : b_R d mi pc al st h mc ms r) : ∃ F, a_go (a_run d F) mi F pc al st h mc ms = some r := by
  obtain ⟨f, hf⟩ := hr
  obtain ⟨F, hF⟩ := b_go_lim f _ _ _ _ _ _ r hf
  refine ⟨F + f, ?_⟩
  have := b_up (c1 := a_run d F) (c2 := a_run d (F + f)) (fun mt as h r q => b_run_up d 0 F f mt as h r q) f F _ _ _ _ _ _ r hF
  rwa [Nat.add_comm f F] at this
theorem c_F28e : c_F28 = [((2, 0, 0), (9, 0, 0), (1, 1, 0))] := rfl
theorem c_hourF {ν : BN} {vs : List Value} {b n s k : Nat} (hn : n + 1 = b) (hk : k < 2) (h2 : ν k = 0) (k1 : (c_h0[n]?).map (fun c => c.2[s]?) = some (some (.int 0))) : b_fa 2 ν ((19, vs) :: c_h0) ((2, b, 0), (0, 0, (s : Int)), (1, k, 0)) := by
  rw [Option.map_eq_some_iff] at k1
  obtain ⟨c, k1, k2⟩ := k1
  obtain ⟨t, us⟩ := c
  subst hn
  refine ⟨n + 1, t, us, Or.inl ⟨rfl, rfl⟩, (c_cons (n := n)).trans k1, ?_⟩
  rw [if_neg (show ¬ (0 : Nat) = 9 by decide)]
  exact ⟨s, _, Or.inl ⟨rfl, rfl⟩, k2, Or.inr ⟨rfl, hk, by show (0 : Int32).toInt = ν k + 0; rw [h2]; decide⟩⟩
theorem c_law (hv : ∀ q ∈ c_lawL, ∀ R ∈ q.2, b_valid c_K R) {vs : List Value} (hL : vs.length ≤ 3072) (h2 : ∀ v ∈ vs, ∃ x : Int32, v = .int x) : ∃ F r, a_go (a_run 13 F) 300 F 0 (a_args 300 [.ref 0]) [] [(19, vs)] 0 0 = some r ∧ r.1 = .inl (some (.int 1)) ∧ r.2.2.1 ≤ 603072 ∧ r.2.2.2 ≤ 7219306 := by
  generalize hν : (fun n => if n = 1 then (vs.length : Int) else 0 : BN) = ν
  have v0 : ν 0 = 0 := by rw [← hν]; rfl
  have v1 : ν 1 = vs.length := by rw [← hν]; rfl
  have hg : b_G c_K ν ((19, vs) :: c_h0) ((19, vs) :: c_h0) (c_E28, c_F28, [], [], []) := by
    refine ⟨fun n q hq => ?_, fun f hf => ?_, (fun f hf => by cases hf), (fun f hf => by cases hf), c_H0 h2, b_frm.rf⟩
    · have hq : ([(0, 0, 3072), (0, 0, 3072)] : BQ)[n]? = some q := hq
      match n, hq with
      | 0, hq => cases hq; unfold b_q; rw [if_pos rfl, v0]; decide
      | 1, hq => cases hq; unfold b_q; rw [if_pos rfl, v1]; dsimp only; omega
    · have hf : f ∈ c_F28 := hf
      rw [c_F28e] at hf
      simp only [List.mem_cons, List.not_mem_nil, or_false] at hf
      rcases hf with rfl
      · refine ⟨0, 19, vs, Or.inl ⟨rfl, rfl⟩, rfl, ?_⟩
        rw [if_pos rfl]
        exact Or.inr ⟨rfl, (by decide : 1 < 2), by show _ = ν 1 + 0; rw [v1]; omega⟩
  have hl : b_L c_E28.length ν c_bl28 (c_al0 (some (.ref 1)) (some (.ref 365)) (some (.ref 770)) (some (.ref 771)) (some (.int 0))) := by
    refine ⟨rfl, fun i b hb => ?_⟩
    have hb : ([some (2, 0, 0), some (2, 1, 0), some (2, 365, 0), some (2, 770, 0), some (2, 771, 0), some (1, 0, 0), none, none, none] : BL)[i]? = some (some b) := hb
    match i, hb with
    | 0, hb => cases hb; exact ⟨_, rfl, Or.inl ⟨rfl, rfl⟩⟩
    | 1, hb => cases hb; exact ⟨_, rfl, Or.inl ⟨rfl, rfl⟩⟩
    | 2, hb => cases hb; exact ⟨_, rfl, Or.inl ⟨rfl, rfl⟩⟩
    | 3, hb => cases hb; exact ⟨_, rfl, Or.inl ⟨rfl, rfl⟩⟩
    | 4, hb => cases hb; exact ⟨_, rfl, Or.inl ⟨rfl, rfl⟩⟩
    | 5, hb => cases hb; exact ⟨_, rfl, Or.inr ⟨rfl, (by decide : 0 < 2), by show (0 : Int32).toInt = ν 0 + 0; rw [v0]; decide⟩⟩
    | 6, hb => cases hb
    | 7, hb => cases hb
    | 8, hb => cases hb
    | i + 9, hb => cases hb
  obtain ⟨r, r1, r2, r3, r4⟩ := c_turn hv 3079 ν _ _ c_mc c_ms (by rw [v0, v1]; omega) hl hg
  obtain ⟨F, hF⟩ := (c_law0 (b_R.up (k := 1) r1)).run
  refine ⟨F, r, hF, z_one r1 r2, Nat.le_trans r3 (by unfold c_mc; omega), Nat.le_trans r4 ?_⟩
  have e : c_ms ≤ 20000 := by decide +kernel
  generalize c_ms = k at e
  omega
end
/-! part 73.set -/
section
/-! setAnywhere, where there is room for a show: -1 and no show more, or the new show's number and one show more -/
def c_r208 : BRw := (208, 5, ([(2, 365, 0), (1, 0, 0)], ([(0, 0, 19), (0, 0, 59)], [((2, 365, 0), (0, 0, 49), (1, 1, 0))], [])), [(50, 49), (50, 53), (77, 0), (78, 0), (79, 0), (106, 0), (107, 0)], [(.inl (some (0, 0, (-1))), ([], [((2, 365, 0), (0, 0, 49), (1, 1, 0))], []), (0, 0)), (.inl (some (1, 1, 0)), ([], [((2, 365, 0), (0, 0, 49), (1, 1, 1))], []), (0, 0))])
def c_c208 : List BCu := [(5, [some (2, 365, 0), some (1, 0, 0), some (1, 2, 0), none], ([(0, 0, 19), (0, 0, 59), (0, 0, 50)], [((2, 365, 0), (0, 0, 49), (1, 1, 0))], []), ([(2, (-11))], 550), none), (13, [some (2, 365, 0), some (1, 0, 0), some (1, 2, 0), some (1, 3, 0)], ([(0, 0, 19), (0, 0, 59), (0, 0, 49), (0, 0, 4)], [((2, 365, 0), (0, 0, 49), (1, 1, 0))], []), ([(2, (-11)), (3, (-2))], 548), none)]
/-- JuryreelModel.setAnywhere(I)I -/
theorem c_v208 : b_valid c_K c_r208 := b_chk_ok c_hJ (d := 4) (F := 3000) (R := c_r208) (cuts := c_c208) (b_orc_ok c_hJ (tab := [c_r206]) (List.forall_mem_cons.mpr ⟨c_v206, fun _ h => absurd h List.not_mem_nil⟩) 3000 4) rfl (by decide +kernel)
end
/-! part 74.hand -/
section
/-! Proofs by hand: a place of a method from which all goes well -/
section HV
variable {K : BH} {ν : BN} {h0 h : AH} {G : BG}
def b_gd (K : BH) (R : BRw) (d pc : Nat) (bl : BL) (bs : List BV) (N : Nat) (ν : BN) (h : AH) (mc ms : Nat) : Prop := ∀ (al : AL) (st : List Value), b_L N ν bl al → b_S N ν bs st → ∃ r, b_R d R.1 pc al st h mc ms r ∧ b_post K R ν h r
theorem b_post.ext {R : BRw} {ν ν' : BN} {N : Nat} {r : AR} (x : b_ext R.2.2.1.2.1.length N ν ν') (k : b_post K R ν' h r) : b_post K R ν h r := by
  obtain ⟨p, p1, ν2, y, q⟩ := k
  exact ⟨p, p1, ν2, ⟨y.1, fun n hn => (y.2 n hn).trans (x.2 n hn)⟩, q⟩
theorem b_G.here (g : b_G K ν h0 h G) : b_G K ν h h (G.1, G.2.1, G.2.2.1, [], []) := ⟨g.1, g.2.1, g.2.2.1, (fun o ho => by cases ho), g.2.2.2.2.1, b_frm.rf⟩
def b_al (P : BSo → Prop) : List BSo → Prop
  | [] => True
  | p :: l => P p ∧ b_al P l
theorem b_al_at {P : BSo → Prop} : ∀ {l : List BSo}, b_al P l → ∀ p ∈ l, P p
  | [], _, p, hp => by cases hp
  | q :: l, h, p, hp => (List.mem_cons.mp hp).elim (fun e => by rw [e]; exact h.1) (b_al_at h.2 p)
def b_pq (K : BH) (R : BRw) (d : Nat) (p : BSo) (N : Nat) (ν : BN) (h : AH) (mc ms : Nat) : Prop := match p.1 with
  | .inl k => ∀ r : AR, b_fin N ν k r.1 → r.2.1 = h → r.2.2 = (mc + p.2.2.1, ms + p.2.2.2) → b_post K R ν h r
  | .inr (pc, bl, bs) => b_gd K R d pc bl bs N ν h (mc + p.2.2.1) (ms + p.2.2.2)
def b_hyp (K : BH) (R : BRw) (d : Nat) (S : BSg) (ν : BN) (h : AH) (mc ms : Nat) (p : BSo) : Prop := ∀ (ν' : BN) (h' : AH), b_ext S.2.1.2.2.1.length (S.2.1.2.2.1 ++ p.2.1.1).length ν ν' → b_G K ν' h h' (S.2.1.2.2.1 ++ p.2.1.1, p.2.1.2.1, p.2.1.2.2, [], S.2.2.1) → b_pq K R d p (S.2.1.2.2.1 ++ p.2.1.1).length ν' h' mc ms
theorem b_gd.of {R : BRw} {S : BSg} {d mc ms : Nat} (hR : S.1.1 = R.1) (hN : R.2.2.1.2.1.length ≤ S.2.1.2.2.1.length) (hW : b_subW S.2.2.1 R.2.2.2.1 = true) (hx : ∀ al st, b_L S.2.1.2.2.1.length ν S.2.1.1 al → b_S S.2.1.2.2.1.length ν S.2.1.2.1 st → b_rgq K S d S.1.2 ν h al st h mc ms) (ha : b_al (b_hyp K R d S ν h mc ms) S.2.2.2) : b_gd K R d S.1.2 S.2.1.1 S.2.1.2.1 S.2.1.2.2.1.length ν h mc ms := by
  intro al st hl hs
  obtain ⟨p, p1, ν', h', x, g, q⟩ := hx al st hl hs
  have k := b_al_at ha p p1 ν' h' x g
  have x0 : b_ext R.2.2.1.2.1.length (S.2.1.2.2.1 ++ p.2.1.1).length ν ν' := ⟨Nat.le_trans hN x.1, fun n hn => x.2 n (Nat.lt_of_lt_of_le hn hN)⟩
  unfold b_sgq at q
  unfold b_pq at k
  cases hp : p.1 with
  | inl z =>
    rw [hp] at q k
    dsimp only at q k
    obtain ⟨r, q1, q2, q3, q4⟩ := q
    rw [hR] at q1
    exact ⟨r, q1, ((k r q2 q3 q4).cut g.2.2.2.2.2 (b_subW_ok hW)).ext x0⟩
  | inr z =>
    obtain ⟨pc', bl', bs'⟩ := z
    rw [hp] at q k
    dsimp only at q k
    obtain ⟨al', st', q1, q2, q3⟩ := q
    obtain ⟨r, r1, r2⟩ := k al' st' q1 q2
    rw [hR] at q3
    exact ⟨r, q3 r r1, (r2.cut g.2.2.2.2.2 (b_subW_ok hW)).ext x0⟩
theorem b_gd.sg (hJ : b_JF K) {R : BRw} {S : BSg} {d F mc ms : Nat} {cB : BK} {cuts : List Nat} (hc : b_cal K (b_lim d) cB) (hk : b_sgc K cB S cuts F = true) (hR : S.1.1 = R.1) (hN : R.2.2.1.2.1.length ≤ S.2.1.2.2.1.length) (hW : b_subW S.2.2.1 R.2.2.2.1 = true) (g : b_G K ν h h (S.2.1.2.2.1, S.2.1.2.2.2.1, S.2.1.2.2.2.2, [], [])) (ha : b_al (b_hyp K R d S ν h mc ms) S.2.2.2) : b_gd K R d S.1.2 S.2.1.1 S.2.1.2.1 S.2.1.2.2.1.length ν h mc ms := b_gd.of hR hN hW (fun _ _ hl hs => b_sgc_ok hJ hc hk hl hs g) ha
theorem b_gd.rg (hJ : b_JF K) {R : BRw} {S : BSg} {d F mc ms : Nat} {cB : BK} {cuts : List BCu} {stops : List Nat} (hc : b_cal K (b_lim d) cB) (hk : b_rgc K cB S cuts stops F = true) (hR : S.1.1 = R.1) (hN : R.2.2.1.2.1.length ≤ S.2.1.2.2.1.length) (hW : b_subW S.2.2.1 R.2.2.2.1 = true) (g : b_G K ν h h (S.2.1.2.2.1, S.2.1.2.2.2.1, S.2.1.2.2.2.2, [], [])) (ha : b_al (b_hyp K R d S ν h mc ms) S.2.2.2) : b_gd K R d S.1.2 S.2.1.1 S.2.1.2.1 S.2.1.2.2.1.length ν h mc ms := b_gd.of hR hN hW (fun _ _ hl hs => b_rgc_ok hJ hc hk hl hs g) ha
/-- the same state, its symbols in another order -/
def b_cvc (K : BH) (R : BRw) (T : BP) (bl : BL) (bs : List BV) (bl' : BL) (bs' : List BV) (G : BG) (σ : List BV) : Bool := decide (R.2.2.1.2.1.length ≤ T.1.length) && (b_locs σ bl bl' && (b_locs σ (bs.map some) (bs'.map some) && (b_inst K σ T G && decide (σ.take R.2.2.1.2.1.length = b_id R.2.2.1.2.1))))
theorem b_gd.cv {R : BRw} {d pc : Nat} {T : BP} {bl bl' : BL} {bs bs' : List BV} {σ : List BV} {mc ms : Nat} (hi : b_cvc K R T bl bs bl' bs' G σ = true) (g : b_G K ν h0 h G) (k : b_G K (b_vT σ ν) h h (T.1, T.2.1, T.2.2, [], []) → b_gd K R d pc bl bs T.1.length (b_vT σ ν) h mc ms) : b_gd K R d pc bl' bs' G.1.length ν h mc ms := by
  unfold b_cvc at hi
  simp only [Bool.and_eq_true, decide_eq_true_eq] at hi
  obtain ⟨s1, s2, s3, s4, s5⟩ := hi
  intro al st hl hs
  obtain ⟨i1, i2, i3, i4, i5⟩ := b_inst_ok g s4
  have l1 := b_locs_ok (ν := ν) s2 hl
  have l2 := b_locsA (ν := ν) s3 hs
  rw [i1] at l1 l2
  obtain ⟨r, r1, r2⟩ := k ⟨i3, i4, i5, (fun o ho => by cases ho), g.2.2.2.2.1, b_frm.rf⟩ al st l1 l2
  have x := b_id_ext (ν := ν) (by rw [i1]; exact s1) s5
  exact ⟨r, r1, r2.ext x⟩
theorem b_sat.pre {E E0 : BQ} (hs : b_sat K E ν) (h : E.take E0.length = E0) : b_sat K E0 ν := fun n q hq => by
  refine hs n q ?_
  rw [← h, List.getElem?_take] at hq
  split at hq
  · exact hq
  · cases hq
/-- an end with an int, checked -/
def b_pqI (R : BRw) (p : BSo) (E0 : BQ) (mc ms : Nat) (lo hi : Int) : Bool := match p.1 with
  | .inl (.inl (some b)) => decide (b.1 < 2) && (decide (lo ≤ (b_iv (E0 ++ p.2.1.1) b).1) && (decide ((b_iv (E0 ++ p.2.1.1) b).2 ≤ hi) && (decide ((E0 ++ p.2.1.1).take R.2.2.1.2.1.length = R.2.2.1.2.1) && R.2.2.2.2.any fun q => decide (q.1 = .inl (some (1, R.2.2.1.2.1.length, 0))) && ((decide (q.2.1.1 = [(0, lo, hi)]) && (q.2.1.2.1.isEmpty && q.2.1.2.2.isEmpty)) && decide (q.2.2 = (mc + p.2.2.1, ms + p.2.2.2))))))
  | _ => false
theorem b_pq.int {R : BRw} {d : Nat} {p : BSo} {E0 : BQ} {mc ms : Nat} {lo hi : Int} {F : BF} {C : BC} {O : BO} {W : BW} (hk : b_pqI R p E0 mc ms lo hi = true) (g : b_G K ν h0 h (E0 ++ p.2.1.1, F, C, O, W)) : b_pq K R d p (E0 ++ p.2.1.1).length ν h mc ms := by
  unfold b_pqI at hk
  unfold b_pq
  split at hk
  · rename_i b hp
    rw [hp]
    dsimp only
    simp only [Bool.and_eq_true, decide_eq_true_eq] at hk
    obtain ⟨h1, h2, h3, h4, h5⟩ := hk
    have h5 : ((.inl (some (1, R.2.2.1.2.1.length, 0)), ([(0, lo, hi)], [], []), (mc + p.2.2.1, ms + p.2.2.2)) : BPo) ∈ R.2.2.2.2 := by
      obtain ⟨q, q1, q2⟩ := List.any_eq_true.mp h5
      simp only [Bool.and_eq_true, decide_eq_true_eq] at q2
      obtain ⟨q2, ⟨q3, q5, q6⟩, q4⟩ := q2
      have e : q = (.inl (some (1, R.2.2.1.2.1.length, 0)), ([(0, lo, hi)], [], []), (mc + p.2.2.1, ms + p.2.2.2)) := Prod.ext q2 (Prod.ext (Prod.ext q3 (Prod.ext (List.isEmpty_iff.mp q5) (List.isEmpty_iff.mp q6))) q4)
      rw [← e]
      exact q1
    intro r r1 r2 r3
    cases hr : r.1 with
    | inr k' => rw [hr] at r1; exact r1.elim
    | inl v =>
      rw [hr] at r1
      cases v with
      | none => exact r1.elim
      | some v =>
        obtain ⟨x, rfl, hx⟩ := b_v.int (b := b) r1 h1
        have iv : (b_iv (E0 ++ p.2.1.1) b).1 ≤ x.toInt ∧ x.toInt ≤ (b_iv (E0 ++ p.2.1.1) b).2 := b_iv_ok g.1 hx
        refine b_post_int h5 hr (by omega) (by omega) (F := []) (C := []) (O := []) (W := []) ⟨g.1.pre h4, (fun f hf => by cases hf), (fun f hf => by cases hf), (fun f hf => by cases hf), ?_, ?_⟩ (fun w hw => by cases hw) r3
        · rw [r2]; exact g.2.2.2.2.1
        · rw [r2]; exact b_frm.rf
  · cases hk
/-! Reading the heap -/
def c_at (h : AH) (a j : Nat) : Option Value := (h[a]?).bind fun c => c.2[j]?
theorem c_at_of {a j t : Nat} {vs : List Value} {v : Value} (h1 : h[a]? = some (t, vs)) (h2 : vs[j]? = some v) : c_at h a j = some v := by
  unfold c_at
  rw [h1]
  exact h2
theorem b_fa.at {N : Nat} {base slot v : BV} {a j : Nat} (f : b_fa N ν h (base, slot, v)) (hb : b_r N ν base a) (hs : b_i N ν slot (j : Int)) : ∃ w, c_at h a j = some w ∧ b_v N ν v w := by
  have n9 : ¬ slot.1 = 9 := by rcases hs with ⟨e, -⟩ | ⟨e, -⟩ <;> omega
  obtain ⟨a1, t, vs, k1, k2, k3⟩ := f
  have e1 := k1.fn hb
  subst e1
  rw [if_neg n9] at k3
  obtain ⟨j1, w, j2, j3, j4⟩ := k3
  have e2 : (j1 : Int) = j := j2.fn hs
  have e3 : j1 = j := by omega
  subst e3
  exact ⟨w, c_at_of k2 j3, j4⟩
theorem b_fa.atI {N : Nat} {base slot v : BV} {a j : Nat} (f : b_fa N ν h (base, slot, v)) (hb : b_r N ν base a) (hs : b_i N ν slot (j : Int)) (hv : v.1 < 2) : ∃ x : Int32, c_at h a j = some (.int x) ∧ b_i N ν v x.toInt := by
  obtain ⟨w, w1, w2⟩ := f.at hb hs
  obtain ⟨x, rfl, hx⟩ := w2.int hv
  exact ⟨x, w1, hx⟩
theorem b_fa.atR {N : Nat} {base slot v : BV} {a j : Nat} (f : b_fa N ν h (base, slot, v)) (hb : b_r N ν base a) (hs : b_i N ν slot (j : Int)) (hv : v.1 = 2 ∨ v.1 = 3) : ∃ b : Nat, c_at h a j = some (.ref b) ∧ b_r N ν v b := by
  obtain ⟨w, w1, w2⟩ := f.at hb hs
  obtain ⟨x, rfl, hx⟩ := w2.ref hv
  exact ⟨x, w1, hx⟩
theorem b_fa.mk {N : Nat} {base slot v : BV} {a j : Nat} {w : Value} (hw : c_at h a j = some w) (hb : b_r N ν base a) (hs : b_i N ν slot (j : Int)) (hv : b_v N ν v w) : b_fa N ν h (base, slot, v) := by
  unfold c_at at hw
  cases hh : h[a]? with
  | none => rw [hh] at hw; cases hw
  | some c =>
    rw [hh] at hw
    have n9 : ¬ slot.1 = 9 := by rcases hs with ⟨e, -⟩ | ⟨e, -⟩ <;> omega
    exact ⟨a, c.1, c.2, hb, hh, by rw [if_neg n9]; exact ⟨j, w, hs, hw, hv⟩⟩
theorem b_fa.ne9 {N : Nat} {base slot v : BV} (f : b_fa N ν h (base, slot, v)) (hs : slot.1 < 2) : ∃ (a j : Nat), b_r N ν base a ∧ b_i N ν slot (j : Int) := by
  obtain ⟨a1, t, vs, k1, k2, k3⟩ := f
  rw [if_neg (show ¬ slot.1 = 9 by omega)] at k3
  obtain ⟨j1, w, j2, j3, j4⟩ := k3
  exact ⟨a1, j1, k1, j2⟩
/-- one more symbol, and where it stands -/
theorem b_G.rdI (g : b_G K ν h0 h G) {base slot : BV} {a j : Nat} {x : Int32} {lo hi : Int} (hw : c_at h a j = some (.int x)) (hb : b_r G.1.length ν base a) (hs : b_i G.1.length ν slot (j : Int)) (h1 : lo ≤ x.toInt) (h2 : x.toInt ≤ hi) : b_G K (b_nu ν G.1.length x.toInt) h0 h (b_addF (b_add G (0, lo, hi)) (base, slot, (1, G.1.length, 0))) ∧ b_ext G.1.length (G.1.length + 1) ν (b_nu ν G.1.length x.toInt) := by
  obtain ⟨g1, x1⟩ := g.add (q := (0, lo, hi)) (z := x.toInt) (by unfold b_q; rw [if_pos rfl]; exact ⟨h1, h2⟩)
  refine ⟨g1.addF (b_fa.mk hw (hb.ext x1) (hs.ext x1) ?_), b_nu_ext⟩
  refine Or.inr ⟨rfl, ?_, ?_⟩
  · show _ < (G.1 ++ [_]).length
    rw [List.length_append]
    exact Nat.lt_succ_self _
  · show _ = b_nu _ _ _ G.1.length + 0
    rw [b_nu_n, Int.add_zero]
theorem b_G.rdR (g : b_G K ν h0 h G) {base slot : BV} {a j b gg : Nat} (hw : c_at h a j = some (.ref b)) (hb : b_r G.1.length ν base a) (hs : b_i G.1.length ν slot (j : Int)) (h1 : K.1 b = some gg) : b_G K (b_nu ν G.1.length b) h0 h (b_addF (b_add G (gg + 1, 0, 0)) (base, slot, (3, G.1.length, 0))) ∧ b_ext G.1.length (G.1.length + 1) ν (b_nu ν G.1.length b) := by
  obtain ⟨g1, x1⟩ := g.add (q := (gg + 1, 0, 0)) (z := (b : Int)) (by unfold b_q; rw [if_neg (Nat.succ_ne_zero _)]; exact ⟨b, rfl, fun _ => h1⟩)
  refine ⟨g1.addF (b_fa.mk hw (hb.ext x1) (hs.ext x1) ?_), b_nu_ext⟩
  refine Or.inr ⟨rfl, ?_, ?_⟩
  · show _ < (G.1 ++ [_]).length
    rw [List.length_append]
    exact Nat.lt_succ_self _
  · show _ = b_nu _ _ _ G.1.length
    rw [b_nu_n]
/-- one more symbol -/
theorem b_G.sy (g : b_G K ν h0 h G) {z lo hi : Int} (h1 : lo ≤ z) (h2 : z ≤ hi) : b_G K (b_nu ν G.1.length z) h0 h (b_add G (0, lo, hi)) ∧ b_ext G.1.length (G.1.length + 1) ν (b_nu ν G.1.length z) := by
  obtain ⟨g1, x1⟩ := g.add (q := (0, lo, hi)) (z := z) (by unfold b_q; rw [if_pos rfl]; exact ⟨h1, h2⟩)
  exact ⟨g1, b_nu_ext⟩
theorem b_sat.iv {E : BQ} (hs : b_sat K E ν) {n : Nat} {lo hi : Int} (h : E[n]? = some (0, lo, hi)) : lo ≤ ν n ∧ ν n ≤ hi := by
  have := hs n _ h
  unfold b_q at this
  rw [if_pos rfl] at this
  exact this
theorem b_sat.rf {E : BQ} (hs : b_sat K E ν) {n g : Nat} (h : E[n]? = some (g + 1, 0, 0)) : ∃ a : Nat, ν n = a ∧ K.1 a = some g := by
  have := hs n _ h
  unfold b_q at this
  rw [if_neg (Nat.succ_ne_zero _)] at this
  obtain ⟨a, h1, h2⟩ := this
  exact ⟨a, h1, h2 rfl⟩
/-- a place that a run hasn't written -/
theorem b_frm.keep {W : BW} {h' : AH} (f : b_frm K W h h') {a j g : Nat} {row : BR} (h1 : K.1 a = some g) (h2 : K.2.1 g = some row) (h3 : row.2.2.1 ≠ 0) (hW : W.contains (g, 0) = false) (he : (h[a]?).isSome = true) : c_at h' a j = c_at h a j := by
  unfold c_at
  obtain ⟨c, hc⟩ := Option.isSome_iff_exists.mp he
  obtain ⟨us, k1, k2, k3⟩ := f a c hc
  rw [hc, k1]
  refine k3 j (fun w hw q => ?_)
  rw [b_keyA h1 h2 h3] at q
  cases q
  simp [hw] at hW
theorem b_frm.keepF {W : BW} {h' : AH} (f : b_frm K W h h') {a j g : Nat} {row : BR} (h1 : K.1 a = some g) (h2 : K.2.1 g = some row) (h3 : row.2.2.1 = 0) (hW : W.contains (g, j) = false) (he : (h[a]?).isSome = true) : c_at h' a j = c_at h a j := by
  unfold c_at
  obtain ⟨c, hc⟩ := Option.isSome_iff_exists.mp he
  obtain ⟨us, k1, k2, k3⟩ := f a c hc
  rw [hc, k1]
  refine k3 j (fun w hw q => ?_)
  rw [b_keyF h1 h2 h3] at q
  cases q
  simp [hw] at hW
theorem b_H.has (H : b_H K h) {a g : Nat} {row : BR} (h1 : K.1 a = some g) (h2 : K.2.1 g = some row) : (h[a]?).isSome = true := by
  obtain ⟨vs, k1, -⟩ := H.1 a g row h1 h2
  rw [k1]; rfl
/-- a typed place -/
theorem b_H.rdI (H : b_H K h) {a j g : Nat} {row : BR} {lo hi : Int} (h1 : K.1 a = some g) (h2 : K.2.1 g = some row) (h3 : row.2.2.1 ≠ 2) (hj : j < row.2.1) (ht : b_ty row j = some (0, lo, hi)) : ∃ x : Int32, c_at h a j = some (.int x) ∧ lo ≤ x.toInt ∧ x.toInt ≤ hi := by
  obtain ⟨vs, k1, k2, k3⟩ := H.1 a g row h1 h2
  have hl : j < vs.length := by rw [k2 h3]; exact hj
  have k4 := k3 j _ _ (List.getElem?_eq_getElem hl) ht
  have e := c_at_of k1 (List.getElem?_eq_getElem hl)
  unfold b_st at k4
  cases hv : vs[j] with
  | int x =>
    rw [hv] at k4 e
    exact ⟨x, e, k4⟩
  | _ => rw [hv] at k4; exact k4.elim
theorem b_H.rdR (H : b_H K h) {a j g : Nat} {g' : Nat} {row : BR} {z : Int} (h1 : K.1 a = some g) (h2 : K.2.1 g = some row) (h3 : row.2.2.1 ≠ 2) (hj : j < row.2.1) (ht : b_ty row j = some (2, (g' : Int), z)) : ∃ b : Nat, c_at h a j = some (.ref b) ∧ K.1 b = some g' := by
  obtain ⟨vs, k1, k2, k3⟩ := H.1 a g row h1 h2
  have hl : j < vs.length := by rw [k2 h3]; exact hj
  have k4 := k3 j _ _ (List.getElem?_eq_getElem hl) ht
  have e := c_at_of k1 (List.getElem?_eq_getElem hl)
  unfold b_st at k4
  cases hv : vs[j] with
  | ref x =>
    rw [hv] at k4 e
    obtain ⟨g2, q1, q2⟩ := k4
    have q1 : (g2 : Int) = (g' : Int) := q1
    have q3 : g2 = g' := by omega
    exact ⟨x, e, by rw [q2, q3]⟩
  | _ => rw [hv] at k4; exact k4.elim
/-- a store into an array, and what it is exactly -/
theorem b_gd.put (hJ : b_JF K) {R : BRw} {d pc : Nat} {bl : BL} {bs : List BV} {v x base : BV} {i : Instr} {gg : Nat} {row : BR} {ty : BT} {mc ms : Nat} (hi : a_ins R.1 pc = some (i, 1)) (hr : b_row K G.1 base = some (gg, row)) (hc : row.2.2.1 = 1 ∧ b_asv i row.1 G.1 v = true ∧ b_inb G row base x = true ∧ K.2.2.1.contains (gg, 0) = false) (hty : b_ty row 0 = some ty) (hfit : b_fit G.1 v ty = true) (hN : R.2.2.1.2.1.length ≤ G.1.length) (hW : R.2.2.2.1.contains (gg, 0) = true) (g : b_G K ν h h G) (k : ∀ (a n t : Nat) (vs : List Value) (w : Value), b_r G.1.length ν base a → b_i G.1.length ν x (n : Int) → b_v G.1.length ν v w → h[a]? = some (t, vs) → n < vs.length → b_G K ν h (h.set a (t, vs.set n w)) (b_put K G (gg, 0) base x v) → b_gd K R d (pc + 1) bl bs G.1.length ν (h.set a (t, vs.set n w)) mc ms) : b_gd K R d pc bl (v :: x :: base :: bs) G.1.length ν h mc ms := by
  intro al st hl hs
  obtain ⟨c1, c2, c3, c7⟩ := hc
  obtain ⟨w, st1, rfl, h1, h2⟩ := hs.inv
  obtain ⟨v2, st2, rfl, h4, h5⟩ := h2.inv
  obtain ⟨v3, st', rfl, h6, h7⟩ := h5.inv
  obtain ⟨a, vs, rfl, ha, z1, z2, m1, m2, m3⟩ := g.2.2.2.2.1.at g.1 h6 hr
  have m1 : h[a]? = some (row.1, vs) := m1
  have m2 : row.2.2.1 ≠ 2 → vs.length = row.2.1 := m2
  have hx : x.1 < 2 := by
    unfold b_inb at c3
    rw [Bool.and_eq_true, decide_eq_true_eq] at c3
    exact c3.1
  obtain ⟨j, rfl, hj⟩ := h4.int hx
  obtain ⟨i1, i2⟩ := b_inb_ok g ha m1 m2 hj c3
  obtain ⟨k1, k2, k3⟩ := b_ix_ok i1 i2
  have hI := b_asvI c2
  have e := b_st4A (own := a_own R.1) (ini := a_ini R.1) (pc := pc) (al := al) (st := st') hI m1 (b_asv_ok g.1 h1 c2) k1
  have n0 : row.2.2.1 ≠ 0 := by omega
  have g' := b_put_ok hJ g ha m1 (by rw [k3]; exact hj) k2 h1 (b_keyA z1 z2 n0) c7 (fun g' row' ty' y1 y2 y3 => by
    rw [z1] at y1
    cases y1
    rw [z2] at y2
    cases y2
    have y3 : b_ty row _ = some ty' := y3
    rw [b_tyA n0, hty] at y3
    cases y3
    exact b_fit_ok g.1 h1 hfit)
  obtain ⟨r, r1, r2⟩ := k a _ _ vs w ha (by rw [k3]; exact hj) h1 m1 k2 g' al st' hl h7
  refine ⟨r, ?_, r2.cut (W := [(gg, 0)]) ?_ (fun w hw => ?_)⟩
  · have hlen : 1 = a_len i := by rcases hI with rfl | rfl | rfl | rfl | rfl <;> rfl
    refine b_R.stp hi ?_ ?_ ?_ (a_by4 hlen e) r1
    · rcases hI with rfl | rfl | rfl | rfl | rfl <;> rfl
    · rcases hI with rfl | rfl | rfl | rfl | rfl <;> rfl
    · rcases hI with rfl | rfl | rfl | rfl | rfl <;> rfl
  · have f := b_frm.put (v := w) (b_frm.rf (K := K) (h := h)) m1 (b_keyA (k := j.toNatClampNeg) z1 z2 n0)
    simpa using f
  · simp only [List.mem_cons, List.not_mem_nil, or_false] at hw
    rw [hw]
    simpa using hW
theorem c_at_set {a n t : Nat} {vs : List Value} {w : Value} (h1 : h[a]? = some (t, vs)) (hn : n < vs.length) (a' j : Nat) : c_at (h.set a (t, vs.set n w)) a' j = if a' = a ∧ j = n then some w else c_at h a' j := by
  unfold c_at
  have hal := (List.getElem?_eq_some_iff.mp h1).1
  by_cases e : a' = a
  · subst e
    rw [List.getElem?_set_self hal, h1]
    show (vs.set n w)[j]? = _
    by_cases e2 : j = n
    · subst e2
      rw [if_pos ⟨rfl, rfl⟩, List.getElem?_set_self hn]
    · rw [if_neg (fun q => e2 q.2), List.getElem?_set_ne (Ne.symm e2)]
      rfl
  · rw [if_neg (fun q => e q.1), List.getElem?_set_ne (Ne.symm e)]
end HV
/-! Counts -/
noncomputable def c_cnt (p : Nat → Prop) : Nat → Nat
  | 0 => 0
  | n + 1 => c_cnt p n + @ite Nat (p n) (Classical.propDecidable (p n)) 1 0
theorem c_cnt_s {p : Nat → Prop} {n : Nat} : (p n → c_cnt p (n + 1) = c_cnt p n + 1) ∧ (¬ p n → c_cnt p (n + 1) = c_cnt p n) := by
  refine ⟨fun h => ?_, fun h => ?_⟩
  · show c_cnt p n + _ = _
    rw [if_pos h]
  · show c_cnt p n + _ = _
    rw [if_neg h, Nat.add_zero]
theorem c_cnt_up {p : Nat → Prop} {n : Nat} : c_cnt p n ≤ c_cnt p (n + 1) := Nat.le_add_right _ _
theorem c_cnt_mono {p : Nat → Prop} {n : Nat} : ∀ {m : Nat}, n ≤ m → c_cnt p n ≤ c_cnt p m
  | 0, h => by rw [Nat.le_zero.mp h]; exact Nat.le_refl _
  | m + 1, h => by
    rcases Nat.lt_or_ge n (m + 1) with q | q
    · exact Nat.le_trans (c_cnt_mono (Nat.le_of_lt_succ q)) c_cnt_up
    · rw [Nat.le_antisymm h q]; exact Nat.le_refl _
theorem c_cnt_le {p q : Nat → Prop} : ∀ {n : Nat}, (∀ k, k < n → p k → q k) → c_cnt p n ≤ c_cnt q n
  | 0, _ => Nat.le_refl _
  | n + 1, h => by
    have ih := c_cnt_le (p := p) (q := q) (n := n) (fun k hk => h k (Nat.lt_succ_of_lt hk))
    by_cases e : p n
    · rw [c_cnt_s.1 e, c_cnt_s.1 (h n (Nat.lt_succ_self _) e)]
      exact Nat.succ_le_succ ih
    · rw [c_cnt_s.2 e]
      exact Nat.le_trans ih c_cnt_up
/-- all but one place -/
theorem c_cnt_one {p q : Nat → Prop} {m : Nat} : ∀ {n : Nat}, (∀ k, k < n → k ≠ m → p k → q k) → c_cnt p n ≤ c_cnt q n + 1
  | 0, _ => Nat.zero_le _
  | n + 1, h => by
    by_cases e : n = m
    · have ih : c_cnt p n ≤ c_cnt q n := c_cnt_le fun k hk => h k (Nat.lt_succ_of_lt hk) (by omega)
      have := c_cnt_up (p := q) (n := n)
      by_cases e2 : p n
      · rw [c_cnt_s.1 e2]; omega
      · rw [c_cnt_s.2 e2]; omega
    · have ih := c_cnt_one (p := p) (q := q) (m := m) (n := n) (fun k hk => h k (Nat.lt_succ_of_lt hk))
      by_cases e2 : p n
      · rw [c_cnt_s.1 e2, c_cnt_s.1 (h n (Nat.lt_succ_self _) e e2)]; omega
      · rw [c_cnt_s.2 e2]
        have := c_cnt_up (p := q) (n := n)
        omega
theorem c_cnt_lt {p q : Nat → Prop} {m : Nat} : ∀ {n : Nat}, m < n → q m → ¬ p m → (∀ k, k < n → p k → q k) → c_cnt p n < c_cnt q n
  | 0, h, _, _, _ => absurd h (Nat.not_lt_zero _)
  | n + 1, h, h1, h2, h3 => by
    rcases Nat.lt_or_ge m n with a | a
    · have ih := c_cnt_lt a h1 h2 (fun k hk => h3 k (Nat.lt_succ_of_lt hk))
      by_cases e : p n
      · rw [c_cnt_s.1 e, c_cnt_s.1 (h3 n (Nat.lt_succ_self _) e)]; omega
      · rw [c_cnt_s.2 e]
        have := c_cnt_up (p := q) (n := n)
        omega
    · have e : m = n := by omega
      subst e
      rw [c_cnt_s.2 h2, c_cnt_s.1 h1]
      exact Nat.lt_succ_of_le (c_cnt_le fun k hk => h3 k (Nat.lt_succ_of_lt hk))
theorem c_cnt_pos {p : Nat → Prop} : ∀ {n : Nat}, 0 < c_cnt p n → ∃ k, k < n ∧ p k
  | 0, h => absurd h (Nat.not_lt_zero _)
  | n + 1, h => by
    by_cases e : p n
    · exact ⟨n, Nat.lt_succ_self _, e⟩
    · rw [c_cnt_s.2 e] at h
      obtain ⟨k, k1, k2⟩ := c_cnt_pos h
      exact ⟨k, Nat.lt_succ_of_lt k1, k2⟩
theorem c_cnt_bd {p : Nat → Prop} : ∀ {n : Nat}, c_cnt p n ≤ n
  | 0 => Nat.le_refl _
  | n + 1 => by
    have := c_cnt_bd (p := p) (n := n)
    by_cases e : p n
    · rw [c_cnt_s.1 e]; omega
    · rw [c_cnt_s.2 e]; omega
section HW
variable {K : BH} {ν : BN} {h0 h : AH} {G : BG}
theorem b_al.c {P : BSo → Prop} {p : BSo} {l : List BSo} (h : P p) (t : b_al P l) : b_al P (p :: l) := ⟨h, t⟩
theorem b_al.n {P : BSo → Prop} : b_al P [] := trivial
theorem b_pq.to {R : BRw} {d : Nat} {p : BSo} {N mc ms pc : Nat} {bl : BL} {bs : List BV} (hp : p.1 = .inr (pc, bl, bs)) (k : b_gd K R d pc bl bs N ν h (mc + p.2.2.1) (ms + p.2.2.2)) : b_pq K R d p N ν h mc ms := by
  unfold b_pq
  rw [hp]
  exact k
/-- nothing but the symbols -/
theorem b_G.bare (g : b_G K ν h0 h G) : b_G K ν h h (G.1, [], [], [], []) := ⟨g.1, (fun f hf => by cases hf), (fun f hf => by cases hf), (fun f hf => by cases hf), g.2.2.2.2.1, b_frm.rf⟩
/-- less is known -/
def b_wkc (G G' : BG) : Bool := decide (G'.1 = G.1) && (G'.2.1.all (fun f => G.2.1.contains f) && G'.2.2.1.all (fun c => G.2.2.1.contains c))
theorem b_G.wk (g : b_G K ν h0 h G) {E : BQ} {F : BF} {C : BC} (hk : b_wkc G (E, F, C, [], []) = true) : b_G K ν h h (E, F, C, [], []) := by
  unfold b_wkc at hk
  simp only [Bool.and_eq_true, decide_eq_true_eq] at hk
  obtain ⟨k1, k2, k3⟩ := hk
  have k1 : E = G.1 := k1
  subst k1
  exact ⟨g.1, fun f hf => g.2.1 f (by simpa using List.all_eq_true.mp k2 f hf), fun c hc => g.2.2.1 c (by simpa using List.all_eq_true.mp k3 c hc), (fun o ho => by cases ho), g.2.2.2.2.1, b_frm.rf⟩
/-- with more symbols -/
theorem b_gd.more {R : BRw} {d pc : Nat} {bl : BL} {bs : List BV} {N N' : Nat} {ν' : BN} {mc ms : Nat} (x : b_ext N N' ν ν') (hN : R.2.2.1.2.1.length ≤ N) (k : b_gd K R d pc bl bs N' ν' h mc ms) : b_gd K R d pc bl bs N ν h mc ms := fun al st hl hs => by
  obtain ⟨r, r1, r2⟩ := k al st (hl.ext x) (hs.ext x)
  exact ⟨r, r1, r2.ext (N := N') ⟨Nat.le_trans hN x.1, fun n hn => x.2 n (Nat.lt_of_lt_of_le hn hN)⟩⟩
theorem b_gd.valid {R : BRw} {d : Nat} (hd : R.2.1 = d + 1) (ha : b_argOK R.1 R.2.2.1.1 = true) (hr : ∀ (ν : BN) (h : AH), b_G K ν h h (b_pre R) → b_gd K R d 0 (b_args R.1 R.2.2.1.1) [] (b_pre R).1.length ν h 0 0) : b_valid K R := b_valid_of hd ha fun ν h al hl g => hr ν h g al [] hl b_S.nil
theorem b_i.s {N n : Nat} {k : Int} (h : n < N) : b_i N ν (1, n, k) (ν n + k) := Or.inr ⟨rfl, h, rfl⟩
theorem b_i.v {N n : Nat} {k z : Int} (h : b_i N ν (1, n, k) z) : z = ν n + k := by
  rcases h with ⟨e, -⟩ | ⟨-, -, e⟩
  · cases e
  · exact e
theorem b_i.k {N n : Nat} {k z : Int} (h : b_i N ν (0, n, k) z) : z = k := by
  rcases h with ⟨-, e⟩ | ⟨e, -⟩
  · exact e
  · cases e
theorem b_r.k {N a b : Nat} {z : Int} (h : b_r N ν (2, a, z) b) : b = a := by
  rcases h with ⟨-, e⟩ | ⟨e, -⟩
  · exact e
  · cases e
theorem b_r.v {N n b : Nat} {z : Int} (h : b_r N ν (3, n, z) b) : (b : Int) = ν n := by
  rcases h with ⟨e, -⟩ | ⟨-, -, e⟩
  · cases e
  · exact e
theorem b_r.s {N n b : Nat} {z : Int} (hn : n < N) (h : (b : Int) = ν n) : b_r N ν (3, n, z) b := Or.inr ⟨rfl, hn, h⟩
theorem b_co.v {N a b : Nat} {c : Int} (h : b_co N ν (a, b, c)) : ν a ≤ ν b + c := h.2.2
theorem b_G.co (g : b_G K ν h0 h G) {a b : Nat} {c : Int} (hm : G.2.2.1.contains (a, b, c) = true) : ν a ≤ ν b + c := (g.2.2.1 (a, b, c) (by simpa using hm)).2.2
theorem b_G.fa (g : b_G K ν h0 h G) (f : BV × BV × BV) (hm : G.2.1.contains f = true) : b_fa G.1.length ν h f := g.2.1 f (by simpa using hm)
theorem b_G.iv (g : b_G K ν h0 h G) (n : Nat) {lo hi : Int} (hm : G.1[n]? = some (0, lo, hi)) : lo ≤ ν n ∧ ν n ≤ hi := g.1.iv hm
/-- an int fact at a known array -/
theorem b_G.rd (g : b_G K ν h0 h G) {a n m : Nat} {k k' : Int} (hm : G.2.1.contains ((2, a, 0), (1, n, k), (1, m, k')) = true) {j : Nat} (hj : (j : Int) = ν n + k) : ∃ x : Int32, c_at h a j = some (.int x) ∧ x.toInt = ν m + k' := by
  have f := g.fa _ hm
  obtain ⟨b, i, -, q⟩ := f.ne9 (by show 1 < 2; decide)
  obtain ⟨x, x1, x2⟩ := f.atI (a := a) (j := j) (Or.inl ⟨rfl, rfl⟩) (by rw [hj, ← q.v]; exact q) (by show 1 < 2; decide)
  exact ⟨x, x1, x2.v⟩
/-- an int fact at a row -/
theorem b_G.rd2 (g : b_G K ν h0 h G) {p n m : Nat} {k k' : Int} (hm : G.2.1.contains ((3, p, 0), (1, n, k), (1, m, k')) = true) {j : Nat} (hj : (j : Int) = ν n + k) : ∃ (a : Nat) (x : Int32), (a : Int) = ν p ∧ c_at h a j = some (.int x) ∧ x.toInt = ν m + k' := by
  have f := g.fa _ hm
  obtain ⟨b, i, q0, q⟩ := f.ne9 (by show 1 < 2; decide)
  obtain ⟨x, x1, x2⟩ := f.atI (a := b) (j := j) q0 (by rw [hj, ← q.v]; exact q) (by show 1 < 2; decide)
  exact ⟨b, x, q0.v, x1, x2.v⟩
/-- a field of a known object -/
theorem b_G.rdF (g : b_G K ν h0 h G) {a j m : Nat} {k' : Int} (hm : G.2.1.contains ((2, a, 0), (0, 0, (j : Int)), (1, m, k')) = true) : ∃ x : Int32, c_at h a j = some (.int x) ∧ x.toInt = ν m + k' := by
  obtain ⟨x, x1, x2⟩ := (g.fa _ hm).atI (a := a) (j := j) (Or.inl ⟨rfl, rfl⟩) (Or.inl ⟨rfl, rfl⟩) (by show 1 < 2; decide)
  exact ⟨x, x1, x2.v⟩
/-- a reference in a known array -/
theorem b_G.rdA (g : b_G K ν h0 h G) {a n m : Nat} {k : Int} (hm : G.2.1.contains ((2, a, 0), (1, n, k), (3, m, 0)) = true) {j : Nat} (hj : (j : Int) = ν n + k) : ∃ b : Nat, c_at h a j = some (.ref b) ∧ (b : Int) = ν m := by
  have f := g.fa _ hm
  obtain ⟨b, i, -, q⟩ := f.ne9 (by show 1 < 2; decide)
  obtain ⟨x, x1, x2⟩ := f.atR (a := a) (j := j) (Or.inl ⟨rfl, rfl⟩) (by rw [hj, ← q.v]; exact q) (Or.inr rfl)
  exact ⟨x, x1, x2.v⟩
end HW
section HX
variable {K : BH} {ν : BN} {h0 h : AH} {G : BG}
/-- more symbols, with what is known of them -/
def b_satL (K : BH) (ν : BN) : Nat → BQ → Prop
  | _, [] => True
  | N, q :: l => b_q K q (ν N) ∧ b_satL K ν (N + 1) l
def b_faL (N : Nat) (ν : BN) (h : AH) : BF → Prop
  | [] => True
  | f :: l => b_fa N ν h f ∧ b_faL N ν h l
def b_coL (N : Nat) (ν : BN) : BC → Prop
  | [] => True
  | c :: l => b_co N ν c ∧ b_coL N ν l
theorem b_satL.at : ∀ {E : BQ} {N : Nat}, b_satL K ν N E → ∀ (n : Nat) (q : Nat × Int × Int), E[n]? = some q → b_q K q (ν (N + n))
  | [], _, _, n, q, hq => by cases hq
  | p :: E, N, h, 0, q, hq => by cases hq; exact h.1
  | p :: E, N, h, n + 1, q, hq => by
    have := b_satL.at h.2 n q hq
    rw [show N + (n + 1) = N + 1 + n by omega]
    exact this
theorem b_faL.at {N : Nat} : ∀ {F : BF}, b_faL N ν h F → ∀ f ∈ F, b_fa N ν h f
  | [], _, f, hf => by cases hf
  | p :: F, h, f, hf => (List.mem_cons.mp hf).elim (fun e => by rw [e]; exact h.1) (b_faL.at h.2 f)
theorem b_coL.at {N : Nat} : ∀ {F : BC}, b_coL N ν F → ∀ f ∈ F, b_co N ν f
  | [], _, f, hf => by cases hf
  | p :: F, h, f, hf => (List.mem_cons.mp hf).elim (fun e => by rw [e]; exact h.1) (b_coL.at h.2 f)
theorem b_G.ad (g : b_G K ν h0 h G) {ν' : BN} {E' : BQ} {F' : BF} {C' : BC} (hx : ∀ n, n < G.1.length → ν' n = ν n) (hE : b_satL K ν' G.1.length E') (hF : b_faL (G.1 ++ E').length ν' h F') (hC : b_coL (G.1 ++ E').length ν' C') : b_G K ν' h h (G.1 ++ E', F' ++ G.2.1, C' ++ G.2.2.1, [], []) := by
  have x : b_ext G.1.length (G.1 ++ E').length ν ν' := ⟨by rw [List.length_append]; exact Nat.le_add_right _ _, hx⟩
  refine ⟨fun n q hq => ?_, fun f hf => ?_, fun c hc => ?_, (fun o ho => by cases ho), g.2.2.2.2.1, b_frm.rf⟩
  · have hq : (G.1 ++ E')[n]? = some q := hq
    rcases Nat.lt_or_ge n G.1.length with a | a
    · rw [List.getElem?_append_left a] at hq
      rw [hx n a]
      exact g.1 n q hq
    · rw [List.getElem?_append_right a] at hq
      have := hE.at _ q hq
      rw [show G.1.length + (n - G.1.length) = n by omega] at this
      exact this
  · rcases List.mem_append.mp hf with a | a
    · exact hF.at f a
    · exact (g.2.1 f a).ext x
  · rcases List.mem_append.mp hc with a | a
    · exact hC.at c a
    · exact (g.2.2.1 c a).ext x
theorem b_q.i {z lo hi : Int} (h1 : lo ≤ z) (h2 : z ≤ hi) : b_q K (0, lo, hi) z := by unfold b_q; rw [if_pos rfl]; exact ⟨h1, h2⟩
theorem b_q.r {a g : Nat} (h : K.1 a = some g) : b_q K (g + 1, 0, 0) (a : Int) := by unfold b_q; rw [if_neg (Nat.succ_ne_zero _)]; exact ⟨a, rfl, fun _ => h⟩
theorem b_q.r0 {a g : Nat} : b_q K (g + 1, 1, 0) (a : Int) := by unfold b_q; rw [if_neg (Nat.succ_ne_zero _)]; exact ⟨a, rfl, fun e => absurd e (by show ¬ (1 : Int) = 0; decide)⟩
theorem b_frm.k {W : BW} {h' : AH} (f : b_frm K W h h') (H : b_H K h) {a g : Nat} {row : BR} (h1 : K.1 a = some g) (h2 : K.2.1 g = some row) (h3 : row.2.2.1 ≠ 0) (hW : W.contains (g, 0) = false) (j : Nat) : c_at h' a j = c_at h a j := f.keep h1 h2 h3 hW (H.has h1 h2)
theorem b_frm.kF {W : BW} {h' : AH} (f : b_frm K W h h') (H : b_H K h) {a g : Nat} {row : BR} (h1 : K.1 a = some g) (h2 : K.2.1 g = some row) (h3 : row.2.2.1 = 0) {j : Nat} (hW : W.contains (g, j) = false) : c_at h' a j = c_at h a j := f.keepF h1 h2 h3 hW (H.has h1 h2)
end HX
section HY
variable {K : BH} {ν : BN} {h0 h : AH} {G : BG}
/-- a store at a place that stays for the programs -/
theorem b_putP_ok (g : b_G K ν h0 h G) {base slot : BV} {a n t : Nat} {vs : List Value} {b : BV} {v : Value} {w : Nat × Nat} (hb : b_r G.1.length ν base a) (ha : h[a]? = some (t, vs)) (hs : b_i G.1.length ν slot n) (hn : n < vs.length) (hbv : b_v G.1.length ν b v) (hk : b_key K a n = some w) (hJ : K.2.2.2 (h.set a (t, vs.set n v))) (hv : ∀ g row ty, K.1 a = some g → K.2.1 g = some row → b_ty row n = some ty → b_st K ty v) : b_G K ν h0 (h.set a (t, vs.set n v)) (b_put K G w base slot b) := by
  have s9 : ¬ slot.1 = 9 := by rcases hs with ⟨e, -⟩ | ⟨e, -⟩ <;> omega
  have hal := (List.getElem?_eq_some_iff.mp ha).1
  refine ⟨g.1, fun f hf => ?_, g.2.2.1, g.2.2.2.1, ⟨g.2.2.2.2.1.1.put ha hv, hJ⟩, g.2.2.2.2.2.put ha hk⟩
  have hf : f ∈ (if b.1 < 2 ∨ 6 < b.1 then [(base, slot, b)] else []) ++ G.2.1.filter (fun f => b_kp K G.1 w f || b_dif G base slot f) := hf
  rcases List.mem_append.mp hf with q | q
  · split at q
    · simp only [List.mem_cons, List.not_mem_nil, or_false] at q
      subst q
      exact ⟨a, t, vs.set n v, hb, List.getElem?_set_self hal, by rw [if_neg (show ¬ (base, slot, b).2.1.1 = 9 from s9)]; exact ⟨n, v, hs, List.getElem?_set_self hn, hbv⟩⟩
    · cases q
  · obtain ⟨q1, q2⟩ := List.mem_filter.mp q
    have q2 : (b_kp K G.1 w f || b_dif G base slot f) = true := q2
    rw [Bool.or_eq_true] at q2
    rcases q2 with q2 | q2
    case inr => exact b_dif_ok g (g.2.1 f q1) hb ha hs q2
    refine b_kp_ok g (g.2.1 f q1) q2 (fun a' t' vs' h' => ?_)
    by_cases e : a' = a
    · subst e
      rw [ha] at h'
      cases h'
      refine ⟨vs.set n v, List.getElem?_set_self hal, List.length_set .., fun j hj => ?_⟩
      have hnj : ¬ n = j := fun q => by subst q; exact hj hk
      rw [List.getElem?_set_ne hnj]
    · exact ⟨vs', by rw [List.getElem?_set_ne (Ne.symm e)]; exact h', rfl, fun _ _ => rfl⟩
theorem b_gd.putP {R : BRw} {d pc : Nat} {bl : BL} {bs : List BV} {v x base : BV} {i : Instr} {gg : Nat} {row : BR} {ty : BT} {mc ms : Nat} (hi : a_ins R.1 pc = some (i, 1)) (hr : b_row K G.1 base = some (gg, row)) (hc : row.2.2.1 = 1 ∧ b_asv i row.1 G.1 v = true ∧ b_inb G row base x = true) (hty : b_ty row 0 = some ty) (hfit : b_fit G.1 v ty = true) (hN : R.2.2.1.2.1.length ≤ G.1.length) (hW : R.2.2.2.1.contains (gg, 0) = true) (g : b_G K ν h h G) (hJ : ∀ (a n t : Nat) (vs : List Value) (w : Value), b_r G.1.length ν base a → b_i G.1.length ν x (n : Int) → b_v G.1.length ν v w → h[a]? = some (t, vs) → n < vs.length → K.2.2.2 (h.set a (t, vs.set n w))) (k : ∀ (a n t : Nat) (vs : List Value) (w : Value), b_r G.1.length ν base a → b_i G.1.length ν x (n : Int) → b_v G.1.length ν v w → h[a]? = some (t, vs) → n < vs.length → b_G K ν h (h.set a (t, vs.set n w)) (b_put K G (gg, 0) base x v) → b_gd K R d (pc + 1) bl bs G.1.length ν (h.set a (t, vs.set n w)) mc ms) : b_gd K R d pc bl (v :: x :: base :: bs) G.1.length ν h mc ms := by
  intro al st hl hs
  obtain ⟨c1, c2, c3⟩ := hc
  obtain ⟨w, st1, rfl, h1, h2⟩ := hs.inv
  obtain ⟨v2, st2, rfl, h4, h5⟩ := h2.inv
  obtain ⟨v3, st', rfl, h6, h7⟩ := h5.inv
  obtain ⟨a, vs, rfl, ha, z1, z2, m1, m2, m3⟩ := g.2.2.2.2.1.at g.1 h6 hr
  have m1 : h[a]? = some (row.1, vs) := m1
  have m2 : row.2.2.1 ≠ 2 → vs.length = row.2.1 := m2
  have hx : x.1 < 2 := by
    unfold b_inb at c3
    rw [Bool.and_eq_true, decide_eq_true_eq] at c3
    exact c3.1
  obtain ⟨j, rfl, hj⟩ := h4.int hx
  obtain ⟨i1, i2⟩ := b_inb_ok g ha m1 m2 hj c3
  obtain ⟨k1, k2, k3⟩ := b_ix_ok i1 i2
  have hI := b_asvI c2
  have e := b_st4A (own := a_own R.1) (ini := a_ini R.1) (pc := pc) (al := al) (st := st') hI m1 (b_asv_ok g.1 h1 c2) k1
  have n0 : row.2.2.1 ≠ 0 := by omega
  have kj : b_i G.1.length ν x (j.toNatClampNeg : Int) := by rw [k3]; exact hj
  have g' := b_putP_ok g ha m1 kj k2 h1 (b_keyA z1 z2 n0) (hJ a _ _ vs w ha kj h1 m1 k2) (fun g' row' ty' y1 y2 y3 => by
    rw [z1] at y1
    cases y1
    rw [z2] at y2
    cases y2
    have y3 : b_ty row _ = some ty' := y3
    rw [b_tyA n0, hty] at y3
    cases y3
    exact b_fit_ok g.1 h1 hfit)
  obtain ⟨r, r1, r2⟩ := k a _ _ vs w ha kj h1 m1 k2 g' al st' hl h7
  refine ⟨r, ?_, r2.cut (W := [(gg, 0)]) ?_ (fun w hw => ?_)⟩
  · have hlen : 1 = a_len i := by rcases hI with rfl | rfl | rfl | rfl | rfl <;> rfl
    refine b_R.stp hi ?_ ?_ ?_ (a_by4 hlen e) r1
    · rcases hI with rfl | rfl | rfl | rfl | rfl <;> rfl
    · rcases hI with rfl | rfl | rfl | rfl | rfl <;> rfl
    · rcases hI with rfl | rfl | rfl | rfl | rfl <;> rfl
  · have f := b_frm.put (v := w) (b_frm.rf (K := K) (h := h)) m1 (b_keyA (k := j.toNatClampNeg) z1 z2 n0)
    simpa using f
  · simp only [List.mem_cons, List.not_mem_nil, or_false] at hw
    rw [hw]
    simpa using hW
end HY
/-! What is known of the places that stay: stores by hand -/
theorem c_Ja_set {h : AH} (J : c_Ja h) {a : Nat} {c : AC} (h1 : a < 494) : c_Ja (h.set a c) := by
  obtain ⟨⟨t0, q1⟩, ⟨xB, q2⟩, q3, q4⟩ := J
  have hw : ∀ s b, c_wr[s]? = some b → 494 < b := fun s b e => by
    have := List.all_eq_true.mp (show (c_wr.all fun b => decide (494 < b)) = true by decide +kernel) b (List.mem_of_getElem? e)
    exact of_decide_eq_true this
  refine ⟨⟨t0, by rw [List.getElem?_set_ne (by omega)]; exact q1⟩, ⟨xB, by rw [List.getElem?_set_ne (by omega)]; exact q2⟩, fun b hb => ?_, fun s' b t1 t2 ms ws' n' hs' hB hn hb i j hij hj => ?_⟩
  · obtain ⟨s, e⟩ := List.mem_iff_getElem?.mp hb
    have := hw s b e
    rw [List.getElem?_set_ne (by omega)]
    exact q3 b hb
  · have := hw s' b hs'
    rw [List.getElem?_set_ne (by omega)] at hB hb
    exact q4 s' b t1 t2 ms ws' n' hs' hB hn hb i j hij hj
theorem c_Ja_setL {h : AH} (J : c_Ja h) {a : Nat} {c : AC} (h1 : 555 < a) : c_Ja (h.set a c) := by
  obtain ⟨⟨t0, q1⟩, ⟨xB, q2⟩, q3, q4⟩ := J
  have hw : ∀ s b, c_wr[s]? = some b → b < 555 := fun s b e => by
    have := List.all_eq_true.mp (show (c_wr.all fun b => decide (b < 555)) = true by decide +kernel) b (List.mem_of_getElem? e)
    exact of_decide_eq_true this
  refine ⟨⟨t0, by rw [List.getElem?_set_ne (by omega)]; exact q1⟩, ⟨xB, by rw [List.getElem?_set_ne (by omega)]; exact q2⟩, fun b hb => ?_, fun s' b t1 t2 ms ws' n' hs' hB hn hb i j hij hj => ?_⟩
  · obtain ⟨s, e⟩ := List.mem_iff_getElem?.mp hb
    have := hw s b e
    rw [List.getElem?_set_ne (by omega)]
    exact q3 b hb
  · have := hw s' b hs'
    rw [List.getElem?_set_ne (by omega)] at hB hb
    exact q4 s' b t1 t2 ms ws' n' hs' hB hn hb i j hij hj
theorem c_Jb_set {h : AH} (J : c_Jb h) {a : Nat} {c : AC} (h1 : a ≠ 365) (h2 : a ≠ 769) : c_Jb (h.set a c) := by
  obtain ⟨⟨x, q1⟩, ⟨y, q2⟩, q3⟩ := J
  refine ⟨⟨x, by rw [List.getElem?_set_ne h1]; exact q1⟩, ⟨y, by rw [List.getElem?_set_ne h2]; exact q2⟩, fun t t2 ms ls n f e1 e2 e3 e4 => ?_⟩
  rw [List.getElem?_set_ne h1] at e1
  rw [List.getElem?_set_ne h2] at e3
  exact q3 t t2 ms ls n f e1 e2 e3 e4
/-- a store among the films that are left -/
theorem c_J_left {h : AH} (J : c_J h) {t n : Nat} {vs : List Value} {v : Value} (ha : h[769]? = some (t, vs)) (hv : v = .int 1 → ∀ f : Int32, c_at h 365 44 = some (.int f) → (n : Int) < f.toInt) : c_J (h.set 769 (t, vs.set n v)) := by
  have lt := (List.getElem?_eq_some_iff.mp ha).1
  refine ⟨c_Ja_setL J.1 (by decide), ?_⟩
  obtain ⟨⟨x, q1⟩, -, q3⟩ := J.2
  refine ⟨⟨x, by rw [List.getElem?_set_ne (by decide)]; exact q1⟩, ⟨_, List.getElem?_set_self lt⟩, fun t1 t2 ms ls m f e1 e2 e3 e4 => ?_⟩
  rw [List.getElem?_set_ne (by decide)] at e1
  rw [List.getElem?_set_self lt] at e3
  cases e3
  by_cases e : f = n
  · subst e
    rw [List.getElem?_set] at e4
    split at e4
    · split at e4
      · cases e4
        exact hv rfl m (c_at_of e1 e2)
      · cases e4
    · rename_i c
      exact absurd rfl c
  · rw [List.getElem?_set_ne (Ne.symm e)] at e4
    exact q3 t1 t ms vs m f e1 e2 ha e4
theorem c_J_left0 {h : AH} (J : c_J h) {t n : Nat} {vs : List Value} {v : Value} (ha : h[769]? = some (t, vs)) (hv : v ≠ .int 1) : c_J (h.set 769 (t, vs.set n v)) := c_J_left J ha fun e => absurd e hv
/-- no film is left that there is not -/
theorem c_J_lt {h : AH} (J : c_J h) {n : Int32} {f : Nat} (e1 : c_at h 365 44 = some (.int n)) (e2 : c_at h 769 f = some (.int 1)) : (f : Int) < n.toInt := by
  obtain ⟨⟨x, q1⟩, ⟨y, q2⟩, q3⟩ := J.2
  unfold c_at at e1 e2
  rw [q1] at e1
  rw [q2] at e2
  exact q3 x.1 y.1 x.2 y.2 n f q1 e1 q2 e2
end
/-! part 74t.tab -/
section
/-! The groups of the model's arrays, one by one -/
theorem c_q50 : c_K.2.1 50 = some (12, 56, 0, [(1, 366, 0), (1, 367, 0), (1, 368, 0), (1, 369, 0), (1, 370, 0), (1, 371, 0), (1, 372, 0), (1, 373, 0), (1, 374, 0), (1, 375, 0), (1, 376, 0), (1, 377, 0), (1, 398, 0), (1, 419, 0), (1, 420, 0), (1, 421, 0), (1, 422, 0), (1, 423, 0), (1, 424, 0), (1, 425, 0), (1, 426, 0), (1, 427, 0), (1, 428, 0), (1, 489, 0), (1, 490, 0), (1, 491, 0), (1, 492, 0), (1, 493, 0), (1, 494, 0), (1, 555, 0), (1, 556, 0), (1, 617, 0), (1, 618, 0), (1, 619, 0), (1, 620, 0), (1, 626, 0), (1, 657, 0), (1, 688, 0), (1, 694, 0), (1, 725, 0), (1, 726, 0), (1, 767, 0), (1, 768, 0), (1, 769, 0), (0, 0, 20), (0, 0, 8), (0, 0, 5), (0, 0, 4), (0, 0, 60), (0, 0, 60), (0, 0, 16), (0, 0, 9), (0, 0, 40), (0, 0, 400), (0, 0, 50), (0, 0, 4)]) := by rfl
theorem c_a365 : c_K.1 365 = some 50 := by decide +kernel
theorem c_q51 : c_K.2.1 51 = some (22, 20, 1, [(0, 0, 150)]) := by rfl
theorem c_a366 : c_K.1 366 = some 51 := by decide +kernel
theorem c_q52 : c_K.2.1 52 = some (20, 20, 1, [(0, 0, 300)]) := by rfl
theorem c_a367 : c_K.1 367 = some 52 := by decide +kernel
theorem c_q53 : c_K.2.1 53 = some (20, 20, 1, [(0, 0, 9)]) := by rfl
theorem c_a368 : c_K.1 368 = some 53 := by decide +kernel
theorem c_q54 : c_K.2.1 54 = some (20, 20, 1, [(0, 0, 3)]) := by rfl
theorem c_a369 : c_K.1 369 = some 54 := by decide +kernel
theorem c_q55 : c_K.2.1 55 = some (20, 20, 1, [(0, (-1), 4)]) := by rfl
theorem c_a370 : c_K.1 370 = some 55 := by decide +kernel
theorem c_q56 : c_K.2.1 56 = some (20, 20, 1, [(0, 0, 3)]) := by rfl
theorem c_a371 : c_K.1 371 = some 56 := by decide +kernel
theorem c_q57 : c_K.2.1 57 = some (21, 20, 1, [(0, 0, 1)]) := by rfl
theorem c_a372 : c_K.1 372 = some 57 := by decide +kernel
theorem c_q58 : c_K.2.1 58 = some (22, 20, 1, [(0, 0, 150)]) := by rfl
theorem c_a373 : c_K.1 373 = some 58 := by decide +kernel
theorem c_q59 : c_K.2.1 59 = some (20, 20, 1, [(0, 0, 49)]) := by rfl
theorem c_a374 : c_K.1 374 = some 59 := by decide +kernel
theorem c_q60 : c_K.2.1 60 = some (20, 8, 1, [(0, 0, 9)]) := by rfl
theorem c_a375 : c_K.1 375 = some 60 := by decide +kernel
theorem c_q61 : c_K.2.1 61 = some (20, 8, 1, [(0, (-2147483648), 2147483647)]) := by rfl
theorem c_a376 : c_K.1 376 = some 61 := by decide +kernel
theorem c_q62 : c_K.2.1 62 = some (30, 20, 1, [(2, 63, 0)]) := by rfl
theorem c_a377 : c_K.1 377 = some 62 := by decide +kernel
theorem c_q63 : c_K.2.1 63 = some (21, 8, 1, [(0, 0, 1)]) := by rfl
theorem c_q64 : c_K.2.1 64 = some (29, 20, 1, [(2, 65, 0)]) := by rfl
theorem c_a398 : c_K.1 398 = some 64 := by decide +kernel
theorem c_q65 : c_K.2.1 65 = some (20, 8, 1, [(0, (-1), 100)]) := by rfl
theorem c_q66 : c_K.2.1 66 = some (20, 5, 1, [(0, 0, 9)]) := by rfl
theorem c_a419 : c_K.1 419 = some 66 := by decide +kernel
theorem c_q67 : c_K.2.1 67 = some (20, 5, 1, [(0, 0, 2000)]) := by rfl
theorem c_a420 : c_K.1 420 = some 67 := by decide +kernel
theorem c_q68 : c_K.2.1 68 = some (20, 5, 1, [(0, 0, 100)]) := by rfl
theorem c_a421 : c_K.1 421 = some 68 := by decide +kernel
theorem c_q69 : c_K.2.1 69 = some (22, 5, 1, [(0, 0, 150)]) := by rfl
theorem c_a422 : c_K.1 422 = some 69 := by decide +kernel
theorem c_q70 : c_K.2.1 70 = some (20, 5, 1, [(0, 0, 3)]) := by rfl
theorem c_a423 : c_K.1 423 = some 70 := by decide +kernel
theorem c_q71 : c_K.2.1 71 = some (22, 5, 1, [(0, 0, 150)]) := by rfl
theorem c_a424 : c_K.1 424 = some 71 := by decide +kernel
theorem c_q72 : c_K.2.1 72 = some (21, 5, 1, [(0, 0, 1)]) := by rfl
theorem c_a425 : c_K.1 425 = some 72 := by decide +kernel
theorem c_q73 : c_K.2.1 73 = some (20, 4, 1, [(0, 0, 9)]) := by rfl
theorem c_a426 : c_K.1 426 = some 73 := by decide +kernel
theorem c_q74 : c_K.2.1 74 = some (21, 4, 1, [(0, 0, 1)]) := by rfl
theorem c_a427 : c_K.1 427 = some 74 := by decide +kernel
theorem c_q75 : c_K.2.1 75 = some (29, 60, 1, [(2, 76, 0)]) := by rfl
theorem c_a428 : c_K.1 428 = some 75 := by decide +kernel
theorem c_q76 : c_K.2.1 76 = some (20, 4, 1, [(0, 0, 49)]) := by rfl
theorem c_q77 : c_K.2.1 77 = some (20, 60, 1, [(0, 0, 19)]) := by rfl
theorem c_a489 : c_K.1 489 = some 77 := by decide +kernel
theorem c_q78 : c_K.2.1 78 = some (20, 60, 1, [(0, 0, 3)]) := by rfl
theorem c_a490 : c_K.1 490 = some 78 := by decide +kernel
theorem c_q79 : c_K.2.1 79 = some (20, 60, 1, [(0, 0, 49)]) := by rfl
theorem c_a491 : c_K.1 491 = some 79 := by decide +kernel
theorem c_q80 : c_K.2.1 80 = some (22, 60, 1, [(0, 0, 150)]) := by rfl
theorem c_a492 : c_K.1 492 = some 80 := by decide +kernel
theorem c_q81 : c_K.2.1 81 = some (21, 60, 1, [(0, 0, 1)]) := by rfl
theorem c_a493 : c_K.1 493 = some 81 := by decide +kernel
theorem c_q82 : c_K.2.1 82 = some (29, 60, 1, [(2, 83, 0)]) := by rfl
theorem c_a494 : c_K.1 494 = some 82 := by decide +kernel
theorem c_q83 : c_K.2.1 83 = some (20, 16, 1, [(0, 0, 15)]) := by rfl
theorem c_q84 : c_K.2.1 84 = some (20, 60, 1, [(0, 0, 16)]) := by rfl
theorem c_a555 : c_K.1 555 = some 84 := by decide +kernel
theorem c_q85 : c_K.2.1 85 = some (30, 60, 1, [(2, 86, 0)]) := by rfl
theorem c_a556 : c_K.1 556 = some 85 := by decide +kernel
theorem c_q86 : c_K.2.1 86 = some (21, 16, 1, [(0, 0, 1)]) := by rfl
theorem c_q87 : c_K.2.1 87 = some (21, 10, 1, [(0, 0, 1)]) := by rfl
theorem c_a617 : c_K.1 617 = some 87 := by decide +kernel
theorem c_q88 : c_K.2.1 88 = some (20, 16, 1, [(0, 0, 3)]) := by rfl
theorem c_a618 : c_K.1 618 = some 88 := by decide +kernel
theorem c_q89 : c_K.2.1 89 = some (20, 5, 1, [(0, 0, 5)]) := by rfl
theorem c_a619 : c_K.1 619 = some 89 := by decide +kernel
theorem c_q90 : c_K.2.1 90 = some (29, 5, 1, [(2, 91, 0)]) := by rfl
theorem c_a620 : c_K.1 620 = some 90 := by decide +kernel
theorem c_q91 : c_K.2.1 91 = some (20, 5, 1, [(0, 0, 9)]) := by rfl
theorem c_q92 : c_K.2.1 92 = some (32, 5, 1, [(2, 93, 0)]) := by rfl
theorem c_a626 : c_K.1 626 = some 92 := by decide +kernel
theorem c_q93 : c_K.2.1 93 = some (30, 5, 1, [(2, 94, 0)]) := by rfl
theorem c_q94 : c_K.2.1 94 = some (21, 20, 1, [(0, 0, 1)]) := by rfl
theorem c_q95 : c_K.2.1 95 = some (31, 5, 1, [(2, 96, 0)]) := by rfl
theorem c_a657 : c_K.1 657 = some 95 := by decide +kernel
theorem c_q96 : c_K.2.1 96 = some (29, 5, 1, [(2, 97, 0)]) := by rfl
theorem c_q97 : c_K.2.1 97 = some (20, 51, 1, [(0, (-1), 59)]) := by rfl
theorem c_q98 : c_K.2.1 98 = some (29, 5, 1, [(2, 99, 0)]) := by rfl
theorem c_a688 : c_K.1 688 = some 98 := by decide +kernel
theorem c_q99 : c_K.2.1 99 = some (20, 5, 1, [(0, 0, 9)]) := by rfl
theorem c_q100 : c_K.2.1 100 = some (31, 5, 1, [(2, 101, 0)]) := by rfl
theorem c_a694 : c_K.1 694 = some 100 := by decide +kernel
theorem c_q101 : c_K.2.1 101 = some (29, 5, 1, [(2, 102, 0)]) := by rfl
theorem c_q102 : c_K.2.1 102 = some (20, 9, 1, [(0, 0, 19)]) := by rfl
theorem c_q103 : c_K.2.1 103 = some (20, 9, 1, [(0, 0, 19)]) := by rfl
theorem c_a725 : c_K.1 725 = some 103 := by decide +kernel
theorem c_q104 : c_K.2.1 104 = some (29, 40, 1, [(2, 105, 0)]) := by rfl
theorem c_a726 : c_K.1 726 = some 104 := by decide +kernel
theorem c_q105 : c_K.2.1 105 = some (20, 5, 1, [(0, 0, 99)]) := by rfl
theorem c_q106 : c_K.2.1 106 = some (22, 400, 1, [(0, 0, 120)]) := by rfl
theorem c_a767 : c_K.1 767 = some 106 := by decide +kernel
theorem c_q107 : c_K.2.1 107 = some (20, 400, 1, [(0, 0, 19)]) := by rfl
theorem c_a768 : c_K.1 768 = some 107 := by decide +kernel
theorem c_q108 : c_K.2.1 108 = some (21, 20, 1, [(0, 0, 1)]) := by rfl
theorem c_a769 : c_K.1 769 = some 108 := by decide +kernel
end
/-! part 75.deal -/
section
/-! deal: there are as many who may still read as are wanted -/
theorem dO : b_cal c_K (b_lim 2) (b_orc c_K [] 3000 2) := b_orc_ok c_hJ (fun _ h => absurd h List.not_mem_nil) 3000 2
def dA : BSg := ((171, 0), ([some (2, 365, 0), some (1, 0, 0), some (1, 1, 0), none, none, none, none], [], ([(0, (-2147483648), 2147483647), (0, (-2147483648), 2147483647)], [], [])), [(50, 55)], [
  (.inl (.inl (some (0, 0, 0))), ([], [], []), (0, 0)),
  (.inr (43, [some (2, 365, 0), some (1, 2, 0), some (1, 3, 0), some (0, 0, 0), some (0, 0, 0), none, none], []), ([(0, 0, 19), (0, 1, 8)], [], []), (0, 0))])
theorem dAC : b_sgc c_K (b_orc c_K [] 3000 2) dA [43] 3000 = true := by decide +kernel
def dB : BSg := ((171, 43), ([some (2, 365, 0), some (1, 2, 0), some (1, 3, 0), some (1, 4, 0), some (1, 5, 0), none, none], [], ([(0, (-2147483648), 2147483647), (0, (-2147483648), 2147483647), (0, 0, 19), (0, 1, 8), (0, 0, 8), (0, 0, 8)], [], [(0, 0, 0), (4, 5, 0)])), [], [
  (.inr (76, [some (2, 365, 0), some (1, 2, 0), some (1, 3, 0), some (1, 4, 0), none, none, none], []), ([], [], []), (0, 0)),
  (.inr (43, [some (2, 365, 0), some (1, 2, 0), some (1, 3, 0), some (1, 6, 0), some (1, 7, 0), none, none], []), ([(0, 0, 8), (0, 0, 8), (0, 1, 8), (0, 0, 9), (0, 0, 9), (64, 0, 0), (0, 0, 0)], [((2, 365, 0), (0, 0, 45), (1, 8, 0)), ((2, 375, 0), (1, 5, 0), (1, 9, 0)), ((2, 368, 0), (1, 2, 0), (1, 10, 0)), ((2, 377, 0), (1, 2, 0), (3, 11, 0)), ((3, 11, 0), (1, 5, 0), (1, 12, 0))], [(6, 4, 1), (4, 6, (-1)), (7, 5, 1), (5, 7, (-1)), (5, 8, (-1)), (9, 10, (-1))]), (0, 0)),
  (.inr (43, [some (2, 365, 0), some (1, 2, 0), some (1, 3, 0), some (1, 6, 0), some (1, 7, 0), none, none], []), ([(0, 0, 8), (0, 0, 8), (0, 1, 8), (0, 0, 9), (0, 0, 9), (64, 0, 0), (0, 0, 0)], [((2, 365, 0), (0, 0, 45), (1, 8, 0)), ((2, 375, 0), (1, 5, 0), (1, 9, 0)), ((2, 368, 0), (1, 2, 0), (1, 10, 0)), ((2, 377, 0), (1, 2, 0), (3, 11, 0)), ((3, 11, 0), (1, 5, 0), (1, 12, 0))], [(6, 4, 1), (4, 6, (-1)), (7, 5, 1), (5, 7, (-1)), (5, 8, (-1)), (10, 9, (-1))]), (0, 0)),
  (.inr (43, [some (2, 365, 0), some (1, 2, 0), some (1, 3, 0), some (1, 4, 0), some (1, 6, 0), none, none], []), ([(0, 0, 8)], [], [(6, 5, 1), (5, 6, (-1))]), (0, 0))])
theorem dBC : b_sgc c_K (b_orc c_K [] 3000 2) dB [43, 76] 3000 = true := by decide +kernel
def dC : BSg := ((171, 76), ([some (2, 365, 0), some (1, 2, 0), some (1, 3, 0), some (1, 4, 0), none, none, none], [], ([(0, (-2147483648), 2147483647), (0, (-2147483648), 2147483647), (0, 0, 19), (0, 1, 8), (0, 0, 8)], [], [])), [(50, 55)], [
  (.inl (.inl (some (0, 0, 0))), ([], [], []), (0, 0)),
  (.inr (99, [some (2, 365, 0), some (1, 2, 0), some (1, 3, 0), none, some (0, 0, 0), none, none], []), ([], [], [(3, 4, 0)]), (0, 0))])
theorem dCC : b_sgc c_K (b_orc c_K [] 3000 2) dC [99] 3000 = true := by decide +kernel
def dD : BSg := ((171, 99), ([some (2, 365, 0), some (1, 2, 0), some (1, 3, 0), none, some (1, 4, 0), none, none], [], ([(0, (-2147483648), 2147483647), (0, (-2147483648), 2147483647), (0, 0, 19), (0, 1, 8), (0, 0, 8)], [], [])), [], [
  (.inr (105, [some (2, 365, 0), some (1, 2, 0), some (1, 3, 0), none, some (1, 5, 0), none, none], []), ([(0, 0, 7)], [], [(4, 5, 0), (5, 4, 0), (5, 3, (-1))]), (0, 0)),
  (.inr (194, [some (2, 365, 0), some (1, 2, 0), some (1, 3, 0), none, none, none, none], []), ([], [], []), (0, 0))])
theorem dDC : b_sgc c_K (b_orc c_K [] 3000 2) dD [105, 194] 3000 = true := by decide +kernel
def dR1 : BSg := ((171, 105), ([some (2, 365, 0), some (1, 2, 0), some (1, 3, 0), none, some (1, 5, 0), none, none], [], ([(0, (-2147483648), 2147483647), (0, (-2147483648), 2147483647), (0, 0, 19), (0, 1, 8), (0, 0, 8), (0, 0, 7), (0, 0, 7), (0, 1, 8), (0, 0, 9), (0, 0, 9), (64, 0, 0), (0, 0, 0)], [((2, 365, 0), (0, 0, 45), (1, 7, 0)), ((2, 375, 0), (1, 6, 0), (1, 8, 0)), ((2, 368, 0), (1, 2, 0), (1, 9, 0)), ((2, 377, 0), (1, 2, 0), (3, 10, 0)), ((3, 10, 0), (1, 6, 0), (1, 11, 0))], [(6, 7, (-1)), (8, 9, (-1))])), [], [
  (.inr (176, [some (2, 365, 0), some (1, 2, 0), some (1, 3, 0), none, some (1, 5, 0), some (1, 12, 0), none], [(0, 0, 1), (1, 12, 0), (3, 10, 0)]), ([(0, 0, 7)], [], []), (0, 0))])
def dR1T : List BCu := [(111, [some (2, 365, 0), some (1, 2, 0), some (1, 3, 0), none, some (1, 5, 0), some (1, 12, 0), some (1, 13, 0)], ([(0, (-2147483648), 2147483647), (0, (-2147483648), 2147483647), (0, 0, 19), (0, 1, 8), (0, 0, 8), (0, 0, 7), (0, 0, 7), (0, 1, 8), (0, 0, 9), (0, 0, 9), (64, 0, 0), (0, 0, 0), (0, (-1), 7), (0, 0, 7)], [((2, 365, 0), (0, 0, 45), (1, 7, 0)), ((2, 375, 0), (1, 6, 0), (1, 8, 0)), ((2, 368, 0), (1, 2, 0), (1, 9, 0)), ((2, 377, 0), (1, 2, 0), (3, 10, 0)), ((3, 10, 0), (1, 6, 0), (1, 11, 0))], [(6, 7, (-1)), (8, 9, (-1)), (13, 6, 0), (13, 7, (-1))]), ([(13, (-1))], 20), some (13, 6)),
  (111, [some (2, 365, 0), some (1, 2, 0), some (1, 3, 0), none, some (1, 5, 0), some (1, 12, 0), some (1, 13, 0)], ([(0, (-2147483648), 2147483647), (0, (-2147483648), 2147483647), (0, 0, 19), (0, 1, 8), (0, 0, 8), (0, 0, 7), (0, 0, 7), (0, 1, 8), (0, 0, 9), (0, 0, 9), (64, 0, 0), (0, 0, 0), (0, 0, 7), (0, 0, 8)], [((2, 365, 0), (0, 0, 45), (1, 7, 0)), ((2, 375, 0), (1, 6, 0), (1, 8, 0)), ((2, 368, 0), (1, 2, 0), (1, 9, 0)), ((2, 377, 0), (1, 2, 0), (3, 10, 0)), ((3, 10, 0), (1, 6, 0), (1, 11, 0))], [(6, 7, (-1)), (8, 9, (-1))]), ([(13, (-1))], 20), none)]
theorem dR1C : b_rgc c_K (b_orc c_K [] 3000 2) dR1 dR1T [176] 3000 = true := by decide +kernel
def dR2 : BSg := ((171, 105), ([some (2, 365, 0), some (1, 2, 0), some (1, 3, 0), none, some (1, 5, 0), none, none], [], ([(0, (-2147483648), 2147483647), (0, (-2147483648), 2147483647), (0, 0, 19), (0, 1, 8), (0, 0, 8), (0, 0, 7), (0, 0, 7), (0, 1, 8), (0, 0, 9), (0, 0, 9), (64, 0, 0), (0, 0, 0)], [((2, 365, 0), (0, 0, 45), (1, 7, 0)), ((2, 375, 0), (1, 6, 0), (1, 8, 0)), ((2, 368, 0), (1, 2, 0), (1, 9, 0)), ((2, 377, 0), (1, 2, 0), (3, 10, 0)), ((3, 10, 0), (1, 6, 0), (1, 11, 0))], [(6, 7, (-1)), (9, 8, (-1))])), [], [
  (.inr (176, [some (2, 365, 0), some (1, 2, 0), some (1, 3, 0), none, some (1, 5, 0), some (1, 12, 0), none], [(0, 0, 1), (1, 12, 0), (3, 10, 0)]), ([(0, 0, 7)], [], []), (0, 0))])
def dR2T : List BCu := [(111, [some (2, 365, 0), some (1, 2, 0), some (1, 3, 0), none, some (1, 5, 0), some (1, 12, 0), some (1, 13, 0)], ([(0, (-2147483648), 2147483647), (0, (-2147483648), 2147483647), (0, 0, 19), (0, 1, 8), (0, 0, 8), (0, 0, 7), (0, 0, 7), (0, 1, 8), (0, 0, 9), (0, 0, 9), (64, 0, 0), (0, 0, 0), (0, (-1), 7), (0, 0, 7)], [((2, 365, 0), (0, 0, 45), (1, 7, 0)), ((2, 375, 0), (1, 6, 0), (1, 8, 0)), ((2, 368, 0), (1, 2, 0), (1, 9, 0)), ((2, 377, 0), (1, 2, 0), (3, 10, 0)), ((3, 10, 0), (1, 6, 0), (1, 11, 0))], [(6, 7, (-1)), (9, 8, (-1)), (13, 6, 0), (13, 7, (-1))]), ([(13, (-1))], 20), some (13, 6)),
  (111, [some (2, 365, 0), some (1, 2, 0), some (1, 3, 0), none, some (1, 5, 0), some (1, 12, 0), some (1, 13, 0)], ([(0, (-2147483648), 2147483647), (0, (-2147483648), 2147483647), (0, 0, 19), (0, 1, 8), (0, 0, 8), (0, 0, 7), (0, 0, 7), (0, 1, 8), (0, 0, 9), (0, 0, 9), (64, 0, 0), (0, 0, 0), (0, 0, 7), (0, 0, 8)], [((2, 365, 0), (0, 0, 45), (1, 7, 0)), ((2, 375, 0), (1, 6, 0), (1, 8, 0)), ((2, 368, 0), (1, 2, 0), (1, 9, 0)), ((2, 377, 0), (1, 2, 0), (3, 10, 0)), ((3, 10, 0), (1, 6, 0), (1, 11, 0))], [(6, 7, (-1)), (9, 8, (-1))]), ([(13, (-1))], 20), none)]
theorem dR2C : b_rgc c_K (b_orc c_K [] 3000 2) dR2 dR2T [176] 3000 = true := by decide +kernel
def dG : BSg := ((171, 177), ([some (2, 365, 0), some (1, 2, 0), some (1, 3, 0), none, some (1, 4, 0), some (1, 5, 0), none], [], ([(0, (-2147483648), 2147483647), (0, (-2147483648), 2147483647), (0, 0, 19), (0, 1, 8), (0, 0, 7), (0, 0, 7)], [], [])), [(61, 0)], [
  (.inr (99, [some (2, 365, 0), some (1, 2, 0), some (1, 3, 0), none, some (1, 4, 1), none, none], []), ([], [], []), (0, 0))])
theorem dGC : b_sgc c_K (b_orc c_K [] 3000 2) dG [99] 3000 = true := by decide +kernel
def dH : BSg := ((171, 194), ([some (2, 365, 0), some (1, 2, 0), some (1, 3, 0), none, none, none, none], [], ([(0, (-2147483648), 2147483647), (0, (-2147483648), 2147483647), (0, 0, 19), (0, 1, 8)], [], [])), [], [
  (.inl (.inl (some (1, 4, 0))), ([(0, 0, 8)], [], []), (0, 0))])
def dHT : List BCu := [(200, [some (2, 365, 0), some (1, 2, 0), some (1, 3, 0), none, some (1, 4, 0), some (1, 5, 0), none], ([(0, (-2147483648), 2147483647), (0, (-2147483648), 2147483647), (0, 0, 19), (0, 1, 8), (0, 0, 8), (0, 0, 8)], [], [(4, 5, 0)]), ([(5, (-1))], 20), none)]
theorem dHC : b_rgc c_K (b_orc c_K [] 3000 2) dH dHT [] 3000 = true := by decide +kernel
/-- a reader who may read a film -/
def dP (h : AH) (film k : Nat) : Prop := ∃ (r x y : Int32) (row : Nat), c_at h 365 45 = some (.int r) ∧ (k : Int) < r.toInt ∧ c_at h 375 k = some (.int x) ∧ c_at h 368 film = some (.int y) ∧ x ≠ y ∧ c_at h 377 film = some (.ref row) ∧ c_K.1 row = some 63 ∧ c_at h row k = some (.int 0)
theorem dP_frm {W : BW} {h h' : AH} (H : b_H c_K h) (f : b_frm c_K W h h') (w1 : W.contains (50, 45) = false) (w2 : W.contains (60, 0) = false) (w3 : W.contains (53, 0) = false) (w4 : W.contains (62, 0) = false) (w5 : W.contains (63, 0) = false) {film k : Nat} (p : dP h film k) : dP h' film k := by
  obtain ⟨r, x, y, row, p1, p2, p3, p4, p5, p6, p7, p8⟩ := p
  refine ⟨r, x, y, row, ?_, p2, ?_, ?_, p5, ?_, p7, ?_⟩
  · rw [f.kF H c_a365 c_q50 rfl w1]; exact p1
  · rw [f.k H c_a375 c_q60 (by decide) w2]; exact p3
  · rw [f.k H c_a368 c_q53 (by decide) w3]; exact p4
  · rw [f.k H c_a377 c_q62 (by decide) w4]; exact p6
  · rw [f.k H p7 c_q63 (by decide) w5]; exact p8
theorem c_ne {a b g g' : Nat} (h1 : c_K.1 a = some g) (h2 : c_K.1 b = some g') (h : g ≠ g') : a ≠ b := fun e => by
  subst e
  rw [h1] at h2
  cases h2
  exact h rfl
theorem dP_set {h : AH} {a n t : Nat} {vs : List Value} {w : Value} (ha : c_K.1 a = some 63) (h1 : h[a]? = some (t, vs)) (hn : n < vs.length) {film k : Nat} (hk : k ≠ n) (p : dP h film k) : dP (h.set a (t, vs.set n w)) film k := by
  obtain ⟨r, x, y, row, p1, p2, p3, p4, p5, p6, p7, p8⟩ := p
  have ne : ∀ {b g : Nat}, c_K.1 b = some g → g ≠ 63 → ∀ j, c_at (h.set a (t, vs.set n w)) b j = c_at h b j := fun hb hg j => by
    rw [c_at_set h1 hn, if_neg (fun q => c_ne hb ha hg q.1)]
  refine ⟨r, x, y, row, ?_, p2, ?_, ?_, p5, ?_, p7, ?_⟩
  · rw [ne c_a365 (by decide)]; exact p1
  · rw [ne c_a375 (by decide)]; exact p3
  · rw [ne c_a368 (by decide)]; exact p4
  · rw [ne c_a377 (by decide)]; exact p6
  · rw [c_at_set h1 hn, if_neg (fun q => hk q.2)]; exact p8
theorem c_ins171 : a_ins 171 176 = some (.bastore, 1) := by decide +kernel
def dE176 : BQ := dR1.2.1.2.2.1 ++ [(0, 0, 7)]
def dbl176 : BL := [some (2, 365, 0), some (1, 2, 0), some (1, 3, 0), none, some (1, 5, 0), some (1, 12, 0), none]
/-- the store, and on to the loop's head -/
theorem d176 {ν : BN} {h : AH} (g : b_G c_K ν h h (dE176, [], [], [], [])) (hc : ν 3 - ν 5 ≤ (c_cnt (dP h (ν 2).toNat) 8 : Int)) (ih : ∀ (ν' : BN) (h' : AH), b_G c_K ν' h' h' (dD.2.1.2.2.1, [], [], [], []) → ν' 2 = ν 2 → ν' 3 = ν 3 → ν' 4 = ν 5 + 1 → ν' 3 - ν' 4 ≤ (c_cnt (dP h' (ν' 2).toNat) 8 : Int) → b_gd c_K c_r171 2 99 dD.2.1.1 [] dD.2.1.2.2.1.length ν' h' 0 0) : b_gd c_K c_r171 2 176 dbl176 [(0, 0, 1), (1, 12, 0), (3, 10, 0)] dE176.length ν h 0 0 := by
  refine b_gd.put c_hJ (gg := 63) (row := (21, 8, 1, [(0, 0, 1)])) (ty := (0, 0, 1)) c_ins171 (by rfl) (by decide +kernel) rfl (by decide +kernel) (by decide) (by decide) g (fun a n t vs w ha hn hw h1 hl g1 => ?_)
  refine b_gd.cv (T := (dG.2.1.2.2.1, [], [])) (bl := dG.2.1.1) (bs := []) (σ := [(1, 0, 0), (1, 1, 0), (1, 2, 0), (1, 3, 0), (1, 5, 0), (1, 12, 0)]) (by decide +kernel) g1.bare (fun g2 => ?_)
  refine b_gd.sg c_hJ dO dGC rfl (by decide) (by decide) g2 (b_al.c ?_ b_al.n)
  intro ν3 h3 x3 g3
  refine b_pq.to rfl ?_
  refine b_gd.cv (T := (dD.2.1.2.2.1, [], [])) (bl := dD.2.1.1) (bs := []) (σ := [(1, 0, 0), (1, 1, 0), (1, 2, 0), (1, 3, 0), (1, 4, 1)]) (by decide +kernel) g3 (fun g4 => ?_)
  have e2 : ν3 2 = ν 2 := (x3.2 2 (by decide)).trans (by show ν 2 + 0 = ν 2; omega)
  have e3 : ν3 3 = ν 3 := (x3.2 3 (by decide)).trans (by show ν 3 + 0 = ν 3; omega)
  have e4 : ν3 4 = ν 5 := (x3.2 4 (by decide)).trans (by show ν 5 + 0 = ν 5; omega)
  have k2 : b_vT [(1, 0, 0), (1, 1, 0), (1, 2, 0), (1, 3, 0), (1, 4, 1)] ν3 2 = ν 2 := by show ν3 2 + 0 = ν 2; omega
  have k3 : b_vT [(1, 0, 0), (1, 1, 0), (1, 2, 0), (1, 3, 0), (1, 4, 1)] ν3 3 = ν 3 := by show ν3 3 + 0 = ν 3; omega
  have k4 : b_vT [(1, 0, 0), (1, 1, 0), (1, 2, 0), (1, 3, 0), (1, 4, 1)] ν3 4 = ν 5 + 1 := by show ν3 4 + 1 = ν 5 + 1; omega
  refine ih _ _ g4 k2 k3 k4 ?_
  rw [k2, k3, k4]
  have hrow : c_K.1 a = some 63 := b_gr_ok g.1 ha (by decide +kernel)
  have H1 := g1.2.2.2.2.1
  have F3 := g3.2.2.2.2.2
  have c1 : c_cnt (dP h (ν 2).toNat) 8 ≤ c_cnt (dP h3 (ν 2).toNat) 8 + 1 := c_cnt_one (m := n) fun k _ hk p => dP_frm H1 F3 (by decide) (by decide) (by decide) (by decide) (by decide) (dP_set hrow h1 hl hk p)
  omega
theorem d99 : ∀ (m : Nat) (ν : BN) (h : AH), b_G c_K ν h h (dD.2.1.2.2.1, [], [], [], []) → (ν 3 - ν 4).toNat < m → ν 3 - ν 4 ≤ (c_cnt (dP h (ν 2).toNat) 8 : Int) → b_gd c_K c_r171 2 99 dD.2.1.1 [] dD.2.1.2.2.1.length ν h 0 0
  | 0, ν, h, g, hm, hc => absurd hm (Nat.not_lt_zero _)
  | m + 1, ν, h, g, hm, hc => by
    refine b_gd.sg c_hJ dO dDC rfl (by decide) (by decide) g (b_al.c ?_ (b_al.c ?_ b_al.n))
    · intro ν1 h1 x1 g1
      refine b_pq.to rfl ?_
      have k1 : ν1 4 ≤ ν1 5 + 0 := g1.co (by decide)
      have k2 : ν1 5 ≤ ν1 4 + 0 := g1.co (by decide)
      have k3 : ν1 5 ≤ ν1 3 + (-1) := g1.co (by decide)
      have n2 : ν1 2 = ν 2 := x1.2 2 (by decide)
      have n3 : ν1 3 = ν 3 := x1.2 3 (by decide)
      have n4 : ν1 4 = ν 4 := x1.2 4 (by decide)
      have iv2 := g1.iv 2 (lo := 0) (hi := 19) rfl
      have iv3 := g1.iv 3 (lo := 1) (hi := 8) rfl
      have iv5 := g1.iv 5 (lo := 0) (hi := 7) rfl
      have H1 := g1.2.2.2.2.1
      have cc : c_cnt (dP h (ν 2).toNat) 8 ≤ c_cnt (dP h1 (ν 2).toNat) 8 := c_cnt_le fun k _ p => dP_frm g.2.2.2.2.1 g1.2.2.2.2.2 (by decide) (by decide) (by decide) (by decide) (by decide) p
      have cp : 0 < c_cnt (dP h1 (ν 2).toNat) 8 := by omega
      obtain ⟨w, w1, r, x, y, row, p1, p2, p3, p4, p5, p6, p7, p8⟩ := c_cnt_pos cp
      have tr : r.toInt ≤ 8 := by
        obtain ⟨z, z1, z2, z3⟩ := H1.rdI (j := 45) (lo := 0) (hi := 8) c_a365 c_q50 (by decide) (by decide) rfl
        rw [p1] at z1
        cases z1
        exact z3
      have tx : 0 ≤ x.toInt ∧ x.toInt ≤ 9 := by
        obtain ⟨z, z1, z2⟩ := H1.rdI (j := w) (lo := 0) (hi := 9) c_a375 c_q60 (by decide) w1 rfl
        rw [p3] at z1
        cases z1
        exact z2
      have ty : 0 ≤ y.toInt ∧ y.toInt ≤ 9 := by
        obtain ⟨z, z1, z2⟩ := H1.rdI (j := (ν 2).toNat) (lo := 0) (hi := 9) c_a368 c_q53 (by decide) (show (ν 2).toNat < 20 by omega) rfl
        rw [p4] at z1
        cases z1
        exact z2
      have hxy : x.toInt ≠ y.toInt := fun e => p5 (Int32.toInt_inj.mp e)
      generalize hν : (fun n => match n with
        | 6 => (w : Int)
        | 7 => r.toInt
        | 8 => x.toInt
        | 9 => y.toInt
        | 10 => (row : Int)
        | 11 => 0
        | n => ν1 n : BN) = ν2
      have hx : ∀ n, n < 6 → ν2 n = ν1 n := fun n hn => by
        rw [← hν]
        rcases n with _ | _ | _ | _ | _ | _ | n <;> first | rfl | (exfalso; omega)
      have v6 : ν2 6 = w := by subst hν; rfl
      have v7 : ν2 7 = r.toInt := by subst hν; rfl
      have v8 : ν2 8 = x.toInt := by subst hν; rfl
      have v9 : ν2 9 = y.toInt := by subst hν; rfl
      have v10 : ν2 10 = row := by subst hν; rfl
      have v11 : ν2 11 = 0 := by subst hν; rfl
      have v2 := hx 2 (by decide)
      have cond : ∀ (c : Nat × Nat × Int), c.1 < 12 → c.2.1 < 12 → ν2 c.1 ≤ ν2 c.2.1 + c.2.2 → b_G c_K ν2 h1 h1 (dR1.2.1.2.2.1, [((2, 365, 0), (0, 0, 45), (1, 7, 0)), ((2, 375, 0), (1, 6, 0), (1, 8, 0)), ((2, 368, 0), (1, 2, 0), (1, 9, 0)), ((2, 377, 0), (1, 2, 0), (3, 10, 0)), ((3, 10, 0), (1, 6, 0), (1, 11, 0))], [(6, 7, (-1)), c], [], []) := fun c c1 c2 c3 => by
        have g2 := g1.ad (ν' := ν2) (E' := [(0, 0, 7), (0, 1, 8), (0, 0, 9), (0, 0, 9), (64, 0, 0), (0, 0, 0)]) (F' := [((2, 365, 0), (0, 0, 45), (1, 7, 0)), ((2, 375, 0), (1, 6, 0), (1, 8, 0)), ((2, 368, 0), (1, 2, 0), (1, 9, 0)), ((2, 377, 0), (1, 2, 0), (3, 10, 0)), ((3, 10, 0), (1, 6, 0), (1, 11, 0))]) (C' := [(6, 7, (-1)), c]) hx
          ⟨by show b_q _ _ (ν2 6); rw [v6]; exact b_q.i (by omega) (by omega), by show b_q _ _ (ν2 7); rw [v7]; exact b_q.i (by omega) (by omega), by show b_q _ _ (ν2 8); rw [v8]; exact b_q.i (by omega) (by omega), by show b_q _ _ (ν2 9); rw [v9]; exact b_q.i (by omega) (by omega), by show b_q _ _ (ν2 10); rw [v10]; exact b_q.r p7, by show b_q _ _ (ν2 11); rw [v11]; exact b_q.i (by omega) (by omega), trivial⟩
          ⟨b_fa.mk p1 (Or.inl ⟨rfl, rfl⟩) (Or.inl ⟨rfl, rfl⟩) (Or.inr ⟨rfl, by decide, by show _ = ν2 7 + 0; omega⟩),
           b_fa.mk p3 (Or.inl ⟨rfl, rfl⟩) (Or.inr ⟨rfl, by decide, by show _ = ν2 6 + 0; omega⟩) (Or.inr ⟨rfl, by decide, by show _ = ν2 8 + 0; omega⟩),
           b_fa.mk p4 (Or.inl ⟨rfl, rfl⟩) (Or.inr ⟨rfl, by decide, by show _ = ν2 2 + 0; omega⟩) (Or.inr ⟨rfl, by decide, by show _ = ν2 9 + 0; omega⟩),
           b_fa.mk p6 (Or.inl ⟨rfl, rfl⟩) (Or.inr ⟨rfl, by decide, by show _ = ν2 2 + 0; omega⟩) (Or.inr ⟨rfl, by decide, by show _ = ν2 10; omega⟩),
           b_fa.mk p8 (Or.inr ⟨rfl, by decide, by show _ = ν2 10; omega⟩) (Or.inr ⟨rfl, by decide, by show _ = ν2 6 + 0; omega⟩) (Or.inr ⟨rfl, by decide, by show (0 : Int) = ν2 11 + 0; omega⟩), trivial⟩
          ⟨⟨by decide, by decide, by show ν2 6 ≤ ν2 7 + (-1); omega⟩, ⟨c1, c2, c3⟩, trivial⟩
        exact ⟨g2.1, g2.2.1, (fun c' hc' => g2.2.2.1 c' (by
          rcases List.mem_cons.mp hc' with e | e
          · rw [e]; exact List.mem_cons_self
          · rw [List.mem_singleton.mp e]; exact List.mem_cons_of_mem _ List.mem_cons_self)), (fun o ho => by cases ho), g2.2.2.2.2.1, b_frm.rf⟩
      have go : ∀ (ν3 : BN) (h3 : AH), b_ext 12 13 ν2 ν3 → b_G c_K ν3 h1 h3 (dE176, [], [], [], []) → b_gd c_K c_r171 2 176 dbl176 [(0, 0, 1), (1, 12, 0), (3, 10, 0)] dE176.length ν3 h3 0 0 := fun ν3 h3 x3 g3 => by
        have m2 : ν3 2 = ν 2 := (x3.2 2 (by decide)).trans (v2.trans n2)
        have m3 : ν3 3 = ν 3 := (x3.2 3 (by decide)).trans ((hx 3 (by decide)).trans n3)
        have m5 : ν3 5 = ν1 5 := (x3.2 5 (by decide)).trans (hx 5 (by decide))
        refine d176 g3.here ?_ (fun ν' h' g' e2 e3 e4 hc' => d99 m ν' h' g' (by omega) hc')
        have c2 : c_cnt (dP h1 (ν 2).toNat) 8 ≤ c_cnt (dP h3 (ν 2).toNat) 8 := c_cnt_le fun k _ p => dP_frm H1 g3.2.2.2.2.2 (by decide) (by decide) (by decide) (by decide) (by decide) p
        rw [m2]
        omega
      refine b_gd.more (N' := 12) (ν' := ν2) ⟨by decide, hx⟩ (by decide) ?_
      rcases Int.lt_or_gt_of_ne hxy with hlt | hgt
      · refine b_gd.rg c_hJ dO dR1C rfl (by decide) (by decide) (cond (8, 9, -1) (by decide) (by decide) (by show ν2 8 ≤ ν2 9 + (-1); omega)) (b_al.c ?_ b_al.n)
        intro ν3 h3 x3 g3
        exact b_pq.to rfl (go ν3 h3 x3 g3)
      · refine b_gd.rg c_hJ dO dR2C rfl (by decide) (by decide) (cond (9, 8, -1) (by decide) (by decide) (by show ν2 9 ≤ ν2 8 + (-1); omega)) (b_al.c ?_ b_al.n)
        intro ν3 h3 x3 g3
        exact b_pq.to rfl (go ν3 h3 x3 g3)
    · intro ν1 h1 x1 g1
      refine b_pq.to rfl ?_
      refine b_gd.cv (T := (dH.2.1.2.2.1, [], [])) (bl := dH.2.1.1) (bs := []) (σ := [(1, 0, 0), (1, 1, 0), (1, 2, 0), (1, 3, 0)]) (by decide +kernel) g1 (fun g2 => ?_)
      refine b_gd.rg c_hJ dO dHC rfl (by decide) (by decide) g2 (b_al.c ?_ b_al.n)
      intro ν3 h3 x3 g3
      exact b_pq.int (lo := 0) (hi := 8) (by decide) g3
theorem d43 : ∀ (m : Nat) (ν : BN) (h : AH), b_G c_K ν h h (dB.2.1.2.2.1, [], [], [], []) → ν 4 ≤ ν 5 → (8 - ν 5).toNat < m → ν 4 ≤ (c_cnt (dP h (ν 2).toNat) (ν 5).toNat : Int) → b_gd c_K c_r171 2 43 dB.2.1.1 [] dB.2.1.2.2.1.length ν h 0 0
  | 0, ν, h, g, _, hm, hc => absurd hm (Nat.not_lt_zero _)
  | m + 1, ν, h, g, h45, hm, hc => by
    have g0 := g.ad (ν' := ν) (E' := []) (F' := []) (C' := [(0, 0, 0), (4, 5, 0)]) (fun _ _ => rfl) trivial trivial ⟨⟨by decide, by decide, by show ν 0 ≤ ν 0 + 0; omega⟩, ⟨by decide, by decide, by show ν 4 ≤ ν 5 + 0; omega⟩, trivial⟩
    have iv5 := g.iv 5 (lo := 0) (hi := 8) rfl
    have dp : ∀ (h1 : AH), b_frm c_K [] h h1 → ∀ n, c_cnt (dP h (ν 2).toNat) n ≤ c_cnt (dP h1 (ν 2).toNat) n := fun h1 f n => c_cnt_le fun k _ p => dP_frm g.2.2.2.2.1 f (by decide) (by decide) (by decide) (by decide) (by decide) p
    have up : ∀ (ν1 : BN) (h1 : AH) (E : BQ) (F : BF) (C : BC), b_ext 6 13 ν ν1 → b_G c_K ν1 h h1 (dB.2.1.2.2.1 ++ [(0, 0, 8), (0, 0, 8), (0, 1, 8), (0, 0, 9), (0, 0, 9), (64, 0, 0), (0, 0, 0)], F, C, [], []) → ν1 6 = ν 4 + 1 → ν1 7 = ν 5 + 1 → dP h1 (ν 2).toNat (ν 5).toNat → b_gd c_K c_r171 2 43 [some (2, 365, 0), some (1, 2, 0), some (1, 3, 0), some (1, 6, 0), some (1, 7, 0), none, none] [] 13 ν1 h1 0 0 := fun ν1 h1 E F C x1 g1 a1 a2 a3 => by
      have g1' : b_G c_K ν1 h1 h1 (dB.2.1.2.2.1 ++ [(0, 0, 8), (0, 0, 8), (0, 1, 8), (0, 0, 9), (0, 0, 9), (64, 0, 0), (0, 0, 0)], [], [], [], []) := ⟨g1.1, (fun f hf => by cases hf), (fun f hf => by cases hf), (fun f hf => by cases hf), g1.2.2.2.2.1, b_frm.rf⟩
      refine b_gd.cv (T := (dB.2.1.2.2.1, [], [])) (bl := dB.2.1.1) (bs := []) (σ := [(1, 0, 0), (1, 1, 0), (1, 2, 0), (1, 3, 0), (1, 6, 0), (1, 7, 0)]) (by decide +kernel) g1' (fun g2 => ?_)
      have k2 : b_vT [(1, 0, 0), (1, 1, 0), (1, 2, 0), (1, 3, 0), (1, 6, 0), (1, 7, 0)] ν1 2 = ν 2 := by show ν1 2 + 0 = ν 2; have := x1.2 2 (by decide); omega
      have k4 : b_vT [(1, 0, 0), (1, 1, 0), (1, 2, 0), (1, 3, 0), (1, 6, 0), (1, 7, 0)] ν1 4 = ν 4 + 1 := by show ν1 6 + 0 = _; omega
      have k5 : b_vT [(1, 0, 0), (1, 1, 0), (1, 2, 0), (1, 3, 0), (1, 6, 0), (1, 7, 0)] ν1 5 = ν 5 + 1 := by show ν1 7 + 0 = _; omega
      have iv7 := g1'.iv 7 (lo := 0) (hi := 8) rfl
      refine d43 m _ _ g2 (by rw [k4, k5]; omega) (by rw [k5]; omega) ?_
      rw [k2, k4, k5, show (ν 5 + 1).toNat = (ν 5).toNat + 1 by omega, c_cnt_s.1 a3]
      have := dp h1 g1.2.2.2.2.2 (ν 5).toNat
      omega
    have wit : ∀ (ν1 : BN) (h1 : AH) (F : BF) (C : BC), b_ext 6 13 ν ν1 → b_G c_K ν1 h h1 (dB.2.1.2.2.1 ++ [(0, 0, 8), (0, 0, 8), (0, 1, 8), (0, 0, 9), (0, 0, 9), (64, 0, 0), (0, 0, 0)], [((2, 365, 0), (0, 0, 45), (1, 8, 0)), ((2, 375, 0), (1, 5, 0), (1, 9, 0)), ((2, 368, 0), (1, 2, 0), (1, 10, 0)), ((2, 377, 0), (1, 2, 0), (3, 11, 0)), ((3, 11, 0), (1, 5, 0), (1, 12, 0))], C, [], []) → ν1 5 ≤ ν1 8 + (-1) → ν1 9 ≠ ν1 10 → dP h1 (ν 2).toNat (ν 5).toNat := fun ν1 h1 F C x1 g1 c1 c2 => by
      have m2 := x1.2 2 (by decide)
      have m5 := x1.2 5 (by decide)
      have iv2 := g1.iv 2 (lo := 0) (hi := 19) rfl
      have iv12 := g1.iv 12 (lo := 0) (hi := 0) rfl
      obtain ⟨a, a1, a2⟩ := g1.1.rf (n := 11) (g := 63) rfl
      obtain ⟨r, r1, r2⟩ := g1.rdF (a := 365) (j := 45) (m := 8) (k' := 0) (by rfl)
      obtain ⟨x, y1, y2⟩ := g1.rd (a := 375) (n := 5) (m := 9) (k := 0) (k' := 0) (by rfl) (j := (ν 5).toNat) (by omega)
      obtain ⟨y, z1, z2⟩ := g1.rd (a := 368) (n := 2) (m := 10) (k := 0) (k' := 0) (by rfl) (j := (ν 2).toNat) (by omega)
      obtain ⟨b, b1, b2⟩ := g1.rdA (a := 377) (n := 2) (m := 11) (k := 0) (by rfl) (j := (ν 2).toNat) (by omega)
      obtain ⟨c, v, v1, v2, v3⟩ := g1.rd2 (p := 11) (n := 5) (m := 12) (k := 0) (k' := 0) (by rfl) (j := (ν 5).toNat) (by omega)
      have e1 : b = a := by omega
      have e2 : c = a := by omega
      rw [e1] at b1
      rw [e2] at v2
      refine ⟨r, x, y, a, r1, by omega, y1, z1, fun e => c2 (by rw [e] at y2; omega), b1, a2, ?_⟩
      have e3 : v.toInt = 0 := by omega
      have z0 : (0 : Int32).toInt = 0 := by decide
      rw [v2, show v = 0 from Int32.toInt_inj.mp (by omega)]
    refine b_gd.sg c_hJ dO dBC rfl (by decide) (by decide) (g0.wk (by decide)) (b_al.c ?_ (b_al.c ?_ (b_al.c ?_ (b_al.c ?_ b_al.n))))
    · intro ν1 h1 x1 g1
      refine b_pq.to rfl ?_
      refine b_gd.cv (T := (dC.2.1.2.2.1, [], [])) (bl := dC.2.1.1) (bs := []) (σ := [(1, 0, 0), (1, 1, 0), (1, 2, 0), (1, 3, 0), (1, 4, 0)]) (by decide +kernel) g1 (fun g2 => ?_)
      refine b_gd.sg c_hJ dO dCC rfl (by decide) (by decide) g2 (b_al.c ?_ (b_al.c ?_ b_al.n))
      · intro ν3 h3 x3 g3
        exact b_pq.int (lo := 0) (hi := 8) (by decide) g3
      · intro ν3 h3 x3 g3
        refine b_pq.to rfl ?_
        have c34 : ν3 3 ≤ ν3 4 + 0 := g3.co (by decide)
        have e2 : ν3 2 = ν 2 := (x3.2 2 (by decide)).trans (by show ν1 2 + 0 = ν 2; have := x1.2 2 (by decide); omega)
        have e4 : ν3 4 = ν 4 := (x3.2 4 (by decide)).trans (by show ν1 4 + 0 = ν 4; have := x1.2 4 (by decide); omega)
        refine b_gd.cv (T := (dD.2.1.2.2.1, [], [])) (bl := dD.2.1.1) (bs := []) (σ := [(1, 0, 0), (1, 1, 0), (1, 2, 0), (1, 3, 0), (0, 0, 0)]) (by decide +kernel) g3 (fun g4 => ?_)
        have k2 : b_vT [(1, 0, 0), (1, 1, 0), (1, 2, 0), (1, 3, 0), (0, 0, 0)] ν3 2 = ν 2 := by show ν3 2 + 0 = ν 2; omega
        have k3 : b_vT [(1, 0, 0), (1, 1, 0), (1, 2, 0), (1, 3, 0), (0, 0, 0)] ν3 3 = ν3 3 := by show ν3 3 + 0 = ν3 3; omega
        have k4 : b_vT [(1, 0, 0), (1, 1, 0), (1, 2, 0), (1, 3, 0), (0, 0, 0)] ν3 4 = 0 := rfl
        refine d99 _ _ _ g4 (Nat.lt_succ_self _) ?_
        rw [k2, k3, k4]
        have c1 := dp h1 g1.2.2.2.2.2 8
        have c2 : c_cnt (dP h1 (ν 2).toNat) 8 ≤ c_cnt (dP h3 (ν 2).toNat) 8 := c_cnt_le fun k _ p => dP_frm g1.2.2.2.2.1 g3.2.2.2.2.2 (by decide) (by decide) (by decide) (by decide) (by decide) p
        have c3 : c_cnt (dP h (ν 2).toNat) (ν 5).toNat ≤ c_cnt (dP h (ν 2).toNat) 8 := c_cnt_mono (by omega)
        omega
    · intro ν1 h1 x1 g1
      have k1 : ν1 6 ≤ ν1 4 + 1 := g1.co (by decide)
      have k2 : ν1 4 ≤ ν1 6 + (-1) := g1.co (by decide)
      have k3 : ν1 7 ≤ ν1 5 + 1 := g1.co (by decide)
      have k4 : ν1 5 ≤ ν1 7 + (-1) := g1.co (by decide)
      have k5 : ν1 5 ≤ ν1 8 + (-1) := g1.co (by decide)
      have k6 : ν1 9 ≤ ν1 10 + (-1) := g1.co (by decide)
      have m4 := x1.2 4 (by decide)
      have m5 := x1.2 5 (by decide)
      exact b_pq.to rfl (up ν1 h1 [] _ _ x1 g1 (by omega) (by omega) (wit ν1 h1 [] _ x1 g1 k5 (by omega)))
    · intro ν1 h1 x1 g1
      have k1 : ν1 6 ≤ ν1 4 + 1 := g1.co (by decide)
      have k2 : ν1 4 ≤ ν1 6 + (-1) := g1.co (by decide)
      have k3 : ν1 7 ≤ ν1 5 + 1 := g1.co (by decide)
      have k4 : ν1 5 ≤ ν1 7 + (-1) := g1.co (by decide)
      have k5 : ν1 5 ≤ ν1 8 + (-1) := g1.co (by decide)
      have k6 : ν1 10 ≤ ν1 9 + (-1) := g1.co (by decide)
      have m4 := x1.2 4 (by decide)
      have m5 := x1.2 5 (by decide)
      exact b_pq.to rfl (up ν1 h1 [] _ _ x1 g1 (by omega) (by omega) (wit ν1 h1 [] _ x1 g1 k5 (by omega)))
    · intro ν1 h1 x1 g1
      refine b_pq.to rfl ?_
      have k3 : ν1 6 ≤ ν1 5 + 1 := g1.co (by decide)
      have k4 : ν1 5 ≤ ν1 6 + (-1) := g1.co (by decide)
      have m2 := x1.2 2 (by decide)
      have m4 := x1.2 4 (by decide)
      have m5 := x1.2 5 (by decide)
      refine b_gd.cv (T := (dB.2.1.2.2.1, [], [])) (bl := dB.2.1.1) (bs := []) (σ := [(1, 0, 0), (1, 1, 0), (1, 2, 0), (1, 3, 0), (1, 4, 0), (1, 6, 0)]) (by decide +kernel) g1 (fun g2 => ?_)
      have e2 : b_vT [(1, 0, 0), (1, 1, 0), (1, 2, 0), (1, 3, 0), (1, 4, 0), (1, 6, 0)] ν1 2 = ν 2 := by show ν1 2 + 0 = ν 2; omega
      have e4 : b_vT [(1, 0, 0), (1, 1, 0), (1, 2, 0), (1, 3, 0), (1, 4, 0), (1, 6, 0)] ν1 4 = ν 4 := by show ν1 4 + 0 = _; omega
      have e5 : b_vT [(1, 0, 0), (1, 1, 0), (1, 2, 0), (1, 3, 0), (1, 4, 0), (1, 6, 0)] ν1 5 = ν 5 + 1 := by show ν1 6 + 0 = _; omega
      have iv6 := g1.iv 6 (lo := 0) (hi := 8) rfl
      refine d43 m _ _ g2 (by rw [e4, e5]; omega) (by rw [e5]; omega) ?_
      rw [e2, e4, e5, show (ν 5 + 1).toNat = (ν 5).toNat + 1 by omega]
      have := dp h1 g1.2.2.2.2.2 (ν 5).toNat
      have := c_cnt_up (p := dP h1 (ν 2).toNat) (n := (ν 5).toNat)
      omega
/-- JuryreelModel.deal(II)I -/
theorem c_v171 : b_valid c_K c_r171 := b_gd.valid (d := 2) rfl (by decide +kernel) fun ν h g => by
  refine b_gd.sg (S := dA) c_hJ dO dAC rfl (by decide) (by decide) g (b_al.c ?_ (b_al.c ?_ b_al.n))
  · intro ν3 h3 x3 g3
    exact b_pq.int (lo := 0) (hi := 8) (by decide) g3
  · intro ν1 h1 x1 g1
    refine b_pq.to rfl ?_
    refine b_gd.cv (T := (dB.2.1.2.2.1, [], [])) (bl := dB.2.1.1) (bs := []) (σ := [(1, 0, 0), (1, 1, 0), (1, 2, 0), (1, 3, 0), (0, 0, 0), (0, 0, 0)]) (by decide +kernel) g1 (fun g2 => ?_)
    have e4 : b_vT [(1, 0, 0), (1, 1, 0), (1, 2, 0), (1, 3, 0), (0, 0, 0), (0, 0, 0)] ν1 4 = 0 := rfl
    have e5 : b_vT [(1, 0, 0), (1, 1, 0), (1, 2, 0), (1, 3, 0), (0, 0, 0), (0, 0, 0)] ν1 5 = 0 := rfl
    exact d43 _ _ _ g2 (by rw [e4, e5]; exact Int.le_refl _) (Nat.lt_succ_self _) (by rw [e4]; omega)
end
/-! part 76.new -/
section
/-! New arrays: made, filled and copied -/
section NA
variable {K : BH} {ν : BN} {h0 h : AH} {G : BG}
theorem b_frm.app {c : AC} : b_frm K [] h (h ++ [c]) := fun a d hd => ⟨d.2, by rw [List.getElem?_append_left (List.getElem?_eq_some_iff.mp hd).1]; exact hd, rfl, fun _ _ => rfl⟩
theorem b_G.app (hJ : b_JF K) {c : AC} (g : b_G K ν h0 h G) : b_G K ν (h ++ [c]) (h ++ [c]) (G.1, G.2.1, G.2.2.1, [], []) := by
  have up : ∀ {a : Nat} {d : AC}, h[a]? = some d → (h ++ [c])[a]? = some d := fun {a d} hd => by
    rw [List.getElem?_append_left (List.getElem?_eq_some_iff.mp hd).1]; exact hd
  refine ⟨g.1, fun f hf => ?_, g.2.2.1, (fun o ho => by cases ho), ⟨fun a gg row h1 h2 => ?_, hJ.1 [] h _ (fun w hw => by cases hw) b_frm.app g.2.2.2.2.1.2⟩, b_frm.rf⟩
  · obtain ⟨a, t, vs, k1, k2, k3⟩ := g.2.1 f hf
    exact ⟨a, t, vs, k1, up k2, k3⟩
  · obtain ⟨vs, k1, k2⟩ := g.2.2.2.2.1.1 a gg row h1 h2
    exact ⟨vs, up k1, k2⟩
theorem c_setE {h : AH} {c c' : AC} : (h ++ [c]).set h.length c' = h ++ [c'] := by
  rw [List.set_append_right _ _ (Nat.le_refl _), Nat.sub_self]; rfl
theorem c_atE {h : AH} {c : AC} : (h ++ [c])[h.length]? = some c := by
  rw [List.getElem?_append_right (Nat.le_refl _), Nat.sub_self]; rfl
/-- dup, a number, a local, iastore: a place of a new array -/
theorem c_fill {d mi pc len k m ln mc ms : Nat} {ld : Instr} {al : AL} {st : List Value} {h : AH} {vs : List Value} {x : Int32} {r : AR} (i1 : a_ins mi pc = some (.dup, 1)) {z : Int} (i2 : a_ins mi (pc + 1) = some (.iconst z, 1)) (i3 : a_ins mi (pc + 2) = some (ld, len)) (i4 : a_ins mi (pc + 2 + len) = some (.iastore, 1)) (hld : a_const ld = none ∧ a_load ld = some (k, 0) ∧ a_len ld = len ∧ b_isEnd ld = false ∧ (∀ own, b_noc own ld = true) ∧ (∀ q, ld ≠ .new q)) (hn : vs.length = ln) (hz : a_ix (Int32.ofInt z) ln = some m) (hx : a_get al k = some (.int x)) (hr : b_R d mi (pc + 2 + len + 1) al (.ref h.length :: st) (h ++ [(20, vs.set m (.int x))]) mc ms r) : b_R d mi pc al (.ref h.length :: st) (h ++ [(20, vs)]) mc ms r := by
  obtain ⟨l1, l2, l3, l4, l5, l6⟩ := hld
  refine b_R.stp i1 rfl rfl rfl (a_by1 rfl rfl) ?_
  refine b_R.stp i2 rfl rfl rfl (a_by1 rfl rfl) ?_
  have e3 : a_st1 ld (pc + 2) al (.int (Int32.ofInt z) :: .ref h.length :: .ref h.length :: st) (h ++ [(20, vs)]) = some (pc + 2 + len, al, .int x :: .int (Int32.ofInt z) :: .ref h.length :: .ref h.length :: st, h ++ [(20, vs)], 0, 0) := by
    unfold a_st1
    rw [l1]
    dsimp only
    rw [l2]
    dsimp only
    rw [hx]
    dsimp only
    rw [if_pos (show a_kind (.int x) = 0 from rfl), l3]
  refine b_R.stp i3 (a_endN l4) (a_trwN l6) (b_noc_ok (l5 _)) (a_by1 l3.symm e3) ?_
  refine b_R.stp i4 rfl rfl rfl (a_by4 rfl (b_st4A (Or.inl rfl) c_atE (by show (if (20 : Nat) ≠ 19 ∧ a_aty 20 = some .int then some (Value.int x) else none) = _; rw [if_pos ⟨by decide, rfl⟩]) (by rw [hn]; exact hz))) ?_
  rw [c_setE]
  exact hr
theorem b_R.acp {d mi pc len mc ms : Nat} {i : Instr} {al : AL} {st st' : List Value} {h h' : AH} {r : AR} (hi : a_ins mi pc = some (i, len)) (h1 : a_end mi i st = none) (h2 : a_trw mi pc i st = none) (h3 : a_call (a_own mi) i st h = none) (h4 : a_stp (a_own mi) (a_ini mi) i len pc al st h = none) (h5 : a_acp (a_own mi) i len st h = some (st', h')) (hr : b_R d mi (pc + len) al st' h' mc ms r) : b_R d mi pc al st h mc ms r := by
  obtain ⟨f, hf⟩ := hr
  refine ⟨f + 1, ?_⟩
  rw [a_go, hi]
  dsimp only
  rw [h1]
  dsimp only
  rw [h2]
  dsimp only
  rw [h3]
  dsimp only
  rw [h4]
  dsimp only
  rw [h5]
  exact hf
/-- arraycopy out of a new array over a row -/
theorem b_gd.acp (hJ : b_JF K) {R : BRw} {d pc n : Nat} {bl : BL} {base told : BV} {gg : Nat} {lo hi : Int} {mc ms : Nat} {z : Int} (hi0 : a_ins R.1 pc = some (.invokestatic 166, 3)) (ho : a_own R.1 = 12) (hno : b_noc 12 (.invokestatic 166) = true ∧ ((a_of a_mat 12).find? (fun e => e.1 == 166)).isNone = true) (hr : b_row K G.1 base = some (gg, (20, n, 1, [(0, lo, hi)]))) (hp : K.2.2.1.contains (gg, 0) = false) (hW : R.2.2.2.1.contains (gg, 0) = true) (hz : z = (n : Int)) (ht : ∀ aa, b_r G.1.length ν told aa → ∃ vs, h[aa]? = some (20, vs) ∧ vs.length = n ∧ ∀ v ∈ vs, ∃ x : Int32, v = .int x ∧ lo ≤ x.toInt ∧ x.toInt ≤ hi) (hkd : told.1 = 3) (hN0 : R.2.2.1.2.1.length ≤ G.1.length) (g : b_G K ν h h G) (k : ∀ (b : Nat) (us : List Value), b_G K ν h (h.set b (20, us)) (b_blk K G (gg, 0)) → b_gd K R d (pc + 3) bl [] G.1.length ν (h.set b (20, us)) mc ms) (hG : G.2.2.2.2 = []) : b_gd K R d pc bl [(0, 0, z), (0, 0, 0), base, (0, 0, 0), told] G.1.length ν h mc ms := by
  intro al st hl hs
  obtain ⟨v1, s1, rfl, h1, k1⟩ := hs.inv
  obtain ⟨v2, s2, rfl, h2, k2⟩ := k1.inv
  obtain ⟨v3, s3, rfl, h3, k3⟩ := k2.inv
  obtain ⟨v4, s4, rfl, h4, k4⟩ := k3.inv
  obtain ⟨v5, s5, rfl, h5, k5⟩ := k4.inv
  obtain rfl := k5.inv0
  obtain ⟨N, rfl, hN⟩ := h1.int (by show 0 < 2; decide)
  obtain ⟨DP, rfl, hDP⟩ := h2.int (by show 0 < 2; decide)
  obtain ⟨SP, rfl, hSP⟩ := h4.int (by show 0 < 2; decide)
  obtain ⟨aa, rfl, ha⟩ := h5.ref (Or.inr hkd)
  obtain ⟨bb, ws, rfl, hb, z1, z2, n1, n2, n3⟩ := g.2.2.2.2.1.at g.1 h3 hr
  have n1 : h[bb]? = some (20, ws) := n1
  have lw : ws.length = n := n2 (by show (1 : Nat) ≠ 2; decide)
  obtain ⟨vs, t1, t2, t3⟩ := ht aa ha
  have eN : N.toInt = z := hN.k
  have eD : DP.toInt = 0 := hDP.k
  have eS : SP.toInt = 0 := hSP.k
  have cN : N.toNatClampNeg = N.toInt.toNat := rfl
  have cD : DP.toNatClampNeg = DP.toInt.toNat := rfl
  have cS : SP.toNatClampNeg = SP.toInt.toNat := rfl
  have neg : ∀ X : Int32, 0 ≤ X.toInt → ¬ X < 0 := fun X hX q => by
    have := Int32.lt_iff_toInt_lt.mp q
    have z : (0 : Int32).toInt = 0 := by decide
    omega
  have inS : ∀ v, v ∈ a_sl vs SP.toNatClampNeg N.toNatClampNeg → v ∈ vs := fun v hv => List.mem_of_mem_drop (List.mem_of_mem_take hv)
  have hfit : a_fitL .int (a_sl vs SP.toNatClampNeg N.toNatClampNeg) = true := List.all_eq_true.mpr fun v hv => by
    obtain ⟨x, rfl, -⟩ := t3 v (inS v hv)
    rfl
  have e : a_acp (a_own R.1) (.invokestatic 166) 3 (.int N :: .int DP :: .ref bb :: .int SP :: .ref aa :: []) h = some ([], h.set bb (20, a_prs DP.toNatClampNeg (a_sl vs SP.toNatClampNeg N.toNatClampNeg).zipIdx ws)) := by
    unfold a_acp
    dsimp only
    rw [if_pos ⟨ho, rfl, rfl, by decide, neg _ (by omega), neg _ (by omega), neg _ (by omega)⟩, t1, n1]
    dsimp only
    rw [show a_aty 20 = some .int from rfl]
    dsimp only
    rw [if_pos ⟨rfl, by decide, rfl, by omega, by omega, hfit⟩]
  have g' := b_blk_ok hJ g n1 (us := a_prs DP.toNatClampNeg (a_sl vs SP.toNatClampNeg N.toNatClampNeg).zipIdx ws) (a_prs_len ..) z1 z2 (by show (1 : Nat) ≠ 0; decide) hp (fun j v ty' hj hty' => by
    have hty' : some ((0, lo, hi) : BT) = some ty' := hty'
    cases hty'
    rcases a_prs_in _ _ _ _ (List.mem_of_getElem? hj) with q | ⟨q, q1, q2⟩
    · obtain ⟨j', hj'⟩ := List.mem_iff_getElem?.mp q
      exact n3 j' v (0, lo, hi) hj' rfl
    · obtain ⟨x, x0, x1, x2⟩ := t3 q.1 (inS _ (a_zip_in q1).1)
      rw [q2, x0]
      exact ⟨x1, x2⟩)
  obtain ⟨r, r1, r2⟩ := k _ _ g' al [] hl b_S.nil
  refine ⟨r, b_R.acp hi0 rfl rfl (b_noc_ok (by rw [ho]; exact hno.1)) (a_stpN (i := .invokestatic 166) (k := 5) rfl (by decide) ?_) e r1, r2.cut (W := [(gg, 0)]) ?_ (fun w hw => ?_)⟩
  · unfold a_st5
    dsimp only
    rw [ho, Option.isNone_iff_eq_none.mp hno.2]
  · have f := g'.2.2.2.2.2
    unfold b_blk at f
    dsimp only at f
    rw [hG] at f
    exact f
  · rw [List.mem_singleton.mp hw]
    simpa using hW
end NA
end
/-! part 77.key -/
section
/-! key and sell: a new array each, copied into a row -/
theorem kO : b_cal c_K (b_lim 2) (b_orc c_K [] 3000 2) := b_orc_ok c_hJ (fun _ h => absurd h List.not_mem_nil) 3000 2
def kA : BSg := ((199, 0), ([some (2, 365, 0), some (1, 0, 0), some (1, 1, 0), some (1, 2, 0), some (1, 3, 0), none], [], ([(0, (-2147483648), 2147483647), (0, (-2147483648), 2147483647), (0, (-2147483648), 2147483647), (0, (-2147483648), 2147483647)], [], [])), [(50, 55)], [
  (.inl (.inl (some (0, 0, 0))), ([], [], []), (0, 0)),
  (.inr (84, [some (2, 365, 0), some (1, 4, 0), some (1, 5, 0), some (1, 6, 0), some (1, 7, 0), none], []), ([(0, 0, 19), (0, 0, 3), (0, 0, 49), (0, 0, 49), (0, 0, 59)], [((2, 365, 0), (0, 0, 48), (1, 8, 0))], []), (0, 0))])
theorem kAC : b_sgc c_K (b_orc c_K [] 3000 2) kA [84] 3000 = true := by decide +kernel
def kB : BSg := ((199, 106), ([some (2, 365, 0), some (1, 4, 0), some (1, 5, 0), some (1, 6, 0), some (1, 7, 0), some (3, 9, 0)], [], ([(0, (-2147483648), 2147483647), (0, (-2147483648), 2147483647), (0, (-2147483648), 2147483647), (0, (-2147483648), 2147483647), (0, 0, 19), (0, 0, 3), (0, 0, 49), (0, 0, 49), (0, 0, 59), (1, 1, 0)], [((2, 365, 0), (0, 0, 48), (1, 8, 0))], [])), [], [
  (.inr (120, [some (2, 365, 0), some (1, 4, 0), some (1, 5, 0), some (1, 6, 0), some (1, 7, 0), none], [(0, 0, 4), (0, 0, 0), (3, 10, 0), (0, 0, 0), (3, 9, 0)]), ([(77, 0, 0)], [((2, 365, 0), (0, 0, 48), (1, 8, 0))], []), (0, 0))])
theorem kBC : b_sgc c_K (b_orc c_K [] 3000 2) kB [120] 3000 = true := by decide +kernel
def kC : BSg := ((199, 123), ([some (2, 365, 0), some (1, 4, 0), some (1, 5, 0), some (1, 6, 0), some (1, 7, 0), none], [], ([(0, (-2147483648), 2147483647), (0, (-2147483648), 2147483647), (0, (-2147483648), 2147483647), (0, (-2147483648), 2147483647), (0, 0, 19), (0, 0, 3), (0, 0, 49), (0, 0, 49), (0, 0, 59), (1, 1, 0), (77, 0, 0)], [((2, 365, 0), (0, 0, 48), (1, 8, 0))], [])), [(50, 48)], [
  (.inl (.inl (some (1, 11, 0))), ([(0, 0, 60)], [], []), (0, 0))])
theorem kCC : b_sgc c_K (b_orc c_K [] 3000 2) kC [] 3000 = true := by decide +kernel
theorem kI84 : a_ins 199 84 = some (.iconst 4, 1) := by decide +kernel
theorem kI85 : a_ins 199 85 = some (.newarray .int, 2) := by decide +kernel
theorem kI87 : a_ins 199 87 = some (.dup, 1) := by decide +kernel
theorem kI88 : a_ins 199 88 = some (.iconst 0, 1) := by decide +kernel
theorem kI89 : a_ins 199 89 = some (.iload_n 1, 1) := by decide +kernel
theorem kI90 : a_ins 199 90 = some (.iastore, 1) := by decide +kernel
theorem kI91 : a_ins 199 91 = some (.dup, 1) := by decide +kernel
theorem kI92 : a_ins 199 92 = some (.iconst 1, 1) := by decide +kernel
theorem kI93 : a_ins 199 93 = some (.iload_n 2, 1) := by decide +kernel
theorem kI94 : a_ins 199 94 = some (.iastore, 1) := by decide +kernel
theorem kI95 : a_ins 199 95 = some (.dup, 1) := by decide +kernel
theorem kI96 : a_ins 199 96 = some (.iconst 2, 1) := by decide +kernel
theorem kI97 : a_ins 199 97 = some (.iload_n 3, 1) := by decide +kernel
theorem kI98 : a_ins 199 98 = some (.iastore, 1) := by decide +kernel
theorem kI99 : a_ins 199 99 = some (.dup, 1) := by decide +kernel
theorem kI100 : a_ins 199 100 = some (.iconst 3, 1) := by decide +kernel
theorem kI101 : a_ins 199 101 = some (.iload 4, 2) := by decide +kernel
theorem kI103 : a_ins 199 103 = some (.iastore, 1) := by decide +kernel
theorem kI104 : a_ins 199 104 = some (.astore 5, 2) := by decide +kernel
theorem kN {pc : Nat} {own : Nat} {ini : Bool} {al : AL} {st : List Value} {h : AH} : a_stp own ini (.newarray .int) 2 pc al (.int (Int32.ofInt 4) :: st) h = some (pc + 2, al, .ref h.length :: st, h ++ [(20, [.int 0, .int 0, .int 0, .int 0])], 1, 4) := by
  have e : a_row .int 4 = (20, [.int 0, .int 0, .int 0, .int 0]) := by decide +kernel
  rw [← e]
  exact a_by5 rfl rfl
theorem kM {d mc ms : Nat} {al al2 : AL} {h : AH} {f0 f1 f2 f3 : Int32} {r : AR} (g0 : a_get al 1 = some (.int f0)) (g1 : a_get al 2 = some (.int f1)) (g2 : a_get al 3 = some (.int f2)) (g3 : a_get al 4 = some (.int f3)) (ha : a_sto al 5 (.ref h.length) = some al2) (hr : b_R d 199 106 al2 [] (h ++ [(20, [.int f0, .int f1, .int f2, .int f3])]) (mc + 1) (ms + 4) r) : b_R d 199 84 al [] h mc ms r := by
  refine b_R.stp kI84 rfl rfl rfl (a_by1 rfl rfl) ?_
  refine b_R.stp kI85 rfl rfl rfl kN ?_
  refine c_fill (k := 1) (m := 0) (x := f0) kI87 kI88 kI89 kI90 ⟨rfl, rfl, rfl, rfl, fun _ => rfl, fun _ q => by cases q⟩ (ln := 4) rfl (by decide) g0 ?_
  refine c_fill (k := 2) (m := 1) (x := f1) kI91 kI92 kI93 kI94 ⟨rfl, rfl, rfl, rfl, fun _ => rfl, fun _ q => by cases q⟩ (ln := 4) rfl (by decide) g1 ?_
  refine c_fill (k := 3) (m := 2) (x := f2) kI95 kI96 kI97 kI98 ⟨rfl, rfl, rfl, rfl, fun _ => rfl, fun _ q => by cases q⟩ (ln := 4) rfl (by decide) g2 ?_
  refine c_fill (k := 4) (m := 3) (x := f3) kI99 kI100 kI101 kI103 ⟨rfl, rfl, rfl, rfl, fun _ => rfl, fun _ q => by cases q⟩ (ln := 4) rfl (by decide) g3 ?_
  refine b_R.stp kI104 rfl rfl rfl (a_by1 rfl (by show (a_sto al 5 (.ref h.length)).map _ = _; rw [ha]; rfl)) ?_
  exact hr
theorem k106 {ν : BN} {h : AH} {a : Nat} {vs : List Value} (g : b_G c_K ν h h (kB.2.1.2.2.1, kB.2.1.2.2.2.1, [], [], [])) (ha : (a : Int) = ν 9) (h1 : h[a]? = some (20, vs)) (h2 : vs.length = 4) (h3 : ∀ v ∈ vs, ∃ x : Int32, v = .int x ∧ 0 ≤ x.toInt ∧ x.toInt ≤ 49) : b_gd c_K c_r199 2 106 kB.2.1.1 [] kB.2.1.2.2.1.length ν h 1 4 := by
  refine b_gd.sg c_hJ kO kBC rfl (by decide) (by decide) g (b_al.c ?_ b_al.n)
  intro ν1 h1' x1 g1
  refine b_pq.to rfl ?_
  have f1 := g1.2.2.2.2.2
  have t1 : h1'[a]? = some (20, vs) := by
    obtain ⟨us, u1, u2, u3⟩ := f1 a _ h1
    rw [u1, show us = vs from List.ext_getElem? fun j => u3 j (fun w hw => by cases hw)]
  have n1 : ν1 9 = ν 9 := x1.2 9 (by decide)
  refine b_gd.acp c_hJ (gg := 76) (lo := 0) (hi := 49) (n := 4) (by decide +kernel) (by decide +kernel) (by decide +kernel) (by rfl) (by decide) (by decide) rfl (fun aa haa => ⟨vs, ?_, h2, h3⟩) rfl (by decide) g1.here (fun b us g2 => ?_) rfl
  · have e : aa = a := by have := haa.v; omega
    rw [e]; exact t1
  · refine b_gd.sg (S := kC) c_hJ kO kCC rfl (by decide) (by decide) (g2.wk (by decide +kernel)) (b_al.c ?_ b_al.n)
    intro ν3 h3' x3 g4
    exact b_pq.int (lo := 0) (hi := 60) (by decide) g4
theorem k84 {ν : BN} {h : AH} (g : b_G c_K ν h h ([(0, (-2147483648), 2147483647), (0, (-2147483648), 2147483647), (0, (-2147483648), 2147483647), (0, (-2147483648), 2147483647), (0, 0, 19), (0, 0, 3), (0, 0, 49), (0, 0, 49), (0, 0, 59)], [((2, 365, 0), (0, 0, 48), (1, 8, 0))], [], [], [])) : b_gd c_K c_r199 2 84 [some (2, 365, 0), some (1, 4, 0), some (1, 5, 0), some (1, 6, 0), some (1, 7, 0), none] [] 9 ν h 0 0 := by
  intro al st hl hs
  obtain rfl := hs.inv0
  obtain ⟨v0, a0, b0⟩ := hl.2 1 (1, 4, 0) rfl
  obtain ⟨f0, rfl, e0⟩ := b0.int (by show 1 < 2; decide)
  have i0 := g.iv 4 (lo := 0) (hi := 19) rfl
  have w0 := e0.v
  obtain ⟨v1, a1, b1⟩ := hl.2 2 (1, 5, 0) rfl
  obtain ⟨f1, rfl, e1⟩ := b1.int (by show 1 < 2; decide)
  have i1 := g.iv 5 (lo := 0) (hi := 3) rfl
  have w1 := e1.v
  obtain ⟨v2, a2, b2⟩ := hl.2 3 (1, 6, 0) rfl
  obtain ⟨f2, rfl, e2⟩ := b2.int (by show 1 < 2; decide)
  have i2 := g.iv 6 (lo := 0) (hi := 49) rfl
  have w2 := e2.v
  obtain ⟨v3, a3, b3⟩ := hl.2 4 (1, 7, 0) rfl
  obtain ⟨f3, rfl, e3⟩ := b3.int (by show 1 < 2; decide)
  have i3 := g.iv 7 (lo := 0) (hi := 49) rfl
  have w3 := e3.v
  have g1 := g.ad (ν' := b_nu ν 9 h.length) (E' := [(1, 1, 0)]) (F' := []) (C' := []) (fun n hn => if_neg (Nat.ne_of_lt hn)) ⟨by show b_q _ _ (b_nu ν 9 h.length 9); rw [b_nu_n]; exact b_q.r0, trivial⟩ trivial trivial
  have g2 := g1.app c_hJ (c := (20, [.int f0, .int f1, .int f2, .int f3]))
  have hl2 : b_L 10 (b_nu ν 9 h.length) [some (2, 365, 0), some (1, 4, 0), some (1, 5, 0), some (1, 6, 0), some (1, 7, 0), none] al := hl.ext b_nu_ext
  obtain ⟨al2, s1, s2⟩ := b_sto_ok (k := 5) (b := (3, 9, 0)) (bl' := kB.2.1.1) hl2 (v := .ref h.length) (Or.inr ⟨rfl, by decide, by rw [b_nu_n]⟩) rfl
  obtain ⟨r, r1, r2⟩ := k106 (a := h.length) (vs := [.int f0, .int f1, .int f2, .int f3]) (g2.wk (by decide)) (by rw [b_nu_n]) c_atE rfl (fun v hv => by
    simp only [List.mem_cons, List.not_mem_nil, or_false] at hv
    rcases hv with rfl | rfl | rfl | rfl
    · exact ⟨f0, rfl, by omega, by omega⟩
    · exact ⟨f1, rfl, by omega, by omega⟩
    · exact ⟨f2, rfl, by omega, by omega⟩
    · exact ⟨f3, rfl, by omega, by omega⟩) al2 [] s2 b_S.nil
  exact ⟨r, kM a0 a1 a2 a3 s1 r1, (r2.cut (W := []) b_frm.app (fun w hw => by cases hw)).ext (N := 10) ⟨by decide, fun n hn => if_neg (by have hn : n < 4 := hn; omega)⟩⟩
/-- JuryreelModel.key(IIII)I -/
theorem c_v199 : b_valid c_K c_r199 := b_gd.valid (d := 2) rfl (by decide +kernel) fun ν h g => by
  refine b_gd.sg (S := kA) c_hJ kO kAC rfl (by decide) (by decide) g (b_al.c ?_ (b_al.c ?_ b_al.n))
  · intro ν3 h3 x3 g3
    exact b_pq.int (lo := 0) (hi := 60) (by decide) g3
  · intro ν1 h1 x1 g1
    exact b_pq.to rfl (k84 (g1.wk (by decide)))
theorem sO : b_cal c_K (b_lim 2) (b_orc c_K [] 3000 2) := b_orc_ok c_hJ (fun _ h => absurd h List.not_mem_nil) 3000 2
def sA : BSg := ((249, 0), ([some (2, 365, 0), some (1, 0, 0), some (1, 1, 0), some (1, 2, 0), some (1, 3, 0), some (1, 4, 0), none, none, none], [], ([(0, (-2147483648), 2147483647), (0, (-2147483648), 2147483647), (0, (-2147483648), 2147483647), (0, (-2147483648), 2147483647), (0, (-2147483648), 2147483647)], [], [])), [(50, 55)], [
  (.inl (.inl (some (0, 0, 0))), ([], [], []), (0, 0)),
  (.inr (205, [some (2, 365, 0), some (1, 5, 0), some (1, 6, 0), some (1, 7, 0), some (1, 8, 0), some (1, 9, 0), none, none, none], []), ([(0, 0, 19), (0, 0, 9), (0, 0, 99), (0, 0, 99), (0, 0, 9), (0, 0, 39)], [((2, 365, 0), (0, 0, 52), (1, 10, 0))], []), (0, 0))])
def sAT : List BCu := [(93, [some (2, 365, 0), some (1, 5, 0), some (1, 6, 0), some (1, 7, 0), some (1, 8, 0), some (1, 9, 0), none, some (1, 10, 0), some (1, 11, 0)], ([(0, (-2147483648), 2147483647), (0, (-2147483648), 2147483647), (0, (-2147483648), 2147483647), (0, (-2147483648), 2147483647), (0, (-2147483648), 2147483647), (0, 0, 19), (0, 0, 9), (0, 0, 99), (0, 0, 99), (0, 0, 9), (0, 0, 1), (0, 0, 40)], [], []), ([(11, (-1))], 50), none)]
theorem sAC : b_rgc c_K (b_orc c_K [] 3000 2) sA sAT [205] 3000 = true := by decide +kernel
def sB : BSg := ((249, 232), ([some (2, 365, 0), some (1, 5, 0), some (1, 6, 0), some (1, 7, 0), some (1, 8, 0), some (1, 9, 0), none, none, some (3, 11, 0)], [], ([(0, (-2147483648), 2147483647), (0, (-2147483648), 2147483647), (0, (-2147483648), 2147483647), (0, (-2147483648), 2147483647), (0, (-2147483648), 2147483647), (0, 0, 19), (0, 0, 9), (0, 0, 99), (0, 0, 99), (0, 0, 9), (0, 0, 39), (1, 1, 0)], [((2, 365, 0), (0, 0, 52), (1, 10, 0))], [])), [], [
  (.inr (246, [some (2, 365, 0), some (1, 5, 0), some (1, 6, 0), some (1, 7, 0), some (1, 8, 0), some (1, 9, 0), none, none, none], [(0, 0, 5), (0, 0, 0), (3, 12, 0), (0, 0, 0), (3, 11, 0)]), ([(106, 0, 0)], [((2, 365, 0), (0, 0, 52), (1, 10, 0))], []), (0, 0))])
theorem sBC : b_sgc c_K (b_orc c_K [] 3000 2) sB [246] 3000 = true := by decide +kernel
def sC : BSg := ((249, 249), ([some (2, 365, 0), some (1, 5, 0), some (1, 6, 0), some (1, 7, 0), some (1, 8, 0), some (1, 9, 0), none, none, none], [], ([(0, (-2147483648), 2147483647), (0, (-2147483648), 2147483647), (0, (-2147483648), 2147483647), (0, (-2147483648), 2147483647), (0, (-2147483648), 2147483647), (0, 0, 19), (0, 0, 9), (0, 0, 99), (0, 0, 99), (0, 0, 9), (0, 0, 39), (1, 1, 0), (106, 0, 0)], [((2, 365, 0), (0, 0, 52), (1, 10, 0))], [])), [(50, 52), (50, 53), (106, 0), (107, 0)], [
  (.inl (.inl (some (1, 13, 0))), ([(0, 0, 40)], [], []), (0, 0))])
theorem sCC : b_sgc c_K (b_orc c_K [] 3000 2) sC [] 3000 = true := by decide +kernel
theorem sI205 : a_ins 249 205 = some (.iconst 5, 1) := by decide +kernel
theorem sI206 : a_ins 249 206 = some (.newarray .int, 2) := by decide +kernel
theorem sI208 : a_ins 249 208 = some (.dup, 1) := by decide +kernel
theorem sI209 : a_ins 249 209 = some (.iconst 0, 1) := by decide +kernel
theorem sI210 : a_ins 249 210 = some (.iload_n 1, 1) := by decide +kernel
theorem sI211 : a_ins 249 211 = some (.iastore, 1) := by decide +kernel
theorem sI212 : a_ins 249 212 = some (.dup, 1) := by decide +kernel
theorem sI213 : a_ins 249 213 = some (.iconst 1, 1) := by decide +kernel
theorem sI214 : a_ins 249 214 = some (.iload_n 2, 1) := by decide +kernel
theorem sI215 : a_ins 249 215 = some (.iastore, 1) := by decide +kernel
theorem sI216 : a_ins 249 216 = some (.dup, 1) := by decide +kernel
theorem sI217 : a_ins 249 217 = some (.iconst 2, 1) := by decide +kernel
theorem sI218 : a_ins 249 218 = some (.iload_n 3, 1) := by decide +kernel
theorem sI219 : a_ins 249 219 = some (.iastore, 1) := by decide +kernel
theorem sI220 : a_ins 249 220 = some (.dup, 1) := by decide +kernel
theorem sI221 : a_ins 249 221 = some (.iconst 3, 1) := by decide +kernel
theorem sI222 : a_ins 249 222 = some (.iload 4, 2) := by decide +kernel
theorem sI224 : a_ins 249 224 = some (.iastore, 1) := by decide +kernel
theorem sI225 : a_ins 249 225 = some (.dup, 1) := by decide +kernel
theorem sI226 : a_ins 249 226 = some (.iconst 4, 1) := by decide +kernel
theorem sI227 : a_ins 249 227 = some (.iload 5, 2) := by decide +kernel
theorem sI229 : a_ins 249 229 = some (.iastore, 1) := by decide +kernel
theorem sI230 : a_ins 249 230 = some (.astore 8, 2) := by decide +kernel
theorem sN {pc : Nat} {own : Nat} {ini : Bool} {al : AL} {st : List Value} {h : AH} : a_stp own ini (.newarray .int) 2 pc al (.int (Int32.ofInt 5) :: st) h = some (pc + 2, al, .ref h.length :: st, h ++ [(20, [.int 0, .int 0, .int 0, .int 0, .int 0])], 1, 5) := by
  have e : a_row .int 5 = (20, [.int 0, .int 0, .int 0, .int 0, .int 0]) := by decide +kernel
  rw [← e]
  exact a_by5 rfl rfl
theorem sM {d mc ms : Nat} {al al2 : AL} {h : AH} {f0 f1 f2 f3 f4 : Int32} {r : AR} (g0 : a_get al 1 = some (.int f0)) (g1 : a_get al 2 = some (.int f1)) (g2 : a_get al 3 = some (.int f2)) (g3 : a_get al 4 = some (.int f3)) (g4 : a_get al 5 = some (.int f4)) (ha : a_sto al 8 (.ref h.length) = some al2) (hr : b_R d 249 232 al2 [] (h ++ [(20, [.int f0, .int f1, .int f2, .int f3, .int f4])]) (mc + 1) (ms + 5) r) : b_R d 249 205 al [] h mc ms r := by
  refine b_R.stp sI205 rfl rfl rfl (a_by1 rfl rfl) ?_
  refine b_R.stp sI206 rfl rfl rfl sN ?_
  refine c_fill (k := 1) (m := 0) (x := f0) sI208 sI209 sI210 sI211 ⟨rfl, rfl, rfl, rfl, fun _ => rfl, fun _ q => by cases q⟩ (ln := 5) rfl (by decide) g0 ?_
  refine c_fill (k := 2) (m := 1) (x := f1) sI212 sI213 sI214 sI215 ⟨rfl, rfl, rfl, rfl, fun _ => rfl, fun _ q => by cases q⟩ (ln := 5) rfl (by decide) g1 ?_
  refine c_fill (k := 3) (m := 2) (x := f2) sI216 sI217 sI218 sI219 ⟨rfl, rfl, rfl, rfl, fun _ => rfl, fun _ q => by cases q⟩ (ln := 5) rfl (by decide) g2 ?_
  refine c_fill (k := 4) (m := 3) (x := f3) sI220 sI221 sI222 sI224 ⟨rfl, rfl, rfl, rfl, fun _ => rfl, fun _ q => by cases q⟩ (ln := 5) rfl (by decide) g3 ?_
  refine c_fill (k := 5) (m := 4) (x := f4) sI225 sI226 sI227 sI229 ⟨rfl, rfl, rfl, rfl, fun _ => rfl, fun _ q => by cases q⟩ (ln := 5) rfl (by decide) g4 ?_
  refine b_R.stp sI230 rfl rfl rfl (a_by1 rfl (by show (a_sto al 8 (.ref h.length)).map _ = _; rw [ha]; rfl)) ?_
  exact hr
theorem s106 {ν : BN} {h : AH} {a : Nat} {vs : List Value} (g : b_G c_K ν h h (sB.2.1.2.2.1, sB.2.1.2.2.2.1, [], [], [])) (ha : (a : Int) = ν 11) (h1 : h[a]? = some (20, vs)) (h2 : vs.length = 5) (h3 : ∀ v ∈ vs, ∃ x : Int32, v = .int x ∧ 0 ≤ x.toInt ∧ x.toInt ≤ 99) : b_gd c_K c_r249 2 232 sB.2.1.1 [] sB.2.1.2.2.1.length ν h 1 5 := by
  refine b_gd.sg c_hJ sO sBC rfl (by decide) (by decide) g (b_al.c ?_ b_al.n)
  intro ν1 h1' x1 g1
  refine b_pq.to rfl ?_
  have f1 := g1.2.2.2.2.2
  have t1 : h1'[a]? = some (20, vs) := by
    obtain ⟨us, u1, u2, u3⟩ := f1 a _ h1
    rw [u1, show us = vs from List.ext_getElem? fun j => u3 j (fun w hw => by cases hw)]
  have n1 : ν1 11 = ν 11 := x1.2 11 (by decide)
  refine b_gd.acp c_hJ (gg := 105) (lo := 0) (hi := 99) (n := 5) (by decide +kernel) (by decide +kernel) (by decide +kernel) (by rfl) (by decide) (by decide) rfl (fun aa haa => ⟨vs, ?_, h2, h3⟩) rfl (by decide) g1.here (fun b us g2 => ?_) rfl
  · have e : aa = a := by have := haa.v; omega
    rw [e]; exact t1
  · refine b_gd.sg (S := sC) c_hJ sO sCC rfl (by decide) (by decide) (g2.wk (by decide +kernel)) (b_al.c ?_ b_al.n)
    intro ν3 h3' x3 g4
    exact b_pq.int (lo := 0) (hi := 40) (by decide) g4
theorem s84 {ν : BN} {h : AH} (g : b_G c_K ν h h ([(0, (-2147483648), 2147483647), (0, (-2147483648), 2147483647), (0, (-2147483648), 2147483647), (0, (-2147483648), 2147483647), (0, (-2147483648), 2147483647), (0, 0, 19), (0, 0, 9), (0, 0, 99), (0, 0, 99), (0, 0, 9), (0, 0, 39)], [((2, 365, 0), (0, 0, 52), (1, 10, 0))], [], [], [])) : b_gd c_K c_r249 2 205 [some (2, 365, 0), some (1, 5, 0), some (1, 6, 0), some (1, 7, 0), some (1, 8, 0), some (1, 9, 0), none, none, none] [] 11 ν h 0 0 := by
  intro al st hl hs
  obtain rfl := hs.inv0
  obtain ⟨v0, a0, b0⟩ := hl.2 1 (1, 5, 0) rfl
  obtain ⟨f0, rfl, e0⟩ := b0.int (by show 1 < 2; decide)
  have i0 := g.iv 5 (lo := 0) (hi := 19) rfl
  have w0 := e0.v
  obtain ⟨v1, a1, b1⟩ := hl.2 2 (1, 6, 0) rfl
  obtain ⟨f1, rfl, e1⟩ := b1.int (by show 1 < 2; decide)
  have i1 := g.iv 6 (lo := 0) (hi := 9) rfl
  have w1 := e1.v
  obtain ⟨v2, a2, b2⟩ := hl.2 3 (1, 7, 0) rfl
  obtain ⟨f2, rfl, e2⟩ := b2.int (by show 1 < 2; decide)
  have i2 := g.iv 7 (lo := 0) (hi := 99) rfl
  have w2 := e2.v
  obtain ⟨v3, a3, b3⟩ := hl.2 4 (1, 8, 0) rfl
  obtain ⟨f3, rfl, e3⟩ := b3.int (by show 1 < 2; decide)
  have i3 := g.iv 8 (lo := 0) (hi := 99) rfl
  have w3 := e3.v
  obtain ⟨v4, a4, b4⟩ := hl.2 5 (1, 9, 0) rfl
  obtain ⟨f4, rfl, e4⟩ := b4.int (by show 1 < 2; decide)
  have i4 := g.iv 9 (lo := 0) (hi := 9) rfl
  have w4 := e4.v
  have g1 := g.ad (ν' := b_nu ν 11 h.length) (E' := [(1, 1, 0)]) (F' := []) (C' := []) (fun n hn => if_neg (Nat.ne_of_lt hn)) ⟨by show b_q _ _ (b_nu ν 11 h.length 11); rw [b_nu_n]; exact b_q.r0, trivial⟩ trivial trivial
  have g2 := g1.app c_hJ (c := (20, [.int f0, .int f1, .int f2, .int f3, .int f4]))
  have hl2 : b_L 12 (b_nu ν 11 h.length) [some (2, 365, 0), some (1, 5, 0), some (1, 6, 0), some (1, 7, 0), some (1, 8, 0), some (1, 9, 0), none, none, none] al := hl.ext b_nu_ext
  obtain ⟨al2, s1, s2⟩ := b_sto_ok (k := 8) (b := (3, 11, 0)) (bl' := sB.2.1.1) hl2 (v := .ref h.length) (Or.inr ⟨rfl, by decide, by rw [b_nu_n]⟩) rfl
  obtain ⟨r, r1, r2⟩ := s106 (a := h.length) (vs := [.int f0, .int f1, .int f2, .int f3, .int f4]) (g2.wk (by decide)) (by rw [b_nu_n]) c_atE rfl (fun v hv => by
    simp only [List.mem_cons, List.not_mem_nil, or_false] at hv
    rcases hv with rfl | rfl | rfl | rfl | rfl
    · exact ⟨f0, rfl, by omega, by omega⟩
    · exact ⟨f1, rfl, by omega, by omega⟩
    · exact ⟨f2, rfl, by omega, by omega⟩
    · exact ⟨f3, rfl, by omega, by omega⟩
    · exact ⟨f4, rfl, by omega, by omega⟩) al2 [] s2 b_S.nil
  exact ⟨r, sM a0 a1 a2 a3 a4 s1 r1, (r2.cut (W := []) b_frm.app (fun w hw => by cases hw)).ext (N := 12) ⟨by decide, fun n hn => if_neg (by have hn : n < 5 := hn; omega)⟩⟩
/-- JuryreelModel.sell(IIIII)I -/
theorem c_v249 : b_valid c_K c_r249 := b_gd.valid (d := 2) rfl (by decide +kernel) fun ν h g => by
  refine b_gd.rg (S := sA) c_hJ sO sAC rfl (by decide) (by decide) g (b_al.c ?_ (b_al.c ?_ b_al.n))
  · intro ν3 h3 x3 g3
    exact b_pq.int (lo := 0) (hi := 40) (by decide) g3
  · intro ν1 h1 x1 g1
    exact b_pq.to rfl (s84 (g1.wk (by decide)))
end
/-! part 78.join -/
section
/-! join: nobody waits twice, so there is room in the row -/
def c_r225 : BRw := (225, 1, ([(2, 365, 0), (1, 0, 0), (1, 1, 0)], ([(0, 0, 15), (0, 0, 59)], [], [])), [], [(.inl (some (1, 2, 0)), ([(0, 0, 1)], [], []), (0, 0))])
def c_c225 : List BCu := [(5, [some (2, 365, 0), some (1, 0, 0), some (1, 1, 0), some (1, 2, 0), some (1, 3, 0)], ([(0, 0, 15), (0, 0, 59), (0, 0, 1), (0, 0, 16)], [], []), ([(3, (-1))], 20), none)]
theorem c_v225 : b_valid c_K c_r225 := b_chk_ok c_hJ (d := 0) (F := 3000) (R := c_r225) (cuts := c_c225) (b_orc_ok c_hJ (tab := []) (fun _ h => absurd h List.not_mem_nil) 3000 0) rfl (by decide +kernel)
def c_r225w : BRw := (225, 1, ([(2, 365, 0), (1, 0, 0), (1, 1, 0)], ([(0, 0, 15), (0, 0, 59), (0, 1, 16), (84, 0, 0), (0, 0, 15)], [((2, 555, 0), (1, 1, 0), (1, 2, 0)), ((2, 494, 0), (1, 1, 0), (3, 3, 0)), ((3, 3, 0), (1, 4, 0), (1, 0, 0))], [(4, 2, (-1))])), [], [(.inl (some (0, 0, 1)), ([], [], []), (0, 0))])
def c_c225w : List BCu := [(5, [some (2, 365, 0), some (1, 0, 0), some (1, 1, 0), some (1, 5, 0), some (1, 6, 0)], ([(0, 0, 15), (0, 0, 59), (0, 1, 16), (84, 0, 0), (0, 0, 15), (0, 0, 1), (0, 0, 15)], [((2, 555, 0), (1, 1, 0), (1, 2, 0)), ((2, 494, 0), (1, 1, 0), (3, 3, 0)), ((3, 3, 0), (1, 4, 0), (1, 0, 0))], [(4, 2, (-1)), (6, 4, 0), (6, 2, (-1))]), ([(6, (-1))], 20), some (6, 4)),
  (5, [some (2, 365, 0), some (1, 0, 0), some (1, 1, 0), some (0, 0, 1), some (1, 5, 0)], ([(0, 0, 15), (0, 0, 59), (0, 1, 16), (84, 0, 0), (0, 0, 15), (0, 0, 16)], [((2, 555, 0), (1, 1, 0), (1, 2, 0)), ((2, 494, 0), (1, 1, 0), (3, 3, 0)), ((3, 3, 0), (1, 4, 0), (1, 0, 0))], [(4, 2, (-1))]), ([(5, (-1))], 20), none)]
theorem c_v225w : b_valid c_K c_r225w := b_chk_ok c_hJ (d := 0) (F := 3000) (R := c_r225w) (cuts := c_c225w) (b_orc_ok c_hJ (tab := []) (fun _ h => absurd h List.not_mem_nil) 3000 0) rfl (by decide +kernel)
theorem jO : b_cal c_K (b_lim 3) (b_orc c_K [] 3000 3) := b_orc_ok c_hJ (fun _ h => absurd h List.not_mem_nil) 3000 3
def jA : BSg := ((226, 0), ([some (2, 365, 0), some (1, 0, 0), some (1, 1, 0)], [], ([(0, (-2147483648), 2147483647), (0, (-2147483648), 2147483647)], [], [])), [(50, 55)], [
  (.inl (.inl (some (0, 0, 0))), ([], [], []), (0, 0)),
  (.inr (58, [some (2, 365, 0), some (1, 2, 0), some (1, 3, 0)], [(1, 3, 0), (1, 2, 0), (2, 365, 0), (2, 365, 0)]), ([(0, 0, 15), (0, 0, 59)], [], []), (0, 0))])
theorem jAC : b_sgc c_K (b_orc c_K [] 3000 3) jA [58] 3000 = true := by decide +kernel
def jB : BSg := ((226, 61), ([some (2, 365, 0), some (1, 2, 0), some (1, 3, 0)], [(0, 0, 1), (2, 365, 0)], ([(0, (-2147483648), 2147483647), (0, (-2147483648), 2147483647), (0, 0, 15), (0, 0, 59)], [], [])), [(50, 55)], [
  (.inl (.inl (some (0, 0, 0))), ([], [], []), (0, 0))])
theorem jBC : b_sgc c_K (b_orc c_K [] 3000 3) jB [] 3000 = true := by decide +kernel
def jC : BSg := ((226, 61), ([some (2, 365, 0), some (1, 2, 0), some (1, 3, 0)], [(0, 0, 0), (2, 365, 0)], ([(0, (-2147483648), 2147483647), (0, (-2147483648), 2147483647), (0, 0, 15), (0, 0, 59)], [], [])), [(50, 55)], [
  (.inr (78, [some (2, 365, 0), some (1, 2, 0), some (1, 3, 0)], []), ([], [], []), (0, 0))])
theorem jCC : b_sgc c_K (b_orc c_K [] 3000 3) jC [78] 3000 = true := by decide +kernel
def jD : BSg := ((226, 78), ([some (2, 365, 0), some (1, 2, 0), some (1, 3, 0)], [], ([(0, (-2147483648), 2147483647), (0, (-2147483648), 2147483647), (0, 0, 15), (0, 0, 59)], [], [])), [], [
  (.inr (91, [some (2, 365, 0), some (1, 2, 0), some (1, 3, 0)], [(1, 2, 0), (1, 4, 0), (3, 5, 0)]), ([(0, 0, 16), (84, 0, 0)], [((2, 555, 0), (1, 3, 0), (1, 4, 0)), ((2, 494, 0), (1, 3, 0), (3, 5, 0))], []), (0, 0))])
theorem jDC : b_sgc c_K (b_orc c_K [] 3000 3) jD [91] 3000 = true := by decide +kernel
def jE : BSg := ((226, 92), ([some (2, 365, 0), some (1, 2, 0), some (1, 3, 0)], [], ([(0, (-2147483648), 2147483647), (0, (-2147483648), 2147483647), (0, 0, 15), (0, 0, 59)], [], [])), [], [
  (.inr (101, [some (2, 365, 0), some (1, 2, 0), some (1, 3, 0)], [(1, 4, 1), (1, 3, 0), (2, 555, 0)]), ([(0, 0, 16)], [((2, 555, 0), (1, 3, 0), (1, 4, 0))], []), (0, 0))])
theorem jEC : b_sgc c_K (b_orc c_K [] 3000 3) jE [101] 3000 = true := by decide +kernel
def jF : BSg := ((226, 102), ([some (2, 365, 0), some (1, 2, 0), some (1, 3, 0)], [], ([(0, (-2147483648), 2147483647), (0, (-2147483648), 2147483647), (0, 0, 15), (0, 0, 59)], [], [])), [], [
  (.inl (.inl (some (1, 4, 0))), ([(0, 0, 16)], [], []), (0, 0))])
theorem jFC : b_sgc c_K (b_orc c_K [] 3000 3) jF [] 3000 = true := by decide +kernel
/-! What a contract gives -/
theorem b_valid.use {K : BH} {R : BRw} (hv : b_valid K R) {h : AH} {as : List Value} (ν : BN) (H : b_H K h) (h1 : b_satL K ν 0 R.2.2.1.2.1) (h2 : b_faL R.2.2.1.2.1.length ν h R.2.2.1.2.2.1) (h3 : b_coL R.2.2.1.2.1.length ν R.2.2.1.2.2.2) (ha : b_S R.2.2.1.2.1.length ν R.2.2.1.1 as) : ∃ r, b_lim R.2.1 R.1 as h = some r ∧ b_post K R ν h r := by
  refine hv ν h as ⟨fun n q hq => ?_, fun f hf => h2.at f hf, fun c hc => h3.at c hc, (fun o ho => by cases ho), H, b_frm.rf⟩ ha
  have := h1.at n q hq
  rw [Nat.zero_add] at this
  exact this
theorem b_post.intS {K : BH} {R : BRw} {ν : BN} {h : AH} {r : AR} {b : BV} {E : BQ} {F : BF} {C : BC} {c : Nat × Nat} (hp : R.2.2.2.2 = [(.inl (some b), (E, F, C), c)]) (hb : b.1 < 2) (k : b_post K R ν h r) : ∃ (x : Int32) (h' : AH) (ν' : BN), r = (.inl (some (.int x)), h', c.1, c.2) ∧ b_ext R.2.2.1.2.1.length (R.2.2.1.2.1 ++ E).length ν ν' ∧ b_i (R.2.2.1.2.1 ++ E).length ν' b x.toInt ∧ b_G K ν' h h' (R.2.2.1.2.1 ++ E, F, C, [], R.2.2.2.1) := by
  obtain ⟨p, p1, ν', x, q1, q2, q3⟩ := k
  rw [hp] at p1
  obtain rfl := List.mem_singleton.mp p1
  obtain ⟨r1, r2, r3⟩ := r
  have q3 : r3 = c := q3
  cases r1 with
  | inr k' => exact q1.elim
  | inl v =>
    cases v with
    | none => exact q1.elim
    | some v =>
      obtain ⟨x', rfl, hx⟩ := b_v.int (b := b) q1 hb
      exact ⟨x', r2, ν', by rw [show r3 = c from q3], x, hx, q2⟩
/-! Nobody waits twice -/
theorem c_wr0 : ∀ s, s < 60 → c_wr[s]? = some (495 + s) := by decide +kernel
theorem c_wrL : c_wr.length = 60 := by decide +kernel
theorem c_wrI {s a : Nat} (h : c_wr[s]? = some a) : s < 60 ∧ a = 495 + s := by
  have h1 : s < 60 := by rw [← c_wrL]; exact (List.getElem?_eq_some_iff.mp h).1
  rw [c_wr0 s h1] at h
  cases h
  exact ⟨h1, rfl⟩
theorem J_at {h : AH} (J : c_Ja h) {s a : Nat} (e : c_at h 494 s = some (.ref a)) : c_wr[s]? = some a := by
  obtain ⟨⟨t, h1⟩, -⟩ := J
  unfold c_at at e
  rw [h1] at e
  have e : (c_wr.map Value.ref)[s]? = some (.ref a) := e
  rw [List.getElem?_map] at e
  cases hw : c_wr[s]? with
  | none => rw [hw] at e; cases e
  | some b => rw [hw] at e; cases e; rfl
theorem J_dis {h : AH} (J : c_Ja h) {s a : Nat} {n : Int32} (hs : c_wr[s]? = some a) (e : c_at h 555 s = some (.int n)) {i j : Nat} (hij : i < j) (hj : (j : Int) < n.toInt) : c_at h a i ≠ c_at h a j := by
  obtain ⟨-, ⟨x, h2⟩, h3, h4⟩ := J
  obtain ⟨y, hy⟩ := h3 a (List.mem_of_getElem? hs)
  unfold c_at at e ⊢
  rw [h2] at e
  rw [hy]
  exact h4 s a x.1 y.1 x.2 y.2 n hs h2 e hy i j hij hj
theorem J_put1 {h : AH} (J : c_Ja h) {s a k t : Nat} {n : Int32} {v : Value} {ws : List Value} (hs : c_wr[s]? = some a) (e : c_at h 555 s = some (.int n)) (ha : h[a]? = some (t, ws)) (hk : n.toInt ≤ k) : c_Ja (h.set a (t, ws.set k v)) := by
  obtain ⟨⟨t0, h1⟩, ⟨xB, h2⟩, h3, h4⟩ := J
  obtain ⟨s1, s2⟩ := c_wrI hs
  have lt := (List.getElem?_eq_some_iff.mp ha).1
  refine ⟨⟨t0, by rw [List.getElem?_set_ne (by omega)]; exact h1⟩, ⟨xB, by rw [List.getElem?_set_ne (by omega)]; exact h2⟩, fun b hb => ?_, fun s' b t1 t2 ms ws' n' hs' hB hn hb i j hij hj => ?_⟩
  · by_cases q : b = a
    · subst q
      exact ⟨_, List.getElem?_set_self lt⟩
    · rw [List.getElem?_set_ne (Ne.symm q)]
      exact h3 b hb
  · rw [List.getElem?_set_ne (by omega)] at hB
    by_cases q : b = a
    · subst q
      obtain ⟨q1, q2⟩ := c_wrI hs'
      have q3 : s' = s := by omega
      subst q3
      rw [List.getElem?_set_self lt] at hb
      cases hb
      have e2 : n' = n := by
        unfold c_at at e
        rw [hB] at e
        have e : ms[s']? = some (.int n) := e
        rw [hn] at e
        cases e
        rfl
      subst e2
      rw [List.getElem?_set_ne (by omega), List.getElem?_set_ne (by omega)]
      exact h4 s' b t1 t ms ws n' hs' hB hn ha i j hij hj
    · rw [List.getElem?_set_ne (Ne.symm q)] at hb
      exact h4 s' b t1 t2 ms ws' n' hs' hB hn hb i j hij hj
theorem J_put2 {h : AH} (J : c_Ja h) {s a t u m : Nat} {n n2 : Int32} {ms ws : List Value} (hs : c_wr[s]? = some a) (hB0 : h[555]? = some (t, ms)) (hn0 : ms[s]? = some (.int n)) (ha : h[a]? = some (u, ws)) (hm : n.toInt = m) (hn2 : n2.toInt = n.toInt + 1) (hd : ∀ i, i < m → ws[i]? ≠ ws[m]?) : c_Ja (h.set 555 (t, ms.set s (.int n2))) := by
  obtain ⟨⟨t0, h1⟩, ⟨xB, h2⟩, h3, h4⟩ := J
  have lt := (List.getElem?_eq_some_iff.mp hB0).1
  have ls := (List.getElem?_eq_some_iff.mp hn0).1
  refine ⟨⟨t0, by rw [List.getElem?_set_ne (by omega)]; exact h1⟩, ⟨_, List.getElem?_set_self lt⟩, fun b hb => ?_, fun s' b t1 t2 ms' ws' n' hs' hB hn hb i j hij hj => ?_⟩
  · obtain ⟨s', q⟩ := List.mem_iff_getElem?.mp hb
    have := c_wrI q
    rw [List.getElem?_set_ne (by omega)]
    exact h3 b hb
  · obtain ⟨q1, q2⟩ := c_wrI hs'
    rw [List.getElem?_set_ne (by omega)] at hb
    rw [List.getElem?_set_self lt] at hB
    cases hB
    by_cases q : s' = s
    · subst q
      rw [hs] at hs'
      cases hs'
      rw [ha] at hb
      cases hb
      rw [List.getElem?_set_self ls] at hn
      cases hn
      by_cases c : (j : Int) < n.toInt
      · exact h4 s' a t u ms ws n hs hB0 hn0 ha i j hij c
      · have e : j = m := by omega
        rw [e]
        exact hd i (by omega)
    · rw [List.getElem?_set_ne (Ne.symm q)] at hn
      exact h4 s' b t t2 ms ws' n' hs' hB0 hn hb i j hij hj
/-- drawers -/
theorem c_pigeon : ∀ (m n : Nat) (f : Nat → Nat), (∀ i, i < n → f i < m) → (∀ i j, i < j → j < n → f i ≠ f j) → n ≤ m
  | 0, 0, _, _, _ => Nat.le_refl _
  | 0, n + 1, f, h, _ => absurd (h 0 (Nat.succ_pos _)) (Nat.not_lt_zero _)
  | m + 1, 0, _, _, _ => Nat.zero_le _
  | m + 1, n + 1, f, h, hd => by
    refine Nat.succ_le_succ (c_pigeon m n (fun i => if f i = m then f n else f i) (fun i hi => ?_) (fun i j hij hj => ?_))
    · have h1 := h i (Nat.lt_succ_of_lt hi)
      have h2 := h n (Nat.lt_succ_self _)
      have h3 := hd i n hi (Nat.lt_succ_self _)
      split <;> omega
    · have h1 := hd i j hij (Nat.lt_succ_of_lt hj)
      have h2 := hd i n (by omega) (Nat.lt_succ_self _)
      have h3 := hd j n hj (Nat.lt_succ_self _)
      split <;> split <;> omega
/-- what waitsFor answers -/
theorem j_wf {h : AH} (H : b_H c_K h) {p q : Int32} (hp : 0 ≤ p.toInt ∧ p.toInt ≤ 15) (hq : 0 ≤ q.toInt ∧ q.toInt ≤ 59) : ∃ (x : Int32) (h' : AH), b_lim 3 225 [.ref 365, .int p, .int q] h = some (.inl (some (.int x)), h', 0, 0) ∧ (x.toInt = 0 ∨ x.toInt = 1) ∧ b_H c_K h' ∧ b_frm c_K [] h h' ∧ (x.toInt = 0 → ∀ (n : Int32) (row j : Nat), c_at h 555 q.toInt.toNat = some (.int n) → c_at h 494 q.toInt.toNat = some (.ref row) → (j : Int) < n.toInt → c_at h row j ≠ some (.int p)) := by
  have hA : ∀ (N : Nat) (ν : BN), 2 ≤ N → ν 0 = p.toInt → ν 1 = q.toInt → b_S N ν [(2, 365, 0), (1, 0, 0), (1, 1, 0)] [.ref 365, .int p, .int q] := fun N ν hN e0 e1 => b_S.cons (Or.inl ⟨rfl, rfl⟩) (b_S.cons (Or.inr ⟨rfl, by show 0 < N; omega, by show p.toInt = ν 0 + 0; omega⟩) (b_S.cons (Or.inr ⟨rfl, by show 1 < N; omega, by show q.toInt = ν 1 + 0; omega⟩) b_S.nil))
  obtain ⟨r, r1, r2⟩ := c_v225.use (h := h) (as := [.ref 365, .int p, .int q]) (fun n => match n with | 0 => p.toInt | _ => q.toInt) H ⟨b_q.i hp.1 hp.2, b_q.i hq.1 hq.2, trivial⟩ trivial trivial (hA _ _ (by decide) rfl rfl)
  obtain ⟨x, h', ν', e, x1, x2, g⟩ := r2.intS rfl (by show 1 < 2; decide)
  subst e
  have iv := g.iv 2 (lo := 0) (hi := 1) rfl
  have x2 := x2.v
  refine ⟨x, h', b_lim_up (k := 2) r1, by omega, g.2.2.2.2.1, g.2.2.2.2.2, fun hx n row j e1 e2 hj e3 => ?_⟩
  have hs : q.toInt.toNat < 60 := by omega
  obtain ⟨z, z1, z2, z3⟩ := H.rdI (j := q.toInt.toNat) (lo := 0) (hi := 16) c_a555 c_q84 (by decide) hs rfl
  rw [e1] at z1
  cases z1
  obtain ⟨b, b1, b2⟩ := H.rdR (j := q.toInt.toNat) (g' := 83) (z := 0) c_a494 c_q82 (by decide) hs rfl
  rw [e2] at b1
  cases b1
  obtain ⟨r', s1, s2⟩ := c_v225w.use (h := h) (as := [.ref 365, .int p, .int q]) (fun m => match m with | 0 => p.toInt | 1 => q.toInt | 2 => n.toInt | 3 => (row : Int) | _ => (j : Int)) H
    ⟨b_q.i hp.1 hp.2, b_q.i hq.1 hq.2, b_q.i (by show (1 : Int) ≤ n.toInt; omega) z3, b_q.r b2, b_q.i (by show (0 : Int) ≤ (j : Int); omega) (by show (j : Int) ≤ 15; omega), trivial⟩
    ⟨b_fa.mk e1 (Or.inl ⟨rfl, rfl⟩) (Or.inr ⟨rfl, by decide, by show (q.toInt.toNat : Int) = q.toInt + 0; omega⟩) (Or.inr ⟨rfl, by decide, by show n.toInt = n.toInt + 0; omega⟩),
     b_fa.mk e2 (Or.inl ⟨rfl, rfl⟩) (Or.inr ⟨rfl, by decide, by show (q.toInt.toNat : Int) = q.toInt + 0; omega⟩) (Or.inr ⟨rfl, by decide, rfl⟩),
     b_fa.mk e3 (Or.inr ⟨rfl, by decide, rfl⟩) (Or.inr ⟨rfl, by decide, by show (j : Int) = (j : Int) + 0; omega⟩) (Or.inr ⟨rfl, by decide, by show p.toInt = p.toInt + 0; omega⟩), trivial⟩
    ⟨⟨by decide, by decide, by show (j : Int) ≤ n.toInt + (-1); omega⟩, trivial⟩ (hA _ _ (by decide) rfl rfl)
  obtain ⟨x', h2, ν2, e', -, y2, -⟩ := s2.intS rfl (by show 0 < 2; decide)
  subst e'
  rw [show c_r225w.2.1 = c_r225.2.1 from rfl, show c_r225w.1 = c_r225.1 from rfl, r1] at s1
  cases s1
  have := y2.k
  omega
theorem jI58 : a_ins 226 58 = some (.invokevirtual 309, 3) := by decide +kernel
theorem jI91 : a_ins 226 91 = some (.iastore, 1) := by decide +kernel
theorem jI101 : a_ins 226 101 = some (.iastore, 1) := by decide +kernel
theorem jI58c {h : AH} {p q : Int32} {vs : List Value} (hh : h[365]? = some (12, vs)) : a_call (a_own 226) (.invokevirtual 309) [.int q, .int p, .ref 365, .ref 365] h = some (225, [.ref 365, .int p, .int q], [.ref 365]) := by
  have e : (a_of a_inv (a_own 226)).find? (fun e => e.1 == 309 && e.2.1 == 0) = some (309, 0, 225, (8, 185), (8, 187), (0, 47), (1, 13)) := by rfl
  have e2 : a_nrg 225 = 3 := by decide +kernel
  have e3 : a_own 225 = 12 := by decide +kernel
  unfold a_call
  dsimp only
  rw [e]
  dsimp only
  rw [e2, if_pos ⟨by show 3 ≤ 4; decide, by show a_cat [.ref 365] ≤ 8; decide⟩]
  show (match h[365]? with
    | some (t, _) => if t = a_own 225 then (some (225, [Value.ref 365, Value.int p, Value.int q], [Value.ref 365]) : Option (Nat × List Value × List Value)) else none
    | none => none) = _
  rw [hh]
  dsimp only
  rw [if_pos e3.symm]
theorem b_R.ast {d mi pc mc ms a n : Nat} {al : AL} {st vs : List Value} {h : AH} {x j : Int32} {r : AR} (hi : a_ins mi pc = some (.iastore, 1)) (ha : h[a]? = some (20, vs)) (hj : a_ix j vs.length = some n) (hr : b_R d mi (pc + 1) al st (h.set a (20, vs.set n (.int x))) mc ms r) : b_R d mi pc al (.int x :: .int j :: .ref a :: st) h mc ms r := b_R.stp hi rfl rfl rfl (a_by4 rfl (b_st4A (Or.inl rfl) ha (by show (if (20 : Nat) ≠ 19 ∧ a_aty 20 = some .int then some (Value.int x) else none) = _; rw [if_pos ⟨by decide, rfl⟩]) hj)) hr
theorem b_frm.set {K : BH} {h : AH} {a n t : Nat} {vs : List Value} {v : Value} {w : Nat × Nat} (ha : h[a]? = some (t, vs)) (hk : b_key K a n = some w) : b_frm K [w] h (h.set a (t, vs.set n v)) := by
  have f := b_frm.put (v := v) (b_frm.rf (K := K) (h := h)) ha hk
  simpa using f
/-- a pass doesn't wait for a show -/
def jQ (h : AH) (p : Int) (q : Nat) : Prop := ∀ (n v : Int32) (row j : Nat), c_at h 555 q = some (.int n) → c_at h 494 q = some (.ref row) → (j : Int) < n.toInt → v.toInt = p → c_at h row j ≠ some (.int v)
theorem jQ_frm {W : BW} {h h' : AH} (H : b_H c_K h) (f : b_frm c_K W h h') (o1 : W.contains (84, 0) = false) (o2 : W.contains (82, 0) = false) (o3 : W.contains (83, 0) = false) {p : Int} {q : Nat} (hq : q < 60) (k : jQ h p q) : jQ h' p q := by
  intro n v row j e1 e2 hj hv e3
  rw [f.k H c_a555 c_q84 (by decide) o1] at e1
  rw [f.k H c_a494 c_q82 (by decide) o2] at e2
  obtain ⟨b, b1, b2⟩ := H.rdR (j := q) (g' := 83) (z := 0) c_a494 c_q82 (by decide) hq rfl
  rw [e2] at b1
  cases b1
  rw [f.k H b2 c_q83 (by decide) o3] at e3
  exact k n v row j e1 e2 hj hv e3
theorem j92 {ν : BN} {h : AH} (g : b_G c_K ν h h (jE.2.1.2.2.1, [], [], [], [])) {n : Int32} {row : Nat} (e1 : c_at h 555 (ν 3).toNat = some (.int n)) (e2 : c_at h 494 (ν 3).toNat = some (.ref row)) (hn : 0 ≤ n.toInt ∧ n.toInt ≤ 15) (hd : ∀ i, i < n.toInt.toNat → c_at h row i ≠ c_at h row n.toInt.toNat) : b_gd c_K c_r226 3 92 jE.2.1.1 [] jE.2.1.2.2.1.length ν h 0 0 := by
  refine b_gd.sg c_hJ jO jEC rfl (by decide) (by decide) g (b_al.c ?_ b_al.n)
  intro ν1 h1 x1 g1
  refine b_pq.to rfl ?_
  intro al st hl hs
  obtain ⟨v1, t1, rfl, a1, b1⟩ := hs.inv
  obtain ⟨v2, t2, rfl, a2, b2⟩ := b1.inv
  obtain ⟨v3, t3, rfl, a3, b3⟩ := b2.inv
  obtain rfl := b3.inv0
  obtain ⟨x, rfl, c1⟩ := a1.int (by show 1 < 2; decide)
  obtain ⟨q, rfl, c2⟩ := a2.int (by show 1 < 2; decide)
  obtain ⟨a, rfl, c3⟩ := a3.ref (Or.inl rfl)
  have c1 := c1.v
  have c2 := c2.v
  have c3 := c3.k
  subst c3
  have m3 := x1.2 3 (by decide)
  have iv3 := g1.iv 3 (lo := 0) (hi := 59) rfl
  have H := g.2.2.2.2.1
  have H1 := g1.2.2.2.2.1
  have f := g1.2.2.2.2.2
  have hq : (ν 3).toNat < 60 := by omega
  obtain ⟨n', n1, n2⟩ := g1.rd (a := 555) (n := 3) (m := 4) (k := 0) (k' := 0) (by rfl) (j := (ν 3).toNat) (by omega)
  have n0 := n1
  rw [f.k H c_a555 c_q84 (by decide) rfl, e1] at n1
  cases n1
  have r1 : c_at h1 494 (ν 3).toNat = some (.ref row) := by rw [f.k H c_a494 c_q82 (by decide) rfl]; exact e2
  have J : c_Ja h1 := H1.2.1
  have hw := J_at J r1
  obtain ⟨b, bq1, b2'⟩ := H1.rdR (j := (ν 3).toNat) (g' := 83) (z := 0) c_a494 c_q82 (by decide) hq rfl
  rw [r1] at bq1
  cases bq1
  obtain ⟨ms, u1, u2, u3⟩ := H1.1 555 84 _ c_a555 c_q84
  have u1 : h1[555]? = some (20, ms) := u1
  have u2 : ms.length = 60 := u2 (by decide)
  obtain ⟨ws, w1, w2, w3⟩ := H1.1 row 83 _ b2' c_q83
  have w1 : h1[row]? = some (20, ws) := w1
  obtain ⟨k1, k2, k3⟩ := b_ix_ok (j := q) (n := 60) (by omega) (by omega)
  have kq : q.toNatClampNeg = (ν 3).toNat := by omega
  have key : b_key c_K 555 q.toNatClampNeg = some (84, 0) := b_keyA c_a555 c_q84 (by decide)
  have hn0 : ms[(ν 3).toNat]? = some (.int n) := by
    unfold c_at at n0
    rw [u1] at n0
    exact n0
  have hws : ∀ i, c_at h1 row i = ws[i]? := fun i => by unfold c_at; rw [w1]; rfl
  have hJ2 : c_Ja (h1.set 555 (20, ms.set q.toNatClampNeg (.int x))) := by
    rw [kq]
    refine J_put2 (m := n.toInt.toNat) J hw u1 hn0 w1 (by omega) (by omega) (fun i hi => ?_)
    have := hd i hi
    rw [← f.k H b2' c_q83 (by decide) rfl, ← f.k H b2' c_q83 (by decide) rfl, hws, hws] at this
    exact this
  have H2 : b_H c_K (h1.set 555 (20, ms.set q.toNatClampNeg (.int x))) := ⟨H1.1.put u1 (fun g' row' ty' y1 y2 y3 => by
    rw [c_a555] at y1
    cases y1
    rw [c_q84] at y2
    cases y2
    cases y3
    exact ⟨by show (0 : Int) ≤ x.toInt; omega, by show x.toInt ≤ 16; omega⟩), hJ2, c_Jb_set H1.2.2 (by decide) (by decide)⟩
  have g2 : b_G c_K ν1 (h1.set 555 (20, ms.set q.toNatClampNeg (.int x))) (h1.set 555 (20, ms.set q.toNatClampNeg (.int x))) (jE.2.1.2.2.1 ++ [(0, 0, 16)], [], [], [], []) := ⟨g1.1, (fun f hf => by cases hf), (fun f hf => by cases hf), (fun f hf => by cases hf), H2, b_frm.rf⟩
  have k : b_gd c_K c_r226 3 102 [some (2, 365, 0), some (1, 2, 0), some (1, 3, 0)] [] 5 ν1 (h1.set 555 (20, ms.set q.toNatClampNeg (.int x))) 0 0 := by
    refine b_gd.cv (T := (jF.2.1.2.2.1, [], [])) (bl := jF.2.1.1) (bs := []) (σ := [(1, 0, 0), (1, 1, 0), (1, 2, 0), (1, 3, 0)]) (by decide +kernel) g2 (fun g3 => ?_)
    refine b_gd.sg c_hJ jO jFC rfl (by decide) (by decide) g3 (b_al.c ?_ b_al.n)
    intro ν3 h3 x3 g4
    exact b_pq.int (lo := 0) (hi := 16) (by decide) g4
  obtain ⟨r, r1, r2⟩ := k al [] hl b_S.nil
  exact ⟨r, b_R.ast jI101 u1 (by rw [u2]; exact k1) r1, r2.cut (W := [(84, 0)]) (b_frm.set u1 key) (by decide)⟩
theorem j78 {ν : BN} {h : AH} (g : b_G c_K ν h h (jD.2.1.2.2.1, [], [], [], [])) (hQ : jQ h (ν 2) (ν 3).toNat) : b_gd c_K c_r226 3 78 jD.2.1.1 [] jD.2.1.2.2.1.length ν h 0 0 := by
  refine b_gd.sg c_hJ jO jDC rfl (by decide) (by decide) g (b_al.c ?_ b_al.n)
  intro ν1 h1 x1 g1
  refine b_pq.to rfl ?_
  intro al st hl hs
  obtain ⟨v1, t1, rfl, a1, b1⟩ := hs.inv
  obtain ⟨v2, t2, rfl, a2, b2⟩ := b1.inv
  obtain ⟨v3, t3, rfl, a3, b3⟩ := b2.inv
  obtain rfl := b3.inv0
  obtain ⟨p, rfl, c1⟩ := a1.int (by show 1 < 2; decide)
  obtain ⟨n, rfl, c2⟩ := a2.int (by show 1 < 2; decide)
  obtain ⟨row, rfl, c3⟩ := a3.ref (Or.inr rfl)
  have c1 := c1.v
  have c2 := c2.v
  have c3 := c3.v
  have m2 := x1.2 2 (by decide)
  have m3 := x1.2 3 (by decide)
  have iv2 := g1.iv 2 (lo := 0) (hi := 15) rfl
  have iv3 := g1.iv 3 (lo := 0) (hi := 59) rfl
  have iv4 := g1.iv 4 (lo := 0) (hi := 16) rfl
  have H1 := g1.2.2.2.2.1
  have hq : (ν 3).toNat < 60 := by omega
  have Q1 := jQ_frm g.2.2.2.2.1 g1.2.2.2.2.2 rfl rfl rfl hq hQ
  obtain ⟨n', n1, n2⟩ := g1.rd (a := 555) (n := 3) (m := 4) (k := 0) (k' := 0) (by rfl) (j := (ν 3).toNat) (by omega)
  have e : n' = n := Int32.toInt_inj.mp (by omega)
  subst e
  obtain ⟨b, r1, r2⟩ := g1.rdA (a := 494) (n := 3) (m := 5) (k := 0) (by rfl) (j := (ν 3).toNat) (by omega)
  have e : b = row := by omega
  subst e
  have J : c_Ja h1 := H1.2.1
  have hw := J_at J r1
  obtain ⟨a0, a01, hk⟩ := g1.1.rf (n := 5) (g := 83) rfl
  have e : a0 = b := by omega
  subst e
  obtain ⟨ws, w1, w2, w3⟩ := H1.1 a0 83 _ hk c_q83
  have w1 : h1[a0]? = some (20, ws) := w1
  have w2 : ws.length = 16 := w2 (by decide)
  have val : ∀ i, i < 16 → ∃ x : Int32, c_at h1 a0 i = some (.int x) ∧ 0 ≤ x.toInt ∧ x.toInt ≤ 15 := fun i hi => H1.rdI hk c_q83 (by decide) hi rfl
  generalize hf : (fun i => match c_at h1 a0 i with
    | some (.int x) => x.toInt.toNat
    | _ => 0 : Nat → Nat) = f
  have fv : ∀ i (x : Int32), c_at h1 a0 i = some (.int x) → f i = x.toInt.toNat := fun i x hx => by
    rw [← hf]
    show (match c_at h1 a0 i with
      | some (.int x) => x.toInt.toNat
      | _ => 0) = _
    rw [hx]
  have n15 : n'.toInt ≤ 15 := by
    have := c_pigeon 16 (n'.toInt.toNat + 1) (fun i => if i < n'.toInt.toNat then f i else p.toInt.toNat) (fun i hi => by
      split
      · obtain ⟨x, y1, y2, y3⟩ := val i (by omega)
        rw [fv i x y1]; omega
      · omega) (fun i j hij hj => by
      obtain ⟨x, y1, y2, y3⟩ := val i (by omega)
      rw [if_pos (by omega), fv i x y1]
      split
      · obtain ⟨z, z1, z2, z3⟩ := val j (by omega)
        rw [fv j z z1]
        have := J_dis J hw n1 hij (by omega)
        rw [y1, z1] at this
        intro c
        exact this (by rw [show x = z from Int32.toInt_inj.mp (by omega)])
      · intro c
        exact Q1 n' p a0 i n1 r1 (by omega) (by omega) (by rw [y1, show x = p from Int32.toInt_inj.mp (by omega)]))
    omega
  obtain ⟨k1, k2, k3⟩ := b_ix_ok (j := n') (n := 16) (by omega) (by omega)
  have kn : n'.toNatClampNeg = n'.toInt.toNat := rfl
  have key : b_key c_K a0 n'.toNatClampNeg = some (83, 0) := b_keyA hk c_q83 (by decide)
  have H2 : b_H c_K (h1.set a0 (20, ws.set n'.toNatClampNeg (.int p))) := ⟨H1.1.put w1 (fun g' row' ty' y1 y2 y3 => by
    rw [hk] at y1
    cases y1
    rw [c_q83] at y2
    cases y2
    cases y3
    exact ⟨by show (0 : Int) ≤ p.toInt; omega, by show p.toInt ≤ 15; omega⟩), J_put1 J hw n1 w1 (by omega), c_Jb_set H1.2.2 (by have := (c_wrI hw).2; omega) (by have := c_wrI hw; omega)⟩
  have g2 : b_G c_K ν1 (h1.set a0 (20, ws.set n'.toNatClampNeg (.int p))) (h1.set a0 (20, ws.set n'.toNatClampNeg (.int p))) (jD.2.1.2.2.1 ++ [(0, 0, 16), (84, 0, 0)], [], [], [], []) := ⟨g1.1, (fun f hf => by cases hf), (fun f hf => by cases hf), (fun f hf => by cases hf), H2, b_frm.rf⟩
  have sa : ∀ a' j, c_at (h1.set a0 (20, ws.set n'.toNatClampNeg (.int p))) a' j = if a' = a0 ∧ j = n'.toNatClampNeg then some (.int p) else c_at h1 a' j := c_at_set w1 (by rw [w2]; exact k2)
  have k : b_gd c_K c_r226 3 92 [some (2, 365, 0), some (1, 2, 0), some (1, 3, 0)] [] 6 ν1 (h1.set a0 (20, ws.set n'.toNatClampNeg (.int p))) 0 0 := by
    refine b_gd.cv (T := (jE.2.1.2.2.1, [], [])) (bl := jE.2.1.1) (bs := []) (σ := [(1, 0, 0), (1, 1, 0), (1, 2, 0), (1, 3, 0)]) (by decide +kernel) g2 (fun g3 => ?_)
    have e3 : b_vT [(1, 0, 0), (1, 1, 0), (1, 2, 0), (1, 3, 0)] ν1 3 = ν 3 := by show ν1 3 + 0 = ν 3; omega
    have w0 := (c_wrI hw).2
    refine j92 (n := n') (row := a0) g3 ?_ ?_ (by omega) (fun i hi => ?_)
    · rw [e3, sa, if_neg (fun c => by omega)]; exact n1
    · rw [e3, sa, if_neg (fun c => by omega)]; exact r1
    · rw [sa, if_neg (fun c => by omega), sa, if_pos ⟨rfl, by omega⟩]
      exact Q1 n' p a0 i n1 r1 (by omega) (by omega)
  obtain ⟨r, y1, y2⟩ := k al [] hl b_S.nil
  exact ⟨r, b_R.ast jI91 w1 (by rw [w2]; exact k1) y1, y2.cut (W := [(83, 0)]) (b_frm.set w1 key) (by decide)⟩
theorem j58 {ν : BN} {h : AH} (g : b_G c_K ν h h (jB.2.1.2.2.1, [], [], [], [])) : b_gd c_K c_r226 3 58 [some (2, 365, 0), some (1, 2, 0), some (1, 3, 0)] [(1, 3, 0), (1, 2, 0), (2, 365, 0), (2, 365, 0)] 4 ν h 0 0 := by
  intro al st hl hs
  obtain ⟨v1, t1, rfl, a1, b1⟩ := hs.inv
  obtain ⟨v2, t2, rfl, a2, b2⟩ := b1.inv
  obtain ⟨v3, t3, rfl, a3, b3⟩ := b2.inv
  obtain ⟨v4, t4, rfl, a4, b4⟩ := b3.inv
  obtain rfl := b4.inv0
  obtain ⟨q, rfl, q1⟩ := a1.int (by show 1 < 2; decide)
  obtain ⟨p, rfl, p1⟩ := a2.int (by show 1 < 2; decide)
  obtain ⟨x3, rfl, r3⟩ := a3.ref (Or.inl rfl)
  obtain ⟨x4, rfl, r4⟩ := a4.ref (Or.inl rfl)
  have r3 := r3.k
  have r4 := r4.k
  subst r3
  subst r4
  have q1 := q1.v
  have p1 := p1.v
  have iv2 := g.iv 2 (lo := 0) (hi := 15) rfl
  have iv3 := g.iv 3 (lo := 0) (hi := 59) rfl
  have H := g.2.2.2.2.1
  obtain ⟨x, h', w1, w2, w3, w4, w5⟩ := j_wf H (p := p) (q := q) (by omega) (by omega)
  have g' : b_G c_K ν h' h' (jB.2.1.2.2.1, [], [], [], []) := ⟨g.1, (fun f hf => by cases hf), (fun f hf => by cases hf), (fun f hf => by cases hf), w3, b_frm.rf⟩
  obtain ⟨vs, hh, -⟩ := H.1 365 50 _ c_a365 c_q50
  have qq : q.toInt.toNat = (ν 3).toNat := by omega
  have cont : ∃ r, b_R 3 226 61 al [.int x, .ref 365] h' 0 0 r ∧ b_post c_K c_r226 ν h' r := by
    rcases w2 with e | e
    · refine (b_gd.sg (R := c_r226) (S := jC) c_hJ jO jCC rfl (by decide) (by decide) g' (b_al.c ?_ b_al.n)) al _ hl (b_S.cons (v := .int x) (Or.inl ⟨rfl, e⟩) (b_S.cons (v := .ref 365) (Or.inl ⟨rfl, rfl⟩) b_S.nil))
      intro ν2 h2 x2 g2
      refine b_pq.to rfl (j78 g2.bare ?_)
      have m2 := x2.2 2 (by decide)
      have m3 := x2.2 3 (by decide)
      rw [m2, m3]
      refine jQ_frm w3 g2.2.2.2.2.2 rfl rfl rfl (by omega) (jQ_frm H w4 rfl rfl rfl (by omega) ?_)
      intro n v row j y1 y2 y3 y4
      rw [show v = p from Int32.toInt_inj.mp (by omega)]
      exact w5 e n row j (by rw [qq]; exact y1) (by rw [qq]; exact y2) y3
    · refine (b_gd.sg (R := c_r226) (S := jB) c_hJ jO jBC rfl (by decide) (by decide) g' (b_al.c ?_ b_al.n)) al _ hl (b_S.cons (v := .int x) (Or.inl ⟨rfl, e⟩) (b_S.cons (v := .ref 365) (Or.inl ⟨rfl, rfl⟩) b_S.nil))
      intro ν2 h2 x2 g2
      exact b_pq.int (lo := 0) (hi := 16) (by decide) g2
  obtain ⟨r, r1, r2⟩ := cont
  exact ⟨r, b_R.cal jI58 rfl rfl (jI58c hh) w1 r1, r2.cut (W := []) w4 (fun w hw => by cases hw)⟩
/-- JuryreelModel.join(II)I -/
theorem c_v226 : b_valid c_K c_r226 := b_gd.valid (d := 3) rfl (by decide +kernel) fun ν h g => by
  refine b_gd.sg (S := jA) c_hJ jO jAC rfl (by decide) (by decide) g (b_al.c ?_ (b_al.c ?_ b_al.n))
  · intro ν3 h3 x3 g3
    exact b_pq.int (lo := 0) (hi := 16) (by decide) g3
  · intro ν1 h1 x1 g1
    exact b_pq.to rfl (j58 g1.bare)
end
/-! part 78f.film -/
section
/-! film: one film more, and none more is left -/
theorem fO : b_cal c_K (b_lim 1) (b_orc c_K [] 3000 1) := b_orc_ok c_hJ (fun _ h => absurd h List.not_mem_nil) 3000 1
def fA : BSg := ((168, 0), ([some (2, 365, 0), some (1, 0, 0), some (1, 1, 0), some (1, 2, 0), none], [], ([(0, 0, 65535), (0, (-2147483648), 2147483647), (0, (-2147483648), 2147483647)], [], [])), [(50, 55), (51, 0), (52, 0), (53, 0), (54, 0), (55, 0), (65, 0)], [
  (.inl (.inl (some (0, 0, 0))), ([], [], []), (0, 0)),
  (.inr (151, [some (2, 365, 0), none, none, none, none], [(1, 3, 1), (2, 365, 0)]), ([(0, 0, 19)], [((2, 365, 0), (0, 0, 44), (1, 3, 0))], []), (0, 0))])
def fAT : List BCu := [(118, [some (2, 365, 0), none, none, none, some (1, 4, 0)], ([(0, 0, 65535), (0, (-2147483648), 2147483647), (0, (-2147483648), 2147483647), (0, 0, 19), (0, 0, 8)], [((2, 365, 0), (0, 0, 44), (1, 3, 0))], []), ([(4, (-1))], 20), none)]
theorem fAC : b_rgc c_K (b_orc c_K [] 3000 1) fA fAT [151] 3000 = true := by decide +kernel
def fB : BSg := ((168, 154), ([some (2, 365, 0), none, none, none, none], [], ([(0, 0, 65535), (0, (-2147483648), 2147483647), (0, (-2147483648), 2147483647), (0, 0, 19), (0, 1, 20)], [((2, 365, 0), (0, 0, 44), (1, 4, 0))], [])), [], [
  (.inl (.inl (some (1, 4, (-1)))), ([], [], []), (0, 0))])
theorem fBC : b_sgc c_K (b_orc c_K [] 3000 1) fB [] 3000 = true := by decide +kernel
theorem fI151 : a_ins 168 151 = some (.putfield 156, 3) := by decide +kernel
theorem fI151f : a_field (a_own 168) 156 = some (12, 44) := by decide +kernel
theorem fI151t : a_fty 12 44 = .int := by decide +kernel
theorem fI151n : (a_cT 12 44).2.2.2 = false := by decide +kernel
theorem f151 {ν : BN} {h : AH} (g : b_G c_K ν h h (fA.2.1.2.2.1 ++ [(0, 0, 19)], [((2, 365, 0), (0, 0, 44), (1, 3, 0))], [], [], [])) : b_gd c_K c_r168 1 151 [some (2, 365, 0), none, none, none, none] [(1, 3, 1), (2, 365, 0)] 4 ν h 0 0 := by
  intro al st hl hs
  obtain ⟨v1, t1, rfl, a1, b1⟩ := hs.inv
  obtain ⟨v2, t2, rfl, a2, b2⟩ := b1.inv
  obtain rfl := b2.inv0
  obtain ⟨y, rfl, y1⟩ := a1.int (by show 1 < 2; decide)
  obtain ⟨a, rfl, a3⟩ := a2.ref (Or.inl rfl)
  have a3 := a3.k
  subst a3
  have y1 := y1.v
  have iv3 := g.iv 3 (lo := 0) (hi := 19) rfl
  have H := g.2.2.2.2.1
  obtain ⟨vs, u1, u2, u3⟩ := H.1 365 50 _ c_a365 c_q50
  have u1 : h[365]? = some (12, vs) := u1
  have u2 : vs.length = 56 := u2 (by decide)
  obtain ⟨x, x1, x2⟩ := g.rdF (a := 365) (j := 44) (m := 3) (k' := 0) (by rfl)
  have x1 : vs[44]? = some (.int x) := by
    unfold c_at at x1
    rw [u1] at x1
    exact x1
  have lt := (List.getElem?_eq_some_iff.mp u1).1
  have e : a_stp (a_own 168) (a_ini 168) (.putfield 156) 3 151 al [.int y, .ref 365] h = some (154, al, [], h.set 365 (12, vs.set 44 (.int y)), 0, 0) := a_by4 rfl (by
    unfold a_st4
    dsimp only
    rw [fI151f]
    dsimp only
    rw [u1]
    dsimp only
    rw [if_pos ⟨rfl, by omega, by rw [fI151t]; rfl, by rw [fI151t]; rfl, Or.inl fI151n⟩])
  have key : b_key c_K 365 44 = some (50, 44) := b_keyF c_a365 c_q50 rfl
  have J : c_J h := H.2
  have J2 : c_J (h.set 365 (12, vs.set 44 (.int y))) := by
    refine ⟨c_Ja_set J.1 (by decide), ?_⟩
    obtain ⟨-, ⟨z, q2⟩, q3⟩ := J.2
    refine ⟨⟨_, List.getElem?_set_self lt⟩, ⟨z, by rw [List.getElem?_set_ne (by decide)]; exact q2⟩, fun t t2 ms ls n f e1 e2 e3 e4 => ?_⟩
    rw [List.getElem?_set_self lt] at e1
    cases e1
    rw [List.getElem?_set_self (by omega)] at e2
    cases e2
    rw [List.getElem?_set_ne (by decide)] at e3
    have := q3 12 t2 vs ls x f u1 x1 e3 e4
    omega
  have H2 : b_H c_K (h.set 365 (12, vs.set 44 (.int y))) := ⟨H.1.put u1 (fun g' row' ty' y1' y2 y3 => by
    rw [c_a365] at y1'
    cases y1'
    rw [c_q50] at y2
    cases y2
    cases y3
    exact ⟨by show (0 : Int) ≤ y.toInt; omega, by show y.toInt ≤ 20; omega⟩), J2⟩
  have g2 : b_G c_K ν (h.set 365 (12, vs.set 44 (.int y))) (h.set 365 (12, vs.set 44 (.int y))) (fA.2.1.2.2.1 ++ [(0, 0, 19)], [], [], [], []) := ⟨g.1, (fun f hf => by cases hf), (fun f hf => by cases hf), (fun f hf => by cases hf), H2, b_frm.rf⟩
  have hy : c_at (h.set 365 (12, vs.set 44 (.int y))) 365 44 = some (.int y) := by rw [c_at_set u1 (by omega), if_pos ⟨rfl, rfl⟩]
  obtain ⟨g3, x3⟩ := g2.rdI (base := (2, 365, 0)) (slot := (0, 0, 44)) (lo := 1) (hi := 20) hy (Or.inl ⟨rfl, rfl⟩) (Or.inl ⟨rfl, rfl⟩) (by omega) (by omega)
  have k : b_gd c_K c_r168 1 154 [some (2, 365, 0), none, none, none, none] [] 4 ν (h.set 365 (12, vs.set 44 (.int y))) 0 0 := by
    refine b_gd.more (N' := 5) (ν' := b_nu ν 4 y.toInt) x3 (by decide) ?_
    refine b_gd.sg (S := fB) c_hJ fO fBC rfl (by decide) (by decide) (g3.wk (by decide)) (b_al.c ?_ b_al.n)
    intro ν5 h5 x5 g5
    exact b_pq.int (lo := 0) (hi := 19) (by decide) g5
  obtain ⟨r, r1, r2⟩ := k al [] hl b_S.nil
  exact ⟨r, b_R.stp fI151 rfl rfl rfl e r1, r2.cut (W := [(50, 44)]) (b_frm.set u1 key) (by decide)⟩
/-- JuryreelModel.film(CII)I -/
theorem c_v168 : b_valid c_K c_r168 := b_gd.valid (d := 1) rfl (by decide +kernel) fun ν h g => by
  refine b_gd.rg (S := fA) c_hJ fO fAC rfl (by decide) (by decide) g (b_al.c ?_ (b_al.c ?_ b_al.n))
  · intro ν3 h3 x3 g3
    exact b_pq.int (lo := 0) (hi := 19) (by decide) g3
  · intro ν1 h1 x1 g1
    exact b_pq.to rfl (f151 (g1.wk (by decide)))
end
