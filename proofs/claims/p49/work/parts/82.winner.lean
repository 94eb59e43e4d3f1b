/-! winnerOf -/
/-- a film that is left stands on the ballot of a juror -/
def onB (h : AH) (s f : Nat) : Prop := ∃ j, jn h s j ∧ oB h s j f
def wW : BW := (89, 0) :: oW
theorem onB_frm {W : BW} {h h' : AH} (H : b_H c_K h) (f : b_frm c_K W h h') (w : c_nin wW W = true) {s k : Nat} (p : onB h s k) : onB h' s k := by
  obtain ⟨j, p1, p2⟩ := p
  exact ⟨j, (jn_iff H f (c_nin_at w _ rfl)).mpr p1, oB_frm H f (c_nin_t w) p2⟩
theorem wI18 : a_ins 246 18 = some (.bastore, 1) := by decide +kernel
theorem wI66 : a_ins 246 66 = some (.bastore, 1) := by decide +kernel
theorem wI123 : a_ins 246 123 = some (.invokevirtual 346, 3) := by decide +kernel
theorem wI123c : (a_of a_inv (a_own 246)).find? (fun e => e.1 == 346 && e.2.1 == 0) = some (346, 0, 245, (9, 29), (9, 31), (0, 59), (1, 13)) := by rfl
theorem c_n245 : a_nrg 245 = 2 ∧ a_own 245 = 12 := by decide +kernel
/-- byRounds, where a film that is left stands on a ballot -/
theorem rAll {h : AH} (H : b_H c_K h) {s : Int32} (hs : 0 ≤ s.toInt ∧ s.toInt ≤ 4) (hj : ∃ j, hasL h s.toInt.toNat j) : ∃ (x : Int32) (h' : AH), b_lim 3 245 [.ref 365, .int s] h = some (.inl (some (.int x)), h', 0, 0) ∧ 0 ≤ x.toInt ∧ x.toInt ≤ 19 ∧ b_H c_K h' ∧ b_frm c_K [(108, 0)] h h' := by
  have g0 : b_G c_K (fun _ => s.toInt) h h (rA.2.1.2.2.1, [], [], [], []) := ⟨(fun n q hq => by
    rcases n with _ | n
    · cases hq; exact b_q.i hs.1 hs.2
    · cases hq), (fun f hf => by cases hf), (fun f hf => by cases hf), (fun f hf => by cases hf), H, b_frm.rf⟩
  obtain ⟨r, r1, r2⟩ := b_gd.lim (R := c_r245) (d := 2) (N := 1) (ν := fun _ => s.toInt) (as := [.ref 365, .int s]) (h := h) (K := c_K) (by decide +kernel) (b_S.cons (Or.inl ⟨rfl, rfl⟩) (b_S.cons (Or.inr ⟨rfl, by decide, by show s.toInt = s.toInt + 0; omega⟩) b_S.nil)) (r0 _ _ h g0 (Nat.lt_succ_self _) hj)
  obtain ⟨x, h', ν', e, x1, x2, g⟩ := r2.intS rfl (by show 1 < 2; decide)
  subst e
  have x2 := x2.v
  have iv := g.iv 1 (lo := 0) (hi := 19) rfl
  exact ⟨x, h', r1, by omega, by omega, g.2.2.2.2.1, g.2.2.2.2.2⟩
/-- from the loop's end -/
theorem w88 {ν : BN} {h : AH} (g : b_G c_K ν h h ([(0, 0, 4), (0, 0, 1)], [], [], [], [])) (hQ : ν 1 = 1 → ∃ j, hasL h (ν 0).toNat j) : b_gd c_K c_r246 4 88 [some (2, 365, 0), some (1, 0, 0), some (1, 1, 0), none, none] [] 2 ν h 0 0 := by
  have iv0 := g.iv 0 (lo := 0) (hi := 4) rfl
  have iv1 := g.iv 1 (lo := 0) (hi := 1) rfl
  have H := g.2.2.2.2.1
  by_cases h1 : ν 1 = 1
  · have g1 := (b_setQ g (n := 1) (lo := 1) (hi := 1) (by omega) (by omega)).1
    refine b_gd.sg (S := wH) c_hJ wO wHC rfl (by decide) (by decide) g1 (b_al.c ?_ (b_al.c ?_ b_al.n))
    · intro ν3 h3 x3 g3
      exact b_pq.int (lo := -1) (hi := 19) (by decide) g3
    · intro ν3 h3 x3 g3
      refine b_pq.to rfl ?_
      intro al st hl hst
      obtain ⟨v1, t1, rfl, b1, c1⟩ := hst.inv
      obtain ⟨v2, t2, rfl, b2, c2⟩ := c1.inv
      obtain rfl := c2.inv0
      obtain ⟨s, rfl, s1⟩ := b1.int (by show 1 < 2; decide)
      obtain ⟨r3, rfl, r4'⟩ := b2.ref (Or.inl rfl)
      have s1 := s1.v
      have r4' := r4'.k
      subst r4'
      have m0 := x3.2 0 (by decide)
      have H3 := g3.2.2.2.2.1
      obtain ⟨vs, hh⟩ := c_o365 H3
      obtain ⟨x, h4, y1, y2, y3, y4, y5⟩ := rAll H3 (s := s) (by omega) (by rw [show s.toInt.toNat = (ν 0).toNat by omega]; exact (hQ h1).imp fun k => (hasL_iff H g3.2.2.2.2.2).mpr)
      have g4 : b_G c_K ν3 h4 h4 (wH.2.1.2.2.1, [], [], [], []) := ⟨g3.1, (fun f hf => by cases hf), (fun f hf => by cases hf), (fun f hf => by cases hf), y4, b_frm.rf⟩
      have g5 := g4.ad (ν' := b_nu ν3 2 x.toInt) (E' := [(0, 0, 19)]) (F' := []) (C' := []) (fun n hn => if_neg (Nat.ne_of_lt hn)) ⟨by show b_q _ _ (b_nu ν3 2 x.toInt 2); rw [b_nu_n]; exact b_q.i y2 y3, trivial⟩ trivial trivial
      have cont : b_gd c_K c_r246 4 126 [some (2, 365, 0), some (1, 0, 0), none, none, none] [(1, 2, 0)] 3 (b_nu ν3 2 x.toInt) h4 0 0 := by
        refine b_gd.cv (G := ([(0, 0, 4), (0, 1, 1), (0, 0, 19)], [], [], [], [])) (T := (wI.2.1.2.2.1, [], [])) (bl := wI.2.1.1) (bs := wI.2.1.2.1) (σ := [(1, 0, 0), (1, 2, 0)]) (by decide +kernel) g5 (fun g6 => ?_)
        refine b_gd.sg (S := wI) c_hJ wO wIC rfl (by decide) (by decide) g6 (b_al.c ?_ b_al.n)
        intro ν5 h5 x5 g7
        exact b_pq.int (lo := -1) (hi := 19) (by decide) g7
      obtain ⟨r, r1, r2⟩ := cont al [.int x] (hl.ext b_nu_ext) (b_S.cons (v := .int x) (Or.inr ⟨rfl, by decide, by show _ = b_nu ν3 2 x.toInt 2 + 0; rw [b_nu_n]; omega⟩) b_S.nil)
      exact ⟨r, b_R.cal wI123 rfl rfl (c_calV (k := 2) wI123c c_n245.1 c_n245.2 (by show 2 ≤ 2; decide) (Nat.le_of_ble_eq_true rfl) rfl hh) (b_lim_up (k := 1) y1) r1, (r2.cut (W := [(108, 0)]) y5 (by decide)).ext (N := 3) ⟨by decide, fun n hn => if_neg (by have hn : n < 1 := hn; omega)⟩⟩
  · have g1 := (b_setQ g (n := 1) (lo := 0) (hi := 0) (by omega) (by omega)).1
    refine b_gd.sg (S := wG) c_hJ wO wGC rfl (by decide) (by decide) g1 (b_al.c ?_ b_al.n)
    intro ν3 h3 x3 g3
    exact b_pq.int (lo := -1) (hi := 19) (by decide) g3
/-- a film there is -/
def lt20 (h : AH) (k : Int) : Prop := ∃ f : Int32, c_at h 365 44 = some (.int f) ∧ k < f.toInt
theorem lt20_frm0 {h h' : AH} (H : b_H c_K h) (f : b_frm c_K [] h h') {k : Int} (p : lt20 h k) : lt20 h' k := by
  obtain ⟨n, p1, p2⟩ := p
  exact ⟨n, by rw [f.kF H c_a365 c_q50 rfl rfl]; exact p1, p2⟩
theorem lt20_at {h : AH} {k : Int} (p : lt20 h k) {f : Int32} (hf : c_at h 365 44 = some (.int f)) (hk : 0 ≤ k) : ((k.toNat : Nat) : Int) < f.toInt := by
  obtain ⟨n, p1, p2⟩ := p
  rw [hf] at p1
  cases p1
  omega
theorem lt20_frm {h h1 h2 h3 : AH} (H : b_H c_K h) (f1 : b_frm c_K [] h h1) (f2 : b_frm c_K [(108, 0)] h1 h2) (f3 : b_frm c_K [] h2 h3) (H1 : b_H c_K h1) (H2 : b_H c_K h2) {k : Int} (p : lt20 h k) : lt20 h3 k := by
  refine lt20_frm0 H2 f3 ?_
  obtain ⟨n, p1, p2⟩ := lt20_frm0 H f1 p
  exact ⟨n, by rw [f2.kF H1 c_a365 c_q50 rfl rfl]; exact p1, p2⟩
/-- what holds at the outer loop's head -/
def wQ (h : AH) (s : Nat) (has k : Int) : Prop := (∀ f : Nat, (f : Int) < k → c_at h 769 f = some (.int 1) → onB h s f) ∧ (has = 1 → ∃ f : Nat, (f : Int) < k ∧ c_at h 769 f = some (.int 1))
theorem wQ_frm {h h' : AH} (H : b_H c_K h) (f : b_frm c_K [] h h') {s : Nat} {has k : Int} (q : wQ h s has k) : wQ h' s has k := by
  have e : ∀ i, c_at h' 769 i = c_at h 769 i := fun i => f.k H c_a769 c_q108 (by decide) rfl i
  refine ⟨fun i hi p => onB_frm H f (by decide) (q.1 i hi (by rw [← e]; exact p)), fun p => ?_⟩
  obtain ⟨i, i1, i2⟩ := q.2 p
  exact ⟨i, i1, by rw [e]; exact i2⟩
theorem w22 : ∀ (m : Nat) (ν : BN) (h : AH), b_G c_K ν h h (wD0.2.1.2.2.1, [], [], [], []) → (5 - ν 3).toNat < m → wQ h (ν 0).toNat (ν 1) (ν 2) → (c_at h 769 (ν 2).toNat = some (.int 1) → onB h (ν 0).toNat (ν 2).toNat) → lt20 h (ν 2) → (∀ (ν' : BN) (h' : AH), b_G c_K ν' h' h' (wB.2.1.2.2.1, [], [], [], []) → ν' 0 = ν 0 → ν' 2 = ν 2 + 1 → wQ h' (ν' 0).toNat (ν' 1) (ν' 2) → b_gd c_K c_r246 4 4 wB.2.1.1 [] wB.2.1.2.2.1.length ν' h' 0 0) → b_gd c_K c_r246 4 22 wD0.2.1.1 [] wD0.2.1.2.2.1.length ν h 0 0
  | 0, ν, h, g, hm, _, _, _, _ => absurd hm (Nat.not_lt_zero _)
  | m + 1, ν, h, g, hm, hQ, hB, hf, ih => by
    have H := g.2.2.2.2.1
    have iv0 := g.iv 0 (lo := 0) (hi := 4) rfl
    have iv1 := g.iv 1 (lo := 0) (hi := 1) rfl
    have iv2 := g.iv 2 (lo := 0) (hi := 19) rfl
    have iv3 := g.iv 3 (lo := 0) (hi := 5) rfl
    obtain ⟨a, a1, a2, a3⟩ := H.rdI (j := (ν 2).toNat) (lo := 0) (hi := 1) c_a769 c_q108 (by decide) (by show (ν 2).toNat < 20; omega) rfl
    -- after a store at 66
    have again : ∀ (b : Int) (ν1 : BN) (h1 : AH) (E : BQ), (b = 0 ∨ b = 1) → b_frm c_K [] h h1 → b_H c_K h1 → b_G c_K ν1 h1 h1 (wD0.2.1.2.2.1 ++ (0, 0, 4) :: E, [], [], [], []) → ν1 0 = ν 0 → ν1 1 = ν 1 → ν1 2 = ν 2 → ν1 4 = ν 3 → (b = 1 → onB h1 (ν 0).toNat (ν 2).toNat) → ∀ (chk : b_cvc c_K c_r246 (wE.2.1.2.2.1, [], []) wE.2.1.1 [] [some (2, 365, 0), some (1, 0, 0), some (1, 1, 0), some (1, 2, 0), some (1, 4, 0)] [] (wD0.2.1.2.2.1 ++ (0, 0, 4) :: E, [], [], [], []) [(1, 0, 0), (1, 1, 0), (1, 2, 0), (1, 4, 0)] = true) (t n : Nat) (vs : List Value) (w : Value) (u : Int32), w = .int u → u.toInt = b → n = (ν 2).toNat → h1[769]? = some (t, vs) → n < vs.length → b_H c_K (h1.set 769 (t, vs.set n w)) → b_gd c_K c_r246 4 67 [some (2, 365, 0), some (1, 0, 0), some (1, 1, 0), some (1, 2, 0), some (1, 4, 0)] [] (wD0.2.1.2.2.1 ++ (0, 0, 4) :: E).length ν1 (h1.set 769 (t, vs.set n w)) 0 0 := by
      intro b ν1 h1 E hb fr1 H1 g1 m0 m1 m2 m4 hb1 chk t n vs w u hw hu hn e1 hl H2
      subst hw
      have g2 : b_G c_K ν1 (h1.set 769 (t, vs.set n (.int u))) (h1.set 769 (t, vs.set n (.int u))) (wD0.2.1.2.2.1 ++ (0, 0, 4) :: E, [], [], [], []) := ⟨g1.1, (fun f hf => by cases hf), (fun f hf => by cases hf), (fun f hf => by cases hf), H2, b_frm.rf⟩
      have frs := b_frm.set (K := c_K) (v := .int u) e1 (b_keyA (k := n) c_a769 c_q108 (by decide))
      have Q1 := wQ_frm H fr1 hQ
      have sa := fun a' j => c_at_set (w := .int u) e1 hl a' j
      refine b_gd.cv (G := (wD0.2.1.2.2.1 ++ (0, 0, 4) :: E, [], [], [], [])) (T := (wE.2.1.2.2.1, [], [])) (bl := wE.2.1.1) (bs := []) (σ := [(1, 0, 0), (1, 1, 0), (1, 2, 0), (1, 4, 0)]) chk g2 (fun g3 => ?_)
      refine b_gd.sg (S := wE) c_hJ wO wEC rfl (by decide) (by decide) g3 (b_al.c ?_ b_al.n)
      intro ν3 h3 x3 g4
      refine b_pq.to rfl ?_
      have fr3 := g4.2.2.2.2.2
      have n0 : ν3 0 = ν 0 := (x3.2 0 (by decide)).trans (by show ν1 0 + 0 = _; omega)
      have n1 : ν3 1 = ν 1 := (x3.2 1 (by decide)).trans (by show ν1 1 + 0 = _; omega)
      have n2 : ν3 2 = ν 2 := (x3.2 2 (by decide)).trans (by show ν1 2 + 0 = _; omega)
      have n3 : ν3 3 = ν 3 := (x3.2 3 (by decide)).trans (by show ν1 4 + 0 = _; omega)
      refine b_gd.cv (G := (wE.2.1.2.2.1, [], [], [], [])) (T := (wD0.2.1.2.2.1, [], [])) (bl := wD0.2.1.1) (bs := []) (σ := [(1, 0, 0), (1, 1, 0), (1, 2, 0), (1, 3, 1)]) (by decide +kernel) g4 (fun g5 => ?_)
      have u0 : b_vT [(1, 0, 0), (1, 1, 0), (1, 2, 0), (1, 3, 1)] ν3 0 = ν 0 := by show ν3 0 + 0 = _; omega
      have u1 : b_vT [(1, 0, 0), (1, 1, 0), (1, 2, 0), (1, 3, 1)] ν3 1 = ν 1 := by show ν3 1 + 0 = _; omega
      have u2 : b_vT [(1, 0, 0), (1, 1, 0), (1, 2, 0), (1, 3, 1)] ν3 2 = ν 2 := by show ν3 2 + 0 = _; omega
      have u3 : b_vT [(1, 0, 0), (1, 1, 0), (1, 2, 0), (1, 3, 1)] ν3 3 = ν 3 + 1 := by show ν3 3 + 1 = _; omega
      have ivj := g4.iv 3 (lo := 0) (hi := 4) rfl
      refine w22 m _ h3 g5 (by rw [u3]; omega) ?_ ?_ (by rw [u2]; exact lt20_frm H fr1 frs fr3 H1 H2 hf) (fun ν' h' g' e0 e2 q => ih ν' h' g' (by rw [e0, u0]) (by rw [e2, u2]) q)
      · rw [u0, u1, u2]
        refine wQ_frm H2 fr3 ⟨fun i hi p => ?_, fun p => ?_⟩
        · rw [sa, if_neg (fun q => by omega)] at p
          exact onB_frm H1 frs (by decide) (Q1.1 i hi p)
        · obtain ⟨i, i1, i2⟩ := Q1.2 p
          exact ⟨i, i1, by rw [sa, if_neg (fun q => by omega)]; exact i2⟩
      · rw [u0, u2]
        intro p
        rw [fr3.k H2 c_a769 c_q108 (by decide) rfl, sa, if_pos ⟨rfl, hn.symm⟩] at p
        cases p
        have hb1' := hb1 (by rw [← hu]; decide)
        exact onB_frm H2 fr3 (by decide) (onB_frm H1 frs (by decide) hb1')
    by_cases ha : a.toInt = 1
    · have ha := c_is1 ha
      subst ha
      have g0 := g.ad (ν' := ν) (E' := []) (F' := [((2, 769, 0), (1, 2, 0), (0, 0, 1))]) (C' := []) (fun _ _ => rfl) trivial ⟨b_fa.mk a1 (Or.inl ⟨rfl, rfl⟩) (Or.inr ⟨rfl, by decide, by show _ = ν 2 + 0; omega⟩) (Or.inl ⟨rfl, by decide⟩), trivial⟩ trivial
      refine b_gd.sg (S := wD1) c_hJ wO wD1C rfl (by decide) (by decide) (g0.wk (by decide)) (b_al.c ?_ (b_al.c ?_ b_al.n))
      · intro ν1 h1 x1 g1
        refine b_pq.to rfl ?_
        have m0 := x1.2 0 (by decide)
        have m1 := x1.2 1 (by decide)
        have m2 := x1.2 2 (by decide)
        have fr1 := g1.2.2.2.2.2
        have Q1 := wQ_frm H fr1 hQ
        refine b_gd.cv (T := (wF1.2.1.2.2.1, wF1.2.1.2.2.2.1, [])) (bl := wF1.2.1.1) (bs := []) (σ := [(1, 0, 0), (1, 1, 0), (1, 2, 0)]) (by decide +kernel) g1 (fun g2 => ?_)
        refine b_gd.sg (S := wF1) c_hJ wO wF1C rfl (by decide) (by decide) g2 (b_al.c ?_ b_al.n)
        intro ν3 h3 x3 g3
        refine b_pq.to rfl ?_
        have fr3 := b_frm.tr fr1 g3.2.2.2.2.2 (W'' := []) (fun w hw => hw) (fun w hw => hw)
        have n0 : ν3 0 = ν 0 := (x3.2 0 (by decide)).trans (by show ν1 0 + 0 = _; omega)
        have n2 : ν3 2 = ν 2 := (x3.2 2 (by decide)).trans (by show ν1 2 + 0 = _; omega)
        refine b_gd.cv (T := (wB.2.1.2.2.1, [], [])) (bl := wB.2.1.1) (bs := []) (σ := [(1, 0, 0), (0, 0, 1), (1, 2, 1)]) (by decide +kernel) g3 (fun g4 => ?_)
        have u0 : b_vT [(1, 0, 0), (0, 0, 1), (1, 2, 1)] ν3 0 = ν 0 := by show ν3 0 + 0 = _; omega
        have u2 : b_vT [(1, 0, 0), (0, 0, 1), (1, 2, 1)] ν3 2 = ν 2 + 1 := by show ν3 2 + 1 = _; omega
        refine ih _ h3 g4 u0 u2 ?_
        rw [u0, u2]
        have e : ∀ i, c_at h3 769 i = c_at h 769 i := fun i => fr3.k H c_a769 c_q108 (by decide) rfl i
        refine ⟨fun i hi p => ?_, fun _ => ⟨(ν 2).toNat, by omega, by rw [e]; exact a1⟩⟩
        rw [e] at p
        by_cases c : (i : Int) < ν 2
        · exact onB_frm H fr3 (by decide) (hQ.1 i c p)
        · rw [show i = (ν 2).toNat by omega]
          exact onB_frm H fr3 (by decide) (hB a1)
      · intro ν1 h1 x1 g1
        refine b_pq.to rfl ?_
        have m0 := x1.2 0 (by decide)
        have m1 := x1.2 1 (by decide)
        have m2 := x1.2 2 (by decide)
        have m3 := x1.2 3 (by decide)
        have k1 : ν1 4 ≤ ν1 3 + 0 := g1.co (by decide)
        have k2 : ν1 3 ≤ ν1 4 + 0 := g1.co (by decide)
        have fr1 := g1.2.2.2.2.2
        have H1 := g1.2.2.2.2.1
        refine b_gd.putP (G := (wD1.2.1.2.2.1 ++ [(0, 0, 4)], [], [], [], [])) (gg := 108) (row := (21, 20, 1, [(0, 0, 1)])) (ty := (0, 0, 1)) wI66 (b_rowX c_a769 c_q108) (by decide +kernel) rfl (by decide +kernel) (by decide) (by decide) g1.bare (fun a n t vs w ha hn hw e1 hl => by
          obtain rfl := ha.k
          have en := hn.v
          exact c_J_left H1.2 e1 (fun _ f' hf' => by rw [show n = (ν 2).toNat by omega]; exact lt20_at (lt20_frm0 H fr1 hf) hf' iv2.1)) (fun a n t vs w ha hn hw e1 hl g2 => ?_)
        have ea := ha.k
        subst ea
        have en := hn.v
        obtain ⟨u, hw0, hu⟩ := c_one hw rfl
        exact again 1 ν1 h1 [] (Or.inr rfl) fr1 H1 g1.bare m0 m1 m2 (by omega) (fun _ => onB_frm H fr1 (by decide) (hB a1)) (by decide +kernel) t n vs w u hw0 hu (by omega) e1 hl g2.2.2.2.2.1
    · have ha0 := c_is0 (show a.toInt = 0 by omega)
      subst ha0
      have g0 := g.ad (ν' := ν) (E' := []) (F' := [((2, 769, 0), (1, 2, 0), (0, 0, 0))]) (C' := []) (fun _ _ => rfl) trivial ⟨b_fa.mk a1 (Or.inl ⟨rfl, rfl⟩) (Or.inr ⟨rfl, by decide, by show _ = ν 2 + 0; omega⟩) (Or.inl ⟨rfl, by decide⟩), trivial⟩ trivial
      refine b_gd.sg (S := wD0) c_hJ wO wD0C rfl (by decide) (by decide) (g0.wk (by decide)) (b_al.c ?_ (b_al.c ?_ (b_al.c ?_ b_al.n)))
      · intro ν1 h1 x1 g1
        refine b_pq.to rfl ?_
        have m0 := x1.2 0 (by decide)
        have m1 := x1.2 1 (by decide)
        have m2 := x1.2 2 (by decide)
        have fr1 := g1.2.2.2.2.2
        refine b_gd.cv (T := (wF0.2.1.2.2.1, wF0.2.1.2.2.2.1, [])) (bl := wF0.2.1.1) (bs := []) (σ := [(1, 0, 0), (1, 1, 0), (1, 2, 0)]) (by decide +kernel) g1 (fun g2 => ?_)
        refine b_gd.sg (S := wF0) c_hJ wO wF0C rfl (by decide) (by decide) g2 (b_al.c ?_ b_al.n)
        intro ν3 h3 x3 g3
        refine b_pq.to rfl ?_
        have fr3 := b_frm.tr fr1 g3.2.2.2.2.2 (W'' := []) (fun w hw => hw) (fun w hw => hw)
        have n0 : ν3 0 = ν 0 := (x3.2 0 (by decide)).trans (by show ν1 0 + 0 = _; omega)
        have n1 : ν3 1 = ν 1 := (x3.2 1 (by decide)).trans (by show ν1 1 + 0 = _; omega)
        have n2 : ν3 2 = ν 2 := (x3.2 2 (by decide)).trans (by show ν1 2 + 0 = _; omega)
        refine b_gd.cv (T := (wB.2.1.2.2.1, [], [])) (bl := wB.2.1.1) (bs := []) (σ := [(1, 0, 0), (1, 1, 0), (1, 2, 1)]) (by decide +kernel) g3 (fun g4 => ?_)
        have u0 : b_vT [(1, 0, 0), (1, 1, 0), (1, 2, 1)] ν3 0 = ν 0 := by show ν3 0 + 0 = _; omega
        have u1 : b_vT [(1, 0, 0), (1, 1, 0), (1, 2, 1)] ν3 1 = ν 1 := by show ν3 1 + 0 = _; omega
        have u2 : b_vT [(1, 0, 0), (1, 1, 0), (1, 2, 1)] ν3 2 = ν 2 + 1 := by show ν3 2 + 1 = _; omega
        refine ih _ h3 g4 u0 u2 ?_
        rw [u0, u1, u2]
        have e : ∀ i, c_at h3 769 i = c_at h 769 i := fun i => fr3.k H c_a769 c_q108 (by decide) rfl i
        refine ⟨fun i hi p => ?_, fun p => ?_⟩
        · rw [e] at p
          by_cases c : (i : Int) < ν 2
          · exact onB_frm H fr3 (by decide) (hQ.1 i c p)
          · rw [show i = (ν 2).toNat by omega, a1] at p
            cases p
        · obtain ⟨i, i1, i2⟩ := hQ.2 p
          exact ⟨i, by omega, by rw [e]; exact i2⟩
      · intro ν1 h1 x1 g1
        refine b_pq.to rfl ?_
        have m0 := x1.2 0 (by decide)
        have m1 := x1.2 1 (by decide)
        have m2 := x1.2 2 (by decide)
        have m3 := x1.2 3 (by decide)
        have k1 : ν1 4 ≤ ν1 3 + 0 := g1.co (by decide)
        have k2 : ν1 3 ≤ ν1 4 + 0 := g1.co (by decide)
        have fr1 := g1.2.2.2.2.2
        have H1 := g1.2.2.2.2.1
        refine b_gd.putP (G := (wD0.2.1.2.2.1 ++ [(0, 0, 4)], [], [], [], [])) (gg := 108) (row := (21, 20, 1, [(0, 0, 1)])) (ty := (0, 0, 1)) wI66 (b_rowX c_a769 c_q108) (by decide +kernel) rfl (by decide +kernel) (by decide) (by decide) g1.bare (fun a n t vs w ha hn hw e1 hl => by
          obtain rfl := ha.k
          obtain ⟨x, rfl, hx⟩ := c_one hw rfl
          exact c_J_left0 H1.2 e1 (by rw [c_is0 hx]; decide)) (fun a n t vs w ha hn hw e1 hl g2 => ?_)
        have ea := ha.k
        subst ea
        have en := hn.v
        obtain ⟨u, hw0, hu⟩ := c_one hw rfl
        exact again 0 ν1 h1 [] (Or.inl rfl) fr1 H1 g1.bare m0 m1 m2 (by omega) (fun e => by cases e) (by decide +kernel) t n vs w u hw0 hu (by omega) e1 hl g2.2.2.2.2.1
      · intro ν1 h1 x1 g1
        refine b_pq.to rfl ?_
        have m0 := x1.2 0 (by decide)
        have m1 := x1.2 1 (by decide)
        have m2 := x1.2 2 (by decide)
        have m3 := x1.2 3 (by decide)
        have k1 : ν1 4 ≤ ν1 3 + 0 := g1.co (by decide)
        have k2 : ν1 3 ≤ ν1 4 + 0 := g1.co (by decide)
        have k3 : ν1 3 ≤ ν1 5 + (-1) := g1.co (by decide)
        have k4 : ν1 6 ≤ ν1 8 + (-1) := g1.co (by decide)
        have k5 : ν1 11 ≤ ν1 2 + 0 := g1.co (by decide)
        have k6 : ν1 2 ≤ ν1 11 + 0 := g1.co (by decide)
        have iv6 := g1.iv 6 (lo := 0) (hi := 8) rfl
        have fr1 := g1.2.2.2.2.2
        have H1 := g1.2.2.2.2.1
        have on1 : onB h1 (ν 0).toNat (ν 2).toNat := by
          obtain ⟨z, z1, z2⟩ := g1.rd (a := 619) (n := 0) (m := 5) (k := 0) (k' := 0) (by rfl) (j := (ν 0).toNat) (by omega)
          have ob := oB_of g1 (s := 0) (j := 3) (B := 7) (n := 8) (R1 := 9) (R2 := 10) (p := 6) (x := 11) (by rfl) rfl rfl rfl (by omega) (by omega) (by omega) (by omega) (by omega)
          rw [m0, m3, show (ν1 11).toNat = (ν 2).toNat by omega] at ob
          exact ⟨(ν 3).toNat, ⟨z, z1, by omega⟩, ob⟩
        refine b_gd.putP (G := (wD0.2.1.2.2.1 ++ [(0, 0, 4), (0, 1, 5), (0, 0, 8), (100, 0, 0), (0, 0, 9), (102, 0, 0), (103, 0, 0), (0, 0, 19)], [], [], [], [])) (gg := 108) (row := (21, 20, 1, [(0, 0, 1)])) (ty := (0, 0, 1)) wI66 (b_rowX c_a769 c_q108) (by decide +kernel) rfl (by decide +kernel) (by decide) (by decide) g1.bare (fun a n t vs w ha hn hw e1 hl => by
          obtain rfl := ha.k
          have en := hn.v
          exact c_J_left H1.2 e1 (fun _ f' hf' => by rw [show n = (ν 2).toNat by omega]; exact lt20_at (lt20_frm0 H fr1 hf) hf' iv2.1)) (fun a n t vs w ha hn hw e1 hl g2 => ?_)
        have ea := ha.k
        subst ea
        have en := hn.v
        obtain ⟨u, hw0, hu⟩ := c_one hw rfl
        exact again 1 ν1 h1 [(0, 1, 5), (0, 0, 8), (100, 0, 0), (0, 0, 9), (102, 0, 0), (103, 0, 0), (0, 0, 19)] (Or.inr rfl) fr1 H1 g1.bare m0 m1 m2 (by omega) (fun _ => on1) (by decide +kernel) t n vs w u hw0 hu (by omega) e1 hl g2.2.2.2.2.1
theorem w4 : ∀ (m : Nat) (ν : BN) (h : AH), b_G c_K ν h h (wB.2.1.2.2.1, [], [], [], []) → (20 - ν 2).toNat < m → wQ h (ν 0).toNat (ν 1) (ν 2) → b_gd c_K c_r246 4 4 wB.2.1.1 [] wB.2.1.2.2.1.length ν h 0 0
  | 0, ν, h, g, hm, _ => absurd hm (Nat.not_lt_zero _)
  | m + 1, ν, h, g, hm, hQ => by
    have H := g.2.2.2.2.1
    have iv0 := g.iv 0 (lo := 0) (hi := 4) rfl
    have iv1 := g.iv 1 (lo := 0) (hi := 1) rfl
    have iv2 := g.iv 2 (lo := 0) (hi := 20) rfl
    refine b_gd.sg c_hJ wO wBC rfl (by decide) (by decide) g (b_al.c ?_ (b_al.c ?_ b_al.n))
    · intro ν1 h1 x1 g1
      refine b_pq.to rfl ?_
      have m0 := x1.2 0 (by decide)
      have m1 := x1.2 1 (by decide)
      have m2 := x1.2 2 (by decide)
      have fr1 := g1.2.2.2.2.2
      have Q1 := wQ_frm H fr1 hQ
      refine b_gd.cv (T := ([(0, 0, 4), (0, 0, 1)], [], [])) (bl := [some (2, 365, 0), some (1, 0, 0), some (1, 1, 0), none, none]) (bs := []) (σ := [(1, 0, 0), (1, 1, 0)]) (by decide +kernel) g1 (fun g2 => ?_)
      have u0 : b_vT [(1, 0, 0), (1, 1, 0)] ν1 0 = ν 0 := by show ν1 0 + 0 = _; omega
      have u1 : b_vT [(1, 0, 0), (1, 1, 0)] ν1 1 = ν 1 := by show ν1 1 + 0 = _; omega
      refine w88 g2 (fun p => ?_)
      rw [u1] at p
      rw [u0]
      obtain ⟨i, i1, i2⟩ := Q1.2 p
      obtain ⟨j, j1, j2⟩ := Q1.1 i i1 i2
      exact ⟨j, j1, i, j2, i2⟩
    · intro ν1 h1 x1 g1
      refine b_pq.to rfl ?_
      have m0 := x1.2 0 (by decide)
      have m1 := x1.2 1 (by decide)
      have m2 := x1.2 2 (by decide)
      have k1 : ν1 3 ≤ ν1 2 + 0 := g1.co (by decide)
      have k2 : ν1 2 ≤ ν1 3 + 0 := g1.co (by decide)
      have k3 : ν1 3 ≤ ν1 4 + (-1) := g1.co (by decide)
      have iv3 := g1.iv 3 (lo := 0) (hi := 19) rfl
      have fr1 := g1.2.2.2.2.2
      have H1 := g1.2.2.2.2.1
      have Q1 := wQ_frm H fr1 hQ
      obtain ⟨f, f1, f2⟩ := g1.rdF (a := 365) (j := 44) (m := 4) (k' := 0) (by rfl)
      refine b_gd.putP (G := (wB.2.1.2.2.1 ++ [(0, 0, 19), (0, 1, 20)], [], [], [], [])) (gg := 108) (row := (21, 20, 1, [(0, 0, 1)])) (ty := (0, 0, 1)) wI18 (b_rowX c_a769 c_q108) (by decide +kernel) rfl (by decide +kernel) (by decide) (by decide) g1.bare (fun a n t vs w ha hn hw e1 hl => by
        obtain rfl := ha.k
        obtain ⟨x, rfl, hx⟩ := c_one hw rfl
        exact c_J_left0 H1.2 e1 (by rw [c_is0 hx]; decide)) (fun a n t vs w ha hn hw e1 hl g2 => ?_)
      have ea := ha.k
      subst ea
      have en := hn.v
      obtain ⟨x, rfl, hx⟩ := c_one hw rfl
      have hx := c_is0 hx
      subst hx
      have H2 := g2.2.2.2.2.1
      have frs := b_frm.set (K := c_K) (v := .int 0) e1 (b_keyA (k := n) c_a769 c_q108 (by decide))
      have sa := fun a' j => c_at_set (w := .int 0) e1 hl a' j
      refine b_gd.cv (G := (wB.2.1.2.2.1 ++ [(0, 0, 19), (0, 1, 20)], [], [], [], [])) (T := (wC.2.1.2.2.1, [], [])) (bl := wC.2.1.1) (bs := []) (σ := [(1, 0, 0), (1, 1, 0), (1, 3, 0)]) (by decide +kernel) g2.bare (fun g3 => ?_)
      refine b_gd.sg (S := wC) c_hJ wO wCC rfl (by decide) (by decide) g3 (b_al.c ?_ b_al.n)
      intro ν3 h3 x3 g4
      refine b_pq.to rfl ?_
      have fr3 := g4.2.2.2.2.2
      have n0 : ν3 0 = ν 0 := (x3.2 0 (by decide)).trans (by show ν1 0 + 0 = _; omega)
      have n1 : ν3 1 = ν 1 := (x3.2 1 (by decide)).trans (by show ν1 1 + 0 = _; omega)
      have n2 : ν3 2 = ν 2 := (x3.2 2 (by decide)).trans (by show ν1 3 + 0 = _; omega)
      refine b_gd.cv (T := (wD0.2.1.2.2.1, [], [])) (bl := wD0.2.1.1) (bs := []) (σ := [(1, 0, 0), (1, 1, 0), (1, 2, 0), (0, 0, 0)]) (by decide +kernel) g4 (fun g5 => ?_)
      have u0 : b_vT [(1, 0, 0), (1, 1, 0), (1, 2, 0), (0, 0, 0)] ν3 0 = ν 0 := by show ν3 0 + 0 = _; omega
      have u1 : b_vT [(1, 0, 0), (1, 1, 0), (1, 2, 0), (0, 0, 0)] ν3 1 = ν 1 := by show ν3 1 + 0 = _; omega
      have u2 : b_vT [(1, 0, 0), (1, 1, 0), (1, 2, 0), (0, 0, 0)] ν3 2 = ν 2 := by show ν3 2 + 0 = _; omega
      have e3 : ∀ i, c_at h3 769 i = c_at (h1.set 769 (t, vs.set n (.int 0))) 769 i := fun i => fr3.k H2 c_a769 c_q108 (by decide) rfl i
      refine w22 _ _ h3 g5 (Nat.lt_succ_self _) ?_ ?_ ?_ (fun ν' h' g' e0 e2 q => w4 m ν' h' g' (by rw [e2, u2]; omega) q)
      · rw [u0, u1, u2]
        refine wQ_frm H2 fr3 ⟨fun i hi p => ?_, fun p => ?_⟩
        · rw [sa, if_neg (fun q => by omega)] at p
          exact onB_frm H1 frs (by decide) (Q1.1 i hi p)
        · obtain ⟨i, i1, i2⟩ := Q1.2 p
          exact ⟨i, i1, by rw [sa, if_neg (fun q => by omega)]; exact i2⟩
      · rw [u2, e3, sa, if_pos ⟨rfl, by omega⟩]
        intro p
        cases p
      · rw [u2]
        refine ⟨f, ?_, by omega⟩
        rw [fr3.kF H2 c_a365 c_q50 rfl rfl, sa, if_neg (fun q => by omega)]
        exact f1
/-- JuryreelModel.winnerOf(I)I -/
theorem c_v246 : b_valid c_K c_r246 := b_gd.valid (d := 4) rfl (by decide +kernel) fun ν h g => by
  refine b_gd.sg (S := wA) c_hJ wO wAC rfl (by decide) (by decide) g (b_al.c ?_ b_al.n)
  intro ν1 h1 x1 g1
  refine b_pq.to rfl ?_
  refine b_gd.cv (T := (wB.2.1.2.2.1, [], [])) (bl := wB.2.1.1) (bs := []) (σ := [(1, 0, 0), (0, 0, 0), (0, 0, 0)]) (by decide +kernel) g1 (fun g2 => ?_)
  refine w4 _ _ h1 g2 (Nat.lt_succ_self _) ⟨fun f hf => ?_, fun e => ?_⟩
  · have hf : (f : Int) < 0 := hf
    omega
  · have e : (0 : Int) = 1 := e
    omega
