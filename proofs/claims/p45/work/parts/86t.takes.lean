/-! takes -/
def tW : BW := [(50, 49), (50, 53), (77, 0), (78, 0), (79, 0), (80, 0), (83, 0), (84, 0), (106, 0), (107, 0)]
def tP (h : AH) (r : AR) : Prop := ∃ (x : Int32) (h' : AH), r = (.inl (some (.int x)), h', 1, 60) ∧ 0 ≤ x.toInt ∧ x.toInt ≤ 60 ∧ b_H c_K h' ∧ b_frm c_K tW h h'
def tr (vs : List Value) (j : Nat) : Prop := vs[j]? = some (.int 1)
/-- what is known of the new array -/
def tA0 (h : AH) (a : Nat) (vs : List Value) (had : Int) : Prop := 772 ≤ a ∧ h[a]? = some (21, vs) ∧ vs.length = 60 ∧ (∀ v ∈ vs, ∃ x : Int32, v = .int x ∧ (x.toInt = 0 ∨ x.toInt = 1)) ∧ ∀ j, tr vs j → (j : Int) < had
theorem tA0_frm {W : BW} {h h' : AH} {a : Nat} {vs : List Value} {had : Int} (f : b_frm c_K W h h') (q : tA0 h a vs had) : tA0 h' a vs had := ⟨q.1, GO_frm f q.1 q.2.1, q.2.2⟩
theorem tFr {W : BW} {h h1 h2 : AH} (f : b_frm c_K tW h h1) (g : b_frm c_K W h1 h2) (w : b_subW W tW = true) : b_frm c_K tW h h2 := b_frm.tr f g (fun w hw => hw) (b_subW_ok w)
/-- a baload out of it -/
theorem tLd {d pc mc ms a : Nat} {al : AL} {h : AH} {vs : List Value} {had : Int} {k : Int32} {r : AR} (hi : a_ins 219 pc = some (.baload, 1)) (q : tA0 h a vs had) (hk : 0 ≤ k.toInt ∧ k.toInt < 60) (hr : ∀ x : Int32, (x.toInt = 0 ∨ x.toInt = 1) → vs[k.toInt.toNat]? = some (.int x) → b_R d 219 (pc + 1) al [.int x] h mc ms r) : b_R d 219 pc al [.int k, .ref a] h mc ms r := by
  obtain ⟨q1, q2, q3, q4, q5⟩ := q
  obtain ⟨k1, k2, k3⟩ := b_ix_ok (j := k) (n := vs.length) hk.1 (by omega)
  have kk : k.toNatClampNeg = k.toInt.toNat := rfl
  have hv := List.getElem?_eq_getElem (l := vs) (i := k.toInt.toNat) (by omega)
  obtain ⟨x, x1, x2⟩ := q4 _ (List.mem_of_getElem? hv)
  rw [x1] at hv
  refine b_R.stp hi rfl rfl rfl (a_by3 (r := (pc + 1, al, [.int x], h, 0, 0)) rfl (by
    unfold a_st3
    dsimp only
    rw [q2]
    dsimp only
    rw [if_pos (show a_ald .baload 21 = true by decide), k1]
    show (vs[k.toNatClampNeg]?).map _ = _
    rw [kk, hv]
    rfl)) (hr x x2 hv)
theorem tLdE {d pc mc ms a : Nat} {al : AL} {h : AH} {vs : List Value} {had : Int} {k : Int32} {P : AR → Prop} (hi : a_ins 219 pc = some (.baload, 1)) (q : tA0 h a vs had) (hk : 0 ≤ k.toInt ∧ k.toInt < 60) (hr : ∀ x : Int32, (x.toInt = 0 ∨ x.toInt = 1) → vs[k.toInt.toNat]? = some (.int x) → ∃ r, b_R d 219 (pc + 1) al [.int x] h mc ms r ∧ P r) : ∃ r, b_R d 219 pc al [.int k, .ref a] h mc ms r ∧ P r := by
  obtain ⟨q1, q2, q3, q4, q5⟩ := q
  have hv := List.getElem?_eq_getElem (l := vs) (i := k.toInt.toNat) (by omega)
  obtain ⟨x, x1, x2⟩ := q4 _ (List.mem_of_getElem? hv)
  rw [x1] at hv
  obtain ⟨r, r1, r2⟩ := hr x x2 hv
  refine ⟨r, tLd hi ⟨q1, q2, q3, q4, q5⟩ hk (fun y _ hy => ?_), r2⟩
  rw [hv] at hy
  cases hy
  exact r1
theorem t95 {h : AH} {a : Nat} {vs : List Value} : ∀ (m : Nat) (ν : BN) (h1 : AH), b_frm c_K tW h h1 → b_G c_K ν h1 h1 (tI.2.1.2.2.1, [], [], [], []) → ν 4 = a → tA0 h1 a vs (ν 3) → (60 - ν 6).toNat < m → (∃ s : Int32, c_at h1 365 49 = some (.int s) ∧ s.toInt + ((c_cnt (tr vs) 60 : Int) - (c_cnt (tr vs) (ν 6).toNat : Int)) ≤ 60) → b_ge 5 219 95 tI.2.1.1 [] tI.2.1.2.2.1.length ν h1 1 60 (tP h)
  | 0, ν, h1, _, _, _, _, hm, _ => absurd hm (Nat.not_lt_zero _)
  | m + 1, ν, h1, fr, g, ea, hA, hm, hs => by
    have H1 := g.2.2.2.2.1
    have iv5 := g.iv 5 (lo := 0) (hi := 60) rfl
    have iv6 := g.iv 6 (lo := 0) (hi := 60) rfl
    refine b_ge.sg c_hJ tO tIC g (b_al.c ?_ (b_al.c ?_ b_al.n))
    · intro ν1 h2 x1 g1
      refine b_pe.int rfl (by show 1 < 2; decide) (fun x hx => ?_)
      have hx := hx.v
      have m5 := x1.2 5 (by decide)
      exact ⟨x, h2, rfl, by omega, by omega, g1.2.2.2.2.1, tFr fr g1.2.2.2.2.2 (by decide)⟩
    · intro ν1 h2 x1 g1
      refine b_pe.to rfl ?_
      have m3 := x1.2 3 (by decide)
      have m4 := x1.2 4 (by decide)
      have m5 := x1.2 5 (by decide)
      have m6 := x1.2 6 (by decide)
      have k1 : ν1 7 ≤ ν1 6 + 0 := g1.co (by decide)
      have k2 : ν1 6 ≤ ν1 7 + 0 := g1.co (by decide)
      have k3 : ν1 7 ≤ ν1 3 + (-1) := g1.co (by decide)
      have iv7 := g1.iv 7 (lo := 0) (hi := 59) rfl
      have fr2 := tFr fr g1.2.2.2.2.2 (by decide)
      have H2 := g1.2.2.2.2.1
      have A2 := tA0_frm g1.2.2.2.2.2 hA
      obtain ⟨s, s1, s2⟩ := hs
      have s1' : c_at h2 365 49 = some (.int s) := by rw [g1.2.2.2.2.2.kF H1 c_a365 c_q50 rfl (by decide)]; exact s1
      intro al st hl hst
      obtain ⟨v1, t1, rfl, a1, b1⟩ := hst.inv
      obtain ⟨v2, t2, rfl, a2, b2⟩ := b1.inv
      obtain rfl := b2.inv0
      obtain ⟨k, rfl, j1⟩ := a1.int (by show 1 < 2; decide)
      obtain ⟨a', rfl, j2⟩ := a2.ref (Or.inr rfl)
      have j1 := j1.v
      have j2 := j2.v
      have ea' : a' = a := Int.ofNat.inj (j2.trans (m4.trans ea))
      rw [ea']
      have kk : k.toInt.toNat = (ν 6).toNat := by omega
      -- the next turn
      have again : ∀ (ν3 : BN) (h3 : AH) (s' : Int32), b_frm c_K tW h2 h3 → b_H c_K h3 → b_G c_K ν3 h3 h3 (tI.2.1.2.2.1, [], [], [], []) → ν3 3 = ν 3 → ν3 4 = ν 4 → ν3 6 = ν 6 + 1 → c_at h3 365 49 = some (.int s') → s'.toInt + ((c_cnt (tr vs) 60 : Int) - (c_cnt (tr vs) ((ν 6).toNat + 1) : Int)) ≤ 60 → b_ge 5 219 95 tI.2.1.1 [] tI.2.1.2.2.1.length ν3 h3 1 60 (tP h) := fun ν3 h3 s' f3 H3 g3 z3 z4 z6 w1 w2 =>
        t95 (h := h) (a := a) (vs := vs) m ν3 h3 (tFr fr2 f3 (by decide)) g3 (z4.trans ea) (by rw [z3]; exact tA0_frm f3 A2) (by omega) ⟨s', w1, by rw [z6, show (ν 6 + 1).toNat = (ν 6).toNat + 1 by omega]; exact w2⟩
      refine tLdE tI106 A2 (by omega) (fun x hx hv => ?_)
      rw [kk] at hv
      have gB : b_G c_K ν1 h2 h2 (tI.2.1.2.2.1 ++ [(0, 0, 59)], [], [], [], []) := g1.bare
      rcases hx with hx | hx
      · have no : ¬ tr vs (ν 6).toNat := fun q => by
          unfold tr at q
          rw [hv] at q
          cases q
          have z : (1 : Int32).toInt = 1 := by decide
          omega
        have cont : b_ge 5 219 107 [some (2, 365, 0), some (1, 0, 0), some (1, 1, 0), some (1, 2, 0), some (1, 3, 0), some (1, 5, 0), some (3, 4, 0), some (1, 7, 0), none] [(0, 0, 0)] 8 ν1 h2 1 60 (tP h) := by
          refine b_ge.cv (G := (tI.2.1.2.2.1 ++ [(0, 0, 59)], [], [], [], [])) (T := (tJ0.2.1.2.2.1, [], [])) (bl := tJ0.2.1.1) (bs := tJ0.2.1.2.1) (σ := [(1, 0, 0), (1, 1, 0), (1, 2, 0), (1, 3, 0), (3, 4, 0), (1, 5, 0), (1, 7, 0)]) (by decide +kernel) gB (fun g3 => ?_)
          refine b_ge.sg (S := tJ0) c_hJ tO tJ0C g3 (b_al.c ?_ b_al.n)
          intro ν3 h3 x3 g4
          refine b_pe.to rfl ?_
          have n3 : ν3 3 = ν 3 := (x3.2 3 (by decide)).trans (by show ν1 3 + 0 = _; omega)
          have n4 : ν3 4 = ν 4 := (x3.2 4 (by decide)).trans (by show ν1 4 = _; omega)
          have n6 : ν3 6 = ν 6 := (x3.2 6 (by decide)).trans (by show ν1 7 + 0 = _; omega)
          refine b_ge.cv (T := (tI.2.1.2.2.1, [], [])) (bl := tI.2.1.1) (bs := []) (σ := [(1, 0, 0), (1, 1, 0), (1, 2, 0), (1, 3, 0), (3, 4, 0), (1, 5, 0), (1, 6, 1)]) (by decide +kernel) g4 (fun g5 => ?_)
          have f3 : b_frm c_K tW h2 h3 := g4.2.2.2.2.2.mono (b_subW_ok (by decide))
          exact again _ h3 s f3 g4.2.2.2.2.1 g5 (by show ν3 3 + 0 = _; omega) (by show ν3 4 = _; omega) (by show ν3 6 + 1 = _; omega) (by rw [g4.2.2.2.2.2.kF H2 c_a365 c_q50 rfl rfl]; exact s1') (by rw [c_cnt_s.2 no]; omega)
        exact cont al [.int x] hl (b_S.cons (v := .int x) (Or.inl ⟨rfl, hx⟩) b_S.nil)
      · have yes : tr vs (ν 6).toNat := by
          unfold tr
          rw [hv, c_is1 hx]
        have up : c_cnt (tr vs) ((ν 6).toNat + 1) = c_cnt (tr vs) (ν 6).toNat + 1 := c_cnt_s.1 yes
        have ub : c_cnt (tr vs) ((ν 6).toNat + 1) ≤ c_cnt (tr vs) 60 := c_cnt_mono (by omega)
        have s0 : 0 ≤ s.toInt := by
          obtain ⟨z, z1, z2, z3⟩ := H2.rdI (j := 49) (lo := 0) (hi := 60) c_a365 c_q50 (by decide) (by decide) rfl
          rw [s1'] at z1
          cases z1
          exact z2
        obtain ⟨gs, xs⟩ := gB.rdI (base := (2, 365, 0)) (slot := (0, 0, 49)) (lo := 0) (hi := 59) s1' (Or.inl ⟨rfl, rfl⟩) (Or.inl ⟨rfl, rfl⟩) s0 (by omega)
        have hx8 : ∀ n, n < 8 → b_nu ν1 8 s.toInt n = ν1 n := fun n hn => if_neg (Nat.ne_of_lt hn)
        have cont : b_ge 5 219 107 [some (2, 365, 0), some (1, 0, 0), some (1, 1, 0), some (1, 2, 0), some (1, 3, 0), some (1, 5, 0), some (3, 4, 0), some (1, 7, 0), none] [(0, 0, 1)] 9 (b_nu ν1 8 s.toInt) h2 1 60 (tP h) := by
          refine b_ge.cv (G := (tI.2.1.2.2.1 ++ [(0, 0, 59)] ++ [(0, 0, 59)], [((2, 365, 0), (0, 0, 49), (1, 8, 0))], [], [], [])) (T := (tJ1.2.1.2.2.1, tJ1.2.1.2.2.2.1, [])) (bl := tJ1.2.1.1) (bs := tJ1.2.1.2.1) (σ := [(1, 0, 0), (1, 1, 0), (1, 2, 0), (1, 3, 0), (3, 4, 0), (1, 5, 0), (1, 7, 0), (1, 8, 0)]) (by decide +kernel) gs (fun g3 => ?_)
          refine b_ge.sg (S := tJ1) c_hJ tO tJ1C g3 (b_al.c ?_ (b_al.c ?_ b_al.n))
          · intro ν3 h3 x3 g4
            refine b_pe.to rfl ?_
            have n3 : ν3 3 = ν 3 := (x3.2 3 (by decide)).trans (by show b_nu ν1 8 s.toInt 3 + 0 = _; rw [hx8 3 (by decide)]; omega)
            have n4 : ν3 4 = ν 4 := (x3.2 4 (by decide)).trans (by show b_nu ν1 8 s.toInt 4 = _; rw [hx8 4 (by decide)]; omega)
            have n6 : ν3 6 = ν 6 := (x3.2 6 (by decide)).trans (by show b_nu ν1 8 s.toInt 7 + 0 = _; rw [hx8 7 (by decide)]; omega)
            have n7 : ν3 7 = s.toInt := (x3.2 7 (by decide)).trans (by show b_nu ν1 8 s.toInt 8 + 0 = _; rw [b_nu_n]; omega)
            obtain ⟨s', w1, w2⟩ := g4.rdF (a := 365) (j := 49) (m := 7) (k' := 0) (by rfl)
            refine b_ge.cv (T := (tI.2.1.2.2.1, [], [])) (bl := tI.2.1.1) (bs := []) (σ := [(1, 0, 0), (1, 1, 0), (1, 2, 0), (1, 3, 0), (3, 4, 0), (1, 5, 0), (1, 6, 1)]) (by decide +kernel) g4 (fun g5 => ?_)
            have f3 : b_frm c_K tW h2 h3 := g4.2.2.2.2.2.mono (b_subW_ok (by decide))
            exact again _ h3 s' f3 g4.2.2.2.2.1 g5 (by show ν3 3 + 0 = _; omega) (by show ν3 4 = _; omega) (by show ν3 6 + 1 = _; omega) w1 (by omega)
          · intro ν3 h3 x3 g4
            refine b_pe.to rfl ?_
            have n3 : ν3 3 = ν 3 := (x3.2 3 (by decide)).trans (by show b_nu ν1 8 s.toInt 3 + 0 = _; rw [hx8 3 (by decide)]; omega)
            have n4 : ν3 4 = ν 4 := (x3.2 4 (by decide)).trans (by show b_nu ν1 8 s.toInt 4 = _; rw [hx8 4 (by decide)]; omega)
            have n6 : ν3 6 = ν 6 := (x3.2 6 (by decide)).trans (by show b_nu ν1 8 s.toInt 7 + 0 = _; rw [hx8 7 (by decide)]; omega)
            have n7 : ν3 7 = s.toInt := (x3.2 7 (by decide)).trans (by show b_nu ν1 8 s.toInt 8 + 0 = _; rw [b_nu_n]; omega)
            have i6 := g4.iv 6 (lo := 0) (hi := 59) rfl
            have i7 := g4.iv 7 (lo := 0) (hi := 59) rfl
            obtain ⟨s', w1, w2⟩ := g4.rdF (a := 365) (j := 49) (m := 7) (k' := 1) (by rfl)
            have H3 := g4.2.2.2.2.1
            have J3 : c_Ja h3 := H3.2.1
            obtain ⟨rn, p1, p2⟩ := g4.rdA (a := 494) (n := 7) (m := 8) (k := 0) (by rfl) (j := (ν3 7).toNat) (by omega)
            obtain ⟨rk, p3, p4⟩ := g4.rdA (a := 494) (n := 6) (m := 9) (k := 0) (by rfl) (j := (ν3 6).toNat) (by omega)
            obtain ⟨bn, bn1, bn2⟩ := g4.1.rf (n := 8) (g := 83) rfl
            obtain ⟨bk, bk1, bk2⟩ := g4.1.rf (n := 9) (g := 83) rfl
            rw [show bn = rn from Int.ofNat.inj (bn1.symm.trans p2.symm)] at bn2
            rw [show bk = rk from Int.ofNat.inj (bk1.symm.trans p4.symm)] at bk2
            have hsn := J_at J3 p1
            have hsk := J_at J3 p3
            obtain ⟨wsn, wn1⟩ := c_wrI hsn
            obtain ⟨wn, u1, u2, u3⟩ := H3.1 rn 83 _ bn2 c_q83
            obtain ⟨ws, y1, y2, y3⟩ := H3.1 rk 83 _ bk2 c_q83
            obtain ⟨m5, z1, z2, z3⟩ := H3.1 555 84 _ c_a555 c_q84
            obtain ⟨vM, o1, o2, o3⟩ := H3.1 365 50 _ c_a365 c_q50
            have u1 : h3[rn]? = some (20, wn) := u1
            have u2 : wn.length = 16 := u2 (by decide)
            have y1 : h3[rk]? = some (20, ws) := y1
            have y2 : ws.length = 16 := y2 (by decide)
            have z1 : h3[555]? = some (20, m5) := z1
            have z2 : m5.length = 60 := z2 (by decide)
            have o1 : h3[365]? = some (12, vM) := o1
            have o2 : vM.length = 56 := o2 (by decide)
            have o29 : vM[29]? = some (.ref 555) := by
              have hv := List.getElem?_eq_getElem (l := vM) (i := 29) (by omega)
              have := o3 29 _ _ hv rfl
              rw [hv]
              cases hvv : vM[29] with
              | ref b =>
                rw [hvv] at this
                have this : (b : Int) = 555 := this
                rw [show b = 555 from Int.ofNat.inj this]
              | _ => rw [hvv] at this; exact this.elim
            have tw : ∀ v ∈ ws, ∃ x : Int32, v = .int x ∧ 0 ≤ x.toInt ∧ x.toInt ≤ 15 := fun v hv => by
              obtain ⟨j, hj⟩ := List.mem_iff_getElem?.mp hv
              have := y3 j v _ hj rfl
              cases v with
              | int x => exact ⟨x, rfl, this⟩
              | _ => exact this.elim
            obtain ⟨n, n1, nlo, nhi⟩ := H3.rdI (j := (ν3 6).toNat) (lo := 0) (hi := 16) c_a555 c_q84 (by decide) (by show (ν3 6).toNat < 60; omega) rfl
            have hmk : m5[(ν3 6).toNat]? = some (.int n) := by
              unfold c_at at n1
              rw [z1] at n1
              exact n1
            intro al2 st2 hl2 hst2
            obtain ⟨q1, r1, rfl, a1, b1⟩ := hst2.inv
            obtain ⟨q2, r2, rfl, a2, b2⟩ := b1.inv
            obtain ⟨q3, r3, rfl, a3, b3⟩ := b2.inv
            obtain ⟨q4, r4, rfl, a4, b4⟩ := b3.inv
            obtain ⟨q5, r5, rfl, a5, b5⟩ := b4.inv
            obtain rfl := b5.inv0
            obtain ⟨c16, rfl, c1⟩ := a1.int (by show 0 < 2; decide)
            obtain ⟨d1, rfl, c2⟩ := a2.int (by show 0 < 2; decide)
            obtain ⟨rn', rfl, c3⟩ := a3.ref (Or.inr rfl)
            obtain ⟨d2, rfl, c4⟩ := a4.int (by show 0 < 2; decide)
            obtain ⟨rk', rfl, c5⟩ := a5.ref (Or.inr rfl)
            have c1 := c1.k
            have c2 := c2.k
            have c3 := c3.v
            have c4 := c4.k
            have c5 := c5.v
            rw [show rn' = rn from Int.ofNat.inj (c3.trans p2.symm), show rk' = rk from Int.ofNat.inj (c5.trans p4.symm)]
            obtain ⟨l0, l01, l02⟩ := hl2.2 0 (2, 365, 0) rfl
            obtain ⟨l7, l71, l72⟩ := hl2.2 7 (1, 6, 0) rfl
            obtain ⟨l8, l81, l82⟩ := hl2.2 8 (1, 7, 0) rfl
            obtain ⟨a0, rfl, ha0⟩ := l02.ref (Or.inl rfl)
            obtain ⟨kk', rfl, hk'⟩ := l72.int (by show 1 < 2; decide)
            obtain ⟨nx, rfl, hnx⟩ := l82.int (by show 1 < 2; decide)
            have ha0 := ha0.k
            have hk' := hk'.v
            have hnx := hnx.v
            rw [ha0] at l01
            -- the heap behind it
            have hrow : b_T c_K (h3.set rn (20, ws)) := by
              intro b gg row hb hr
              obtain ⟨us, k1, k2, k3⟩ := H3.1 b gg row hb hr
              by_cases e : b = rn
              · subst e
                rw [bn2] at hb
                cases hb
                rw [c_q83] at hr
                cases hr
                refine ⟨ws, List.getElem?_set_self (List.getElem?_eq_some_iff.mp u1).1, fun _ => y2, fun j v ty hj hty => ?_⟩
                exact y3 j v ty hj hty
              · exact ⟨us, by rw [List.getElem?_set_ne (Ne.symm e)]; exact k1, k2, k3⟩
            have z1' : (h3.set rn (20, ws))[555]? = some (20, m5) := by rw [List.getElem?_set_ne (by omega)]; exact z1
            have H4 : b_H c_K ((h3.set rn (20, ws)).set 555 (20, m5.set nx.toInt.toNat (.int n))) := by
              refine ⟨hrow.put z1' (fun g' row' ty' y1' y2' y3' => ?_), ?_, ?_⟩
              · rw [c_a555] at y1'
                cases y1'
                rw [c_q84] at y2'
                cases y2'
                cases y3'
                exact ⟨nlo, nhi⟩
              · rw [show nx.toInt.toNat = (ν3 7).toNat by omega]
                exact J_copy J3 hsn hsk y1 u1 z1 hmk (by omega)
              · exact c_Jb_set (c_Jb_set H3.2.2 (by omega) (by omega)) (by decide) (by decide)
            have f4 : b_frm c_K tW h3 ((h3.set rn (20, ws)).set 555 (20, m5.set nx.toInt.toNat (.int n))) := by
              have fa : b_frm c_K tW h3 (h3.set rn (20, ws)) := by
                intro b c hc
                by_cases e : b = rn
                · subst e
                  rw [u1] at hc
                  cases hc
                  refine ⟨ws, List.getElem?_set_self (List.getElem?_eq_some_iff.mp u1).1, y2.trans u2.symm, fun j hj => ?_⟩
                  exact absurd (b_keyA (k := j) bn2 c_q83 (by decide)) (hj (83, 0) (by decide))
                · exact ⟨c.2, by rw [List.getElem?_set_ne (Ne.symm e)]; exact hc, rfl, fun _ _ => rfl⟩
              have fb := b_frm.set (K := c_K) (v := .int n) z1' (b_keyA (k := nx.toInt.toNat) c_a555 c_q84 (by decide))
              exact tFr fa fb (by decide)
            have f34 : b_frm c_K tW h2 ((h3.set rn (20, ws)).set 555 (20, m5.set nx.toInt.toNat (.int n))) := tFr (g4.2.2.2.2.2.mono (b_subW_ok (by decide))) f4 (by decide)
            have w1' : c_at ((h3.set rn (20, ws)).set 555 (20, m5.set nx.toInt.toNat (.int n))) 365 49 = some (.int s') := by
              unfold c_at at w1 ⊢
              rw [List.getElem?_set_ne (by omega), List.getElem?_set_ne (by omega)]
              exact w1
            have g6 : b_G c_K ν3 ((h3.set rn (20, ws)).set 555 (20, m5.set nx.toInt.toNat (.int n))) ((h3.set rn (20, ws)).set 555 (20, m5.set nx.toInt.toNat (.int n))) (tJ1.2.1.2.2.1 ++ [(84, 0, 0), (84, 0, 0)], [], [], [], []) := ⟨g4.1, (fun f hf => by cases hf), (fun f hf => by cases hf), (fun f hf => by cases hf), H4, b_frm.rf⟩
            have cont2 : b_ge 5 219 167 [some (2, 365, 0), some (1, 0, 0), some (1, 1, 0), some (1, 2, 0), some (1, 3, 0), some (1, 5, 0), some (3, 4, 0), some (1, 6, 0), some (1, 7, 0)] [] 10 ν3 ((h3.set rn (20, ws)).set 555 (20, m5.set nx.toInt.toNat (.int n))) 1 60 (tP h) := by
              refine b_ge.cv (G := (tJ1.2.1.2.2.1 ++ [(84, 0, 0), (84, 0, 0)], [], [], [], [])) (T := (tK.2.1.2.2.1, [], [])) (bl := tK.2.1.1) (bs := []) (σ := [(1, 0, 0), (1, 1, 0), (1, 2, 0), (1, 3, 0), (3, 4, 0), (1, 5, 0), (1, 6, 0)]) (by decide +kernel) g6 (fun g7 => ?_)
              refine b_ge.sg (S := tK) c_hJ tO tKC g7 (b_al.c ?_ b_al.n)
              intro ν5 h5 x5 g8
              refine b_pe.to rfl ?_
              have o3 : ν5 3 = ν 3 := (x5.2 3 (by decide)).trans (by show ν3 3 + 0 = _; omega)
              have o4 : ν5 4 = ν 4 := (x5.2 4 (by decide)).trans (by show ν3 4 = _; omega)
              have o6 : ν5 6 = ν 6 := (x5.2 6 (by decide)).trans (by show ν3 6 + 0 = _; omega)
              refine b_ge.cv (T := (tI.2.1.2.2.1, [], [])) (bl := tI.2.1.1) (bs := []) (σ := [(1, 0, 0), (1, 1, 0), (1, 2, 0), (1, 3, 0), (3, 4, 0), (1, 5, 0), (1, 6, 1)]) (by decide +kernel) g8 (fun g9 => ?_)
              exact again _ h5 s' (tFr f34 g8.2.2.2.2.2 (by decide)) g8.2.2.2.2.1 g9 (by show ν5 3 + 0 = _; omega) (by show ν5 4 = _; omega) (by show ν5 6 + 1 = _; omega) (by rw [g8.2.2.2.2.2.kF H4 c_a365 c_q50 rfl rfl]; exact w1') (by omega)
            obtain ⟨r, r1, r2⟩ := cont2 al2 [] hl2 b_S.nil
            exact ⟨r, t150 o1 rfl o29 y1 u1 y2 u2 (fun v hv => (tw v hv).imp fun x q => q.1) z1 z2 c1 c2 c4 (by omega) (by omega) l01 l71 l81 (by omega) (by omega) (by rw [show kk'.toInt.toNat = (ν3 6).toNat by omega]; exact hmk) r1, r2⟩
        exact cont al [.int x] (hl.ext b_nu_ext) (b_S.cons (v := .int x) (Or.inl ⟨rfl, hx⟩) b_S.nil)
