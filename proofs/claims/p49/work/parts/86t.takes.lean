/-! part 86t.takes -/
section
/-! takes -/
def tW : BW := [(50, 49), (50, 53), (77, 0), (78, 0), (79, 0), (80, 0), (83, 0), (84, 0), (106, 0), (107, 0)]
def tP (h : AH) (r : AR) : Prop := ∃ (x : Int32) (h' : AH), r = (.inl (some (.int x)), h', 1, 60) ∧ 0 ≤ x.toInt ∧ x.toInt ≤ 60 ∧ b_H c_K h' ∧ b_frm c_K tW h h'
def tr (vs : List Value) (j : Nat) : Prop := vs[j]? = some (.int 1)
/-- what is known of the new array -/
def tA0 (h : AH) (a : Nat) (vs : List Value) (had : Int) : Prop := 772 ≤ a ∧ h[a]? = some (21, vs) ∧ vs.length = 60 ∧ (∀ v ∈ vs, ∃ x : Int32, v = .int x ∧ (x.toInt = 0 ∨ x.toInt = 1)) ∧ ∀ j, tr vs j → (j : Int) < had
theorem tA0_frm {W : BW} {h h' : AH} {a : Nat} {vs : List Value} {had : Int} (f : b_frm c_K W h h') (q : tA0 h a vs had) : tA0 h' a vs had := ⟨q.1, GO_frm f q.1 q.2.1, q.2.2⟩
theorem tFr {W : BW} {h h1 h2 : AH} (f : b_frm c_K tW h h1) (g : b_frm c_K W h1 h2) (w : b_subW W tW = true) : b_frm c_K tW h h2 := b_frm.tr f g (fun w hw => hw) (b_subW_ok w)
/-- a baload out of it -/
theorem tLd {d pc mc ms a : Nat} {al : AL} {h : AH} {vs : List Value} {had : Int} {k : Int32} {r : AR} (hi : a_ins 219 pc = some (.baload, 1)) (q : tA0 h a vs had) (hk : 0 ≤ k.toInt ∧ k.toInt < 60) (hr : ∀ x : Int32, (x.toInt = 0 ∨ x.toInt = 1) → vs[k.toInt.toNat]? = some (.int x) → b_R d 219 (pc + 1) al [.int x] h mc ms r) : b_R d 219 pc al [.int k, .ref a] h mc ms r := by
  obtain ⟨q1, q2, q3, q4, q5⟩ := q
  obtain ⟨k1, k2, k3⟩ := b_ix_ok (j := k) (n := vs.length) hk.1 (by omega)
  have kk : k.toNatClampNeg = k.toInt.toNat := rfl
  have hv := List.getElem?_eq_getElem (l := vs) (i := k.toInt.toNat) (by omega)
  obtain ⟨x, x1, x2⟩ := q4 _ (List.mem_of_getElem? hv)
  rw [x1] at hv
  refine b_R.stp hi rfl rfl rfl (a_by3 (r := (pc + 1, al, [.int x], h, 0, 0)) rfl (by
    unfold a_st3
    dsimp only
    rw [q2]
    dsimp only
    rw [if_pos (show a_ald .baload 21 = true by decide), k1]
    show (vs[k.toNatClampNeg]?).map _ = _
    rw [kk, hv]
    rfl)) (hr x x2 hv)
theorem tLdE {d pc mc ms a : Nat} {al : AL} {h : AH} {vs : List Value} {had : Int} {k : Int32} {P : AR → Prop} (hi : a_ins 219 pc = some (.baload, 1)) (q : tA0 h a vs had) (hk : 0 ≤ k.toInt ∧ k.toInt < 60) (hr : ∀ x : Int32, (x.toInt = 0 ∨ x.toInt = 1) → vs[k.toInt.toNat]? = some (.int x) → ∃ r, b_R d 219 (pc + 1) al [.int x] h mc ms r ∧ P r) : ∃ r, b_R d 219 pc al [.int k, .ref a] h mc ms r ∧ P r := by
  obtain ⟨q1, q2, q3, q4, q5⟩ := q
  have hv := List.getElem?_eq_getElem (l := vs) (i := k.toInt.toNat) (by omega)
  obtain ⟨x, x1, x2⟩ := q4 _ (List.mem_of_getElem? hv)
  rw [x1] at hv
  obtain ⟨r, r1, r2⟩ := hr x x2 hv
  refine ⟨r, tLd hi ⟨q1, q2, q3, q4, q5⟩ hk (fun y _ hy => ?_), r2⟩
  rw [hv] at hy
  cases hy
  exact r1
theorem t95 {h : AH} {a : Nat} {vs : List Value} : ∀ (m : Nat) (ν : BN) (h1 : AH), b_frm c_K tW h h1 → b_G c_K ν h1 h1 (tI.2.1.2.2.1, [], [], [], []) → ν 4 = a → tA0 h1 a vs (ν 3) → (60 - ν 6).toNat < m → (∃ s : Int32, c_at h1 365 49 = some (.int s) ∧ s.toInt + ((c_cnt (tr vs) 60 : Int) - (c_cnt (tr vs) (ν 6).toNat : Int)) ≤ 60) → b_ge 5 219 95 tI.2.1.1 [] tI.2.1.2.2.1.length ν h1 1 60 (tP h)
  | 0, ν, h1, _, _, _, _, hm, _ => absurd hm (Nat.not_lt_zero _)
  | m + 1, ν, h1, fr, g, ea, hA, hm, hs => by
    have H1 := g.2.2.2.2.1
    have iv5 := g.iv 5 (lo := 0) (hi := 60) rfl
    have iv6 := g.iv 6 (lo := 0) (hi := 60) rfl
    refine b_ge.sg c_hJ tO tIC g (b_al.c ?_ (b_al.c ?_ b_al.n))
    · intro ν1 h2 x1 g1
      refine b_pe.int rfl (by show 1 < 2; decide) (fun x hx => ?_)
      have hx := hx.v
      have m5 := x1.2 5 (by decide)
      exact ⟨x, h2, rfl, by omega, by omega, g1.2.2.2.2.1, tFr fr g1.2.2.2.2.2 (by decide)⟩
    · intro ν1 h2 x1 g1
      refine b_pe.to rfl ?_
      have m3 := x1.2 3 (by decide)
      have m4 := x1.2 4 (by decide)
      have m5 := x1.2 5 (by decide)
      have m6 := x1.2 6 (by decide)
      have k1 : ν1 7 ≤ ν1 6 + 0 := g1.co (by decide)
      have k2 : ν1 6 ≤ ν1 7 + 0 := g1.co (by decide)
      have k3 : ν1 7 ≤ ν1 3 + (-1) := g1.co (by decide)
      have iv7 := g1.iv 7 (lo := 0) (hi := 59) rfl
      have fr2 := tFr fr g1.2.2.2.2.2 (by decide)
      have H2 := g1.2.2.2.2.1
      have A2 := tA0_frm g1.2.2.2.2.2 hA
      obtain ⟨s, s1, s2⟩ := hs
      have s1' : c_at h2 365 49 = some (.int s) := by rw [g1.2.2.2.2.2.kF H1 c_a365 c_q50 rfl (by decide)]; exact s1
      intro al st hl hst
      obtain ⟨v1, t1, rfl, a1, b1⟩ := hst.inv
      obtain ⟨v2, t2, rfl, a2, b2⟩ := b1.inv
      obtain rfl := b2.inv0
      obtain ⟨k, rfl, j1⟩ := a1.int (by show 1 < 2; decide)
      obtain ⟨a', rfl, j2⟩ := a2.ref (Or.inr rfl)
      have j1 := j1.v
      have j2 := j2.v
      have ea' : a' = a := Int.ofNat.inj (j2.trans (m4.trans ea))
      rw [ea']
      have kk : k.toInt.toNat = (ν 6).toNat := by omega
      -- the next turn
      have again : ∀ (ν3 : BN) (h3 : AH) (s' : Int32), b_frm c_K tW h2 h3 → b_H c_K h3 → b_G c_K ν3 h3 h3 (tI.2.1.2.2.1, [], [], [], []) → ν3 3 = ν 3 → ν3 4 = ν 4 → ν3 6 = ν 6 + 1 → c_at h3 365 49 = some (.int s') → s'.toInt + ((c_cnt (tr vs) 60 : Int) - (c_cnt (tr vs) ((ν 6).toNat + 1) : Int)) ≤ 60 → b_ge 5 219 95 tI.2.1.1 [] tI.2.1.2.2.1.length ν3 h3 1 60 (tP h) := fun ν3 h3 s' f3 H3 g3 z3 z4 z6 w1 w2 =>
        t95 (h := h) (a := a) (vs := vs) m ν3 h3 (tFr fr2 f3 (by decide)) g3 (z4.trans ea) (by rw [z3]; exact tA0_frm f3 A2) (by omega) ⟨s', w1, by rw [z6, show (ν 6 + 1).toNat = (ν 6).toNat + 1 by omega]; exact w2⟩
      refine tLdE tI106 A2 (by omega) (fun x hx hv => ?_)
      rw [kk] at hv
      have gB : b_G c_K ν1 h2 h2 (tI.2.1.2.2.1 ++ [(0, 0, 59)], [], [], [], []) := g1.bare
      rcases hx with hx | hx
      · have no : ¬ tr vs (ν 6).toNat := fun q => by
          unfold tr at q
          rw [hv] at q
          cases q
          have z : (1 : Int32).toInt = 1 := by decide
          omega
        have cont : b_ge 5 219 107 [some (2, 365, 0), some (1, 0, 0), some (1, 1, 0), some (1, 2, 0), some (1, 3, 0), some (1, 5, 0), some (3, 4, 0), some (1, 7, 0), none] [(0, 0, 0)] 8 ν1 h2 1 60 (tP h) := by
          refine b_ge.cv (G := (tI.2.1.2.2.1 ++ [(0, 0, 59)], [], [], [], [])) (T := (tJ0.2.1.2.2.1, [], [])) (bl := tJ0.2.1.1) (bs := tJ0.2.1.2.1) (σ := [(1, 0, 0), (1, 1, 0), (1, 2, 0), (1, 3, 0), (3, 4, 0), (1, 5, 0), (1, 7, 0)]) (by decide +kernel) gB (fun g3 => ?_)
          refine b_ge.sg (S := tJ0) c_hJ tO tJ0C g3 (b_al.c ?_ b_al.n)
          intro ν3 h3 x3 g4
          refine b_pe.to rfl ?_
          have n3 : ν3 3 = ν 3 := (x3.2 3 (by decide)).trans (by show ν1 3 + 0 = _; omega)
          have n4 : ν3 4 = ν 4 := (x3.2 4 (by decide)).trans (by show ν1 4 = _; omega)
          have n6 : ν3 6 = ν 6 := (x3.2 6 (by decide)).trans (by show ν1 7 + 0 = _; omega)
          refine b_ge.cv (T := (tI.2.1.2.2.1, [], [])) (bl := tI.2.1.1) (bs := []) (σ := [(1, 0, 0), (1, 1, 0), (1, 2, 0), (1, 3, 0), (3, 4, 0), (1, 5, 0), (1, 6, 1)]) (by decide +kernel) g4 (fun g5 => ?_)
          have f3 : b_frm c_K tW h2 h3 := g4.2.2.2.2.2.mono (b_subW_ok (by decide))
          exact again _ h3 s f3 g4.2.2.2.2.1 g5 (by show ν3 3 + 0 = _; omega) (by show ν3 4 = _; omega) (by show ν3 6 + 1 = _; omega) (by rw [g4.2.2.2.2.2.kF H2 c_a365 c_q50 rfl rfl]; exact s1') (by rw [c_cnt_s.2 no]; omega)
        exact cont al [.int x] hl (b_S.cons (v := .int x) (Or.inl ⟨rfl, hx⟩) b_S.nil)
      · have yes : tr vs (ν 6).toNat := by
          unfold tr
          rw [hv, c_is1 hx]
        have up : c_cnt (tr vs) ((ν 6).toNat + 1) = c_cnt (tr vs) (ν 6).toNat + 1 := c_cnt_s.1 yes
        have ub : c_cnt (tr vs) ((ν 6).toNat + 1) ≤ c_cnt (tr vs) 60 := c_cnt_mono (by omega)
        have s0 : 0 ≤ s.toInt := by
          obtain ⟨z, z1, z2, z3⟩ := H2.rdI (j := 49) (lo := 0) (hi := 60) c_a365 c_q50 (by decide) (by decide) rfl
          rw [s1'] at z1
          cases z1
          exact z2
        obtain ⟨gs, xs⟩ := gB.rdI (base := (2, 365, 0)) (slot := (0, 0, 49)) (lo := 0) (hi := 59) s1' (Or.inl ⟨rfl, rfl⟩) (Or.inl ⟨rfl, rfl⟩) s0 (by omega)
        have hx8 : ∀ n, n < 8 → b_nu ν1 8 s.toInt n = ν1 n := fun n hn => if_neg (Nat.ne_of_lt hn)
        have cont : b_ge 5 219 107 [some (2, 365, 0), some (1, 0, 0), some (1, 1, 0), some (1, 2, 0), some (1, 3, 0), some (1, 5, 0), some (3, 4, 0), some (1, 7, 0), none] [(0, 0, 1)] 9 (b_nu ν1 8 s.toInt) h2 1 60 (tP h) := by
          refine b_ge.cv (G := (tI.2.1.2.2.1 ++ [(0, 0, 59)] ++ [(0, 0, 59)], [((2, 365, 0), (0, 0, 49), (1, 8, 0))], [], [], [])) (T := (tJ1.2.1.2.2.1, tJ1.2.1.2.2.2.1, [])) (bl := tJ1.2.1.1) (bs := tJ1.2.1.2.1) (σ := [(1, 0, 0), (1, 1, 0), (1, 2, 0), (1, 3, 0), (3, 4, 0), (1, 5, 0), (1, 7, 0), (1, 8, 0)]) (by decide +kernel) gs (fun g3 => ?_)
          refine b_ge.sg (S := tJ1) c_hJ tO tJ1C g3 (b_al.c ?_ (b_al.c ?_ b_al.n))
          · intro ν3 h3 x3 g4
            refine b_pe.to rfl ?_
            have n3 : ν3 3 = ν 3 := (x3.2 3 (by decide)).trans (by show b_nu ν1 8 s.toInt 3 + 0 = _; rw [hx8 3 (by decide)]; omega)
            have n4 : ν3 4 = ν 4 := (x3.2 4 (by decide)).trans (by show b_nu ν1 8 s.toInt 4 = _; rw [hx8 4 (by decide)]; omega)
            have n6 : ν3 6 = ν 6 := (x3.2 6 (by decide)).trans (by show b_nu ν1 8 s.toInt 7 + 0 = _; rw [hx8 7 (by decide)]; omega)
            have n7 : ν3 7 = s.toInt := (x3.2 7 (by decide)).trans (by show b_nu ν1 8 s.toInt 8 + 0 = _; rw [b_nu_n]; omega)
            obtain ⟨s', w1, w2⟩ := g4.rdF (a := 365) (j := 49) (m := 7) (k' := 0) (by rfl)
            refine b_ge.cv (T := (tI.2.1.2.2.1, [], [])) (bl := tI.2.1.1) (bs := []) (σ := [(1, 0, 0), (1, 1, 0), (1, 2, 0), (1, 3, 0), (3, 4, 0), (1, 5, 0), (1, 6, 1)]) (by decide +kernel) g4 (fun g5 => ?_)
            have f3 : b_frm c_K tW h2 h3 := g4.2.2.2.2.2.mono (b_subW_ok (by decide))
            exact again _ h3 s' f3 g4.2.2.2.2.1 g5 (by show ν3 3 + 0 = _; omega) (by show ν3 4 = _; omega) (by show ν3 6 + 1 = _; omega) w1 (by omega)
          · intro ν3 h3 x3 g4
            refine b_pe.to rfl ?_
            have n3 : ν3 3 = ν 3 := (x3.2 3 (by decide)).trans (by show b_nu ν1 8 s.toInt 3 + 0 = _; rw [hx8 3 (by decide)]; omega)
            have n4 : ν3 4 = ν 4 := (x3.2 4 (by decide)).trans (by show b_nu ν1 8 s.toInt 4 = _; rw [hx8 4 (by decide)]; omega)
            have n6 : ν3 6 = ν 6 := (x3.2 6 (by decide)).trans (by show b_nu ν1 8 s.toInt 7 + 0 = _; rw [hx8 7 (by decide)]; omega)
            have n7 : ν3 7 = s.toInt := (x3.2 7 (by decide)).trans (by show b_nu ν1 8 s.toInt 8 + 0 = _; rw [b_nu_n]; omega)
            have i6 := g4.iv 6 (lo := 0) (hi := 59) rfl
            have i7 := g4.iv 7 (lo := 0) (hi := 59) rfl
            obtain ⟨s', w1, w2⟩ := g4.rdF (a := 365) (j := 49) (m := 7) (k' := 1) (by rfl)
            have H3 := g4.2.2.2.2.1
            have J3 : c_Ja h3 := H3.2.1
            obtain ⟨rn, p1, p2⟩ := g4.rdA (a := 494) (n := 7) (m := 8) (k := 0) (by rfl) (j := (ν3 7).toNat) (by omega)
            obtain ⟨rk, p3, p4⟩ := g4.rdA (a := 494) (n := 6) (m := 9) (k := 0) (by rfl) (j := (ν3 6).toNat) (by omega)
            obtain ⟨bn, bn1, bn2⟩ := g4.1.rf (n := 8) (g := 83) rfl
            obtain ⟨bk, bk1, bk2⟩ := g4.1.rf (n := 9) (g := 83) rfl
            rw [show bn = rn from Int.ofNat.inj (bn1.symm.trans p2.symm)] at bn2
            rw [show bk = rk from Int.ofNat.inj (bk1.symm.trans p4.symm)] at bk2
            have hsn := J_at J3 p1
            have hsk := J_at J3 p3
            obtain ⟨wsn, wn1⟩ := c_wrI hsn
            obtain ⟨wn, u1, u2, u3⟩ := H3.1 rn 83 _ bn2 c_q83
            obtain ⟨ws, y1, y2, y3⟩ := H3.1 rk 83 _ bk2 c_q83
            obtain ⟨m5, z1, z2, z3⟩ := H3.1 555 84 _ c_a555 c_q84
            obtain ⟨vM, o1, o2, o3⟩ := H3.1 365 50 _ c_a365 c_q50
            have u1 : h3[rn]? = some (20, wn) := u1
            have u2 : wn.length = 16 := u2 (by decide)
            have y1 : h3[rk]? = some (20, ws) := y1
            have y2 : ws.length = 16 := y2 (by decide)
            have z1 : h3[555]? = some (20, m5) := z1
            have z2 : m5.length = 60 := z2 (by decide)
            have o1 : h3[365]? = some (12, vM) := o1
            have o2 : vM.length = 56 := o2 (by decide)
            have o29 : vM[29]? = some (.ref 555) := by
              have hv := List.getElem?_eq_getElem (l := vM) (i := 29) (by omega)
              have := o3 29 _ _ hv rfl
              rw [hv]
              cases hvv : vM[29] with
              | ref b =>
                rw [hvv] at this
                have this : (b : Int) = 555 := this
                rw [show b = 555 from Int.ofNat.inj this]
              | _ => rw [hvv] at this; exact this.elim
            have tw : ∀ v ∈ ws, ∃ x : Int32, v = .int x ∧ 0 ≤ x.toInt ∧ x.toInt ≤ 15 := fun v hv => by
              obtain ⟨j, hj⟩ := List.mem_iff_getElem?.mp hv
              have := y3 j v _ hj rfl
              cases v with
              | int x => exact ⟨x, rfl, this⟩
              | _ => exact this.elim
            obtain ⟨n, n1, nlo, nhi⟩ := H3.rdI (j := (ν3 6).toNat) (lo := 0) (hi := 16) c_a555 c_q84 (by decide) (by show (ν3 6).toNat < 60; omega) rfl
            have hmk : m5[(ν3 6).toNat]? = some (.int n) := by
              unfold c_at at n1
              rw [z1] at n1
              exact n1
            intro al2 st2 hl2 hst2
            obtain ⟨q1, r1, rfl, a1, b1⟩ := hst2.inv
            obtain ⟨q2, r2, rfl, a2, b2⟩ := b1.inv
            obtain ⟨q3, r3, rfl, a3, b3⟩ := b2.inv
            obtain ⟨q4, r4, rfl, a4, b4⟩ := b3.inv
            obtain ⟨q5, r5, rfl, a5, b5⟩ := b4.inv
            obtain rfl := b5.inv0
            obtain ⟨c16, rfl, c1⟩ := a1.int (by show 0 < 2; decide)
            obtain ⟨d1, rfl, c2⟩ := a2.int (by show 0 < 2; decide)
            obtain ⟨rn', rfl, c3⟩ := a3.ref (Or.inr rfl)
            obtain ⟨d2, rfl, c4⟩ := a4.int (by show 0 < 2; decide)
            obtain ⟨rk', rfl, c5⟩ := a5.ref (Or.inr rfl)
            have c1 := c1.k
            have c2 := c2.k
            have c3 := c3.v
            have c4 := c4.k
            have c5 := c5.v
            rw [show rn' = rn from Int.ofNat.inj (c3.trans p2.symm), show rk' = rk from Int.ofNat.inj (c5.trans p4.symm)]
            obtain ⟨l0, l01, l02⟩ := hl2.2 0 (2, 365, 0) rfl
            obtain ⟨l7, l71, l72⟩ := hl2.2 7 (1, 6, 0) rfl
            obtain ⟨l8, l81, l82⟩ := hl2.2 8 (1, 7, 0) rfl
            obtain ⟨a0, rfl, ha0⟩ := l02.ref (Or.inl rfl)
            obtain ⟨kk', rfl, hk'⟩ := l72.int (by show 1 < 2; decide)
            obtain ⟨nx, rfl, hnx⟩ := l82.int (by show 1 < 2; decide)
            have ha0 := ha0.k
            have hk' := hk'.v
            have hnx := hnx.v
            rw [ha0] at l01
            -- the heap behind it
            have hrow : b_T c_K (h3.set rn (20, ws)) := by
              intro b gg row hb hr
              obtain ⟨us, k1, k2, k3⟩ := H3.1 b gg row hb hr
              by_cases e : b = rn
              · subst e
                rw [bn2] at hb
                cases hb
                rw [c_q83] at hr
                cases hr
                refine ⟨ws, List.getElem?_set_self (List.getElem?_eq_some_iff.mp u1).1, fun _ => y2, fun j v ty hj hty => ?_⟩
                exact y3 j v ty hj hty
              · exact ⟨us, by rw [List.getElem?_set_ne (Ne.symm e)]; exact k1, k2, k3⟩
            have z1' : (h3.set rn (20, ws))[555]? = some (20, m5) := by rw [List.getElem?_set_ne (by omega)]; exact z1
            have H4 : b_H c_K ((h3.set rn (20, ws)).set 555 (20, m5.set nx.toInt.toNat (.int n))) := by
              refine ⟨hrow.put z1' (fun g' row' ty' y1' y2' y3' => ?_), ?_, ?_⟩
              · rw [c_a555] at y1'
                cases y1'
                rw [c_q84] at y2'
                cases y2'
                cases y3'
                exact ⟨nlo, nhi⟩
              · rw [show nx.toInt.toNat = (ν3 7).toNat by omega]
                exact J_copy J3 hsn hsk y1 u1 z1 hmk (by omega)
              · exact c_Jb_set (c_Jb_set H3.2.2 (by omega) (by omega)) (by decide) (by decide)
            have f4 : b_frm c_K tW h3 ((h3.set rn (20, ws)).set 555 (20, m5.set nx.toInt.toNat (.int n))) := by
              have fa : b_frm c_K tW h3 (h3.set rn (20, ws)) := by
                intro b c hc
                by_cases e : b = rn
                · subst e
                  rw [u1] at hc
                  cases hc
                  refine ⟨ws, List.getElem?_set_self (List.getElem?_eq_some_iff.mp u1).1, y2.trans u2.symm, fun j hj => ?_⟩
                  exact absurd (b_keyA (k := j) bn2 c_q83 (by decide)) (hj (83, 0) (by decide))
                · exact ⟨c.2, by rw [List.getElem?_set_ne (Ne.symm e)]; exact hc, rfl, fun _ _ => rfl⟩
              have fb := b_frm.set (K := c_K) (v := .int n) z1' (b_keyA (k := nx.toInt.toNat) c_a555 c_q84 (by decide))
              exact tFr fa fb (by decide)
            have f34 : b_frm c_K tW h2 ((h3.set rn (20, ws)).set 555 (20, m5.set nx.toInt.toNat (.int n))) := tFr (g4.2.2.2.2.2.mono (b_subW_ok (by decide))) f4 (by decide)
            have w1' : c_at ((h3.set rn (20, ws)).set 555 (20, m5.set nx.toInt.toNat (.int n))) 365 49 = some (.int s') := by
              unfold c_at at w1 ⊢
              rw [List.getElem?_set_ne (by omega), List.getElem?_set_ne (by omega)]
              exact w1
            have g6 : b_G c_K ν3 ((h3.set rn (20, ws)).set 555 (20, m5.set nx.toInt.toNat (.int n))) ((h3.set rn (20, ws)).set 555 (20, m5.set nx.toInt.toNat (.int n))) (tJ1.2.1.2.2.1 ++ [(84, 0, 0), (84, 0, 0)], [], [], [], []) := ⟨g4.1, (fun f hf => by cases hf), (fun f hf => by cases hf), (fun f hf => by cases hf), H4, b_frm.rf⟩
            have cont2 : b_ge 5 219 167 [some (2, 365, 0), some (1, 0, 0), some (1, 1, 0), some (1, 2, 0), some (1, 3, 0), some (1, 5, 0), some (3, 4, 0), some (1, 6, 0), some (1, 7, 0)] [] 10 ν3 ((h3.set rn (20, ws)).set 555 (20, m5.set nx.toInt.toNat (.int n))) 1 60 (tP h) := by
              refine b_ge.cv (G := (tJ1.2.1.2.2.1 ++ [(84, 0, 0), (84, 0, 0)], [], [], [], [])) (T := (tK.2.1.2.2.1, [], [])) (bl := tK.2.1.1) (bs := []) (σ := [(1, 0, 0), (1, 1, 0), (1, 2, 0), (1, 3, 0), (3, 4, 0), (1, 5, 0), (1, 6, 0)]) (by decide +kernel) g6 (fun g7 => ?_)
              refine b_ge.sg (S := tK) c_hJ tO tKC g7 (b_al.c ?_ b_al.n)
              intro ν5 h5 x5 g8
              refine b_pe.to rfl ?_
              have o3 : ν5 3 = ν 3 := (x5.2 3 (by decide)).trans (by show ν3 3 + 0 = _; omega)
              have o4 : ν5 4 = ν 4 := (x5.2 4 (by decide)).trans (by show ν3 4 = _; omega)
              have o6 : ν5 6 = ν 6 := (x5.2 6 (by decide)).trans (by show ν3 6 + 0 = _; omega)
              refine b_ge.cv (T := (tI.2.1.2.2.1, [], [])) (bl := tI.2.1.1) (bs := []) (σ := [(1, 0, 0), (1, 1, 0), (1, 2, 0), (1, 3, 0), (3, 4, 0), (1, 5, 0), (1, 6, 1)]) (by decide +kernel) g8 (fun g9 => ?_)
              exact again _ h5 s' (tFr f34 g8.2.2.2.2.2 (by decide)) g8.2.2.2.2.1 g9 (by show ν5 3 + 0 = _; omega) (by show ν5 4 = _; omega) (by show ν5 6 + 1 = _; omega) (by rw [g8.2.2.2.2.2.kF H4 c_a365 c_q50 rfl rfl]; exact w1') (by omega)
            obtain ⟨r, r1, r2⟩ := cont2 al2 [] hl2 b_S.nil
            exact ⟨r, t150 o1 rfl o29 y1 u1 y2 u2 (fun v hv => (tw v hv).imp fun x q => q.1) z1 z2 c1 c2 c4 (by omega) (by omega) l01 l71 l81 (by omega) (by omega) (by rw [show kk'.toInt.toNat = (ν3 6).toNat by omega]; exact hmk) r1, r2⟩
        exact cont al [.int x] (hl.ext b_nu_ext) (b_S.cons (v := .int x) (Or.inl ⟨rfl, hx⟩) b_S.nil)
end
/-! part 86u.takes -/
section
/-! takes, the two loops before, and its start -/
theorem t47 {h : AH} {a : Nat} {vs : List Value} : ∀ (m : Nat) (ν : BN) (h1 : AH), b_frm c_K tW h h1 → b_G c_K ν h1 h1 (tI.2.1.2.2.1, [], [], [], []) → ν 4 = a → tA0 h1 a vs (ν 3) → ν 5 ≤ ν 6 → (60 - ν 6).toNat < m → (∃ s : Int32, c_at h1 365 49 = some (.int s) ∧ s.toInt + (c_cnt (tr vs) 60 : Int) ≤ 60) → b_ge 5 219 47 tF.2.1.1 [] tI.2.1.2.2.1.length ν h1 1 60 (tP h)
  | 0, ν, h1, _, _, _, _, _, hm, _ => absurd hm (Nat.not_lt_zero _)
  | m + 1, ν, h1, fr, g, ea, hA, h56, hm, hs => by
    have H1 := g.2.2.2.2.1
    have iv5 := g.iv 5 (lo := 0) (hi := 60) rfl
    have iv6 := g.iv 6 (lo := 0) (hi := 60) rfl
    obtain ⟨s, s1, s2⟩ := hs
    have g0 := g.ad (ν' := ν) (E' := []) (F' := []) (C' := [(5, 6, 0)]) (fun _ _ => rfl) trivial trivial ⟨⟨by decide, by decide, by show ν 5 ≤ ν 6 + 0; omega⟩, trivial⟩
    refine b_ge.sg (S := tF) c_hJ tO tFC (g0.wk (by decide)) (b_al.c ?_ (b_al.c ?_ b_al.n))
    · intro ν1 h2 x1 g1
      refine b_pe.to rfl ?_
      have m3 := x1.2 3 (by decide)
      have m4 := x1.2 4 (by decide)
      have H2 := g1.2.2.2.2.1
      have f2 := g1.2.2.2.2.2
      refine b_ge.cv (T := (tH.2.1.2.2.1, [], [])) (bl := tH.2.1.1) (bs := []) (σ := [(1, 0, 0), (1, 1, 0), (1, 2, 0), (1, 3, 0), (3, 4, 0), (1, 5, 0)]) (by decide +kernel) g1 (fun g2 => ?_)
      refine b_ge.sg (S := tH) c_hJ tO tHC g2 (b_al.c ?_ b_al.n)
      intro ν3 h3 x3 g3
      refine b_pe.to rfl ?_
      have n3 : ν3 3 = ν 3 := (x3.2 3 (by decide)).trans (by show ν1 3 + 0 = _; omega)
      have n4 : ν3 4 = ν 4 := (x3.2 4 (by decide)).trans m4
      refine b_ge.cv (T := (tI.2.1.2.2.1, [], [])) (bl := tI.2.1.1) (bs := []) (σ := [(1, 0, 0), (1, 1, 0), (1, 2, 0), (1, 3, 0), (3, 4, 0), (1, 5, 0), (0, 0, 0)]) (by decide +kernel) g3 (fun g4 => ?_)
      have e3 : b_vT [(1, 0, 0), (1, 1, 0), (1, 2, 0), (1, 3, 0), (3, 4, 0), (1, 5, 0), (0, 0, 0)] ν3 3 = ν 3 := by show ν3 3 + 0 = _; omega
      refine t95 (h := h) (a := a) (vs := vs) _ _ h3 (tFr (tFr fr f2 (by decide)) g3.2.2.2.2.2 (by decide)) g4 (n4.trans ea) (by rw [e3]; exact tA0_frm g3.2.2.2.2.2 (tA0_frm f2 hA)) (Nat.lt_succ_self _) ⟨s, ?_, ?_⟩
      · rw [g3.2.2.2.2.2.kF H2 c_a365 c_q50 rfl rfl, f2.kF H1 c_a365 c_q50 rfl rfl]; exact s1
      · show s.toInt + ((c_cnt (tr vs) 60 : Int) - ((0 : Nat) : Int)) ≤ 60
        omega
    · intro ν1 h2 x1 g1
      refine b_pe.to rfl ?_
      have m3 := x1.2 3 (by decide)
      have m4 := x1.2 4 (by decide)
      have m5 := x1.2 5 (by decide)
      have m6 := x1.2 6 (by decide)
      have k1 : ν1 7 ≤ ν1 5 + 0 := g1.co (by decide)
      have k2 : ν1 5 ≤ ν1 7 + 0 := g1.co (by decide)
      have k3 : ν1 8 ≤ ν1 6 + 0 := g1.co (by decide)
      have k4 : ν1 6 ≤ ν1 8 + 0 := g1.co (by decide)
      have k5 : ν1 8 ≤ ν1 3 + (-1) := g1.co (by decide)
      have iv7 := g1.iv 7 (lo := 0) (hi := 59) rfl
      have iv8 := g1.iv 8 (lo := 0) (hi := 59) rfl
      have H2 := g1.2.2.2.2.1
      have f2 := g1.2.2.2.2.2
      have A2 := tA0_frm f2 hA
      have s1' : c_at h2 365 49 = some (.int s) := by rw [f2.kF H1 c_a365 c_q50 rfl rfl]; exact s1
      intro al st hl hst
      obtain ⟨v1, t1, rfl, a1, b1⟩ := hst.inv
      obtain ⟨v2, t2, rfl, a2, b2⟩ := b1.inv
      obtain rfl := b2.inv0
      obtain ⟨k, rfl, j1⟩ := a1.int (by show 1 < 2; decide)
      obtain ⟨a', rfl, j2⟩ := a2.ref (Or.inr rfl)
      have j1 := j1.v
      have j2 := j2.v
      have ea' : a' = a := Int.ofNat.inj (j2.trans (m4.trans ea))
      rw [ea']
      have gB : b_G c_K ν1 h2 h2 (tI.2.1.2.2.1 ++ [(0, 0, 59), (0, 0, 59)], [], [], [], []) := g1.bare
      have again : ∀ (ν3 : BN) (h3 : AH), b_frm c_K tW h2 h3 → b_H c_K h3 → b_G c_K ν3 h3 h3 (tI.2.1.2.2.1, [], [], [], []) → ν3 3 = ν 3 → ν3 4 = ν 4 → ν3 5 ≤ ν 5 + 1 → ν3 6 = ν 6 + 1 → c_at h3 365 49 = some (.int s) → b_ge 5 219 47 tF.2.1.1 [] tI.2.1.2.2.1.length ν3 h3 1 60 (tP h) := fun ν3 h3 f3 H3 g3 z3 z4 z5 z6 w1 =>
        t47 (h := h) (a := a) (vs := vs) m ν3 h3 (tFr (tFr fr f2 (by decide)) f3 (by decide)) g3 (z4.trans ea) (by rw [z3]; exact tA0_frm f3 A2) (by omega) (by omega) ⟨s, w1, s2⟩
      refine tLdE tI58 A2 (by omega) (fun x hx hv => ?_)
      rcases hx with hx | hx
      · have cont : b_ge 5 219 59 [some (2, 365, 0), some (1, 0, 0), some (1, 1, 0), some (1, 2, 0), some (1, 3, 0), some (1, 7, 0), some (3, 4, 0), some (1, 8, 0), none] [(0, 0, 0)] 9 ν1 h2 1 60 (tP h) := by
          refine b_ge.cv (G := (tI.2.1.2.2.1 ++ [(0, 0, 59), (0, 0, 59)], [], [], [], [])) (T := (tG0.2.1.2.2.1, [], [])) (bl := tG0.2.1.1) (bs := tG0.2.1.2.1) (σ := [(1, 0, 0), (1, 1, 0), (1, 2, 0), (1, 3, 0), (3, 4, 0), (1, 7, 0), (1, 8, 0)]) (by decide +kernel) gB (fun g3 => ?_)
          refine b_ge.sg (S := tG0) c_hJ tO tG0C g3 (b_al.c ?_ b_al.n)
          intro ν3 h3 x3 g4
          refine b_pe.to rfl ?_
          have n3 : ν3 3 = ν 3 := (x3.2 3 (by decide)).trans (by show ν1 3 + 0 = _; omega)
          have n4 : ν3 4 = ν 4 := (x3.2 4 (by decide)).trans m4
          have n5 : ν3 5 = ν 5 := (x3.2 5 (by decide)).trans (by show ν1 7 + 0 = _; omega)
          have n6 : ν3 6 = ν 6 := (x3.2 6 (by decide)).trans (by show ν1 8 + 0 = _; omega)
          refine b_ge.cv (T := (tI.2.1.2.2.1, [], [])) (bl := tF.2.1.1) (bs := []) (σ := [(1, 0, 0), (1, 1, 0), (1, 2, 0), (1, 3, 0), (3, 4, 0), (1, 5, 0), (1, 6, 1)]) (by decide +kernel) g4 (fun g5 => ?_)
          exact again _ h3 (g4.2.2.2.2.2.mono (b_subW_ok (by decide))) g4.2.2.2.2.1 g5 (by show ν3 3 + 0 = _; omega) n4 (by show ν3 5 + 0 ≤ _; omega) (by show ν3 6 + 1 = _; omega) (by rw [g4.2.2.2.2.2.kF H2 c_a365 c_q50 rfl rfl]; exact s1')
        exact cont al [.int x] hl (b_S.cons (v := .int x) (Or.inl ⟨rfl, hx⟩) b_S.nil)
      · have cont : b_ge 5 219 59 [some (2, 365, 0), some (1, 0, 0), some (1, 1, 0), some (1, 2, 0), some (1, 3, 0), some (1, 7, 0), some (3, 4, 0), some (1, 8, 0), none] [(0, 0, 1)] 9 ν1 h2 1 60 (tP h) := by
          refine b_ge.cv (G := (tI.2.1.2.2.1 ++ [(0, 0, 59), (0, 0, 59)], [], [], [], [])) (T := (tG1.2.1.2.2.1, [], [])) (bl := tG1.2.1.1) (bs := tG1.2.1.2.1) (σ := [(1, 0, 0), (1, 1, 0), (1, 2, 0), (1, 3, 0), (3, 4, 0), (1, 7, 0), (1, 8, 0)]) (by decide +kernel) gB (fun g3 => ?_)
          refine b_ge.sg (S := tG1) c_hJ tO tG1C g3 (b_al.c ?_ b_al.n)
          intro ν3 h3 x3 g4
          refine b_pe.to rfl ?_
          have n3 : ν3 3 = ν 3 := (x3.2 3 (by decide)).trans (by show ν1 3 + 0 = _; omega)
          have n4 : ν3 4 = ν 4 := (x3.2 4 (by decide)).trans m4
          have n5 : ν3 5 = ν 5 := (x3.2 5 (by decide)).trans (by show ν1 7 + 0 = _; omega)
          have n6 : ν3 6 = ν 6 := (x3.2 6 (by decide)).trans (by show ν1 8 + 0 = _; omega)
          refine b_ge.cv (T := (tI.2.1.2.2.1, [], [])) (bl := tF.2.1.1) (bs := []) (σ := [(1, 0, 0), (1, 1, 0), (1, 2, 0), (1, 3, 0), (3, 4, 0), (1, 5, 1), (1, 6, 1)]) (by decide +kernel) g4 (fun g5 => ?_)
          exact again _ h3 (g4.2.2.2.2.2.mono (b_subW_ok (by decide))) g4.2.2.2.2.1 g5 (by show ν3 3 + 0 = _; omega) n4 (by show ν3 5 + 1 ≤ _; omega) (by show ν3 6 + 1 = _; omega) (by rw [g4.2.2.2.2.2.kF H2 c_a365 c_q50 rfl (by decide)]; exact s1')
        exact cont al [.int x] hl (b_S.cons (v := .int x) (Or.inl ⟨rfl, hx⟩) b_S.nil)
theorem t18 {h : AH} (H : b_H c_K h) {a : Nat} (hla : h.length ≤ a) {day film : Int32} (hd : -1 ≤ day.toInt ∧ day.toInt ≤ 9) (hf : -1 ≤ film.toInt ∧ film.toInt ≤ 19) {had : Int32} (hh : c_at h 365 49 = some (.int had)) (hc : had.toInt + (c_cnt (fun k => shL h k ∧ GB h k day.toInt film.toInt) 60 : Int) ≤ 60) : ∀ (m : Nat) (ν : BN) (h1 : AH) (vs : List Value), b_frm c_K [] h h1 → b_G c_K ν h1 h1 (tC.2.1.2.2.1, [], [], [], []) → ν 1 = day.toInt → ν 2 = film.toInt → ν 3 = had.toInt → ν 4 = a → tA0 h1 a vs (ν 3) → (∀ j, tr vs j → GB h j day.toInt film.toInt) → (60 - ν 5).toNat < m → b_ge 5 219 18 tC.2.1.1 [] tC.2.1.2.2.1.length ν h1 1 60 (tP h)
  | 0, ν, h1, vs, _, _, _, _, _, _, _, _, hm => absurd hm (Nat.not_lt_zero _)
  | m + 1, ν, h1, vs, fr, g, e1, e2, e3, ea, hA, hG, hm => by
    have H1 := g.2.2.2.2.1
    have iv5 := g.iv 5 (lo := 0) (hi := 60) rfl
    refine b_ge.sg (S := tC) c_hJ tO tCC g (b_al.c ?_ (b_al.c ?_ b_al.n))
    · intro ν1 h2 x1 g1
      refine b_pe.to rfl ?_
      have m3 := x1.2 3 (by decide)
      have m4 := x1.2 4 (by decide)
      have H2 := g1.2.2.2.2.1
      have f2 := g1.2.2.2.2.2
      refine b_ge.cv (T := (tE.2.1.2.2.1, [], [])) (bl := tE.2.1.1) (bs := []) (σ := [(1, 0, 0), (1, 1, 0), (1, 2, 0), (1, 3, 0), (3, 4, 0)]) (by decide +kernel) g1 (fun g2 => ?_)
      refine b_ge.sg (S := tE) c_hJ tO tEC g2 (b_al.c ?_ b_al.n)
      intro ν3 h3 x3 g3
      refine b_pe.to rfl ?_
      have n3 : ν3 3 = ν 3 := (x3.2 3 (by decide)).trans (by show ν1 3 + 0 = _; omega)
      have n4 : ν3 4 = ν 4 := (x3.2 4 (by decide)).trans m4
      have f3 := frm0 (frm0 fr f2) g3.2.2.2.2.2
      refine b_ge.cv (T := (tI.2.1.2.2.1, [], [])) (bl := tF.2.1.1) (bs := []) (σ := [(1, 0, 0), (1, 1, 0), (1, 2, 0), (1, 3, 0), (3, 4, 0), (0, 0, 0), (0, 0, 0)]) (by decide +kernel) g3 (fun g4 => ?_)
      have u3 : b_vT [(1, 0, 0), (1, 1, 0), (1, 2, 0), (1, 3, 0), (3, 4, 0), (0, 0, 0), (0, 0, 0)] ν3 3 = ν 3 := by show ν3 3 + 0 = _; omega
      refine t47 (h := h) (a := a) (vs := vs) _ _ h3 (f3.mono (fun w hw => by cases hw)) g4 (n4.trans ea) (by rw [u3]; exact tA0_frm g3.2.2.2.2.2 (tA0_frm f2 hA)) (Int.le_refl _) (Nat.lt_succ_self _) ⟨had, ?_, ?_⟩
      · rw [f3.kF H c_a365 c_q50 rfl rfl]; exact hh
      · have c1 : c_cnt (tr vs) 60 ≤ c_cnt (fun k => shL h k ∧ GB h k day.toInt film.toInt) 60 := c_cnt_le fun j _ p => ⟨⟨had, hh, by have := hA.2.2.2.2 j p; omega⟩, hG j p⟩
        omega
    · intro ν1 h2 x1 g1
      refine b_pe.to rfl ?_
      have m1 := x1.2 1 (by decide)
      have m2 := x1.2 2 (by decide)
      have m3 := x1.2 3 (by decide)
      have m4 := x1.2 4 (by decide)
      have m5 := x1.2 5 (by decide)
      have k1 : ν1 6 ≤ ν1 5 + 0 := g1.co (by decide)
      have k2 : ν1 5 ≤ ν1 6 + 0 := g1.co (by decide)
      have k3 : ν1 6 ≤ ν1 3 + (-1) := g1.co (by decide)
      have iv6 := g1.iv 6 (lo := 0) (hi := 59) rfl
      have H2 := g1.2.2.2.2.1
      have f2 := frm0 fr g1.2.2.2.2.2
      have A2 := tA0_frm g1.2.2.2.2.2 hA
      intro al st hl hst
      obtain ⟨v1, t1, rfl, a1, b1⟩ := hst.inv
      obtain ⟨v2, t2, rfl, a2, b2⟩ := b1.inv
      obtain ⟨v3, t3, rfl, a3, b3⟩ := b2.inv
      obtain ⟨v4, t4, rfl, a4, b4⟩ := b3.inv
      obtain ⟨v5, t5, rfl, a5, b5⟩ := b4.inv
      obtain ⟨v6, t6, rfl, a6, b6⟩ := b5.inv
      obtain rfl := b6.inv0
      obtain ⟨f', rfl, f1⟩ := a1.int (by show 1 < 2; decide)
      obtain ⟨d', rfl, d1⟩ := a2.int (by show 1 < 2; decide)
      obtain ⟨k, rfl, j1⟩ := a3.int (by show 1 < 2; decide)
      obtain ⟨r3, rfl, r4⟩ := a4.ref (Or.inl rfl)
      obtain ⟨k', rfl, j2⟩ := a5.int (by show 1 < 2; decide)
      obtain ⟨a', rfl, j3⟩ := a6.ref (Or.inr rfl)
      have f1 := f1.v
      have d1 := d1.v
      have j1 := j1.v
      have j2 := j2.v
      have j3 := j3.v
      have r4 := r4.k
      have ed : d' = day := Int32.toInt_inj.mp (by omega)
      have ef : f' = film := Int32.toInt_inj.mp (by omega)
      have ek : k' = k := Int32.toInt_inj.mp (by omega)
      have ea' : a' = a := Int.ofNat.inj (j3.trans (m4.trans ea))
      rw [ed, ef, ek, ea', r4]
      obtain ⟨x, h3, y1, y2, y3, y4, y5'⟩ := gb H2 (k := k) (by omega) hd hf
      obtain ⟨vM, hM⟩ := c_o365 H2
      have fr3 := frm0 f2 y4
      have kk : k.toInt.toNat = (ν 5).toNat := by omega
      rw [GB_iff H f2 (by decide), kk] at y5'
      obtain ⟨q1, q2, q3, q4, q5⟩ := tA0_frm y4 A2
      obtain ⟨i1, i2, i3⟩ := b_ix_ok (j := k) (n := vs.length) (by omega) (by omega)
      have ik : k.toNatClampNeg = (ν 5).toNat := by rw [← kk]; rfl
      have nar : a_ast .bastore 21 (.int x) = some (.int x) := by
        rcases y2 with q | q
        · rw [c_is0 q]; decide +kernel
        · rw [c_is1 q]; decide +kernel
      have A4 : tA0 (h3.set a (21, vs.set (ν 5).toNat (.int x))) a (vs.set (ν 5).toNat (.int x)) (ν 3) := by
        refine ⟨q1, List.getElem?_set_self (List.getElem?_eq_some_iff.mp q2).1, by rw [List.length_set]; exact q3, fun v hv => ?_, fun j hj => ?_⟩
        · rcases List.mem_or_eq_of_mem_set hv with c | c
          · exact q4 v c
          · exact ⟨x, c, y2⟩
        · unfold tr at hj
          by_cases e : j = (ν 5).toNat
          · omega
          · rw [List.getElem?_set_ne (Ne.symm e)] at hj
            exact q5 j hj
      have G4 : ∀ j, tr (vs.set (ν 5).toNat (.int x)) j → GB h j day.toInt film.toInt := fun j hj => by
        unfold tr at hj
        by_cases e : j = (ν 5).toNat
        · rw [e, List.getElem?_set_self (by omega)] at hj
          cases hj
          rw [e]
          exact y5'.mp (by decide)
        · rw [List.getElem?_set_ne (Ne.symm e)] at hj
          exact hG j hj
      have H4 := H_setE (c := (21, vs.set (ν 5).toNat (.int x))) y3 q1
      have fr4 := frm_setE (c := (21, vs.set (ν 5).toNat (.int x))) fr3 hla
      have g4 : b_G c_K ν1 (h3.set a (21, vs.set (ν 5).toNat (.int x))) (h3.set a (21, vs.set (ν 5).toNat (.int x))) (tC.2.1.2.2.1 ++ [(0, 0, 59)], [], [], [], []) := ⟨g1.1, (fun f hf => by cases hf), (fun f hf => by cases hf), (fun f hf => by cases hf), H4, b_frm.rf⟩
      have cont : b_ge 5 219 38 [some (2, 365, 0), some (1, 0, 0), some (1, 1, 0), some (1, 2, 0), some (1, 3, 0), some (0, 0, 0), some (3, 4, 0), some (1, 6, 0), none] [] 7 ν1 (h3.set a (21, vs.set (ν 5).toNat (.int x))) 1 60 (tP h) := by
        refine b_ge.cv (G := (tC.2.1.2.2.1 ++ [(0, 0, 59)], [], [], [], [])) (T := (tD.2.1.2.2.1, [], [])) (bl := tD.2.1.1) (bs := []) (σ := [(1, 0, 0), (1, 1, 0), (1, 2, 0), (1, 3, 0), (3, 4, 0), (1, 6, 0)]) (by decide +kernel) g4 (fun g5 => ?_)
        refine b_ge.sg (S := tD) c_hJ tO tDC g5 (b_al.c ?_ b_al.n)
        intro ν3 h5 x3 g6
        refine b_pe.to rfl ?_
        have n1 : ν3 1 = ν 1 := (x3.2 1 (by decide)).trans (by show ν1 1 + 0 = _; omega)
        have n2 : ν3 2 = ν 2 := (x3.2 2 (by decide)).trans (by show ν1 2 + 0 = _; omega)
        have n3 : ν3 3 = ν 3 := (x3.2 3 (by decide)).trans (by show ν1 3 + 0 = _; omega)
        have n4 : ν3 4 = ν 4 := (x3.2 4 (by decide)).trans m4
        have n5 : ν3 5 = ν 5 := (x3.2 5 (by decide)).trans (by show ν1 6 + 0 = _; omega)
        refine b_ge.cv (T := (tC.2.1.2.2.1, [], [])) (bl := tC.2.1.1) (bs := []) (σ := [(1, 0, 0), (1, 1, 0), (1, 2, 0), (1, 3, 0), (3, 4, 0), (1, 5, 1)]) (by decide +kernel) g6 (fun g7 => ?_)
        have u3 : b_vT [(1, 0, 0), (1, 1, 0), (1, 2, 0), (1, 3, 0), (3, 4, 0), (1, 5, 1)] ν3 3 = ν 3 := by show ν3 3 + 0 = _; omega
        have u5 : b_vT [(1, 0, 0), (1, 1, 0), (1, 2, 0), (1, 3, 0), (3, 4, 0), (1, 5, 1)] ν3 5 = ν 5 + 1 := by show ν3 5 + 1 = _; omega
        exact t18 H hla hd hf hh hc m _ h5 _ (frm0 fr4 g6.2.2.2.2.2) g7 (by show ν3 1 + 0 = _; omega) (by show ν3 2 + 0 = _; omega) (u3.trans e3) (n4.trans ea) (by rw [u3]; exact tA0_frm g6.2.2.2.2.2 A4) G4 (by rw [u5]; omega)
      obtain ⟨r, r1, r2⟩ := cont al [] hl b_S.nil
      refine ⟨r, b_R.cal tI34 rfl rfl (c_calV (k := 4) tI34c c_n218.1 c_n218.2 (by show 4 ≤ 6; decide) (Nat.le_of_ble_eq_true rfl) rfl hM) (b_lim_up (k := 1) y1) (b_R.stp tI37 rfl rfl rfl (a_by4 rfl (b_st4A (Or.inr (Or.inl rfl)) q2 nar i1)) ?_), r2⟩
      rw [ik]
      exact r1
/-- takes, where there is room for all that go -/
theorem tk {h : AH} (H : b_H c_K h) {c day film : Int32} (hcz : 100 ≤ c.toInt ∧ c.toInt ≤ 115) (hd : -1 ≤ day.toInt ∧ day.toInt ≤ 9) (hf : -1 ≤ film.toInt ∧ film.toInt ≤ 19) {had : Int32} (hh : c_at h 365 49 = some (.int had)) (hc : had.toInt + (c_cnt (fun k => shL h k ∧ GB h k day.toInt film.toInt) 60 : Int) ≤ 60) : ∃ (x : Int32) (h' : AH), b_lim 6 219 [.ref 365, .int c, .int day, .int film] h = some (.inl (some (.int x)), h', 1, 60) ∧ 0 ≤ x.toInt ∧ x.toInt ≤ 60 ∧ b_H c_K h' ∧ b_frm c_K tW h h' := by
  generalize hν : (fun n => match n with | 0 => c.toInt | 1 => day.toInt | _ => film.toInt : BN) = ν
  have v0 : ν 0 = c.toInt := by subst hν; rfl
  have v1 : ν 1 = day.toInt := by subst hν; rfl
  have v2 : ν 2 = film.toInt := by subst hν; rfl
  have g0 : b_G c_K ν h h (tA.2.1.2.2.1, [], [], [], []) := ⟨(fun n q hq => by
    rcases n with _ | _ | _ | n
    · cases hq; rw [v0]; exact b_q.i hcz.1 hcz.2
    · cases hq; rw [v1]; exact b_q.i hd.1 hd.2
    · cases hq; rw [v2]; exact b_q.i hf.1 hf.2
    · cases hq), (fun f hf => by cases hf), (fun f hf => by cases hf), (fun f hf => by cases hf), H, b_frm.rf⟩
  obtain ⟨r, r1, x, h', e, k⟩ : ∃ r, b_lim 6 219 [.ref 365, .int c, .int day, .int film] h = some r ∧ tP h r := by
    refine b_ge.lim (N := 3) (ν := ν) (bas := [(2, 365, 0), (1, 0, 0), (1, 1, 0), (1, 2, 0)]) (by decide +kernel) (b_S.cons (Or.inl ⟨rfl, rfl⟩) (b_S.cons (Or.inr ⟨rfl, by decide, by show _ = ν 0 + 0; omega⟩) (b_S.cons (Or.inr ⟨rfl, by decide, by show _ = ν 1 + 0; omega⟩) (b_S.cons (Or.inr ⟨rfl, by decide, by show _ = ν 2 + 0; omega⟩) b_S.nil)))) ?_
    refine b_ge.sg (S := tA) c_hJ tO tAC g0 (b_al.c ?_ b_al.n)
    intro ν1 h1 x1 g1
    refine b_pe.to rfl ?_
    have m1 : ν1 1 = day.toInt := (x1.2 1 (by decide)).trans v1
    have m2 : ν1 2 = film.toInt := (x1.2 2 (by decide)).trans v2
    have fr1 := g1.2.2.2.2.2
    have H1 := g1.2.2.2.2.1
    have L1 := c_len H1
    obtain ⟨z, z1, z2⟩ := g1.rdF (a := 365) (j := 49) (m := 3) (k' := 0) (by rfl)
    rw [fr1.kF H c_a365 c_q50 rfl rfl, hh] at z1
    cases z1
    intro al st hl hst
    obtain ⟨w1, t1, rfl, a1, b1⟩ := hst.inv
    obtain rfl := b1.inv0
    obtain ⟨n60, rfl, c60⟩ := a1.int (by show 0 < 2; decide)
    have c60 := c60.k
    have e60 : n60 = 60 := Int32.toInt_inj.mp (by have z : (60 : Int32).toInt = 60 := by decide
                                                  omega)
    subst e60
    have g2 := g1.ad (ν' := b_nu ν1 4 h1.length) (E' := [(1, 1, 0)]) (F' := []) (C' := []) (fun n hn => if_neg (Nat.ne_of_lt hn)) ⟨by show b_q _ _ (b_nu ν1 4 h1.length 4); rw [b_nu_n]; exact b_q.r0, trivial⟩ trivial trivial
    have g3 := (g2.app c_hJ (c := (21, List.replicate 60 (.int 0)))).bare
    have hx : ∀ n, n < 4 → b_nu ν1 4 h1.length n = ν1 n := fun n hn => if_neg (Nat.ne_of_lt hn)
    have hl2 : b_L 5 (b_nu ν1 4 h1.length) [some (2, 365, 0), some (1, 0, 0), some (1, 1, 0), some (1, 2, 0), some (1, 3, 0), some (0, 0, 0), none, none, none] al := hl.ext b_nu_ext
    obtain ⟨al2, s1, s2⟩ := b_sto_ok (k := 6) (b := (3, 4, 0)) (bl' := tB.2.1.1) hl2 (v := .ref h1.length) (Or.inr ⟨rfl, by decide, by rw [b_nu_n]⟩) rfl
    have fr2 : b_frm c_K [] h (h1 ++ [(21, List.replicate 60 (.int 0))]) := frm0 fr1 b_frm.app
    have lh : h.length ≤ h1.length := by
      rcases Nat.lt_or_ge h1.length h.length with q | q
      · obtain ⟨us, k1, -⟩ := fr1 h1.length _ (List.getElem?_eq_getElem q)
        have := (List.getElem?_eq_some_iff.mp k1).1
        omega
      · exact q
    have cont : b_ge 5 219 15 tB.2.1.1 [] tB.2.1.2.2.1.length (b_nu ν1 4 h1.length) (h1 ++ [(21, List.replicate 60 (.int 0))]) 1 60 (tP h) := by
      refine b_ge.sg (S := tB) c_hJ tO tBC g3 (b_al.c ?_ b_al.n)
      intro ν3 h3 x3 g4
      refine b_pe.to rfl ?_
      have n1 : ν3 1 = day.toInt := (x3.2 1 (by decide)).trans ((hx 1 (by decide)).trans m1)
      have n2 : ν3 2 = film.toInt := (x3.2 2 (by decide)).trans ((hx 2 (by decide)).trans m2)
      have n3 : ν3 3 = had.toInt := (x3.2 3 (by decide)).trans ((hx 3 (by decide)).trans (by omega))
      have n4 : ν3 4 = h1.length := (x3.2 4 (by decide)).trans b_nu_n
      refine b_ge.cv (T := (tC.2.1.2.2.1, [], [])) (bl := tC.2.1.1) (bs := []) (σ := [(1, 0, 0), (1, 1, 0), (1, 2, 0), (1, 3, 0), (3, 4, 0), (0, 0, 0)]) (by decide +kernel) g4 (fun g5 => ?_)
      have u3 : b_vT [(1, 0, 0), (1, 1, 0), (1, 2, 0), (1, 3, 0), (3, 4, 0), (0, 0, 0)] ν3 3 = had.toInt := by show ν3 3 + 0 = _; omega
      have no : ∀ j, ¬ tr (List.replicate 60 (.int 0)) j := fun j q => by
        have := List.eq_of_mem_replicate (List.mem_of_getElem? q)
        cases this
      have A0 : tA0 (h1 ++ [(21, List.replicate 60 (.int 0))]) h1.length (List.replicate 60 (.int 0)) had.toInt := ⟨L1, c_atE, List.length_replicate, fun v hv => ⟨0, List.eq_of_mem_replicate hv, Or.inl (by decide)⟩, fun j hj => absurd hj (no j)⟩
      exact t18 H lh hd hf hh hc _ _ h3 _ (frm0 fr2 g4.2.2.2.2.2) g5 (by show ν3 1 + 0 = _; omega) (by show ν3 2 + 0 = _; omega) u3 n4 (by rw [u3]; exact tA0_frm g4.2.2.2.2.2 A0) (fun j hj => absurd hj (no j)) (Nat.lt_succ_self _)
    obtain ⟨r, r1, r2⟩ := cont al2 [] s2 b_S.nil
    refine ⟨r, ?_, r2⟩
    show b_R 5 219 11 al [.int 60] h1 0 0 r
    refine b_R.stp tI11 rfl rfl rfl tN ?_
    refine b_R.stp tI13 rfl rfl rfl (a_by1 rfl (by show (a_sto al 6 (.ref h1.length)).map _ = _; rw [s1]; rfl)) ?_
    exact r1
  subst e
  exact ⟨x, h', r1, k⟩
end
/-! part 87.storm -/
section
/-! storm and late -/
theorem zO : b_cal c_K (b_lim 6) (b_orc c_K [] 3000 6) := b_orc_ok c_hJ (fun _ h => absurd h List.not_mem_nil) 3000 6
def zA : BSg := ((221, 0), ([some (2, 365, 0), some (1, 0, 0)], [], ([(0, (-2147483648), 2147483647)], [], [])), [(50, 55)], [
  (.inl (.inl (some (0, 0, 0))), ([], [], []), (0, 0)),
  (.inr (45, [some (2, 365, 0), some (1, 1, 0)], [(0, 0, (-1)), (1, 1, 0), (2, 365, 0), (1, 2, 0), (2, 365, 0)]), ([(0, 0, 9), (0, 0, 60)], [((2, 365, 0), (0, 0, 49), (1, 2, 0))], []), (0, 0))])
theorem zAC : b_sgc c_K (b_orc c_K [] 3000 6) zA [45] 3000 = true := by decide +kernel
def zB : BSg := ((221, 49), ([some (2, 365, 0), some (1, 1, 0)], [(1, 2, 0), (2, 365, 0)], ([(0, (-2147483648), 2147483647), (0, 0, 9), (0, 61, 120)], [], [])), [(50, 55)], [
  (.inl (.inl (some (0, 0, 0))), ([], [], []), (0, 0))])
theorem zBC : b_sgc c_K (b_orc c_K [] 3000 6) zB [80] 3000 = true := by decide +kernel
def zC : BSg := ((221, 49), ([some (2, 365, 0), some (1, 1, 0)], [(1, 2, 0), (2, 365, 0)], ([(0, (-2147483648), 2147483647), (0, 0, 9), (0, 0, 60)], [], [])), [(50, 55), (87, 0)], [
  (.inr (80, [some (2, 365, 0), some (1, 1, 0)], [(0, 0, (-1)), (1, 1, 0), (0, 0, 115), (2, 365, 0)]), ([], [], []), (0, 0))])
theorem zCC : b_sgc c_K (b_orc c_K [] 3000 6) zC [80] 3000 = true := by decide +kernel
def zD : BSg := ((221, 83), ([some (2, 365, 0), some (1, 1, 0)], [(1, 2, 0)], ([(0, (-2147483648), 2147483647), (0, 0, 9), (0, 0, 60)], [], [])), [], [
  (.inl (.inl (some (1, 2, 0))), ([], [], []), (0, 0))])
theorem zDC : b_sgc c_K (b_orc c_K [] 3000 6) zD [] 3000 = true := by decide +kernel
theorem xO : b_cal c_K (b_lim 6) (b_orc c_K [] 3000 6) := b_orc_ok c_hJ (fun _ h => absurd h List.not_mem_nil) 3000 6
def xA : BSg := ((222, 0), ([some (2, 365, 0), some (1, 0, 0), some (1, 1, 0), none], [], ([(0, (-2147483648), 2147483647), (0, (-2147483648), 2147483647)], [], [])), [(50, 55), (59, 0)], [
  (.inl (.inl (some (0, 0, 0))), ([], [], []), (0, 0)),
  (.inr (97, [some (2, 365, 0), some (1, 2, 0), some (1, 3, 0), some (1, 4, 0)], [(1, 2, 0), (0, 0, (-1)), (2, 365, 0), (1, 5, 0), (2, 365, 0)]), ([(0, 0, 19), (0, 0, 49), (0, 0, 49), (0, 0, 60)], [((2, 365, 0), (0, 0, 49), (1, 5, 0))], []), (0, 0))])
theorem xAC : b_sgc c_K (b_orc c_K [] 3000 6) xA [97] 3000 = true := by decide +kernel
def xB : BSg := ((222, 101), ([some (2, 365, 0), some (1, 2, 0), some (1, 3, 0), some (1, 4, 0)], [(1, 5, 0), (2, 365, 0)], ([(0, (-2147483648), 2147483647), (0, (-2147483648), 2147483647), (0, 0, 19), (0, 0, 49), (0, 0, 49), (0, 61, 120)], [], [])), [(50, 55), (59, 0)], [
  (.inl (.inl (some (0, 0, 0))), ([], [], []), (0, 0))])
theorem xBC : b_sgc c_K (b_orc c_K [] 3000 6) xB [132] 3000 = true := by decide +kernel
def xC : BSg := ((222, 101), ([some (2, 365, 0), some (1, 2, 0), some (1, 3, 0), some (1, 4, 0)], [(1, 5, 0), (2, 365, 0)], ([(0, (-2147483648), 2147483647), (0, (-2147483648), 2147483647), (0, 0, 19), (0, 0, 49), (0, 0, 49), (0, 0, 60)], [], [])), [(50, 55)], [
  (.inr (132, [some (2, 365, 0), some (1, 2, 0), some (1, 3, 0), some (1, 4, 0)], [(1, 2, 0), (0, 0, (-1)), (0, 0, 108), (2, 365, 0)]), ([], [], []), (0, 0))])
theorem xCC : b_sgc c_K (b_orc c_K [] 3000 6) xC [132] 3000 = true := by decide +kernel
def xD : BSg := ((222, 135), ([some (2, 365, 0), some (1, 2, 0), some (1, 3, 0), some (1, 4, 0)], [(1, 5, 0)], ([(0, (-2147483648), 2147483647), (0, (-2147483648), 2147483647), (0, 0, 19), (0, 0, 49), (0, 0, 49), (0, 0, 60)], [], [])), [], [
  (.inl (.inl (some (1, 5, 0))), ([], [], []), (0, 0))])
theorem xDC : b_sgc c_K (b_orc c_K [] 3000 6) xD [] 3000 = true := by decide +kernel
theorem c_n219 : a_nrg 219 = 4 ∧ a_own 219 = 12 := by decide +kernel
theorem c_n220 : a_nrg 220 = 3 ∧ a_own 220 = 12 := by decide +kernel
theorem zI45 : a_ins 221 45 = some (.invokevirtual 299, 3) := by decide +kernel
theorem zI48 : a_ins 221 48 = some (.iadd, 1) := by decide +kernel
theorem zI80 : a_ins 221 80 = some (.invokevirtual 302, 3) := by decide +kernel
theorem zIc : (a_of a_inv (a_own 221)).find? (fun e => e.1 == 299 && e.2.1 == 0) = some (299, 0, 220, (8, 157), (8, 159), (0, 44), (1, 13)) := by rfl
theorem zId : (a_of a_inv (a_own 221)).find? (fun e => e.1 == 302 && e.2.1 == 0) = some (302, 0, 219, (8, 165), (8, 167), (0, 46), (1, 13)) := by rfl
/-- from the call of takes on -/
theorem zT {ν : BN} {h : AH} (g : b_G c_K ν h h ([(0, -2147483648, 2147483647), (0, 0, 9)], [], [], [], [])) {had : Int32} (hh : c_at h 365 49 = some (.int had)) (hc : had.toInt + (c_cnt (fun k => shL h k ∧ GB h k (ν 1) (-1)) 60 : Int) ≤ 60) : b_gd c_K c_r221 6 80 [some (2, 365, 0), some (1, 1, 0)] [(0, 0, -1), (1, 1, 0), (0, 0, 115), (2, 365, 0)] 2 ν h 0 0 := by
  intro al st hl hst
  have H := g.2.2.2.2.1
  have iv1 := g.iv 1 (lo := 0) (hi := 9) rfl
  obtain ⟨v1, t1, rfl, a1, b1⟩ := hst.inv
  obtain ⟨v2, t2, rfl, a2, b2⟩ := b1.inv
  obtain ⟨v3, t3, rfl, a3, b3⟩ := b2.inv
  obtain ⟨v4, t4, rfl, a4, b4⟩ := b3.inv
  obtain rfl := b4.inv0
  obtain ⟨f, rfl, f1⟩ := a1.int (by show 0 < 2; decide)
  obtain ⟨d, rfl, d1⟩ := a2.int (by show 1 < 2; decide)
  obtain ⟨c, rfl, c1⟩ := a3.int (by show 0 < 2; decide)
  obtain ⟨r3, rfl, r4⟩ := a4.ref (Or.inl rfl)
  have f1 := f1.k
  have d1 := d1.v
  have c1 := c1.k
  have r4 := r4.k
  subst r4
  obtain ⟨vM, hM⟩ := c_o365 H
  obtain ⟨x, h2, y1, y2, y3, y4, y5⟩ := tk H (c := c) (day := d) (film := f) (by omega) (by omega) (by omega) hh (by rw [show d.toInt = (ν 1) by omega, show f.toInt = (-1) by omega]; exact hc)
  have g2 : b_G c_K ν h2 h2 ([(0, -2147483648, 2147483647), (0, 0, 9)], [], [], [], []) := ⟨g.1, (fun f hf => by cases hf), (fun f hf => by cases hf), (fun f hf => by cases hf), y4, b_frm.rf⟩
  have g3 := g2.ad (ν' := b_nu ν 2 x.toInt) (E' := [(0, 0, 60)]) (F' := []) (C' := []) (fun n hn => if_neg (Nat.ne_of_lt hn)) ⟨by show b_q _ _ (b_nu ν 2 x.toInt 2); rw [b_nu_n]; exact b_q.i y2 y3, trivial⟩ trivial trivial
  have cont : b_gd c_K c_r221 6 83 [some (2, 365, 0), some (1, 1, 0)] [(1, 2, 0)] 3 (b_nu ν 2 x.toInt) h2 1 60 := by
    refine b_gd.sg (S := zD) c_hJ zO zDC rfl (by decide) (by decide) (g3.wk (by decide)) (b_al.c ?_ b_al.n)
    intro ν5 h5 x5 g5
    exact b_pq.int (lo := 0) (hi := 60) (by decide) g5
  obtain ⟨r, r1, r2⟩ := cont al [.int x] (hl.ext b_nu_ext) (b_S.cons (v := .int x) (Or.inr ⟨rfl, by decide, by show _ = b_nu ν 2 x.toInt 2 + 0; rw [b_nu_n]; omega⟩) b_S.nil)
  exact ⟨r, b_R.cal zI80 rfl rfl (c_calV (k := 4) zId c_n219.1 c_n219.2 (by show 4 ≤ 4; decide) (Nat.le_of_ble_eq_true rfl) rfl hM) y1 r1, (r2.cut (W := tW) y5 (b_subW_ok (by decide))).ext (N := 3) ⟨by decide, fun n hn => if_neg (by have hn : n < 1 := hn; omega)⟩⟩
/-- from the call of going on -/
theorem zGt {ν : BN} {h : AH} (g : b_G c_K ν h h ([(0, -2147483648, 2147483647), (0, 0, 9)] ++ [(0, 0, 60)], [((2, 365, 0), (0, 0, 49), (1, 2, 0))], [], [], [])) : b_gd c_K c_r221 6 45 [some (2, 365, 0), some (1, 1, 0)] [(0, 0, -1), (1, 1, 0), (2, 365, 0), (1, 2, 0), (2, 365, 0)] 3 ν h 0 0 := by
  intro al st hl hst
  have H := g.2.2.2.2.1
  have iv1 := g.iv 1 (lo := 0) (hi := 9) rfl
  have ivs := g.iv 2 (lo := 0) (hi := 60) rfl
  obtain ⟨had, had1, had2⟩ := g.rdF (a := 365) (j := 49) (m := 2) (k' := 0) (by rfl)
  obtain ⟨v1, t1, rfl, a1, b1⟩ := hst.inv
  obtain ⟨v2, t2, rfl, a2, b2⟩ := b1.inv
  obtain ⟨v3, t3, rfl, a3, b3⟩ := b2.inv
  obtain ⟨v4, t4, rfl, a4, b4⟩ := b3.inv
  obtain ⟨v5, t5, rfl, a5, b5⟩ := b4.inv
  obtain rfl := b5.inv0
  obtain ⟨f, rfl, f1⟩ := a1.int (by show 0 < 2; decide)
  obtain ⟨d, rfl, d1⟩ := a2.int (by show 1 < 2; decide)
  obtain ⟨r3, rfl, r4⟩ := a3.ref (Or.inl rfl)
  obtain ⟨s, rfl, s1⟩ := a4.int (by show 1 < 2; decide)
  have f1 := f1.k
  have d1 := d1.v
  have s1 := s1.v
  have r4 := r4.k
  subst r4
  obtain ⟨vM, hM⟩ := c_o365 H
  obtain ⟨x, h2, y1, y2, y3, y4, y5, y6⟩ := goi H (day := d) (film := f) (by omega) (by omega)
  rw [show d.toInt = (ν 1) by omega, show f.toInt = (-1) by omega] at y6
  have e : (s + x).toInt = s.toInt + x.toInt := by rw [Int32.toInt_add, b_bm (by omega) (by omega)]
  have g2 : b_G c_K ν h2 h2 ([(0, -2147483648, 2147483647), (0, 0, 9)] ++ [(0, 0, 60)], [], [], [], []) := ⟨g.1, (fun f hf => by cases hf), (fun f hf => by cases hf), (fun f hf => by cases hf), y4, b_frm.rf⟩
  have hx : ∀ n, n < 3 → b_nu ν 3 (s + x).toInt n = ν n := fun n hn => if_neg (Nat.ne_of_lt hn)
  have had' : c_at h2 365 49 = some (.int had) := by rw [y5.kF H c_a365 c_q50 rfl rfl]; exact had1
  have cont : b_gd c_K c_r221 6 49 [some (2, 365, 0), some (1, 1, 0)] [(1, 3, 0), (2, 365, 0)] 4 (b_nu ν 3 (s + x).toInt) h2 0 0 := by
    by_cases hle : (s + x).toInt ≤ 60
    · have g3 := g2.ad (ν' := b_nu ν 3 (s + x).toInt) (E' := [(0, 0, 60)]) (F' := []) (C' := []) hx ⟨by show b_q _ _ (b_nu ν 3 (s + x).toInt 3); rw [b_nu_n]; exact b_q.i (by omega) hle, trivial⟩ trivial trivial
      refine b_gd.cv (G := ([(0, -2147483648, 2147483647), (0, 0, 9)] ++ [(0, 0, 60)] ++ [(0, 0, 60)], [], [], [], [])) (T := (zC.2.1.2.2.1, [], [])) (bl := zC.2.1.1) (bs := zC.2.1.2.1) (σ := [(1, 0, 0), (1, 1, 0), (1, 3, 0)]) (by decide +kernel) g3 (fun g4 => ?_)
      refine b_gd.sg (S := zC) c_hJ zO zCC rfl (by decide) (by decide) g4 (b_al.c ?_ b_al.n)
      intro ν5 h5 x5 g5
      refine b_pq.to rfl ?_
      have fr5 := g5.2.2.2.2.2
      have m1 : ν5 1 = ν 1 := (x5.2 1 (by decide)).trans (by show b_nu ν 3 (s + x).toInt 1 + 0 = _; rw [hx 1 (by decide)]; omega)
      refine b_gd.cv (T := ([(0, -2147483648, 2147483647), (0, 0, 9)], [], [])) (bl := [some (2, 365, 0), some (1, 1, 0)]) (bs := [(0, 0, -1), (1, 1, 0), (0, 0, 115), (2, 365, 0)]) (σ := [(1, 0, 0), (1, 1, 0)]) (by decide +kernel) g5 (fun g6 => ?_)
      refine zT g6 (had := had) (by rw [fr5.kF y4 c_a365 c_q50 rfl rfl]; exact had') ?_
      have u1 : b_vT [(1, 0, 0), (1, 1, 0)] ν5 1 = ν 1 := by show ν5 1 + 0 = _; omega
      have sh : ∀ k, shL h5 k ↔ shL h k := fun k => by
        unfold shL
        rw [fr5.kF y4 c_a365 c_q50 rfl rfl, y5.kF H c_a365 c_q50 rfl rfl]
      have ce : c_cnt (fun k => shL h5 k ∧ GB h5 k (b_vT [(1, 0, 0), (1, 1, 0)] ν5 1) (-1)) 60 = c_cnt (fun k => shL h k ∧ GB h k (ν 1) (-1)) 60 := c_cnt_eq fun k _ => by
        rw [sh k, GB_iff y4 fr5 (by decide), GB_iff H y5 (by decide), u1]
      rw [ce]
      omega
    · have g3 := g2.ad (ν' := b_nu ν 3 (s + x).toInt) (E' := [(0, 61, 120)]) (F' := []) (C' := []) hx ⟨by show b_q _ _ (b_nu ν 3 (s + x).toInt 3); rw [b_nu_n]; exact b_q.i (by omega) (by omega), trivial⟩ trivial trivial
      refine b_gd.cv (G := ([(0, -2147483648, 2147483647), (0, 0, 9)] ++ [(0, 0, 60)] ++ [(0, 61, 120)], [], [], [], [])) (T := (zB.2.1.2.2.1, [], [])) (bl := zB.2.1.1) (bs := zB.2.1.2.1) (σ := [(1, 0, 0), (1, 1, 0), (1, 3, 0)]) (by decide +kernel) g3 (fun g4 => ?_)
      refine b_gd.sg (S := zB) c_hJ zO zBC rfl (by decide) (by decide) g4 (b_al.c ?_ b_al.n)
      intro ν5 h5 x5 g5
      exact b_pq.int (lo := 0) (hi := 0) (by decide) g5
  obtain ⟨r, r1, r2⟩ := cont al [.int (s + x), v5] (hl.ext b_nu_ext) (b_S.cons (v := .int (s + x)) (Or.inr ⟨rfl, by decide, by show _ = b_nu ν 3 (s + x).toInt 3 + 0; rw [b_nu_n]; omega⟩) (b_S.cons (a5.ext b_nu_ext) b_S.nil))
  obtain ⟨r5, rfl, -⟩ := a5.ref (Or.inl rfl)
  exact ⟨r, b_R.cal zI45 rfl rfl (c_calV (k := 3) zIc c_n220.1 c_n220.2 (by show 3 ≤ 5; decide) (Nat.le_of_ble_eq_true rfl) rfl hM) (b_lim_up (k := 1) y1) (b_R.stp zI48 rfl rfl rfl (a_by2 rfl rfl) r1), (r2.cut (W := []) y5 (fun w hw => by cases hw)).ext (N := 4) ⟨by decide, fun n hn => hx n (by have hn : n < 1 := hn; omega)⟩⟩
/-- JuryreelModel.storm(I)I -/
theorem c_v221 : b_valid c_K c_r221 := b_gd.valid (d := 6) rfl (by decide +kernel) fun ν h g => by
  refine b_gd.sg (S := zA) c_hJ zO zAC rfl (by decide) (by decide) g (b_al.c ?_ (b_al.c ?_ b_al.n))
  · intro ν3 h3 x3 g3
    exact b_pq.int (lo := 0) (hi := 0) (by decide) g3
  · intro ν1 h1 x1 g1
    exact b_pq.to rfl (zGt (g1.wk (by decide)))
theorem xI97 : a_ins 222 97 = some (.invokevirtual 299, 3) := by decide +kernel
theorem xI100 : a_ins 222 100 = some (.iadd, 1) := by decide +kernel
theorem xI132 : a_ins 222 132 = some (.invokevirtual 302, 3) := by decide +kernel
theorem xIc : (a_of a_inv (a_own 222)).find? (fun e => e.1 == 299 && e.2.1 == 0) = some (299, 0, 220, (8, 157), (8, 159), (0, 44), (1, 13)) := by rfl
theorem xId : (a_of a_inv (a_own 222)).find? (fun e => e.1 == 302 && e.2.1 == 0) = some (302, 0, 219, (8, 165), (8, 167), (0, 46), (1, 13)) := by rfl
/-- from the call of takes on -/
theorem xT {ν : BN} {h : AH} (g : b_G c_K ν h h ([(0, -2147483648, 2147483647), (0, -2147483648, 2147483647), (0, 0, 19), (0, 0, 49), (0, 0, 49)], [], [], [], [])) {had : Int32} (hh : c_at h 365 49 = some (.int had)) (hc : had.toInt + (c_cnt (fun k => shL h k ∧ GB h k (-1) (ν 2)) 60 : Int) ≤ 60) : b_gd c_K c_r222 6 132 [some (2, 365, 0), some (1, 2, 0), some (1, 3, 0), some (1, 4, 0)] [(1, 2, 0), (0, 0, -1), (0, 0, 108), (2, 365, 0)] 5 ν h 0 0 := by
  intro al st hl hst
  have H := g.2.2.2.2.1
  have iv2 := g.iv 2 (lo := 0) (hi := 19) rfl
  obtain ⟨v1, t1, rfl, a1, b1⟩ := hst.inv
  obtain ⟨v2, t2, rfl, a2, b2⟩ := b1.inv
  obtain ⟨v3, t3, rfl, a3, b3⟩ := b2.inv
  obtain ⟨v4, t4, rfl, a4, b4⟩ := b3.inv
  obtain rfl := b4.inv0
  obtain ⟨f, rfl, f1⟩ := a1.int (by show 1 < 2; decide)
  obtain ⟨d, rfl, d1⟩ := a2.int (by show 0 < 2; decide)
  obtain ⟨c, rfl, c1⟩ := a3.int (by show 0 < 2; decide)
  obtain ⟨r3, rfl, r4⟩ := a4.ref (Or.inl rfl)
  have f1 := f1.v
  have d1 := d1.k
  have c1 := c1.k
  have r4 := r4.k
  subst r4
  obtain ⟨vM, hM⟩ := c_o365 H
  obtain ⟨x, h2, y1, y2, y3, y4, y5⟩ := tk H (c := c) (day := d) (film := f) (by omega) (by omega) (by omega) hh (by rw [show d.toInt = (-1) by omega, show f.toInt = (ν 2) by omega]; exact hc)
  have g2 : b_G c_K ν h2 h2 ([(0, -2147483648, 2147483647), (0, -2147483648, 2147483647), (0, 0, 19), (0, 0, 49), (0, 0, 49)], [], [], [], []) := ⟨g.1, (fun f hf => by cases hf), (fun f hf => by cases hf), (fun f hf => by cases hf), y4, b_frm.rf⟩
  have g3 := g2.ad (ν' := b_nu ν 5 x.toInt) (E' := [(0, 0, 60)]) (F' := []) (C' := []) (fun n hn => if_neg (Nat.ne_of_lt hn)) ⟨by show b_q _ _ (b_nu ν 5 x.toInt 5); rw [b_nu_n]; exact b_q.i y2 y3, trivial⟩ trivial trivial
  have cont : b_gd c_K c_r222 6 135 [some (2, 365, 0), some (1, 2, 0), some (1, 3, 0), some (1, 4, 0)] [(1, 5, 0)] 6 (b_nu ν 5 x.toInt) h2 1 60 := by
    refine b_gd.sg (S := xD) c_hJ xO xDC rfl (by decide) (by decide) (g3.wk (by decide)) (b_al.c ?_ b_al.n)
    intro ν5 h5 x5 g5
    exact b_pq.int (lo := 0) (hi := 60) (by decide) g5
  obtain ⟨r, r1, r2⟩ := cont al [.int x] (hl.ext b_nu_ext) (b_S.cons (v := .int x) (Or.inr ⟨rfl, by decide, by show _ = b_nu ν 5 x.toInt 5 + 0; rw [b_nu_n]; omega⟩) b_S.nil)
  exact ⟨r, b_R.cal xI132 rfl rfl (c_calV (k := 4) xId c_n219.1 c_n219.2 (by show 4 ≤ 4; decide) (Nat.le_of_ble_eq_true rfl) rfl hM) y1 r1, (r2.cut (W := tW) y5 (b_subW_ok (by decide))).ext (N := 6) ⟨by decide, fun n hn => if_neg (by have hn : n < 2 := hn; omega)⟩⟩
/-- from the call of going on -/
theorem xG {ν : BN} {h : AH} (g : b_G c_K ν h h ([(0, -2147483648, 2147483647), (0, -2147483648, 2147483647), (0, 0, 19), (0, 0, 49), (0, 0, 49)] ++ [(0, 0, 60)], [((2, 365, 0), (0, 0, 49), (1, 5, 0))], [], [], [])) : b_gd c_K c_r222 6 97 [some (2, 365, 0), some (1, 2, 0), some (1, 3, 0), some (1, 4, 0)] [(1, 2, 0), (0, 0, -1), (2, 365, 0), (1, 5, 0), (2, 365, 0)] 6 ν h 0 0 := by
  intro al st hl hst
  have H := g.2.2.2.2.1
  have iv2 := g.iv 2 (lo := 0) (hi := 19) rfl
  have ivs := g.iv 5 (lo := 0) (hi := 60) rfl
  obtain ⟨had, had1, had2⟩ := g.rdF (a := 365) (j := 49) (m := 5) (k' := 0) (by rfl)
  obtain ⟨v1, t1, rfl, a1, b1⟩ := hst.inv
  obtain ⟨v2, t2, rfl, a2, b2⟩ := b1.inv
  obtain ⟨v3, t3, rfl, a3, b3⟩ := b2.inv
  obtain ⟨v4, t4, rfl, a4, b4⟩ := b3.inv
  obtain ⟨v5, t5, rfl, a5, b5⟩ := b4.inv
  obtain rfl := b5.inv0
  obtain ⟨f, rfl, f1⟩ := a1.int (by show 1 < 2; decide)
  obtain ⟨d, rfl, d1⟩ := a2.int (by show 0 < 2; decide)
  obtain ⟨r3, rfl, r4⟩ := a3.ref (Or.inl rfl)
  obtain ⟨s, rfl, s1⟩ := a4.int (by show 1 < 2; decide)
  have f1 := f1.v
  have d1 := d1.k
  have s1 := s1.v
  have r4 := r4.k
  subst r4
  obtain ⟨vM, hM⟩ := c_o365 H
  obtain ⟨x, h2, y1, y2, y3, y4, y5, y6⟩ := goi H (day := d) (film := f) (by omega) (by omega)
  rw [show d.toInt = (-1) by omega, show f.toInt = (ν 2) by omega] at y6
  have e : (s + x).toInt = s.toInt + x.toInt := by rw [Int32.toInt_add, b_bm (by omega) (by omega)]
  have g2 : b_G c_K ν h2 h2 ([(0, -2147483648, 2147483647), (0, -2147483648, 2147483647), (0, 0, 19), (0, 0, 49), (0, 0, 49)] ++ [(0, 0, 60)], [], [], [], []) := ⟨g.1, (fun f hf => by cases hf), (fun f hf => by cases hf), (fun f hf => by cases hf), y4, b_frm.rf⟩
  have hx : ∀ n, n < 6 → b_nu ν 6 (s + x).toInt n = ν n := fun n hn => if_neg (Nat.ne_of_lt hn)
  have had' : c_at h2 365 49 = some (.int had) := by rw [y5.kF H c_a365 c_q50 rfl rfl]; exact had1
  have cont : b_gd c_K c_r222 6 101 [some (2, 365, 0), some (1, 2, 0), some (1, 3, 0), some (1, 4, 0)] [(1, 6, 0), (2, 365, 0)] 7 (b_nu ν 6 (s + x).toInt) h2 0 0 := by
    by_cases hle : (s + x).toInt ≤ 60
    · have g3 := g2.ad (ν' := b_nu ν 6 (s + x).toInt) (E' := [(0, 0, 60)]) (F' := []) (C' := []) hx ⟨by show b_q _ _ (b_nu ν 6 (s + x).toInt 6); rw [b_nu_n]; exact b_q.i (by omega) hle, trivial⟩ trivial trivial
      refine b_gd.cv (G := ([(0, -2147483648, 2147483647), (0, -2147483648, 2147483647), (0, 0, 19), (0, 0, 49), (0, 0, 49)] ++ [(0, 0, 60)] ++ [(0, 0, 60)], [], [], [], [])) (T := (xC.2.1.2.2.1, [], [])) (bl := xC.2.1.1) (bs := xC.2.1.2.1) (σ := [(1, 0, 0), (1, 1, 0), (1, 2, 0), (1, 3, 0), (1, 4, 0), (1, 6, 0)]) (by decide +kernel) g3 (fun g4 => ?_)
      refine b_gd.sg (S := xC) c_hJ xO xCC rfl (by decide) (by decide) g4 (b_al.c ?_ b_al.n)
      intro ν5 h5 x5 g5
      refine b_pq.to rfl ?_
      have fr5 := g5.2.2.2.2.2
      have m1 : ν5 2 = ν 2 := (x5.2 2 (by decide)).trans (by show b_nu ν 6 (s + x).toInt 2 + 0 = _; rw [hx 2 (by decide)]; omega)
      refine b_gd.cv (T := ([(0, -2147483648, 2147483647), (0, -2147483648, 2147483647), (0, 0, 19), (0, 0, 49), (0, 0, 49)], [], [])) (bl := [some (2, 365, 0), some (1, 2, 0), some (1, 3, 0), some (1, 4, 0)]) (bs := [(1, 2, 0), (0, 0, -1), (0, 0, 108), (2, 365, 0)]) (σ := [(1, 0, 0), (1, 1, 0), (1, 2, 0), (1, 3, 0), (1, 4, 0)]) (by decide +kernel) g5 (fun g6 => ?_)
      refine xT g6 (had := had) (by rw [fr5.kF y4 c_a365 c_q50 rfl rfl]; exact had') ?_
      have u1 : b_vT [(1, 0, 0), (1, 1, 0), (1, 2, 0), (1, 3, 0), (1, 4, 0)] ν5 2 = ν 2 := by show ν5 2 + 0 = _; omega
      have sh : ∀ k, shL h5 k ↔ shL h k := fun k => by
        unfold shL
        rw [fr5.kF y4 c_a365 c_q50 rfl rfl, y5.kF H c_a365 c_q50 rfl rfl]
      have ce : c_cnt (fun k => shL h5 k ∧ GB h5 k (-1) (b_vT [(1, 0, 0), (1, 1, 0), (1, 2, 0), (1, 3, 0), (1, 4, 0)] ν5 2)) 60 = c_cnt (fun k => shL h k ∧ GB h k (-1) (ν 2)) 60 := c_cnt_eq fun k _ => by
        rw [sh k, GB_iff y4 fr5 (by decide), GB_iff H y5 (by decide), u1]
      rw [ce]
      omega
    · have g3 := g2.ad (ν' := b_nu ν 6 (s + x).toInt) (E' := [(0, 61, 120)]) (F' := []) (C' := []) hx ⟨by show b_q _ _ (b_nu ν 6 (s + x).toInt 6); rw [b_nu_n]; exact b_q.i (by omega) (by omega), trivial⟩ trivial trivial
      refine b_gd.cv (G := ([(0, -2147483648, 2147483647), (0, -2147483648, 2147483647), (0, 0, 19), (0, 0, 49), (0, 0, 49)] ++ [(0, 0, 60)] ++ [(0, 61, 120)], [], [], [], [])) (T := (xB.2.1.2.2.1, [], [])) (bl := xB.2.1.1) (bs := xB.2.1.2.1) (σ := [(1, 0, 0), (1, 1, 0), (1, 2, 0), (1, 3, 0), (1, 4, 0), (1, 6, 0)]) (by decide +kernel) g3 (fun g4 => ?_)
      refine b_gd.sg (S := xB) c_hJ xO xBC rfl (by decide) (by decide) g4 (b_al.c ?_ b_al.n)
      intro ν5 h5 x5 g5
      exact b_pq.int (lo := 0) (hi := 0) (by decide) g5
  obtain ⟨r, r1, r2⟩ := cont al [.int (s + x), v5] (hl.ext b_nu_ext) (b_S.cons (v := .int (s + x)) (Or.inr ⟨rfl, by decide, by show _ = b_nu ν 6 (s + x).toInt 6 + 0; rw [b_nu_n]; omega⟩) (b_S.cons (a5.ext b_nu_ext) b_S.nil))
  obtain ⟨r5, rfl, -⟩ := a5.ref (Or.inl rfl)
  exact ⟨r, b_R.cal xI97 rfl rfl (c_calV (k := 3) xIc c_n220.1 c_n220.2 (by show 3 ≤ 5; decide) (Nat.le_of_ble_eq_true rfl) rfl hM) (b_lim_up (k := 1) y1) (b_R.stp xI100 rfl rfl rfl (a_by2 rfl rfl) r1), (r2.cut (W := []) y5 (fun w hw => by cases hw)).ext (N := 7) ⟨by decide, fun n hn => hx n (by have hn : n < 2 := hn; omega)⟩⟩
/-- JuryreelModel.late(II)I -/
theorem c_v222 : b_valid c_K c_r222 := b_gd.valid (d := 6) rfl (by decide +kernel) fun ν h g => by
  refine b_gd.sg (S := xA) c_hJ xO xAC rfl (by decide) (by decide) g (b_al.c ?_ (b_al.c ?_ b_al.n))
  · intro ν3 h3 x3 g3
    exact b_pq.int (lo := 0) (hi := 0) (by decide) g3
  · intro ν1 h1 x1 g1
    exact b_pq.to rfl (xG (g1.wk (by decide)))
end
/-! part 88.hv -/
section
/-! The contracts that the law's loop wants -/
theorem c_hv0 : ∀ R ∈ ([c_r256, c_r168] : List BRw), b_valid c_K R := List.forall_mem_cons.mpr ⟨c_v256, List.forall_mem_cons.mpr ⟨c_v168, fun _ h => absurd h List.not_mem_nil⟩⟩
theorem c_hv1 : ∀ R ∈ ([c_r257, c_r169] : List BRw), b_valid c_K R := List.forall_mem_cons.mpr ⟨c_v257, List.forall_mem_cons.mpr ⟨c_v169, fun _ h => absurd h List.not_mem_nil⟩⟩
theorem c_hv2 : ∀ R ∈ ([c_r258, c_r171] : List BRw), b_valid c_K R := List.forall_mem_cons.mpr ⟨c_v258, List.forall_mem_cons.mpr ⟨c_v171, fun _ h => absurd h List.not_mem_nil⟩⟩
theorem c_hv3 : ∀ R ∈ ([c_r259, c_r173] : List BRw), b_valid c_K R := List.forall_mem_cons.mpr ⟨c_v259, List.forall_mem_cons.mpr ⟨c_v173, fun _ h => absurd h List.not_mem_nil⟩⟩
theorem c_hv4 : ∀ R ∈ ([c_r260, c_r175] : List BRw), b_valid c_K R := List.forall_mem_cons.mpr ⟨c_v260, List.forall_mem_cons.mpr ⟨c_v175, fun _ h => absurd h List.not_mem_nil⟩⟩
theorem c_hv5 : ∀ R ∈ ([c_r261, c_r177] : List BRw), b_valid c_K R := List.forall_mem_cons.mpr ⟨c_v261, List.forall_mem_cons.mpr ⟨c_v177, fun _ h => absurd h List.not_mem_nil⟩⟩
theorem c_hv6 : ∀ R ∈ ([c_r262, c_r179] : List BRw), b_valid c_K R := List.forall_mem_cons.mpr ⟨c_v262, List.forall_mem_cons.mpr ⟨c_v179, fun _ h => absurd h List.not_mem_nil⟩⟩
theorem c_hv7 : ∀ R ∈ ([c_r263, c_r181] : List BRw), b_valid c_K R := List.forall_mem_cons.mpr ⟨c_v263, List.forall_mem_cons.mpr ⟨c_v181, fun _ h => absurd h List.not_mem_nil⟩⟩
theorem c_hv8 : ∀ R ∈ ([c_r264, c_r184] : List BRw), b_valid c_K R := List.forall_mem_cons.mpr ⟨c_v264, List.forall_mem_cons.mpr ⟨c_v184, fun _ h => absurd h List.not_mem_nil⟩⟩
theorem c_hv9 : ∀ R ∈ ([c_r265, c_r185] : List BRw), b_valid c_K R := List.forall_mem_cons.mpr ⟨c_v265, List.forall_mem_cons.mpr ⟨c_v185, fun _ h => absurd h List.not_mem_nil⟩⟩
theorem c_hv10 : ∀ R ∈ ([c_r266, c_r190] : List BRw), b_valid c_K R := List.forall_mem_cons.mpr ⟨c_v266, List.forall_mem_cons.mpr ⟨c_v190, fun _ h => absurd h List.not_mem_nil⟩⟩
theorem c_hv11 : ∀ R ∈ ([c_r267, c_r191] : List BRw), b_valid c_K R := List.forall_mem_cons.mpr ⟨c_v267, List.forall_mem_cons.mpr ⟨c_v191, fun _ h => absurd h List.not_mem_nil⟩⟩
theorem c_hv12 : ∀ R ∈ ([c_r268, c_r192] : List BRw), b_valid c_K R := List.forall_mem_cons.mpr ⟨c_v268, List.forall_mem_cons.mpr ⟨c_v192, fun _ h => absurd h List.not_mem_nil⟩⟩
theorem c_hv13 : ∀ R ∈ ([c_r269, c_r193] : List BRw), b_valid c_K R := List.forall_mem_cons.mpr ⟨c_v269, List.forall_mem_cons.mpr ⟨c_v193, fun _ h => absurd h List.not_mem_nil⟩⟩
theorem c_hv14 : ∀ R ∈ ([c_r270, c_r194] : List BRw), b_valid c_K R := List.forall_mem_cons.mpr ⟨c_v270, List.forall_mem_cons.mpr ⟨c_v194, fun _ h => absurd h List.not_mem_nil⟩⟩
theorem c_hv15 : ∀ R ∈ ([c_r271, c_r195] : List BRw), b_valid c_K R := List.forall_mem_cons.mpr ⟨c_v271, List.forall_mem_cons.mpr ⟨c_v195, fun _ h => absurd h List.not_mem_nil⟩⟩
theorem c_hv16 : ∀ R ∈ ([c_r272, c_r198] : List BRw), b_valid c_K R := List.forall_mem_cons.mpr ⟨c_v272, List.forall_mem_cons.mpr ⟨c_v198, fun _ h => absurd h List.not_mem_nil⟩⟩
theorem c_hv17 : ∀ R ∈ ([c_r273, c_r199] : List BRw), b_valid c_K R := List.forall_mem_cons.mpr ⟨c_v273, List.forall_mem_cons.mpr ⟨c_v199, fun _ h => absurd h List.not_mem_nil⟩⟩
theorem c_hv18 : ∀ R ∈ ([c_r274, c_r201] : List BRw), b_valid c_K R := List.forall_mem_cons.mpr ⟨c_v274, List.forall_mem_cons.mpr ⟨c_v201, fun _ h => absurd h List.not_mem_nil⟩⟩
theorem c_hv19 : ∀ R ∈ ([c_r275, c_r209] : List BRw), b_valid c_K R := List.forall_mem_cons.mpr ⟨c_v275, List.forall_mem_cons.mpr ⟨c_v209, fun _ h => absurd h List.not_mem_nil⟩⟩
theorem c_hv20 : ∀ R ∈ ([c_r276, c_r211] : List BRw), b_valid c_K R := List.forall_mem_cons.mpr ⟨c_v276, List.forall_mem_cons.mpr ⟨c_v211, fun _ h => absurd h List.not_mem_nil⟩⟩
theorem c_hv21 : ∀ R ∈ ([c_r277, c_r213] : List BRw), b_valid c_K R := List.forall_mem_cons.mpr ⟨c_v277, List.forall_mem_cons.mpr ⟨c_v213, fun _ h => absurd h List.not_mem_nil⟩⟩
theorem c_hv22 : ∀ R ∈ ([c_r278, c_r214] : List BRw), b_valid c_K R := List.forall_mem_cons.mpr ⟨c_v278, List.forall_mem_cons.mpr ⟨c_v214, fun _ h => absurd h List.not_mem_nil⟩⟩
theorem c_hv23 : ∀ R ∈ ([c_r279, c_r215] : List BRw), b_valid c_K R := List.forall_mem_cons.mpr ⟨c_v279, List.forall_mem_cons.mpr ⟨c_v215, fun _ h => absurd h List.not_mem_nil⟩⟩
theorem c_hv24 : ∀ R ∈ ([c_r280, c_r216] : List BRw), b_valid c_K R := List.forall_mem_cons.mpr ⟨c_v280, List.forall_mem_cons.mpr ⟨c_v216, fun _ h => absurd h List.not_mem_nil⟩⟩
theorem c_hv25 : ∀ R ∈ ([c_r115, c_r217] : List BRw), b_valid c_K R := List.forall_mem_cons.mpr ⟨c_v115, List.forall_mem_cons.mpr ⟨c_v217, fun _ h => absurd h List.not_mem_nil⟩⟩
theorem c_hv26 : ∀ R ∈ ([c_r281, c_r221] : List BRw), b_valid c_K R := List.forall_mem_cons.mpr ⟨c_v281, List.forall_mem_cons.mpr ⟨c_v221, fun _ h => absurd h List.not_mem_nil⟩⟩
theorem c_hv27 : ∀ R ∈ ([c_r282, c_r222] : List BRw), b_valid c_K R := List.forall_mem_cons.mpr ⟨c_v282, List.forall_mem_cons.mpr ⟨c_v222, fun _ h => absurd h List.not_mem_nil⟩⟩
theorem c_hv28 : ∀ R ∈ ([c_r283, c_r223] : List BRw), b_valid c_K R := List.forall_mem_cons.mpr ⟨c_v283, List.forall_mem_cons.mpr ⟨c_v223, fun _ h => absurd h List.not_mem_nil⟩⟩
theorem c_hv29 : ∀ R ∈ ([c_r284, c_r224] : List BRw), b_valid c_K R := List.forall_mem_cons.mpr ⟨c_v284, List.forall_mem_cons.mpr ⟨c_v224, fun _ h => absurd h List.not_mem_nil⟩⟩
theorem c_hv30 : ∀ R ∈ ([c_r285, c_r226] : List BRw), b_valid c_K R := List.forall_mem_cons.mpr ⟨c_v285, List.forall_mem_cons.mpr ⟨c_v226, fun _ h => absurd h List.not_mem_nil⟩⟩
theorem c_hv31 : ∀ R ∈ ([c_r286, c_r228] : List BRw), b_valid c_K R := List.forall_mem_cons.mpr ⟨c_v286, List.forall_mem_cons.mpr ⟨c_v228, fun _ h => absurd h List.not_mem_nil⟩⟩
theorem c_hv32 : ∀ R ∈ ([c_r287, c_r229] : List BRw), b_valid c_K R := List.forall_mem_cons.mpr ⟨c_v287, List.forall_mem_cons.mpr ⟨c_v229, fun _ h => absurd h List.not_mem_nil⟩⟩
theorem c_hv33 : ∀ R ∈ ([c_r288, c_r230] : List BRw), b_valid c_K R := List.forall_mem_cons.mpr ⟨c_v288, List.forall_mem_cons.mpr ⟨c_v230, fun _ h => absurd h List.not_mem_nil⟩⟩
theorem c_hv34 : ∀ R ∈ ([c_r289, c_r231] : List BRw), b_valid c_K R := List.forall_mem_cons.mpr ⟨c_v289, List.forall_mem_cons.mpr ⟨c_v231, fun _ h => absurd h List.not_mem_nil⟩⟩
theorem c_hv35 : ∀ R ∈ ([c_r290, c_r233] : List BRw), b_valid c_K R := List.forall_mem_cons.mpr ⟨c_v290, List.forall_mem_cons.mpr ⟨c_v233, fun _ h => absurd h List.not_mem_nil⟩⟩
theorem c_hv36 : ∀ R ∈ ([c_r291, c_r234] : List BRw), b_valid c_K R := List.forall_mem_cons.mpr ⟨c_v291, List.forall_mem_cons.mpr ⟨c_v234, fun _ h => absurd h List.not_mem_nil⟩⟩
theorem c_hv37 : ∀ R ∈ ([c_r127, c_r235] : List BRw), b_valid c_K R := List.forall_mem_cons.mpr ⟨c_v127, List.forall_mem_cons.mpr ⟨c_v235, fun _ h => absurd h List.not_mem_nil⟩⟩
theorem c_hv38 : ∀ R ∈ ([c_r292, c_r237] : List BRw), b_valid c_K R := List.forall_mem_cons.mpr ⟨c_v292, List.forall_mem_cons.mpr ⟨c_v237, fun _ h => absurd h List.not_mem_nil⟩⟩
theorem c_hv39 : ∀ R ∈ ([c_r293, c_r247] : List BRw), b_valid c_K R := List.forall_mem_cons.mpr ⟨c_v293, List.forall_mem_cons.mpr ⟨c_v247, fun _ h => absurd h List.not_mem_nil⟩⟩
theorem c_hv40 : ∀ R ∈ ([c_r294, c_r248] : List BRw), b_valid c_K R := List.forall_mem_cons.mpr ⟨c_v294, List.forall_mem_cons.mpr ⟨c_v248, fun _ h => absurd h List.not_mem_nil⟩⟩
theorem c_hv41 : ∀ R ∈ ([c_r295, c_r249] : List BRw), b_valid c_K R := List.forall_mem_cons.mpr ⟨c_v295, List.forall_mem_cons.mpr ⟨c_v249, fun _ h => absurd h List.not_mem_nil⟩⟩
theorem c_hv42 : ∀ R ∈ ([c_r296, c_r250] : List BRw), b_valid c_K R := List.forall_mem_cons.mpr ⟨c_v296, List.forall_mem_cons.mpr ⟨c_v250, fun _ h => absurd h List.not_mem_nil⟩⟩
theorem c_hv43 : ∀ R ∈ ([c_r297, c_r251] : List BRw), b_valid c_K R := List.forall_mem_cons.mpr ⟨c_v297, List.forall_mem_cons.mpr ⟨c_v251, fun _ h => absurd h List.not_mem_nil⟩⟩
theorem c_hv44 : ∀ R ∈ ([c_r134, c_r252] : List BRw), b_valid c_K R := List.forall_mem_cons.mpr ⟨c_v134, List.forall_mem_cons.mpr ⟨c_v252, fun _ h => absurd h List.not_mem_nil⟩⟩
theorem c_hv45 : ∀ R ∈ ([c_r298, c_r253] : List BRw), b_valid c_K R := List.forall_mem_cons.mpr ⟨c_v298, List.forall_mem_cons.mpr ⟨c_v253, fun _ h => absurd h List.not_mem_nil⟩⟩
theorem c_hv46 : ∀ R ∈ ([c_r299, c_r254] : List BRw), b_valid c_K R := List.forall_mem_cons.mpr ⟨c_v299, List.forall_mem_cons.mpr ⟨c_v254, fun _ h => absurd h List.not_mem_nil⟩⟩
theorem c_hv47 : ∀ R ∈ ([c_r137, c_r255] : List BRw), b_valid c_K R := List.forall_mem_cons.mpr ⟨c_v137, List.forall_mem_cons.mpr ⟨c_v255, fun _ h => absurd h List.not_mem_nil⟩⟩
theorem c_hv48 : ∀ R ∈ ([] : List BRw), b_valid c_K R := fun _ h => absurd h List.not_mem_nil
theorem c_hv : ∀ q ∈ c_lawL, ∀ R ∈ q.2, b_valid c_K R := List.forall_mem_cons.mpr ⟨c_hv0, List.forall_mem_cons.mpr ⟨c_hv1, List.forall_mem_cons.mpr ⟨c_hv2, List.forall_mem_cons.mpr ⟨c_hv3, List.forall_mem_cons.mpr ⟨c_hv4, List.forall_mem_cons.mpr ⟨c_hv5, List.forall_mem_cons.mpr ⟨c_hv6, List.forall_mem_cons.mpr ⟨c_hv7, List.forall_mem_cons.mpr ⟨c_hv8, List.forall_mem_cons.mpr ⟨c_hv9, List.forall_mem_cons.mpr ⟨c_hv10, List.forall_mem_cons.mpr ⟨c_hv11, List.forall_mem_cons.mpr ⟨c_hv12, List.forall_mem_cons.mpr ⟨c_hv13, List.forall_mem_cons.mpr ⟨c_hv14, List.forall_mem_cons.mpr ⟨c_hv15, List.forall_mem_cons.mpr ⟨c_hv16, List.forall_mem_cons.mpr ⟨c_hv17, List.forall_mem_cons.mpr ⟨c_hv18, List.forall_mem_cons.mpr ⟨c_hv19, List.forall_mem_cons.mpr ⟨c_hv20, List.forall_mem_cons.mpr ⟨c_hv21, List.forall_mem_cons.mpr ⟨c_hv22, List.forall_mem_cons.mpr ⟨c_hv23, List.forall_mem_cons.mpr ⟨c_hv24, List.forall_mem_cons.mpr ⟨c_hv25, List.forall_mem_cons.mpr ⟨c_hv26, List.forall_mem_cons.mpr ⟨c_hv27, List.forall_mem_cons.mpr ⟨c_hv28, List.forall_mem_cons.mpr ⟨c_hv29, List.forall_mem_cons.mpr ⟨c_hv30, List.forall_mem_cons.mpr ⟨c_hv31, List.forall_mem_cons.mpr ⟨c_hv32, List.forall_mem_cons.mpr ⟨c_hv33, List.forall_mem_cons.mpr ⟨c_hv34, List.forall_mem_cons.mpr ⟨c_hv35, List.forall_mem_cons.mpr ⟨c_hv36, List.forall_mem_cons.mpr ⟨c_hv37, List.forall_mem_cons.mpr ⟨c_hv38, List.forall_mem_cons.mpr ⟨c_hv39, List.forall_mem_cons.mpr ⟨c_hv40, List.forall_mem_cons.mpr ⟨c_hv41, List.forall_mem_cons.mpr ⟨c_hv42, List.forall_mem_cons.mpr ⟨c_hv43, List.forall_mem_cons.mpr ⟨c_hv44, List.forall_mem_cons.mpr ⟨c_hv45, List.forall_mem_cons.mpr ⟨c_hv46, List.forall_mem_cons.mpr ⟨c_hv47, List.forall_mem_cons.mpr ⟨c_hv48, fun _ h => absurd h List.not_mem_nil⟩⟩⟩⟩⟩⟩⟩⟩⟩⟩⟩⟩⟩⟩⟩⟩⟩⟩⟩⟩⟩⟩⟩⟩⟩⟩⟩⟩⟩⟩⟩⟩⟩⟩⟩⟩⟩⟩⟩⟩⟩⟩⟩⟩⟩⟩⟩⟩⟩
end
/-! part 89.claim0 -/
section
/-! The claim's run out of the law's (c_hv: the contracts that 72 wants; to be put together when the last c_v is there) -/
theorem a_claim (L : Nat) (xs : Nat → Int32) (hL : L ≤ 3072) : ∃ d F r, d ≤ 14 ∧ a_go (a_run d F) 300 F 0 (a_args 300 [.ref 0]) [] [(19, (List.range L).map fun j => .int (xs j))] 0 0 = some r ∧ r.1 = .inl (some (.int 1)) ∧ r.2.2.1 ≤ 603072 ∧ r.2.2.2 ≤ 7219306 := by
  obtain ⟨F, r, h1, h2, h3, h4⟩ := c_law c_hv (vs := (List.range L).map fun j => .int (xs j)) (by rw [List.length_map, List.length_range]; exact hL) (fun v hv => by
    obtain ⟨j, -, rfl⟩ := List.mem_map.mp hv
    exact ⟨_, rfl⟩)
  exact ⟨13, F, r, by decide, h1, h2, h3, h4⟩
end
