/-! goesBy -/
def ST (h : AH) (k : Nat) : Prop := ∃ g : Int32, c_at h 492 k = some (.int g) ∧ (g.toInt = 116 ∨ (g.toInt = 0 ∧ ∃ x y : Int32, c_at h 491 k = some (.int x) ∧ c_at h 365 54 = some (.int y) ∧ y.toInt < x.toInt))
def LA (h : AH) (k : Nat) (l : Int) : Prop := ∃ x f mn : Int32, c_at h 491 k = some (.int x) ∧ c_at h 489 k = some (.int f) ∧ c_at h 367 f.toInt.toNat = some (.int mn) ∧ l = x.toInt + (if mn.toInt ≤ 150 then 0 else 1)
/-- there is an hour in which a film can't be shown -/
def NS (h : AH) (k : Nat) (film t : Int) : Prop := ∃ sc : Int32, c_at h 490 k = some (.int sc) ∧ ¬ CS h film.toNat sc.toInt.toNat t
def GB (h : AH) (k : Nat) (day film : Int) : Prop := ST h k ∧ ((film < 0 ∧ ∃ x : Int32, c_at h 491 k = some (.int x) ∧ (x / 5).toInt = day) ∨ (0 ≤ film ∧ (∃ f : Int32, c_at h 489 k = some (.int f) ∧ f.toInt = film) ∧ ∃ (t : Int) (x : Int32) (l : Int), c_at h 491 k = some (.int x) ∧ LA h k l ∧ x.toInt ≤ t ∧ t ≤ l ∧ NS h k film t))
theorem GB_iff {W : BW} {h h' : AH} (H : b_H c_K h) (fr : b_frm c_K W h h') (w : c_nin gW W = true) {k : Nat} {day film : Int} : GB h' k day film ↔ GB h k day film := by
  have e1 : c_at h' 492 k = c_at h 492 k := fr.k H c_a492 c_q80 (by decide) (c_nin_at w _ rfl) k
  have e2 : c_at h' 491 k = c_at h 491 k := fr.k H c_a491 c_q79 (by decide) (c_nin_at w _ rfl) k
  have e3 : c_at h' 365 54 = c_at h 365 54 := fr.kF H c_a365 c_q50 rfl (c_nin_at w _ rfl)
  have e4 : c_at h' 489 k = c_at h 489 k := fr.k H c_a489 c_q77 (by decide) (c_nin_at w _ rfl) k
  have e5 : ∀ j, c_at h' 367 j = c_at h 367 j := fun j => fr.k H c_a367 c_q52 (by decide) (c_nin_at w _ rfl) j
  have e6 : c_at h' 490 k = c_at h 490 k := fr.k H c_a490 c_q78 (by decide) (c_nin_at w _ rfl) k
  have e7 : ∀ f s t, CS h' f s t ↔ CS h f s t := fun f s t => CS_iff H fr w
  unfold GB ST LA NS
  simp only [e1, e2, e3, e4, e5, e6, e7]
def gbP (h : AH) (k : Nat) (day film : Int) (r : AR) : Prop := ∃ (x : Int32) (h' : AH), r = (.inl (some (.int x)), h', 0, 0) ∧ (x.toInt = 0 ∨ x.toInt = 1) ∧ b_H c_K h' ∧ b_frm c_K [] h h' ∧ (x.toInt = 1 ↔ GB h k day film)
theorem gb_no {h h' : AH} {k : Nat} {day film : Int} {mc ms : Nat} {N : Nat} {ν : BN} {p : BSo} {d mi : Nat} (H' : b_H c_K h') (fr : b_frm c_K [] h h') (hp : p.1 = .inl (.inl (some (0, 0, 0)))) (hc : p.2.2 = (0, 0)) (hm : mc = 0 ∧ ms = 0) (no : ¬ GB h k day film) : b_pe d mi p N ν h' mc ms (gbP h k day film) := by
  refine b_pe.int hp (by show 0 < 2; decide) (fun x hx => ?_)
  have hx := hx.k
  rw [hc, hm.1, hm.2]
  exact ⟨x, h', rfl, Or.inl hx, H', fr, ⟨fun q => by omega, fun q => absurd q no⟩⟩
theorem gb_yes {h h' : AH} {k : Nat} {day film : Int} {mc ms : Nat} {N : Nat} {ν : BN} {p : BSo} {d mi : Nat} (H' : b_H c_K h') (fr : b_frm c_K [] h h') (hp : p.1 = .inl (.inl (some (0, 0, 1)))) (hc : p.2.2 = (0, 0)) (hm : mc = 0 ∧ ms = 0) (yes : GB h k day film) : b_pe d mi p N ν h' mc ms (gbP h k day film) := by
  refine b_pe.int hp (by show 0 < 2; decide) (fun x hx => ?_)
  have hx := hx.k
  rw [hc, hm.1, hm.2]
  exact ⟨x, h', rfl, Or.inr hx, H', fr, ⟨fun _ => yes, fun _ => hx⟩⟩
theorem uI23 : a_ins 218 23 = some (.idiv, 1) := by decide +kernel
theorem uI67 : a_ins 218 67 = some (.invokevirtual 259, 3) := by decide +kernel
theorem uI67c : (a_of a_inv (a_own 218)).find? (fun e => e.1 == 259 && e.2.1 == 0) = some (259, 0, 200, (8, 85), (8, 87), (0, 34), (1, 13)) := by rfl
theorem c_n200 : a_nrg 200 = 4 ∧ a_own 200 = 12 := by decide +kernel
theorem u45 {h : AH} (H : b_H c_K h) {k day film : Int} (hst : ST h k.toNat) : ∀ (m : Nat) (ν : BN) (h1 : AH), b_frm c_K [] h h1 → b_G c_K ν h1 h1 (uE.2.1.2.2.1, [], [], [], []) → ν 0 = k → ν 1 = day → ν 2 = film → (51 - ν 4).toNat < m → (∃ x : Int32, c_at h 491 k.toNat = some (.int x) ∧ x.toInt ≤ ν 4 ∧ ((ν 3 = 1 ∧ ∀ t, x.toInt ≤ t → t < ν 4 → ¬ NS h k.toNat film t) ∨ (ν 3 = 0 ∧ ∃ t l, x.toInt ≤ t ∧ LA h k.toNat l ∧ t ≤ l ∧ NS h k.toNat film t))) → b_ge 3 218 45 uE.2.1.1 [] uE.2.1.2.2.1.length ν h1 0 0 (gbP h k.toNat day film)
  | 0, ν, h1, _, _, _, _, _, hm, _ => absurd hm (Nat.not_lt_zero _)
  | m + 1, ν, h1, fr, g, e0, e1, e2, hm, hQ => by
    obtain ⟨X, hX, hXn, hC⟩ := hQ
    have iv0 := g.iv 0 (lo := 0) (hi := 59) rfl
    have iv2 := g.iv 2 (lo := 0) (hi := 19) rfl
    have iv3 := g.iv 3 (lo := 0) (hi := 1) rfl
    have iv4 := g.iv 4 (lo := 0) (hi := 51) rfl
    -- behind the loop
    have out : ∀ (c : Int) (mn : Nat × Int × Int) (C : BC) (ν1 : BN) (h2 : AH), b_frm c_K [] h h2 → b_G c_K ν1 h2 h2 (uE.2.1.2.2.1 ++ [(0, 0, 49), (0, 0, 19), mn], [((2, 491, 0), (1, 0, 0), (1, 5, 0)), ((2, 489, 0), (1, 0, 0), (1, 6, 0)), ((2, 367, 0), (1, 6, 0), (1, 7, 0))], C, [], []) → (∀ n, n < 5 → ν1 n = ν n) → LA h k.toNat c → c < ν 4 → b_ge 3 218 79 [some (2, 365, 0), some (1, 0, 0), some (1, 1, 0), some (1, 2, 0), some (1, 3, 0), none] [] 8 ν1 h2 0 0 (gbP h k.toNat day film) := by
      intro c mn C ν1 h2 fr2 g1 hν hl hlt
      have H2 := g1.2.2.2.2.1
      have n0 := hν 0 (by decide)
      have n2 := hν 2 (by decide)
      have n3 := hν 3 (by decide)
      have i6 := g1.iv 6 (lo := 0) (hi := 19) rfl
      obtain ⟨f, f1, f2⟩ := g1.rd (a := 489) (n := 0) (m := 6) (k := 0) (k' := 0) (by rfl) (j := k.toNat) (by omega)
      rw [fr2.k H c_a489 c_q77 (by decide) rfl] at f1
      have g2 : b_G c_K ν1 h2 h2 ([(0, 0, 59), (0, -1, 9), (0, 0, 19), (0, 0, 1), (0, 0, 51), (0, 0, 49), (0, 0, 19)], [((2, 489, 0), (1, 0, 0), (1, 6, 0))], [], [], []) := ⟨fun n q hq => g1.1 n q (by
        show (uE.2.1.2.2.1 ++ [(0, 0, 49), (0, 0, 19), mn])[n]? = some q
        rcases n with _ | _ | _ | _ | _ | _ | _ | n <;> first | exact hq | (cases hq)), fun f hf => by
          have := g1.2.1 f (by
            rw [List.mem_singleton.mp hf]
            exact List.mem_cons_of_mem _ List.mem_cons_self)
          obtain ⟨a, t, vs, q1, q2, q3⟩ := this
          rw [List.mem_singleton.mp hf] at q1 q3 ⊢
          refine ⟨a, t, vs, ?_, q2, ?_⟩
          · rcases q1 with ⟨w1, w2⟩ | ⟨w1, w2, w3⟩
            · exact Or.inl ⟨w1, w2⟩
            · cases w1
          · rw [if_neg (by decide)] at q3 ⊢
            obtain ⟨j, v, j1, j2, j3⟩ := q3
            refine ⟨j, v, Or.inr ⟨rfl, by decide, j1.v⟩, j2, ?_⟩
            obtain ⟨z, rfl, hz⟩ := j3.int (by show 1 < 2; decide)
            exact Or.inr ⟨rfl, by decide, hz.v⟩, (fun f hf => by cases hf), (fun f hf => by cases hf), H2, b_frm.rf⟩
      refine b_ge.more (N := 8) (N' := 8) (ν' := ν1) b_ext.rf ?_
      have low : b_ge 3 218 79 [some (2, 365, 0), some (1, 0, 0), some (1, 1, 0), some (1, 2, 0), some (1, 3, 0), none] [] 7 ν1 h2 0 0 (gbP h k.toNat day film) := by
        by_cases h3 : ν 3 = 1
        · have hC1 := hC.resolve_right fun q => by omega
          have g3 := (b_setQ g2 (n := 3) (lo := 1) (hi := 1) (by omega) (by omega)).1
          refine b_ge.cv (G := ([(0, 0, 59), (0, -1, 9), (0, 0, 19), (0, 1, 1), (0, 0, 51), (0, 0, 49), (0, 0, 19)], [((2, 489, 0), (1, 0, 0), (1, 6, 0))], [], [], [])) (T := (uG4.2.1.2.2.1, [], [])) (bl := uG4.2.1.1) (bs := []) (σ := [(1, 0, 0), (1, 1, 0), (1, 2, 0), (1, 3, 0)]) (by decide +kernel) g3 (fun g4 => ?_)
          refine b_ge.sg (S := uG4) c_hJ uO uG4C g4 (b_al.c ?_ b_al.n)
          intro ν3 h3 x3 g5
          refine gb_no g5.2.2.2.2.1 (frm0 fr2 g5.2.2.2.2.2) rfl rfl ⟨rfl, rfl⟩ (fun q => ?_)
          rcases q.2 with ⟨q1, -⟩ | ⟨-, -, t, x, l, q1, q2, q3, q4, q5⟩
          · omega
          · rw [hX] at q1
            cases q1
            obtain ⟨a1, a2, a3, l1, l2, l3, l4⟩ := hl
            obtain ⟨b1, b2, b3, l5, l6, l7, l8⟩ := q2
            rw [l1] at l5
            cases l5
            rw [l2] at l6
            cases l6
            rw [l3] at l7
            cases l7
            exact hC1.2 t q3 (by omega) q5
        · have hC0 := hC.resolve_left fun q => h3 q.1
          have g3 := (b_setQ g2 (n := 3) (lo := 0) (hi := 0) (by omega) (by omega)).1
          by_cases hff : ν1 6 = ν1 2
          · have g4 := g3.ad (ν' := ν1) (E' := []) (F' := []) (C' := [(0, 0, 0), (6, 2, 0), (2, 6, 0)]) (fun _ _ => rfl) trivial trivial ⟨⟨by decide, by decide, by show ν1 0 ≤ ν1 0 + 0; omega⟩, ⟨by decide, by decide, by show ν1 6 ≤ ν1 2 + 0; omega⟩, ⟨by decide, by decide, by show ν1 2 ≤ ν1 6 + 0; omega⟩, trivial⟩
            refine b_ge.cv (G := ([(0, 0, 59), (0, -1, 9), (0, 0, 19), (0, 0, 0), (0, 0, 51), (0, 0, 49), (0, 0, 19)], [((2, 489, 0), (1, 0, 0), (1, 6, 0))], [(0, 0, 0), (6, 2, 0), (2, 6, 0)], [], [])) (T := (uG1.2.1.2.2.1, uG1.2.1.2.2.2.1, uG1.2.1.2.2.2.2)) (bl := uG1.2.1.1) (bs := []) (σ := [(1, 0, 0), (1, 1, 0), (1, 2, 0), (1, 3, 0), (1, 6, 0)]) (by decide +kernel) g4 (fun g5 => ?_)
            refine b_ge.sg (S := uG1) c_hJ uO uG1C g5 (b_al.c ?_ b_al.n)
            intro ν3 h3 x3 g6
            obtain ⟨-, t, l, c1, c2, c3, c4⟩ := hC0
            exact gb_yes g6.2.2.2.2.1 (frm0 fr2 g6.2.2.2.2.2) rfl rfl ⟨rfl, rfl⟩ ⟨hst, Or.inr ⟨by omega, ⟨f, f1, by omega⟩, t, X, l, hX, c2, c1, c3, c4⟩⟩
          · have no : ¬ GB h k.toNat day film := fun q => by
              rcases q.2 with ⟨q1, -⟩ | ⟨-, ⟨f', q1, q2⟩, -⟩
              · omega
              · rw [f1] at q1
                cases q1
                omega
            rcases Int.lt_or_gt_of_ne hff with hlt2 | hgt
            · have g4 := g3.ad (ν' := ν1) (E' := []) (F' := []) (C' := [(0, 0, 0), (6, 2, -1)]) (fun _ _ => rfl) trivial trivial ⟨⟨by decide, by decide, by show ν1 0 ≤ ν1 0 + 0; omega⟩, ⟨by decide, by decide, by show ν1 6 ≤ ν1 2 + (-1); omega⟩, trivial⟩
              refine b_ge.cv (G := ([(0, 0, 59), (0, -1, 9), (0, 0, 19), (0, 0, 0), (0, 0, 51), (0, 0, 49), (0, 0, 19)], [((2, 489, 0), (1, 0, 0), (1, 6, 0))], [(0, 0, 0), (6, 2, -1)], [], [])) (T := (uG2.2.1.2.2.1, uG2.2.1.2.2.2.1, uG2.2.1.2.2.2.2)) (bl := uG2.2.1.1) (bs := []) (σ := [(1, 0, 0), (1, 1, 0), (1, 2, 0), (1, 3, 0), (1, 6, 0)]) (by decide +kernel) g4 (fun g5 => ?_)
              refine b_ge.sg (S := uG2) c_hJ uO uG2C g5 (b_al.c ?_ b_al.n)
              intro ν3 h3 x3 g6
              exact gb_no g6.2.2.2.2.1 (frm0 fr2 g6.2.2.2.2.2) rfl rfl ⟨rfl, rfl⟩ no
            · have g4 := g3.ad (ν' := ν1) (E' := []) (F' := []) (C' := [(0, 0, 0), (2, 6, -1)]) (fun _ _ => rfl) trivial trivial ⟨⟨by decide, by decide, by show ν1 0 ≤ ν1 0 + 0; omega⟩, ⟨by decide, by decide, by show ν1 2 ≤ ν1 6 + (-1); omega⟩, trivial⟩
              refine b_ge.cv (G := ([(0, 0, 59), (0, -1, 9), (0, 0, 19), (0, 0, 0), (0, 0, 51), (0, 0, 49), (0, 0, 19)], [((2, 489, 0), (1, 0, 0), (1, 6, 0))], [(0, 0, 0), (2, 6, -1)], [], [])) (T := (uG3.2.1.2.2.1, uG3.2.1.2.2.2.1, uG3.2.1.2.2.2.2)) (bl := uG3.2.1.1) (bs := []) (σ := [(1, 0, 0), (1, 1, 0), (1, 2, 0), (1, 3, 0), (1, 6, 0)]) (by decide +kernel) g4 (fun g5 => ?_)
              refine b_ge.sg (S := uG3) c_hJ uO uG3C g5 (b_al.c ?_ b_al.n)
              intro ν3 h3 x3 g6
              exact gb_no g6.2.2.2.2.1 (frm0 fr2 g6.2.2.2.2.2) rfl rfl ⟨rfl, rfl⟩ no
      intro al st hl2 hs2
      refine low al st ⟨hl2.1, fun i b hb => ?_⟩ ⟨hs2.1, fun i b hb => by cases hb⟩
      obtain ⟨v, v1, v2⟩ := hl2.2 i b hb
      refine ⟨v, v1, ?_⟩
      rcases i with _ | _ | _ | _ | _ | _ | i
      · cases hb
        obtain ⟨a, rfl, ha⟩ := v2.ref (Or.inl rfl)
        exact Or.inl ⟨rfl, ha.k⟩
      · cases hb
        obtain ⟨a, rfl, ha⟩ := v2.int (by show 1 < 2; decide)
        exact Or.inr ⟨rfl, by decide, ha.v⟩
      · cases hb
        obtain ⟨a, rfl, ha⟩ := v2.int (by show 1 < 2; decide)
        exact Or.inr ⟨rfl, by decide, ha.v⟩
      · cases hb
        obtain ⟨a, rfl, ha⟩ := v2.int (by show 1 < 2; decide)
        exact Or.inr ⟨rfl, by decide, ha.v⟩
      · cases hb
        obtain ⟨a, rfl, ha⟩ := v2.int (by show 1 < 2; decide)
        exact Or.inr ⟨rfl, by decide, ha.v⟩
      · cases hb
      · cases hb
    -- a call
    have inn : ∀ (c : Int) (mn : Nat × Int × Int) (ν1 : BN) (h2 : AH), b_frm c_K [] h h2 → b_G c_K ν1 h2 h2 (uE.2.1.2.2.1 ++ [(0, 0, 49), (0, 0, 19), mn, (0, 0, 50), (0, 0, 3)], [], [], [], []) → (∀ n, n < 5 → ν1 n = ν n) → ν1 8 = ν 4 → c_at h 490 k.toNat = some (.int (Int32.ofInt (ν1 9))) → (Int32.ofInt (ν1 9)).toInt = ν1 9 → LA h k.toNat c → ν 4 ≤ c → b_ge 3 218 67 [some (2, 365, 0), some (1, 0, 0), some (1, 1, 0), some (1, 2, 0), some (1, 3, 0), some (1, 8, 0)] [(1, 8, 0), (1, 9, 0), (1, 2, 0), (2, 365, 0), (1, 3, 0)] 10 ν1 h2 0 0 (gbP h k.toNat day film) := by
      intro c mn ν1 h2 fr2 g1 hν h8 hsc hsc2 hl hle al st hl1 hs1
      obtain ⟨v1, t1, rfl, a1, b1⟩ := hs1.inv
      obtain ⟨v2, t2, rfl, a2, b2⟩ := b1.inv
      obtain ⟨v3, t3, rfl, a3, b3⟩ := b2.inv
      obtain ⟨v4, t4, rfl, a4, b4⟩ := b3.inv
      obtain ⟨v5, t5, rfl, a5, b5⟩ := b4.inv
      obtain rfl := b5.inv0
      obtain ⟨t, rfl, t1⟩ := a1.int (by show 1 < 2; decide)
      obtain ⟨s, rfl, s1⟩ := a2.int (by show 1 < 2; decide)
      obtain ⟨f, rfl, f1⟩ := a3.int (by show 1 < 2; decide)
      obtain ⟨r3, rfl, r4⟩ := a4.ref (Or.inl rfl)
      obtain ⟨w, rfl, w1⟩ := a5.int (by show 1 < 2; decide)
      have t1 := t1.v
      have s1 := s1.v
      have f1 := f1.v
      have w1 := w1.v
      have r4 := r4.k
      subst r4
      have n0 := hν 0 (by decide)
      have n1 := hν 1 (by decide)
      have n2 := hν 2 (by decide)
      have n3 := hν 3 (by decide)
      have i8 := g1.iv 8 (lo := 0) (hi := 50) rfl
      have i9 := g1.iv 9 (lo := 0) (hi := 3) rfl
      have H2 := g1.2.2.2.2.1
      obtain ⟨x, h3, y1, y2, y3, y4, y5⟩ := cs H2 (f := f) (s := s) (t := t) (by omega) (by omega) (by omega)
      obtain ⟨vs, hh⟩ := c_o365 H2
      have fr3 := frm0 fr2 y4
      have es : Int32.ofInt (ν1 9) = s := Int32.toInt_inj.mp (by omega)
      rw [es] at hsc
      have key : x.toInt = 0 ↔ NS h k.toNat film (ν 4) := by
        rw [CS_iff H fr2 (by decide), show f.toInt.toNat = film.toNat by omega, show t.toInt = ν 4 by omega] at y5
        refine ⟨fun q => ⟨s, hsc, fun c => ?_⟩, fun q => ?_⟩
        · have := y5.mpr c
          omega
        · obtain ⟨sc, q1, q2⟩ := q
          rw [hsc] at q1
          cases q1
          rcases y2 with y2 | y2
          · exact y2
          · exact absurd (y5.mp y2) q2
      have gI : b_G c_K ν1 h3 h3 (uE.2.1.2.2.1 ++ [(0, 0, 49), (0, 0, 19), mn, (0, 0, 50), (0, 0, 3)], [], [], [], []) := ⟨g1.1, (fun f hf => by cases hf), (fun f hf => by cases hf), (fun f hf => by cases hf), y3, b_frm.rf⟩
      have gJ : b_G c_K (b_vT [(1, 0, 0), (1, 1, 0), (1, 2, 0), (1, 3, 0), (1, 8, 0)] ν1) h3 h3 (uF0.2.1.2.2.1, [], [], [], []) := ⟨(fun n q hq => by
        rcases n with _ | _ | _ | _ | _ | n
        · cases hq
          show b_q _ _ (ν1 0 + 0)
          exact b_q.i (by omega) (by omega)
        · cases hq
          show b_q _ _ (ν1 1 + 0)
          have := gI.iv 1 (lo := -1) (hi := 9) rfl
          exact b_q.i (by omega) (by omega)
        · cases hq
          show b_q _ _ (ν1 2 + 0)
          exact b_q.i (by omega) (by omega)
        · cases hq
          show b_q _ _ (ν1 3 + 0)
          exact b_q.i (by omega) (by omega)
        · cases hq
          show b_q _ _ (ν1 8 + 0)
          exact b_q.i (by omega) (by omega)
        · cases hq), (fun f hf => by cases hf), (fun f hf => by cases hf), (fun f hf => by cases hf), y3, b_frm.rf⟩
      generalize hν2 : b_vT [(1, 0, 0), (1, 1, 0), (1, 2, 0), (1, 3, 0), (1, 8, 0)] ν1 = ν2 at gJ
      have z0 : ν2 0 = k := by rw [← hν2]; show ν1 0 + 0 = _; omega
      have z1 : ν2 1 = day := by rw [← hν2]; show ν1 1 + 0 = _; omega
      have z2 : ν2 2 = film := by rw [← hν2]; show ν1 2 + 0 = _; omega
      have z3 : ν2 3 = ν 3 := by rw [← hν2]; show ν1 3 + 0 = _; omega
      have z4 : ν2 4 = ν 4 := by rw [← hν2]; show ν1 8 + 0 = _; omega
      have hl2 : b_L 5 ν2 [some (2, 365, 0), some (1, 0, 0), some (1, 1, 0), some (1, 2, 0), some (1, 3, 0), some (1, 4, 0)] al := by
        refine ⟨hl1.1, fun i b hb => ?_⟩
        have mk : ∀ (i n m : Nat), ([some (2, 365, 0), some (1, 0, 0), some (1, 1, 0), some (1, 2, 0), some (1, 3, 0), some (1, 8, 0)] : BL)[i]? = some (some (1, n, 0)) → m < 5 → ν2 m = ν1 n → ∃ v, a_get al i = some v ∧ b_v 5 ν2 (1, m, 0) v := fun i n m hb' hm5 e => by
          obtain ⟨v, u1, u2⟩ := hl1.2 i _ hb'
          obtain ⟨a, rfl, ha⟩ := u2.int (by show 1 < 2; decide)
          have ha := ha.v
          exact ⟨_, u1, Or.inr ⟨rfl, hm5, by show _ = ν2 m + 0; omega⟩⟩
        rcases i with _ | _ | _ | _ | _ | _ | i
        · cases hb
          obtain ⟨v, u1, u2⟩ := hl1.2 0 _ rfl
          obtain ⟨a, rfl, ha⟩ := u2.ref (Or.inl rfl)
          exact ⟨_, u1, Or.inl ⟨rfl, ha.k⟩⟩
        · cases hb; exact mk 1 0 0 rfl (by decide) (by omega)
        · cases hb; exact mk 2 1 1 rfl (by decide) (by omega)
        · cases hb; exact mk 3 2 2 rfl (by decide) (by omega)
        · cases hb; exact mk 4 3 3 rfl (by decide) (by omega)
        · cases hb; exact mk 5 8 4 rfl (by decide) (by omega)
        · cases hb
      have again : ∀ (b : Int) (ν3 : BN) (h4 : AH), b_frm c_K [] h3 h4 → b_G c_K ν3 h4 h4 (uE.2.1.2.2.1, [], [], [], []) → ν3 0 = k → ν3 1 = day → ν3 2 = film → ν3 3 = b → ν3 4 = ν 4 + 1 → (b = ν 3 ∧ x.toInt = 1 ∨ b = 0 ∧ x.toInt = 0) → b_ge 3 218 45 uE.2.1.1 [] uE.2.1.2.2.1.length ν3 h4 0 0 (gbP h k.toNat day film) := by
        intro b ν3 h4 fr4 g4 q0 q1 q2 q3 q4 hb
        have p1 : (51 - ν3 4).toNat < m := by clear hC hb; omega
        have p2 : X.toInt ≤ ν3 4 := by clear hC hb; omega
        refine u45 H hst m ν3 h4 (frm0 fr3 fr4) g4 q0 q1 q2 p1 ⟨X, hX, p2, ?_⟩
        rw [q3, q4]
        rcases hb with ⟨hb, hx1⟩ | ⟨hb, hx0⟩
        · rcases hC with ⟨c1, c2⟩ | ⟨c1, c2⟩
          · refine Or.inl ⟨by omega, fun u u1 u2 u3 => ?_⟩
            by_cases e : u < ν 4
            · exact c2 u u1 e u3
            · rw [show u = ν 4 by omega] at u3
              have := key.mpr u3
              omega
          · exact Or.inr ⟨by omega, c2⟩
        · exact Or.inr ⟨hb, ν 4, c, hXn, hl, hle, key.mp hx0⟩
      have cont : ∃ r, b_R 3 218 70 al [.int x, .int w] h3 0 0 r ∧ gbP h k.toNat day film r := by
        rcases y2 with hx | hx
        · refine (b_ge.sg (S := uF0) c_hJ uO uF0C gJ (b_al.c ?_ b_al.n)) al _ hl2 (b_S.cons (v := .int x) (Or.inl ⟨rfl, hx⟩) (b_S.cons (v := .int w) (Or.inr ⟨rfl, by decide, by show _ = ν2 3 + 0; omega⟩) b_S.nil))
          intro ν3 h4 x3 g4
          refine b_pe.to rfl ?_
          refine b_ge.cv (T := (uE.2.1.2.2.1, [], [])) (bl := uE.2.1.1) (bs := []) (σ := [(1, 0, 0), (1, 1, 0), (1, 2, 0), (0, 0, 0), (1, 4, 1)]) (by decide +kernel) g4 (fun g5 => ?_)
          have p0 : ν3 0 = k := (x3.2 0 (by decide)).trans z0
          have p1 : ν3 1 = day := (x3.2 1 (by decide)).trans z1
          have p2 : ν3 2 = film := (x3.2 2 (by decide)).trans z2
          have p4 : ν3 4 = ν 4 := (x3.2 4 (by decide)).trans z4
          exact again 0 _ h4 g4.2.2.2.2.2 g5 (by show ν3 0 + 0 = _; omega) (by show ν3 1 + 0 = _; omega) (by show ν3 2 + 0 = _; omega) rfl (by show ν3 4 + 1 = _; omega) (Or.inr ⟨rfl, hx⟩)
        · refine (b_ge.sg (S := uF1) c_hJ uO uF1C gJ (b_al.c ?_ b_al.n)) al _ hl2 (b_S.cons (v := .int x) (Or.inl ⟨rfl, hx⟩) (b_S.cons (v := .int w) (Or.inr ⟨rfl, by decide, by show _ = ν2 3 + 0; omega⟩) b_S.nil))
          intro ν3 h4 x3 g4
          refine b_pe.to rfl ?_
          refine b_ge.cv (T := (uE.2.1.2.2.1, [], [])) (bl := uE.2.1.1) (bs := []) (σ := [(1, 0, 0), (1, 1, 0), (1, 2, 0), (1, 3, 0), (1, 4, 1)]) (by decide +kernel) g4 (fun g5 => ?_)
          have p0 : ν3 0 = k := (x3.2 0 (by decide)).trans z0
          have p1 : ν3 1 = day := (x3.2 1 (by decide)).trans z1
          have p2 : ν3 2 = film := (x3.2 2 (by decide)).trans z2
          have p3 : ν3 3 = ν 3 := (x3.2 3 (by decide)).trans z3
          have p4 : ν3 4 = ν 4 := (x3.2 4 (by decide)).trans z4
          exact again (ν 3) _ h4 g4.2.2.2.2.2 g5 (by show ν3 0 + 0 = _; omega) (by show ν3 1 + 0 = _; omega) (by show ν3 2 + 0 = _; omega) (by show ν3 3 + 0 = _; omega) (by show ν3 4 + 1 = _; omega) (Or.inl ⟨rfl, hx⟩)
      obtain ⟨r, r1, r2⟩ := cont
      exact ⟨r, b_R.cal uI67 rfl rfl (c_calV (k := 4) uI67c c_n200.1 c_n200.2 (by show 4 ≤ 5; decide) (Nat.le_of_ble_eq_true rfl) rfl hh) (b_lim_up (k := 1) y1) r1, r2⟩
    -- what the stretch says of the last hour
    have la : ∀ (ν1 : BN) (h2 : AH) (E : BQ) (F : BF) (C : BC), b_frm c_K [] h h2 → b_G c_K ν1 h2 h2 (E, ((2, 491, 0), (1, 0, 0), (1, 5, 0)) :: ((2, 489, 0), (1, 0, 0), (1, 6, 0)) :: ((2, 367, 0), (1, 6, 0), (1, 7, 0)) :: F, C, [], []) → ν1 0 = k → 0 ≤ ν1 6 → LA h k.toNat (ν1 5 + (if ν1 7 ≤ 150 then 0 else 1)) ∧ X.toInt = ν1 5 := by
      intro ν1 h2 E F C fr2 g1 q0 q6
      obtain ⟨x, x1, x2⟩ := g1.rd (a := 491) (n := 0) (m := 5) (k := 0) (k' := 0) (by simp) (j := k.toNat) (by omega)
      obtain ⟨f, f1, f2⟩ := g1.rd (a := 489) (n := 0) (m := 6) (k := 0) (k' := 0) (by simp) (j := k.toNat) (by omega)
      obtain ⟨mn, y1, y2⟩ := g1.rd (a := 367) (n := 6) (m := 7) (k := 0) (k' := 0) (by simp) (j := f.toInt.toNat) (by omega)
      rw [fr2.k H c_a491 c_q79 (by decide) rfl] at x1
      rw [fr2.k H c_a489 c_q77 (by decide) rfl] at f1
      rw [fr2.k H c_a367 c_q52 (by decide) rfl] at y1
      have e : X = x := by rw [hX] at x1; cases x1; rfl
      subst e
      refine ⟨⟨X, f, mn, x1, f1, y1, ?_⟩, by omega⟩
      rw [show mn.toInt = ν1 7 by omega, show X.toInt = ν1 5 by omega]
    refine b_ge.sg c_hJ uO uEC g (b_al.c ?_ (b_al.c ?_ (b_al.c ?_ (b_al.c ?_ b_al.n))))
    · intro ν1 h2 x1 g1
      refine b_pe.to rfl ?_
      have fr2 := frm0 fr g1.2.2.2.2.2
      have hν : ∀ n, n < 5 → ν1 n = ν n := fun n hn => x1.2 n hn
      have c1 : ν1 5 ≤ ν1 4 + (-1) := g1.co (by decide)
      have i6 := g1.iv 6 (lo := 0) (hi := 19) rfl
      have i7 := g1.iv 7 (lo := 0) (hi := 150) rfl
      have n0 := hν 0 (by decide)
      have n4 := hν 4 (by decide)
      obtain ⟨l1, l2⟩ := la ν1 h2 _ [] _ fr2 g1.here (by omega) i6.1
      rw [if_pos i7.2] at l1
      exact out _ _ _ ν1 h2 fr2 g1.here hν l1 (by omega)
    · intro ν1 h2 x1 g1
      refine b_pe.to rfl ?_
      have fr2 := frm0 fr g1.2.2.2.2.2
      have hν : ∀ n, n < 5 → ν1 n = ν n := fun n hn => x1.2 n hn
      have c1 : ν1 8 ≤ ν1 4 + 0 := g1.co (by decide)
      have c2 : ν1 4 ≤ ν1 8 + 0 := g1.co (by decide)
      have c3 : ν1 4 ≤ ν1 5 + 0 := g1.co (by decide)
      have i6 := g1.iv 6 (lo := 0) (hi := 19) rfl
      have i7 := g1.iv 7 (lo := 0) (hi := 150) rfl
      have n0 := hν 0 (by decide)
      have n4 := hν 4 (by decide)
      obtain ⟨l1, l2⟩ := la ν1 h2 _ [((2, 490, 0), (1, 0, 0), (1, 9, 0))] _ fr2 g1.here (by omega) i6.1
      rw [if_pos i7.2] at l1
      obtain ⟨sc, sc1, sc2⟩ := g1.rd (a := 490) (n := 0) (m := 9) (k := 0) (k' := 0) (by rfl) (j := k.toNat) (by omega)
      rw [fr2.k H c_a490 c_q78 (by decide) rfl] at sc1
      have es : Int32.ofInt (ν1 9) = sc := by rw [show ν1 9 = sc.toInt by omega, Int32.ofInt_toInt]
      exact inn _ _ ν1 h2 fr2 g1.bare hν (by omega) (by rw [es]; exact sc1) (by rw [es]; omega) l1 (by omega)
    · intro ν1 h2 x1 g1
      refine b_pe.to rfl ?_
      have fr2 := frm0 fr g1.2.2.2.2.2
      have hν : ∀ n, n < 5 → ν1 n = ν n := fun n hn => x1.2 n hn
      have c1 : ν1 5 ≤ ν1 4 + (-2) := g1.co (by decide)
      have i6 := g1.iv 6 (lo := 0) (hi := 19) rfl
      have i7 := g1.iv 7 (lo := 151) (hi := 300) rfl
      have n0 := hν 0 (by decide)
      have n4 := hν 4 (by decide)
      obtain ⟨l1, l2⟩ := la ν1 h2 _ [] _ fr2 g1.here (by omega) i6.1
      rw [if_neg (by omega)] at l1
      exact out _ _ _ ν1 h2 fr2 g1.here hν l1 (by omega)
    · intro ν1 h2 x1 g1
      refine b_pe.to rfl ?_
      have fr2 := frm0 fr g1.2.2.2.2.2
      have hν : ∀ n, n < 5 → ν1 n = ν n := fun n hn => x1.2 n hn
      have c1 : ν1 8 ≤ ν1 4 + 0 := g1.co (by decide)
      have c2 : ν1 4 ≤ ν1 8 + 0 := g1.co (by decide)
      have c3 : ν1 4 ≤ ν1 5 + 1 := g1.co (by decide)
      have i6 := g1.iv 6 (lo := 0) (hi := 19) rfl
      have i7 := g1.iv 7 (lo := 151) (hi := 300) rfl
      have n0 := hν 0 (by decide)
      have n4 := hν 4 (by decide)
      obtain ⟨l1, l2⟩ := la ν1 h2 _ [((2, 490, 0), (1, 0, 0), (1, 9, 0))] _ fr2 g1.here (by omega) i6.1
      rw [if_neg (by omega)] at l1
      obtain ⟨sc, sc1, sc2⟩ := g1.rd (a := 490) (n := 0) (m := 9) (k := 0) (k' := 0) (by rfl) (j := k.toNat) (by omega)
      rw [fr2.k H c_a490 c_q78 (by decide) rfl] at sc1
      have es : Int32.ofInt (ν1 9) = sc := by rw [show ν1 9 = sc.toInt by omega, Int32.ofInt_toInt]
      exact inn _ _ ν1 h2 fr2 g1.bare hν (by omega) (by rw [es]; exact sc1) (by rw [es]; omega) l1 (by omega)
/-- what goesBy answers -/
theorem gb {h : AH} (H : b_H c_K h) {k day film : Int32} (hk : 0 ≤ k.toInt ∧ k.toInt ≤ 59) (hd : -1 ≤ day.toInt ∧ day.toInt ≤ 9) (hf : -1 ≤ film.toInt ∧ film.toInt ≤ 19) : ∃ (x : Int32) (h' : AH), b_lim 4 218 [.ref 365, .int k, .int day, .int film] h = some (.inl (some (.int x)), h', 0, 0) ∧ (x.toInt = 0 ∨ x.toInt = 1) ∧ b_H c_K h' ∧ b_frm c_K [] h h' ∧ (x.toInt = 1 ↔ GB h k.toInt.toNat day.toInt film.toInt) := by
  generalize hν : (fun n => match n with | 0 => k.toInt | 1 => day.toInt | _ => film.toInt : BN) = ν
  have v0 : ν 0 = k.toInt := by subst hν; rfl
  have v1 : ν 1 = day.toInt := by subst hν; rfl
  have v2 : ν 2 = film.toInt := by subst hν; rfl
  have g0 : b_G c_K ν h h ([(0, 0, 59), (0, -1, 9), (0, -1, 19)], [], [], [], []) := ⟨(fun n q hq => by
    rcases n with _ | _ | _ | n
    · cases hq; rw [v0]; exact b_q.i hk.1 hk.2
    · cases hq; rw [v1]; exact b_q.i hd.1 hd.2
    · cases hq; rw [v2]; exact b_q.i hf.1 hf.2
    · cases hq), (fun f hf => by cases hf), (fun f hf => by cases hf), (fun f hf => by cases hf), H, b_frm.rf⟩
  -- from 12 on
  have u12 : ∀ (ν1 : BN) (h1 : AH), b_frm c_K [] h h1 → b_G c_K ν1 h1 h1 ([(0, 0, 59), (0, -1, 9), (0, -1, 19)], [], [], [], []) → ν1 0 = k.toInt → ν1 1 = day.toInt → ν1 2 = film.toInt → ST h k.toInt.toNat → b_ge 3 218 12 [some (2, 365, 0), some (1, 0, 0), some (1, 1, 0), some (1, 2, 0), none, none] [] 3 ν1 h1 0 0 (gbP h k.toInt.toNat day.toInt film.toInt) := by
    intro ν1 h1 fr1 g1 e0 e1 e2 hst
    by_cases hneg : film.toInt = -1
    · have g2 := (b_setQ g1 (n := 2) (lo := -1) (hi := -1) (by omega) (by omega)).1
      refine b_ge.sg (S := uB) c_hJ uO uBC g2 (b_al.c ?_ b_al.n)
      intro ν3 h3 x3 g3
      refine b_pe.to rfl ?_
      have fr3 := frm0 fr1 g3.2.2.2.2.2
      have H3 := g3.2.2.2.2.1
      have n0 : ν3 0 = k.toInt := (x3.2 0 (by decide)).trans e0
      have n1 : ν3 1 = day.toInt := (x3.2 1 (by decide)).trans e1
      have n2 : ν3 2 = film.toInt := (x3.2 2 (by decide)).trans e2
      intro al st hl hs
      obtain ⟨w1, t1, rfl, a1, b1⟩ := hs.inv
      obtain ⟨w2, t2, rfl, a2, b2⟩ := b1.inv
      obtain rfl := b2.inv0
      obtain ⟨five, rfl, c5⟩ := a1.int (by show 0 < 2; decide)
      obtain ⟨x, rfl, cx⟩ := a2.int (by show 1 < 2; decide)
      have c5 := c5.k
      have cx := cx.v
      have e5 : five = 5 := Int32.toInt_inj.mp (by have z : (5 : Int32).toInt = 5 := by decide
                                                   omega)
      subst e5
      obtain ⟨X, hX, hX2⟩ := g3.rd (a := 491) (n := 0) (m := 3) (k := 0) (k' := 0) (by rfl) (j := k.toInt.toNat) (by omega)
      rw [fr3.k H c_a491 c_q79 (by decide) rfl] at hX
      have eX : X = x := Int32.toInt_inj.mp (by omega)
      subst eX
      have iff : (X / 5).toInt = day.toInt ↔ GB h k.toInt.toNat day.toInt film.toInt := by
        refine ⟨fun q => ⟨hst, Or.inl ⟨by omega, X, hX, q⟩⟩, fun q => ?_⟩
        rcases q.2 with ⟨-, y, y1, y2⟩ | ⟨q1, -⟩
        · rw [hX] at y1
          cases y1
          exact y2
        · omega
      have b32 := b_32 (X / 5)
      have g4 : b_G c_K ν3 h3 h3 ([(0, 0, 59), (0, -1, 9), (0, -1, -1), (0, 0, 49)], [], [], [], []) := g3.bare
      have gq : b_G c_K (fun n => if n = 3 then (X / 5).toInt else ν3 n) h3 h3 ([(0, 0, 59), (0, -1, 9), (0, -1, 19), (0, -2147483648, 2147483647)], [], [], [], []) := ⟨(fun n q hq => by
        rcases n with _ | _ | _ | _ | n
        · cases hq; show b_q _ _ (ν3 0); rw [n0]; exact b_q.i hk.1 hk.2
        · cases hq; show b_q _ _ (ν3 1); rw [n1]; exact b_q.i hd.1 hd.2
        · cases hq; show b_q _ _ (ν3 2); rw [n2]; exact b_q.i hf.1 hf.2
        · cases hq; exact b_q.i b32.1 b32.2
        · cases hq), (fun f hf => by cases hf), (fun f hf => by cases hf), (fun f hf => by cases hf), H3, b_frm.rf⟩
      have hl4 : b_L 4 (fun n => if n = 3 then (X / 5).toInt else ν3 n) [some (2, 365, 0), some (1, 0, 0), some (1, 1, 0), some (1, 2, 0), none, none] al := by
        refine ⟨hl.1, fun i b hb => ?_⟩
        obtain ⟨v, z1, z2⟩ := hl.2 i b hb
        refine ⟨v, z1, ?_⟩
        rcases i with _ | _ | _ | _ | _ | _ | i
        · cases hb
          obtain ⟨a, rfl, ha⟩ := z2.ref (Or.inl rfl)
          exact Or.inl ⟨rfl, ha.k⟩
        · cases hb
          obtain ⟨a, rfl, ha⟩ := z2.int (by show 1 < 2; decide)
          exact Or.inr ⟨rfl, by decide, ha.v⟩
        · cases hb
          obtain ⟨a, rfl, ha⟩ := z2.int (by show 1 < 2; decide)
          exact Or.inr ⟨rfl, by decide, ha.v⟩
        · cases hb
          obtain ⟨a, rfl, ha⟩ := z2.int (by show 1 < 2; decide)
          exact Or.inr ⟨rfl, by decide, ha.v⟩
        · cases hb
        · cases hb
        · cases hb
      have hs4 : b_S 4 (fun n => if n = 3 then (X / 5).toInt else ν3 n) [(1, 3, 0)] [.int (X / 5)] := b_S.cons (Or.inr ⟨rfl, by decide, by show (X / 5).toInt = (X / 5).toInt + 0; omega⟩) b_S.nil
      have w1 : (fun n => if n = 3 then (X / 5).toInt else ν3 n : BN) 1 = day.toInt := n1
      have w3 : (fun n => if n = 3 then (X / 5).toInt else ν3 n : BN) 3 = (X / 5).toInt := rfl
      generalize (fun n => if n = 3 then (X / 5).toInt else ν3 n : BN) = ν4 at gq hl4 hs4 w1 w3
      have cont : ∃ r, b_R 3 218 24 al [.int (X / 5)] h3 0 0 r ∧ gbP h k.toInt.toNat day.toInt film.toInt r := by
        by_cases hq : (X / 5).toInt = day.toInt
        · have g5 := gq.ad (ν' := ν4) (E' := []) (F' := []) (C' := [(0, 0, 0), (3, 1, 0), (1, 3, 0)]) (fun _ _ => rfl) trivial trivial ⟨⟨by decide, by decide, by show ν4 0 ≤ ν4 0 + 0; omega⟩, ⟨by decide, by decide, by show ν4 3 ≤ ν4 1 + 0; omega⟩, ⟨by decide, by decide, by show ν4 1 ≤ ν4 3 + 0; omega⟩, trivial⟩
          refine (b_ge.sg (S := uC1) c_hJ uO uC1C (g5.wk (by decide)) (b_al.c ?_ b_al.n)) al _ hl4 hs4
          intro ν5 h5 x5 g6
          exact gb_yes g6.2.2.2.2.1 (frm0 fr3 g6.2.2.2.2.2) rfl rfl ⟨rfl, rfl⟩ (iff.mp hq)
        · rcases Int.lt_or_gt_of_ne hq with hlt | hgt
          · have g5 := gq.ad (ν' := ν4) (E' := []) (F' := []) (C' := [(0, 0, 0), (3, 1, -1)]) (fun _ _ => rfl) trivial trivial ⟨⟨by decide, by decide, by show ν4 0 ≤ ν4 0 + 0; omega⟩, ⟨by decide, by decide, by show ν4 3 ≤ ν4 1 + (-1); omega⟩, trivial⟩
            refine (b_ge.sg (S := uC2) c_hJ uO uC2C (g5.wk (by decide)) (b_al.c ?_ b_al.n)) al _ hl4 hs4
            intro ν5 h5 x5 g6
            exact gb_no g6.2.2.2.2.1 (frm0 fr3 g6.2.2.2.2.2) rfl rfl ⟨rfl, rfl⟩ (fun q => hq (iff.mpr q))
          · have g5 := gq.ad (ν' := ν4) (E' := []) (F' := []) (C' := [(0, 0, 0), (1, 3, -1)]) (fun _ _ => rfl) trivial trivial ⟨⟨by decide, by decide, by show ν4 0 ≤ ν4 0 + 0; omega⟩, ⟨by decide, by decide, by show ν4 1 ≤ ν4 3 + (-1); omega⟩, trivial⟩
            refine (b_ge.sg (S := uC3) c_hJ uO uC3C (g5.wk (by decide)) (b_al.c ?_ b_al.n)) al _ hl4 hs4
            intro ν5 h5 x5 g6
            exact gb_no g6.2.2.2.2.1 (frm0 fr3 g6.2.2.2.2.2) rfl rfl ⟨rfl, rfl⟩ (fun q => hq (iff.mpr q))
      obtain ⟨r, r1, r2⟩ := cont
      exact ⟨r, b_R.stp uI23 rfl rfl rfl (a_by2 rfl rfl) r1, r2⟩
    · have g2 := (b_setQ g1 (n := 2) (lo := 0) (hi := 19) (by omega) (by omega)).1
      refine b_ge.sg (S := uD) c_hJ uO uDC g2 (b_al.c ?_ b_al.n)
      intro ν3 h3 x3 g3
      refine b_pe.to rfl ?_
      have fr3 := frm0 fr1 g3.2.2.2.2.2
      have n0 : ν3 0 = k.toInt := (x3.2 0 (by decide)).trans e0
      have n1 : ν3 1 = day.toInt := (x3.2 1 (by decide)).trans e1
      have n2 : ν3 2 = film.toInt := (x3.2 2 (by decide)).trans e2
      obtain ⟨X, hX, hX2⟩ := g3.rd (a := 491) (n := 0) (m := 3) (k := 0) (k' := 0) (by rfl) (j := k.toInt.toNat) (by omega)
      rw [fr3.k H c_a491 c_q79 (by decide) rfl] at hX
      refine b_ge.cv (T := (uE.2.1.2.2.1, [], [])) (bl := uE.2.1.1) (bs := []) (σ := [(1, 0, 0), (1, 1, 0), (1, 2, 0), (0, 0, 1), (1, 3, 0)]) (by decide +kernel) g3 (fun g4 => ?_)
      refine u45 H hst _ _ h3 fr3 g4 (by show ν3 0 + 0 = _; omega) (by show ν3 1 + 0 = _; omega) (by show ν3 2 + 0 = _; omega) (Nat.lt_succ_self _) ⟨X, hX, by show X.toInt ≤ ν3 3 + 0; omega, Or.inl ⟨rfl, fun t t1 t2 => ?_⟩⟩
      have t2 : t < ν3 3 + 0 := t2
      omega
  obtain ⟨r, r1, x, h', e, x1, x2, x3, x4⟩ : ∃ r, b_lim 4 218 [.ref 365, .int k, .int day, .int film] h = some r ∧ gbP h k.toInt.toNat day.toInt film.toInt r := by
    refine b_ge.lim (N := 3) (ν := ν) (bas := [(2, 365, 0), (1, 0, 0), (1, 1, 0), (1, 2, 0)]) (by decide +kernel) (b_S.cons (Or.inl ⟨rfl, rfl⟩) (b_S.cons (Or.inr ⟨rfl, by decide, by show _ = ν 0 + 0; omega⟩) (b_S.cons (Or.inr ⟨rfl, by decide, by show _ = ν 1 + 0; omega⟩) (b_S.cons (Or.inr ⟨rfl, by decide, by show _ = ν 2 + 0; omega⟩) b_S.nil)))) ?_
    obtain ⟨gg, q1, q2, q3⟩ := H.rdI (j := k.toInt.toNat) (lo := 0) (hi := 150) c_a492 c_q80 (by decide) (by show k.toInt.toNat < 60; omega) rfl
    have mk : ∀ lo hi : Int, lo ≤ gg.toInt → gg.toInt ≤ hi → b_G c_K (b_nu ν 3 gg.toInt) h h ([(0, 0, 59), (0, -1, 9), (0, -1, 19), (0, lo, hi)], [((2, 492, 0), (1, 0, 0), (1, 3, 0))], [], [], []) := fun lo hi l1 l2 => (g0.rdI (base := (2, 492, 0)) (slot := (1, 0, 0)) q1 (Or.inl ⟨rfl, rfl⟩) (Or.inr ⟨rfl, by decide, by show _ = ν 0 + 0; omega⟩) l1 l2).1
    have hx : ∀ n, n < 3 → b_nu ν 3 gg.toInt n = ν n := fun n hn => if_neg (Nat.ne_of_lt hn)
    have z0 : b_nu ν 3 gg.toInt 0 = k.toInt := (hx 0 (by decide)).trans v0
    have z1 : b_nu ν 3 gg.toInt 1 = day.toInt := (hx 1 (by decide)).trans v1
    have z2 : b_nu ν 3 gg.toInt 2 = film.toInt := (hx 2 (by decide)).trans v2
    refine b_ge.more (N' := 4) (ν' := b_nu ν 3 gg.toInt) b_nu_ext ?_
    have noST : gg.toInt ≠ 116 → gg.toInt ≠ 0 → ¬ GB h k.toInt.toNat day.toInt film.toInt := fun n1 n2 q => by
      obtain ⟨⟨g', p1, p2⟩, -⟩ := q
      rw [q1] at p1
      cases p1
      rcases p2 with p2 | p2
      · exact n1 p2
      · exact n2 p2.1
    by_cases c0 : gg.toInt = 0
    · refine b_ge.sg (S := uA4) c_hJ uO uA4C (mk 0 0 (by omega) (by omega)) (b_al.c ?_ (b_al.c ?_ (b_al.c ?_ b_al.n)))
      · intro ν1 h1 x1 g1
        have fr1 := g1.2.2.2.2.2
        have m0 : ν1 0 = k.toInt := (x1.2 0 (by decide)).trans z0
        have c1 : ν1 4 ≤ ν1 5 + 0 := g1.co (by decide)
        obtain ⟨x, x2, x3⟩ := g1.rd (a := 491) (n := 0) (m := 4) (k := 0) (k' := 0) (by rfl) (j := k.toInt.toNat) (by omega)
        obtain ⟨y, y2, y3⟩ := g1.rdF (a := 365) (j := 54) (m := 5) (k' := 0) (by rfl)
        rw [fr1.k H c_a491 c_q79 (by decide) rfl] at x2
        rw [fr1.kF H c_a365 c_q50 rfl rfl] at y2
        refine gb_no g1.2.2.2.2.1 fr1 rfl rfl ⟨rfl, rfl⟩ (fun q => ?_)
        obtain ⟨⟨g', p1, p2⟩, -⟩ := q
        rw [q1] at p1
        cases p1
        rcases p2 with p2 | ⟨-, x', y', p3, p4, p5⟩
        · omega
        · rw [x2] at p3
          cases p3
          rw [y2] at p4
          cases p4
          omega
      · intro ν1 h1 x1 g1
        have fr1 := g1.2.2.2.2.2
        have m0 : ν1 0 = k.toInt := (x1.2 0 (by decide)).trans z0
        have c1 : ν1 4 ≤ ν1 5 + (-1) := g1.co (by decide)
        obtain ⟨x, x2, x3⟩ := g1.rd (a := 491) (n := 0) (m := 4) (k := 0) (k' := 0) (by rfl) (j := k.toInt.toNat) (by omega)
        obtain ⟨y, y2, y3⟩ := g1.rdF (a := 365) (j := 54) (m := 5) (k' := 0) (by rfl)
        rw [fr1.k H c_a491 c_q79 (by decide) rfl] at x2
        rw [fr1.kF H c_a365 c_q50 rfl rfl] at y2
        refine gb_no g1.2.2.2.2.1 fr1 rfl rfl ⟨rfl, rfl⟩ (fun q => ?_)
        obtain ⟨⟨g', p1, p2⟩, -⟩ := q
        rw [q1] at p1
        cases p1
        rcases p2 with p2 | ⟨-, x', y', p3, p4, p5⟩
        · omega
        · rw [x2] at p3
          cases p3
          rw [y2] at p4
          cases p4
          omega
      · intro ν1 h1 x1 g1
        refine b_pe.to rfl ?_
        have fr1 := g1.2.2.2.2.2
        have m0 : ν1 0 = k.toInt := (x1.2 0 (by decide)).trans z0
        have m1 : ν1 1 = day.toInt := (x1.2 1 (by decide)).trans z1
        have m2 : ν1 2 = film.toInt := (x1.2 2 (by decide)).trans z2
        have c1 : ν1 5 ≤ ν1 4 + (-1) := g1.co (by decide)
        obtain ⟨x, x2, x3⟩ := g1.rd (a := 491) (n := 0) (m := 4) (k := 0) (k' := 0) (by rfl) (j := k.toInt.toNat) (by omega)
        obtain ⟨y, y2, y3⟩ := g1.rdF (a := 365) (j := 54) (m := 5) (k' := 0) (by rfl)
        rw [fr1.k H c_a491 c_q79 (by decide) rfl] at x2
        rw [fr1.kF H c_a365 c_q50 rfl rfl] at y2
        refine b_ge.cv (T := ([(0, 0, 59), (0, -1, 9), (0, -1, 19)], [], [])) (bl := [some (2, 365, 0), some (1, 0, 0), some (1, 1, 0), some (1, 2, 0), none, none]) (bs := []) (σ := [(1, 0, 0), (1, 1, 0), (1, 2, 0)]) (by decide +kernel) g1 (fun g2 => ?_)
        exact u12 _ h1 fr1 g2 (by show ν1 0 + 0 = _; omega) (by show ν1 1 + 0 = _; omega) (by show ν1 2 + 0 = _; omega) ⟨gg, q1, Or.inr ⟨c0, x, y, x2, y2, by omega⟩⟩
    · by_cases c116 : gg.toInt = 116
      · refine b_ge.sg (S := uA3) c_hJ uO uA3C (mk 116 116 (by omega) (by omega)) (b_al.c ?_ b_al.n)
        intro ν1 h1 x1 g1
        refine b_pe.to rfl ?_
        have fr1 := g1.2.2.2.2.2
        have m0 : ν1 0 = k.toInt := (x1.2 0 (by decide)).trans z0
        have m1 : ν1 1 = day.toInt := (x1.2 1 (by decide)).trans z1
        have m2 : ν1 2 = film.toInt := (x1.2 2 (by decide)).trans z2
        refine b_ge.cv (T := ([(0, 0, 59), (0, -1, 9), (0, -1, 19)], [], [])) (bl := [some (2, 365, 0), some (1, 0, 0), some (1, 1, 0), some (1, 2, 0), none, none]) (bs := []) (σ := [(1, 0, 0), (1, 1, 0), (1, 2, 0)]) (by decide +kernel) g1 (fun g2 => ?_)
        exact u12 _ h1 fr1 g2 (by show ν1 0 + 0 = _; omega) (by show ν1 1 + 0 = _; omega) (by show ν1 2 + 0 = _; omega) ⟨gg, q1, Or.inl c116⟩
      · by_cases clt : gg.toInt < 116
        · refine b_ge.sg (S := uA1) c_hJ uO uA1C (mk 1 115 (by omega) (by omega)) (b_al.c ?_ b_al.n)
          intro ν1 h1 x1 g1
          exact gb_no g1.2.2.2.2.1 g1.2.2.2.2.2 rfl rfl ⟨rfl, rfl⟩ (noST c116 c0)
        · refine b_ge.sg (S := uA2) c_hJ uO uA2C (mk 117 150 (by omega) (by omega)) (b_al.c ?_ b_al.n)
          intro ν1 h1 x1 g1
          exact gb_no g1.2.2.2.2.1 g1.2.2.2.2.2 rfl rfl ⟨rfl, rfl⟩ (noST c116 c0)
  subst e
  exact ⟨x, h', r1, x1, x2, x3, x4⟩
