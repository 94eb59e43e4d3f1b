/-! The law's loop: turn by turn -/
theorem c_turn (hv : ∀ q ∈ c_lawL, ∀ R ∈ q.2, b_valid c_K R) : ∀ (n : Nat) (ν : BN) (al : AL) (h : AH) (mc ms : Nat), (ν 1 - ν 0 + 6).toNat < n → b_L c_E28.length ν c_bl28 al → b_G c_K ν h h (c_E28, c_F28, [], [], []) → ∃ r, b_R 12 300 28 al [] h mc ms r ∧ (∃ x : Int32, r.1 = .inl (some (.int x))) ∧ r.2.2.1 ≤ mc + 2 * n ∧ r.2.2.2 ≤ ms + 66 * n
  | 0, ν, al, h, mc, ms, hn, _, _ => absurd hn (Nat.not_lt_zero _)
  | n + 1, ν, al, h, mc, ms, hn, hl, g => by
    have hB := c_lawB_ok
    unfold c_lawB at hB
    rw [Bool.and_eq_true] at hB
    obtain ⟨B1, B2⟩ := hB
    obtain ⟨p, p1, ν1, h1, x1, g1, q1⟩ := b_sgc_ok (S := c_law28) (mc := mc) (ms := ms) c_hJ (b_orc_ok c_hJ (tab := []) (fun _ h => absurd h List.not_mem_nil) 3000 12) c_law28C hl b_S.nil g
    have k1 := List.all_eq_true.mp B1 p p1
    unfold b_sgq at q1
    cases hp : p.1 with
    | inl k =>
      rw [hp] at k1 q1
      dsimp only at k1 q1
      rw [Bool.and_eq_true, decide_eq_true_eq, decide_eq_true_eq] at k1
      obtain ⟨r, r1, r2, r3, r4⟩ := q1
      rw [k1.1] at r2
      rw [k1.2] at r4
      refine ⟨r, r1, ?_, by rw [r4]; show mc + 0 ≤ _; omega, by rw [r4]; show ms + 0 ≤ _; omega⟩
      cases hr : r.1 with
      | inr k' => rw [hr] at r2; exact r2.elim
      | inl v =>
        rw [hr] at r2
        cases v with
        | none => exact r2.elim
        | some v =>
          obtain ⟨x, rfl, hx⟩ := b_v.int (b := (0, 0, 1)) r2 (by decide)
          exact ⟨x, rfl⟩
    | inr z =>
      obtain ⟨pc, blz, bsz⟩ := z
      rw [hp] at k1 q1
      dsimp only at k1 q1
      simp only [Bool.and_eq_true, decide_eq_true_eq] at k1
      obtain ⟨⟨a1, a2, a3, a4⟩, ⟨a5, a6⟩, a7⟩ := k1
      obtain ⟨q, b1, b2⟩ := List.any_eq_true.mp a7
      simp only [Bool.and_eq_true, Bool.or_eq_true, decide_eq_true_eq] at b2
      obtain ⟨b2, b3, b4, b5, b6, b7⟩ := b2
      obtain ⟨al1, st1, d1, d2, d3⟩ := q1
      subst a5
      subst a6
      obtain rfl := d2.inv0
      have eF := c_eqF_ok a2
      have eF2 := c_eqF_ok b6
      have lE : (c_law28.2.1.2.2.1 ++ p.2.1.1).length = c_E28.length := by rw [a1, List.append_nil]; rfl
      have g1' : b_G c_K ν1 h1 h1 (q.1.2.1.2.2.1, q.1.2.1.2.2.2.1, q.1.2.1.2.2.2.2, [], []) := by
        rw [b5, eF2]
        rw [a1, List.append_nil, eF, a3] at g1
        refine ⟨g1.1, g1.2.1, fun c hc => ?_, (fun o ho => by cases ho), g1.2.2.2.2.1, b_frm.rf⟩
        have hc : c ∈ q.1.2.1.2.2.2.2 := hc
        rcases b7 with b7 | b7 <;> rw [b7] at hc
        · exact g1.2.2.1 c hc
        · rcases List.mem_cons.mp hc with e | hc
          · rw [e]
            exact ⟨show 0 < c_E28.length by decide, show 0 < c_E28.length by decide, show ν1 0 ≤ ν1 0 + 1 by omega⟩
          · exact g1.2.2.1 c hc
      have d1' : b_L q.1.2.1.2.2.1.length ν1 q.1.2.1.1 al1 := by
        rw [b5, b3, ← lE]; exact d1
      have ok := c_lawOK q b1
      obtain ⟨p', p1', ν2, h2, x2, g2, q2⟩ := b_sgc_ok (S := q.1) (mc := mc) (ms := ms) (st := []) c_hJ (b_orc_ok c_hJ (hv q b1) 3000 12) ok d1' (by rw [b4]; exact b_S.nil) g1'
      have k2 := List.all_eq_true.mp (List.all_eq_true.mp B2 q b1) p' p1'
      unfold b_sgq at q2
      cases hp' : p'.1 with
      | inl k =>
        rw [hp'] at k2 q2
        dsimp only at k2 q2
        simp only [Bool.and_eq_true, decide_eq_true_eq] at k2
        obtain ⟨k2, k3, k4⟩ := k2
        obtain ⟨r, r1, r2, r3, r4⟩ := q2
        rw [k2] at r2
        have cz : p.2.2 = (0, 0) := a4
        rw [b2] at r1
        have d3' := d3 r (by rw [cz]; exact r1)
        refine ⟨r, d3', ?_, by rw [r4]; show mc + p'.2.2.1 ≤ _; omega, by rw [r4]; show ms + p'.2.2.2 ≤ _; omega⟩
        cases hr : r.1 with
        | inr k' => rw [hr] at r2; exact r2.elim
        | inl v =>
          rw [hr] at r2
          cases v with
          | none => exact r2.elim
          | some v =>
            obtain ⟨x, rfl, hx⟩ := b_v.int (b := (0, 0, 0)) r2 (by decide)
            exact ⟨x, rfl⟩
      | inr z =>
        obtain ⟨pc', bl', bs'⟩ := z
        rw [hp'] at k2 q2
        dsimp only at k2 q2
        simp only [Bool.and_eq_true, decide_eq_true_eq] at k2
        obtain ⟨c1, c2, c3, c4, c5, c6, c7, c8⟩ := k2
        obtain ⟨al2, st2, e1, e2, e3⟩ := q2
        subst c1
        subst c4
        obtain rfl := e2.inv0
        rw [b5] at g2 e1 x2
        have c8' : b_inst c_K c_σ28 (c_E28x, c_F28, []) (c_E28 ++ p'.2.1.1, p'.2.1.2.1, p'.2.1.2.2, [], q.1.2.2.1) = true := c8
        obtain ⟨i1, i2, i3, i4, i5⟩ := b_inst_ok g2 c8'
        have l2 := b_locs_ok (ν := ν2) c7 e1
        have gx : b_G c_K (b_vT c_σ28 ν2) h2 h2 (c_E28x, c_F28, [], [], []) := ⟨i3, i4, i5, (fun o ho => by cases ho), g2.2.2.2.2.1, b_frm.rf⟩
        have v0 : b_vT c_σ28 ν2 0 = ν2 0 + 6 := rfl
        have v1 : b_vT c_σ28 ν2 1 = ν2 1 := by show ν2 1 + 0 = ν2 1; omega
        have hC : ν2 0 ≤ ν2 1 + (-6) := by
          have := g2.2.2.1 (0, 1, -6) (by rw [c5]; exact List.mem_cons_self)
          exact this.2.2
        have s1 : 0 ≤ ν2 1 ∧ ν2 1 ≤ 3072 := by
          have := g2.1 1 (0, 0, 3072) (by rw [List.getElem?_append_left (by decide)]; rfl)
          unfold b_q at this
          rw [if_pos rfl] at this
          exact this
        have s0 : 0 ≤ ν2 0 ∧ ν2 0 ≤ 3072 := by
          have := g2.1 0 (0, 0, 3072) (by rw [List.getElem?_append_left (by decide)]; rfl)
          unfold b_q at this
          rw [if_pos rfl] at this
          exact this
        obtain ⟨gz, -⟩ := b_setQ gx (n := 0) (lo := 0) (hi := 3072) (by rw [v0]; omega) (by rw [v0]; omega)
        have n0 : ν2 0 = ν 0 := (x2.2 0 (by decide)).trans (x1.2 0 (by decide))
        have n1 : ν2 1 = ν 1 := (x2.2 1 (by decide)).trans (x1.2 1 (by decide))
        obtain ⟨r, r1, r2, r3, r4⟩ := c_turn hv n (b_vT c_σ28 ν2) al2 h2 (mc + p'.2.2.1) (ms + p'.2.2.2) (by rw [v0, v1]; omega) l2 gz
        rw [b2] at e3
        have f1 := e3 r r1
        have cz : p.2.2 = (0, 0) := a4
        have d3' := d3 r (by rw [cz]; exact f1)
        exact ⟨r, d3', r2, by omega, by omega⟩
