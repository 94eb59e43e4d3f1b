/-! What the calls about rights come to (wip/g3/rightsgoals.py) -/
theorem b_G.nil {K : BH} {ν : BN} {h : AH} (H : b_H K h) : b_G K ν h h ([], [], [], [], []) := ⟨(fun n q hq => by simp at hq), (fun f hf => by cases hf), (fun f hf => by cases hf), (fun f hf => by cases hf), H, b_frm.rf⟩
theorem b_fin.int {N : Nat} {ν : BN} {b : BV} {r : (Option Value) ⊕ Nat} (h : b_fin N ν (.inl (some b)) r) (hk : b.1 < 2) : ∃ x : Int32, r = .inl (some (.int x)) ∧ x.toInt = b_vl ν b := by
  cases r with
  | inr k => exact h.elim
  | inl v =>
    cases v with
    | none => exact h.elim
    | some v =>
      obtain ⟨x, rfl, hx⟩ := b_v.int (b := b) h hk
      exact ⟨x, rfl, hx.vl⟩
/-- a deal that lies over what is told -/
def c_ov (h : AH) (f l a b : Int) (j : Nat) : Prop := j < 40 ∧ (j : Int) < c_I h 271 5 ∧ c_I h 272 j = f ∧ c_I h 273 j = l ∧ c_I h 274 j ≤ b ∧ a ≤ c_I h 275 j
theorem sp_sold0 {h : AH} (H : b_H c_K h) {f l a b : Int32} (f1 : 0 ≤ f.toInt) (f2 : f.toInt ≤ 19) (l1 : 0 ≤ l.toInt) (l2 : l.toInt ≤ 9) (a1 : 0 ≤ a.toInt) (a2 : a.toInt ≤ 99) (b1 : 0 ≤ b.toInt) (b2 : b.toInt ≤ 99) (no : ∀ j, ¬ c_ov h f.toInt l.toInt a.toInt b.toInt j) : ∃ r, b_lim 6 72 [.ref 271, .int f, .int l, .int a, .int b] h = some r ∧ r.1 = .inl (some (.int 0)) ∧ b_H c_K r.2.1 ∧ b_frm c_K [] h r.2.1 ∧ r.2.2 = (0, 0) := by
  obtain ⟨n, en, n1, n2⟩ := H.rdI (a := 271) (j := 5) (lo := 0) (hi := 40) c_ra271 c_rq41 (by decide) (by decide) rfl
  generalize hν : (fun n_ => match n_ with
    | 0 => f.toInt
    | 1 => l.toInt
    | 2 => a.toInt
    | 3 => b.toInt
    | 4 => n.toInt
    | n_ => (fun _ => 0) n_ : BN) = ν2
  have u0 : ν2 0 = f.toInt := by subst hν; rfl
  have u1 : ν2 1 = l.toInt := by subst hν; rfl
  have u2 : ν2 2 = a.toInt := by subst hν; rfl
  have u3 : ν2 3 = b.toInt := by subst hν; rfl
  have u4 : ν2 4 = n.toInt := by subst hν; rfl
  have g2 := (b_G.nil H (ν := ν2)).ad (ν' := ν2) (E' := [(0, 0, 19), (0, 0, 9), (0, 0, 99), (0, 0, 99), (0, 0, 40)]) (F' := [((2, 271, 0), (0, 0, 5), (1, 4, 0))]) (C' := []) (fun n hn => absurd hn (Nat.not_lt_zero n))
    ⟨(by show b_q _ _ (ν2 0); rw [u0]; exact b_q.i (by omega) (by omega)), (by show b_q _ _ (ν2 1); rw [u1]; exact b_q.i (by omega) (by omega)), (by show b_q _ _ (ν2 2); rw [u2]; exact b_q.i (by omega) (by omega)), (by show b_q _ _ (ν2 3); rw [u3]; exact b_q.i (by omega) (by omega)), (by show b_q _ _ (ν2 4); rw [u4]; exact b_q.i (by omega) (by omega)), trivial⟩
    ⟨b_fa.mk en (Or.inl ⟨rfl, rfl⟩) (Or.inl ⟨rfl, rfl⟩) (Or.inr ⟨rfl, by decide, by show _ = ν2 4 + 0; omega⟩), trivial⟩
    trivial
  obtain ⟨r, r1, p, p1, ν', x', fin, g', cst⟩ := c_v72n ν2 h [.ref 271, .int f, .int l, .int a, .int b] g2 (b_S.cons (Or.inl ⟨rfl, rfl⟩) (b_S.cons (Or.inr ⟨rfl, by decide, by show _ = ν2 0 + 0; omega⟩) (b_S.cons (Or.inr ⟨rfl, by decide, by show _ = ν2 1 + 0; omega⟩) (b_S.cons (Or.inr ⟨rfl, by decide, by show _ = ν2 2 + 0; omega⟩) (b_S.cons (Or.inr ⟨rfl, by decide, by show _ = ν2 3 + 0; omega⟩) b_S.nil)))))
  have p1 : p ∈ ([(.inl (some (0, 0, 0)), ([], [], []), (0, 0)), (.inl (some (0, 0, 1)), ([(0, 0, 39), (0, 0, 19), (0, 0, 9), (0, 0, 99), (0, 0, 99)], [((2, 272, 0), (1, 5, 0), (1, 6, 0)), ((2, 273, 0), (1, 5, 0), (1, 7, 0)), ((2, 274, 0), (1, 5, 0), (1, 8, 0)), ((2, 275, 0), (1, 5, 0), (1, 9, 0))], [(5, 4, (-1)), (6, 0, 0), (0, 6, 0), (7, 1, 0), (1, 7, 0), (8, 3, 0), (2, 9, 0)]), (0, 0))] : List BPo) := p1
  simp only [List.mem_cons, List.not_mem_nil, or_false] at p1
  rcases p1 with rfl | rfl
  · obtain ⟨x, e, hx⟩ := fin.int (by decide)
    have : x = 0 := Int32.toInt_inj.mp (hx.trans (by show (0 : Int) = Int32.toInt 0; decide))
    rw [this] at e
    exact ⟨r, r1, e, g'.2.2.2.2.1, g'.2.2.2.2.2, cst⟩
  · exfalso
    have iv := g'.iv 5 (lo := 0) (hi := 39) rfl
    have k5_4 : ν' 5 ≤ ν' 4 + (-1) := g'.co (a := 5) (b := 4) (c := (-1)) (by decide)
    have k6_0 : ν' 6 ≤ ν' 0 + 0 := g'.co (a := 6) (b := 0) (c := 0) (by decide)
    have k0_6 : ν' 0 ≤ ν' 6 + 0 := g'.co (a := 0) (b := 6) (c := 0) (by decide)
    have k7_1 : ν' 7 ≤ ν' 1 + 0 := g'.co (a := 7) (b := 1) (c := 0) (by decide)
    have k1_7 : ν' 1 ≤ ν' 7 + 0 := g'.co (a := 1) (b := 7) (c := 0) (by decide)
    have k8_3 : ν' 8 ≤ ν' 3 + 0 := g'.co (a := 8) (b := 3) (c := 0) (by decide)
    have k2_9 : ν' 2 ≤ ν' 9 + 0 := g'.co (a := 2) (b := 9) (c := 0) (by decide)
    have y0 : ν' 0 = ν2 0 := x'.2 0 (by decide)
    have y1 : ν' 1 = ν2 1 := x'.2 1 (by decide)
    have y2 : ν' 2 = ν2 2 := x'.2 2 (by decide)
    have y3 : ν' 3 = ν2 3 := x'.2 3 (by decide)
    have y4 : ν' 4 = ν2 4 := x'.2 4 (by decide)
    have F := g'.2.2.2.2.2
    have d0 : c_I r.2.1 272 (ν' 5).toNat = ν' 6 + 0 := g'.rI (base := (2, 272, 0)) (slot := (1, 5, 0)) (val := (1, 6, 0)) (by rfl) (by decide) (by decide) rfl (by show (((ν' 5).toNat : Nat) : Int) = ν' 5 + 0; omega)
    rw [c_I_cg (F.k H c_ra272 c_rq42 (by decide) (by rfl) _)] at d0
    have d1 : c_I r.2.1 273 (ν' 5).toNat = ν' 7 + 0 := g'.rI (base := (2, 273, 0)) (slot := (1, 5, 0)) (val := (1, 7, 0)) (by rfl) (by decide) (by decide) rfl (by show (((ν' 5).toNat : Nat) : Int) = ν' 5 + 0; omega)
    rw [c_I_cg (F.k H c_ra273 c_rq43 (by decide) (by rfl) _)] at d1
    have d2 : c_I r.2.1 274 (ν' 5).toNat = ν' 8 + 0 := g'.rI (base := (2, 274, 0)) (slot := (1, 5, 0)) (val := (1, 8, 0)) (by rfl) (by decide) (by decide) rfl (by show (((ν' 5).toNat : Nat) : Int) = ν' 5 + 0; omega)
    rw [c_I_cg (F.k H c_ra274 c_rq44 (by decide) (by rfl) _)] at d2
    have d3 : c_I r.2.1 275 (ν' 5).toNat = ν' 9 + 0 := g'.rI (base := (2, 275, 0)) (slot := (1, 5, 0)) (val := (1, 9, 0)) (by rfl) (by decide) (by decide) rfl (by show (((ν' 5).toNat : Nat) : Int) = ν' 5 + 0; omega)
    rw [c_I_cg (F.k H c_ra275 c_rq45 (by decide) (by rfl) _)] at d3
    refine no (ν' 5).toNat ⟨by omega, ?_, by omega, by omega, by omega, by omega⟩
    rw [c_I_of en]
    omega
theorem sp_sold1 {h : AH} (H : b_H c_K h) {f l a b : Int32} (f1 : 0 ≤ f.toInt) (f2 : f.toInt ≤ 19) (l1 : 0 ≤ l.toInt) (l2 : l.toInt ≤ 9) (a1 : 0 ≤ a.toInt) (a2 : a.toInt ≤ 99) (b1 : 0 ≤ b.toInt) (b2 : b.toInt ≤ 99) {j : Nat} (o : c_ov h f.toInt l.toInt a.toInt b.toInt j) : ∃ r, b_lim 6 72 [.ref 271, .int f, .int l, .int a, .int b] h = some r ∧ r.1 = .inl (some (.int 1)) ∧ b_H c_K r.2.1 ∧ b_frm c_K [] h r.2.1 ∧ r.2.2 = (0, 0) := by
  obtain ⟨o1, o2, o3, o4, o5, o6⟩ := o
  obtain ⟨n, en, n1, n2⟩ := H.rdI (a := 271) (j := 5) (lo := 0) (hi := 40) c_ra271 c_rq41 (by decide) (by decide) rfl
  rw [c_I_of en] at o2
  obtain ⟨s, es, s1, s2⟩ := H.rdI (a := 272) (j := j) (lo := 0) (hi := 19) c_ra272 c_rq42 (by decide) o1 rfl
  rw [c_I_of es] at o3
  obtain ⟨t, et, t1, t2⟩ := H.rdI (a := 273) (j := j) (lo := 0) (hi := 9) c_ra273 c_rq43 (by decide) o1 rfl
  rw [c_I_of et] at o4
  obtain ⟨p, ep, p1, p2⟩ := H.rdI (a := 274) (j := j) (lo := 0) (hi := 99) c_ra274 c_rq44 (by decide) o1 rfl
  rw [c_I_of ep] at o5
  obtain ⟨q, eq, q1, q2⟩ := H.rdI (a := 275) (j := j) (lo := 0) (hi := 99) c_ra275 c_rq45 (by decide) o1 rfl
  rw [c_I_of eq] at o6
  generalize hν : (fun n_ => match n_ with
    | 0 => f.toInt
    | 1 => l.toInt
    | 2 => a.toInt
    | 3 => b.toInt
    | 4 => n.toInt
    | 5 => (j : Int)
    | 6 => p.toInt
    | 7 => q.toInt
    | n_ => (fun _ => 0) n_ : BN) = ν2
  have u0 : ν2 0 = f.toInt := by subst hν; rfl
  have u1 : ν2 1 = l.toInt := by subst hν; rfl
  have u2 : ν2 2 = a.toInt := by subst hν; rfl
  have u3 : ν2 3 = b.toInt := by subst hν; rfl
  have u4 : ν2 4 = n.toInt := by subst hν; rfl
  have u5 : ν2 5 = (j : Int) := by subst hν; rfl
  have u6 : ν2 6 = p.toInt := by subst hν; rfl
  have u7 : ν2 7 = q.toInt := by subst hν; rfl
  have g2 := (b_G.nil H (ν := ν2)).ad (ν' := ν2) (E' := [(0, 0, 19), (0, 0, 9), (0, 0, 99), (0, 0, 99), (0, 1, 40), (0, 0, 39), (0, 0, 99), (0, 0, 99)]) (F' := [((2, 271, 0), (0, 0, 5), (1, 4, 0)), ((2, 272, 0), (1, 5, 0), (1, 0, 0)), ((2, 273, 0), (1, 5, 0), (1, 1, 0)), ((2, 274, 0), (1, 5, 0), (1, 6, 0)), ((2, 275, 0), (1, 5, 0), (1, 7, 0))]) (C' := [(5, 4, (-1)), (6, 3, 0), (2, 7, 0)]) (fun n hn => absurd hn (Nat.not_lt_zero n))
    ⟨(by show b_q _ _ (ν2 0); rw [u0]; exact b_q.i (by omega) (by omega)), (by show b_q _ _ (ν2 1); rw [u1]; exact b_q.i (by omega) (by omega)), (by show b_q _ _ (ν2 2); rw [u2]; exact b_q.i (by omega) (by omega)), (by show b_q _ _ (ν2 3); rw [u3]; exact b_q.i (by omega) (by omega)), (by show b_q _ _ (ν2 4); rw [u4]; exact b_q.i (by omega) (by omega)), (by show b_q _ _ (ν2 5); rw [u5]; exact b_q.i (by omega) (by omega)), (by show b_q _ _ (ν2 6); rw [u6]; exact b_q.i (by omega) (by omega)), (by show b_q _ _ (ν2 7); rw [u7]; exact b_q.i (by omega) (by omega)), trivial⟩
    ⟨b_fa.mk en (Or.inl ⟨rfl, rfl⟩) (Or.inl ⟨rfl, rfl⟩) (Or.inr ⟨rfl, by decide, by show _ = ν2 4 + 0; omega⟩), b_fa.mk es (Or.inl ⟨rfl, rfl⟩) (Or.inr ⟨rfl, by decide, by show _ = ν2 5 + 0; omega⟩) (Or.inr ⟨rfl, by decide, by show _ = ν2 0 + 0; omega⟩), b_fa.mk et (Or.inl ⟨rfl, rfl⟩) (Or.inr ⟨rfl, by decide, by show _ = ν2 5 + 0; omega⟩) (Or.inr ⟨rfl, by decide, by show _ = ν2 1 + 0; omega⟩), b_fa.mk ep (Or.inl ⟨rfl, rfl⟩) (Or.inr ⟨rfl, by decide, by show _ = ν2 5 + 0; omega⟩) (Or.inr ⟨rfl, by decide, by show _ = ν2 6 + 0; omega⟩), b_fa.mk eq (Or.inl ⟨rfl, rfl⟩) (Or.inr ⟨rfl, by decide, by show _ = ν2 5 + 0; omega⟩) (Or.inr ⟨rfl, by decide, by show _ = ν2 7 + 0; omega⟩), trivial⟩
    ⟨⟨by decide, by decide, by show ν2 5 ≤ ν2 4 + (-1); omega⟩, ⟨by decide, by decide, by show ν2 6 ≤ ν2 3 + 0; omega⟩, ⟨by decide, by decide, by show ν2 2 ≤ ν2 7 + 0; omega⟩, trivial⟩
  obtain ⟨r, r1, p', p1, ν', x', fin, g', cst⟩ := c_v72w ν2 h [.ref 271, .int f, .int l, .int a, .int b] g2 (b_S.cons (Or.inl ⟨rfl, rfl⟩) (b_S.cons (Or.inr ⟨rfl, by decide, by show _ = ν2 0 + 0; omega⟩) (b_S.cons (Or.inr ⟨rfl, by decide, by show _ = ν2 1 + 0; omega⟩) (b_S.cons (Or.inr ⟨rfl, by decide, by show _ = ν2 2 + 0; omega⟩) (b_S.cons (Or.inr ⟨rfl, by decide, by show _ = ν2 3 + 0; omega⟩) b_S.nil)))))
  have p1 : p' ∈ ([(.inl (some (0, 0, 1)), ([], [], []), (0, 0))] : List BPo) := p1
  rw [List.mem_singleton.mp p1] at fin g' cst
  obtain ⟨x, e, hx⟩ := fin.int (by decide)
  have : x = 1 := Int32.toInt_inj.mp (hx.trans (by show (1 : Int) = Int32.toInt 1; decide))
  rw [this] at e
  exact ⟨r, r1, e, g'.2.2.2.2.1, g'.2.2.2.2.2, cst⟩
