/-- the model's deal that lies over what is told -/
def c_ovM (h : AH) (f l a b : Int) (j : Nat) : Prop := j < 40 ∧ (j : Int) < c_I h 365 52 ∧ c_I h (727 + j) 0 = f ∧ c_I h (727 + j) 1 = l ∧ c_I h (727 + j) 2 ≤ b ∧ a ≤ c_I h (727 + j) 3
theorem sp_buy0 {h : AH} (H : b_H c_K h) {f l a : Int32} (f1 : 0 ≤ f.toInt) (f2 : f.toInt ≤ 19) (l1 : 0 ≤ l.toInt) (l2 : l.toInt ≤ 9) (a1 : 0 ≤ a.toInt) (a2 : a.toInt ≤ 99) (no : ∀ j, ¬ c_ov h f.toInt l.toInt a.toInt a.toInt j) : ∃ r, b_lim 6 73 [.ref 271, .int f, .int l, .int a] h = some r ∧ (∃ x, r.1 = .inl (some (.int x)) ∧ x.toInt = -1) ∧ b_H c_K r.2.1 ∧ b_frm c_K [] h r.2.1 ∧ r.2.2 = (0, 0) := by
  obtain ⟨n, en, n1, n2⟩ := H.rdI (a := 271) (j := 5) (lo := 0) (hi := 40) c_ra271 c_rq41 (by decide) (by decide) rfl
  generalize hν : (fun n_ => match n_ with
    | 0 => f.toInt
    | 1 => l.toInt
    | 2 => a.toInt
    | 3 => n.toInt
    | n_ => (fun _ => 0) n_ : BN) = ν2
  have u0 : ν2 0 = f.toInt := by subst hν; rfl
  have u1 : ν2 1 = l.toInt := by subst hν; rfl
  have u2 : ν2 2 = a.toInt := by subst hν; rfl
  have u3 : ν2 3 = n.toInt := by subst hν; rfl
  have g2 := (b_G.nil H (ν := ν2)).ad (ν' := ν2) (E' := [(0, 0, 19), (0, 0, 9), (0, 0, 99), (0, 0, 40)]) (F' := [((2, 271, 0), (0, 0, 5), (1, 3, 0))]) (C' := []) (fun n hn => absurd hn (Nat.not_lt_zero n))
    ⟨(by show b_q _ _ (ν2 0); rw [u0]; exact b_q.i (by omega) (by omega)), (by show b_q _ _ (ν2 1); rw [u1]; exact b_q.i (by omega) (by omega)), (by show b_q _ _ (ν2 2); rw [u2]; exact b_q.i (by omega) (by omega)), (by show b_q _ _ (ν2 3); rw [u3]; exact b_q.i (by omega) (by omega)), trivial⟩
    ⟨b_fa.mk en (Or.inl ⟨rfl, rfl⟩) (Or.inl ⟨rfl, rfl⟩) (Or.inr ⟨rfl, by decide, by show _ = ν2 3 + 0; omega⟩), trivial⟩
    trivial
  obtain ⟨r, r1, p, p1, ν', x', fin, g', cst⟩ := c_v73n ν2 h [.ref 271, .int f, .int l, .int a] g2 (b_S.cons (Or.inl ⟨rfl, rfl⟩) (b_S.cons (Or.inr ⟨rfl, by decide, by show _ = ν2 0 + 0; omega⟩) (b_S.cons (Or.inr ⟨rfl, by decide, by show _ = ν2 1 + 0; omega⟩) (b_S.cons (Or.inr ⟨rfl, by decide, by show _ = ν2 2 + 0; omega⟩) b_S.nil))))
  have p1 : p ∈ ([(.inl (some (0, 0, (-1))), ([], [], []), (0, 0)), (.inl (some (1, 4, 0)), ([(0, 0, 9), (0, 0, 39), (0, 0, 19), (0, 0, 9), (0, 0, 99), (0, 0, 99)], [((2, 276, 0), (1, 5, 0), (1, 4, 0)), ((2, 272, 0), (1, 5, 0), (1, 6, 0)), ((2, 273, 0), (1, 5, 0), (1, 7, 0)), ((2, 274, 0), (1, 5, 0), (1, 8, 0)), ((2, 275, 0), (1, 5, 0), (1, 9, 0))], [(5, 3, (-1)), (6, 0, 0), (0, 6, 0), (7, 1, 0), (1, 7, 0), (8, 2, 0), (2, 9, 0)]), (0, 0))] : List BPo) := p1
  simp only [List.mem_cons, List.not_mem_nil, or_false] at p1
  rcases p1 with rfl | rfl
  · obtain ⟨x, e, hx⟩ := fin.int (by decide)
    exact ⟨r, r1, ⟨x, e, hx⟩, g'.2.2.2.2.1, g'.2.2.2.2.2, cst⟩
  · exfalso
    have iv := g'.iv 5 (lo := 0) (hi := 39) rfl
    have k5_3 : ν' 5 ≤ ν' 3 + (-1) := g'.co (a := 5) (b := 3) (c := (-1)) (by decide)
    have k6_0 : ν' 6 ≤ ν' 0 + 0 := g'.co (a := 6) (b := 0) (c := 0) (by decide)
    have k0_6 : ν' 0 ≤ ν' 6 + 0 := g'.co (a := 0) (b := 6) (c := 0) (by decide)
    have k7_1 : ν' 7 ≤ ν' 1 + 0 := g'.co (a := 7) (b := 1) (c := 0) (by decide)
    have k1_7 : ν' 1 ≤ ν' 7 + 0 := g'.co (a := 1) (b := 7) (c := 0) (by decide)
    have k8_2 : ν' 8 ≤ ν' 2 + 0 := g'.co (a := 8) (b := 2) (c := 0) (by decide)
    have k2_9 : ν' 2 ≤ ν' 9 + 0 := g'.co (a := 2) (b := 9) (c := 0) (by decide)
    have y0 : ν' 0 = ν2 0 := x'.2 0 (by decide)
    have y1 : ν' 1 = ν2 1 := x'.2 1 (by decide)
    have y2 : ν' 2 = ν2 2 := x'.2 2 (by decide)
    have y3 : ν' 3 = ν2 3 := x'.2 3 (by decide)
    have F := g'.2.2.2.2.2
    have d0 : c_I r.2.1 272 (ν' 5).toNat = ν' 6 + 0 := g'.rI (base := (2, 272, 0)) (slot := (1, 5, 0)) (val := (1, 6, 0)) (by rfl) (by decide) (by decide) rfl (by show (((ν' 5).toNat : Nat) : Int) = ν' 5 + 0; omega)
    rw [c_I_cg (F.k H c_ra272 c_rq42 (by decide) (by rfl) _)] at d0
    have d1 : c_I r.2.1 273 (ν' 5).toNat = ν' 7 + 0 := g'.rI (base := (2, 273, 0)) (slot := (1, 5, 0)) (val := (1, 7, 0)) (by rfl) (by decide) (by decide) rfl (by show (((ν' 5).toNat : Nat) : Int) = ν' 5 + 0; omega)
    rw [c_I_cg (F.k H c_ra273 c_rq43 (by decide) (by rfl) _)] at d1
    have d2 : c_I r.2.1 274 (ν' 5).toNat = ν' 8 + 0 := g'.rI (base := (2, 274, 0)) (slot := (1, 5, 0)) (val := (1, 8, 0)) (by rfl) (by decide) (by decide) rfl (by show (((ν' 5).toNat : Nat) : Int) = ν' 5 + 0; omega)
    rw [c_I_cg (F.k H c_ra274 c_rq44 (by decide) (by rfl) _)] at d2
    have d3 : c_I r.2.1 275 (ν' 5).toNat = ν' 9 + 0 := g'.rI (base := (2, 275, 0)) (slot := (1, 5, 0)) (val := (1, 9, 0)) (by rfl) (by decide) (by decide) rfl (by show (((ν' 5).toNat : Nat) : Int) = ν' 5 + 0; omega)
    rw [c_I_cg (F.k H c_ra275 c_rq45 (by decide) (by rfl) _)] at d3
    refine no (ν' 5).toNat ⟨by omega, ?_, by omega, by omega, by omega, by omega⟩
    rw [c_I_of en]
    omega
theorem sp_buy1 {h : AH} (H : b_H c_K h) {f l a : Int32} (f1 : 0 ≤ f.toInt) (f2 : f.toInt ≤ 19) (l1 : 0 ≤ l.toInt) (l2 : l.toInt ≤ 9) (a1 : 0 ≤ a.toInt) (a2 : a.toInt ≤ 99) {j : Nat} (o : c_ov h f.toInt l.toInt a.toInt a.toInt j) (one : ∀ i, c_ov h f.toInt l.toInt a.toInt a.toInt i → i = j) : ∃ r, b_lim 6 73 [.ref 271, .int f, .int l, .int a] h = some r ∧ (∃ x, r.1 = .inl (some (.int x)) ∧ x.toInt = c_I h 276 j) ∧ b_H c_K r.2.1 ∧ b_frm c_K [] h r.2.1 ∧ r.2.2 = (0, 0) := by
  obtain ⟨o1, o2, o3, o4, o5, o6⟩ := o
  obtain ⟨n, en, n1, n2⟩ := H.rdI (a := 271) (j := 5) (lo := 0) (hi := 40) c_ra271 c_rq41 (by decide) (by decide) rfl
  rw [c_I_of en] at o2
  obtain ⟨s, es, s1, s2⟩ := H.rdI (a := 272) (j := j) (lo := 0) (hi := 19) c_ra272 c_rq42 (by decide) o1 rfl
  rw [c_I_of es] at o3
  obtain ⟨t, et, t1, t2⟩ := H.rdI (a := 273) (j := j) (lo := 0) (hi := 9) c_ra273 c_rq43 (by decide) o1 rfl
  rw [c_I_of et] at o4
  obtain ⟨p, ep, p1, p2⟩ := H.rdI (a := 274) (j := j) (lo := 0) (hi := 99) c_ra274 c_rq44 (by decide) o1 rfl
  rw [c_I_of ep] at o5
  obtain ⟨q, eq, q1, q2⟩ := H.rdI (a := 275) (j := j) (lo := 0) (hi := 99) c_ra275 c_rq45 (by decide) o1 rfl
  rw [c_I_of eq] at o6
  generalize hν : (fun n_ => match n_ with
    | 0 => f.toInt
    | 1 => l.toInt
    | 2 => a.toInt
    | 3 => n.toInt
    | 4 => (j : Int)
    | 5 => p.toInt
    | 6 => q.toInt
    | n_ => (fun _ => 0) n_ : BN) = ν2
  have u0 : ν2 0 = f.toInt := by subst hν; rfl
  have u1 : ν2 1 = l.toInt := by subst hν; rfl
  have u2 : ν2 2 = a.toInt := by subst hν; rfl
  have u3 : ν2 3 = n.toInt := by subst hν; rfl
  have u4 : ν2 4 = (j : Int) := by subst hν; rfl
  have u5 : ν2 5 = p.toInt := by subst hν; rfl
  have u6 : ν2 6 = q.toInt := by subst hν; rfl
  have g2 := (b_G.nil H (ν := ν2)).ad (ν' := ν2) (E' := [(0, 0, 19), (0, 0, 9), (0, 0, 99), (0, 1, 40), (0, 0, 39), (0, 0, 99), (0, 0, 99)]) (F' := [((2, 271, 0), (0, 0, 5), (1, 3, 0)), ((2, 272, 0), (1, 4, 0), (1, 0, 0)), ((2, 273, 0), (1, 4, 0), (1, 1, 0)), ((2, 274, 0), (1, 4, 0), (1, 5, 0)), ((2, 275, 0), (1, 4, 0), (1, 6, 0))]) (C' := [(4, 3, (-1)), (5, 2, 0), (2, 6, 0)]) (fun n hn => absurd hn (Nat.not_lt_zero n))
    ⟨(by show b_q _ _ (ν2 0); rw [u0]; exact b_q.i (by omega) (by omega)), (by show b_q _ _ (ν2 1); rw [u1]; exact b_q.i (by omega) (by omega)), (by show b_q _ _ (ν2 2); rw [u2]; exact b_q.i (by omega) (by omega)), (by show b_q _ _ (ν2 3); rw [u3]; exact b_q.i (by omega) (by omega)), (by show b_q _ _ (ν2 4); rw [u4]; exact b_q.i (by omega) (by omega)), (by show b_q _ _ (ν2 5); rw [u5]; exact b_q.i (by omega) (by omega)), (by show b_q _ _ (ν2 6); rw [u6]; exact b_q.i (by omega) (by omega)), trivial⟩
    ⟨b_fa.mk en (Or.inl ⟨rfl, rfl⟩) (Or.inl ⟨rfl, rfl⟩) (Or.inr ⟨rfl, by decide, by show _ = ν2 3 + 0; omega⟩), b_fa.mk es (Or.inl ⟨rfl, rfl⟩) (Or.inr ⟨rfl, by decide, by show _ = ν2 4 + 0; omega⟩) (Or.inr ⟨rfl, by decide, by show _ = ν2 0 + 0; omega⟩), b_fa.mk et (Or.inl ⟨rfl, rfl⟩) (Or.inr ⟨rfl, by decide, by show _ = ν2 4 + 0; omega⟩) (Or.inr ⟨rfl, by decide, by show _ = ν2 1 + 0; omega⟩), b_fa.mk ep (Or.inl ⟨rfl, rfl⟩) (Or.inr ⟨rfl, by decide, by show _ = ν2 4 + 0; omega⟩) (Or.inr ⟨rfl, by decide, by show _ = ν2 5 + 0; omega⟩), b_fa.mk eq (Or.inl ⟨rfl, rfl⟩) (Or.inr ⟨rfl, by decide, by show _ = ν2 4 + 0; omega⟩) (Or.inr ⟨rfl, by decide, by show _ = ν2 6 + 0; omega⟩), trivial⟩
    ⟨⟨by decide, by decide, by show ν2 4 ≤ ν2 3 + (-1); omega⟩, ⟨by decide, by decide, by show ν2 5 ≤ ν2 2 + 0; omega⟩, ⟨by decide, by decide, by show ν2 2 ≤ ν2 6 + 0; omega⟩, trivial⟩
  obtain ⟨r, r1, p', p1, ν', x', fin, g', cst⟩ := c_v73w ν2 h [.ref 271, .int f, .int l, .int a] g2 (b_S.cons (Or.inl ⟨rfl, rfl⟩) (b_S.cons (Or.inr ⟨rfl, by decide, by show _ = ν2 0 + 0; omega⟩) (b_S.cons (Or.inr ⟨rfl, by decide, by show _ = ν2 1 + 0; omega⟩) (b_S.cons (Or.inr ⟨rfl, by decide, by show _ = ν2 2 + 0; omega⟩) b_S.nil))))
  have p1 : p' ∈ ([(.inl (some (1, 7, 0)), ([(0, 0, 9)], [((2, 276, 0), (1, 4, 0), (1, 7, 0))], []), (0, 0)), (.inl (some (1, 7, 0)), ([(0, 0, 9), (0, 0, 39), (0, 0, 19), (0, 0, 9), (0, 0, 99), (0, 0, 99)], [((2, 276, 0), (1, 8, 0), (1, 7, 0)), ((2, 272, 0), (1, 8, 0), (1, 9, 0)), ((2, 273, 0), (1, 8, 0), (1, 10, 0)), ((2, 274, 0), (1, 8, 0), (1, 11, 0)), ((2, 275, 0), (1, 8, 0), (1, 12, 0))], [(8, 3, (-1)), (9, 0, 0), (0, 9, 0), (10, 1, 0), (1, 10, 0), (11, 2, 0), (2, 12, 0)]), (0, 0))] : List BPo) := p1
  simp only [List.mem_cons, List.not_mem_nil, or_false] at p1
  rcases p1 with rfl | rfl
  · obtain ⟨x, e, hx⟩ := fin.int (by decide)
    have F := g'.2.2.2.2.2
    have y0 : ν' 0 = ν2 0 := x'.2 0 (by decide)
    have y1 : ν' 1 = ν2 1 := x'.2 1 (by decide)
    have y2 : ν' 2 = ν2 2 := x'.2 2 (by decide)
    have y3 : ν' 3 = ν2 3 := x'.2 3 (by decide)
    have y4 : ν' 4 = ν2 4 := x'.2 4 (by decide)
    have y5 : ν' 5 = ν2 5 := x'.2 5 (by decide)
    have y6 : ν' 6 = ν2 6 := x'.2 6 (by decide)
    have hx : x.toInt = ν' 7 + 0 := hx
    have d0 : c_I r.2.1 276 j = ν' 7 + 0 := g'.rI (base := (2, 276, 0)) (slot := (1, 4, 0)) (val := (1, 7, 0)) (by rfl) (by decide) (by decide) rfl (by show (j : Int) = ν' 4 + 0; omega)
    rw [c_I_cg (F.k H c_ra276 c_rq46 (by decide) (by rfl) _)] at d0
    exact ⟨r, r1, ⟨x, e, by omega⟩, g'.2.2.2.2.1, F, cst⟩
  · obtain ⟨x, e, hx⟩ := fin.int (by decide)
    have F := g'.2.2.2.2.2
    have iv := g'.iv 8 (lo := 0) (hi := 39) rfl
    have k8_3 : ν' 8 ≤ ν' 3 + (-1) := g'.co (a := 8) (b := 3) (c := (-1)) (by decide)
    have k9_0 : ν' 9 ≤ ν' 0 + 0 := g'.co (a := 9) (b := 0) (c := 0) (by decide)
    have k0_9 : ν' 0 ≤ ν' 9 + 0 := g'.co (a := 0) (b := 9) (c := 0) (by decide)
    have k10_1 : ν' 10 ≤ ν' 1 + 0 := g'.co (a := 10) (b := 1) (c := 0) (by decide)
    have k1_10 : ν' 1 ≤ ν' 10 + 0 := g'.co (a := 1) (b := 10) (c := 0) (by decide)
    have k11_2 : ν' 11 ≤ ν' 2 + 0 := g'.co (a := 11) (b := 2) (c := 0) (by decide)
    have k2_12 : ν' 2 ≤ ν' 12 + 0 := g'.co (a := 2) (b := 12) (c := 0) (by decide)
    have y0 : ν' 0 = ν2 0 := x'.2 0 (by decide)
    have y1 : ν' 1 = ν2 1 := x'.2 1 (by decide)
    have y2 : ν' 2 = ν2 2 := x'.2 2 (by decide)
    have y3 : ν' 3 = ν2 3 := x'.2 3 (by decide)
    have y4 : ν' 4 = ν2 4 := x'.2 4 (by decide)
    have y5 : ν' 5 = ν2 5 := x'.2 5 (by decide)
    have y6 : ν' 6 = ν2 6 := x'.2 6 (by decide)
    have hx : x.toInt = ν' 7 + 0 := hx
    have d0 : c_I r.2.1 272 (ν' 8).toNat = ν' 9 + 0 := g'.rI (base := (2, 272, 0)) (slot := (1, 8, 0)) (val := (1, 9, 0)) (by rfl) (by decide) (by decide) rfl (by show (((ν' 8).toNat : Nat) : Int) = ν' 8 + 0; omega)
    rw [c_I_cg (F.k H c_ra272 c_rq42 (by decide) (by rfl) _)] at d0
    have d1 : c_I r.2.1 273 (ν' 8).toNat = ν' 10 + 0 := g'.rI (base := (2, 273, 0)) (slot := (1, 8, 0)) (val := (1, 10, 0)) (by rfl) (by decide) (by decide) rfl (by show (((ν' 8).toNat : Nat) : Int) = ν' 8 + 0; omega)
    rw [c_I_cg (F.k H c_ra273 c_rq43 (by decide) (by rfl) _)] at d1
    have d2 : c_I r.2.1 274 (ν' 8).toNat = ν' 11 + 0 := g'.rI (base := (2, 274, 0)) (slot := (1, 8, 0)) (val := (1, 11, 0)) (by rfl) (by decide) (by decide) rfl (by show (((ν' 8).toNat : Nat) : Int) = ν' 8 + 0; omega)
    rw [c_I_cg (F.k H c_ra274 c_rq44 (by decide) (by rfl) _)] at d2
    have d3 : c_I r.2.1 275 (ν' 8).toNat = ν' 12 + 0 := g'.rI (base := (2, 275, 0)) (slot := (1, 8, 0)) (val := (1, 12, 0)) (by rfl) (by decide) (by decide) rfl (by show (((ν' 8).toNat : Nat) : Int) = ν' 8 + 0; omega)
    rw [c_I_cg (F.k H c_ra275 c_rq45 (by decide) (by rfl) _)] at d3
    have d4 : c_I r.2.1 276 (ν' 8).toNat = ν' 7 + 0 := g'.rI (base := (2, 276, 0)) (slot := (1, 8, 0)) (val := (1, 7, 0)) (by rfl) (by decide) (by decide) rfl (by show (((ν' 8).toNat : Nat) : Int) = ν' 8 + 0; omega)
    rw [c_I_cg (F.k H c_ra276 c_rq46 (by decide) (by rfl) _)] at d4
    have e8 : (ν' 8).toNat = j := one _ ⟨by omega, by rw [c_I_of en]; omega, by omega, by omega, by omega, by omega⟩
    rw [e8] at d4
    exact ⟨r, r1, ⟨x, e, by omega⟩, g'.2.2.2.2.1, F, cst⟩
theorem sp_own0 {h : AH} (H : b_H c_K h) (hR : ∀ i, i < 40 → c_at h 726 i = some (.ref (727 + i))) {f l a : Int32} (f1 : 0 ≤ f.toInt) (f2 : f.toInt ≤ 19) (l1 : 0 ≤ l.toInt) (l2 : l.toInt ≤ 9) (a1 : 0 ≤ a.toInt) (a2 : a.toInt ≤ 99) (hf : f.toInt < c_I h 365 44) (no : ∀ j, ¬ c_ovM h f.toInt l.toInt a.toInt a.toInt j) : ∃ r, b_lim 6 250 [.ref 365, .int f, .int l, .int a] h = some r ∧ (∃ x, r.1 = .inl (some (.int x)) ∧ x.toInt = 0) ∧ (∃ t, c_at r.2.1 365 55 = some (.int t) ∧ t.toInt = 3) ∧ b_H c_K r.2.1 ∧ b_frm c_K [(50, 55)] h r.2.1 ∧ r.2.2 = (0, 0) := by
  obtain ⟨c, ec, c1, c2⟩ := H.rdI (a := 365) (j := 44) (lo := 0) (hi := 20) c_ra365 c_rq50 (by decide) (by decide) rfl
  rw [c_I_of ec] at hf
  obtain ⟨n, en, n1, n2⟩ := H.rdI (a := 365) (j := 52) (lo := 0) (hi := 40) c_ra365 c_rq50 (by decide) (by decide) rfl
  generalize hν : (fun n_ => match n_ with
    | 0 => f.toInt
    | 1 => l.toInt
    | 2 => a.toInt
    | 3 => c.toInt
    | 4 => n.toInt
    | n_ => (fun _ => 0) n_ : BN) = ν2
  have u0 : ν2 0 = f.toInt := by subst hν; rfl
  have u1 : ν2 1 = l.toInt := by subst hν; rfl
  have u2 : ν2 2 = a.toInt := by subst hν; rfl
  have u3 : ν2 3 = c.toInt := by subst hν; rfl
  have u4 : ν2 4 = n.toInt := by subst hν; rfl
  have g2 := (b_G.nil H (ν := ν2)).ad (ν' := ν2) (E' := [(0, 0, 19), (0, 0, 9), (0, 0, 99), (0, 0, 20), (0, 0, 40)]) (F' := [((2, 365, 0), (0, 0, 44), (1, 3, 0)), ((2, 365, 0), (0, 0, 52), (1, 4, 0))]) (C' := [(0, 3, (-1))]) (fun n hn => absurd hn (Nat.not_lt_zero n))
    ⟨(by show b_q _ _ (ν2 0); rw [u0]; exact b_q.i (by omega) (by omega)), (by show b_q _ _ (ν2 1); rw [u1]; exact b_q.i (by omega) (by omega)), (by show b_q _ _ (ν2 2); rw [u2]; exact b_q.i (by omega) (by omega)), (by show b_q _ _ (ν2 3); rw [u3]; exact b_q.i (by omega) (by omega)), (by show b_q _ _ (ν2 4); rw [u4]; exact b_q.i (by omega) (by omega)), trivial⟩
    ⟨b_fa.mk ec (Or.inl ⟨rfl, rfl⟩) (Or.inl ⟨rfl, rfl⟩) (Or.inr ⟨rfl, by decide, by show _ = ν2 3 + 0; omega⟩), b_fa.mk en (Or.inl ⟨rfl, rfl⟩) (Or.inl ⟨rfl, rfl⟩) (Or.inr ⟨rfl, by decide, by show _ = ν2 4 + 0; omega⟩), trivial⟩
    ⟨⟨by decide, by decide, by show ν2 0 ≤ ν2 3 + (-1); omega⟩, trivial⟩
  obtain ⟨r, r1, p, p1, ν', x', fin, g', cst⟩ := c_v250n ν2 h [.ref 365, .int f, .int l, .int a] g2 (b_S.cons (Or.inl ⟨rfl, rfl⟩) (b_S.cons (Or.inr ⟨rfl, by decide, by show _ = ν2 0 + 0; omega⟩) (b_S.cons (Or.inr ⟨rfl, by decide, by show _ = ν2 1 + 0; omega⟩) (b_S.cons (Or.inr ⟨rfl, by decide, by show _ = ν2 2 + 0; omega⟩) b_S.nil))))
  have p1 : p ∈ ([(.inl (some (0, 0, 0)), ([], [((2, 365, 0), (0, 0, 55), (0, 0, 3))], []), (0, 0)), (.inl (some (1, 5, 0)), ([(0, 0, 99), (0, 0, 39), (106, 0, 0), (0, 0, 99), (0, 0, 99), (0, 0, 99), (0, 0, 99)], [((3, 7, 0), (0, 0, 4), (1, 5, 0)), ((3, 7, 0), (0, 0, 0), (1, 8, 0)), ((3, 7, 0), (0, 0, 1), (1, 9, 0)), ((3, 7, 0), (0, 0, 2), (1, 10, 0)), ((3, 7, 0), (0, 0, 3), (1, 11, 0)), ((2, 726, 0), (1, 6, 0), (3, 7, 0)), ((2, 365, 0), (0, 0, 55), (0, 0, 0))], [(6, 4, (-1)), (8, 0, 0), (0, 8, 0), (9, 1, 0), (1, 9, 0), (10, 2, 0), (2, 11, 0)]), (0, 0))] : List BPo) := p1
  simp only [List.mem_cons, List.not_mem_nil, or_false] at p1
  rcases p1 with rfl | rfl
  · obtain ⟨x, e, hx⟩ := fin.int (by decide)
    obtain ⟨t, et, ht⟩ := (g'.fa ((2, 365, 0), (0, 0, 55), (0, 0, 3)) (by rfl)).atI (a := 365) (j := 55) (Or.inl ⟨rfl, rfl⟩) (Or.inl ⟨rfl, rfl⟩) (by show 0 < 2; decide)
    have ht := ht.k
    exact ⟨r, r1, ⟨x, e, hx⟩, ⟨t, et, ht⟩, g'.2.2.2.2.1, g'.2.2.2.2.2, cst⟩
  · exfalso
    have F := g'.2.2.2.2.2
    have iv := g'.iv 6 (lo := 0) (hi := 39) rfl
    have k6_4 : ν' 6 ≤ ν' 4 + (-1) := g'.co (a := 6) (b := 4) (c := (-1)) (by decide)
    have k8_0 : ν' 8 ≤ ν' 0 + 0 := g'.co (a := 8) (b := 0) (c := 0) (by decide)
    have k0_8 : ν' 0 ≤ ν' 8 + 0 := g'.co (a := 0) (b := 8) (c := 0) (by decide)
    have k9_1 : ν' 9 ≤ ν' 1 + 0 := g'.co (a := 9) (b := 1) (c := 0) (by decide)
    have k1_9 : ν' 1 ≤ ν' 9 + 0 := g'.co (a := 1) (b := 9) (c := 0) (by decide)
    have k10_2 : ν' 10 ≤ ν' 2 + 0 := g'.co (a := 10) (b := 2) (c := 0) (by decide)
    have k2_11 : ν' 2 ≤ ν' 11 + 0 := g'.co (a := 2) (b := 11) (c := 0) (by decide)
    have y0 : ν' 0 = ν2 0 := x'.2 0 (by decide)
    have y1 : ν' 1 = ν2 1 := x'.2 1 (by decide)
    have y2 : ν' 2 = ν2 2 := x'.2 2 (by decide)
    have y3 : ν' 3 = ν2 3 := x'.2 3 (by decide)
    have y4 : ν' 4 = ν2 4 := x'.2 4 (by decide)
    have vr : ν' 7 = ((727 + (ν' 6).toNat : Nat) : Int) := by
      obtain ⟨b', q1, q2⟩ := g'.rdA (a := 726) (n := 6) (m := 7) (k := 0) (by rfl) (j := (ν' 6).toNat) (by omega)
      rw [F.k H c_ra726 c_rq104 (by decide) (by rfl), hR _ (by omega)] at q1
      cases q1
      exact q2.symm
    have d0 : c_I r.2.1 (727 + (ν' 6).toNat) 0 = ν' 8 + 0 := g'.rI (base := (3, 7, 0)) (slot := (0, 0, 0)) (val := (1, 8, 0)) (by rfl) (by decide) (by decide) (by show ((727 + (ν' 6).toNat : Nat) : Int) = ν' 7; omega) rfl
    rw [c_I_cg (F.k H (sRow _ (by omega)) c_rq105 (by decide) (by rfl) _)] at d0
    have d1 : c_I r.2.1 (727 + (ν' 6).toNat) 1 = ν' 9 + 0 := g'.rI (base := (3, 7, 0)) (slot := (0, 0, 1)) (val := (1, 9, 0)) (by rfl) (by decide) (by decide) (by show ((727 + (ν' 6).toNat : Nat) : Int) = ν' 7; omega) rfl
    rw [c_I_cg (F.k H (sRow _ (by omega)) c_rq105 (by decide) (by rfl) _)] at d1
    have d2 : c_I r.2.1 (727 + (ν' 6).toNat) 2 = ν' 10 + 0 := g'.rI (base := (3, 7, 0)) (slot := (0, 0, 2)) (val := (1, 10, 0)) (by rfl) (by decide) (by decide) (by show ((727 + (ν' 6).toNat : Nat) : Int) = ν' 7; omega) rfl
    rw [c_I_cg (F.k H (sRow _ (by omega)) c_rq105 (by decide) (by rfl) _)] at d2
    have d3 : c_I r.2.1 (727 + (ν' 6).toNat) 3 = ν' 11 + 0 := g'.rI (base := (3, 7, 0)) (slot := (0, 0, 3)) (val := (1, 11, 0)) (by rfl) (by decide) (by decide) (by show ((727 + (ν' 6).toNat : Nat) : Int) = ν' 7; omega) rfl
    rw [c_I_cg (F.k H (sRow _ (by omega)) c_rq105 (by decide) (by rfl) _)] at d3
    refine no (ν' 6).toNat ⟨by omega, ?_, by omega, by omega, by omega, by omega⟩
    rw [c_I_of en]
    omega
theorem sp_own1 {h : AH} (H : b_H c_K h) (hR : ∀ i, i < 40 → c_at h 726 i = some (.ref (727 + i))) {f l a : Int32} (f1 : 0 ≤ f.toInt) (f2 : f.toInt ≤ 19) (l1 : 0 ≤ l.toInt) (l2 : l.toInt ≤ 9) (a1 : 0 ≤ a.toInt) (a2 : a.toInt ≤ 99) (hf : f.toInt < c_I h 365 44) {j : Nat} (o : c_ovM h f.toInt l.toInt a.toInt a.toInt j) (one : ∀ i, c_ovM h f.toInt l.toInt a.toInt a.toInt i → i = j) : ∃ r, b_lim 6 250 [.ref 365, .int f, .int l, .int a] h = some r ∧ (∃ x, r.1 = .inl (some (.int x)) ∧ x.toInt = c_I h (727 + j) 4) ∧ (∃ t, c_at r.2.1 365 55 = some (.int t) ∧ t.toInt = 0) ∧ b_H c_K r.2.1 ∧ b_frm c_K [(50, 55)] h r.2.1 ∧ r.2.2 = (0, 0) := by
  obtain ⟨c, ec, c1, c2⟩ := H.rdI (a := 365) (j := 44) (lo := 0) (hi := 20) c_ra365 c_rq50 (by decide) (by decide) rfl
  rw [c_I_of ec] at hf
  obtain ⟨n, en, n1, n2⟩ := H.rdI (a := 365) (j := 52) (lo := 0) (hi := 40) c_ra365 c_rq50 (by decide) (by decide) rfl
  obtain ⟨o1, o2, o3, o4, o5, o6⟩ := o
  rw [c_I_of en] at o2
  obtain ⟨s, es, s1, s2⟩ := H.rdI (a := 727 + j) (j := 0) (lo := 0) (hi := 99) (sRow j o1) c_rq105 (by decide) (by decide) rfl
  rw [c_I_of es] at o3
  obtain ⟨t, et, t1, t2⟩ := H.rdI (a := 727 + j) (j := 1) (lo := 0) (hi := 99) (sRow j o1) c_rq105 (by decide) (by decide) rfl
  rw [c_I_of et] at o4
  obtain ⟨p, ep, p1, p2⟩ := H.rdI (a := 727 + j) (j := 2) (lo := 0) (hi := 99) (sRow j o1) c_rq105 (by decide) (by decide) rfl
  rw [c_I_of ep] at o5
  obtain ⟨q, eq, q1, q2⟩ := H.rdI (a := 727 + j) (j := 3) (lo := 0) (hi := 99) (sRow j o1) c_rq105 (by decide) (by decide) rfl
  rw [c_I_of eq] at o6
  generalize hν : (fun n_ => match n_ with
    | 0 => f.toInt
    | 1 => l.toInt
    | 2 => a.toInt
    | 3 => c.toInt
    | 4 => n.toInt
    | 5 => (j : Int)
    | 6 => ((727 + j : Nat) : Int)
    | 7 => p.toInt
    | 8 => q.toInt
    | n_ => (fun _ => 0) n_ : BN) = ν2
  have u0 : ν2 0 = f.toInt := by subst hν; rfl
  have u1 : ν2 1 = l.toInt := by subst hν; rfl
  have u2 : ν2 2 = a.toInt := by subst hν; rfl
  have u3 : ν2 3 = c.toInt := by subst hν; rfl
  have u4 : ν2 4 = n.toInt := by subst hν; rfl
  have u5 : ν2 5 = (j : Int) := by subst hν; rfl
  have u6 : ν2 6 = ((727 + j : Nat) : Int) := by subst hν; rfl
  have u7 : ν2 7 = p.toInt := by subst hν; rfl
  have u8 : ν2 8 = q.toInt := by subst hν; rfl
  have g2 := (b_G.nil H (ν := ν2)).ad (ν' := ν2) (E' := [(0, 0, 19), (0, 0, 9), (0, 0, 99), (0, 0, 20), (0, 1, 40), (0, 0, 39), (106, 0, 0), (0, 0, 99), (0, 0, 99)]) (F' := [((2, 365, 0), (0, 0, 44), (1, 3, 0)), ((2, 365, 0), (0, 0, 52), (1, 4, 0)), ((3, 6, 0), (0, 0, 0), (1, 0, 0)), ((3, 6, 0), (0, 0, 1), (1, 1, 0)), ((3, 6, 0), (0, 0, 2), (1, 7, 0)), ((3, 6, 0), (0, 0, 3), (1, 8, 0)), ((2, 726, 0), (1, 5, 0), (3, 6, 0))]) (C' := [(0, 3, (-1)), (5, 4, (-1)), (7, 2, 0), (2, 8, 0)]) (fun n hn => absurd hn (Nat.not_lt_zero n))
    ⟨(by show b_q _ _ (ν2 0); rw [u0]; exact b_q.i (by omega) (by omega)), (by show b_q _ _ (ν2 1); rw [u1]; exact b_q.i (by omega) (by omega)), (by show b_q _ _ (ν2 2); rw [u2]; exact b_q.i (by omega) (by omega)), (by show b_q _ _ (ν2 3); rw [u3]; exact b_q.i (by omega) (by omega)), (by show b_q _ _ (ν2 4); rw [u4]; exact b_q.i (by omega) (by omega)), (by show b_q _ _ (ν2 5); rw [u5]; exact b_q.i (by omega) (by omega)), (by show b_q _ _ (ν2 6); rw [u6]; exact b_q.r (sRow j o1)), (by show b_q _ _ (ν2 7); rw [u7]; exact b_q.i (by omega) (by omega)), (by show b_q _ _ (ν2 8); rw [u8]; exact b_q.i (by omega) (by omega)), trivial⟩
    ⟨b_fa.mk ec (Or.inl ⟨rfl, rfl⟩) (Or.inl ⟨rfl, rfl⟩) (Or.inr ⟨rfl, by decide, by show _ = ν2 3 + 0; omega⟩), b_fa.mk en (Or.inl ⟨rfl, rfl⟩) (Or.inl ⟨rfl, rfl⟩) (Or.inr ⟨rfl, by decide, by show _ = ν2 4 + 0; omega⟩), b_fa.mk es (Or.inr ⟨rfl, by decide, by show _ = ν2 6; omega⟩) (Or.inl ⟨rfl, rfl⟩) (Or.inr ⟨rfl, by decide, by show _ = ν2 0 + 0; omega⟩), b_fa.mk et (Or.inr ⟨rfl, by decide, by show _ = ν2 6; omega⟩) (Or.inl ⟨rfl, rfl⟩) (Or.inr ⟨rfl, by decide, by show _ = ν2 1 + 0; omega⟩), b_fa.mk ep (Or.inr ⟨rfl, by decide, by show _ = ν2 6; omega⟩) (Or.inl ⟨rfl, rfl⟩) (Or.inr ⟨rfl, by decide, by show _ = ν2 7 + 0; omega⟩), b_fa.mk eq (Or.inr ⟨rfl, by decide, by show _ = ν2 6; omega⟩) (Or.inl ⟨rfl, rfl⟩) (Or.inr ⟨rfl, by decide, by show _ = ν2 8 + 0; omega⟩), b_fa.mk (hR j o1) (Or.inl ⟨rfl, rfl⟩) (Or.inr ⟨rfl, by decide, by show _ = ν2 5 + 0; omega⟩) (Or.inr ⟨rfl, by decide, by show _ = ν2 6; omega⟩), trivial⟩
    ⟨⟨by decide, by decide, by show ν2 0 ≤ ν2 3 + (-1); omega⟩, ⟨by decide, by decide, by show ν2 5 ≤ ν2 4 + (-1); omega⟩, ⟨by decide, by decide, by show ν2 7 ≤ ν2 2 + 0; omega⟩, ⟨by decide, by decide, by show ν2 2 ≤ ν2 8 + 0; omega⟩, trivial⟩
  obtain ⟨r, r1, p', p1, ν', x', fin, g', cst⟩ := c_v250w ν2 h [.ref 365, .int f, .int l, .int a] g2 (b_S.cons (Or.inl ⟨rfl, rfl⟩) (b_S.cons (Or.inr ⟨rfl, by decide, by show _ = ν2 0 + 0; omega⟩) (b_S.cons (Or.inr ⟨rfl, by decide, by show _ = ν2 1 + 0; omega⟩) (b_S.cons (Or.inr ⟨rfl, by decide, by show _ = ν2 2 + 0; omega⟩) b_S.nil))))
  have p1 : p' ∈ ([(.inl (some (1, 9, 0)), ([(0, 0, 99), (0, 0, 39), (106, 0, 0), (0, 0, 99), (0, 0, 99), (0, 0, 99), (0, 0, 99)], [((3, 11, 0), (0, 0, 4), (1, 9, 0)), ((3, 11, 0), (0, 0, 0), (1, 12, 0)), ((3, 11, 0), (0, 0, 1), (1, 13, 0)), ((3, 11, 0), (0, 0, 2), (1, 14, 0)), ((3, 11, 0), (0, 0, 3), (1, 15, 0)), ((2, 726, 0), (1, 10, 0), (3, 11, 0)), ((2, 365, 0), (0, 0, 55), (0, 0, 0))], [(10, 4, (-1)), (12, 0, 0), (0, 12, 0), (13, 1, 0), (1, 13, 0), (14, 2, 0), (2, 15, 0)]), (0, 0))] : List BPo) := p1
  rw [List.mem_singleton.mp p1] at x' fin g' cst
  have F := g'.2.2.2.2.2
  have iv := g'.iv 10 (lo := 0) (hi := 39) rfl
  have k10_4 : ν' 10 ≤ ν' 4 + (-1) := g'.co (a := 10) (b := 4) (c := (-1)) (by decide)
  have k12_0 : ν' 12 ≤ ν' 0 + 0 := g'.co (a := 12) (b := 0) (c := 0) (by decide)
  have k0_12 : ν' 0 ≤ ν' 12 + 0 := g'.co (a := 0) (b := 12) (c := 0) (by decide)
  have k13_1 : ν' 13 ≤ ν' 1 + 0 := g'.co (a := 13) (b := 1) (c := 0) (by decide)
  have k1_13 : ν' 1 ≤ ν' 13 + 0 := g'.co (a := 1) (b := 13) (c := 0) (by decide)
  have k14_2 : ν' 14 ≤ ν' 2 + 0 := g'.co (a := 14) (b := 2) (c := 0) (by decide)
  have k2_15 : ν' 2 ≤ ν' 15 + 0 := g'.co (a := 2) (b := 15) (c := 0) (by decide)
  have y0 : ν' 0 = ν2 0 := x'.2 0 (by decide)
  have y1 : ν' 1 = ν2 1 := x'.2 1 (by decide)
  have y2 : ν' 2 = ν2 2 := x'.2 2 (by decide)
  have y3 : ν' 3 = ν2 3 := x'.2 3 (by decide)
  have y4 : ν' 4 = ν2 4 := x'.2 4 (by decide)
  have y5 : ν' 5 = ν2 5 := x'.2 5 (by decide)
  have y6 : ν' 6 = ν2 6 := x'.2 6 (by decide)
  have y7 : ν' 7 = ν2 7 := x'.2 7 (by decide)
  have y8 : ν' 8 = ν2 8 := x'.2 8 (by decide)
  have vr : ν' 11 = ((727 + (ν' 10).toNat : Nat) : Int) := by
    obtain ⟨b', q1, q2⟩ := g'.rdA (a := 726) (n := 10) (m := 11) (k := 0) (by rfl) (j := (ν' 10).toNat) (by omega)
    rw [F.k H c_ra726 c_rq104 (by decide) (by rfl), hR _ (by omega)] at q1
    cases q1
    exact q2.symm
  have d0 : c_I r.2.1 (727 + (ν' 10).toNat) 0 = ν' 12 + 0 := g'.rI (base := (3, 11, 0)) (slot := (0, 0, 0)) (val := (1, 12, 0)) (by rfl) (by decide) (by decide) (by show ((727 + (ν' 10).toNat : Nat) : Int) = ν' 11; omega) rfl
  rw [c_I_cg (F.k H (sRow _ (by omega)) c_rq105 (by decide) (by rfl) _)] at d0
  have d1 : c_I r.2.1 (727 + (ν' 10).toNat) 1 = ν' 13 + 0 := g'.rI (base := (3, 11, 0)) (slot := (0, 0, 1)) (val := (1, 13, 0)) (by rfl) (by decide) (by decide) (by show ((727 + (ν' 10).toNat : Nat) : Int) = ν' 11; omega) rfl
  rw [c_I_cg (F.k H (sRow _ (by omega)) c_rq105 (by decide) (by rfl) _)] at d1
  have d2 : c_I r.2.1 (727 + (ν' 10).toNat) 2 = ν' 14 + 0 := g'.rI (base := (3, 11, 0)) (slot := (0, 0, 2)) (val := (1, 14, 0)) (by rfl) (by decide) (by decide) (by show ((727 + (ν' 10).toNat : Nat) : Int) = ν' 11; omega) rfl
  rw [c_I_cg (F.k H (sRow _ (by omega)) c_rq105 (by decide) (by rfl) _)] at d2
  have d3 : c_I r.2.1 (727 + (ν' 10).toNat) 3 = ν' 15 + 0 := g'.rI (base := (3, 11, 0)) (slot := (0, 0, 3)) (val := (1, 15, 0)) (by rfl) (by decide) (by decide) (by show ((727 + (ν' 10).toNat : Nat) : Int) = ν' 11; omega) rfl
  rw [c_I_cg (F.k H (sRow _ (by omega)) c_rq105 (by decide) (by rfl) _)] at d3
  have d4 : c_I r.2.1 (727 + (ν' 10).toNat) 4 = ν' 9 + 0 := g'.rI (base := (3, 11, 0)) (slot := (0, 0, 4)) (val := (1, 9, 0)) (by rfl) (by decide) (by decide) (by show ((727 + (ν' 10).toNat : Nat) : Int) = ν' 11; omega) rfl
  rw [c_I_cg (F.k H (sRow _ (by omega)) c_rq105 (by decide) (by rfl) _)] at d4
  obtain ⟨x, e, hx⟩ := fin.int (by decide)
  have hx : x.toInt = ν' 9 + 0 := hx
  obtain ⟨t, et, ht⟩ := (g'.fa ((2, 365, 0), (0, 0, 55), (0, 0, 0)) (by rfl)).atI (a := 365) (j := 55) (Or.inl ⟨rfl, rfl⟩) (Or.inl ⟨rfl, rfl⟩) (by show 0 < 2; decide)
  have ht := ht.k
  have e8 : (ν' 10).toNat = j := one _ ⟨by omega, by rw [c_I_of en]; omega, by omega, by omega, by omega, by omega⟩
  rw [e8] at d4
  exact ⟨r, r1, ⟨x, e, by omega⟩, ⟨t, et, ht⟩, g'.2.2.2.2.1, F, cst⟩
theorem sp_sellx {h : AH} (H : b_H c_K h) (hR : ∀ i, i < 40 → c_at h 726 i = some (.ref (727 + i))) {f l a b y : Int32} (f1 : 0 ≤ f.toInt) (f2 : f.toInt ≤ 19) (l1 : 0 ≤ l.toInt) (l2 : l.toInt ≤ 9) (a1 : 0 ≤ a.toInt) (a2 : a.toInt ≤ 99) (b1 : 0 ≤ b.toInt) (b2 : b.toInt ≤ 99) (y1 : 0 ≤ y.toInt) (y2 : y.toInt ≤ 9) (hf : f.toInt < c_I h 365 44) (hab : a.toInt ≤ b.toInt) (hw : c_I h 372 f.toInt.toNat = 0) (no : ∀ j, ¬ c_ovM h f.toInt l.toInt a.toInt b.toInt j) (hn : c_I h 365 52 = 40) : ∃ r, b_lim 6 249 [.ref 365, .int f, .int l, .int a, .int b, .int y] h = some r ∧ (∃ x, r.1 = .inl (some (.int x)) ∧ x.toInt = 0) ∧ (∃ t, c_at r.2.1 365 55 = some (.int t) ∧ t.toInt = 4) ∧ b_H c_K r.2.1 ∧ b_frm c_K [(50, 55)] h r.2.1 ∧ r.2.2 = (0, 0) := by
  obtain ⟨c, ec, c1, c2⟩ := H.rdI (a := 365) (j := 44) (lo := 0) (hi := 20) c_ra365 c_rq50 (by decide) (by decide) rfl
  rw [c_I_of ec] at hf
  obtain ⟨n, en, n1, n2⟩ := H.rdI (a := 365) (j := 52) (lo := 0) (hi := 40) c_ra365 c_rq50 (by decide) (by decide) rfl
  obtain ⟨w, ew, w1, w2⟩ := H.rdI (a := 372) (j := f.toInt.toNat) (lo := 0) (hi := 1) c_ra372 c_rq57 (by decide) (show f.toInt.toNat < 20 by omega) rfl
  rw [c_I_of ew] at hw
  rw [c_I_of en] at hn
  generalize hν : (fun n_ => match n_ with
    | 0 => f.toInt
    | 1 => l.toInt
    | 2 => a.toInt
    | 3 => b.toInt
    | 4 => y.toInt
    | 5 => c.toInt
    | 6 => n.toInt
    | n_ => (fun _ => 0) n_ : BN) = ν2
  have u0 : ν2 0 = f.toInt := by subst hν; rfl
  have u1 : ν2 1 = l.toInt := by subst hν; rfl
  have u2 : ν2 2 = a.toInt := by subst hν; rfl
  have u3 : ν2 3 = b.toInt := by subst hν; rfl
  have u4 : ν2 4 = y.toInt := by subst hν; rfl
  have u5 : ν2 5 = c.toInt := by subst hν; rfl
  have u6 : ν2 6 = n.toInt := by subst hν; rfl
  have g2 := (b_G.nil H (ν := ν2)).ad (ν' := ν2) (E' := [(0, 0, 19), (0, 0, 9), (0, 0, 99), (0, 0, 99), (0, 0, 9), (0, 0, 20), (0, 40, 40)]) (F' := [((2, 365, 0), (0, 0, 44), (1, 5, 0)), ((2, 365, 0), (0, 0, 52), (1, 6, 0)), ((2, 372, 0), (1, 0, 0), (0, 0, 0))]) (C' := [(0, 5, (-1)), (2, 3, 0)]) (fun n hn => absurd hn (Nat.not_lt_zero n))
    ⟨(by show b_q _ _ (ν2 0); rw [u0]; exact b_q.i (by omega) (by omega)), (by show b_q _ _ (ν2 1); rw [u1]; exact b_q.i (by omega) (by omega)), (by show b_q _ _ (ν2 2); rw [u2]; exact b_q.i (by omega) (by omega)), (by show b_q _ _ (ν2 3); rw [u3]; exact b_q.i (by omega) (by omega)), (by show b_q _ _ (ν2 4); rw [u4]; exact b_q.i (by omega) (by omega)), (by show b_q _ _ (ν2 5); rw [u5]; exact b_q.i (by omega) (by omega)), (by show b_q _ _ (ν2 6); rw [u6]; exact b_q.i (by omega) (by omega)), trivial⟩
    ⟨b_fa.mk ec (Or.inl ⟨rfl, rfl⟩) (Or.inl ⟨rfl, rfl⟩) (Or.inr ⟨rfl, by decide, by show _ = ν2 5 + 0; omega⟩), b_fa.mk en (Or.inl ⟨rfl, rfl⟩) (Or.inl ⟨rfl, rfl⟩) (Or.inr ⟨rfl, by decide, by show _ = ν2 6 + 0; omega⟩), b_fa.mk ew (Or.inl ⟨rfl, rfl⟩) (Or.inr ⟨rfl, by decide, by show _ = ν2 0 + 0; omega⟩) (Or.inl ⟨rfl, by show _ = (0 : Int); omega⟩), trivial⟩
    ⟨⟨by decide, by decide, by show ν2 0 ≤ ν2 5 + (-1); omega⟩, ⟨by decide, by decide, by show ν2 2 ≤ ν2 3 + 0; omega⟩, trivial⟩
  obtain ⟨r, r1, p, p1, ν', x', fin, g', cst⟩ := c_v249x ν2 h [.ref 365, .int f, .int l, .int a, .int b, .int y] g2 (b_S.cons (Or.inl ⟨rfl, rfl⟩) (b_S.cons (Or.inr ⟨rfl, by decide, by show _ = ν2 0 + 0; omega⟩) (b_S.cons (Or.inr ⟨rfl, by decide, by show _ = ν2 1 + 0; omega⟩) (b_S.cons (Or.inr ⟨rfl, by decide, by show _ = ν2 2 + 0; omega⟩) (b_S.cons (Or.inr ⟨rfl, by decide, by show _ = ν2 3 + 0; omega⟩) (b_S.cons (Or.inr ⟨rfl, by decide, by show _ = ν2 4 + 0; omega⟩) b_S.nil))))))
  have p1 : p ∈ ([(.inl (some (0, 0, 0)), ([], [((2, 365, 0), (0, 0, 55), (0, 0, 4))], []), (0, 0)), (.inl (some (0, 0, 0)), ([(0, 0, 39), (106, 0, 0), (0, 0, 99), (0, 0, 99), (0, 0, 99), (0, 0, 99)], [((2, 726, 0), (1, 7, 0), (3, 8, 0)), ((3, 8, 0), (0, 0, 0), (1, 9, 0)), ((3, 8, 0), (0, 0, 1), (1, 10, 0)), ((3, 8, 0), (0, 0, 2), (1, 11, 0)), ((3, 8, 0), (0, 0, 3), (1, 12, 0)), ((2, 365, 0), (0, 0, 55), (0, 0, 3))], [(7, 6, (-1)), (9, 0, 0), (0, 9, 0), (10, 1, 0), (1, 10, 0), (11, 3, 0), (2, 12, 0)]), (0, 0))] : List BPo) := p1
  simp only [List.mem_cons, List.not_mem_nil, or_false] at p1
  rcases p1 with rfl | rfl
  · obtain ⟨x, e, hx⟩ := fin.int (by decide)
    obtain ⟨t, et, ht⟩ := (g'.fa ((2, 365, 0), (0, 0, 55), (0, 0, 4)) (by rfl)).atI (a := 365) (j := 55) (Or.inl ⟨rfl, rfl⟩) (Or.inl ⟨rfl, rfl⟩) (by show 0 < 2; decide)
    have ht := ht.k
    exact ⟨r, r1, ⟨x, e, hx⟩, ⟨t, et, ht⟩, g'.2.2.2.2.1, g'.2.2.2.2.2, cst⟩
  · exfalso
    have F := g'.2.2.2.2.2
    have iv := g'.iv 7 (lo := 0) (hi := 39) rfl
    have k7_6 : ν' 7 ≤ ν' 6 + (-1) := g'.co (a := 7) (b := 6) (c := (-1)) (by decide)
    have k9_0 : ν' 9 ≤ ν' 0 + 0 := g'.co (a := 9) (b := 0) (c := 0) (by decide)
    have k0_9 : ν' 0 ≤ ν' 9 + 0 := g'.co (a := 0) (b := 9) (c := 0) (by decide)
    have k10_1 : ν' 10 ≤ ν' 1 + 0 := g'.co (a := 10) (b := 1) (c := 0) (by decide)
    have k1_10 : ν' 1 ≤ ν' 10 + 0 := g'.co (a := 1) (b := 10) (c := 0) (by decide)
    have k11_3 : ν' 11 ≤ ν' 3 + 0 := g'.co (a := 11) (b := 3) (c := 0) (by decide)
    have k2_12 : ν' 2 ≤ ν' 12 + 0 := g'.co (a := 2) (b := 12) (c := 0) (by decide)
    have y0 : ν' 0 = ν2 0 := x'.2 0 (by decide)
    have y1 : ν' 1 = ν2 1 := x'.2 1 (by decide)
    have y2 : ν' 2 = ν2 2 := x'.2 2 (by decide)
    have y3 : ν' 3 = ν2 3 := x'.2 3 (by decide)
    have y4 : ν' 4 = ν2 4 := x'.2 4 (by decide)
    have y5 : ν' 5 = ν2 5 := x'.2 5 (by decide)
    have y6 : ν' 6 = ν2 6 := x'.2 6 (by decide)
    have vr : ν' 8 = ((727 + (ν' 7).toNat : Nat) : Int) := by
      obtain ⟨b', q1, q2⟩ := g'.rdA (a := 726) (n := 7) (m := 8) (k := 0) (by rfl) (j := (ν' 7).toNat) (by omega)
      rw [F.k H c_ra726 c_rq104 (by decide) (by rfl), hR _ (by omega)] at q1
      cases q1
      exact q2.symm
    have d0 : c_I r.2.1 (727 + (ν' 7).toNat) 0 = ν' 9 + 0 := g'.rI (base := (3, 8, 0)) (slot := (0, 0, 0)) (val := (1, 9, 0)) (by rfl) (by decide) (by decide) (by show ((727 + (ν' 7).toNat : Nat) : Int) = ν' 8; omega) rfl
    rw [c_I_cg (F.k H (sRow _ (by omega)) c_rq105 (by decide) (by rfl) _)] at d0
    have d1 : c_I r.2.1 (727 + (ν' 7).toNat) 1 = ν' 10 + 0 := g'.rI (base := (3, 8, 0)) (slot := (0, 0, 1)) (val := (1, 10, 0)) (by rfl) (by decide) (by decide) (by show ((727 + (ν' 7).toNat : Nat) : Int) = ν' 8; omega) rfl
    rw [c_I_cg (F.k H (sRow _ (by omega)) c_rq105 (by decide) (by rfl) _)] at d1
    have d2 : c_I r.2.1 (727 + (ν' 7).toNat) 2 = ν' 11 + 0 := g'.rI (base := (3, 8, 0)) (slot := (0, 0, 2)) (val := (1, 11, 0)) (by rfl) (by decide) (by decide) (by show ((727 + (ν' 7).toNat : Nat) : Int) = ν' 8; omega) rfl
    rw [c_I_cg (F.k H (sRow _ (by omega)) c_rq105 (by decide) (by rfl) _)] at d2
    have d3 : c_I r.2.1 (727 + (ν' 7).toNat) 3 = ν' 12 + 0 := g'.rI (base := (3, 8, 0)) (slot := (0, 0, 3)) (val := (1, 12, 0)) (by rfl) (by decide) (by decide) (by show ((727 + (ν' 7).toNat : Nat) : Int) = ν' 8; omega) rfl
    rw [c_I_cg (F.k H (sRow _ (by omega)) c_rq105 (by decide) (by rfl) _)] at d3
    refine no (ν' 7).toNat ⟨by omega, ?_, by omega, by omega, by omega, by omega⟩
    rw [c_I_of en]
    omega
theorem sp_selln {h : AH} (H : b_H c_K h) (hR : ∀ i, i < 40 → c_at h 726 i = some (.ref (727 + i))) {f l a b y : Int32} (f1 : 0 ≤ f.toInt) (f2 : f.toInt ≤ 19) (l1 : 0 ≤ l.toInt) (l2 : l.toInt ≤ 9) (a1 : 0 ≤ a.toInt) (a2 : a.toInt ≤ 99) (b1 : 0 ≤ b.toInt) (b2 : b.toInt ≤ 99) (y1 : 0 ≤ y.toInt) (y2 : y.toInt ≤ 9) (hf : f.toInt < c_I h 365 44) (hab : a.toInt ≤ b.toInt) (hw : c_I h 372 f.toInt.toNat = 0) (no : ∀ j, ¬ c_ovM h f.toInt l.toInt a.toInt b.toInt j) (hn : c_I h 365 52 < 40) : ∃ r, b_lim 6 249 [.ref 365, .int f, .int l, .int a, .int b, .int y] h = some r ∧ (∃ x, r.1 = .inl (some (.int x)) ∧ x.toInt = c_I h 365 52 + 1) ∧ b_H c_K r.2.1 ∧ b_frm c_K [(50, 52), (50, 53), (50, 55), (105, 0), (106, 0), (107, 0)] h r.2.1 ∧ r.2.2 = (1, 5) ∧ c_I r.2.1 365 52 = c_I h 365 52 + 1 ∧ c_I r.2.1 365 55 = 0 ∧ (c_I r.2.1 (727 + (c_I h 365 52).toNat) 0 = f.toInt ∧ c_I r.2.1 (727 + (c_I h 365 52).toNat) 1 = l.toInt ∧ c_I r.2.1 (727 + (c_I h 365 52).toNat) 2 = a.toInt ∧ c_I r.2.1 (727 + (c_I h 365 52).toNat) 3 = b.toInt ∧ c_I r.2.1 (727 + (c_I h 365 52).toNat) 4 = y.toInt) ∧ ∀ i : Nat, (i : Int) < c_I h 365 52 → ∀ k, k < 5 → c_I r.2.1 (727 + i) k = c_I h (727 + i) k := by
  obtain ⟨c, ec, c1, c2⟩ := H.rdI (a := 365) (j := 44) (lo := 0) (hi := 20) c_ra365 c_rq50 (by decide) (by decide) rfl
  rw [c_I_of ec] at hf
  obtain ⟨n, en, n1, n2⟩ := H.rdI (a := 365) (j := 52) (lo := 0) (hi := 40) c_ra365 c_rq50 (by decide) (by decide) rfl
  obtain ⟨w, ew, w1, w2⟩ := H.rdI (a := 372) (j := f.toInt.toNat) (lo := 0) (hi := 1) c_ra372 c_rq57 (by decide) (show f.toInt.toNat < 20 by omega) rfl
  rw [c_I_of ew] at hw
  rw [c_I_of en] at hn ⊢
  generalize hν : (fun n_ => match n_ with
    | 0 => f.toInt
    | 1 => l.toInt
    | 2 => a.toInt
    | 3 => b.toInt
    | 4 => y.toInt
    | 5 => c.toInt
    | 6 => n.toInt
    | n_ => (fun _ => 0) n_ : BN) = ν2
  have u0 : ν2 0 = f.toInt := by subst hν; rfl
  have u1 : ν2 1 = l.toInt := by subst hν; rfl
  have u2 : ν2 2 = a.toInt := by subst hν; rfl
  have u3 : ν2 3 = b.toInt := by subst hν; rfl
  have u4 : ν2 4 = y.toInt := by subst hν; rfl
  have u5 : ν2 5 = c.toInt := by subst hν; rfl
  have u6 : ν2 6 = n.toInt := by subst hν; rfl
  have g2 := (b_G.nil H (ν := ν2)).ad (ν' := ν2) (E' := [(0, 0, 19), (0, 0, 9), (0, 0, 99), (0, 0, 99), (0, 0, 9), (0, 0, 20), (0, 0, 39)]) (F' := [((2, 365, 0), (0, 0, 44), (1, 5, 0)), ((2, 365, 0), (0, 0, 52), (1, 6, 0)), ((2, 372, 0), (1, 0, 0), (0, 0, 0))]) (C' := [(0, 5, (-1)), (2, 3, 0)]) (fun n hn => absurd hn (Nat.not_lt_zero n))
    ⟨(by show b_q _ _ (ν2 0); rw [u0]; exact b_q.i (by omega) (by omega)), (by show b_q _ _ (ν2 1); rw [u1]; exact b_q.i (by omega) (by omega)), (by show b_q _ _ (ν2 2); rw [u2]; exact b_q.i (by omega) (by omega)), (by show b_q _ _ (ν2 3); rw [u3]; exact b_q.i (by omega) (by omega)), (by show b_q _ _ (ν2 4); rw [u4]; exact b_q.i (by omega) (by omega)), (by show b_q _ _ (ν2 5); rw [u5]; exact b_q.i (by omega) (by omega)), (by show b_q _ _ (ν2 6); rw [u6]; exact b_q.i (by omega) (by omega)), trivial⟩
    ⟨b_fa.mk ec (Or.inl ⟨rfl, rfl⟩) (Or.inl ⟨rfl, rfl⟩) (Or.inr ⟨rfl, by decide, by show _ = ν2 5 + 0; omega⟩), b_fa.mk en (Or.inl ⟨rfl, rfl⟩) (Or.inl ⟨rfl, rfl⟩) (Or.inr ⟨rfl, by decide, by show _ = ν2 6 + 0; omega⟩), b_fa.mk ew (Or.inl ⟨rfl, rfl⟩) (Or.inr ⟨rfl, by decide, by show _ = ν2 0 + 0; omega⟩) (Or.inl ⟨rfl, by show _ = (0 : Int); omega⟩), trivial⟩
    ⟨⟨by decide, by decide, by show ν2 0 ≤ ν2 5 + (-1); omega⟩, ⟨by decide, by decide, by show ν2 2 ≤ ν2 3 + 0; omega⟩, trivial⟩
  obtain ⟨r, r1, k⟩ := c_v249n (ν := ν2) (h := h) (as := [.ref 365, .int f, .int l, .int a, .int b, .int y]) hR g2 (b_S.cons (Or.inl ⟨rfl, rfl⟩) (b_S.cons (Or.inr ⟨rfl, by decide, by show _ = ν2 0 + 0; omega⟩) (b_S.cons (Or.inr ⟨rfl, by decide, by show _ = ν2 1 + 0; omega⟩) (b_S.cons (Or.inr ⟨rfl, by decide, by show _ = ν2 2 + 0; omega⟩) (b_S.cons (Or.inr ⟨rfl, by decide, by show _ = ν2 3 + 0; omega⟩) (b_S.cons (Or.inr ⟨rfl, by decide, by show _ = ν2 4 + 0; omega⟩) b_S.nil))))))
  rcases k with ⟨p, p1, ν', x', fin, g', cst⟩ | ⟨p, p1, ν', x', fin, g', cst⟩
  · have p1 : p ∈ ([(.inl (some (0, 0, 0)), ([(0, 0, 39), (106, 0, 0), (0, 0, 99), (0, 0, 99), (0, 0, 99), (0, 0, 99)], [((2, 726, 0), (1, 7, 0), (3, 8, 0)), ((3, 8, 0), (0, 0, 0), (1, 9, 0)), ((3, 8, 0), (0, 0, 1), (1, 10, 0)), ((3, 8, 0), (0, 0, 2), (1, 11, 0)), ((3, 8, 0), (0, 0, 3), (1, 12, 0)), ((2, 365, 0), (0, 0, 55), (0, 0, 3))], [(7, 6, (-1)), (9, 0, 0), (0, 9, 0), (10, 1, 0), (1, 10, 0), (11, 3, 0), (2, 12, 0)]), (0, 0))] : List BPo) := p1
    rcases List.mem_singleton.mp p1 with rfl
    exfalso
    have F := g'.2.2.2.2.2
    have iv := g'.iv 7 (lo := 0) (hi := 39) rfl
    have k7_6 : ν' 7 ≤ ν' 6 + (-1) := g'.co (a := 7) (b := 6) (c := (-1)) (by decide)
    have k9_0 : ν' 9 ≤ ν' 0 + 0 := g'.co (a := 9) (b := 0) (c := 0) (by decide)
    have k0_9 : ν' 0 ≤ ν' 9 + 0 := g'.co (a := 0) (b := 9) (c := 0) (by decide)
    have k10_1 : ν' 10 ≤ ν' 1 + 0 := g'.co (a := 10) (b := 1) (c := 0) (by decide)
    have k1_10 : ν' 1 ≤ ν' 10 + 0 := g'.co (a := 1) (b := 10) (c := 0) (by decide)
    have k11_3 : ν' 11 ≤ ν' 3 + 0 := g'.co (a := 11) (b := 3) (c := 0) (by decide)
    have k2_12 : ν' 2 ≤ ν' 12 + 0 := g'.co (a := 2) (b := 12) (c := 0) (by decide)
    have y0 : ν' 0 = ν2 0 := x'.2 0 (by decide)
    have y1 : ν' 1 = ν2 1 := x'.2 1 (by decide)
    have y2 : ν' 2 = ν2 2 := x'.2 2 (by decide)
    have y3 : ν' 3 = ν2 3 := x'.2 3 (by decide)
    have y4 : ν' 4 = ν2 4 := x'.2 4 (by decide)
    have y5 : ν' 5 = ν2 5 := x'.2 5 (by decide)
    have y6 : ν' 6 = ν2 6 := x'.2 6 (by decide)
    have vr : ν' 8 = ((727 + (ν' 7).toNat : Nat) : Int) := by
      obtain ⟨b', q1, q2⟩ := g'.rdA (a := 726) (n := 7) (m := 8) (k := 0) (by rfl) (j := (ν' 7).toNat) (by omega)
      rw [F.k H c_ra726 c_rq104 (by decide) (by rfl), hR _ (by omega)] at q1
      cases q1
      exact q2.symm
    have d0 : c_I r.2.1 (727 + (ν' 7).toNat) 0 = ν' 9 + 0 := g'.rI (base := (3, 8, 0)) (slot := (0, 0, 0)) (val := (1, 9, 0)) (by rfl) (by decide) (by decide) (by show ((727 + (ν' 7).toNat : Nat) : Int) = ν' 8; omega) rfl
    rw [c_I_cg (F.k H (sRow _ (by omega)) c_rq105 (by decide) (by rfl) _)] at d0
    have d1 : c_I r.2.1 (727 + (ν' 7).toNat) 1 = ν' 10 + 0 := g'.rI (base := (3, 8, 0)) (slot := (0, 0, 1)) (val := (1, 10, 0)) (by rfl) (by decide) (by decide) (by show ((727 + (ν' 7).toNat : Nat) : Int) = ν' 8; omega) rfl
    rw [c_I_cg (F.k H (sRow _ (by omega)) c_rq105 (by decide) (by rfl) _)] at d1
    have d2 : c_I r.2.1 (727 + (ν' 7).toNat) 2 = ν' 11 + 0 := g'.rI (base := (3, 8, 0)) (slot := (0, 0, 2)) (val := (1, 11, 0)) (by rfl) (by decide) (by decide) (by show ((727 + (ν' 7).toNat : Nat) : Int) = ν' 8; omega) rfl
    rw [c_I_cg (F.k H (sRow _ (by omega)) c_rq105 (by decide) (by rfl) _)] at d2
    have d3 : c_I r.2.1 (727 + (ν' 7).toNat) 3 = ν' 12 + 0 := g'.rI (base := (3, 8, 0)) (slot := (0, 0, 3)) (val := (1, 12, 0)) (by rfl) (by decide) (by decide) (by show ((727 + (ν' 7).toNat : Nat) : Int) = ν' 8; omega) rfl
    rw [c_I_cg (F.k H (sRow _ (by omega)) c_rq105 (by decide) (by rfl) _)] at d3
    refine no (ν' 7).toNat ⟨by omega, ?_, by omega, by omega, by omega, by omega⟩
    rw [c_I_of en]
    omega
  · have p1 : p ∈ ([(.inl (some (1, 6, 1)), ([(106, 0, 0)], [((2, 365, 0), (0, 0, 52), (1, 6, 1)), ((2, 365, 0), (0, 0, 55), (0, 0, 0)), ((2, 726, 0), (1, 6, 0), (3, 7, 0)), ((3, 7, 0), (0, 0, 0), (1, 0, 0)), ((3, 7, 0), (0, 0, 1), (1, 1, 0)), ((3, 7, 0), (0, 0, 2), (1, 2, 0)), ((3, 7, 0), (0, 0, 3), (1, 3, 0)), ((3, 7, 0), (0, 0, 4), (1, 4, 0))], []), (1, 5))] : List BPo) := p1
    rcases List.mem_singleton.mp p1 with rfl
    obtain ⟨x, e, hx⟩ := fin.int (by decide)
    have F := g'.2.2.2.2.2
    have y0 : ν' 0 = ν2 0 := x'.2 0 (by decide)
    have y1 : ν' 1 = ν2 1 := x'.2 1 (by decide)
    have y2 : ν' 2 = ν2 2 := x'.2 2 (by decide)
    have y3 : ν' 3 = ν2 3 := x'.2 3 (by decide)
    have y4 : ν' 4 = ν2 4 := x'.2 4 (by decide)
    have y5 : ν' 5 = ν2 5 := x'.2 5 (by decide)
    have y6 : ν' 6 = ν2 6 := x'.2 6 (by decide)
    have hx : x.toInt = ν' 6 + 1 := hx
    have R1 : ∀ i, i < 40 → c_at r.2.1 726 i = some (.ref (727 + i)) := fun i hi => by rw [F.k H c_ra726 c_rq104 (by decide) (by rfl)]; exact hR i hi
    have vr : ν' 7 = ((727 + n.toInt.toNat : Nat) : Int) := by
      obtain ⟨b', q1, q2⟩ := g'.rdA (a := 726) (n := 6) (m := 7) (k := 0) (by rfl) (j := n.toInt.toNat) (by omega)
      rw [R1 _ (by omega)] at q1
      cases q1
      exact q2.symm
    have s0 : c_I r.2.1 365 52 = ν' 6 + 1 := g'.rI (base := (2, 365, 0)) (slot := (0, 0, 52)) (val := (1, 6, 1)) (by rfl) (by decide) (by decide) rfl rfl
    have s1 : c_I r.2.1 365 55 = (0 : Int) := g'.rI (base := (2, 365, 0)) (slot := (0, 0, 55)) (val := (0, 0, 0)) (by rfl) (by decide) (by decide) rfl rfl
    have d0 : c_I r.2.1 (727 + n.toInt.toNat) 0 = ν' 0 + 0 := g'.rI (base := (3, 7, 0)) (slot := (0, 0, 0)) (val := (1, 0, 0)) (by rfl) (by decide) (by decide) (by show ((727 + n.toInt.toNat : Nat) : Int) = ν' 7; exact vr.symm) rfl
    have d1 : c_I r.2.1 (727 + n.toInt.toNat) 1 = ν' 1 + 0 := g'.rI (base := (3, 7, 0)) (slot := (0, 0, 1)) (val := (1, 1, 0)) (by rfl) (by decide) (by decide) (by show ((727 + n.toInt.toNat : Nat) : Int) = ν' 7; exact vr.symm) rfl
    have d2 : c_I r.2.1 (727 + n.toInt.toNat) 2 = ν' 2 + 0 := g'.rI (base := (3, 7, 0)) (slot := (0, 0, 2)) (val := (1, 2, 0)) (by rfl) (by decide) (by decide) (by show ((727 + n.toInt.toNat : Nat) : Int) = ν' 7; exact vr.symm) rfl
    have d3 : c_I r.2.1 (727 + n.toInt.toNat) 3 = ν' 3 + 0 := g'.rI (base := (3, 7, 0)) (slot := (0, 0, 3)) (val := (1, 3, 0)) (by rfl) (by decide) (by decide) (by show ((727 + n.toInt.toNat : Nat) : Int) = ν' 7; exact vr.symm) rfl
    have d4 : c_I r.2.1 (727 + n.toInt.toNat) 4 = ν' 4 + 0 := g'.rI (base := (3, 7, 0)) (slot := (0, 0, 4)) (val := (1, 4, 0)) (by rfl) (by decide) (by decide) (by show ((727 + n.toInt.toNat : Nat) : Int) = ν' 7; exact vr.symm) rfl
    refine ⟨r, r1, ⟨x, e, by omega⟩, g'.2.2.2.2.1, F, cst, by omega, s1, ⟨by omega, by omega, by omega, by omega, by omega⟩, fun i hi k hk => ?_⟩
    have hi40 : i < 40 := by omega
    obtain ⟨z0, ez0, z01, z02⟩ := H.rdI (a := 727 + i) (j := 0) (lo := 0) (hi := 99) (sRow i hi40) c_rq105 (by decide) (by decide) rfl
    obtain ⟨z1, ez1, z11, z12⟩ := H.rdI (a := 727 + i) (j := 1) (lo := 0) (hi := 99) (sRow i hi40) c_rq105 (by decide) (by decide) rfl
    obtain ⟨z2, ez2, z21, z22⟩ := H.rdI (a := 727 + i) (j := 2) (lo := 0) (hi := 99) (sRow i hi40) c_rq105 (by decide) (by decide) rfl
    obtain ⟨z3, ez3, z31, z32⟩ := H.rdI (a := 727 + i) (j := 3) (lo := 0) (hi := 99) (sRow i hi40) c_rq105 (by decide) (by decide) rfl
    obtain ⟨z4, ez4, z41, z42⟩ := H.rdI (a := 727 + i) (j := 4) (lo := 0) (hi := 99) (sRow i hi40) c_rq105 (by decide) (by decide) rfl
    generalize hv : (fun n_ => match n_ with
      | 0 => f.toInt
      | 1 => l.toInt
      | 2 => a.toInt
      | 3 => b.toInt
      | 4 => y.toInt
      | 5 => c.toInt
      | 6 => n.toInt
      | 7 => (i : Int)
      | 8 => ((727 + i : Nat) : Int)
      | 9 => z0.toInt
      | 10 => z1.toInt
      | 11 => z2.toInt
      | 12 => z3.toInt
      | 13 => z4.toInt
      | n_ => (fun _ => 0) n_ : BN) = ν5
    have v0 : ν5 0 = f.toInt := by subst hv; rfl
    have v1 : ν5 1 = l.toInt := by subst hv; rfl
    have v2 : ν5 2 = a.toInt := by subst hv; rfl
    have v3 : ν5 3 = b.toInt := by subst hv; rfl
    have v4 : ν5 4 = y.toInt := by subst hv; rfl
    have v5 : ν5 5 = c.toInt := by subst hv; rfl
    have v6 : ν5 6 = n.toInt := by subst hv; rfl
    have v7 : ν5 7 = (i : Int) := by subst hv; rfl
    have v8 : ν5 8 = ((727 + i : Nat) : Int) := by subst hv; rfl
    have v9 : ν5 9 = z0.toInt := by subst hv; rfl
    have v10 : ν5 10 = z1.toInt := by subst hv; rfl
    have v11 : ν5 11 = z2.toInt := by subst hv; rfl
    have v12 : ν5 12 = z3.toInt := by subst hv; rfl
    have v13 : ν5 13 = z4.toInt := by subst hv; rfl
    have g5 := (b_G.nil H (ν := ν5)).ad (ν' := ν5) (E' := [(0, 0, 19), (0, 0, 9), (0, 0, 99), (0, 0, 99), (0, 0, 9), (0, 0, 20), (0, 0, 39), (0, 0, 39), (106, 0, 0), (0, 0, 99), (0, 0, 99), (0, 0, 99), (0, 0, 99), (0, 0, 99)]) (F' := [((2, 365, 0), (0, 0, 44), (1, 5, 0)), ((2, 365, 0), (0, 0, 52), (1, 6, 0)), ((2, 372, 0), (1, 0, 0), (0, 0, 0)), ((3, 8, 0), (0, 0, 0), (1, 9, 0)), ((3, 8, 0), (0, 0, 1), (1, 10, 0)), ((3, 8, 0), (0, 0, 2), (1, 11, 0)), ((3, 8, 0), (0, 0, 3), (1, 12, 0)), ((3, 8, 0), (0, 0, 4), (1, 13, 0)), ((2, 726, 0), (1, 7, 0), (3, 8, 0))]) (C' := [(0, 5, (-1)), (2, 3, 0), (7, 6, (-1))]) (fun n hn => absurd hn (Nat.not_lt_zero n))
      ⟨(by show b_q _ _ (ν5 0); rw [v0]; exact b_q.i (by omega) (by omega)), (by show b_q _ _ (ν5 1); rw [v1]; exact b_q.i (by omega) (by omega)), (by show b_q _ _ (ν5 2); rw [v2]; exact b_q.i (by omega) (by omega)), (by show b_q _ _ (ν5 3); rw [v3]; exact b_q.i (by omega) (by omega)), (by show b_q _ _ (ν5 4); rw [v4]; exact b_q.i (by omega) (by omega)), (by show b_q _ _ (ν5 5); rw [v5]; exact b_q.i (by omega) (by omega)), (by show b_q _ _ (ν5 6); rw [v6]; exact b_q.i (by omega) (by omega)), (by show b_q _ _ (ν5 7); rw [v7]; exact b_q.i (by omega) (by omega)), (by show b_q _ _ (ν5 8); rw [v8]; exact b_q.r (sRow i hi40)), (by show b_q _ _ (ν5 9); rw [v9]; exact b_q.i (by omega) (by omega)), (by show b_q _ _ (ν5 10); rw [v10]; exact b_q.i (by omega) (by omega)), (by show b_q _ _ (ν5 11); rw [v11]; exact b_q.i (by omega) (by omega)), (by show b_q _ _ (ν5 12); rw [v12]; exact b_q.i (by omega) (by omega)), (by show b_q _ _ (ν5 13); rw [v13]; exact b_q.i (by omega) (by omega)), trivial⟩
      ⟨b_fa.mk ec (Or.inl ⟨rfl, rfl⟩) (Or.inl ⟨rfl, rfl⟩) (Or.inr ⟨rfl, by decide, by show _ = ν5 5 + 0; omega⟩), b_fa.mk en (Or.inl ⟨rfl, rfl⟩) (Or.inl ⟨rfl, rfl⟩) (Or.inr ⟨rfl, by decide, by show _ = ν5 6 + 0; omega⟩), b_fa.mk ew (Or.inl ⟨rfl, rfl⟩) (Or.inr ⟨rfl, by decide, by show _ = ν5 0 + 0; omega⟩) (Or.inl ⟨rfl, by show _ = (0 : Int); omega⟩), b_fa.mk ez0 (Or.inr ⟨rfl, by decide, by show _ = ν5 8; omega⟩) (Or.inl ⟨rfl, rfl⟩) (Or.inr ⟨rfl, by decide, by show _ = ν5 9 + 0; omega⟩), b_fa.mk ez1 (Or.inr ⟨rfl, by decide, by show _ = ν5 8; omega⟩) (Or.inl ⟨rfl, rfl⟩) (Or.inr ⟨rfl, by decide, by show _ = ν5 10 + 0; omega⟩), b_fa.mk ez2 (Or.inr ⟨rfl, by decide, by show _ = ν5 8; omega⟩) (Or.inl ⟨rfl, rfl⟩) (Or.inr ⟨rfl, by decide, by show _ = ν5 11 + 0; omega⟩), b_fa.mk ez3 (Or.inr ⟨rfl, by decide, by show _ = ν5 8; omega⟩) (Or.inl ⟨rfl, rfl⟩) (Or.inr ⟨rfl, by decide, by show _ = ν5 12 + 0; omega⟩), b_fa.mk ez4 (Or.inr ⟨rfl, by decide, by show _ = ν5 8; omega⟩) (Or.inl ⟨rfl, rfl⟩) (Or.inr ⟨rfl, by decide, by show _ = ν5 13 + 0; omega⟩), b_fa.mk (hR i hi40) (Or.inl ⟨rfl, rfl⟩) (Or.inr ⟨rfl, by decide, by show _ = ν5 7 + 0; omega⟩) (Or.inr ⟨rfl, by decide, by show _ = ν5 8; omega⟩), trivial⟩
      ⟨⟨by decide, by decide, by show ν5 0 ≤ ν5 5 + (-1); omega⟩, ⟨by decide, by decide, by show ν5 2 ≤ ν5 3 + 0; omega⟩, ⟨by decide, by decide, by show ν5 7 ≤ ν5 6 + (-1); omega⟩, trivial⟩
    obtain ⟨r', r1', k'⟩ := c_v249m (ν := ν5) (h := h) (as := [.ref 365, .int f, .int l, .int a, .int b, .int y]) hR g5 (b_S.cons (Or.inl ⟨rfl, rfl⟩) (b_S.cons (Or.inr ⟨rfl, by decide, by show _ = ν5 0 + 0; omega⟩) (b_S.cons (Or.inr ⟨rfl, by decide, by show _ = ν5 1 + 0; omega⟩) (b_S.cons (Or.inr ⟨rfl, by decide, by show _ = ν5 2 + 0; omega⟩) (b_S.cons (Or.inr ⟨rfl, by decide, by show _ = ν5 3 + 0; omega⟩) (b_S.cons (Or.inr ⟨rfl, by decide, by show _ = ν5 4 + 0; omega⟩) b_S.nil))))))
    rw [r1] at r1'
    cases r1'
    rcases k' with ⟨p', p1', ν6, x6, fin6, g6, cst6⟩ | ⟨p', p1', ν6, x6, fin6, g6, cst6⟩
    · exfalso
      have p1' : p' ∈ ([(.inl (some (0, 0, 0)), ([], [((2, 365, 0), (0, 0, 55), (0, 0, 3))], []), (0, 0))] : List BPo) := p1'
      rcases List.mem_singleton.mp p1' with rfl
      obtain ⟨x2, e2, hx2⟩ := fin6.int (by decide)
      rw [e] at e2
      cases e2
      have hx2 : x.toInt = 0 := hx2
      omega
    · have p1' : p' ∈ ([(.inl (some (1, 6, 1)), ([(106, 0, 0)], [((2, 365, 0), (0, 0, 52), (1, 6, 1)), ((2, 365, 0), (0, 0, 55), (0, 0, 0)), ((2, 726, 0), (1, 6, 0), (3, 14, 0)), ((3, 14, 0), (0, 0, 0), (1, 0, 0)), ((3, 14, 0), (0, 0, 1), (1, 1, 0)), ((3, 14, 0), (0, 0, 2), (1, 2, 0)), ((3, 14, 0), (0, 0, 3), (1, 3, 0)), ((3, 14, 0), (0, 0, 4), (1, 4, 0)), ((3, 8, 0), (0, 0, 0), (1, 9, 0)), ((3, 8, 0), (0, 0, 1), (1, 10, 0)), ((3, 8, 0), (0, 0, 2), (1, 11, 0)), ((3, 8, 0), (0, 0, 3), (1, 12, 0)), ((3, 8, 0), (0, 0, 4), (1, 13, 0)), ((2, 726, 0), (1, 7, 0), (3, 8, 0))], []), (1, 5))] : List BPo) := p1'
      rcases List.mem_singleton.mp p1' with rfl
      have y8 : ν6 8 = ν5 8 := x6.2 8 (by decide)
      have y9 : ν6 9 = ν5 9 := x6.2 9 (by decide)
      have f0 : c_I r.2.1 (727 + i) 0 = ν6 9 + 0 := g6.rI (base := (3, 8, 0)) (slot := (0, 0, 0)) (val := (1, 9, 0)) (by rfl) (by decide) (by decide) (by show ((727 + i : Nat) : Int) = ν6 8; omega) rfl
      have y10 : ν6 10 = ν5 10 := x6.2 10 (by decide)
      have f1 : c_I r.2.1 (727 + i) 1 = ν6 10 + 0 := g6.rI (base := (3, 8, 0)) (slot := (0, 0, 1)) (val := (1, 10, 0)) (by rfl) (by decide) (by decide) (by show ((727 + i : Nat) : Int) = ν6 8; omega) rfl
      have y11 : ν6 11 = ν5 11 := x6.2 11 (by decide)
      have f2 : c_I r.2.1 (727 + i) 2 = ν6 11 + 0 := g6.rI (base := (3, 8, 0)) (slot := (0, 0, 2)) (val := (1, 11, 0)) (by rfl) (by decide) (by decide) (by show ((727 + i : Nat) : Int) = ν6 8; omega) rfl
      have y12 : ν6 12 = ν5 12 := x6.2 12 (by decide)
      have f3 : c_I r.2.1 (727 + i) 3 = ν6 12 + 0 := g6.rI (base := (3, 8, 0)) (slot := (0, 0, 3)) (val := (1, 12, 0)) (by rfl) (by decide) (by decide) (by show ((727 + i : Nat) : Int) = ν6 8; omega) rfl
      have y13 : ν6 13 = ν5 13 := x6.2 13 (by decide)
      have f4 : c_I r.2.1 (727 + i) 4 = ν6 13 + 0 := g6.rI (base := (3, 8, 0)) (slot := (0, 0, 4)) (val := (1, 13, 0)) (by rfl) (by decide) (by decide) (by show ((727 + i : Nat) : Int) = ν6 8; omega) rfl
      match k, hk with
      | 0, _ => rw [f0, c_I_of ez0]; omega
      | 1, _ => rw [f1, c_I_of ez1]; omega
      | 2, _ => rw [f2, c_I_of ez2]; omega
      | 3, _ => rw [f3, c_I_of ez3]; omega
      | 4, _ => rw [f4, c_I_of ez4]; omega
      | k + 5, hk => omega
