/-! join: nobody waits twice, so there is room in the row -/
def c_r225 : BRw := (225, 1, ([(2, 365, 0), (1, 0, 0), (1, 1, 0)], ([(0, 0, 15), (0, 0, 59)], [], [])), [], [(.inl (some (1, 2, 0)), ([(0, 0, 1)], [], []), (0, 0))])
def c_c225 : List BCu := [(5, [some (2, 365, 0), some (1, 0, 0), some (1, 1, 0), some (1, 2, 0), some (1, 3, 0)], ([(0, 0, 15), (0, 0, 59), (0, 0, 1), (0, 0, 16)], [], []), ([(3, (-1))], 20), none)]
theorem c_v225 : b_valid c_K c_r225 := b_chk_ok c_hJ (d := 0) (F := 3000) (R := c_r225) (cuts := c_c225) (b_orc_ok c_hJ (tab := []) (fun _ h => absurd h List.not_mem_nil) 3000 0) rfl (by decide +kernel)
def c_r225w : BRw := (225, 1, ([(2, 365, 0), (1, 0, 0), (1, 1, 0)], ([(0, 0, 15), (0, 0, 59), (0, 1, 16), (84, 0, 0), (0, 0, 15)], [((2, 555, 0), (1, 1, 0), (1, 2, 0)), ((2, 494, 0), (1, 1, 0), (3, 3, 0)), ((3, 3, 0), (1, 4, 0), (1, 0, 0))], [(4, 2, (-1))])), [], [(.inl (some (0, 0, 1)), ([], [], []), (0, 0))])
def c_c225w : List BCu := [(5, [some (2, 365, 0), some (1, 0, 0), some (1, 1, 0), some (1, 5, 0), some (1, 6, 0)], ([(0, 0, 15), (0, 0, 59), (0, 1, 16), (84, 0, 0), (0, 0, 15), (0, 0, 1), (0, 0, 15)], [((2, 555, 0), (1, 1, 0), (1, 2, 0)), ((2, 494, 0), (1, 1, 0), (3, 3, 0)), ((3, 3, 0), (1, 4, 0), (1, 0, 0))], [(4, 2, (-1)), (6, 4, 0), (6, 2, (-1))]), ([(6, (-1))], 20), some (6, 4)),
  (5, [some (2, 365, 0), some (1, 0, 0), some (1, 1, 0), some (0, 0, 1), some (1, 5, 0)], ([(0, 0, 15), (0, 0, 59), (0, 1, 16), (84, 0, 0), (0, 0, 15), (0, 0, 16)], [((2, 555, 0), (1, 1, 0), (1, 2, 0)), ((2, 494, 0), (1, 1, 0), (3, 3, 0)), ((3, 3, 0), (1, 4, 0), (1, 0, 0))], [(4, 2, (-1))]), ([(5, (-1))], 20), none)]
theorem c_v225w : b_valid c_K c_r225w := b_chk_ok c_hJ (d := 0) (F := 3000) (R := c_r225w) (cuts := c_c225w) (b_orc_ok c_hJ (tab := []) (fun _ h => absurd h List.not_mem_nil) 3000 0) rfl (by decide +kernel)
theorem jO : b_cal c_K (b_lim 3) (b_orc c_K [] 3000 3) := b_orc_ok c_hJ (fun _ h => absurd h List.not_mem_nil) 3000 3
def jA : BSg := ((226, 0), ([some (2, 365, 0), some (1, 0, 0), some (1, 1, 0)], [], ([(0, (-2147483648), 2147483647), (0, (-2147483648), 2147483647)], [], [])), [(50, 55)], [
  (.inl (.inl (some (0, 0, 0))), ([], [], []), (0, 0)),
  (.inr (58, [some (2, 365, 0), some (1, 2, 0), some (1, 3, 0)], [(1, 3, 0), (1, 2, 0), (2, 365, 0), (2, 365, 0)]), ([(0, 0, 15), (0, 0, 59)], [], []), (0, 0))])
theorem jAC : b_sgc c_K (b_orc c_K [] 3000 3) jA [58] 3000 = true := by decide +kernel
def jB : BSg := ((226, 61), ([some (2, 365, 0), some (1, 2, 0), some (1, 3, 0)], [(0, 0, 1), (2, 365, 0)], ([(0, (-2147483648), 2147483647), (0, (-2147483648), 2147483647), (0, 0, 15), (0, 0, 59)], [], [])), [(50, 55)], [
  (.inl (.inl (some (0, 0, 0))), ([], [], []), (0, 0))])
theorem jBC : b_sgc c_K (b_orc c_K [] 3000 3) jB [] 3000 = true := by decide +kernel
def jC : BSg := ((226, 61), ([some (2, 365, 0), some (1, 2, 0), some (1, 3, 0)], [(0, 0, 0), (2, 365, 0)], ([(0, (-2147483648), 2147483647), (0, (-2147483648), 2147483647), (0, 0, 15), (0, 0, 59)], [], [])), [(50, 55)], [
  (.inr (78, [some (2, 365, 0), some (1, 2, 0), some (1, 3, 0)], []), ([], [], []), (0, 0))])
theorem jCC : b_sgc c_K (b_orc c_K [] 3000 3) jC [78] 3000 = true := by decide +kernel
def jD : BSg := ((226, 78), ([some (2, 365, 0), some (1, 2, 0), some (1, 3, 0)], [], ([(0, (-2147483648), 2147483647), (0, (-2147483648), 2147483647), (0, 0, 15), (0, 0, 59)], [], [])), [], [
  (.inr (91, [some (2, 365, 0), some (1, 2, 0), some (1, 3, 0)], [(1, 2, 0), (1, 4, 0), (3, 5, 0)]), ([(0, 0, 16), (84, 0, 0)], [((2, 555, 0), (1, 3, 0), (1, 4, 0)), ((2, 494, 0), (1, 3, 0), (3, 5, 0))], []), (0, 0))])
theorem jDC : b_sgc c_K (b_orc c_K [] 3000 3) jD [91] 3000 = true := by decide +kernel
def jE : BSg := ((226, 92), ([some (2, 365, 0), some (1, 2, 0), some (1, 3, 0)], [], ([(0, (-2147483648), 2147483647), (0, (-2147483648), 2147483647), (0, 0, 15), (0, 0, 59)], [], [])), [], [
  (.inr (101, [some (2, 365, 0), some (1, 2, 0), some (1, 3, 0)], [(1, 4, 1), (1, 3, 0), (2, 555, 0)]), ([(0, 0, 16)], [((2, 555, 0), (1, 3, 0), (1, 4, 0))], []), (0, 0))])
theorem jEC : b_sgc c_K (b_orc c_K [] 3000 3) jE [101] 3000 = true := by decide +kernel
def jF : BSg := ((226, 102), ([some (2, 365, 0), some (1, 2, 0), some (1, 3, 0)], [], ([(0, (-2147483648), 2147483647), (0, (-2147483648), 2147483647), (0, 0, 15), (0, 0, 59)], [], [])), [], [
  (.inl (.inl (some (1, 4, 0))), ([(0, 0, 16)], [], []), (0, 0))])
theorem jFC : b_sgc c_K (b_orc c_K [] 3000 3) jF [] 3000 = true := by decide +kernel
/-! What a contract gives -/
theorem b_valid.use {K : BH} {R : BRw} (hv : b_valid K R) {h : AH} {as : List Value} (ν : BN) (H : b_H K h) (h1 : b_satL K ν 0 R.2.2.1.2.1) (h2 : b_faL R.2.2.1.2.1.length ν h R.2.2.1.2.2.1) (h3 : b_coL R.2.2.1.2.1.length ν R.2.2.1.2.2.2) (ha : b_S R.2.2.1.2.1.length ν R.2.2.1.1 as) : ∃ r, b_lim R.2.1 R.1 as h = some r ∧ b_post K R ν h r := by
  refine hv ν h as ⟨fun n q hq => ?_, fun f hf => h2.at f hf, fun c hc => h3.at c hc, (fun o ho => by cases ho), H, b_frm.rf⟩ ha
  have := h1.at n q hq
  rw [Nat.zero_add] at this
  exact this
theorem b_post.intS {K : BH} {R : BRw} {ν : BN} {h : AH} {r : AR} {b : BV} {E : BQ} {F : BF} {C : BC} {c : Nat × Nat} (hp : R.2.2.2.2 = [(.inl (some b), (E, F, C), c)]) (hb : b.1 < 2) (k : b_post K R ν h r) : ∃ (x : Int32) (h' : AH) (ν' : BN), r = (.inl (some (.int x)), h', c.1, c.2) ∧ b_ext R.2.2.1.2.1.length (R.2.2.1.2.1 ++ E).length ν ν' ∧ b_i (R.2.2.1.2.1 ++ E).length ν' b x.toInt ∧ b_G K ν' h h' (R.2.2.1.2.1 ++ E, F, C, [], R.2.2.2.1) := by
  obtain ⟨p, p1, ν', x, q1, q2, q3⟩ := k
  rw [hp] at p1
  obtain rfl := List.mem_singleton.mp p1
  obtain ⟨r1, r2, r3⟩ := r
  have q3 : r3 = c := q3
  cases r1 with
  | inr k' => exact q1.elim
  | inl v =>
    cases v with
    | none => exact q1.elim
    | some v =>
      obtain ⟨x', rfl, hx⟩ := b_v.int (b := b) q1 hb
      exact ⟨x', r2, ν', by rw [show r3 = c from q3], x, hx, q2⟩
/-! Nobody waits twice -/
theorem c_wr0 : ∀ s, s < 60 → c_wr[s]? = some (495 + s) := by decide +kernel
theorem c_wrL : c_wr.length = 60 := by decide +kernel
theorem c_wrI {s a : Nat} (h : c_wr[s]? = some a) : s < 60 ∧ a = 495 + s := by
  have h1 : s < 60 := by rw [← c_wrL]; exact (List.getElem?_eq_some_iff.mp h).1
  rw [c_wr0 s h1] at h
  cases h
  exact ⟨h1, rfl⟩
theorem J_at {h : AH} (J : c_Ja h) {s a : Nat} (e : c_at h 494 s = some (.ref a)) : c_wr[s]? = some a := by
  obtain ⟨⟨t, h1⟩, -⟩ := J
  unfold c_at at e
  rw [h1] at e
  have e : (c_wr.map Value.ref)[s]? = some (.ref a) := e
  rw [List.getElem?_map] at e
  cases hw : c_wr[s]? with
  | none => rw [hw] at e; cases e
  | some b => rw [hw] at e; cases e; rfl
theorem J_dis {h : AH} (J : c_Ja h) {s a : Nat} {n : Int32} (hs : c_wr[s]? = some a) (e : c_at h 555 s = some (.int n)) {i j : Nat} (hij : i < j) (hj : (j : Int) < n.toInt) : c_at h a i ≠ c_at h a j := by
  obtain ⟨-, ⟨x, h2⟩, h3, h4⟩ := J
  obtain ⟨y, hy⟩ := h3 a (List.mem_of_getElem? hs)
  unfold c_at at e ⊢
  rw [h2] at e
  rw [hy]
  exact h4 s a x.1 y.1 x.2 y.2 n hs h2 e hy i j hij hj
theorem J_put1 {h : AH} (J : c_Ja h) {s a k t : Nat} {n : Int32} {v : Value} {ws : List Value} (hs : c_wr[s]? = some a) (e : c_at h 555 s = some (.int n)) (ha : h[a]? = some (t, ws)) (hk : n.toInt ≤ k) : c_Ja (h.set a (t, ws.set k v)) := by
  obtain ⟨⟨t0, h1⟩, ⟨xB, h2⟩, h3, h4⟩ := J
  obtain ⟨s1, s2⟩ := c_wrI hs
  have lt := (List.getElem?_eq_some_iff.mp ha).1
  refine ⟨⟨t0, by rw [List.getElem?_set_ne (by omega)]; exact h1⟩, ⟨xB, by rw [List.getElem?_set_ne (by omega)]; exact h2⟩, fun b hb => ?_, fun s' b t1 t2 ms ws' n' hs' hB hn hb i j hij hj => ?_⟩
  · by_cases q : b = a
    · subst q
      exact ⟨_, List.getElem?_set_self lt⟩
    · rw [List.getElem?_set_ne (Ne.symm q)]
      exact h3 b hb
  · rw [List.getElem?_set_ne (by omega)] at hB
    by_cases q : b = a
    · subst q
      obtain ⟨q1, q2⟩ := c_wrI hs'
      have q3 : s' = s := by omega
      subst q3
      rw [List.getElem?_set_self lt] at hb
      cases hb
      have e2 : n' = n := by
        unfold c_at at e
        rw [hB] at e
        have e : ms[s']? = some (.int n) := e
        rw [hn] at e
        cases e
        rfl
      subst e2
      rw [List.getElem?_set_ne (by omega), List.getElem?_set_ne (by omega)]
      exact h4 s' b t1 t ms ws n' hs' hB hn ha i j hij hj
    · rw [List.getElem?_set_ne (Ne.symm q)] at hb
      exact h4 s' b t1 t2 ms ws' n' hs' hB hn hb i j hij hj
theorem J_put2 {h : AH} (J : c_Ja h) {s a t u m : Nat} {n n2 : Int32} {ms ws : List Value} (hs : c_wr[s]? = some a) (hB0 : h[555]? = some (t, ms)) (hn0 : ms[s]? = some (.int n)) (ha : h[a]? = some (u, ws)) (hm : n.toInt = m) (hn2 : n2.toInt = n.toInt + 1) (hd : ∀ i, i < m → ws[i]? ≠ ws[m]?) : c_Ja (h.set 555 (t, ms.set s (.int n2))) := by
  obtain ⟨⟨t0, h1⟩, ⟨xB, h2⟩, h3, h4⟩ := J
  have lt := (List.getElem?_eq_some_iff.mp hB0).1
  have ls := (List.getElem?_eq_some_iff.mp hn0).1
  refine ⟨⟨t0, by rw [List.getElem?_set_ne (by omega)]; exact h1⟩, ⟨_, List.getElem?_set_self lt⟩, fun b hb => ?_, fun s' b t1 t2 ms' ws' n' hs' hB hn hb i j hij hj => ?_⟩
  · obtain ⟨s', q⟩ := List.mem_iff_getElem?.mp hb
    have := c_wrI q
    rw [List.getElem?_set_ne (by omega)]
    exact h3 b hb
  · obtain ⟨q1, q2⟩ := c_wrI hs'
    rw [List.getElem?_set_ne (by omega)] at hb
    rw [List.getElem?_set_self lt] at hB
    cases hB
    by_cases q : s' = s
    · subst q
      rw [hs] at hs'
      cases hs'
      rw [ha] at hb
      cases hb
      rw [List.getElem?_set_self ls] at hn
      cases hn
      by_cases c : (j : Int) < n.toInt
      · exact h4 s' a t u ms ws n hs hB0 hn0 ha i j hij c
      · have e : j = m := by omega
        rw [e]
        exact hd i (by omega)
    · rw [List.getElem?_set_ne (Ne.symm q)] at hn
      exact h4 s' b t t2 ms ws' n' hs' hB0 hn hb i j hij hj
/-- drawers -/
theorem c_pigeon : ∀ (m n : Nat) (f : Nat → Nat), (∀ i, i < n → f i < m) → (∀ i j, i < j → j < n → f i ≠ f j) → n ≤ m
  | 0, 0, _, _, _ => Nat.le_refl _
  | 0, n + 1, f, h, _ => absurd (h 0 (Nat.succ_pos _)) (Nat.not_lt_zero _)
  | m + 1, 0, _, _, _ => Nat.zero_le _
  | m + 1, n + 1, f, h, hd => by
    refine Nat.succ_le_succ (c_pigeon m n (fun i => if f i = m then f n else f i) (fun i hi => ?_) (fun i j hij hj => ?_))
    · have h1 := h i (Nat.lt_succ_of_lt hi)
      have h2 := h n (Nat.lt_succ_self _)
      have h3 := hd i n hi (Nat.lt_succ_self _)
      split <;> omega
    · have h1 := hd i j hij (Nat.lt_succ_of_lt hj)
      have h2 := hd i n (by omega) (Nat.lt_succ_self _)
      have h3 := hd j n hj (Nat.lt_succ_self _)
      split <;> split <;> omega
/-- what waitsFor answers -/
theorem j_wf {h : AH} (H : b_H c_K h) {p q : Int32} (hp : 0 ≤ p.toInt ∧ p.toInt ≤ 15) (hq : 0 ≤ q.toInt ∧ q.toInt ≤ 59) : ∃ (x : Int32) (h' : AH), b_lim 3 225 [.ref 365, .int p, .int q] h = some (.inl (some (.int x)), h', 0, 0) ∧ (x.toInt = 0 ∨ x.toInt = 1) ∧ b_H c_K h' ∧ b_frm c_K [] h h' ∧ (x.toInt = 0 → ∀ (n : Int32) (row j : Nat), c_at h 555 q.toInt.toNat = some (.int n) → c_at h 494 q.toInt.toNat = some (.ref row) → (j : Int) < n.toInt → c_at h row j ≠ some (.int p)) := by
  have hA : ∀ (N : Nat) (ν : BN), 2 ≤ N → ν 0 = p.toInt → ν 1 = q.toInt → b_S N ν [(2, 365, 0), (1, 0, 0), (1, 1, 0)] [.ref 365, .int p, .int q] := fun N ν hN e0 e1 => b_S.cons (Or.inl ⟨rfl, rfl⟩) (b_S.cons (Or.inr ⟨rfl, by show 0 < N; omega, by show p.toInt = ν 0 + 0; omega⟩) (b_S.cons (Or.inr ⟨rfl, by show 1 < N; omega, by show q.toInt = ν 1 + 0; omega⟩) b_S.nil))
  obtain ⟨r, r1, r2⟩ := c_v225.use (h := h) (as := [.ref 365, .int p, .int q]) (fun n => match n with | 0 => p.toInt | _ => q.toInt) H ⟨b_q.i hp.1 hp.2, b_q.i hq.1 hq.2, trivial⟩ trivial trivial (hA _ _ (by decide) rfl rfl)
  obtain ⟨x, h', ν', e, x1, x2, g⟩ := r2.intS rfl (by show 1 < 2; decide)
  subst e
  have iv := g.iv 2 (lo := 0) (hi := 1) rfl
  have x2 := x2.v
  refine ⟨x, h', b_lim_up (k := 2) r1, by omega, g.2.2.2.2.1, g.2.2.2.2.2, fun hx n row j e1 e2 hj e3 => ?_⟩
  have hs : q.toInt.toNat < 60 := by omega
  obtain ⟨z, z1, z2, z3⟩ := H.rdI (j := q.toInt.toNat) (lo := 0) (hi := 16) c_a555 c_q84 (by decide) hs rfl
  rw [e1] at z1
  cases z1
  obtain ⟨b, b1, b2⟩ := H.rdR (j := q.toInt.toNat) (g' := 83) (z := 0) c_a494 c_q82 (by decide) hs rfl
  rw [e2] at b1
  cases b1
  obtain ⟨r', s1, s2⟩ := c_v225w.use (h := h) (as := [.ref 365, .int p, .int q]) (fun m => match m with | 0 => p.toInt | 1 => q.toInt | 2 => n.toInt | 3 => (row : Int) | _ => (j : Int)) H
    ⟨b_q.i hp.1 hp.2, b_q.i hq.1 hq.2, b_q.i (by show (1 : Int) ≤ n.toInt; omega) z3, b_q.r b2, b_q.i (by show (0 : Int) ≤ (j : Int); omega) (by show (j : Int) ≤ 15; omega), trivial⟩
    ⟨b_fa.mk e1 (Or.inl ⟨rfl, rfl⟩) (Or.inr ⟨rfl, by decide, by show (q.toInt.toNat : Int) = q.toInt + 0; omega⟩) (Or.inr ⟨rfl, by decide, by show n.toInt = n.toInt + 0; omega⟩),
     b_fa.mk e2 (Or.inl ⟨rfl, rfl⟩) (Or.inr ⟨rfl, by decide, by show (q.toInt.toNat : Int) = q.toInt + 0; omega⟩) (Or.inr ⟨rfl, by decide, rfl⟩),
     b_fa.mk e3 (Or.inr ⟨rfl, by decide, rfl⟩) (Or.inr ⟨rfl, by decide, by show (j : Int) = (j : Int) + 0; omega⟩) (Or.inr ⟨rfl, by decide, by show p.toInt = p.toInt + 0; omega⟩), trivial⟩
    ⟨⟨by decide, by decide, by show (j : Int) ≤ n.toInt + (-1); omega⟩, trivial⟩ (hA _ _ (by decide) rfl rfl)
  obtain ⟨x', h2, ν2, e', -, y2, -⟩ := s2.intS rfl (by show 0 < 2; decide)
  subst e'
  rw [show c_r225w.2.1 = c_r225.2.1 from rfl, show c_r225w.1 = c_r225.1 from rfl, r1] at s1
  cases s1
  have := y2.k
  omega
theorem jI58 : a_ins 226 58 = some (.invokevirtual 309, 3) := by decide +kernel
theorem jI91 : a_ins 226 91 = some (.iastore, 1) := by decide +kernel
theorem jI101 : a_ins 226 101 = some (.iastore, 1) := by decide +kernel
theorem jI58c {h : AH} {p q : Int32} {vs : List Value} (hh : h[365]? = some (12, vs)) : a_call (a_own 226) (.invokevirtual 309) [.int q, .int p, .ref 365, .ref 365] h = some (225, [.ref 365, .int p, .int q], [.ref 365]) := by
  have e : (a_of a_inv (a_own 226)).find? (fun e => e.1 == 309 && e.2.1 == 0) = some (309, 0, 225, (8, 189), (8, 191), (0, 47), (1, 13)) := by rfl
  have e2 : a_nrg 225 = 3 := by decide +kernel
  have e3 : a_own 225 = 12 := by decide +kernel
  unfold a_call
  dsimp only
  rw [e]
  dsimp only
  rw [e2, if_pos ⟨by show 3 ≤ 4; decide, by show a_cat [.ref 365] ≤ 8; decide⟩]
  show (match h[365]? with
    | some (t, _) => if t = a_own 225 then (some (225, [Value.ref 365, Value.int p, Value.int q], [Value.ref 365]) : Option (Nat × List Value × List Value)) else none
    | none => none) = _
  rw [hh]
  dsimp only
  rw [if_pos e3.symm]
theorem b_R.ast {d mi pc mc ms a n : Nat} {al : AL} {st vs : List Value} {h : AH} {x j : Int32} {r : AR} (hi : a_ins mi pc = some (.iastore, 1)) (ha : h[a]? = some (20, vs)) (hj : a_ix j vs.length = some n) (hr : b_R d mi (pc + 1) al st (h.set a (20, vs.set n (.int x))) mc ms r) : b_R d mi pc al (.int x :: .int j :: .ref a :: st) h mc ms r := b_R.stp hi rfl rfl rfl (a_by4 rfl (b_st4A (Or.inl rfl) ha (by show (if (20 : Nat) ≠ 19 ∧ a_aty 20 = some .int then some (Value.int x) else none) = _; rw [if_pos ⟨by decide, rfl⟩]) hj)) hr
theorem b_frm.set {K : BH} {h : AH} {a n t : Nat} {vs : List Value} {v : Value} {w : Nat × Nat} (ha : h[a]? = some (t, vs)) (hk : b_key K a n = some w) : b_frm K [w] h (h.set a (t, vs.set n v)) := by
  have f := b_frm.put (v := v) (b_frm.rf (K := K) (h := h)) ha hk
  simpa using f
/-- a pass doesn't wait for a show -/
def jQ (h : AH) (p : Int) (q : Nat) : Prop := ∀ (n v : Int32) (row j : Nat), c_at h 555 q = some (.int n) → c_at h 494 q = some (.ref row) → (j : Int) < n.toInt → v.toInt = p → c_at h row j ≠ some (.int v)
theorem jQ_frm {W : BW} {h h' : AH} (H : b_H c_K h) (f : b_frm c_K W h h') (o1 : W.contains (84, 0) = false) (o2 : W.contains (82, 0) = false) (o3 : W.contains (83, 0) = false) {p : Int} {q : Nat} (hq : q < 60) (k : jQ h p q) : jQ h' p q := by
  intro n v row j e1 e2 hj hv e3
  rw [f.k H c_a555 c_q84 (by decide) o1] at e1
  rw [f.k H c_a494 c_q82 (by decide) o2] at e2
  obtain ⟨b, b1, b2⟩ := H.rdR (j := q) (g' := 83) (z := 0) c_a494 c_q82 (by decide) hq rfl
  rw [e2] at b1
  cases b1
  rw [f.k H b2 c_q83 (by decide) o3] at e3
  exact k n v row j e1 e2 hj hv e3
theorem j92 {ν : BN} {h : AH} (g : b_G c_K ν h h (jE.2.1.2.2.1, [], [], [], [])) {n : Int32} {row : Nat} (e1 : c_at h 555 (ν 3).toNat = some (.int n)) (e2 : c_at h 494 (ν 3).toNat = some (.ref row)) (hn : 0 ≤ n.toInt ∧ n.toInt ≤ 15) (hd : ∀ i, i < n.toInt.toNat → c_at h row i ≠ c_at h row n.toInt.toNat) : b_gd c_K c_r226 3 92 jE.2.1.1 [] jE.2.1.2.2.1.length ν h 0 0 := by
  refine b_gd.sg c_hJ jO jEC rfl (by decide) (by decide) g (b_al.c ?_ b_al.n)
  intro ν1 h1 x1 g1
  refine b_pq.to rfl ?_
  intro al st hl hs
  obtain ⟨v1, t1, rfl, a1, b1⟩ := hs.inv
  obtain ⟨v2, t2, rfl, a2, b2⟩ := b1.inv
  obtain ⟨v3, t3, rfl, a3, b3⟩ := b2.inv
  obtain rfl := b3.inv0
  obtain ⟨x, rfl, c1⟩ := a1.int (by show 1 < 2; decide)
  obtain ⟨q, rfl, c2⟩ := a2.int (by show 1 < 2; decide)
  obtain ⟨a, rfl, c3⟩ := a3.ref (Or.inl rfl)
  have c1 := c1.v
  have c2 := c2.v
  have c3 := c3.k
  subst c3
  have m3 := x1.2 3 (by decide)
  have iv3 := g1.iv 3 (lo := 0) (hi := 59) rfl
  have H := g.2.2.2.2.1
  have H1 := g1.2.2.2.2.1
  have f := g1.2.2.2.2.2
  have hq : (ν 3).toNat < 60 := by omega
  obtain ⟨n', n1, n2⟩ := g1.rd (a := 555) (n := 3) (m := 4) (k := 0) (k' := 0) (by rfl) (j := (ν 3).toNat) (by omega)
  have n0 := n1
  rw [f.k H c_a555 c_q84 (by decide) rfl, e1] at n1
  cases n1
  have r1 : c_at h1 494 (ν 3).toNat = some (.ref row) := by rw [f.k H c_a494 c_q82 (by decide) rfl]; exact e2
  have J : c_Ja h1 := H1.2.1
  have hw := J_at J r1
  obtain ⟨b, bq1, b2'⟩ := H1.rdR (j := (ν 3).toNat) (g' := 83) (z := 0) c_a494 c_q82 (by decide) hq rfl
  rw [r1] at bq1
  cases bq1
  obtain ⟨ms, u1, u2, u3⟩ := H1.1 555 84 _ c_a555 c_q84
  have u1 : h1[555]? = some (20, ms) := u1
  have u2 : ms.length = 60 := u2 (by decide)
  obtain ⟨ws, w1, w2, w3⟩ := H1.1 row 83 _ b2' c_q83
  have w1 : h1[row]? = some (20, ws) := w1
  obtain ⟨k1, k2, k3⟩ := b_ix_ok (j := q) (n := 60) (by omega) (by omega)
  have kq : q.toNatClampNeg = (ν 3).toNat := by omega
  have key : b_key c_K 555 q.toNatClampNeg = some (84, 0) := b_keyA c_a555 c_q84 (by decide)
  have hn0 : ms[(ν 3).toNat]? = some (.int n) := by
    unfold c_at at n0
    rw [u1] at n0
    exact n0
  have hws : ∀ i, c_at h1 row i = ws[i]? := fun i => by unfold c_at; rw [w1]; rfl
  have hJ2 : c_Ja (h1.set 555 (20, ms.set q.toNatClampNeg (.int x))) := by
    rw [kq]
    refine J_put2 (m := n.toInt.toNat) J hw u1 hn0 w1 (by omega) (by omega) (fun i hi => ?_)
    have := hd i hi
    rw [← f.k H b2' c_q83 (by decide) rfl, ← f.k H b2' c_q83 (by decide) rfl, hws, hws] at this
    exact this
  have H2 : b_H c_K (h1.set 555 (20, ms.set q.toNatClampNeg (.int x))) := ⟨H1.1.put u1 (fun g' row' ty' y1 y2 y3 => by
    rw [c_a555] at y1
    cases y1
    rw [c_q84] at y2
    cases y2
    cases y3
    exact ⟨by show (0 : Int) ≤ x.toInt; omega, by show x.toInt ≤ 16; omega⟩), hJ2, c_Jb_set H1.2.2 (by decide) (by decide)⟩
  have g2 : b_G c_K ν1 (h1.set 555 (20, ms.set q.toNatClampNeg (.int x))) (h1.set 555 (20, ms.set q.toNatClampNeg (.int x))) (jE.2.1.2.2.1 ++ [(0, 0, 16)], [], [], [], []) := ⟨g1.1, (fun f hf => by cases hf), (fun f hf => by cases hf), (fun f hf => by cases hf), H2, b_frm.rf⟩
  have k : b_gd c_K c_r226 3 102 [some (2, 365, 0), some (1, 2, 0), some (1, 3, 0)] [] 5 ν1 (h1.set 555 (20, ms.set q.toNatClampNeg (.int x))) 0 0 := by
    refine b_gd.cv (T := (jF.2.1.2.2.1, [], [])) (bl := jF.2.1.1) (bs := []) (σ := [(1, 0, 0), (1, 1, 0), (1, 2, 0), (1, 3, 0)]) (by decide +kernel) g2 (fun g3 => ?_)
    refine b_gd.sg c_hJ jO jFC rfl (by decide) (by decide) g3 (b_al.c ?_ b_al.n)
    intro ν3 h3 x3 g4
    exact b_pq.int (lo := 0) (hi := 16) (by decide) g4
  obtain ⟨r, r1, r2⟩ := k al [] hl b_S.nil
  exact ⟨r, b_R.ast jI101 u1 (by rw [u2]; exact k1) r1, r2.cut (W := [(84, 0)]) (b_frm.set u1 key) (by decide)⟩
theorem j78 {ν : BN} {h : AH} (g : b_G c_K ν h h (jD.2.1.2.2.1, [], [], [], [])) (hQ : jQ h (ν 2) (ν 3).toNat) : b_gd c_K c_r226 3 78 jD.2.1.1 [] jD.2.1.2.2.1.length ν h 0 0 := by
  refine b_gd.sg c_hJ jO jDC rfl (by decide) (by decide) g (b_al.c ?_ b_al.n)
  intro ν1 h1 x1 g1
  refine b_pq.to rfl ?_
  intro al st hl hs
  obtain ⟨v1, t1, rfl, a1, b1⟩ := hs.inv
  obtain ⟨v2, t2, rfl, a2, b2⟩ := b1.inv
  obtain ⟨v3, t3, rfl, a3, b3⟩ := b2.inv
  obtain rfl := b3.inv0
  obtain ⟨p, rfl, c1⟩ := a1.int (by show 1 < 2; decide)
  obtain ⟨n, rfl, c2⟩ := a2.int (by show 1 < 2; decide)
  obtain ⟨row, rfl, c3⟩ := a3.ref (Or.inr rfl)
  have c1 := c1.v
  have c2 := c2.v
  have c3 := c3.v
  have m2 := x1.2 2 (by decide)
  have m3 := x1.2 3 (by decide)
  have iv2 := g1.iv 2 (lo := 0) (hi := 15) rfl
  have iv3 := g1.iv 3 (lo := 0) (hi := 59) rfl
  have iv4 := g1.iv 4 (lo := 0) (hi := 16) rfl
  have H1 := g1.2.2.2.2.1
  have hq : (ν 3).toNat < 60 := by omega
  have Q1 := jQ_frm g.2.2.2.2.1 g1.2.2.2.2.2 rfl rfl rfl hq hQ
  obtain ⟨n', n1, n2⟩ := g1.rd (a := 555) (n := 3) (m := 4) (k := 0) (k' := 0) (by rfl) (j := (ν 3).toNat) (by omega)
  have e : n' = n := Int32.toInt_inj.mp (by omega)
  subst e
  obtain ⟨b, r1, r2⟩ := g1.rdA (a := 494) (n := 3) (m := 5) (k := 0) (by rfl) (j := (ν 3).toNat) (by omega)
  have e : b = row := by omega
  subst e
  have J : c_Ja h1 := H1.2.1
  have hw := J_at J r1
  obtain ⟨a0, a01, hk⟩ := g1.1.rf (n := 5) (g := 83) rfl
  have e : a0 = b := by omega
  subst e
  obtain ⟨ws, w1, w2, w3⟩ := H1.1 a0 83 _ hk c_q83
  have w1 : h1[a0]? = some (20, ws) := w1
  have w2 : ws.length = 16 := w2 (by decide)
  have val : ∀ i, i < 16 → ∃ x : Int32, c_at h1 a0 i = some (.int x) ∧ 0 ≤ x.toInt ∧ x.toInt ≤ 15 := fun i hi => H1.rdI hk c_q83 (by decide) hi rfl
  generalize hf : (fun i => match c_at h1 a0 i with
    | some (.int x) => x.toInt.toNat
    | _ => 0 : Nat → Nat) = f
  have fv : ∀ i (x : Int32), c_at h1 a0 i = some (.int x) → f i = x.toInt.toNat := fun i x hx => by
    rw [← hf]
    show (match c_at h1 a0 i with
      | some (.int x) => x.toInt.toNat
      | _ => 0) = _
    rw [hx]
  have n15 : n'.toInt ≤ 15 := by
    have := c_pigeon 16 (n'.toInt.toNat + 1) (fun i => if i < n'.toInt.toNat then f i else p.toInt.toNat) (fun i hi => by
      split
      · obtain ⟨x, y1, y2, y3⟩ := val i (by omega)
        rw [fv i x y1]; omega
      · omega) (fun i j hij hj => by
      obtain ⟨x, y1, y2, y3⟩ := val i (by omega)
      rw [if_pos (by omega), fv i x y1]
      split
      · obtain ⟨z, z1, z2, z3⟩ := val j (by omega)
        rw [fv j z z1]
        have := J_dis J hw n1 hij (by omega)
        rw [y1, z1] at this
        intro c
        exact this (by rw [show x = z from Int32.toInt_inj.mp (by omega)])
      · intro c
        exact Q1 n' p a0 i n1 r1 (by omega) (by omega) (by rw [y1, show x = p from Int32.toInt_inj.mp (by omega)]))
    omega
  obtain ⟨k1, k2, k3⟩ := b_ix_ok (j := n') (n := 16) (by omega) (by omega)
  have kn : n'.toNatClampNeg = n'.toInt.toNat := rfl
  have key : b_key c_K a0 n'.toNatClampNeg = some (83, 0) := b_keyA hk c_q83 (by decide)
  have H2 : b_H c_K (h1.set a0 (20, ws.set n'.toNatClampNeg (.int p))) := ⟨H1.1.put w1 (fun g' row' ty' y1 y2 y3 => by
    rw [hk] at y1
    cases y1
    rw [c_q83] at y2
    cases y2
    cases y3
    exact ⟨by show (0 : Int) ≤ p.toInt; omega, by show p.toInt ≤ 15; omega⟩), J_put1 J hw n1 w1 (by omega), c_Jb_set H1.2.2 (by have := (c_wrI hw).2; omega) (by have := c_wrI hw; omega)⟩
  have g2 : b_G c_K ν1 (h1.set a0 (20, ws.set n'.toNatClampNeg (.int p))) (h1.set a0 (20, ws.set n'.toNatClampNeg (.int p))) (jD.2.1.2.2.1 ++ [(0, 0, 16), (84, 0, 0)], [], [], [], []) := ⟨g1.1, (fun f hf => by cases hf), (fun f hf => by cases hf), (fun f hf => by cases hf), H2, b_frm.rf⟩
  have sa : ∀ a' j, c_at (h1.set a0 (20, ws.set n'.toNatClampNeg (.int p))) a' j = if a' = a0 ∧ j = n'.toNatClampNeg then some (.int p) else c_at h1 a' j := c_at_set w1 (by rw [w2]; exact k2)
  have k : b_gd c_K c_r226 3 92 [some (2, 365, 0), some (1, 2, 0), some (1, 3, 0)] [] 6 ν1 (h1.set a0 (20, ws.set n'.toNatClampNeg (.int p))) 0 0 := by
    refine b_gd.cv (T := (jE.2.1.2.2.1, [], [])) (bl := jE.2.1.1) (bs := []) (σ := [(1, 0, 0), (1, 1, 0), (1, 2, 0), (1, 3, 0)]) (by decide +kernel) g2 (fun g3 => ?_)
    have e3 : b_vT [(1, 0, 0), (1, 1, 0), (1, 2, 0), (1, 3, 0)] ν1 3 = ν 3 := by show ν1 3 + 0 = ν 3; omega
    have w0 := (c_wrI hw).2
    refine j92 (n := n') (row := a0) g3 ?_ ?_ (by omega) (fun i hi => ?_)
    · rw [e3, sa, if_neg (fun c => by omega)]; exact n1
    · rw [e3, sa, if_neg (fun c => by omega)]; exact r1
    · rw [sa, if_neg (fun c => by omega), sa, if_pos ⟨rfl, by omega⟩]
      exact Q1 n' p a0 i n1 r1 (by omega) (by omega)
  obtain ⟨r, y1, y2⟩ := k al [] hl b_S.nil
  exact ⟨r, b_R.ast jI91 w1 (by rw [w2]; exact k1) y1, y2.cut (W := [(83, 0)]) (b_frm.set w1 key) (by decide)⟩
theorem j58 {ν : BN} {h : AH} (g : b_G c_K ν h h (jB.2.1.2.2.1, [], [], [], [])) : b_gd c_K c_r226 3 58 [some (2, 365, 0), some (1, 2, 0), some (1, 3, 0)] [(1, 3, 0), (1, 2, 0), (2, 365, 0), (2, 365, 0)] 4 ν h 0 0 := by
  intro al st hl hs
  obtain ⟨v1, t1, rfl, a1, b1⟩ := hs.inv
  obtain ⟨v2, t2, rfl, a2, b2⟩ := b1.inv
  obtain ⟨v3, t3, rfl, a3, b3⟩ := b2.inv
  obtain ⟨v4, t4, rfl, a4, b4⟩ := b3.inv
  obtain rfl := b4.inv0
  obtain ⟨q, rfl, q1⟩ := a1.int (by show 1 < 2; decide)
  obtain ⟨p, rfl, p1⟩ := a2.int (by show 1 < 2; decide)
  obtain ⟨x3, rfl, r3⟩ := a3.ref (Or.inl rfl)
  obtain ⟨x4, rfl, r4⟩ := a4.ref (Or.inl rfl)
  have r3 := r3.k
  have r4 := r4.k
  subst r3
  subst r4
  have q1 := q1.v
  have p1 := p1.v
  have iv2 := g.iv 2 (lo := 0) (hi := 15) rfl
  have iv3 := g.iv 3 (lo := 0) (hi := 59) rfl
  have H := g.2.2.2.2.1
  obtain ⟨x, h', w1, w2, w3, w4, w5⟩ := j_wf H (p := p) (q := q) (by omega) (by omega)
  have g' : b_G c_K ν h' h' (jB.2.1.2.2.1, [], [], [], []) := ⟨g.1, (fun f hf => by cases hf), (fun f hf => by cases hf), (fun f hf => by cases hf), w3, b_frm.rf⟩
  obtain ⟨vs, hh, -⟩ := H.1 365 50 _ c_a365 c_q50
  have qq : q.toInt.toNat = (ν 3).toNat := by omega
  have cont : ∃ r, b_R 3 226 61 al [.int x, .ref 365] h' 0 0 r ∧ b_post c_K c_r226 ν h' r := by
    rcases w2 with e | e
    · refine (b_gd.sg (R := c_r226) (S := jC) c_hJ jO jCC rfl (by decide) (by decide) g' (b_al.c ?_ b_al.n)) al _ hl (b_S.cons (v := .int x) (Or.inl ⟨rfl, e⟩) (b_S.cons (v := .ref 365) (Or.inl ⟨rfl, rfl⟩) b_S.nil))
      intro ν2 h2 x2 g2
      refine b_pq.to rfl (j78 g2.bare ?_)
      have m2 := x2.2 2 (by decide)
      have m3 := x2.2 3 (by decide)
      rw [m2, m3]
      refine jQ_frm w3 g2.2.2.2.2.2 rfl rfl rfl (by omega) (jQ_frm H w4 rfl rfl rfl (by omega) ?_)
      intro n v row j y1 y2 y3 y4
      rw [show v = p from Int32.toInt_inj.mp (by omega)]
      exact w5 e n row j (by rw [qq]; exact y1) (by rw [qq]; exact y2) y3
    · refine (b_gd.sg (R := c_r226) (S := jB) c_hJ jO jBC rfl (by decide) (by decide) g' (b_al.c ?_ b_al.n)) al _ hl (b_S.cons (v := .int x) (Or.inl ⟨rfl, e⟩) (b_S.cons (v := .ref 365) (Or.inl ⟨rfl, rfl⟩) b_S.nil))
      intro ν2 h2 x2 g2
      exact b_pq.int (lo := 0) (hi := 16) (by decide) g2
  obtain ⟨r, r1, r2⟩ := cont
  exact ⟨r, b_R.cal jI58 rfl rfl (jI58c hh) w1 r1, r2.cut (W := []) w4 (fun w hw => by cases hw)⟩
/-- JuryreelModel.join(II)I -/
theorem c_v226 : b_valid c_K c_r226 := b_gd.valid (d := 3) rfl (by decide +kernel) fun ν h g => by
  refine b_gd.sg (S := jA) c_hJ jO jAC rfl (by decide) (by decide) g (b_al.c ?_ (b_al.c ?_ b_al.n))
  · intro ν3 h3 x3 g3
    exact b_pq.int (lo := 0) (hi := 16) (by decide) g3
  · intro ν1 h1 x1 g1
    exact b_pq.to rfl (j58 g1.bare)
