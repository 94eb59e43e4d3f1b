/-! Special rows of the calls about rights (wip/g3/rightsops.py) -/
theorem b_val_i {ν : BN} {n : Nat} {xa : Int32} (e : ν n = xa.toInt) : b_val ν (1, n, 0) = .int xa := by
  have v : b_vl ν (1, n, 0) = xa.toInt := by
    unfold b_vl
    rw [if_neg (show ¬ ((1 : Nat) = 0) by decide), if_pos rfl]
    show ν n + 0 = _
    omega
  unfold b_val
  rw [if_neg (show ¬ ((1 : Nat) = 2 ∨ (1 : Nat) = 3) by decide), v, Int32.ofInt_toInt]
theorem c_shp_X {S : BSg} (h : c_shp S = true) : c_shpX S = true := by
  unfold c_shp at h
  unfold c_shpX
  simp only [Bool.and_eq_true] at h ⊢
  refine ⟨h.1, h.2.1, h.2.2.1, h.2.2.2.1, h.2.2.2.2.1, List.all_eq_true.mpr fun p hp => ?_⟩
  have k := List.all_eq_true.mp h.2.2.2.2.2 p hp
  cases hq : p.1 with
  | inl z => rfl
  | inr z => rw [hq] at k; exact k
theorem c_spR {S : BSg} {O : BO} {F : Nat} {cB : BK} {ν ν0 : BN} {al : AL} {h : AH} {mc ms : Nat} {Q : AH → Prop} (hc : b_calP c_K S.2.1.2.2.1.length ν h (b_lim 12) cB) (hk : b_sgcO c_K cB S O [28] F = true) (hs : c_shp S = true) (hl : b_L c_E28.length ν0 c_bl28 al) (hx : ∀ n, n < c_E28.length → ν n = ν0 n) (g : b_G c_K ν h h (S.2.1.2.2.1, S.2.1.2.2.2.1, S.2.1.2.2.2.2, O, [])) (k : b_al (fun p => ∀ (ν' : BN) (h' : AH), b_ext S.2.1.2.2.1.length (S.2.1.2.2.1 ++ p.2.1.1).length ν ν' → b_G c_K ν' h h' (S.2.1.2.2.1 ++ p.2.1.1, p.2.1.2.1, p.2.1.2.2, [], S.2.2.1) → Q h') S.2.2.2) : c_res S.1.2 ν0 al h mc ms Q := by
  have hn := List.all_eq_true.mp (c_noin hs)
  refine c_spP hc hk (c_shp_X hs) hl hx g (b_al_of fun p hp ν' h' x g' => ?_)
  have q := b_al_at k p hp ν' h' x g'
  have n := hn p hp
  unfold c_cl
  cases hq : p.1 with
  | inl z => rw [hq] at n; cases n
  | inr z => exact q
theorem c_ov_frm {W : BW} {h h' : AH} (H : b_H c_K h) (f : b_frm c_K W h h') (hW : ∀ w ∈ ([(42, 0), (43, 0), (44, 0), (45, 0), (41, 5)] : BW), w ∉ W) {x l a b : Int} {j : Nat} : c_ov h' x l a b j ↔ c_ov h x l a b j := by
  unfold c_ov
  rw [c_I_cg (f.kF H c_ra271 c_rq41 (by decide) (by simpa using hW (41, 5) (by decide))), c_I_cg (f.k H c_ra272 c_rq42 (by decide) (by simpa using hW (42, 0) (by decide)) _), c_I_cg (f.k H c_ra273 c_rq43 (by decide) (by simpa using hW (43, 0) (by decide)) _), c_I_cg (f.k H c_ra274 c_rq44 (by decide) (by simpa using hW (44, 0) (by decide)) _), c_I_cg (f.k H c_ra275 c_rq45 (by decide) (by simpa using hW (45, 0) (by decide)) _)]
theorem c_ovM_frm {W : BW} {h h' : AH} (H : b_H c_K h) (f : b_frm c_K W h h') (hW : ∀ w ∈ ([(105, 0), (50, 52), (104, 0)] : BW), w ∉ W) {x l a b : Int} {j : Nat} : c_ovM h' x l a b j ↔ c_ovM h x l a b j := by
  have r0 : j < 40 → ∀ k, c_I h' (727 + j) k = c_I h (727 + j) k := fun hj k => c_I_cg (f.k H (sRow j hj) c_rq105 (by decide) (by simpa using hW (105, 0) (by decide)) k)
  have n0 : c_I h' 365 52 = c_I h 365 52 := c_I_cg (f.kF H c_ra365 c_rq50 (by decide) (by simpa using hW (50, 52) (by decide)))
  unfold c_ovM
  constructor
  · rintro ⟨o1, o2⟩
    rw [n0, r0 o1, r0 o1, r0 o1, r0 o1] at o2
    exact ⟨o1, o2⟩
  · rintro ⟨o1, o2⟩
    rw [← n0, ← r0 o1, ← r0 o1, ← r0 o1, ← r0 o1] at o2
    exact ⟨o1, o2⟩
theorem c_ovQ {h : AH} (R : c_RQ h) (e : c_I h 365 52 = c_I h 271 5) {x l a b : Int} {j : Nat} : c_ovM h x l a b j ↔ c_ov h x l a b j := by
  unfold c_ovM c_ov
  rw [e]
  constructor
  · rintro ⟨o1, o2, o3⟩
    obtain ⟨q0, q1, q2, q3, q4⟩ := R.2.1 j o1 o2
    rw [← q0, ← q1, ← q2, ← q3] at o3
    exact ⟨o1, o2, o3⟩
  · rintro ⟨o1, o2, o3⟩
    obtain ⟨q0, q1, q2, q3, q4⟩ := R.2.1 j o1 o2
    rw [q0, q1, q2, q3] at o3
    exact ⟨o1, o2, o3⟩
/-- nothing lies over one month twice -/
theorem c_ov_one {h : AH} (R : c_RQ h) {x l a : Int} {i j : Nat} (oi : c_ov h x l a a i) (oj : c_ov h x l a a j) : i = j := by
  obtain ⟨i1, i2, i3, i4, i5, i6⟩ := oi
  obtain ⟨j1, j2, j3, j4, j5, j6⟩ := oj
  rcases Nat.lt_trichotomy i j with c | c | c
  · exact absurd ⟨by omega, by omega, by omega, by omega⟩ (R.2.2 i j c j1 j2)
  · exact c
  · exact absurd ⟨by omega, by omega, by omega, by omega⟩ (R.2.2 j i c i1 i2)
def c_srSold0 : BSr := (72, 6, ([(2, 271, 0), (1, 4, 0), (1, 5, 0), (1, 6, 0), (1, 7, 0)], [(42, 0), (43, 0), (44, 0), (45, 0), (41, 5)]), (.inl (some (0, 0, 0)), [], []), (0, 0))
theorem c_vrSold0 {N : Nat} {νs : BN} {h : AH} {xa xb xc xd : Int32} (H : b_H c_K h) (hN : 8 ≤ N) (u0 : νs 4 = xa.toInt) (u1 : νs 5 = xb.toInt) (u2 : νs 6 = xc.toInt) (u3 : νs 7 = xd.toInt) (xa1 : 0 ≤ xa.toInt) (xa2 : xa.toInt ≤ 19) (xb1 : 0 ≤ xb.toInt) (xb2 : xb.toInt ≤ 9) (xc1 : 0 ≤ xc.toInt) (xc2 : xc.toInt ≤ 99) (xd1 : 0 ≤ xd.toInt) (xd2 : xd.toInt ≤ 99) (no : ∀ j, ¬ c_ov h xa.toInt xb.toInt xc.toInt xd.toInt j) : b_srv c_K N νs h c_srSold0 := by
  intro h1 as W N1 ν y H1 f hW hs
  obtain ⟨y1, y2⟩ := y
  have w0 : ν 4 = xa.toInt := (y2 4 (by omega)).trans u0
  have w1 : ν 5 = xb.toInt := (y2 5 (by omega)).trans u1
  have w2 : ν 6 = xc.toInt := (y2 6 (by omega)).trans u2
  have w3 : ν 7 = xd.toInt := (y2 7 (by omega)).trans u3
  have e := hs.vals (by decide)
  have e : as = [.ref 271, .int xa, .int xb, .int xc, .int xd] := by
    rw [e]
    show [b_val ν (2, 271, 0), b_val ν (1, 4, 0), b_val ν (1, 5, 0), b_val ν (1, 6, 0), b_val ν (1, 7, 0)] = _
    rw [b_val_i w0, b_val_i w1, b_val_i w2, b_val_i w3]
    rfl
  subst e
  obtain ⟨r, r1, r2, r3, r4, r5⟩ := sp_sold0 H1 xa1 xa2 xb1 xb2 xc1 xc2 xd1 xd2 (fun j o => no j ((c_ov_frm H f hW).mp o))
  exact ⟨r, r1, (by rw [r2]; exact (show b_v _ _ (0, 0, 0) (Value.int 0) from Or.inl ⟨rfl, rfl⟩)), fun f hf => (by cases hf), r3, r4, r5⟩
def c_srSellx : BSr := (249, 6, ([(2, 365, 0), (1, 4, 0), (1, 5, 0), (1, 6, 0), (1, 7, 0), (1, 8, 0)], [(105, 0), (50, 52), (104, 0), (50, 44), (57, 0)]), (.inl (some (0, 0, 0)), [((2, 365, 0), (0, 0, 55), (0, 0, 4))], [(50, 55)]), (0, 0))
theorem c_vrSellx {N : Nat} {νs : BN} {h : AH} {xa xb xc xd xe : Int32} (H : b_H c_K h) (hN : 9 ≤ N) (u0 : νs 4 = xa.toInt) (u1 : νs 5 = xb.toInt) (u2 : νs 6 = xc.toInt) (u3 : νs 7 = xd.toInt) (u4 : νs 8 = xe.toInt) (xa1 : 0 ≤ xa.toInt) (xa2 : xa.toInt ≤ 19) (xb1 : 0 ≤ xb.toInt) (xb2 : xb.toInt ≤ 9) (xc1 : 0 ≤ xc.toInt) (xc2 : xc.toInt ≤ 99) (xd1 : 0 ≤ xd.toInt) (xd2 : xd.toInt ≤ 99) (xe1 : 0 ≤ xe.toInt) (xe2 : xe.toInt ≤ 9) (hR : ∀ i, i < 40 → c_at h 726 i = some (.ref (727 + i))) (hf : xa.toInt < c_I h 365 44) (hab : xc.toInt ≤ xd.toInt) (hw : c_I h 372 xa.toInt.toNat = 0) (no : ∀ j, ¬ c_ovM h xa.toInt xb.toInt xc.toInt xd.toInt j) (hn : c_I h 365 52 = 40) : b_srv c_K N νs h c_srSellx := by
  intro h1 as W N1 ν y H1 f hW hs
  obtain ⟨y1, y2⟩ := y
  have w0 : ν 4 = xa.toInt := (y2 4 (by omega)).trans u0
  have w1 : ν 5 = xb.toInt := (y2 5 (by omega)).trans u1
  have w2 : ν 6 = xc.toInt := (y2 6 (by omega)).trans u2
  have w3 : ν 7 = xd.toInt := (y2 7 (by omega)).trans u3
  have w4 : ν 8 = xe.toInt := (y2 8 (by omega)).trans u4
  have e := hs.vals (by decide)
  have e : as = [.ref 365, .int xa, .int xb, .int xc, .int xd, .int xe] := by
    rw [e]
    show [b_val ν (2, 365, 0), b_val ν (1, 4, 0), b_val ν (1, 5, 0), b_val ν (1, 6, 0), b_val ν (1, 7, 0), b_val ν (1, 8, 0)] = _
    rw [b_val_i w0, b_val_i w1, b_val_i w2, b_val_i w3, b_val_i w4]
    rfl
  subst e
  have hR1 : ∀ i, i < 40 → c_at h1 726 i = some (.ref (727 + i)) := fun i hi => by rw [f.k H c_ra726 c_rq104 (by decide) (by simpa using hW (104, 0) (by decide))]; exact hR i hi
  have nF1 : c_I h1 365 44 = c_I h 365 44 := c_I_cg (f.kF H c_ra365 c_rq50 (by decide) (by simpa using hW (50, 44) (by decide)))
  have nM1 : c_I h1 365 52 = c_I h 365 52 := c_I_cg (f.kF H c_ra365 c_rq50 (by decide) (by simpa using hW (50, 52) (by decide)))
  have aw1 : c_I h1 372 xa.toInt.toNat = c_I h 372 xa.toInt.toNat := c_I_cg (f.k H c_ra372 c_rq57 (by decide) (by simpa using hW (57, 0) (by decide)) _)
  obtain ⟨r, r1, ⟨q, ex, hx⟩, ⟨t, et, ht⟩, r3, r4, r5⟩ := sp_sellx H1  hR1 xa1 xa2 xb1 xb2 xc1 xc2 xd1 xd2 xe1 xe2 (by rw [nF1]; exact hf) hab (by rw [aw1]; exact hw) (fun j o => no j ((c_ovM_frm H f (fun w hw => hW w (by simp only [List.mem_cons, List.not_mem_nil, or_false] at hw; rcases hw with rfl | rfl | rfl <;> decide))).mp o)) (by rw [nM1]; exact hn)
  exact ⟨r, r1, (by rw [ex]; exact (show b_v _ _ (0, 0, 0) (Value.int q) from Or.inl ⟨rfl, hx⟩)), (by rintro f hf; rw [List.mem_singleton.mp hf]; exact b_fa.mk et (Or.inl ⟨rfl, rfl⟩) (Or.inl ⟨rfl, rfl⟩) (Or.inl ⟨rfl, ht⟩)), r3, r4, r5⟩
def c_srSelln : BSr := (249, 6, ([(2, 365, 0), (1, 4, 0), (1, 5, 0), (1, 6, 0), (1, 7, 0), (1, 8, 0)], [(105, 0), (50, 52), (104, 0), (50, 44), (57, 0)]), (.inl (some (1, 10, 1)), [((2, 365, 0), (0, 0, 52), (1, 10, 1)), ((2, 365, 0), (0, 0, 55), (0, 0, 0)), ((3, 11, 0), (0, 0, 0), (1, 4, 0)), ((3, 11, 0), (0, 0, 1), (1, 5, 0)), ((3, 11, 0), (0, 0, 2), (1, 6, 0)), ((3, 11, 0), (0, 0, 3), (1, 7, 0)), ((3, 11, 0), (0, 0, 4), (1, 8, 0))], [(50, 52), (50, 53), (50, 55), (105, 0), (106, 0), (107, 0)]), (1, 5))
theorem c_vrSelln {N : Nat} {νs : BN} {h : AH} {xa xb xc xd xe : Int32} (H : b_H c_K h) (hN : 12 ≤ N) (u0 : νs 4 = xa.toInt) (u1 : νs 5 = xb.toInt) (u2 : νs 6 = xc.toInt) (u3 : νs 7 = xd.toInt) (u4 : νs 8 = xe.toInt) (xa1 : 0 ≤ xa.toInt) (xa2 : xa.toInt ≤ 19) (xb1 : 0 ≤ xb.toInt) (xb2 : xb.toInt ≤ 9) (xc1 : 0 ≤ xc.toInt) (xc2 : xc.toInt ≤ 99) (xd1 : 0 ≤ xd.toInt) (xd2 : xd.toInt ≤ 99) (xe1 : 0 ≤ xe.toInt) (xe2 : xe.toInt ≤ 9) (hR : ∀ i, i < 40 → c_at h 726 i = some (.ref (727 + i))) (hf : xa.toInt < c_I h 365 44) (hab : xc.toInt ≤ xd.toInt) (hw : c_I h 372 xa.toInt.toNat = 0) (no : ∀ j, ¬ c_ovM h xa.toInt xb.toInt xc.toInt xd.toInt j) (hn : c_I h 365 52 < 40) (un : νs 10 = c_I h 365 52) (ur : νs 11 = ((727 + (c_I h 365 52).toNat : Nat) : Int)) : b_srv c_K N νs h c_srSelln := by
  intro h1 as W N1 ν y H1 f hW hs
  obtain ⟨y1, y2⟩ := y
  have w0 : ν 4 = xa.toInt := (y2 4 (by omega)).trans u0
  have w1 : ν 5 = xb.toInt := (y2 5 (by omega)).trans u1
  have w2 : ν 6 = xc.toInt := (y2 6 (by omega)).trans u2
  have w3 : ν 7 = xd.toInt := (y2 7 (by omega)).trans u3
  have w4 : ν 8 = xe.toInt := (y2 8 (by omega)).trans u4
  have e := hs.vals (by decide)
  have e : as = [.ref 365, .int xa, .int xb, .int xc, .int xd, .int xe] := by
    rw [e]
    show [b_val ν (2, 365, 0), b_val ν (1, 4, 0), b_val ν (1, 5, 0), b_val ν (1, 6, 0), b_val ν (1, 7, 0), b_val ν (1, 8, 0)] = _
    rw [b_val_i w0, b_val_i w1, b_val_i w2, b_val_i w3, b_val_i w4]
    rfl
  subst e
  have hR1 : ∀ i, i < 40 → c_at h1 726 i = some (.ref (727 + i)) := fun i hi => by rw [f.k H c_ra726 c_rq104 (by decide) (by simpa using hW (104, 0) (by decide))]; exact hR i hi
  have nF1 : c_I h1 365 44 = c_I h 365 44 := c_I_cg (f.kF H c_ra365 c_rq50 (by decide) (by simpa using hW (50, 44) (by decide)))
  have nM1 : c_I h1 365 52 = c_I h 365 52 := c_I_cg (f.kF H c_ra365 c_rq50 (by decide) (by simpa using hW (50, 52) (by decide)))
  have aw1 : c_I h1 372 xa.toInt.toNat = c_I h 372 xa.toInt.toNat := c_I_cg (f.k H c_ra372 c_rq57 (by decide) (by simpa using hW (57, 0) (by decide)) _)
  obtain ⟨r, r1, ⟨q, ex, hx⟩, r3, r4, r5, s0, s1, ⟨d0, d1, d2, d3, d4⟩, dd⟩ := sp_selln H1  hR1 xa1 xa2 xb1 xb2 xc1 xc2 xd1 xd2 xe1 xe2 (by rw [nF1]; exact hf) hab (by rw [aw1]; exact hw) (fun j o => no j ((c_ovM_frm H f (fun w hw => hW w (by simp only [List.mem_cons, List.not_mem_nil, or_false] at hw; rcases hw with rfl | rfl | rfl <;> decide))).mp o)) (by rw [nM1]; exact hn)
  rw [nM1] at hx s0 d0 d1 d2 d3 d4 dd
  obtain ⟨n, en, n1, n2⟩ := H.rdI (a := 365) (j := 52) (lo := 0) (hi := 40) c_ra365 c_rq50 (by decide) (by decide) rfl
  rw [c_I_of en] at hx s0 d0 d1 d2 d3 d4 dd hn un ur
  have wn : ν 10 = n.toInt := (y2 10 (by omega)).trans un
  have wr : ν 11 = ((727 + n.toInt.toNat : Nat) : Int) := (y2 11 (by omega)).trans ur
  obtain ⟨v0, ev0, -, -⟩ := r3.rdI (a := 365) (j := 52) (lo := 0) (hi := 40) c_ra365 c_rq50 (by decide) (by decide) rfl
  rw [c_I_of ev0] at s0
  obtain ⟨v1, ev1, -, -⟩ := r3.rdI (a := 365) (j := 55) (lo := 0) (hi := 4) c_ra365 c_rq50 (by decide) (by decide) rfl
  rw [c_I_of ev1] at s1
  obtain ⟨p0, ep0, -, -⟩ := r3.rdI (a := 727 + n.toInt.toNat) (j := 0) (lo := 0) (hi := 99) (sRow _ (by omega)) c_rq105 (by decide) (by decide) rfl
  rw [c_I_of ep0] at d0
  obtain ⟨p1, ep1, -, -⟩ := r3.rdI (a := 727 + n.toInt.toNat) (j := 1) (lo := 0) (hi := 99) (sRow _ (by omega)) c_rq105 (by decide) (by decide) rfl
  rw [c_I_of ep1] at d1
  obtain ⟨p2, ep2, -, -⟩ := r3.rdI (a := 727 + n.toInt.toNat) (j := 2) (lo := 0) (hi := 99) (sRow _ (by omega)) c_rq105 (by decide) (by decide) rfl
  rw [c_I_of ep2] at d2
  obtain ⟨p3, ep3, -, -⟩ := r3.rdI (a := 727 + n.toInt.toNat) (j := 3) (lo := 0) (hi := 99) (sRow _ (by omega)) c_rq105 (by decide) (by decide) rfl
  rw [c_I_of ep3] at d3
  obtain ⟨p4, ep4, -, -⟩ := r3.rdI (a := 727 + n.toInt.toNat) (j := 4) (lo := 0) (hi := 99) (sRow _ (by omega)) c_rq105 (by decide) (by decide) rfl
  rw [c_I_of ep4] at d4
  refine ⟨r, r1, (by rw [ex]; exact (show b_v _ _ (1, 10, 1) (Value.int q) from Or.inr ⟨rfl, (show 10 < N1 by omega), by show _ = ν 10 + 1; omega⟩)), ?_, r3, r4, r5⟩
  intro f hf
  have hf : f ∈ ([((2, 365, 0), (0, 0, 52), (1, 10, 1)), ((2, 365, 0), (0, 0, 55), (0, 0, 0)), ((3, 11, 0), (0, 0, 0), (1, 4, 0)), ((3, 11, 0), (0, 0, 1), (1, 5, 0)), ((3, 11, 0), (0, 0, 2), (1, 6, 0)), ((3, 11, 0), (0, 0, 3), (1, 7, 0)), ((3, 11, 0), (0, 0, 4), (1, 8, 0))] : BF) := hf
  simp only [List.mem_cons, List.not_mem_nil, or_false] at hf
  rcases hf with rfl | rfl | rfl | rfl | rfl | rfl | rfl
  · exact b_fa.mk ev0 (Or.inl ⟨rfl, rfl⟩) (Or.inl ⟨rfl, rfl⟩) (Or.inr ⟨rfl, (show 10 < N1 by omega), by show _ = ν 10 + 1; omega⟩)
  · exact b_fa.mk ev1 (Or.inl ⟨rfl, rfl⟩) (Or.inl ⟨rfl, rfl⟩) (Or.inl ⟨rfl, s1⟩)
  · exact b_fa.mk ep0 (Or.inr ⟨rfl, (show 11 < N1 by omega), by show _ = ν 11; omega⟩) (Or.inl ⟨rfl, rfl⟩) (Or.inr ⟨rfl, (show 4 < N1 by omega), by show _ = ν 4 + 0; omega⟩)
  · exact b_fa.mk ep1 (Or.inr ⟨rfl, (show 11 < N1 by omega), by show _ = ν 11; omega⟩) (Or.inl ⟨rfl, rfl⟩) (Or.inr ⟨rfl, (show 5 < N1 by omega), by show _ = ν 5 + 0; omega⟩)
  · exact b_fa.mk ep2 (Or.inr ⟨rfl, (show 11 < N1 by omega), by show _ = ν 11; omega⟩) (Or.inl ⟨rfl, rfl⟩) (Or.inr ⟨rfl, (show 6 < N1 by omega), by show _ = ν 6 + 0; omega⟩)
  · exact b_fa.mk ep3 (Or.inr ⟨rfl, (show 11 < N1 by omega), by show _ = ν 11; omega⟩) (Or.inl ⟨rfl, rfl⟩) (Or.inr ⟨rfl, (show 7 < N1 by omega), by show _ = ν 7 + 0; omega⟩)
  · exact b_fa.mk ep4 (Or.inr ⟨rfl, (show 11 < N1 by omega), by show _ = ν 11; omega⟩) (Or.inl ⟨rfl, rfl⟩) (Or.inr ⟨rfl, (show 8 < N1 by omega), by show _ = ν 8 + 0; omega⟩)
def c_srSellm : BSr := (249, 6, ([(2, 365, 0), (1, 4, 0), (1, 5, 0), (1, 6, 0), (1, 7, 0), (1, 8, 0)], [(105, 0), (50, 52), (104, 0), (50, 44), (57, 0)]), (.inl (some (1, 10, 1)), [((2, 365, 0), (0, 0, 52), (1, 10, 1)), ((2, 365, 0), (0, 0, 55), (0, 0, 0)), ((3, 11, 0), (0, 0, 0), (1, 4, 0)), ((3, 11, 0), (0, 0, 1), (1, 5, 0)), ((3, 11, 0), (0, 0, 2), (1, 6, 0)), ((3, 11, 0), (0, 0, 3), (1, 7, 0)), ((3, 11, 0), (0, 0, 4), (1, 8, 0)), ((3, 13, 0), (0, 0, 0), (1, 14, 0)), ((3, 13, 0), (0, 0, 1), (1, 15, 0)), ((3, 13, 0), (0, 0, 2), (1, 16, 0)), ((3, 13, 0), (0, 0, 3), (1, 17, 0)), ((3, 13, 0), (0, 0, 4), (1, 18, 0))], [(50, 52), (50, 53), (50, 55), (105, 0), (106, 0), (107, 0)]), (1, 5))
theorem c_vrSellm {N : Nat} {νs : BN} {h : AH} {xa xb xc xd xe : Int32} (H : b_H c_K h) (hN : 19 ≤ N) (u0 : νs 4 = xa.toInt) (u1 : νs 5 = xb.toInt) (u2 : νs 6 = xc.toInt) (u3 : νs 7 = xd.toInt) (u4 : νs 8 = xe.toInt) (xa1 : 0 ≤ xa.toInt) (xa2 : xa.toInt ≤ 19) (xb1 : 0 ≤ xb.toInt) (xb2 : xb.toInt ≤ 9) (xc1 : 0 ≤ xc.toInt) (xc2 : xc.toInt ≤ 99) (xd1 : 0 ≤ xd.toInt) (xd2 : xd.toInt ≤ 99) (xe1 : 0 ≤ xe.toInt) (xe2 : xe.toInt ≤ 9) (hR : ∀ i, i < 40 → c_at h 726 i = some (.ref (727 + i))) (hf : xa.toInt < c_I h 365 44) (hab : xc.toInt ≤ xd.toInt) (hw : c_I h 372 xa.toInt.toNat = 0) (no : ∀ j, ¬ c_ovM h xa.toInt xb.toInt xc.toInt xd.toInt j) (hn : c_I h 365 52 < 40) (un : νs 10 = c_I h 365 52) (ur : νs 11 = ((727 + (c_I h 365 52).toNat : Nat) : Int)) {i : Nat} (hi : (i : Int) < c_I h 365 52) (ui : νs 13 = ((727 + i : Nat) : Int)) (uz : ∀ k, k < 5 → νs (14 + k) = c_I h (727 + i) k) : b_srv c_K N νs h c_srSellm := by
  intro h1 as W N1 ν y H1 f hW hs
  obtain ⟨y1, y2⟩ := y
  have w0 : ν 4 = xa.toInt := (y2 4 (by omega)).trans u0
  have w1 : ν 5 = xb.toInt := (y2 5 (by omega)).trans u1
  have w2 : ν 6 = xc.toInt := (y2 6 (by omega)).trans u2
  have w3 : ν 7 = xd.toInt := (y2 7 (by omega)).trans u3
  have w4 : ν 8 = xe.toInt := (y2 8 (by omega)).trans u4
  have e := hs.vals (by decide)
  have e : as = [.ref 365, .int xa, .int xb, .int xc, .int xd, .int xe] := by
    rw [e]
    show [b_val ν (2, 365, 0), b_val ν (1, 4, 0), b_val ν (1, 5, 0), b_val ν (1, 6, 0), b_val ν (1, 7, 0), b_val ν (1, 8, 0)] = _
    rw [b_val_i w0, b_val_i w1, b_val_i w2, b_val_i w3, b_val_i w4]
    rfl
  subst e
  have hR1 : ∀ i, i < 40 → c_at h1 726 i = some (.ref (727 + i)) := fun i hi => by rw [f.k H c_ra726 c_rq104 (by decide) (by simpa using hW (104, 0) (by decide))]; exact hR i hi
  have nF1 : c_I h1 365 44 = c_I h 365 44 := c_I_cg (f.kF H c_ra365 c_rq50 (by decide) (by simpa using hW (50, 44) (by decide)))
  have nM1 : c_I h1 365 52 = c_I h 365 52 := c_I_cg (f.kF H c_ra365 c_rq50 (by decide) (by simpa using hW (50, 52) (by decide)))
  have aw1 : c_I h1 372 xa.toInt.toNat = c_I h 372 xa.toInt.toNat := c_I_cg (f.k H c_ra372 c_rq57 (by decide) (by simpa using hW (57, 0) (by decide)) _)
  obtain ⟨r, r1, ⟨q, ex, hx⟩, r3, r4, r5, s0, s1, ⟨d0, d1, d2, d3, d4⟩, dd⟩ := sp_selln H1  hR1 xa1 xa2 xb1 xb2 xc1 xc2 xd1 xd2 xe1 xe2 (by rw [nF1]; exact hf) hab (by rw [aw1]; exact hw) (fun j o => no j ((c_ovM_frm H f (fun w hw => hW w (by simp only [List.mem_cons, List.not_mem_nil, or_false] at hw; rcases hw with rfl | rfl | rfl <;> decide))).mp o)) (by rw [nM1]; exact hn)
  rw [nM1] at hx s0 d0 d1 d2 d3 d4 dd
  obtain ⟨n, en, n1, n2⟩ := H.rdI (a := 365) (j := 52) (lo := 0) (hi := 40) c_ra365 c_rq50 (by decide) (by decide) rfl
  rw [c_I_of en] at hx s0 d0 d1 d2 d3 d4 dd hn un ur hi
  have wn : ν 10 = n.toInt := (y2 10 (by omega)).trans un
  have wr : ν 11 = ((727 + n.toInt.toNat : Nat) : Int) := (y2 11 (by omega)).trans ur
  obtain ⟨v0, ev0, -, -⟩ := r3.rdI (a := 365) (j := 52) (lo := 0) (hi := 40) c_ra365 c_rq50 (by decide) (by decide) rfl
  rw [c_I_of ev0] at s0
  obtain ⟨v1, ev1, -, -⟩ := r3.rdI (a := 365) (j := 55) (lo := 0) (hi := 4) c_ra365 c_rq50 (by decide) (by decide) rfl
  rw [c_I_of ev1] at s1
  obtain ⟨p0, ep0, -, -⟩ := r3.rdI (a := 727 + n.toInt.toNat) (j := 0) (lo := 0) (hi := 99) (sRow _ (by omega)) c_rq105 (by decide) (by decide) rfl
  rw [c_I_of ep0] at d0
  obtain ⟨p1, ep1, -, -⟩ := r3.rdI (a := 727 + n.toInt.toNat) (j := 1) (lo := 0) (hi := 99) (sRow _ (by omega)) c_rq105 (by decide) (by decide) rfl
  rw [c_I_of ep1] at d1
  obtain ⟨p2, ep2, -, -⟩ := r3.rdI (a := 727 + n.toInt.toNat) (j := 2) (lo := 0) (hi := 99) (sRow _ (by omega)) c_rq105 (by decide) (by decide) rfl
  rw [c_I_of ep2] at d2
  obtain ⟨p3, ep3, -, -⟩ := r3.rdI (a := 727 + n.toInt.toNat) (j := 3) (lo := 0) (hi := 99) (sRow _ (by omega)) c_rq105 (by decide) (by decide) rfl
  rw [c_I_of ep3] at d3
  obtain ⟨p4, ep4, -, -⟩ := r3.rdI (a := 727 + n.toInt.toNat) (j := 4) (lo := 0) (hi := 99) (sRow _ (by omega)) c_rq105 (by decide) (by decide) rfl
  rw [c_I_of ep4] at d4
  have wi : ν 13 = ((727 + i : Nat) : Int) := (y2 13 (by omega)).trans ui
  have z0 := dd i hi 0 (by decide)
  have wz0 : ν 14 = c_I h1 (727 + i) 0 := by
    rw [c_I_cg (f.k H (sRow i (by omega)) c_rq105 (by decide) (by simpa using hW (105, 0) (by decide)) _)]
    exact (y2 14 (by omega)).trans (uz 0 (by decide))
  obtain ⟨g0, eg0, -, -⟩ := r3.rdI (a := 727 + i) (j := 0) (lo := 0) (hi := 99) (sRow i (by omega)) c_rq105 (by decide) (by decide) rfl
  rw [c_I_of eg0] at z0
  have z1 := dd i hi 1 (by decide)
  have wz1 : ν 15 = c_I h1 (727 + i) 1 := by
    rw [c_I_cg (f.k H (sRow i (by omega)) c_rq105 (by decide) (by simpa using hW (105, 0) (by decide)) _)]
    exact (y2 15 (by omega)).trans (uz 1 (by decide))
  obtain ⟨g1, eg1, -, -⟩ := r3.rdI (a := 727 + i) (j := 1) (lo := 0) (hi := 99) (sRow i (by omega)) c_rq105 (by decide) (by decide) rfl
  rw [c_I_of eg1] at z1
  have z2 := dd i hi 2 (by decide)
  have wz2 : ν 16 = c_I h1 (727 + i) 2 := by
    rw [c_I_cg (f.k H (sRow i (by omega)) c_rq105 (by decide) (by simpa using hW (105, 0) (by decide)) _)]
    exact (y2 16 (by omega)).trans (uz 2 (by decide))
  obtain ⟨g2, eg2, -, -⟩ := r3.rdI (a := 727 + i) (j := 2) (lo := 0) (hi := 99) (sRow i (by omega)) c_rq105 (by decide) (by decide) rfl
  rw [c_I_of eg2] at z2
  have z3 := dd i hi 3 (by decide)
  have wz3 : ν 17 = c_I h1 (727 + i) 3 := by
    rw [c_I_cg (f.k H (sRow i (by omega)) c_rq105 (by decide) (by simpa using hW (105, 0) (by decide)) _)]
    exact (y2 17 (by omega)).trans (uz 3 (by decide))
  obtain ⟨g3, eg3, -, -⟩ := r3.rdI (a := 727 + i) (j := 3) (lo := 0) (hi := 99) (sRow i (by omega)) c_rq105 (by decide) (by decide) rfl
  rw [c_I_of eg3] at z3
  have z4 := dd i hi 4 (by decide)
  have wz4 : ν 18 = c_I h1 (727 + i) 4 := by
    rw [c_I_cg (f.k H (sRow i (by omega)) c_rq105 (by decide) (by simpa using hW (105, 0) (by decide)) _)]
    exact (y2 18 (by omega)).trans (uz 4 (by decide))
  obtain ⟨g4, eg4, -, -⟩ := r3.rdI (a := 727 + i) (j := 4) (lo := 0) (hi := 99) (sRow i (by omega)) c_rq105 (by decide) (by decide) rfl
  rw [c_I_of eg4] at z4
  refine ⟨r, r1, (by rw [ex]; exact (show b_v _ _ (1, 10, 1) (Value.int q) from Or.inr ⟨rfl, (show 10 < N1 by omega), by show _ = ν 10 + 1; omega⟩)), ?_, r3, r4, r5⟩
  intro f hf
  have hf : f ∈ ([((2, 365, 0), (0, 0, 52), (1, 10, 1)), ((2, 365, 0), (0, 0, 55), (0, 0, 0)), ((3, 11, 0), (0, 0, 0), (1, 4, 0)), ((3, 11, 0), (0, 0, 1), (1, 5, 0)), ((3, 11, 0), (0, 0, 2), (1, 6, 0)), ((3, 11, 0), (0, 0, 3), (1, 7, 0)), ((3, 11, 0), (0, 0, 4), (1, 8, 0)), ((3, 13, 0), (0, 0, 0), (1, 14, 0)), ((3, 13, 0), (0, 0, 1), (1, 15, 0)), ((3, 13, 0), (0, 0, 2), (1, 16, 0)), ((3, 13, 0), (0, 0, 3), (1, 17, 0)), ((3, 13, 0), (0, 0, 4), (1, 18, 0))] : BF) := hf
  simp only [List.mem_cons, List.not_mem_nil, or_false] at hf
  rcases hf with rfl | rfl | rfl | rfl | rfl | rfl | rfl | rfl | rfl | rfl | rfl | rfl
  · exact b_fa.mk ev0 (Or.inl ⟨rfl, rfl⟩) (Or.inl ⟨rfl, rfl⟩) (Or.inr ⟨rfl, (show 10 < N1 by omega), by show _ = ν 10 + 1; omega⟩)
  · exact b_fa.mk ev1 (Or.inl ⟨rfl, rfl⟩) (Or.inl ⟨rfl, rfl⟩) (Or.inl ⟨rfl, s1⟩)
  · exact b_fa.mk ep0 (Or.inr ⟨rfl, (show 11 < N1 by omega), by show _ = ν 11; omega⟩) (Or.inl ⟨rfl, rfl⟩) (Or.inr ⟨rfl, (show 4 < N1 by omega), by show _ = ν 4 + 0; omega⟩)
  · exact b_fa.mk ep1 (Or.inr ⟨rfl, (show 11 < N1 by omega), by show _ = ν 11; omega⟩) (Or.inl ⟨rfl, rfl⟩) (Or.inr ⟨rfl, (show 5 < N1 by omega), by show _ = ν 5 + 0; omega⟩)
  · exact b_fa.mk ep2 (Or.inr ⟨rfl, (show 11 < N1 by omega), by show _ = ν 11; omega⟩) (Or.inl ⟨rfl, rfl⟩) (Or.inr ⟨rfl, (show 6 < N1 by omega), by show _ = ν 6 + 0; omega⟩)
  · exact b_fa.mk ep3 (Or.inr ⟨rfl, (show 11 < N1 by omega), by show _ = ν 11; omega⟩) (Or.inl ⟨rfl, rfl⟩) (Or.inr ⟨rfl, (show 7 < N1 by omega), by show _ = ν 7 + 0; omega⟩)
  · exact b_fa.mk ep4 (Or.inr ⟨rfl, (show 11 < N1 by omega), by show _ = ν 11; omega⟩) (Or.inl ⟨rfl, rfl⟩) (Or.inr ⟨rfl, (show 8 < N1 by omega), by show _ = ν 8 + 0; omega⟩)
  · exact b_fa.mk eg0 (Or.inr ⟨rfl, (show 13 < N1 by omega), by show _ = ν 13; omega⟩) (Or.inl ⟨rfl, rfl⟩) (Or.inr ⟨rfl, (show 14 < N1 by omega), by show _ = ν 14 + 0; omega⟩)
  · exact b_fa.mk eg1 (Or.inr ⟨rfl, (show 13 < N1 by omega), by show _ = ν 13; omega⟩) (Or.inl ⟨rfl, rfl⟩) (Or.inr ⟨rfl, (show 15 < N1 by omega), by show _ = ν 15 + 0; omega⟩)
  · exact b_fa.mk eg2 (Or.inr ⟨rfl, (show 13 < N1 by omega), by show _ = ν 13; omega⟩) (Or.inl ⟨rfl, rfl⟩) (Or.inr ⟨rfl, (show 16 < N1 by omega), by show _ = ν 16 + 0; omega⟩)
  · exact b_fa.mk eg3 (Or.inr ⟨rfl, (show 13 < N1 by omega), by show _ = ν 13; omega⟩) (Or.inl ⟨rfl, rfl⟩) (Or.inr ⟨rfl, (show 17 < N1 by omega), by show _ = ν 17 + 0; omega⟩)
  · exact b_fa.mk eg4 (Or.inr ⟨rfl, (show 13 < N1 by omega), by show _ = ν 13; omega⟩) (Or.inl ⟨rfl, rfl⟩) (Or.inr ⟨rfl, (show 18 < N1 by omega), by show _ = ν 18 + 0; omega⟩)
def c_srBuy0 : BSr := (73, 6, ([(2, 271, 0), (1, 4, 0), (1, 5, 0), (1, 6, 0)], [(42, 0), (43, 0), (44, 0), (45, 0), (41, 5)]), (.inl (some (0, 0, (-1))), [], []), (0, 0))
theorem c_vrBuy0 {N : Nat} {νs : BN} {h : AH} {xa xb xc : Int32} (H : b_H c_K h) (hN : 7 ≤ N) (u0 : νs 4 = xa.toInt) (u1 : νs 5 = xb.toInt) (u2 : νs 6 = xc.toInt) (xa1 : 0 ≤ xa.toInt) (xa2 : xa.toInt ≤ 19) (xb1 : 0 ≤ xb.toInt) (xb2 : xb.toInt ≤ 9) (xc1 : 0 ≤ xc.toInt) (xc2 : xc.toInt ≤ 99) (no : ∀ j, ¬ c_ov h xa.toInt xb.toInt xc.toInt xc.toInt j) : b_srv c_K N νs h c_srBuy0 := by
  intro h1 as W N1 ν y H1 f hW hs
  obtain ⟨y1, y2⟩ := y
  have w0 : ν 4 = xa.toInt := (y2 4 (by omega)).trans u0
  have w1 : ν 5 = xb.toInt := (y2 5 (by omega)).trans u1
  have w2 : ν 6 = xc.toInt := (y2 6 (by omega)).trans u2
  have e := hs.vals (by decide)
  have e : as = [.ref 271, .int xa, .int xb, .int xc] := by
    rw [e]
    show [b_val ν (2, 271, 0), b_val ν (1, 4, 0), b_val ν (1, 5, 0), b_val ν (1, 6, 0)] = _
    rw [b_val_i w0, b_val_i w1, b_val_i w2]
    rfl
  subst e
  obtain ⟨r, r1, ⟨q, ex, hx⟩, r3, r4, r5⟩ := sp_buy0 H1 xa1 xa2 xb1 xb2 xc1 xc2 (fun j o => no j ((c_ov_frm H f hW).mp o))
  exact ⟨r, r1, (by rw [ex]; exact (show b_v _ _ (0, 0, (-1)) (Value.int q) from Or.inl ⟨rfl, hx⟩)), fun f hf => (by cases hf), r3, r4, r5⟩
def c_srBuy1 : BSr := (73, 6, ([(2, 271, 0), (1, 4, 0), (1, 5, 0), (1, 6, 0)], [(42, 0), (43, 0), (44, 0), (45, 0), (41, 5), (46, 0)]), (.inl (some (1, 7, 0)), [], []), (0, 0))
theorem c_vrBuy1 {N : Nat} {νs : BN} {h : AH} {xa xb xc : Int32} (H : b_H c_K h) (hN : 8 ≤ N) (u0 : νs 4 = xa.toInt) (u1 : νs 5 = xb.toInt) (u2 : νs 6 = xc.toInt) (xa1 : 0 ≤ xa.toInt) (xa2 : xa.toInt ≤ 19) (xb1 : 0 ≤ xb.toInt) (xb2 : xb.toInt ≤ 9) (xc1 : 0 ≤ xc.toInt) (xc2 : xc.toInt ≤ 99) {j : Nat} (o : c_ov h xa.toInt xb.toInt xc.toInt xc.toInt j) (one : ∀ i, c_ov h xa.toInt xb.toInt xc.toInt xc.toInt i → i = j) (uy : νs 7 = c_I h 276 j) : b_srv c_K N νs h c_srBuy1 := by
  intro h1 as W N1 ν y H1 f hW hs
  obtain ⟨y1, y2⟩ := y
  have w0 : ν 4 = xa.toInt := (y2 4 (by omega)).trans u0
  have w1 : ν 5 = xb.toInt := (y2 5 (by omega)).trans u1
  have w2 : ν 6 = xc.toInt := (y2 6 (by omega)).trans u2
  have e := hs.vals (by decide)
  have e : as = [.ref 271, .int xa, .int xb, .int xc] := by
    rw [e]
    show [b_val ν (2, 271, 0), b_val ν (1, 4, 0), b_val ν (1, 5, 0), b_val ν (1, 6, 0)] = _
    rw [b_val_i w0, b_val_i w1, b_val_i w2]
    rfl
  subst e
  obtain ⟨r, r1, ⟨q, ex, hx⟩, r3, r4, r5⟩ := sp_buy1 H1 xa1 xa2 xb1 xb2 xc1 xc2 ((c_ov_frm H f (fun w hw => hW w (by simp only [List.mem_cons, List.not_mem_nil, or_false] at hw; rcases hw with rfl | rfl | rfl | rfl | rfl <;> decide))).mpr o) (fun i q => one i ((c_ov_frm H f (fun w hw => hW w (by simp only [List.mem_cons, List.not_mem_nil, or_false] at hw; rcases hw with rfl | rfl | rfl | rfl | rfl <;> decide))).mp q))
  rw [c_I_cg (f.k H c_ra276 c_rq46 (by decide) (by simpa using hW (46, 0) (by decide)) _)] at hx
  have wy : ν 7 = c_I h 276 j := (y2 7 (by omega)).trans uy
  exact ⟨r, r1, (by rw [ex]; exact (show b_v _ _ (1, 7, 0) (Value.int q) from Or.inr ⟨rfl, (show 7 < N1 by omega), by show _ = ν 7 + 0; omega⟩)), fun f hf => (by cases hf), r3, r4, r5⟩
def c_srOwn0 : BSr := (250, 6, ([(2, 365, 0), (1, 4, 0), (1, 5, 0), (1, 6, 0)], [(105, 0), (50, 52), (104, 0), (50, 44)]), (.inl (some (0, 0, 0)), [((2, 365, 0), (0, 0, 55), (0, 0, 3))], [(50, 55)]), (0, 0))
theorem c_vrOwn0 {N : Nat} {νs : BN} {h : AH} {xa xb xc : Int32} (H : b_H c_K h) (hN : 7 ≤ N) (u0 : νs 4 = xa.toInt) (u1 : νs 5 = xb.toInt) (u2 : νs 6 = xc.toInt) (xa1 : 0 ≤ xa.toInt) (xa2 : xa.toInt ≤ 19) (xb1 : 0 ≤ xb.toInt) (xb2 : xb.toInt ≤ 9) (xc1 : 0 ≤ xc.toInt) (xc2 : xc.toInt ≤ 99) (hR : ∀ i, i < 40 → c_at h 726 i = some (.ref (727 + i))) (hf : xa.toInt < c_I h 365 44) (no : ∀ j, ¬ c_ovM h xa.toInt xb.toInt xc.toInt xc.toInt j) : b_srv c_K N νs h c_srOwn0 := by
  intro h1 as W N1 ν y H1 f hW hs
  obtain ⟨y1, y2⟩ := y
  have w0 : ν 4 = xa.toInt := (y2 4 (by omega)).trans u0
  have w1 : ν 5 = xb.toInt := (y2 5 (by omega)).trans u1
  have w2 : ν 6 = xc.toInt := (y2 6 (by omega)).trans u2
  have e := hs.vals (by decide)
  have e : as = [.ref 365, .int xa, .int xb, .int xc] := by
    rw [e]
    show [b_val ν (2, 365, 0), b_val ν (1, 4, 0), b_val ν (1, 5, 0), b_val ν (1, 6, 0)] = _
    rw [b_val_i w0, b_val_i w1, b_val_i w2]
    rfl
  subst e
  have hR1 : ∀ i, i < 40 → c_at h1 726 i = some (.ref (727 + i)) := fun i hi => by rw [f.k H c_ra726 c_rq104 (by decide) (by simpa using hW (104, 0) (by decide))]; exact hR i hi
  have nF1 : c_I h1 365 44 = c_I h 365 44 := c_I_cg (f.kF H c_ra365 c_rq50 (by decide) (by simpa using hW (50, 44) (by decide)))
  have nM1 : c_I h1 365 52 = c_I h 365 52 := c_I_cg (f.kF H c_ra365 c_rq50 (by decide) (by simpa using hW (50, 52) (by decide)))
  obtain ⟨r, r1, ⟨q, ex, hx⟩, ⟨t, et, ht⟩, r3, r4, r5⟩ := sp_own0 H1 hR1 xa1 xa2 xb1 xb2 xc1 xc2 (by rw [nF1]; exact hf) (fun j o => no j ((c_ovM_frm H f (fun w hw => hW w (by simp only [List.mem_cons, List.not_mem_nil, or_false] at hw; rcases hw with rfl | rfl | rfl <;> decide))).mp o))
  exact ⟨r, r1, (by rw [ex]; exact (show b_v _ _ (0, 0, 0) (Value.int q) from Or.inl ⟨rfl, hx⟩)), (by rintro f hf; rw [List.mem_singleton.mp hf]; exact b_fa.mk et (Or.inl ⟨rfl, rfl⟩) (Or.inl ⟨rfl, rfl⟩) (Or.inl ⟨rfl, ht⟩)), r3, r4, r5⟩
def c_srOwn1 : BSr := (250, 6, ([(2, 365, 0), (1, 4, 0), (1, 5, 0), (1, 6, 0)], [(105, 0), (50, 52), (104, 0), (50, 44)]), (.inl (some (1, 7, 0)), [((2, 365, 0), (0, 0, 55), (0, 0, 0))], [(50, 55)]), (0, 0))
theorem c_vrOwn1 {N : Nat} {νs : BN} {h : AH} {xa xb xc : Int32} (H : b_H c_K h) (hN : 8 ≤ N) (u0 : νs 4 = xa.toInt) (u1 : νs 5 = xb.toInt) (u2 : νs 6 = xc.toInt) (xa1 : 0 ≤ xa.toInt) (xa2 : xa.toInt ≤ 19) (xb1 : 0 ≤ xb.toInt) (xb2 : xb.toInt ≤ 9) (xc1 : 0 ≤ xc.toInt) (xc2 : xc.toInt ≤ 99) (hR : ∀ i, i < 40 → c_at h 726 i = some (.ref (727 + i))) (hf : xa.toInt < c_I h 365 44) {j : Nat} (o : c_ovM h xa.toInt xb.toInt xc.toInt xc.toInt j) (one : ∀ i, c_ovM h xa.toInt xb.toInt xc.toInt xc.toInt i → i = j) (uy : νs 7 = c_I h (727 + j) 4) : b_srv c_K N νs h c_srOwn1 := by
  intro h1 as W N1 ν y H1 f hW hs
  obtain ⟨y1, y2⟩ := y
  have w0 : ν 4 = xa.toInt := (y2 4 (by omega)).trans u0
  have w1 : ν 5 = xb.toInt := (y2 5 (by omega)).trans u1
  have w2 : ν 6 = xc.toInt := (y2 6 (by omega)).trans u2
  have e := hs.vals (by decide)
  have e : as = [.ref 365, .int xa, .int xb, .int xc] := by
    rw [e]
    show [b_val ν (2, 365, 0), b_val ν (1, 4, 0), b_val ν (1, 5, 0), b_val ν (1, 6, 0)] = _
    rw [b_val_i w0, b_val_i w1, b_val_i w2]
    rfl
  subst e
  have hR1 : ∀ i, i < 40 → c_at h1 726 i = some (.ref (727 + i)) := fun i hi => by rw [f.k H c_ra726 c_rq104 (by decide) (by simpa using hW (104, 0) (by decide))]; exact hR i hi
  have nF1 : c_I h1 365 44 = c_I h 365 44 := c_I_cg (f.kF H c_ra365 c_rq50 (by decide) (by simpa using hW (50, 44) (by decide)))
  have nM1 : c_I h1 365 52 = c_I h 365 52 := c_I_cg (f.kF H c_ra365 c_rq50 (by decide) (by simpa using hW (50, 52) (by decide)))
  obtain ⟨r, r1, ⟨q, ex, hx⟩, ⟨t, et, ht⟩, r3, r4, r5⟩ := sp_own1 H1 hR1 xa1 xa2 xb1 xb2 xc1 xc2 (by rw [nF1]; exact hf) ((c_ovM_frm H f (fun w hw => hW w (by simp only [List.mem_cons, List.not_mem_nil, or_false] at hw; rcases hw with rfl | rfl | rfl <;> decide))).mpr o) (fun i q => one i ((c_ovM_frm H f (fun w hw => hW w (by simp only [List.mem_cons, List.not_mem_nil, or_false] at hw; rcases hw with rfl | rfl | rfl <;> decide))).mp q))
  rw [c_I_cg (f.k H (sRow j o.1) c_rq105 (by decide) (by simpa using hW (105, 0) (by decide)) _)] at hx
  have wy : ν 7 = c_I h (727 + j) 4 := (y2 7 (by omega)).trans uy
  exact ⟨r, r1, (by rw [ex]; exact (show b_v _ _ (1, 7, 0) (Value.int q) from Or.inr ⟨rfl, (show 7 < N1 by omega), by show _ = ν 7 + 0; omega⟩)), (by rintro f hf; rw [List.mem_singleton.mp hf]; exact b_fa.mk et (Or.inl ⟨rfl, rfl⟩) (Or.inl ⟨rfl, rfl⟩) (Or.inl ⟨rfl, ht⟩)), r3, r4, r5⟩
