/-! A method's check: from its start and from each cut, every run comes to an end that the contract names or to a cut, and there the rank has fallen -/
/-- a sum of symbols -/
abbrev BF1 : Type := List (Nat × Int) × Int
/-- a cut: where, the locals, what is known, the rank, two symbols that are compared first -/
abbrev BCu : Type := Nat × BL × BP × BF1 × Option (Nat × Nat)
def b_sum (ν : BN) : List (Nat × Int) → Int
  | [] => 0
  | q :: l => q.2 * ν q.1 + b_sum ν l
def b_ins (n : Nat) (c : Int) : List (Nat × Int) → List (Nat × Int)
  | [] => [(n, c)]
  | q :: l => if q.1 = n then (n, q.2 + c) :: l else q :: b_ins n c l
/-- an upper bound -/
def b_ub (E : BQ) : List (Nat × Int) → Option Int
  | [] => some 0
  | q :: l => if q.2 = 0 then b_ub E l else match E[q.1]? with
    | some (0, lo, hi) => (b_ub E l).map fun u => u + (if 0 ≤ q.2 then q.2 * hi else q.2 * lo)
    | _ => none
def b_rv (ν : BN) (r : BF1) : Int := b_sum ν r.1 + r.2
def b_neg (l : List (Nat × Int)) : List (Nat × Int) := l.map fun q => (q.1, -q.2)
/-- a sum at an instance, added to another -/
def b_rs (σ : List BV) : List (Nat × Int) → BF1 → Option BF1
  | [], r => some r
  | q :: l, r => match σ[q.1]? with
    | some (0, _, k) => b_rs σ l (r.1, r.2 + q.2 * k)
    | some (1, m, k) => b_rs σ l (b_ins m q.2 r.1, r.2 + q.2 * k)
    | _ => none
/-- the rank at an instance of T' is below that of T -/
def b_dec (E : BQ) (σ : List BV) (r r' : BF1) : Bool := match b_rs σ r'.1 (b_neg r.1, r'.2 - r.2) with
  | some d => (match b_ub E d.1 with
    | some u => decide (u + d.2 ≤ -1)
    | none => false)
  | none => false
def b_id (E0 : BQ) : List BV := (E0.zipIdx 0).map b_sy
def b_i0 (E0 : BQ) (n : Nat) : BI := (b_id E0).map some ++ List.replicate n none
def b_subW (W W' : BW) : Bool := W.all fun w => W'.contains w
/-- the instance of a cut's template -/
def b_at (K : BH) (R : BRw) (T : BCu) (bl : BL) (bs : List BV) (G : BG) : Option (List BV) :=
  if bs = [] ∧ b_subW G.2.2.2.2 R.2.2.2.1 = true then
    match b_tot (b_bdF K G.1 T.2.2.1.1 (b_bdL (b_i0 R.2.2.1.2.1 (T.2.2.1.1.length - R.2.2.1.2.1.length)) T.2.1 bl) G.2.1 T.2.2.1.2.1) with
    | some σ => if b_locs σ T.2.1 bl = true ∧ b_inst K σ T.2.2.1 G = true ∧ σ.take R.2.2.1.2.1.length = b_id R.2.2.1.2.1 then some σ else none
    | none => none
  else none
def b_bdK (σ : BI) (p q : BE) : BI := match p, q with
  | .inl (some p), .inl (some b) => b_bd σ p b
  | _, _ => σ
/-- an end is one of the contract's -/
def b_isP (K : BH) (R : BRw) (p : BPo) (q : BE) (G : BG) (c : Nat × Nat) : Bool := decide (c = p.2.2) && (b_subW G.2.2.2.2 R.2.2.2.1 && match b_tot (b_bdF K G.1 (R.2.2.1.2.1 ++ p.2.1.1) (b_bdK (b_i0 R.2.2.1.2.1 p.2.1.1.length) p.1 q) G.2.1 p.2.1.2.1) with
  | some σ => decide (σ.take R.2.2.1.2.1.length = b_id R.2.2.1.2.1) && (decide (b_sbE σ p.1 = some q) && b_inst K σ (R.2.2.1.2.1 ++ p.2.1.1, p.2.1.2) G)
  | none => false)
def b_fall (E : BQ) (σ : List BV) (T0 : Option BCu) (T : BCu) : Bool := match T0 with
  | none => true
  | some T0 => b_dec E σ T0.2.2.2.1 T.2.2.2.1
def b_one1 (K : BH) (R : BRw) (cuts : List BCu) (T0 : Option BCu) (o : BY) : Bool := match o.1 with
  | .inl q => R.2.2.2.2.any fun p => b_isP K R p q o.2.1 o.2.2
  | .inr (pc, bl, bs) => decide (o.2.2 = (0, 0)) && cuts.any fun T => decide (T.1 = pc) && (match b_at K R T bl bs o.2.1 with
    | some σ => b_fall o.2.1.1 σ T0 T
    | none => false)
def b_GT (R : BRw) (T : BCu) : BG := (T.2.2.1.1, T.2.2.1.2.1, T.2.2.1.2.2, [], R.2.2.2.1)
/-- a cut's rank isn't negative, and speaks of its own symbols -/
def b_cutOK (R : BRw) (T : BCu) : Bool := decide (R.2.2.1.2.1.length ≤ T.2.2.1.1.length) && ((match b_ub T.2.2.1.1 (b_neg T.2.2.2.1.1) with
  | some u => decide (u ≤ T.2.2.2.1.2)
  | none => false) && T.2.2.2.1.1.all fun q => decide (q.1 < T.2.2.1.1.length))
def b_sP (T0 : Option BCu) : Nat := match T0 with
  | none => 0
  | some T => T.1
def b_sL (R : BRw) (T0 : Option BCu) : BL := match T0 with
  | none => b_args R.1 R.2.2.1.1
  | some T => T.2.1
def b_sG (R : BRw) (T0 : Option BCu) : BG := match T0 with
  | none => b_pre R
  | some T => b_GT R T
/-- y for x -/
def b_rep (x y : Nat) (b : BV) : BV := if b.1 = 1 ∧ b.2.1 = x then (1, y, b.2.2) else b
def b_repF (x y : Nat) (f : BV × BV × BV) : BV × BV × BV := (b_rep x y f.1, b_rep x y f.2.1, b_rep x y f.2.2)
/-- the starts of a stretch: as it is, or with one symbol below, at, above another (at: which stands for which) -/
def b_sts (bl : BL) (G : BG) (q : Option (Nat × Nat)) : List (BL × BG × Option (Nat × Nat)) := match q with
  | none => [(bl, G, none)]
  | some (x, y) => (b_le G (1, x, 0) (1, y, 0) (-1)).toList.map (fun G => (bl, G, none)) ++ ((bl.map (Option.map (b_rep x y)), (G.1, G.2.1.map (b_repF x y), G.2.2.1, G.2.2.2.1, G.2.2.2.2), some (x, y)) :: (b_le G (1, y, 0) (1, x, 0) (-1)).toList.map (fun G => (bl, G, none)))
def b_repL (x y : Nat) (l : List (Nat × Int)) : List (Nat × Int) := l.map fun q => if q.1 = x then (y, q.2) else q
/-- the rank, with one symbol for another -/
def b_repT (q : Option (Nat × Nat)) (T0 : Option BCu) : Option BCu := match q, T0 with
  | some (x, y), some T => some (T.1, T.2.1, T.2.2.1, (b_repL x y T.2.2.2.1.1, T.2.2.2.1.2), T.2.2.2.2)
  | _, T => T
def b_sQ (T0 : Option BCu) : Option (Nat × Nat) := match T0 with
  | none => none
  | some T => match T.2.2.2.2 with
    | some (x, y) => if x < T.2.2.1.1.length ∧ y < T.2.2.1.1.length then some (x, y) else none
    | none => none
noncomputable def b_seg (K : BH) (cB : BK) (R : BRw) (cuts : List BCu) (F : Nat) (T0 : Option BCu) : Bool := (b_sts (b_sL R T0) (b_sG R T0) (b_sQ T0)).all fun s => match b_ex K cB (cuts.map fun T => T.1) R.1 F true (b_sP T0) s.1 [] s.2.1 0 0 with
  | some L => L.all (b_one1 K R cuts (b_repT s.2.2 T0))
  | none => false
noncomputable def b_chk (K : BH) (cB : BK) (R : BRw) (cuts : List BCu) (F : Nat) : Bool := b_argOK R.1 R.2.2.1.1 && (cuts.all (b_cutOK R) && (b_seg K cB R cuts F none && cuts.all fun T => b_seg K cB R cuts F (some T)))
section BZ
variable {K : BH} {ν : BN} {h0 h : AH} {G : BG}
theorem b_sum_ins (n : Nat) (c : Int) : ∀ l, b_sum ν (b_ins n c l) = c * ν n + b_sum ν l
  | [] => rfl
  | q :: l => by
    rw [b_ins]
    split
    · rename_i e
      show (q.2 + c) * ν n + b_sum ν l = c * ν n + (q.2 * ν q.1 + b_sum ν l)
      rw [e, Int.add_mul]
      omega
    · show q.2 * ν q.1 + b_sum ν (b_ins n c l) = c * ν n + (q.2 * ν q.1 + b_sum ν l)
      rw [b_sum_ins n c l]
      omega
theorem b_ub_ok {E : BQ} (hs : b_sat K E ν) : ∀ {l : List (Nat × Int)} {u : Int}, b_ub E l = some u → b_sum ν l ≤ u
  | [], u, h => by cases h; exact Int.le_refl _
  | q :: l, u, h => by
    rw [b_ub] at h
    rw [b_sum]
    split at h
    · rename_i e
      have := b_ub_ok hs h
      rw [e, Int.zero_mul]
      omega
    · split at h
      · rename_i lo hi he
        rw [Option.map_eq_some_iff] at h
        obtain ⟨u', h1, rfl⟩ := h
        have k := b_ub_ok hs h1
        have b := hs _ _ he
        unfold b_q at b
        rw [if_pos rfl] at b
        dsimp only at b
        split
        · rename_i e
          have := Int.mul_le_mul_of_nonneg_left b.2 e
          omega
        · rename_i e
          have := Int.mul_le_mul_of_nonpos_left (a := q.2) (by omega : q.2 ≤ 0) b.1
          omega
      · cases h
theorem b_sum_neg : ∀ l, b_sum ν (b_neg l) = - b_sum ν l
  | [] => rfl
  | q :: l => by
    show -q.2 * ν q.1 + b_sum ν (b_neg l) = -(q.2 * ν q.1 + b_sum ν l)
    rw [b_sum_neg l, Int.neg_mul]
    omega
theorem b_rs_ok {σ : List BV} : ∀ {l : List (Nat × Int)} {r d : BF1}, b_rs σ l r = some d → b_rv ν d = b_sum (b_vT σ ν) l + b_rv ν r
  | [], r, d, h => by cases h; show _ = 0 + _; omega
  | q :: l, r, d, h => by
    rw [b_rs] at h
    rw [b_sum]
    split at h
    · rename_i k he
      rw [b_rs_ok h, b_vT_at he]
      show _ + (b_sum ν r.1 + (r.2 + q.2 * k)) = q.2 * k + _ + (b_sum ν r.1 + r.2)
      omega
    · rename_i m k he
      rw [b_rs_ok h, b_vT_at he]
      show _ + (b_sum ν (b_ins m q.2 r.1) + (r.2 + q.2 * k)) = q.2 * (ν m + k) + _ + (b_sum ν r.1 + r.2)
      rw [b_sum_ins, Int.mul_add]
      omega
    · cases h
theorem b_dec_ok {E : BQ} (hs : b_sat K E ν) {σ : List BV} {r r' : BF1} (h : b_dec E σ r r' = true) : b_rv (b_vT σ ν) r' < b_rv ν r := by
  unfold b_dec at h
  split at h
  · rename_i d hd
    split at h
    · rename_i u hu
      have h := of_decide_eq_true h
      have k1 := b_rs_ok (ν := ν) hd
      have k2 := b_ub_ok hs hu
      have k3 : b_rv ν (b_neg r.1, r'.2 - r.2) = - b_sum ν r.1 + (r'.2 - r.2) := by
        show b_sum ν (b_neg r.1) + _ = _
        rw [b_sum_neg]
      have k4 : b_rv ν d = b_sum ν d.1 + d.2 := rfl
      show b_sum (b_vT σ ν) r'.1 + r'.2 < b_sum ν r.1 + r.2
      omega
    · cases h
  · cases h
theorem b_sum_cg {ν' : BN} : ∀ {l : List (Nat × Int)}, (∀ q ∈ l, ν' q.1 = ν q.1) → b_sum ν' l = b_sum ν l
  | [], _ => rfl
  | q :: l, h => by
    rw [b_sum, b_sum, h q List.mem_cons_self, b_sum_cg (fun q' hq => h q' (List.mem_cons_of_mem _ hq))]
theorem b_subW_ok {W W' : BW} (h : b_subW W W' = true) : ∀ w, w ∈ W → w ∈ W' := fun w hw => by
  have := List.all_eq_true.mp h w hw
  simpa using this
theorem b_id_ext {σ : List BV} {E0 : BQ} (hl : E0.length ≤ σ.length) (h : σ.take E0.length = b_id E0) : b_ext E0.length σ.length ν (b_vT σ ν) := by
  refine ⟨hl, fun n hn => ?_⟩
  have h1 : (σ.take E0.length)[n]? = σ[n]? := by rw [List.getElem?_take, if_pos hn]
  have hb := List.getElem?_eq_getElem (show n < σ.length by omega)
  rw [b_vT_at hb]
  rw [h, hb] at h1
  obtain ⟨q, -, q2⟩ := b_new_at (N := 0) h1
  rw [q2, b_sy_vl.1, Nat.zero_add]
theorem b_at_ok (g : b_G K ν h0 h G) {R : BRw} {T : BCu} {bl : BL} {bs : List BV} {al : AL} {σ : List BV} (hl : b_L G.1.length ν bl al) (ha : b_at K R T bl bs G = some σ) (hT : R.2.2.1.2.1.length ≤ T.2.2.1.1.length) : bs = [] ∧ b_L (b_GT R T).1.length (b_vT σ ν) T.2.1 al ∧ b_G K (b_vT σ ν) h0 h (b_GT R T) ∧ b_ext R.2.2.1.2.1.length (b_GT R T).1.length ν (b_vT σ ν) := by
  unfold b_at at ha
  split at ha
  · rename_i hc
    split at ha
    · rename_i σ' hσ
      split at ha
      · rename_i hd
        cases ha
        obtain ⟨d1, d2, d3⟩ := hd
        obtain ⟨i1, i2, i3, i4, i5⟩ := b_inst_ok g d2
        refine ⟨hc.1, ?_, ⟨i3, i4, i5, (fun o ho => by cases ho), g.2.2.2.2.1, g.2.2.2.2.2.mono (b_subW_ok hc.2)⟩, ?_⟩
        · have := b_locs_ok d1 hl
          rw [i1] at this
          exact this
        · have := b_id_ext (ν := ν) (by rw [i1]; exact hT) d3
          rw [i1] at this
          exact this
      · cases ha
    · cases ha
  · cases ha
theorem b_isP_ok (g : b_G K ν h0 h G) {R : BRw} {p : BPo} {q : BE} {c : Nat × Nat} {r : (Option Value) ⊕ Nat} (hf : b_fin G.1.length ν q r) (hp : b_isP K R p q G c = true) : c = p.2.2 ∧ ∃ ν', b_ext R.2.2.1.2.1.length (b_pst R p).1.length ν ν' ∧ b_fin (b_pst R p).1.length ν' p.1 r ∧ b_G K ν' h0 h (b_pst R p) := by
  unfold b_isP at hp
  rw [Bool.and_eq_true, decide_eq_true_eq, Bool.and_eq_true] at hp
  obtain ⟨p1, p2, p3⟩ := hp
  split at p3
  · rename_i σ hσ
    rw [Bool.and_eq_true, decide_eq_true_eq, Bool.and_eq_true, decide_eq_true_eq] at p3
    obtain ⟨s1, s2, s3⟩ := p3
    obtain ⟨i1, i2, i3, i4, i5⟩ := b_inst_ok g s3
    have i1 : σ.length = (R.2.2.1.2.1 ++ p.2.1.1).length := i1
    have x := b_id_ext (ν := ν) (by rw [i1, List.length_append]; exact Nat.le_add_right _ _) s1
    rw [i1] at x
    refine ⟨p1, b_vT σ ν, x, ?_, ⟨i3, i4, i5, (fun o ho => by cases ho), g.2.2.2.2.1, g.2.2.2.2.2.mono (b_subW_ok p2)⟩⟩
    show b_fin (R.2.2.1.2.1 ++ p.2.1.1).length _ _ _
    rw [← i1]
    generalize hpk : p.1 = k at s2
    cases k with
    | inl o =>
      cases o with
      | none =>
        cases s2
        cases r with
        | inl r => cases r <;> exact hf
        | inr k => exact hf
      | some b =>
        have s2 : (b_sb σ b).map (fun b => (.inl (some b) : BE)) = some q := s2
        rw [Option.map_eq_some_iff] at s2
        obtain ⟨b', h1, rfl⟩ := s2
        cases r with
        | inl r =>
          cases r with
          | none => exact hf
          | some v => exact b_sb_v h1 hf
        | inr k => exact hf
    | inr k =>
      cases s2
      cases r <;> exact hf
  · cases p3
theorem b_post.from {R : BRw} {N : Nat} {ν' : BN} {r : AR} (x : b_ext R.2.2.1.2.1.length N ν ν') (h : b_post K R ν' h0 r) : b_post K R ν h0 r := by
  obtain ⟨p, p1, ν2, x2, p2⟩ := h
  exact ⟨p, p1, ν2, ⟨x2.1, fun n hn => (x2.2 n hn).trans (x.2 n hn)⟩, p2⟩
theorem b_rep_v {N x y : Nat} {b : BV} {v : Value} (e : ν x = ν y) (hy : y < N) (h : b_v N ν b v) : b_v N ν (b_rep x y b) v := by
  unfold b_rep
  split
  · rename_i c
    obtain ⟨X, rfl, hX⟩ := h.int (by omega)
    rcases hX with ⟨q, -⟩ | ⟨q1, q2, q3⟩
    · omega
    · refine Or.inr ⟨rfl, hy, ?_⟩
      rw [c.2, e] at q3
      exact q3
  · exact h
theorem b_rep_i {N x y : Nat} {b : BV} {z : Int} (e : ν x = ν y) (hy : y < N) (h : b_i N ν b z) : b_i N ν (b_rep x y b) z := by
  unfold b_rep
  split
  · rename_i c
    rcases h with ⟨q, -⟩ | ⟨q1, q2, q3⟩
    · omega
    · refine Or.inr ⟨rfl, hy, ?_⟩
      rw [c.2, e] at q3
      exact q3
  · exact h
theorem b_rep_9 {x y : Nat} {b : BV} : (b_rep x y b).1 = b.1 := by
  unfold b_rep
  split
  · rename_i c; exact c.1.symm
  · rfl
theorem b_rep_fa {N x y : Nat} {f : BV × BV × BV} {h : AH} (e : ν x = ν y) (hy : y < N) (k : b_fa N ν h f) : b_fa N ν h (b_repF x y f) := by
  obtain ⟨a, t, vs, k1, k2, k3⟩ := k
  refine ⟨a, t, vs, b_rep_v (v := .ref a) e hy k1, k2, ?_⟩
  have e9 : (b_repF x y f).2.1.1 = f.2.1.1 := b_rep_9
  rw [e9]
  split at k3
  · rename_i q
    rw [if_pos q]
    exact b_rep_i e hy k3
  · rename_i q
    rw [if_neg q]
    obtain ⟨j, v, m1, m2, m3⟩ := k3
    exact ⟨j, v, b_rep_i e hy m1, m2, b_rep_v e hy m3⟩
theorem b_sts_ok (g : b_G K ν h0 h G) {bl : BL} {al : AL} {q : Option (Nat × Nat)} (hl : b_L G.1.length ν bl al) (hq : ∀ x y, q = some (x, y) → x < G.1.length ∧ y < G.1.length) : ∃ s ∈ b_sts bl G q, b_L s.2.1.1.length ν s.1 al ∧ b_G K ν h0 h s.2.1 ∧ s.2.1.1.length = G.1.length ∧ ∀ x y, s.2.2 = some (x, y) → ν x = ν y ∧ x < G.1.length ∧ y < G.1.length := by
  unfold b_sts
  split
  · exact ⟨_, List.mem_cons_self, hl, g, rfl, fun x y e => by cases e⟩
  · rename_i x y
    obtain ⟨hx, hy⟩ := hq x y rfl
    have ix : b_i G.1.length ν (1, x, 0) (ν x) := Or.inr ⟨rfl, hx, by show _ = ν x + 0; omega⟩
    have iy : b_i G.1.length ν (1, y, 0) (ν y) := Or.inr ⟨rfl, hy, by show _ = ν y + 0; omega⟩
    rcases Int.lt_trichotomy (ν x) (ν y) with c | c | c
    · obtain ⟨G1, k1, g1, l1⟩ := b_le_ok g (c := -1) ix iy (by omega)
      refine ⟨(bl, G1, none), List.mem_append_left _ ?_, ?_, g1, l1, fun x y e => by cases e⟩
      · rw [k1]; exact List.mem_cons_self
      · show b_L G1.1.length _ _ _
        rw [l1]; exact hl
    · refine ⟨_, List.mem_append_right _ List.mem_cons_self, ⟨by rw [List.length_map]; exact hl.1, fun i b hb => ?_⟩, ⟨g.1, fun f hf => ?_, g.2.2⟩, rfl, fun x' y' e => by cases e; exact ⟨c, hx, hy⟩⟩
      · rw [List.getElem?_map] at hb
        cases hbl : bl[i]? with
        | none => rw [hbl] at hb; cases hb
        | some o =>
          rw [hbl] at hb
          cases o with
          | none => cases hb
          | some b0 =>
            cases hb
            obtain ⟨v, v1, v2⟩ := hl.2 i b0 hbl
            exact ⟨v, v1, b_rep_v c hy v2⟩
      · obtain ⟨f0, f1, rfl⟩ := List.mem_map.mp hf
        exact b_rep_fa c hy (g.2.1 f0 f1)
    · obtain ⟨G1, k1, g1, l1⟩ := b_le_ok g (c := -1) iy ix (by omega)
      refine ⟨(bl, G1, none), List.mem_append_right _ (List.mem_cons_of_mem _ ?_), ?_, g1, l1, fun x y e => by cases e⟩
      · rw [k1]; exact List.mem_cons_self
      · show b_L G1.1.length _ _ _
        rw [l1]; exact hl
theorem b_sum_rep {x y : Nat} (e : ν x = ν y) : ∀ l, b_sum ν (b_repL x y l) = b_sum ν l
  | [] => rfl
  | q :: l => by
    show (if q.1 = x then (y, q.2) else q).2 * ν (if q.1 = x then (y, q.2) else q).1 + b_sum ν (b_repL x y l) = q.2 * ν q.1 + b_sum ν l
    rw [b_sum_rep e l]
    split
    · rename_i c
      rw [c, e]
    · rfl
theorem b_sQ_ok {R : BRw} {T0 : Option BCu} {x y : Nat} (h : b_sQ T0 = some (x, y)) : x < (b_sG R T0).1.length ∧ y < (b_sG R T0).1.length := by
  unfold b_sQ at h
  cases T0 with
  | none => cases h
  | some T =>
    dsimp only at h
    split at h
    · split at h
      · rename_i c
        cases h
        exact c
      · cases h
    · cases h
theorem b_seg_ok (hJ : b_JF K) {d F : Nat} {cB : BK} (hc : b_cal K (b_lim d) cB) {R : BRw} {cuts : List BCu} {T0 : Option BCu} {pc : Nat} {bl : BL} {G0 : BG} (hpc : pc = b_sP T0) (hbl : bl = b_sL R T0) (hG0 : G0 = b_sG R T0) (hcut : cuts.all (b_cutOK R) = true) (hN : R.2.2.1.2.1.length ≤ G0.1.length) (hseg : b_seg K cB R cuts F T0 = true) {al : AL} (hl : b_L G0.1.length ν bl al) (g : b_G K ν h0 h G0)
    (IH : ∀ (T : BCu) (ν' : BN) (al' : AL) (h' : AH), T ∈ cuts → b_L (b_GT R T).1.length ν' T.2.1 al' → b_G K ν' h0 h' (b_GT R T) → (∀ T1, T0 = some T1 → b_rv ν' T.2.2.2.1 < b_rv ν T1.2.2.2.1) → ∃ r, b_R d R.1 T.1 al' [] h' 0 0 r ∧ b_post K R ν' h0 r)
    (hr0 : ∀ T1, T0 = some T1 → T1.2.2.2.1.1.all (fun q => decide (q.1 < G0.1.length)) = true) : ∃ r, b_R d R.1 pc al [] h 0 0 r ∧ b_post K R ν h0 r := by
  unfold b_seg at hseg
  rw [← hpc, ← hbl, ← hG0] at hseg
  obtain ⟨ss, ss1, hl, g, ssl, ssq⟩ := b_sts_ok (q := b_sQ T0) g hl (fun x y e => by rw [hG0]; exact b_sQ_ok e)
  have hseg := List.all_eq_true.mp hseg ss ss1
  rw [← ssl] at hN
  split at hseg
  · rename_i L hL
    obtain ⟨o, o1, ν', x, o2⟩ := b_ex_ok hJ (mc0 := 0) (ms0 := 0) hc F true pc ss.1 [] ss.2.1 0 0 L ν al [] h 0 0 hL hl b_S.nil g rfl rfl
    have ho := List.all_eq_true.mp hseg o o1
    have xN : b_ext R.2.2.1.2.1.length ss.2.1.1.length ν ν := ⟨hN, fun _ _ => rfl⟩
    rcases o2 with ⟨q, r, q1, q2, q3, q4, q5, q6⟩ | ⟨pc', bl', bs', al', st', h', mc', ms', q1, q2, q3, q4, q5, q6, q7⟩
    · unfold b_one1 at ho
      rw [q1] at ho
      obtain ⟨p, p1, p2⟩ := List.any_eq_true.mp ho
      obtain ⟨k1, ν2, k2, k3, k4⟩ := b_isP_ok q4 q3 p2
      refine ⟨r, q2, p, p1, ν2, ⟨k2.1, fun n hn => (k2.2 n hn).trans (x.2 n (Nat.lt_of_lt_of_le hn hN))⟩, k3, k4, ?_⟩
      rw [← k1]
      obtain ⟨r1, r2, r3, r4⟩ := r
      have q5 : r3 = 0 + o.2.2.1 := q5
      have q6 : r4 = 0 + o.2.2.2 := q6
      show (r3, r4) = o.2.2
      rw [q5, q6, Nat.zero_add, Nat.zero_add]
    · unfold b_one1 at ho
      rw [q1] at ho
      dsimp only at ho
      rw [Bool.and_eq_true, decide_eq_true_eq] at ho
      obtain ⟨ho1, ho2⟩ := ho
      obtain ⟨T, t1, t2⟩ := List.any_eq_true.mp ho2
      rw [Bool.and_eq_true, decide_eq_true_eq] at t2
      obtain ⟨t2, t3⟩ := t2
      split at t3
      · rename_i σ hσ
        have hcT := List.all_eq_true.mp hcut T t1
        unfold b_cutOK at hcT
        rw [Bool.and_eq_true, decide_eq_true_eq] at hcT
        obtain ⟨a1, a2, a3, a4⟩ := b_at_ok q5 q3 hσ hcT.1
        subst a1
        obtain rfl := q4.inv0
        have e1 : mc' = 0 := q6.trans (by rw [ho1]; rfl)
        have e2 : ms' = 0 := q7.trans (by rw [ho1]; rfl)
        subst e1 e2
        obtain ⟨r, r1, r2⟩ := IH T (b_vT σ ν') al' h' t1 a2 a3 (fun T1 e => by
          have e3 : b_rv ν' T1.2.2.2.1 = b_rv ν T1.2.2.2.1 := by
            unfold b_rv
            rw [b_sum_cg (fun q hq => x.2 _ (by rw [ssl]; exact of_decide_eq_true (List.all_eq_true.mp (hr0 T1 e) q hq)))]
          rw [e] at t3
          have k : b_rv (b_vT σ ν') T.2.2.2.1 < b_rv ν' T1.2.2.2.1 := by
            cases hss : ss.2.2 with
            | none =>
              rw [hss] at t3
              exact b_dec_ok q5.1 t3
            | some xy =>
              obtain ⟨xx, yy⟩ := xy
              rw [hss] at t3
              have k := b_dec_ok q5.1 t3
              obtain ⟨z1, z2, z3⟩ := ssq xx yy hss
              have e4 : ν' xx = ν' yy := by rw [x.2 _ (by rw [ssl]; exact z2), x.2 _ (by rw [ssl]; exact z3)]; exact z1
              have e5 : b_rv ν' (b_repL xx yy T1.2.2.2.1.1, T1.2.2.2.1.2) = b_rv ν' T1.2.2.2.1 := by
                unfold b_rv
                rw [b_sum_rep e4]
              rw [← e5]
              exact k
          rw [← e3]
          exact k)
        refine ⟨r, q2 r (by rw [← t2]; exact r1), ?_⟩
        have x2 : b_ext R.2.2.1.2.1.length (b_GT R T).1.length ν (b_vT σ ν') := ⟨a4.1, fun n hn => (a4.2 n hn).trans (x.2 n (Nat.lt_of_lt_of_le hn hN))⟩
        exact b_post.from x2 r2
      · cases t3
  · cases hseg
theorem b_chk_ok (hJ : b_JF K) {d F : Nat} {cB : BK} (hc : b_cal K (b_lim d) cB) {R : BRw} {cuts : List BCu} (hd : R.2.1 = d + 1) (hk : b_chk K cB R cuts F = true) : b_valid K R := by
  unfold b_chk at hk
  rw [Bool.and_eq_true, Bool.and_eq_true, Bool.and_eq_true] at hk
  obtain ⟨k1, k2, k3, k4⟩ := hk
  have cut : ∀ (m : Nat) (h0 : AH) (T : BCu) (ν : BN) (al : AL) (h : AH), T ∈ cuts → b_L (b_GT R T).1.length ν T.2.1 al → b_G K ν h0 h (b_GT R T) → (b_rv ν T.2.2.2.1).toNat < m → ∃ r, b_R d R.1 T.1 al [] h 0 0 r ∧ b_post K R ν h0 r := by
    intro m
    induction m with
    | zero => intro h0 T ν al h _ _ _ hm; omega
    | succ m ih =>
      intro h0 T ν al h hT hl g hm
      have hcT := List.all_eq_true.mp k2 T hT
      unfold b_cutOK at hcT
      rw [Bool.and_eq_true, decide_eq_true_eq, Bool.and_eq_true] at hcT
      obtain ⟨c1, c2, c3⟩ := hcT
      refine b_seg_ok hJ hc (T0 := some T) rfl rfl rfl k2 c1 (List.all_eq_true.mp k4 T hT) hl g (fun T' ν' al' h' hT' hl' g' hlt => ?_) (fun T1 e => by cases e; exact c3)
      refine ih h0 T' ν' al' h' hT' hl' g' ?_
      have hlt := hlt T rfl
      have hcT' := List.all_eq_true.mp k2 T' hT'
      unfold b_cutOK at hcT'
      rw [Bool.and_eq_true, decide_eq_true_eq, Bool.and_eq_true] at hcT'
      obtain ⟨-, c2', -⟩ := hcT'
      split at c2'
      · rename_i u hu
        have k := b_ub_ok g'.1 hu
        rw [b_sum_neg] at k
        have c2' := of_decide_eq_true c2'
        have e : b_rv ν' T'.2.2.2.1 = b_sum ν' T'.2.2.2.1.1 + T'.2.2.2.1.2 := rfl
        omega
      · cases c2'
  intro ν h as g hs
  obtain ⟨r, r1, r2⟩ := b_seg_ok hJ (h0 := h) hc (T0 := none) (pc := 0) (bl := b_args R.1 R.2.2.1.1) (G0 := b_pre R) rfl rfl rfl k2 (Nat.le_refl _) k3 (al := a_args R.1 as) (b_args_ok hs) g (fun T ν' al' h' hT hl' g' _ => cut _ h T ν' al' h' hT hl' g' (Nat.lt_succ_self _)) (fun T1 e => by cases e)
  refine ⟨r, ?_, r2⟩
  rw [hd]
  exact b_lim_run (b_argOK_ok hs k1) r1
end BZ
