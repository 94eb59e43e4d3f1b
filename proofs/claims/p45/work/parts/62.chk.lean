/-! part 62.chk -/
section
/-! A method's check: from its start and from each cut, every run comes to an end that the contract names or to a cut, and there the rank has fallen -/
/-- a sum of symbols -/
abbrev BF1 : Type := List (Nat × Int) × Int
/-- a cut: where, the locals, what is known, the rank, two symbols that are compared first -/
abbrev BCu : Type := Nat × BL × BP × BF1 × Option (Nat × Nat)
def b_sum (ν : BN) : List (Nat × Int) → Int
  | [] => 0
  | q :: l => q.2 * ν q.1 + b_sum ν l
def b_ins (n : Nat) (c : Int) : List (Nat × Int) → List (Nat × Int)
  | [] => [(n, c)]
  | q :: l => if q.1 = n then (n, q.2 + c) :: l else q :: b_ins n c l
/-- an upper bound -/
def b_ub (E : BQ) : List (Nat × Int) → Option Int
  | [] => some 0
  | q :: l => if q.2 = 0 then b_ub E l else match E[q.1]? with
    | some (0, lo, hi) => (b_ub E l).map fun u => u + (if 0 ≤ q.2 then q.2 * hi else q.2 * lo)
    | _ => none
def b_rv (ν : BN) (r : BF1) : Int := b_sum ν r.1 + r.2
def b_neg (l : List (Nat × Int)) : List (Nat × Int) := l.map fun q => (q.1, -q.2)
/-- a sum at an instance, added to another -/
def b_rs (σ : List BV) : List (Nat × Int) → BF1 → Option BF1
  | [], r => some r
  | q :: l, r => match σ[q.1]? with
    | some (0, _, k) => b_rs σ l (r.1, r.2 + q.2 * k)
    | some (1, m, k) => b_rs σ l (b_ins m q.2 r.1, r.2 + q.2 * k)
    | _ => none
/-- the rank at an instance of T' is below that of T -/
def b_dec (E : BQ) (σ : List BV) (r r' : BF1) : Bool := match b_rs σ r'.1 (b_neg r.1, r'.2 - r.2) with
  | some d => (match b_ub E d.1 with
    | some u => decide (u + d.2 ≤ -1)
    | none => false)
  | none => false
def b_id (E0 : BQ) : List BV := (E0.zipIdx 0).map b_sy
def b_i0 (E0 : BQ) (n : Nat) : BI := (b_id E0).map some ++ List.replicate n none
def b_subW (W W' : BW) : Bool := W.all fun w => W'.contains w
/-- the instance of a cut's template -/
def b_at (K : BH) (R : BRw) (T : BCu) (bl : BL) (bs : List BV) (G : BG) : Option (List BV) :=
  if bs = [] ∧ b_subW G.2.2.2.2 R.2.2.2.1 = true then
    match b_tot (b_bdF K G.1 T.2.2.1.1 (b_bdL (b_i0 R.2.2.1.2.1 (T.2.2.1.1.length - R.2.2.1.2.1.length)) T.2.1 bl) G.2.1 T.2.2.1.2.1) with
    | some σ => if b_locs σ T.2.1 bl = true ∧ b_inst K σ T.2.2.1 G = true ∧ σ.take R.2.2.1.2.1.length = b_id R.2.2.1.2.1 then some σ else none
    | none => none
  else none
def b_bdK (σ : BI) (p q : BE) : BI := match p, q with
  | .inl (some p), .inl (some b) => b_bd σ p b
  | _, _ => σ
/-- an end is one of the contract's -/
def b_isP (K : BH) (R : BRw) (p : BPo) (q : BE) (G : BG) (c : Nat × Nat) : Bool := decide (c = p.2.2) && (b_subW G.2.2.2.2 R.2.2.2.1 && match b_tot (b_bdF K G.1 (R.2.2.1.2.1 ++ p.2.1.1) (b_bdK (b_i0 R.2.2.1.2.1 p.2.1.1.length) p.1 q) G.2.1 p.2.1.2.1) with
  | some σ => decide (σ.take R.2.2.1.2.1.length = b_id R.2.2.1.2.1) && (decide (b_sbE σ p.1 = some q) && b_inst K σ (R.2.2.1.2.1 ++ p.2.1.1, p.2.1.2) G)
  | none => false)
def b_fall (E : BQ) (σ : List BV) (T0 : Option BCu) (T : BCu) : Bool := match T0 with
  | none => true
  | some T0 => b_dec E σ T0.2.2.2.1 T.2.2.2.1
def b_one1 (K : BH) (R : BRw) (cuts : List BCu) (T0 : Option BCu) (o : BY) : Bool := match o.1 with
  | .inl q => R.2.2.2.2.any fun p => b_isP K R p q o.2.1 o.2.2
  | .inr (pc, bl, bs) => decide (o.2.2 = (0, 0)) && cuts.any fun T => decide (T.1 = pc) && (match b_at K R T bl bs o.2.1 with
    | some σ => b_fall o.2.1.1 σ T0 T
    | none => false)
def b_GT (R : BRw) (T : BCu) : BG := (T.2.2.1.1, T.2.2.1.2.1, T.2.2.1.2.2, [], R.2.2.2.1)
/-- a cut's rank isn't negative, and speaks of its own symbols -/
def b_cutOK (R : BRw) (T : BCu) : Bool := decide (R.2.2.1.2.1.length ≤ T.2.2.1.1.length) && ((match b_ub T.2.2.1.1 (b_neg T.2.2.2.1.1) with
  | some u => decide (u ≤ T.2.2.2.1.2)
  | none => false) && T.2.2.2.1.1.all fun q => decide (q.1 < T.2.2.1.1.length))
def b_sP (T0 : Option BCu) : Nat := match T0 with
  | none => 0
  | some T => T.1
def b_sL (R : BRw) (T0 : Option BCu) : BL := match T0 with
  | none => b_args R.1 R.2.2.1.1
  | some T => T.2.1
def b_sG (R : BRw) (T0 : Option BCu) : BG := match T0 with
  | none => b_pre R
  | some T => b_GT R T
/-- y for x -/
def b_rep (x y : Nat) (b : BV) : BV := if b.1 = 1 ∧ b.2.1 = x then (1, y, b.2.2) else b
def b_repF (x y : Nat) (f : BV × BV × BV) : BV × BV × BV := (b_rep x y f.1, b_rep x y f.2.1, b_rep x y f.2.2)
/-- the starts of a stretch: as it is, or with one symbol below, at, above another (at: which stands for which) -/
def b_sts (bl : BL) (G : BG) (q : Option (Nat × Nat)) : List (BL × BG × Option (Nat × Nat)) := match q with
  | none => [(bl, G, none)]
  | some (x, y) => (b_le G (1, x, 0) (1, y, 0) (-1)).toList.map (fun G => (bl, G, none)) ++ ((bl.map (Option.map (b_rep x y)), (G.1, G.2.1.map (b_repF x y), G.2.2.1, G.2.2.2.1, G.2.2.2.2), some (x, y)) :: (b_le G (1, y, 0) (1, x, 0) (-1)).toList.map (fun G => (bl, G, none)))
def b_repL (x y : Nat) (l : List (Nat × Int)) : List (Nat × Int) := l.map fun q => if q.1 = x then (y, q.2) else q
/-- the rank, with one symbol for another -/
def b_repT (q : Option (Nat × Nat)) (T0 : Option BCu) : Option BCu := match q, T0 with
  | some (x, y), some T => some (T.1, T.2.1, T.2.2.1, (b_repL x y T.2.2.2.1.1, T.2.2.2.1.2), T.2.2.2.2)
  | _, T => T
def b_sQ (T0 : Option BCu) : Option (Nat × Nat) := match T0 with
  | none => none
  | some T => match T.2.2.2.2 with
    | some (x, y) => if x < T.2.2.1.1.length ∧ y < T.2.2.1.1.length then some (x, y) else none
    | none => none
noncomputable def b_seg (K : BH) (cB : BK) (R : BRw) (cuts : List BCu) (F : Nat) (T0 : Option BCu) : Bool := (b_sts (b_sL R T0) (b_sG R T0) (b_sQ T0)).all fun s => match b_ex K cB (cuts.map fun T => T.1) R.1 F true (b_sP T0) s.1 [] s.2.1 0 0 with
  | some L => L.all (b_one1 K R cuts (b_repT s.2.2 T0))
  | none => false
noncomputable def b_chk (K : BH) (cB : BK) (R : BRw) (cuts : List BCu) (F : Nat) : Bool := b_argOK R.1 R.2.2.1.1 && (cuts.all (b_cutOK R) && (b_seg K cB R cuts F none && cuts.all fun T => b_seg K cB R cuts F (some T)))
section BZ
variable {K : BH} {ν : BN} {h0 h : AH} {G : BG}
theorem b_sum_ins (n : Nat) (c : Int) : ∀ l, b_sum ν (b_ins n c l) = c * ν n + b_sum ν l
  | [] => rfl
  | q :: l => by
    rw [b_ins]
    split
    · rename_i e
      show (q.2 + c) * ν n + b_sum ν l = c * ν n + (q.2 * ν q.1 + b_sum ν l)
      rw [e, Int.add_mul]
      omega
    · show q.2 * ν q.1 + b_sum ν (b_ins n c l) = c * ν n + (q.2 * ν q.1 + b_sum ν l)
      rw [b_sum_ins n c l]
      omega
theorem b_ub_ok {E : BQ} (hs : b_sat K E ν) : ∀ {l : List (Nat × Int)} {u : Int}, b_ub E l = some u → b_sum ν l ≤ u
  | [], u, h => by cases h; exact Int.le_refl _
  | q :: l, u, h => by
    rw [b_ub] at h
    rw [b_sum]
    split at h
    · rename_i e
      have := b_ub_ok hs h
      rw [e, Int.zero_mul]
      omega
    · split at h
      · rename_i lo hi he
        rw [Option.map_eq_some_iff] at h
        obtain ⟨u', h1, rfl⟩ := h
        have k := b_ub_ok hs h1
        have b := hs _ _ he
        unfold b_q at b
        rw [if_pos rfl] at b
        dsimp only at b
        split
        · rename_i e
          have := Int.mul_le_mul_of_nonneg_left b.2 e
          omega
        · rename_i e
          have := Int.mul_le_mul_of_nonpos_left (a := q.2) (by omega : q.2 ≤ 0) b.1
          omega
      · cases h
theorem b_sum_neg : ∀ l, b_sum ν (b_neg l) = - b_sum ν l
  | [] => rfl
  | q :: l => by
    show -q.2 * ν q.1 + b_sum ν (b_neg l) = -(q.2 * ν q.1 + b_sum ν l)
    rw [b_sum_neg l, Int.neg_mul]
    omega
theorem b_rs_ok {σ : List BV} : ∀ {l : List (Nat × Int)} {r d : BF1}, b_rs σ l r = some d → b_rv ν d = b_sum (b_vT σ ν) l + b_rv ν r
  | [], r, d, h => by cases h; show _ = 0 + _; omega
  | q :: l, r, d, h => by
    rw [b_rs] at h
    rw [b_sum]
    split at h
    · rename_i k he
      rw [b_rs_ok h, b_vT_at he]
      show _ + (b_sum ν r.1 + (r.2 + q.2 * k)) = q.2 * k + _ + (b_sum ν r.1 + r.2)
      omega
    · rename_i m k he
      rw [b_rs_ok h, b_vT_at he]
      show _ + (b_sum ν (b_ins m q.2 r.1) + (r.2 + q.2 * k)) = q.2 * (ν m + k) + _ + (b_sum ν r.1 + r.2)
      rw [b_sum_ins, Int.mul_add]
      omega
    · cases h
theorem b_dec_ok {E : BQ} (hs : b_sat K E ν) {σ : List BV} {r r' : BF1} (h : b_dec E σ r r' = true) : b_rv (b_vT σ ν) r' < b_rv ν r := by
  unfold b_dec at h
  split at h
  · rename_i d hd
    split at h
    · rename_i u hu
      have h := of_decide_eq_true h
      have k1 := b_rs_ok (ν := ν) hd
      have k2 := b_ub_ok hs hu
      have k3 : b_rv ν (b_neg r.1, r'.2 - r.2) = - b_sum ν r.1 + (r'.2 - r.2) := by
        show b_sum ν (b_neg r.1) + _ = _
        rw [b_sum_neg]
      have k4 : b_rv ν d = b_sum ν d.1 + d.2 := rfl
      show b_sum (b_vT σ ν) r'.1 + r'.2 < b_sum ν r.1 + r.2
      omega
    · cases h
  · cases h
theorem b_sum_cg {ν' : BN} : ∀ {l : List (Nat × Int)}, (∀ q ∈ l, ν' q.1 = ν q.1) → b_sum ν' l = b_sum ν l
  | [], _ => rfl
  | q :: l, h => by
    rw [b_sum, b_sum, h q List.mem_cons_self, b_sum_cg (fun q' hq => h q' (List.mem_cons_of_mem _ hq))]
theorem b_subW_ok {W W' : BW} (h : b_subW W W' = true) : ∀ w, w ∈ W → w ∈ W' := fun w hw => by
  have := List.all_eq_true.mp h w hw
  simpa using this
theorem b_id_ext {σ : List BV} {E0 : BQ} (hl : E0.length ≤ σ.length) (h : σ.take E0.length = b_id E0) : b_ext E0.length σ.length ν (b_vT σ ν) := by
  refine ⟨hl, fun n hn => ?_⟩
  have h1 : (σ.take E0.length)[n]? = σ[n]? := by rw [List.getElem?_take, if_pos hn]
  have hb := List.getElem?_eq_getElem (show n < σ.length by omega)
  rw [b_vT_at hb]
  rw [h, hb] at h1
  obtain ⟨q, -, q2⟩ := b_new_at (N := 0) h1
  rw [q2, b_sy_vl.1, Nat.zero_add]
theorem b_at_ok (g : b_G K ν h0 h G) {R : BRw} {T : BCu} {bl : BL} {bs : List BV} {al : AL} {σ : List BV} (hl : b_L G.1.length ν bl al) (ha : b_at K R T bl bs G = some σ) (hT : R.2.2.1.2.1.length ≤ T.2.2.1.1.length) : bs = [] ∧ b_L (b_GT R T).1.length (b_vT σ ν) T.2.1 al ∧ b_G K (b_vT σ ν) h0 h (b_GT R T) ∧ b_ext R.2.2.1.2.1.length (b_GT R T).1.length ν (b_vT σ ν) := by
  unfold b_at at ha
  split at ha
  · rename_i hc
    split at ha
    · rename_i σ' hσ
      split at ha
      · rename_i hd
        cases ha
        obtain ⟨d1, d2, d3⟩ := hd
        obtain ⟨i1, i2, i3, i4, i5⟩ := b_inst_ok g d2
        refine ⟨hc.1, ?_, ⟨i3, i4, i5, (fun o ho => by cases ho), g.2.2.2.2.1, g.2.2.2.2.2.mono (b_subW_ok hc.2)⟩, ?_⟩
        · have := b_locs_ok d1 hl
          rw [i1] at this
          exact this
        · have := b_id_ext (ν := ν) (by rw [i1]; exact hT) d3
          rw [i1] at this
          exact this
      · cases ha
    · cases ha
  · cases ha
theorem b_isP_ok (g : b_G K ν h0 h G) {R : BRw} {p : BPo} {q : BE} {c : Nat × Nat} {r : (Option Value) ⊕ Nat} (hf : b_fin G.1.length ν q r) (hp : b_isP K R p q G c = true) : c = p.2.2 ∧ ∃ ν', b_ext R.2.2.1.2.1.length (b_pst R p).1.length ν ν' ∧ b_fin (b_pst R p).1.length ν' p.1 r ∧ b_G K ν' h0 h (b_pst R p) := by
  unfold b_isP at hp
  rw [Bool.and_eq_true, decide_eq_true_eq, Bool.and_eq_true] at hp
  obtain ⟨p1, p2, p3⟩ := hp
  split at p3
  · rename_i σ hσ
    rw [Bool.and_eq_true, decide_eq_true_eq, Bool.and_eq_true, decide_eq_true_eq] at p3
    obtain ⟨s1, s2, s3⟩ := p3
    obtain ⟨i1, i2, i3, i4, i5⟩ := b_inst_ok g s3
    have i1 : σ.length = (R.2.2.1.2.1 ++ p.2.1.1).length := i1
    have x := b_id_ext (ν := ν) (by rw [i1, List.length_append]; exact Nat.le_add_right _ _) s1
    rw [i1] at x
    refine ⟨p1, b_vT σ ν, x, ?_, ⟨i3, i4, i5, (fun o ho => by cases ho), g.2.2.2.2.1, g.2.2.2.2.2.mono (b_subW_ok p2)⟩⟩
    show b_fin (R.2.2.1.2.1 ++ p.2.1.1).length _ _ _
    rw [← i1]
    generalize hpk : p.1 = k at s2
    cases k with
    | inl o =>
      cases o with
      | none =>
        cases s2
        cases r with
        | inl r => cases r <;> exact hf
        | inr k => exact hf
      | some b =>
        have s2 : (b_sb σ b).map (fun b => (.inl (some b) : BE)) = some q := s2
        rw [Option.map_eq_some_iff] at s2
        obtain ⟨b', h1, rfl⟩ := s2
        cases r with
        | inl r =>
          cases r with
          | none => exact hf
          | some v => exact b_sb_v h1 hf
        | inr k => exact hf
    | inr k =>
      cases s2
      cases r <;> exact hf
  · cases p3
theorem b_post.from {R : BRw} {N : Nat} {ν' : BN} {r : AR} (x : b_ext R.2.2.1.2.1.length N ν ν') (h : b_post K R ν' h0 r) : b_post K R ν h0 r := by
  obtain ⟨p, p1, ν2, x2, p2⟩ := h
  exact ⟨p, p1, ν2, ⟨x2.1, fun n hn => (x2.2 n hn).trans (x.2 n hn)⟩, p2⟩
theorem b_rep_v {N x y : Nat} {b : BV} {v : Value} (e : ν x = ν y) (hy : y < N) (h : b_v N ν b v) : b_v N ν (b_rep x y b) v := by
  unfold b_rep
  split
  · rename_i c
    obtain ⟨X, rfl, hX⟩ := h.int (by omega)
    rcases hX with ⟨q, -⟩ | ⟨q1, q2, q3⟩
    · omega
    · refine Or.inr ⟨rfl, hy, ?_⟩
      rw [c.2, e] at q3
      exact q3
  · exact h
theorem b_rep_i {N x y : Nat} {b : BV} {z : Int} (e : ν x = ν y) (hy : y < N) (h : b_i N ν b z) : b_i N ν (b_rep x y b) z := by
  unfold b_rep
  split
  · rename_i c
    rcases h with ⟨q, -⟩ | ⟨q1, q2, q3⟩
    · omega
    · refine Or.inr ⟨rfl, hy, ?_⟩
      rw [c.2, e] at q3
      exact q3
  · exact h
theorem b_rep_9 {x y : Nat} {b : BV} : (b_rep x y b).1 = b.1 := by
  unfold b_rep
  split
  · rename_i c; exact c.1.symm
  · rfl
theorem b_rep_fa {N x y : Nat} {f : BV × BV × BV} {h : AH} (e : ν x = ν y) (hy : y < N) (k : b_fa N ν h f) : b_fa N ν h (b_repF x y f) := by
  obtain ⟨a, t, vs, k1, k2, k3⟩ := k
  refine ⟨a, t, vs, b_rep_v (v := .ref a) e hy k1, k2, ?_⟩
  have e9 : (b_repF x y f).2.1.1 = f.2.1.1 := b_rep_9
  rw [e9]
  split at k3
  · rename_i q
    rw [if_pos q]
    exact b_rep_i e hy k3
  · rename_i q
    rw [if_neg q]
    obtain ⟨j, v, m1, m2, m3⟩ := k3
    exact ⟨j, v, b_rep_i e hy m1, m2, b_rep_v e hy m3⟩
theorem b_sts_ok (g : b_G K ν h0 h G) {bl : BL} {al : AL} {q : Option (Nat × Nat)} (hl : b_L G.1.length ν bl al) (hq : ∀ x y, q = some (x, y) → x < G.1.length ∧ y < G.1.length) : ∃ s ∈ b_sts bl G q, b_L s.2.1.1.length ν s.1 al ∧ b_G K ν h0 h s.2.1 ∧ s.2.1.1.length = G.1.length ∧ ∀ x y, s.2.2 = some (x, y) → ν x = ν y ∧ x < G.1.length ∧ y < G.1.length := by
  unfold b_sts
  split
  · exact ⟨_, List.mem_cons_self, hl, g, rfl, fun x y e => by cases e⟩
  · rename_i x y
    obtain ⟨hx, hy⟩ := hq x y rfl
    have ix : b_i G.1.length ν (1, x, 0) (ν x) := Or.inr ⟨rfl, hx, by show _ = ν x + 0; omega⟩
    have iy : b_i G.1.length ν (1, y, 0) (ν y) := Or.inr ⟨rfl, hy, by show _ = ν y + 0; omega⟩
    rcases Int.lt_trichotomy (ν x) (ν y) with c | c | c
    · obtain ⟨G1, k1, g1, l1⟩ := b_le_ok g (c := -1) ix iy (by omega)
      refine ⟨(bl, G1, none), List.mem_append_left _ ?_, ?_, g1, l1, fun x y e => by cases e⟩
      · rw [k1]; exact List.mem_cons_self
      · show b_L G1.1.length _ _ _
        rw [l1]; exact hl
    · refine ⟨_, List.mem_append_right _ List.mem_cons_self, ⟨by rw [List.length_map]; exact hl.1, fun i b hb => ?_⟩, ⟨g.1, fun f hf => ?_, g.2.2⟩, rfl, fun x' y' e => by cases e; exact ⟨c, hx, hy⟩⟩
      · rw [List.getElem?_map] at hb
        cases hbl : bl[i]? with
        | none => rw [hbl] at hb; cases hb
        | some o =>
          rw [hbl] at hb
          cases o with
          | none => cases hb
          | some b0 =>
            cases hb
            obtain ⟨v, v1, v2⟩ := hl.2 i b0 hbl
            exact ⟨v, v1, b_rep_v c hy v2⟩
      · obtain ⟨f0, f1, rfl⟩ := List.mem_map.mp hf
        exact b_rep_fa c hy (g.2.1 f0 f1)
    · obtain ⟨G1, k1, g1, l1⟩ := b_le_ok g (c := -1) iy ix (by omega)
      refine ⟨(bl, G1, none), List.mem_append_right _ (List.mem_cons_of_mem _ ?_), ?_, g1, l1, fun x y e => by cases e⟩
      · rw [k1]; exact List.mem_cons_self
      · show b_L G1.1.length _ _ _
        rw [l1]; exact hl
theorem b_sum_rep {x y : Nat} (e : ν x = ν y) : ∀ l, b_sum ν (b_repL x y l) = b_sum ν l
  | [] => rfl
  | q :: l => by
    show (if q.1 = x then (y, q.2) else q).2 * ν (if q.1 = x then (y, q.2) else q).1 + b_sum ν (b_repL x y l) = q.2 * ν q.1 + b_sum ν l
    rw [b_sum_rep e l]
    split
    · rename_i c
      rw [c, e]
    · rfl
theorem b_sQ_ok {R : BRw} {T0 : Option BCu} {x y : Nat} (h : b_sQ T0 = some (x, y)) : x < (b_sG R T0).1.length ∧ y < (b_sG R T0).1.length := by
  unfold b_sQ at h
  cases T0 with
  | none => cases h
  | some T =>
    dsimp only at h
    split at h
    · split at h
      · rename_i c
        cases h
        exact c
      · cases h
    · cases h
theorem b_seg_ok (hJ : b_JF K) {d F : Nat} {cB : BK} (hc : b_cal K (b_lim d) cB) {R : BRw} {cuts : List BCu} {T0 : Option BCu} {pc : Nat} {bl : BL} {G0 : BG} (hpc : pc = b_sP T0) (hbl : bl = b_sL R T0) (hG0 : G0 = b_sG R T0) (hcut : cuts.all (b_cutOK R) = true) (hN : R.2.2.1.2.1.length ≤ G0.1.length) (hseg : b_seg K cB R cuts F T0 = true) {al : AL} (hl : b_L G0.1.length ν bl al) (g : b_G K ν h0 h G0)
    (IH : ∀ (T : BCu) (ν' : BN) (al' : AL) (h' : AH), T ∈ cuts → b_L (b_GT R T).1.length ν' T.2.1 al' → b_G K ν' h0 h' (b_GT R T) → (∀ T1, T0 = some T1 → b_rv ν' T.2.2.2.1 < b_rv ν T1.2.2.2.1) → ∃ r, b_R d R.1 T.1 al' [] h' 0 0 r ∧ b_post K R ν' h0 r)
    (hr0 : ∀ T1, T0 = some T1 → T1.2.2.2.1.1.all (fun q => decide (q.1 < G0.1.length)) = true) : ∃ r, b_R d R.1 pc al [] h 0 0 r ∧ b_post K R ν h0 r := by
  unfold b_seg at hseg
  rw [← hpc, ← hbl, ← hG0] at hseg
  obtain ⟨ss, ss1, hl, g, ssl, ssq⟩ := b_sts_ok (q := b_sQ T0) g hl (fun x y e => by rw [hG0]; exact b_sQ_ok e)
  have hseg := List.all_eq_true.mp hseg ss ss1
  rw [← ssl] at hN
  split at hseg
  · rename_i L hL
    obtain ⟨o, o1, ν', x, o2⟩ := b_ex_ok hJ (mc0 := 0) (ms0 := 0) hc F true pc ss.1 [] ss.2.1 0 0 L ν al [] h 0 0 hL hl b_S.nil g rfl rfl
    have ho := List.all_eq_true.mp hseg o o1
    have xN : b_ext R.2.2.1.2.1.length ss.2.1.1.length ν ν := ⟨hN, fun _ _ => rfl⟩
    rcases o2 with ⟨q, r, q1, q2, q3, q4, q5, q6⟩ | ⟨pc', bl', bs', al', st', h', mc', ms', q1, q2, q3, q4, q5, q6, q7⟩
    · unfold b_one1 at ho
      rw [q1] at ho
      obtain ⟨p, p1, p2⟩ := List.any_eq_true.mp ho
      obtain ⟨k1, ν2, k2, k3, k4⟩ := b_isP_ok q4 q3 p2
      refine ⟨r, q2, p, p1, ν2, ⟨k2.1, fun n hn => (k2.2 n hn).trans (x.2 n (Nat.lt_of_lt_of_le hn hN))⟩, k3, k4, ?_⟩
      rw [← k1]
      obtain ⟨r1, r2, r3, r4⟩ := r
      have q5 : r3 = 0 + o.2.2.1 := q5
      have q6 : r4 = 0 + o.2.2.2 := q6
      show (r3, r4) = o.2.2
      rw [q5, q6, Nat.zero_add, Nat.zero_add]
    · unfold b_one1 at ho
      rw [q1] at ho
      dsimp only at ho
      rw [Bool.and_eq_true, decide_eq_true_eq] at ho
      obtain ⟨ho1, ho2⟩ := ho
      obtain ⟨T, t1, t2⟩ := List.any_eq_true.mp ho2
      rw [Bool.and_eq_true, decide_eq_true_eq] at t2
      obtain ⟨t2, t3⟩ := t2
      split at t3
      · rename_i σ hσ
        have hcT := List.all_eq_true.mp hcut T t1
        unfold b_cutOK at hcT
        rw [Bool.and_eq_true, decide_eq_true_eq] at hcT
        obtain ⟨a1, a2, a3, a4⟩ := b_at_ok q5 q3 hσ hcT.1
        subst a1
        obtain rfl := q4.inv0
        have e1 : mc' = 0 := q6.trans (by rw [ho1]; rfl)
        have e2 : ms' = 0 := q7.trans (by rw [ho1]; rfl)
        subst e1 e2
        obtain ⟨r, r1, r2⟩ := IH T (b_vT σ ν') al' h' t1 a2 a3 (fun T1 e => by
          have e3 : b_rv ν' T1.2.2.2.1 = b_rv ν T1.2.2.2.1 := by
            unfold b_rv
            rw [b_sum_cg (fun q hq => x.2 _ (by rw [ssl]; exact of_decide_eq_true (List.all_eq_true.mp (hr0 T1 e) q hq)))]
          rw [e] at t3
          have k : b_rv (b_vT σ ν') T.2.2.2.1 < b_rv ν' T1.2.2.2.1 := by
            cases hss : ss.2.2 with
            | none =>
              rw [hss] at t3
              exact b_dec_ok q5.1 t3
            | some xy =>
              obtain ⟨xx, yy⟩ := xy
              rw [hss] at t3
              have k := b_dec_ok q5.1 t3
              obtain ⟨z1, z2, z3⟩ := ssq xx yy hss
              have e4 : ν' xx = ν' yy := by rw [x.2 _ (by rw [ssl]; exact z2), x.2 _ (by rw [ssl]; exact z3)]; exact z1
              have e5 : b_rv ν' (b_repL xx yy T1.2.2.2.1.1, T1.2.2.2.1.2) = b_rv ν' T1.2.2.2.1 := by
                unfold b_rv
                rw [b_sum_rep e4]
              rw [← e5]
              exact k
          rw [← e3]
          exact k)
        refine ⟨r, q2 r (by rw [← t2]; exact r1), ?_⟩
        have x2 : b_ext R.2.2.1.2.1.length (b_GT R T).1.length ν (b_vT σ ν') := ⟨a4.1, fun n hn => (a4.2 n hn).trans (x.2 n (Nat.lt_of_lt_of_le hn hN))⟩
        exact b_post.from x2 r2
      · cases t3
  · cases hseg
theorem b_chk_ok (hJ : b_JF K) {d F : Nat} {cB : BK} (hc : b_cal K (b_lim d) cB) {R : BRw} {cuts : List BCu} (hd : R.2.1 = d + 1) (hk : b_chk K cB R cuts F = true) : b_valid K R := by
  unfold b_chk at hk
  rw [Bool.and_eq_true, Bool.and_eq_true, Bool.and_eq_true] at hk
  obtain ⟨k1, k2, k3, k4⟩ := hk
  have cut : ∀ (m : Nat) (h0 : AH) (T : BCu) (ν : BN) (al : AL) (h : AH), T ∈ cuts → b_L (b_GT R T).1.length ν T.2.1 al → b_G K ν h0 h (b_GT R T) → (b_rv ν T.2.2.2.1).toNat < m → ∃ r, b_R d R.1 T.1 al [] h 0 0 r ∧ b_post K R ν h0 r := by
    intro m
    induction m with
    | zero => intro h0 T ν al h _ _ _ hm; omega
    | succ m ih =>
      intro h0 T ν al h hT hl g hm
      have hcT := List.all_eq_true.mp k2 T hT
      unfold b_cutOK at hcT
      rw [Bool.and_eq_true, decide_eq_true_eq, Bool.and_eq_true] at hcT
      obtain ⟨c1, c2, c3⟩ := hcT
      refine b_seg_ok hJ hc (T0 := some T) rfl rfl rfl k2 c1 (List.all_eq_true.mp k4 T hT) hl g (fun T' ν' al' h' hT' hl' g' hlt => ?_) (fun T1 e => by cases e; exact c3)
      refine ih h0 T' ν' al' h' hT' hl' g' ?_
      have hlt := hlt T rfl
      have hcT' := List.all_eq_true.mp k2 T' hT'
      unfold b_cutOK at hcT'
      rw [Bool.and_eq_true, decide_eq_true_eq, Bool.and_eq_true] at hcT'
      obtain ⟨-, c2', -⟩ := hcT'
      split at c2'
      · rename_i u hu
        have k := b_ub_ok g'.1 hu
        rw [b_sum_neg] at k
        have c2' := of_decide_eq_true c2'
        have e : b_rv ν' T'.2.2.2.1 = b_sum ν' T'.2.2.2.1.1 + T'.2.2.2.1.2 := rfl
        omega
      · cases c2'
  intro ν h as g hs
  obtain ⟨r, r1, r2⟩ := b_seg_ok hJ (h0 := h) hc (T0 := none) (pc := 0) (bl := b_args R.1 R.2.2.1.1) (G0 := b_pre R) rfl rfl rfl k2 (Nat.le_refl _) k3 (al := a_args R.1 as) (b_args_ok hs) g (fun T ν' al' h' hT hl' g' _ => cut _ h T ν' al' h' hT hl' g' (Nat.lt_succ_self _)) (fun T1 e => by cases e)
  refine ⟨r, ?_, r2⟩
  rw [hd]
  exact b_lim_run (b_argOK_ok hs k1) r1
end BZ
end
/-! part 62s.seg -/
section
/-! A stretch of a method, from one place to others: the rule that a proof by hand uses -/
/-- an outcome: an end, or a place with its locals and stack; what is known of more symbols then; cells and slots made -/
abbrev BSo : Type := (BE ⊕ (Nat × BL × List BV)) × BP × (Nat × Nat)
/-- (method, place), the start, what may be written, the outcomes -/
abbrev BSg : Type := (Nat × Nat) × (BL × List BV × BP) × BW × List BSo
def b_sgo (K : BH) (E0 : BQ) (W : BW) (p : BSo) (o : BY) : Bool := decide (o.2.2 = p.2.2) && (b_subW o.2.1.2.2.2.2 W && match p.1, o.1 with
  | .inl k, .inl q => (match b_tot (b_bdF K o.2.1.1 (E0 ++ p.2.1.1) (b_bdK (b_i0 E0 p.2.1.1.length) k q) o.2.1.2.1 p.2.1.2.1) with
    | some σ => decide (σ.take E0.length = b_id E0) && (decide (b_sbE σ k = some q) && b_inst K σ (E0 ++ p.2.1.1, p.2.1.2) o.2.1)
    | none => false)
  | .inr (pc, bl, bs), .inr (pc', bl', bs') => decide (pc = pc') && (match b_tot (b_bdF K o.2.1.1 (E0 ++ p.2.1.1) (b_bdL (b_bdL (b_i0 E0 p.2.1.1.length) bl bl') (bs.map some) (bs'.map some)) o.2.1.2.1 p.2.1.2.1) with
    | some σ => decide (σ.take E0.length = b_id E0) && (b_locs σ bl bl' && (b_locs σ (bs.map some) (bs'.map some) && b_inst K σ (E0 ++ p.2.1.1, p.2.1.2) o.2.1))
    | none => false)
  | _, _ => false)
noncomputable def b_sgc (K : BH) (cB : BK) (S : BSg) (cuts : List Nat) (F : Nat) : Bool := match b_ex K cB cuts S.1.1 F true S.1.2 S.2.1.1 S.2.1.2.1 (S.2.1.2.2.1, S.2.1.2.2.2.1, S.2.1.2.2.2.2, [], []) 0 0 with
  | some L => L.all fun o => S.2.2.2.any fun p => b_sgo K S.2.1.2.2.1 S.2.2.1 p o
  | none => false
section SG
variable {K : BH} {ν : BN} {h0 h : AH} {G : BG}
def b_sgq (d mi pc : Nat) (al : AL) (st : List Value) (h : AH) (mc ms : Nat) (N : Nat) (ν' : BN) (h' : AH) (p : BSo) : Prop := match p.1 with
  | .inl k => ∃ r, b_R d mi pc al st h mc ms r ∧ b_fin N ν' k r.1 ∧ r.2.1 = h' ∧ r.2.2 = (mc + p.2.2.1, ms + p.2.2.2)
  | .inr (pc', bl', bs') => ∃ al' st', b_L N ν' bl' al' ∧ b_S N ν' bs' st' ∧ ∀ r, b_R d mi pc' al' st' h' (mc + p.2.2.1) (ms + p.2.2.2) r → b_R d mi pc al st h mc ms r
theorem b_sgo_ok {d mi pc mc ms : Nat} {E0 : BQ} {W : BW} {p : BSo} {o : BY} {N : Nat} {al : AL} {st : List Value} {hs : AH} (hN : E0.length = N) (ho : b_sgo K E0 W p o = true) (k : b_Ok K d mi pc ν h0 N al st hs mc ms mc ms o) : ∃ ν' h', b_ext E0.length (E0 ++ p.2.1.1).length ν ν' ∧ b_G K ν' h0 h' (E0 ++ p.2.1.1, p.2.1.2.1, p.2.1.2.2, [], W) ∧ b_sgq d mi pc al st hs mc ms (E0 ++ p.2.1.1).length ν' h' p := by
  subst hN
  unfold b_sgo at ho
  rw [Bool.and_eq_true, decide_eq_true_eq, Bool.and_eq_true] at ho
  obtain ⟨ho1, ho2, ho3⟩ := ho
  obtain ⟨ν1, x1, k⟩ := k
  have inst : ∀ {σ : List BV} {h' : AH}, b_G K ν1 h0 h' o.2.1 → σ.take E0.length = b_id E0 → b_inst K σ (E0 ++ p.2.1.1, p.2.1.2) o.2.1 = true → σ.length = (E0 ++ p.2.1.1).length ∧ b_ext E0.length (E0 ++ p.2.1.1).length ν (b_vT σ ν1) ∧ b_G K (b_vT σ ν1) h0 h' (E0 ++ p.2.1.1, p.2.1.2.1, p.2.1.2.2, [], W) := by
    intro σ h' g s1 s3
    obtain ⟨i1, i2, i3, i4, i5⟩ := b_inst_ok g s3
    have i1 : σ.length = (E0 ++ p.2.1.1).length := i1
    have x := b_id_ext (ν := ν1) (by rw [i1, List.length_append]; exact Nat.le_add_right _ _) s1
    rw [i1] at x
    exact ⟨i1, ⟨x.1, fun n hn => (x.2 n hn).trans (x1.2 n hn)⟩, i3, i4, i5, (fun o ho => by cases ho), g.2.2.2.2.1, g.2.2.2.2.2.mono (b_subW_ok ho2)⟩
  rcases k with ⟨q, r, q1, q2, q3, q4, q5, q6⟩ | ⟨pc', bl', bs', al', st', h', mc', ms', q1, q2, q3, q4, q5, q6, q7⟩
  · rw [q1] at ho3
    cases hp : p.1 with
    | inr z => rw [hp] at ho3; cases ho3
    | inl k =>
      rw [hp] at ho3
      dsimp only at ho3
      split at ho3
      · rename_i σ hσ
        rw [Bool.and_eq_true, decide_eq_true_eq, Bool.and_eq_true, decide_eq_true_eq] at ho3
        obtain ⟨s1, s2, s3⟩ := ho3
        obtain ⟨i1, x, g⟩ := inst q4 s1 s3
        refine ⟨b_vT σ ν1, r.2.1, x, g, ?_⟩
        unfold b_sgq
        rw [hp]
        refine ⟨r, q2, ?_, rfl, ?_⟩
        · rw [← i1]
          cases k with
          | inl o' =>
            cases o' with
            | none =>
              cases s2
              cases hr : r.1 with
              | inl v => rw [hr] at q3; cases v <;> exact q3
              | inr v => rw [hr] at q3; exact q3
            | some b =>
              have s2 : (b_sb σ b).map (fun b => (.inl (some b) : BE)) = some q := s2
              rw [Option.map_eq_some_iff] at s2
              obtain ⟨b', h1, rfl⟩ := s2
              cases hr : r.1 with
              | inl v =>
                rw [hr] at q3
                cases v with
                | none => exact q3
                | some v => exact b_sb_v h1 q3
              | inr v => rw [hr] at q3; exact q3
          | inr k' =>
            cases s2
            cases hr : r.1 with
            | inl v => rw [hr] at q3; cases v <;> exact q3
            | inr v => rw [hr] at q3; exact q3
        · rw [← ho1]
          exact Prod.ext q5 q6
      · cases ho3
  · rw [q1] at ho3
    cases hp : p.1 with
    | inl z => rw [hp] at ho3; cases ho3
    | inr z =>
      obtain ⟨pc2, bl2, bs2⟩ := z
      rw [hp] at ho3
      dsimp only at ho3
      rw [Bool.and_eq_true, decide_eq_true_eq] at ho3
      obtain ⟨e0, ho3⟩ := ho3
      subst e0
      split at ho3
      · rename_i σ hσ
        rw [Bool.and_eq_true, decide_eq_true_eq, Bool.and_eq_true, Bool.and_eq_true] at ho3
        obtain ⟨s1, s2, s4, s3⟩ := ho3
        obtain ⟨i1, x, g⟩ := inst q5 s1 s3
        refine ⟨b_vT σ ν1, h', x, g, ?_⟩
        unfold b_sgq
        rw [hp]
        have l1 := b_locs_ok (ν := ν1) s2 q3
        have l2 := b_locsA (ν := ν1) s4 q4
        rw [i1] at l1 l2
        refine ⟨al', st', l1, l2, fun r hr => q2 r ?_⟩
        rw [q6, q7, ho1]
        exact hr
      · cases ho3
theorem b_sgc_ok (hJ : b_JF K) {d F : Nat} {cB : BK} (hc : b_cal K (b_lim d) cB) {S : BSg} {cuts : List Nat} (hk : b_sgc K cB S cuts F = true) {al : AL} {st : List Value} {mc ms : Nat} (hl : b_L S.2.1.2.2.1.length ν S.2.1.1 al) (hs : b_S S.2.1.2.2.1.length ν S.2.1.2.1 st) (g : b_G K ν h h (S.2.1.2.2.1, S.2.1.2.2.2.1, S.2.1.2.2.2.2, [], [])) : ∃ p ∈ S.2.2.2, ∃ ν' h', b_ext S.2.1.2.2.1.length (S.2.1.2.2.1 ++ p.2.1.1).length ν ν' ∧ b_G K ν' h h' (S.2.1.2.2.1 ++ p.2.1.1, p.2.1.2.1, p.2.1.2.2, [], S.2.2.1) ∧ b_sgq d S.1.1 S.1.2 al st h mc ms (S.2.1.2.2.1 ++ p.2.1.1).length ν' h' p := by
  unfold b_sgc at hk
  split at hk
  · rename_i L hL
    obtain ⟨o, o1, k⟩ := b_ex_ok hJ (mc0 := mc) (ms0 := ms) hc F true S.1.2 S.2.1.1 S.2.1.2.1 _ 0 0 L ν al st h mc ms hL hl hs g rfl rfl
    have ho := List.all_eq_true.mp hk o o1
    obtain ⟨p, p1, p2⟩ := List.any_eq_true.mp ho
    obtain ⟨ν', h', y⟩ := b_sgo_ok rfl p2 k
    exact ⟨p, p1, ν', h', y⟩
  · cases hk
end SG
end
/-! part 62t.hand -/
section
/-! What proofs by hand need -/
section HD
variable {K : BH} {ν : BN} {h0 h : AH} {G : BG}
/-- a method's contract out of its runs -/
theorem b_valid_of {R : BRw} {d : Nat} (hd : R.2.1 = d + 1) (ha : b_argOK R.1 R.2.2.1.1 = true) (hr : ∀ (ν : BN) (h : AH) (al : AL), b_L (b_pre R).1.length ν (b_args R.1 R.2.2.1.1) al → b_G K ν h h (b_pre R) → ∃ r, b_R d R.1 0 al [] h 0 0 r ∧ b_post K R ν h r) : b_valid K R := by
  intro ν h as g hs
  obtain ⟨r, r1, r2⟩ := hr ν h (a_args R.1 as) (b_args_ok hs) g
  refine ⟨r, ?_, r2⟩
  rw [hd]
  exact b_lim_run (b_argOK_ok hs ha) r1
/-- an end with an int -/
theorem b_post_int {R : BRw} {lo hi : Int} {c : Nat × Nat} {F : BF} {C : BC} {O : BO} {W : BW} {r : AR} {x : Int32} (hp : (.inl (some (1, R.2.2.1.2.1.length, 0)), ([(0, lo, hi)], [], []), c) ∈ R.2.2.2.2) (hx : r.1 = .inl (some (.int x))) (h1 : lo ≤ x.toInt) (h2 : x.toInt ≤ hi) (g : b_G K ν h r.2.1 (R.2.2.1.2.1, F, C, O, W)) (hW : ∀ w, w ∈ W → w ∈ R.2.2.2.1) (hc : r.2.2 = c) : b_post K R ν h r := by
  obtain ⟨g1, x1⟩ := g.add (q := (0, lo, hi)) (z := x.toInt) (by unfold b_q; rw [if_pos rfl]; exact ⟨h1, h2⟩)
  refine ⟨_, hp, _, x1, ?_, ⟨g1.1, (fun f hf => by cases hf), (fun f hf => by cases hf), (fun f hf => by cases hf), g1.2.2.2.2.1, g1.2.2.2.2.2.mono hW⟩, hc⟩
  rw [hx]
  refine Or.inr ⟨rfl, ?_, ?_⟩
  · show _ < (R.2.2.1.2.1 ++ [_]).length
    rw [List.length_append]
    exact Nat.lt_succ_self _
  · show _ = b_nu _ _ _ (R.2.2.1.2.1.length) + 0
    have e : (R.2.2.1.2.1, F, C, O, W).1.length = R.2.2.1.2.1.length := rfl
    rw [e, b_nu_n, Int.add_zero]
/-- an end with nothing -/
theorem b_post_void {R : BRw} {c : Nat × Nat} {F : BF} {C : BC} {O : BO} {W : BW} {r : AR} (hp : (.inl none, ([], [], []), c) ∈ R.2.2.2.2) (hx : r.1 = .inl none) (g : b_G K ν h r.2.1 (R.2.2.1.2.1, F, C, O, W)) (hW : ∀ w, w ∈ W → w ∈ R.2.2.2.1) (hc : r.2.2 = c) : b_post K R ν h r := by
  have e : R.2.2.1.2.1 ++ [] = R.2.2.1.2.1 := List.append_nil _
  refine ⟨_, hp, ν, ?_, ?_, ⟨?_, (fun f hf => by cases hf), (fun f hf => by cases hf), (fun f hf => by cases hf), g.2.2.2.2.1, g.2.2.2.2.2.mono hW⟩, hc⟩
  · show b_ext _ (R.2.2.1.2.1 ++ []).length ν ν
    rw [e]; exact b_ext.rf
  · rw [hx]; trivial
  · show b_sat K (R.2.2.1.2.1 ++ []) ν
    rw [e]; exact g.1
/-- an instance of a template, whatever was written -/
def b_ins1 (K : BH) (N0 : Nat) (E0 : BQ) (bl : BL) (T : BP) (bl' : BL) (G : BG) (σ : List BV) : Bool := b_locs σ bl bl' && (b_inst K σ T G && decide (σ.take N0 = b_id E0))
theorem b_ins1_ok {E0 : BQ} {bl bl' : BL} {T : BP} {σ : List BV} {al : AL} (hi : b_ins1 K E0.length E0 bl T bl' G σ = true) (hN : E0.length ≤ T.1.length) (g : b_G K ν h0 h G) (hl : b_L G.1.length ν bl' al) : b_L T.1.length (b_vT σ ν) bl al ∧ b_G K (b_vT σ ν) h h (T.1, T.2.1, T.2.2, [], []) ∧ b_ext E0.length T.1.length ν (b_vT σ ν) := by
  unfold b_ins1 at hi
  rw [Bool.and_eq_true, Bool.and_eq_true, decide_eq_true_eq] at hi
  obtain ⟨s1, s2, s3⟩ := hi
  obtain ⟨i1, i2, i3, i4, i5⟩ := b_inst_ok g s2
  refine ⟨?_, ⟨i3, i4, i5, (fun o ho => by cases ho), g.2.2.2.2.1, b_frm.rf⟩, ?_⟩
  · have := b_locs_ok (ν := ν) s1 hl
    rw [i1] at this
    exact this
  · have := b_id_ext (ν := ν) (by rw [i1]; exact hN) s3
    rw [i1] at this
    exact this
/-- two facts of one place -/
theorem b_fa_same {N N' : Nat} {ν ν' : BN} {h : AH} {b b' s s' v v' : BV} {a a' : Nat} (f : b_fa N ν h (b, s, v)) (f' : b_fa N' ν' h (b', s', v')) (hb : b_r N ν b a) (hb' : b_r N' ν' b' a') (ha : a = a') {z : Int} (hs : b_i N ν s z) (hs' : b_i N' ν' s' z) : ∃ w, b_v N ν v w ∧ b_v N' ν' v' w := by
  subst ha
  have n9 : ¬ s.1 = 9 := by rcases hs with ⟨e, -⟩ | ⟨e, -⟩ <;> omega
  have n9' : ¬ s'.1 = 9 := by rcases hs' with ⟨e, -⟩ | ⟨e, -⟩ <;> omega
  obtain ⟨a1, t, vs, k1, k2, k3⟩ := f
  obtain ⟨a2, t', vs', m1, m2, m3⟩ := f'
  have e1 := k1.fn hb
  have e2 := m1.fn hb'
  subst e1
  subst e2
  rw [k2] at m2
  cases m2
  rw [if_neg n9] at k3
  rw [if_neg n9'] at m3
  obtain ⟨j, w, j1, j2, j3⟩ := k3
  obtain ⟨j', w', j1', j2', j3'⟩ := m3
  have e3 : (j : Int) = z := j1.fn hs
  have e4 : (j' : Int) = z := j1'.fn hs'
  have e5 : j = j' := by omega
  subst e5
  rw [j2] at j2'
  cases j2'
  exact ⟨w, j3, j3'⟩
theorem b_post.cut {R : BRw} {h' : AH} {W : BW} {r : AR} (f : b_frm K W h h') (hW : ∀ w, w ∈ W → w ∈ R.2.2.2.1) (k : b_post K R ν h' r) : b_post K R ν h r := by
  obtain ⟨p, p1, ν', x, q1, q2, q3⟩ := k
  exact ⟨p, p1, ν', x, q1, ⟨q2.1, q2.2.1, q2.2.2.1, q2.2.2.2.1, q2.2.2.2.2.1, f.tr q2.2.2.2.2.2 hW (fun w hw => hw)⟩, q3⟩
end HD
end
/-! part 62u.reg -/
section
/-! A region of a method with loops of its own, from one place to others -/
def b_rgR (S : BSg) : BRw := (S.1.1, 0, ([], S.2.1.2.2), S.2.2.1, [])
def b_rgo (K : BH) (S : BSg) (cuts : List BCu) (T0 : Option BCu) (o : BY) : Bool := (S.2.2.2.any fun p => b_sgo K S.2.1.2.2.1 S.2.2.1 p o) || (match o.1 with
  | .inl _ => false
  | .inr (pc, bl, bs) => decide (o.2.2 = (0, 0)) && cuts.any fun T => decide (T.1 = pc) && (match b_at K (b_rgR S) T bl bs o.2.1 with
    | some σ => b_fall o.2.1.1 σ T0 T
    | none => false))
def b_rgP (S : BSg) (T0 : Option BCu) : Nat := match T0 with
  | none => S.1.2
  | some T => T.1
def b_rgL (S : BSg) (T0 : Option BCu) : BL := match T0 with
  | none => S.2.1.1
  | some T => T.2.1
def b_rgS (S : BSg) (T0 : Option BCu) : List BV := match T0 with
  | none => S.2.1.2.1
  | some _ => []
def b_rgG (S : BSg) (T0 : Option BCu) : BG := match T0 with
  | none => (S.2.1.2.2.1, S.2.1.2.2.2.1, S.2.1.2.2.2.2, [], [])
  | some T => b_GT (b_rgR S) T
noncomputable def b_rgs (K : BH) (cB : BK) (S : BSg) (cuts : List BCu) (stops : List Nat) (F : Nat) (T0 : Option BCu) : Bool := (b_sts (b_rgL S T0) (b_rgG S T0) (b_sQ T0)).all fun s => match b_ex K cB ((cuts.map fun T => T.1) ++ stops) S.1.1 F true (b_rgP S T0) s.1 (b_rgS S T0) s.2.1 0 0 with
  | some L => L.all (b_rgo K S cuts (b_repT s.2.2 T0))
  | none => false
noncomputable def b_rgc (K : BH) (cB : BK) (S : BSg) (cuts : List BCu) (stops : List Nat) (F : Nat) : Bool := cuts.all (b_cutOK (b_rgR S)) && (b_rgs K cB S cuts stops F none && cuts.all fun T => b_rgs K cB S cuts stops F (some T))
section RG
variable {K : BH} {ν : BN} {h0 h : AH} {G : BG}
theorem b_sgq.back {d mi pc pc2 mc ms N : Nat} {al al2 : AL} {st st2 : List Value} {h2 h' : AH} {p : BSo} (hb : ∀ r, b_R d mi pc2 al2 st2 h2 mc ms r → b_R d mi pc al st h mc ms r) (k : b_sgq d mi pc2 al2 st2 h2 mc ms N ν h' p) : b_sgq d mi pc al st h mc ms N ν h' p := by
  unfold b_sgq at k ⊢
  split at k
  · rename_i k0 hk
    obtain ⟨r, k1, k2⟩ := k
    (try rw [hk])
    exact ⟨r, hb r k1, k2⟩
  · rename_i a b c hk
    obtain ⟨al', st', k1, k2, k3⟩ := k
    (try rw [hk])
    exact ⟨al', st', k1, k2, fun r hr => hb r (k3 r hr)⟩
/-- what a region comes to -/
def b_rgq (K : BH) (S : BSg) (d pc : Nat) (ν : BN) (h0 : AH) (al : AL) (st : List Value) (h : AH) (mc ms : Nat) : Prop := ∃ p ∈ S.2.2.2, ∃ ν' h', b_ext S.2.1.2.2.1.length (S.2.1.2.2.1 ++ p.2.1.1).length ν ν' ∧ b_G K ν' h0 h' (S.2.1.2.2.1 ++ p.2.1.1, p.2.1.2.1, p.2.1.2.2, [], S.2.2.1) ∧ b_sgq d S.1.1 pc al st h mc ms (S.2.1.2.2.1 ++ p.2.1.1).length ν' h' p
theorem b_rgs_ok (hJ : b_JF K) {d F : Nat} {cB : BK} (hc : b_cal K (b_lim d) cB) {S : BSg} {cuts : List BCu} {stops : List Nat} {T0 : Option BCu} {mc ms : Nat} (hcut : cuts.all (b_cutOK (b_rgR S)) = true) (hN : S.2.1.2.2.1.length ≤ (b_rgG S T0).1.length) (hseg : b_rgs K cB S cuts stops F T0 = true) {al : AL} {st : List Value} (hl : b_L (b_rgG S T0).1.length ν (b_rgL S T0) al) (hs : b_S (b_rgG S T0).1.length ν (b_rgS S T0) st) (g : b_G K ν h0 h (b_rgG S T0))
    (IH : ∀ (T : BCu) (ν' : BN) (al' : AL) (h' : AH), T ∈ cuts → b_L (b_GT (b_rgR S) T).1.length ν' T.2.1 al' → b_G K ν' h0 h' (b_GT (b_rgR S) T) → (∀ T1, T0 = some T1 → b_rv ν' T.2.2.2.1 < b_rv ν T1.2.2.2.1) → b_rgq K S d T.1 ν' h0 al' [] h' mc ms)
    (hr0 : ∀ T1, T0 = some T1 → T1.2.2.2.1.1.all (fun q => decide (q.1 < (b_rgG S T0).1.length)) = true) : b_rgq K S d (b_rgP S T0) ν h0 al st h mc ms := by
  unfold b_rgs at hseg
  obtain ⟨ss, ss1, hl, g, ssl, ssq⟩ := b_sts_ok (q := b_sQ T0) g hl (fun x y e => by
    cases T0 with
    | none => cases e
    | some T =>
      unfold b_sQ at e
      dsimp only at e
      split at e
      · split at e
        · rename_i c
          cases e
          exact c
        · cases e
      · cases e)
  have hseg := List.all_eq_true.mp hseg ss ss1
  have hN0 := hN
  rw [← ssl] at hN hs
  split at hseg
  · rename_i L hL
    obtain ⟨o, o1, k⟩ := b_ex_ok hJ (mc0 := mc) (ms0 := ms) hc F true (b_rgP S T0) ss.1 (b_rgS S T0) ss.2.1 0 0 L ν al st h mc ms hL hl hs g rfl rfl
    have ho := List.all_eq_true.mp hseg o o1
    unfold b_rgo at ho
    rw [Bool.or_eq_true] at ho
    have xN : b_ext S.2.1.2.2.1.length ss.2.1.1.length ν ν := ⟨hN, fun _ _ => rfl⟩
    rcases ho with ho | ho
    · obtain ⟨p, p1, p2⟩ := List.any_eq_true.mp ho
      obtain ⟨ν', x, k⟩ := k
      obtain ⟨ν2, h2, y1, y2, y3⟩ := b_sgo_ok (ν := ν) (N := S.2.1.2.2.1.length) rfl p2 ⟨ν', xN.tr x, k⟩
      exact ⟨p, p1, ν2, h2, y1, y2, y3⟩
    · obtain ⟨ν', x, k⟩ := k
      rcases k with ⟨q, r, q1, -⟩ | ⟨pc', bl', bs', al', st', h', mc', ms', q1, q2, q3, q4, q5, q6, q7⟩
      · rw [q1] at ho
        cases ho
      · rw [q1] at ho
        dsimp only at ho
        rw [Bool.and_eq_true, decide_eq_true_eq] at ho
        obtain ⟨ho1, ho2⟩ := ho
        obtain ⟨T, t1, t2⟩ := List.any_eq_true.mp ho2
        rw [Bool.and_eq_true, decide_eq_true_eq] at t2
        obtain ⟨t2, t3⟩ := t2
        split at t3
        · rename_i σ hσ
          have hcT := List.all_eq_true.mp hcut T t1
          unfold b_cutOK at hcT
          rw [Bool.and_eq_true, decide_eq_true_eq] at hcT
          obtain ⟨a1, a2, a3, a4⟩ := b_at_ok q5 q3 hσ hcT.1
          subst a1
          obtain rfl := q4.inv0
          have e1 : mc' = mc := q6.trans (by rw [ho1]; rfl)
          have e2 : ms' = ms := q7.trans (by rw [ho1]; rfl)
          subst e1 e2
          obtain ⟨p, p1, ν2, h2, y1, y2, y3⟩ := IH T (b_vT σ ν') al' h' t1 a2 a3 (fun T1 e => by
            have e3 : b_rv ν' T1.2.2.2.1 = b_rv ν T1.2.2.2.1 := by
              unfold b_rv
              rw [b_sum_cg (fun q hq => x.2 _ (by rw [ssl]; exact of_decide_eq_true (List.all_eq_true.mp (hr0 T1 e) q hq)))]
            rw [e] at t3
            have k : b_rv (b_vT σ ν') T.2.2.2.1 < b_rv ν' T1.2.2.2.1 := by
              cases hss : ss.2.2 with
              | none =>
                rw [hss] at t3
                exact b_dec_ok q5.1 t3
              | some xy =>
                obtain ⟨xx, yy⟩ := xy
                rw [hss] at t3
                have k := b_dec_ok q5.1 t3
                obtain ⟨z1, z2, z3⟩ := ssq xx yy hss
                have e4 : ν' xx = ν' yy := by rw [x.2 _ (by rw [ssl]; exact z2), x.2 _ (by rw [ssl]; exact z3)]; exact z1
                have e5 : b_rv ν' (b_repL xx yy T1.2.2.2.1.1, T1.2.2.2.1.2) = b_rv ν' T1.2.2.2.1 := by
                  unfold b_rv
                  rw [b_sum_rep e4]
                rw [← e5]
                exact k
            rw [← e3]
            exact k)
          refine ⟨p, p1, ν2, h2, ⟨y1.1, fun n hn => (y1.2 n hn).trans ((a4.2 n hn).trans (x.2 n (Nat.lt_of_lt_of_le hn hN)))⟩, y2, ?_⟩
          rw [t2] at y3
          exact y3.back q2
        · cases t3
  · cases hseg
theorem b_rgc_ok (hJ : b_JF K) {d F : Nat} {cB : BK} (hc : b_cal K (b_lim d) cB) {S : BSg} {cuts : List BCu} {stops : List Nat} {mc ms : Nat} (hk : b_rgc K cB S cuts stops F = true) {al : AL} {st : List Value} (hl : b_L S.2.1.2.2.1.length ν S.2.1.1 al) (hs : b_S S.2.1.2.2.1.length ν S.2.1.2.1 st) (g : b_G K ν h h (S.2.1.2.2.1, S.2.1.2.2.2.1, S.2.1.2.2.2.2, [], [])) : b_rgq K S d S.1.2 ν h al st h mc ms := by
  unfold b_rgc at hk
  rw [Bool.and_eq_true, Bool.and_eq_true] at hk
  obtain ⟨k2, k3, k4⟩ := hk
  have cut : ∀ (m : Nat) (T : BCu) (ν : BN) (al : AL) (h0 h : AH), T ∈ cuts → b_L (b_GT (b_rgR S) T).1.length ν T.2.1 al → b_G K ν h0 h (b_GT (b_rgR S) T) → (b_rv ν T.2.2.2.1).toNat < m → b_rgq K S d T.1 ν h0 al [] h mc ms := by
    intro m
    induction m with
    | zero => intro T ν al h0 h _ _ _ hm; omega
    | succ m ih =>
      intro T ν al h0 h hT hl g hm
      have hcT := List.all_eq_true.mp k2 T hT
      unfold b_cutOK at hcT
      rw [Bool.and_eq_true, decide_eq_true_eq, Bool.and_eq_true] at hcT
      obtain ⟨c1, c2, c3⟩ := hcT
      refine b_rgs_ok hJ hc (T0 := some T) k2 c1 (List.all_eq_true.mp k4 T hT) hl b_S.nil g (fun T' ν' al' h' hT' hl' g' hlt => ?_) (fun T1 e => by cases e; exact c3)
      refine ih T' ν' al' h0 h' hT' hl' g' ?_
      have hlt := hlt T rfl
      have hcT' := List.all_eq_true.mp k2 T' hT'
      unfold b_cutOK at hcT'
      rw [Bool.and_eq_true, decide_eq_true_eq, Bool.and_eq_true] at hcT'
      obtain ⟨-, c2', -⟩ := hcT'
      split at c2'
      · rename_i u hu
        have k := b_ub_ok g'.1 hu
        rw [b_sum_neg] at k
        have c2' := of_decide_eq_true c2'
        have e : b_rv ν' T'.2.2.2.1 = b_sum ν' T'.2.2.2.1.1 + T'.2.2.2.1.2 := rfl
        omega
      · cases c2'
  exact b_rgs_ok hJ hc (T0 := none) k2 (Nat.le_refl _) k3 hl hs g (fun T ν' al' h' hT hl' g' _ => cut _ T ν' al' h h' hT hl' g' (Nat.lt_succ_self _)) (fun T1 e => by cases e)
end RG
end
/-! part 62x.hit -/
section
/-! Where a run comes to first: two stretches from one place come to one state -/
/-- (place, locals, stack, heap, costs) -/
abbrev BSt : Type := Nat × AL × List Value × AH × Nat × Nat
/-- a step that goes on -/
noncomputable def b_nx (d mi : Nat) (s : BSt) : Option BSt := match a_ins mi s.1 with
  | none => none
  | some (i, len) => match a_end mi i s.2.2.1 with
    | some _ => none
    | none => match a_trw mi s.1 i s.2.2.1 with
      | some _ => none
      | none => match a_call (a_own mi) i s.2.2.1 s.2.2.2.1 with
        | some (mt, as, rest) => (match b_lim d mt as s.2.2.2.1 with
          | some (.inl v, h', c, q) => some (s.1 + 3, s.2.1, v.toList ++ rest, h', s.2.2.2.2.1 + c, s.2.2.2.2.2 + q)
          | some (.inr k, h', c, q) => if a_isSp i = true then none else if (a_hnd mi).isEmpty = true then none else (match a_cth mi s.1 k with
            | some x => (match a_hdl mi x.2.2.1 with
              | some (hp, n) => if n < s.2.1.length then some (hp, a_drop s.2.1 n, [], h', s.2.2.2.2.1 + c, s.2.2.2.2.2 + q) else none
              | none => none)
            | none => none)
          | none => none)
        | none => match a_stp (a_own mi) (a_ini mi) i len s.1 s.2.1 s.2.2.1 s.2.2.2.1 with
          | some (pc', al', st', h', c, q) => some (pc', al', st', h', s.2.2.2.2.1 + c, s.2.2.2.2.2 + q)
          | none => match a_acp (a_own mi) i len s.2.2.1 s.2.2.2.1 with
            | some (st', h') => some (s.1 + len, s.2.1, st', h', s.2.2.2.2.1, s.2.2.2.2.2)
            | none => none
noncomputable def b_it (d mi : Nat) : Nat → BSt → Option BSt
  | 0, s => some s
  | n + 1, s => (b_nx d mi s).bind (b_it d mi n)
/-- the first of these places that a run comes to -/
def b_hit (d mi : Nat) (cuts : List Nat) (first : Bool) (s t : BSt) : Prop := ∃ n, b_it d mi n s = some t ∧ t.1 ∈ cuts ∧ ∀ k u, k < n → (first = true → 0 < k) → b_it d mi k s = some u → ¬ u.1 ∈ cuts
theorem b_hit.back {d mi : Nat} {cuts : List Nat} {first : Bool} {s s2 t : BSt} (hn : b_nx d mi s = some s2) (hf : first = false → ¬ s.1 ∈ cuts) (k : b_hit d mi cuts false s2 t) : b_hit d mi cuts first s t := by
  obtain ⟨n, k1, k2, k3⟩ := k
  refine ⟨n + 1, ?_, k2, fun m u hm hz hu => ?_⟩
  · rw [b_it, hn]
    exact k1
  · cases m with
    | zero =>
      have hu : some s = some u := hu
      cases hu
      cases first with
      | true => exact absurd (hz rfl) (Nat.lt_irrefl 0)
      | false => exact hf rfl
    | succ m =>
      rw [b_it, hn] at hu
      exact k3 m u (Nat.lt_of_succ_lt_succ hm) (fun q => by cases q) hu
theorem b_hit.one {d mi : Nat} {cuts : List Nat} {s t t' : BSt} (hs : ¬ s.1 ∈ cuts) (k : b_hit d mi cuts true s t) (k' : b_hit d mi cuts true s t') : t = t' := by
  obtain ⟨n, k1, k2, k3⟩ := k
  obtain ⟨n', k1', k2', k3'⟩ := k'
  have p : 0 < n := by
    cases n with
    | zero =>
      have k1 : some s = some t := k1
      cases k1
      exact absurd k2 hs
    | succ n => exact Nat.succ_pos _
  have p' : 0 < n' := by
    cases n' with
    | zero =>
      have k1' : some s = some t' := k1'
      cases k1'
      exact absurd k2' hs
    | succ n => exact Nat.succ_pos _
  rcases Nat.lt_trichotomy n n' with e | e | e
  · exact absurd k2 (k3' n t e (fun _ => p) k1)
  · subst e
    rw [k1] at k1'
    cases k1'
    rfl
  · exact absurd k2' (k3 n' t' e (fun _ => p') k1')
theorem b_nx_go {d mi f : Nat} {s s2 : BSt} {r : AR} (hn : b_nx d mi s = some s2) (hr : a_go (b_lim d) mi f s2.1 s2.2.1 s2.2.2.1 s2.2.2.2.1 s2.2.2.2.2.1 s2.2.2.2.2.2 = some r) : a_go (b_lim d) mi (f + 1) s.1 s.2.1 s.2.2.1 s.2.2.2.1 s.2.2.2.2.1 s.2.2.2.2.2 = some r := by
  unfold b_nx at hn
  rw [a_go]
  split at hn
  · cases hn
  · rename_i i len hi
    rw [hi]
    dsimp only
    split at hn
    · cases hn
    · rename_i he
      rw [he]
      dsimp only
      split at hn
      · cases hn
      · rename_i ht
        rw [ht]
        dsimp only
        split at hn
        · rename_i mt as rest hc
          rw [hc]
          dsimp only
          split at hn
          · rename_i v h' c q hl
            rw [hl]
            cases hn
            exact hr
          · rename_i k h' c q hl
            rw [hl]
            dsimp only
            split at hn
            · cases hn
            · rename_i hsp
              rw [if_neg hsp]
              split at hn
              · cases hn
              · rename_i hem
                rw [if_neg hem]
                split at hn
                · rename_i x hx
                  rw [hx]
                  dsimp only
                  split at hn
                  · rename_i hp n hh
                    rw [hh]
                    dsimp only
                    split at hn
                    · rename_i hlt
                      rw [if_pos hlt]
                      cases hn
                      exact hr
                    · cases hn
                  · cases hn
                · cases hn
          · cases hn
        · rename_i hc
          rw [hc]
          dsimp only
          split at hn
          · rename_i pc' al' st' h' c q hst
            rw [hst]
            cases hn
            exact hr
          · rename_i hst
            rw [hst]
            dsimp only
            split at hn
            · rename_i st' h' hq
              rw [hq]
              cases hn
              exact hr
            · cases hn
theorem b_it_R {d mi : Nat} {r : AR} : ∀ (n : Nat) (s t : BSt), b_it d mi n s = some t → b_R d mi t.1 t.2.1 t.2.2.1 t.2.2.2.1 t.2.2.2.2.1 t.2.2.2.2.2 r → b_R d mi s.1 s.2.1 s.2.2.1 s.2.2.2.1 s.2.2.2.2.1 s.2.2.2.2.2 r
  | 0, s, t, h, hr => by
    have h : some s = some t := h
    cases h
    exact hr
  | n + 1, s, t, h, hr => by
    rw [b_it, Option.bind_eq_some_iff] at h
    obtain ⟨s2, h1, h2⟩ := h
    obtain ⟨f, hf⟩ := b_it_R n s2 t h2 hr
    exact ⟨f + 1, b_nx_go h1 hf⟩
theorem b_hit.R {d mi : Nat} {cuts : List Nat} {first : Bool} {s t : BSt} {r : AR} (k : b_hit d mi cuts first s t) (hr : b_R d mi t.1 t.2.1 t.2.2.1 t.2.2.2.1 t.2.2.2.2.1 t.2.2.2.2.2 r) : b_R d mi s.1 s.2.1 s.2.2.1 s.2.2.2.1 s.2.2.2.2.1 s.2.2.2.2.2 r := by
  obtain ⟨n, k1, -, -⟩ := k
  exact b_it_R n s t k1 hr
section HT
variable {K : BH} {ν : BN} {h0 h : AH} {G : BG}
/-- a run's outcome, with where it comes to first -/
def b_OkH (K : BH) (d mi : Nat) (cuts : List Nat) (first : Bool) (pc : Nat) (ν : BN) (h0 : AH) (N : Nat) (al : AL) (st : List Value) (h : AH) (mc ms mc0 ms0 : Nat) (o : BY) : Prop := ∃ ν', b_ext N o.2.1.1.length ν ν' ∧
  ((∃ q r, o.1 = .inl q ∧ b_R d mi pc al st h mc ms r ∧ b_fin o.2.1.1.length ν' q r.1 ∧ b_G K ν' h0 r.2.1 o.2.1 ∧ r.2.2.1 = mc0 + o.2.2.1 ∧ r.2.2.2 = ms0 + o.2.2.2) ∨
  (∃ pc' bl' bs' al' st' h' mc' ms', o.1 = .inr (pc', bl', bs') ∧ b_hit d mi cuts first (pc, al, st, h, mc, ms) (pc', al', st', h', mc', ms') ∧ b_L o.2.1.1.length ν' bl' al' ∧ b_S o.2.1.1.length ν' bs' st' ∧ b_G K ν' h0 h' o.2.1 ∧ mc' = mc0 + o.2.2.1 ∧ ms' = ms0 + o.2.2.2))
theorem b_OkH.ok {d mi pc : Nat} {cuts : List Nat} {first : Bool} {N : Nat} {al : AL} {st : List Value} {mc ms mc0 ms0 : Nat} {o : BY} (k : b_OkH K d mi cuts first pc ν h0 N al st h mc ms mc0 ms0 o) : b_Ok K d mi pc ν h0 N al st h mc ms mc0 ms0 o := by
  obtain ⟨ν', x1, k⟩ := k
  refine ⟨ν', x1, ?_⟩
  rcases k with k | ⟨pc', bl', bs', al', st', h', mc', ms', k1, k2, k3⟩
  · exact Or.inl k
  · exact Or.inr ⟨pc', bl', bs', al', st', h', mc', ms', k1, fun r hr => k2.R (t := (pc', al', st', h', mc', ms')) hr, k3⟩
theorem b_OkH.back {d mi pc pc2 : Nat} {cuts : List Nat} {first : Bool} {N N2 : Nat} {ν2 : BN} {al al2 : AL} {st st2 : List Value} {h2 : AH} {mc ms mc2 ms2 mc0 ms0 : Nat} {o : BY} (x : b_ext N N2 ν ν2) (hf : first = false → ¬ pc ∈ cuts) (hb : b_nx d mi (pc, al, st, h, mc, ms) = some (pc2, al2, st2, h2, mc2, ms2)) (k : b_OkH K d mi cuts false pc2 ν2 h0 N2 al2 st2 h2 mc2 ms2 mc0 ms0 o) : b_OkH K d mi cuts first pc ν h0 N al st h mc ms mc0 ms0 o := by
  obtain ⟨ν', x1, k⟩ := k
  refine ⟨ν', x.tr x1, ?_⟩
  rcases k with ⟨q, r, k1, ⟨f, k2⟩, k3⟩ | ⟨pc', bl', bs', al', st', h', mc', ms', k1, k2, k3⟩
  · exact Or.inl ⟨q, r, k1, ⟨f + 1, b_nx_go hb k2⟩, k3⟩
  · exact Or.inr ⟨pc', bl', bs', al', st', h', mc', ms', k1, b_hit.back hb hf k2, k3⟩
theorem b_ex_hit (hJ : b_JF K) {d mi : Nat} {cB : BK} {cuts : List Nat} {mc0 ms0 : Nat} (hc : b_cal K (b_lim d) cB) : ∀ (f : Nat) (first : Bool) (pc : Nat) (bl : BL) (bs : List BV) (G : BG) (c s : Nat) (L : List BY) (ν : BN) (al : AL) (st : List Value) (h : AH) (mc ms : Nat), b_ex K cB cuts mi f first pc bl bs G c s = some L → b_L G.1.length ν bl al → b_S G.1.length ν bs st → b_G K ν h0 h G → mc = mc0 + c → ms = ms0 + s → ∃ o ∈ L, b_OkH K d mi cuts first pc ν h0 G.1.length al st h mc ms mc0 ms0 o
  | 0, first, pc, bl, bs, G, c, s, L, ν, al, st, h, mc, ms, hr, _, _, _, _, _ => by cases hr
  | f + 1, first, pc, bl, bs, G, c, s, L, ν, al, st, h, mc, ms, hr, hl, hs, g, e1, e2 => by
    rw [b_ex] at hr
    split at hr
    · rename_i hst
      cases hr
      exact ⟨_, List.mem_cons_self, ν, b_ext.rf, Or.inr ⟨pc, bl, bs, al, st, h, mc, ms, rfl, ⟨0, rfl, (by simpa using hst.2), fun k u q => absurd q (Nat.not_lt_zero _)⟩, hl, hs, g, e1, e2⟩⟩
    · rename_i hst
      have hf : first = false → ¬ pc ∈ cuts := fun q1 q2 => hst ⟨q1, by simpa using q2⟩
      split at hr
      · cases hr
      · rename_i i len hi
        split at hr
        · rename_i v hv
          cases hr
          obtain ⟨w, w1, w2⟩ := b_end_ok g.1 hs hv
          refine ⟨_, List.mem_cons_self, ν, b_ext.rf, Or.inl ⟨_, (.inl w, h, mc, ms), rfl, ⟨1, ?_⟩, w2, g, e1, e2⟩⟩
          rw [a_go, hi]
          dsimp only
          rw [w1]
        · split at hr
          · rename_i k hk
            cases hr
            obtain ⟨w1, w2⟩ := b_trw_ok hs hk
            refine ⟨_, List.mem_cons_self, ν, b_ext.rf, Or.inl ⟨_, (.inr k, h, mc + 1, ms + 6), rfl, ⟨1, ?_⟩, rfl, g, ?_, ?_⟩⟩
            · rw [a_go, hi]
              dsimp only
              rw [a_endN w2]
              dsimp only
              rw [w1]
            · show mc + 1 = mc0 + (c + 1)
              omega
            · show ms + 6 = ms0 + (s + 6)
              omega
          · split at hr
            · rename_i mt as rest hca
              obtain ⟨cas, crest, c1, c2, c3, c4, c5⟩ := b_call_ok g hs hca
              split at hr
              · rename_i outs hou
                obtain ⟨r, r1, o, o1, ν', x, o2, o3, o4⟩ := hc ν h0 h mt as cas G outs hou g c2
                obtain ⟨z, z1, z2⟩ := b_all_ok hr o o1
                rw [f_G_eq, f_n_eq, f_n_eq] at z1
                obtain ⟨rv, rh, rc, rs⟩ := r
                have o4a : rc = o.2.2.1 := by have := congrArg Prod.fst o4; exact this
                have o4b : rs = o.2.2.2 := by have := congrArg Prod.snd o4; exact this
                split at z1
                · rename_i v hv
                  rw [f_n_eq, f_l_eq f_b_eq] at z1
                  rw [hv] at o2
                  obtain ⟨w, rfl, hw⟩ : ∃ w, rv = .inl w ∧ b_S o.2.1.1.length ν' v.toList w.toList := by
                    cases v with
                    | none =>
                      cases rv with
                      | inl w =>
                        cases w with
                        | none => exact ⟨none, rfl, b_S.nil⟩
                        | some w => exact o2.elim
                      | inr k => exact o2.elim
                    | some b =>
                      cases rv with
                      | inl w =>
                        cases w with
                        | none => exact o2.elim
                        | some w => exact ⟨some w, rfl, b_S.cons o2 b_S.nil⟩
                      | inr k => exact o2.elim
                  obtain ⟨oo, p1, p2⟩ := b_ex_hit hJ (mc0 := mc0) (ms0 := ms0) hc f false (pc + 3) bl (v.toList ++ rest) _ _ _ z ν' al (w.toList ++ crest) rh (mc + rc) (ms + rs) z1 (hl.ext x) (hw.app (c3.ext x)) o3 (by omega) (by omega)
                  refine ⟨oo, z2 oo p1, b_OkH.back x hf ?_ p2⟩
                  rw [b_nx]
                  dsimp only
                  rw [hi]
                  dsimp only
                  rw [a_endN c4]
                  dsimp only
                  rw [a_trwN c5]
                  dsimp only
                  rw [c1]
                  dsimp only
                  rw [r1]
                  (try rfl)
                · rename_i k hk
                  rw [hk] at o2
                  obtain rfl : rv = .inr k := by
                    cases rv with
                    | inl w => cases w <;> exact o2.elim
                    | inr k' =>
                      have o2 : k = k' := o2
                      rw [o2]
                  split at z1
                  · cases z1
                  · rename_i hsp
                    split at z1
                    · rename_i hem
                      cases z1
                      refine ⟨_, z2 _ List.mem_cons_self, ν', x, Or.inl ⟨_, (.inr k, rh, mc + rc, ms + rs), rfl, ⟨1, ?_⟩, rfl, o3, ?_, ?_⟩⟩
                      · rw [a_go, hi]
                        dsimp only
                        rw [a_endN c4]
                        dsimp only
                        rw [a_trwN c5]
                        dsimp only
                        rw [c1]
                        dsimp only
                        rw [r1]
                        dsimp only
                        rw [if_neg hsp, if_pos hem]
                      · show mc + rc = mc0 + (c + o.2.2.1); omega
                      · show ms + rs = ms0 + (s + o.2.2.2); omega
                    · rename_i hem
                      split at z1
                      · rename_i xx hxx
                        split at z1
                        · rename_i hp n hh
                          split at z1
                          · rename_i hn
                            obtain ⟨oo, p1, p2⟩ := b_ex_hit hJ (mc0 := mc0) (ms0 := ms0) hc f false hp (b_drop bl n) [] _ _ _ z ν' (a_drop al n) [] rh (mc + rc) (ms + rs) z1 (b_drop_ok (hl.ext x)) b_S.nil o3 (by omega) (by omega)
                            refine ⟨oo, z2 oo p1, b_OkH.back x hf ?_ p2⟩
                            rw [b_nx]
                            dsimp only
                            rw [hi]
                            dsimp only
                            rw [a_endN c4]
                            dsimp only
                            rw [a_trwN c5]
                            dsimp only
                            rw [c1]
                            dsimp only
                            rw [r1]
                            dsimp only
                            rw [if_neg hsp, if_neg hem, hxx]
                            dsimp only
                            rw [hh]
                            dsimp only
                            rw [if_pos (by rw [← hl.1]; exact hn)]
                            (try rfl)
                          · cases z1
                        · cases z1
                      · cases z1
              · cases hr
            · split at hr
              · rename_i hno
                split at hr
                · rename_i L' hL'
                  obtain ⟨k1, k2⟩ := b_stp_kind hL'
                  obtain ⟨pc', al', st', h', s1, o, o1, o2, ν', x, o3, o4, o5⟩ := b_stp_ok hJ (ini := a_ini mi) g hl hs hL'
                  obtain ⟨z, z1, z2⟩ := b_all_ok hr o o1
                  rw [b_nrm_eq] at z1
                  subst o2
                  obtain ⟨oo, p1, p2⟩ := b_ex_hit hJ (mc0 := mc0) (ms0 := ms0) hc f false o.1 o.2.1 o.2.2.1 o.2.2.2 c s z ν' al' st' h' (mc + 0) (ms + 0) z1 o3 o4 o5 (by omega) (by omega)
                  refine ⟨oo, z2 oo p1, b_OkH.back x hf ?_ p2⟩
                  rw [b_nx]
                  dsimp only
                  rw [hi]
                  dsimp only
                  rw [a_endN k1]
                  dsimp only
                  rw [a_trwN k2]
                  dsimp only
                  rw [b_noc_ok hno]
                  dsimp only
                  rw [s1]
                  (try rfl)
                · split at hr
                  · rename_i o ho
                    rw [f_n_eq, f_l_eq f_b_eq, f_G_eq] at hr
                    obtain ⟨bs', G'⟩ := o
                    obtain ⟨st', h', s1, s2, s3, s4, s5, s7⟩ := b_acp_ok hJ g hs ho
                    have x : b_ext G.1.length G'.1.length ν ν := by rw [s4]; exact b_ext.rf
                    obtain ⟨oo, p1, p2⟩ := b_ex_hit hJ (mc0 := mc0) (ms0 := ms0) hc f false (pc + len) bl bs' G' c s L ν al st' h' mc ms hr (by rw [s4]; exact hl) s2 s3 e1 e2
                    refine ⟨oo, p1, b_OkH.back x hf ?_ p2⟩
                    rw [b_nx]
                    dsimp only
                    rw [hi]
                    dsimp only
                    rw [a_endN (by rcases s5 with ⟨idx, s5⟩ | s5 <;> rw [s5] <;> rfl)]
                    dsimp only
                    rw [a_trwN (fun k q => by rcases s5 with ⟨idx, s5⟩ | s5 <;> rw [s5] at q <;> cases q)]
                    dsimp only
                    rw [b_noc_ok hno]
                    dsimp only
                    rw [s7]
                    dsimp only
                    rw [s1]
                    (try rfl)
                  · cases hr
              · cases hr
/-- a stretch with where it comes to first -/
theorem b_sgo_hit {d mi pc mc ms : Nat} {cuts : List Nat} {E0 : BQ} {W : BW} {p : BSo} {o : BY} {N : Nat} {al : AL} {st : List Value} {hs : AH} (hN : E0.length = N) (ho : b_sgo K E0 W p o = true) (k : b_OkH K d mi cuts true pc ν h0 N al st hs mc ms mc ms o) {pc' : Nat} {bl' : BL} {bs' : List BV} (hp : p.1 = .inr (pc', bl', bs')) : ∃ ν' h', b_ext E0.length (E0 ++ p.2.1.1).length ν ν' ∧ b_G K ν' h0 h' (E0 ++ p.2.1.1, p.2.1.2.1, p.2.1.2.2, [], W) ∧ ∃ al' st', b_L (E0 ++ p.2.1.1).length ν' bl' al' ∧ b_S (E0 ++ p.2.1.1).length ν' bs' st' ∧ b_hit d mi cuts true (pc, al, st, hs, mc, ms) (pc', al', st', h', mc + p.2.2.1, ms + p.2.2.2) := by
  subst hN
  unfold b_sgo at ho
  rw [Bool.and_eq_true, decide_eq_true_eq, Bool.and_eq_true] at ho
  obtain ⟨ho1, ho2, ho3⟩ := ho
  obtain ⟨ν1, x1, k⟩ := k
  rw [hp] at ho3
  rcases k with ⟨q, r, q1, q2, q3, q4, q5, q6⟩ | ⟨pc2, bl2, bs2, al', st', h', mc', ms', q1, q2, q3, q4, q5, q6, q7⟩
  · rw [q1] at ho3
    cases ho3
  · rw [q1] at ho3
    dsimp only at ho3
    rw [Bool.and_eq_true, decide_eq_true_eq] at ho3
    obtain ⟨e0, ho3⟩ := ho3
    subst e0
    split at ho3
    · rename_i σ hσ
      rw [Bool.and_eq_true, decide_eq_true_eq, Bool.and_eq_true, Bool.and_eq_true] at ho3
      obtain ⟨s1, s2, s4, s3⟩ := ho3
      obtain ⟨i1, i2, i3, i4, i5⟩ := b_inst_ok q5 s3
      have i1 : σ.length = (E0 ++ p.2.1.1).length := i1
      have x := b_id_ext (ν := ν1) (by rw [i1, List.length_append]; exact Nat.le_add_right _ _) s1
      rw [i1] at x
      have l1 := b_locs_ok (ν := ν1) s2 q3
      have l2 := b_locsA (ν := ν1) s4 q4
      rw [i1] at l1 l2
      refine ⟨b_vT σ ν1, h', ⟨x.1, fun n hn => (x.2 n hn).trans (x1.2 n hn)⟩, ⟨i3, i4, i5, (fun o ho => by cases ho), q5.2.2.2.2.1, q5.2.2.2.2.2.mono (b_subW_ok ho2)⟩, al', st', l1, l2, ?_⟩
      rw [q6, q7, ho1] at q2
      exact q2
    · cases ho3
theorem b_sgc_hit (hJ : b_JF K) {d F : Nat} {cB : BK} (hc : b_cal K (b_lim d) cB) {S : BSg} {cuts : List Nat} (hk : b_sgc K cB S cuts F = true) (ha : S.2.2.2.all (fun p => match p.1 with
    | .inl _ => false
    | .inr _ => true) = true) {al : AL} {st : List Value} {mc ms : Nat} (hl : b_L S.2.1.2.2.1.length ν S.2.1.1 al) (hs : b_S S.2.1.2.2.1.length ν S.2.1.2.1 st) (g : b_G K ν h h (S.2.1.2.2.1, S.2.1.2.2.2.1, S.2.1.2.2.2.2, [], [])) : ∃ p ∈ S.2.2.2, ∃ pc' bl' bs', p.1 = .inr (pc', bl', bs') ∧ ∃ ν' h', b_ext S.2.1.2.2.1.length (S.2.1.2.2.1 ++ p.2.1.1).length ν ν' ∧ b_G K ν' h h' (S.2.1.2.2.1 ++ p.2.1.1, p.2.1.2.1, p.2.1.2.2, [], S.2.2.1) ∧ ∃ al' st', b_L (S.2.1.2.2.1 ++ p.2.1.1).length ν' bl' al' ∧ b_S (S.2.1.2.2.1 ++ p.2.1.1).length ν' bs' st' ∧ b_hit d S.1.1 cuts true (S.1.2, al, st, h, mc, ms) (pc', al', st', h', mc + p.2.2.1, ms + p.2.2.2) := by
  unfold b_sgc at hk
  split at hk
  · rename_i L hL
    obtain ⟨o, o1, k⟩ := b_ex_hit hJ (mc0 := mc) (ms0 := ms) hc F true S.1.2 S.2.1.1 S.2.1.2.1 _ 0 0 L ν al st h mc ms hL hl hs g rfl rfl
    have ho := List.all_eq_true.mp hk o o1
    obtain ⟨p, p1, p2⟩ := List.any_eq_true.mp ho
    have hp := List.all_eq_true.mp ha p p1
    cases hq : p.1 with
    | inl z => rw [hq] at hp; cases hp
    | inr z =>
      obtain ⟨pc', bl', bs'⟩ := z
      obtain ⟨ν', h', y⟩ := b_sgo_hit rfl p2 k hq
      exact ⟨p, p1, pc', bl', bs', hq, ν', h', y⟩
  · cases hk
end HT
end
/-! part 63.groups -/
section
/-! The cells' groups and the groups' types, by program (wip/absint.py) -/
def c_gt : List Nat := [111, 0, 1, 2, 4, 5, 6, 7, 8, 9, 10, 11, 12, 13, 14, 18, 19, 3, 3, 3, 3, 3, 3, 3, 3, 3, 3, 3, 3, 3, 3, 3, 3, 3, 3, 3, 3, 15, 16, 17, 15, 16, 17, 15, 16, 17, 15, 16, 17, 15, 16, 17, 15, 16, 17, 15, 16, 17, 15, 16, 17, 15, 16, 17, 15, 16, 17, 15, 16, 17, 15, 16, 17, 15, 16, 17, 15, 16, 17, 15, 16, 17, 15, 16, 17, 15, 16, 17, 15, 16, 17, 15, 16, 17, 15, 16, 17, 15, 16, 17, 15, 16, 17, 15, 16, 17, 15, 16, 17, 15, 16, 17, 15, 16, 17, 15, 16, 17, 15, 16, 17, 15, 16, 17, 15, 16, 17, 15, 16, 17, 15, 16, 17, 15, 16, 17, 15, 16, 17, 15, 16, 17, 15, 16, 17, 15, 16, 17, 15, 16, 17, 15, 16, 17, 15, 16, 17, 15, 16, 17, 15, 16, 17, 15, 16, 17, 15, 16, 17, 15, 16, 17, 15, 16, 17, 15, 16, 17, 15, 16, 17, 15, 16, 17, 15, 16, 17, 15, 16, 17, 15, 16, 17, 15, 16, 17, 15, 16, 17, 15, 16, 17, 15, 16, 17, 15, 16, 17, 15, 16, 17, 15, 16, 17, 15, 16, 17, 20, 26, 27, 28, 29, 30, 31, 32, 32, 32, 32, 32, 32, 32, 32, 32, 32, 32, 32, 32, 32, 32, 32, 32, 32, 32, 32, 33, 34, 35, 36, 37, 38, 39, 40, 40, 40, 40, 40, 40, 40, 40, 40, 40, 40, 40, 40, 40, 40, 40, 40, 40, 40, 40, 41, 42, 43, 44, 45, 46, 47, 48, 49, 21, 22, 23, 24, 25, 23, 24, 25, 23, 24, 25, 23, 24, 25, 23, 24, 25, 21, 22, 23, 24, 25, 23, 24, 25, 23, 24, 25, 23, 24, 25, 23, 24, 25, 21, 22, 23, 24, 25, 23, 24, 25, 23, 24, 25, 23, 24, 25, 23, 24, 25, 21, 22, 23, 24, 25, 23, 24, 25, 23, 24, 25, 23, 24, 25, 23, 24, 25, 21, 22, 23, 24, 25, 23, 24, 25, 23, 24, 25, 23, 24, 25, 23, 24, 25, 50, 51, 52, 53, 54, 55, 56, 57, 58, 59, 60, 61, 62, 63, 63, 63, 63, 63, 63, 63, 63, 63, 63, 63, 63, 63, 63, 63, 63, 63, 63, 63, 63, 64, 65, 65, 65, 65, 65, 65, 65, 65, 65, 65, 65, 65, 65, 65, 65, 65, 65, 65, 65, 65, 66, 67, 68, 69, 70, 71, 72, 73, 74, 75, 76, 76, 76, 76, 76, 76, 76, 76, 76, 76, 76, 76, 76, 76, 76, 76, 76, 76, 76, 76, 76, 76, 76, 76, 76, 76, 76, 76, 76, 76, 76, 76, 76, 76, 76, 76, 76, 76, 76, 76, 76, 76, 76, 76, 76, 76, 76, 76, 76, 76, 76, 76, 76, 76, 76, 76, 76, 76, 76, 76, 77, 78, 79, 80, 81, 82, 83, 83, 83, 83, 83, 83, 83, 83, 83, 83, 83, 83, 83, 83, 83, 83, 83, 83, 83, 83, 83, 83, 83, 83, 83, 83, 83, 83, 83, 83, 83, 83, 83, 83, 83, 83, 83, 83, 83, 83, 83, 83, 83, 83, 83, 83, 83, 83, 83, 83, 83, 83, 83, 83, 83, 83, 83, 83, 83, 83, 84, 85, 86, 86, 86, 86, 86, 86, 86, 86, 86, 86, 86, 86, 86, 86, 86, 86, 86, 86, 86, 86, 86, 86, 86, 86, 86, 86, 86, 86, 86, 86, 86, 86, 86, 86, 86, 86, 86, 86, 86, 86, 86, 86, 86, 86, 86, 86, 86, 86, 86, 86, 86, 86, 86, 86, 86, 86, 86, 86, 86, 86, 87, 88, 89, 90, 91, 91, 91, 91, 91, 92, 93, 94, 94, 94, 94, 94, 93, 94, 94, 94, 94, 94, 93, 94, 94, 94, 94, 94, 93, 94, 94, 94, 94, 94, 93, 94, 94, 94, 94, 94, 95, 96, 97, 97, 97, 97, 97, 96, 97, 97, 97, 97, 97, 96, 97, 97, 97, 97, 97, 96, 97, 97, 97, 97, 97, 96, 97, 97, 97, 97, 97, 98, 99, 99, 99, 99, 99, 100, 101, 102, 102, 102, 102, 102, 101, 102, 102, 102, 102, 102, 101, 102, 102, 102, 102, 102, 101, 102, 102, 102, 102, 102, 101, 102, 102, 102, 102, 102, 103, 104, 105, 105, 105, 105, 105, 105, 105, 105, 105, 105, 105, 105, 105, 105, 105, 105, 105, 105, 105, 105, 105, 105, 105, 105, 105, 105, 105, 105, 105, 105, 105, 105, 105, 105, 105, 105, 105, 105, 105, 105, 106, 107, 108, 109, 110]
def c_gp : List BR := [
  (11, 15, 0, [(1, 2, 0), (1, 3, 0), (1, 4, 0), (1, 11, 0), (0, 0, 20), (1, 217, 0), (0, 0, 5), (1, 218, 0), (1, 244, 0), (1, 246, 0), (1, 271, 0), (1, 277, 0), (0, 0, 9), (1, 278, 0), (1, 279, 0)]),
  (3, 9, 0, [(1, 3, 0), (1, 4, 0), (1, 11, 0), (1, 14, 0), (0, 0, 60), (0, 0, 50), (1, 15, 0), (1, 16, 0), (0, 0, 60)]),
  (25, 20, 1, [(2, 3, 0)]),
  (2, 9, 0, [(0, 45, 150), (0, 0, 300), (0, 0, 9), (0, (-1), 4), (0, 0, 1), (0, 0, 3), (0, 0, 3), (0, 45, 150), (0, 0, 49)]),
  (10, 8, 0, [(1, 5, 0), (1, 6, 0), (0, 0, 4), (1, 7, 0), (1, 8, 0), (1, 9, 0), (1, 10, 0), (0, 0, 60)]),
  (20, 4, 1, [(0, 0, 9)]),
  (21, 4, 1, [(0, 0, 1)]),
  (20, 60, 1, [(0, 0, 19)]),
  (20, 60, 1, [(0, 0, 3)]),
  (20, 60, 1, [(0, 0, 49)]),
  (20, 60, 1, [(0, 0, 49)]),
  (0, 4, 0, [(1, 12, 0), (1, 13, 0), (0, 0, 400), (0, 0, 399)]),
  (22, 400, 1, [(0, 0, 150)]),
  (20, 400, 1, [(0, 0, 19)]),
  (26, 60, 1, [(2, 15, 0)]),
  (9, 9, 0, [(0, 0, 19), (0, 0, 3), (0, 0, 49), (0, 0, 2), (0, 45, 150), (0, 0, 1), (2, 16, 0), (0, 0, 16), (2, 17, 0)]),
  (20, 16, 1, [(0, 0, 15)]),
  (21, 16, 1, [(0, 0, 1)]),
  (21, 10, 1, [(0, 0, 1)]),
  (20, 60, 1, [(0, 0, 59)]),
  (28, 5, 1, [(2, 21, 0)]),
  (8, 9, 0, [(0, 0, 9), (0, 0, 2000), (0, 0, 100), (0, 45, 150), (0, 0, 3), (0, 63, 150), (0, 0, 1), (2, 22, 0), (0, 0, 5)]),
  (27, 5, 1, [(2, 23, 0)]),
  (4, 6, 0, [(0, 0, 9), (2, 24, 0), (0, (-1), 50), (0, (-1), 59), (2, 25, 0), (0, 0, 9)]),
  (21, 20, 1, [(0, 0, 1)]),
  (20, 9, 1, [(0, 0, 19)]),
  (6, 6, 0, [(1, 219, 0), (1, 220, 0), (1, 221, 0), (1, 222, 0), (1, 223, 0), (0, 0, 8)]),
  (20, 8, 1, [(0, 0, 9)]),
  (20, 8, 1, [(0, (-2147483648), 2147483647)]),
  (20, 8, 1, [(0, (-2147483648), 2147483647)]),
  (20, 8, 1, [(0, (-2147483648), 2147483647)]),
  (29, 20, 1, [(2, 32, 0)]),
  (20, 8, 1, [(0, (-2), 100)]),
  (5, 2, 0, [(1, 245, 0), (0, 0, 16)]),
  (20, 16, 1, [(0, 0, 3)]),
  (1, 4, 0, [(1, 247, 0), (1, 248, 0), (1, 249, 0), (1, 250, 0)]),
  (21, 20, 1, [(0, 0, 1)]),
  (21, 20, 1, [(0, 0, 1)]),
  (20, 20, 1, [(0, (-2147483648), 2147483647)]),
  (29, 20, 1, [(2, 40, 0)]),
  (20, 20, 1, [(0, (-2147483648), 2147483647)]),
  (7, 6, 0, [(1, 272, 0), (1, 273, 0), (1, 274, 0), (1, 275, 0), (1, 276, 0), (0, 0, 40)]),
  (20, 40, 1, [(0, 0, 19)]),
  (20, 40, 1, [(0, 0, 9)]),
  (20, 40, 1, [(0, 0, 99)]),
  (20, 40, 1, [(0, 0, 99)]),
  (20, 40, 1, [(0, 0, 9)]),
  (20, 9, 1, [(0, 0, 19)]),
  (20, 20, 1, [(0, 0, 19)]),
  (20, 20, 1, [(0, (-2147483648), 2147483647)]),
  (12, 56, 0, [(1, 366, 0), (1, 367, 0), (1, 368, 0), (1, 369, 0), (1, 370, 0), (1, 371, 0), (1, 372, 0), (1, 373, 0), (1, 374, 0), (1, 375, 0), (1, 376, 0), (1, 377, 0), (1, 398, 0), (1, 419, 0), (1, 420, 0), (1, 421, 0), (1, 422, 0), (1, 423, 0), (1, 424, 0), (1, 425, 0), (1, 426, 0), (1, 427, 0), (1, 428, 0), (1, 489, 0), (1, 490, 0), (1, 491, 0), (1, 492, 0), (1, 493, 0), (1, 494, 0), (1, 555, 0), (1, 556, 0), (1, 617, 0), (1, 618, 0), (1, 619, 0), (1, 620, 0), (1, 626, 0), (1, 657, 0), (1, 688, 0), (1, 694, 0), (1, 725, 0), (1, 726, 0), (1, 767, 0), (1, 768, 0), (1, 769, 0), (0, 0, 20), (0, 0, 8), (0, 0, 5), (0, 0, 4), (0, 0, 60), (0, 0, 60), (0, 0, 16), (0, 0, 9), (0, 0, 40), (0, 0, 400), (0, 0, 50), (0, 0, 4)]),
  (22, 20, 1, [(0, 0, 150)]),
  (20, 20, 1, [(0, 0, 300)]),
  (20, 20, 1, [(0, 0, 9)]),
  (20, 20, 1, [(0, 0, 3)]),
  (20, 20, 1, [(0, (-1), 4)]),
  (20, 20, 1, [(0, 0, 3)]),
  (21, 20, 1, [(0, 0, 1)]),
  (22, 20, 1, [(0, 0, 150)]),
  (20, 20, 1, [(0, 0, 49)]),
  (20, 8, 1, [(0, 0, 9)]),
  (20, 8, 1, [(0, (-2147483648), 2147483647)]),
  (30, 20, 1, [(2, 63, 0)]),
  (21, 8, 1, [(0, 0, 1)]),
  (29, 20, 1, [(2, 65, 0)]),
  (20, 8, 1, [(0, (-1), 100)]),
  (20, 5, 1, [(0, 0, 9)]),
  (20, 5, 1, [(0, 0, 2000)]),
  (20, 5, 1, [(0, 0, 100)]),
  (22, 5, 1, [(0, 0, 150)]),
  (20, 5, 1, [(0, 0, 3)]),
  (22, 5, 1, [(0, 0, 150)]),
  (21, 5, 1, [(0, 0, 1)]),
  (20, 4, 1, [(0, 0, 9)]),
  (21, 4, 1, [(0, 0, 1)]),
  (29, 60, 1, [(2, 76, 0)]),
  (20, 4, 1, [(0, 0, 49)]),
  (20, 60, 1, [(0, 0, 19)]),
  (20, 60, 1, [(0, 0, 3)]),
  (20, 60, 1, [(0, 0, 49)]),
  (22, 60, 1, [(0, 0, 150)]),
  (21, 60, 1, [(0, 0, 1)]),
  (29, 60, 1, [(2, 83, 0)]),
  (20, 16, 1, [(0, 0, 15)]),
  (20, 60, 1, [(0, 0, 16)]),
  (30, 60, 1, [(2, 86, 0)]),
  (21, 16, 1, [(0, 0, 1)]),
  (21, 10, 1, [(0, 0, 1)]),
  (20, 16, 1, [(0, 0, 3)]),
  (20, 5, 1, [(0, 0, 5)]),
  (29, 5, 1, [(2, 91, 0)]),
  (20, 5, 1, [(0, 0, 9)]),
  (32, 5, 1, [(2, 93, 0)]),
  (30, 5, 1, [(2, 94, 0)]),
  (21, 20, 1, [(0, 0, 1)]),
  (31, 5, 1, [(2, 96, 0)]),
  (29, 5, 1, [(2, 97, 0)]),
  (20, 51, 1, [(0, (-1), 59)]),
  (29, 5, 1, [(2, 99, 0)]),
  (20, 5, 1, [(0, 0, 9)]),
  (31, 5, 1, [(2, 101, 0)]),
  (29, 5, 1, [(2, 102, 0)]),
  (20, 9, 1, [(0, 0, 19)]),
  (20, 9, 1, [(0, 0, 19)]),
  (29, 40, 1, [(2, 105, 0)]),
  (20, 5, 1, [(0, 0, 99)]),
  (22, 400, 1, [(0, 0, 120)]),
  (20, 400, 1, [(0, 0, 19)]),
  (21, 20, 1, [(0, 0, 1)]),
  (23, 1, 1, [(3, 0, 0)]),
  (24, 1, 1, [(4, 0, 0)]),
  (19, 0, 2, [(0, (-2147483648), 2147483647)])]
/-- the rows of the waiting -/
def c_wr : List Nat := [495, 496, 497, 498, 499, 500, 501, 502, 503, 504, 505, 506, 507, 508, 509, 510, 511, 512, 513, 514, 515, 516, 517, 518, 519, 520, 521, 522, 523, 524, 525, 526, 527, 528, 529, 530, 531, 532, 533, 534, 535, 536, 537, 538, 539, 540, 541, 542, 543, 544, 545, 546, 547, 548, 549, 550, 551, 552, 553, 554]
/-- nobody waits twice for a show -/
def c_Ja (h : AH) : Prop := (∃ t, h[494]? = some (t, c_wr.map Value.ref)) ∧ (∃ x, h[555]? = some x) ∧ (∀ a ∈ c_wr, ∃ x, h[a]? = some x) ∧ ∀ (s a : Nat) (t t2 : Nat) (ms ws : List Value) (n : Int32), c_wr[s]? = some a → h[555]? = some (t, ms) → ms[s]? = some (.int n) → h[a]? = some (t2, ws) → ∀ i j : Nat, i < j → (j : Int) < n.toInt → ws[i]? ≠ ws[j]?
/-- no film is left that there is not -/
def c_Jb (h : AH) : Prop := (∃ x, h[365]? = some x) ∧ (∃ x, h[769]? = some x) ∧ ∀ (t t2 : Nat) (ms ls : List Value) (n : Int32) (f : Nat), h[365]? = some (t, ms) → ms[44]? = some (.int n) → h[769]? = some (t2, ls) → ls[f]? = some (.int 1) → (f : Int) < n.toInt
def c_J (h : AH) : Prop := c_Ja h ∧ c_Jb h
def c_K : BH := (fun a => c_gt[a]?, fun g => c_gp[g]?, [(82, 0), (83, 0), (84, 0), (50, 44), (108, 0)], c_J)
theorem c_wr_g : ∀ a ∈ c_wr, c_gt[a]? = some 83 := by decide +kernel
theorem c_gp_w : c_gt[494]? = some 82 ∧ c_gt[555]? = some 84 ∧ (c_gp[82]?).map (fun r => r.2.2.1) = some 1 ∧ (c_gp[83]?).map (fun r => r.2.2.1) = some 1 ∧ (c_gp[84]?).map (fun r => r.2.2.1) = some 1 := by decide +kernel
theorem c_gp_l : c_gt[769]? = some 108 ∧ (c_gp[108]?).map (fun r => r.2.2.1) = some 1 ∧ c_gt[365]? = some 50 ∧ (c_gp[50]?).map (fun r => r.2.2.1) = some 0 := by decide +kernel
theorem c_same {W : BW} {h h' : AH} (hW : ∀ w, w ∈ W → w ∉ c_K.2.2.1) (f : b_frm c_K W h h') {a g t : Nat} {vs : List Value} (hg : c_gt[a]? = some g) (hm : (c_gp[g]?).map (fun r => r.2.2.1) = some 1) (hk : (g, 0) ∈ c_K.2.2.1) (ha : h[a]? = some (t, vs)) : h'[a]? = some (t, vs) := by
  obtain ⟨us, k1, k2, k3⟩ := f a _ ha
  have e : us = vs := by
    apply List.ext_getElem?
    intro j
    refine k3 j (fun w hw q => ?_)
    rw [Option.map_eq_some_iff] at hm
    obtain ⟨row, m1, m2⟩ := hm
    have : b_key c_K a j = some (g, 0) := b_keyA (K := c_K) (row := row) hg m1 (by omega)
    rw [this] at q
    cases q
    exact hW _ hw hk
  rw [k1, e]
theorem c_Ja_up {h : AH} (J : c_Ja h) {a : Nat} {c : AC} (h1 : a < 494) : c_Ja (h.set a c) := by
  obtain ⟨⟨t0, q1⟩, ⟨xB, q2⟩, q3, q4⟩ := J
  have hw : ∀ s b, c_wr[s]? = some b → 494 < b := fun s b e => by
    have := List.all_eq_true.mp (show (c_wr.all fun b => decide (494 < b)) = true by decide +kernel) b (List.mem_of_getElem? e)
    exact of_decide_eq_true this
  refine ⟨⟨t0, by rw [List.getElem?_set_ne (by omega)]; exact q1⟩, ⟨xB, by rw [List.getElem?_set_ne (by omega)]; exact q2⟩, fun b hb => ?_, fun s' b t1 t2 ms ws' n' hs' hB hn hb i j hij hj => ?_⟩
  · obtain ⟨s, e⟩ := List.mem_iff_getElem?.mp hb
    have := hw s b e
    rw [List.getElem?_set_ne (by omega)]
    exact q3 b hb
  · have := hw s' b hs'
    rw [List.getElem?_set_ne (by omega)] at hB hb
    exact q4 s' b t1 t2 ms ws' n' hs' hB hn hb i j hij hj
theorem c_hJ1 : ∀ (W : BW) (h h' : AH), (∀ w, w ∈ W → w ∉ c_K.2.2.1) → b_frm c_K W h h' → c_K.2.2.2 h → c_K.2.2.2 h' := by
  intro W h h' hW f hJ
  obtain ⟨⟨⟨t, h1⟩, ⟨xB, hxB⟩, hr, h2⟩, ⟨⟨xM, hxM⟩, ⟨xL, hxL⟩, h5⟩⟩ := hJ
  obtain ⟨p1, p2, p3, p4, p5⟩ := c_gp_w
  have keep : ∀ {a : Nat} {x : AC}, h[a]? = some x → ∃ y, h'[a]? = some y := fun {a x} q => by
    obtain ⟨us, k1, -⟩ := f a x q
    exact ⟨_, k1⟩
  have back : ∀ {a g t : Nat} {vs : List Value}, c_gt[a]? = some g → (c_gp[g]?).map (fun r => r.2.2.1) = some 1 → (g, 0) ∈ c_K.2.2.1 → (∃ x, h[a]? = some x) → h'[a]? = some (t, vs) → h[a]? = some (t, vs) := by
    intro a g t vs q1 q2 q3 ⟨x, q4⟩ q5
    have := c_same hW f q1 q2 q3 q4
    rw [q5] at this
    rw [q4, this]
  refine ⟨⟨⟨t, c_same hW f p1 p3 (by decide) h1⟩, keep hxB, fun a ha => (hr a ha).elim fun x hx => keep hx, fun s a t1 t2 ms ws n hs hB hn ha => ?_⟩, keep hxM, keep hxL, fun t1 t2 ms ls n f' hM hn hL hl => ?_⟩
  · have hag := c_wr_g a (List.mem_of_getElem? hs)
    exact h2 s a t1 t2 ms ws n hs (back p2 p5 (by decide) ⟨_, hxB⟩ hB) hn (back hag p4 (by decide) (hr a (List.mem_of_getElem? hs)) ha)
  · obtain ⟨l1, l2, l3, l4⟩ := c_gp_l
    obtain ⟨us, k1, k2, k3⟩ := f 365 _ hxM
    rw [k1] at hM
    cases hM
    have k4 := k3 44 (fun w hw q => by
      rw [Option.map_eq_some_iff] at l4
      obtain ⟨row, m1, m2⟩ := l4
      have : b_key c_K 365 44 = some (50, 44) := b_keyF (K := c_K) (row := row) l3 m1 m2
      rw [this] at q
      cases q
      exact hW _ hw (by decide))
    exact h5 xM.1 t2 xM.2 ls n f' hxM (by rw [← k4]; exact hn) (back l1 l2 (by decide) ⟨_, hxL⟩ hL) hl
theorem c_hJ : b_JF c_K := ⟨c_hJ1, fun h a k t vs x y hm ha hx hy J => by
  have hm : (a, k) ∈ b_monL := by simpa using hm
  simp only [b_monL, List.mem_cons, List.not_mem_nil, or_false] at hm
  cases hm
  have J : c_J h := J
  show c_J _
  have lt := (List.getElem?_eq_some_iff.mp ha).1
  have lk := (List.getElem?_eq_some_iff.mp hx).1
  refine ⟨c_Ja_up J.1 (by decide), ?_⟩
  obtain ⟨-, ⟨z, q2⟩, q3⟩ := J.2
  refine ⟨⟨_, List.getElem?_set_self lt⟩, ⟨z, by rw [List.getElem?_set_ne (by decide)]; exact q2⟩, fun t1 t2 ms ls n f e1 e2 e3 e4 => ?_⟩
  rw [List.getElem?_set_self lt] at e1
  cases e1
  rw [List.getElem?_set_self lk] at e2
  cases e2
  rw [List.getElem?_set_ne (by decide)] at e3
  have := q3 t t2 vs ls x f ha hx e3 e4
  omega⟩
end
/-! part 64.rows -/
section
/-! The methods' contracts and cuts, by program (wip/absint.py) -/
def c_r5 : BRw := (5, 1, ([(2, 246, 0), (2, 3, 0)], ([], [], [])), [(36, 0)], [(.inl none, ([], [], []), (0, 0))])
def c_c5 : List BCu := [(2, [some (2, 246, 0), some (2, 3, 0), some (1, 0, 0)], ([(0, 0, 20)], [], []), ([(0, (-2))], 40), none)]
def c_r6 : BRw := (6, 1, ([(2, 246, 0), (3, 0, 0), (1, 1, 0)], ([(24, 0, 0), (0, 0, 19)], [], [])), [], [(.inl (some (1, 2, 0)), ([(0, (-1), 8)], [], []), (0, 0))])
def c_c6 : List BCu := [(2, [some (2, 246, 0), some (3, 0, 0), some (1, 1, 0), some (1, 2, 0)], ([(24, 0, 0), (0, 0, 19), (0, 0, 9)], [], []), ([(2, (-2))], 18), none)]
def c_r7 : BRw := (7, 1, ([(2, 246, 0), (3, 0, 0)], ([(24, 0, 0)], [], [])), [], [(.inl (some (1, 1, 0)), ([(0, (-1), 19)], [], []), (0, 0))])
def c_c7 : List BCu := [(2, [some (2, 246, 0), some (3, 0, 0), some (1, 1, 0)], ([(24, 0, 0), (0, 0, 9)], [], []), ([(1, (-2))], 18), none)]
def c_r19 : BRw := (19, 1, ([(2, 246, 0), (3, 0, 0), (1, 1, 0)], ([(24, 0, 0), (0, 0, 1)], [], [])), [(37, 0), (38, 0), (40, 0)], [(.inl (some (1, 2, 0)), ([(0, 0, 1)], [], []), (0, 0))])
def c_c19 : List BCu := [(13, [some (2, 246, 0), some (3, 0, 0), some (1, 1, 0), some (1, 2, 0), some (1, 3, 0), some (1, 4, 0), none, none], ([(24, 0, 0), (0, 0, 1), (0, (-2147483648), 2147483647), (0, (-1), 19), (0, (-1), 8)], [], []), ([(4, 19)], 19), none), (74, [some (2, 246, 0), some (3, 0, 0), some (1, 1, 0), some (1, 2, 0), some (1, 3, 0), some (1, 4, 0), some (1, 5, 0), some (1, 6, 0)], ([(24, 0, 0), (0, 0, 1), (0, (-2147483648), 2147483647), (0, 0, 19), (0, 0, 8), (0, 0, 19), (0, 0, 8)], [], []), ([(4, 19), (6, (-2))], 17), none)]
def c_r20 : BRw := (20, 1, ([(2, 246, 0)], ([], [], [])), [], [(.inl (some (1, 0, 0)), ([(0, (-1), 19)], [], []), (0, 0))])
def c_c20 : List BCu := [(5, [some (2, 246, 0), some (1, 0, 0), some (1, 1, 0)], ([(0, (-1), 19), (0, (-1), 19)], [], []), ([(1, 2)], 2), none)]
def c_r21 : BRw := (21, 1, ([(2, 246, 0)], ([], [], [])), [], [(.inl (some (1, 0, 0)), ([(0, (-1), 19)], [], []), (0, 0))])
def c_c21 : List BCu := [(2, [some (2, 246, 0), some (1, 0, 0), none, none], ([(0, 0, 20)], [], []), ([(0, (-43))], 860), none), (17, [some (2, 246, 0), some (1, 0, 0), some (1, 1, 0), some (1, 2, 0)], ([(0, 0, 19), (0, 0, 1), (0, 0, 20)], [], []), ([(0, (-43)), (2, (-2))], 858), none)]
def c_r40 : BRw := (40, 1, ([(2, 2, 0), (1, 0, 0)], ([(0, 0, 19)], [], [])), [], [(.inl (some (1, 1, 0)), ([(0, 0, 1)], [], []), (0, 0))])
def c_c40 : List BCu := [(2, [some (2, 2, 0), some (1, 0, 0), some (1, 1, 0)], ([(0, 0, 19), (0, 0, 60)], [], []), ([(1, (-2))], 120), none)]
def c_r54 : BRw := (54, 1, ([(3, 0, 0), (2, 277, 0), (1, 1, 0)], ([(24, 0, 0), (0, 0, 9)], [], [])), [(23, 5), (25, 0)], [(.inl none, ([], [], []), (0, 0))])
def c_c54 : List BCu := [(17, [some (3, 0, 0), some (2, 277, 0), some (1, 1, 0), some (1, 2, 0)], ([(24, 0, 0), (0, 0, 9), (0, 0, 9)], [], []), ([(2, (-2))], 18), none)]
def c_r63 : BRw := (63, 1, ([(2, 218, 0), (1, 0, 0)], ([(0, 0, 19)], [], [])), [], [(.inl (some (1, 1, 0)), ([(0, (-2147483648), 2147483647)], [], []), (0, 0))])
def c_c63 : List BCu := [(4, [some (2, 218, 0), some (1, 0, 0), some (1, 1, 0), some (1, 2, 0)], ([(0, 0, 19), (0, (-2147483648), 2147483647), (0, 0, 8)], [], []), ([(2, (-2))], 16), none)]
def c_r65 : BRw := (65, 1, ([(2, 218, 0), (1, 0, 0)], ([(0, 0, 19)], [], [])), [], [(.inl (some (1, 1, 0)), ([(0, (-2147483648), 2147483647)], [], []), (0, 0))])
def c_c65 : List BCu := [(4, [some (2, 218, 0), some (1, 0, 0), some (1, 1, 0), some (1, 2, 0)], ([(0, 0, 19), (0, (-2147483648), 2147483647), (0, 0, 8)], [], []), ([(2, (-2))], 16), none)]
def c_r78 : BRw := (78, 1, ([(3, 0, 0)], ([(22, 0, 0)], [], [])), [], [(.inl (some (1, 1, 0)), ([(0, (-2147483648), 2147483647)], [], []), (0, 0))])
def c_c78 : List BCu := [(4, [some (3, 0, 0), some (1, 1, 0), some (1, 2, 0)], ([(22, 0, 0), (0, (-2147483648), 2147483647), (0, 0, 5)], [], []), ([(2, (-2))], 10), none)]
def c_r82 : BRw := (82, 1, ([(3, 0, 0), (1, 1, 0)], ([(16, 0, 0), (0, 0, 15)], [], [])), [], [(.inl (some (1, 2, 0)), ([(0, 0, 1)], [], []), (0, 0))])
def c_c82 : List BCu := [(2, [some (3, 0, 0), some (1, 1, 0), some (1, 2, 0)], ([(16, 0, 0), (0, 0, 15), (0, 0, 16)], [], []), ([(2, (-2))], 32), none)]
def c_r84 : BRw := (84, 1, ([(3, 0, 0)], ([(16, 0, 0)], [], [])), [], [(.inl (some (1, 1, 0)), ([(0, (-2147483648), 2147483647)], [], []), (0, 0))])
def c_c84 : List BCu := [(4, [some (3, 0, 0), some (1, 1, 0), some (1, 2, 0)], ([(16, 0, 0), (0, (-2147483648), 2147483647), (0, 0, 16)], [], []), ([(2, (-2))], 32), none)]
def c_r88 : BRw := (88, 1, ([(2, 4, 0), (1, 0, 0), (1, 1, 0), (1, 2, 0)], ([(0, 0, 19), (0, 0, 3), (0, 0, 50)], [], [])), [], [(.inl (some (1, 3, 0)), ([(0, 0, 1)], [], []), (0, 0))])
def c_c88 : List BCu := [(3, [some (2, 4, 0), some (1, 0, 0), some (1, 1, 0), some (1, 2, 0), some (1, 3, 0)], ([(0, 0, 19), (0, 0, 3), (0, 0, 50), (0, 0, 60)], [], []), ([(3, (-2))], 120), none)]
def c_r115 : BRw := (115, 1, ([(2, 1, 0)], ([], [], [])), [], [(.inl (some (1, 0, 0)), ([(0, 0, 50)], [], []), (0, 0))])
def c_c115 : List BCu := []
def c_r127 : BRw := (127, 1, ([(2, 1, 0)], ([], [], [])), [(0, 12)], [(.inl (some (1, 0, 0)), ([(0, 0, 9)], [], []), (0, 0))])
def c_c127 : List BCu := []
def c_r151 : BRw := (151, 1, ([(2, 1, 0), (1, 0, 0), (1, 1, 0), (1, 2, 0)], ([(0, 0, 19), (0, 0, 19), (0, (-2147483648), 2147483647)], [], [])), [(48, 0), (49, 0)], [(.inl none, ([], [], []), (0, 0))])
def c_c151 : List BCu := [(3, [some (2, 1, 0), some (1, 0, 0), some (1, 1, 0), some (1, 2, 0), some (1, 3, 0)], ([(0, 0, 19), (0, 0, 19), (0, (-2147483648), 2147483647), (0, 0, 19)], [], []), ([(3, 2)], 0), none)]
def c_r155 : BRw := (155, 1, ([(2, 1, 0), (1, 0, 0)], ([(0, 0, 4)], [], [])), [], [(.inl (some (1, 1, 0)), ([(0, (-2147483648), 2147483647)], [], []), (0, 0))])
def c_c155 : List BCu := [(4, [some (2, 1, 0), some (1, 0, 0), some (1, 1, 0), some (1, 2, 0)], ([(0, 0, 4), (0, (-2147483648), 2147483647), (0, 0, 20)], [], []), ([(2, (-2))], 40), none)]
def c_r156 : BRw := (156, 1, ([(2, 1, 0), (1, 0, 0)], ([(0, 0, 4)], [], [])), [], [(.inl (some (1, 1, 0)), ([(0, (-2147483648), 2147483647)], [], []), (0, 0))])
def c_c156 : List BCu := [(4, [some (2, 1, 0), some (1, 0, 0), some (1, 1, 0), some (1, 2, 0)], ([(0, 0, 4), (0, (-2147483648), 2147483647), (0, 0, 20)], [], []), ([(2, (-2))], 40), none)]
def c_r157 : BRw := (157, 1, ([(2, 1, 0), (1, 0, 0), (3, 1, 0)], ([(0, 0, 4), (24, 0, 0)], [], [])), [], [(.inl (some (1, 2, 0)), ([(0, (-2147483648), 2147483647)], [], []), (0, 0))])
def c_c157 : List BCu := [(5, [some (2, 1, 0), some (1, 0, 0), some (3, 1, 0), some (1, 2, 0), some (1, 3, 0)], ([(0, 0, 4), (24, 0, 0), (0, (-2147483648), 2147483647), (0, 0, 20)], [], []), ([(3, (-2))], 40), none)]
def c_r158 : BRw := (158, 1, ([(2, 1, 0), (1, 0, 0)], ([(0, 0, 19)], [], [])), [], [(.inl (some (1, 1, 0)), ([(0, 0, 1)], [], []), (0, 0))])
def c_c158 : List BCu := [(2, [some (2, 1, 0), some (1, 0, 0), some (1, 1, 0)], ([(0, 0, 19), (0, 0, 9)], [], []), ([(1, (-2))], 18), none)]
def c_r174a : BRw := (174, 1, ([(2, 365, 0), (1, 0, 0)], ([(0, 0, 19), (0, 1, 8), (0, 0, 7), (66, 0, 0), (0, 0, 100)], [((2, 365, 0), (0, 0, 45), (1, 1, 0)), ((2, 398, 0), (1, 0, 0), (3, 3, 0)), ((3, 3, 0), (1, 2, 0), (1, 4, 0))], [(2, 1, (-1))])), [], [(.inl (some (1, 5, 0)), ([(0, 1, 8)], [], []), (0, 0))])
def c_c174a : List BCu := [(4, [some (2, 365, 0), some (1, 0, 0), some (1, 5, 0), some (1, 6, 0)], ([(0, 0, 19), (0, 1, 8), (0, 0, 7), (66, 0, 0), (0, 0, 100), (0, 0, 7), (0, 0, 7)], [((2, 365, 0), (0, 0, 45), (1, 1, 0)), ((2, 398, 0), (1, 0, 0), (3, 3, 0)), ((3, 3, 0), (1, 2, 0), (1, 4, 0))], [(2, 1, (-1)), (6, 2, 0), (6, 1, (-1)), (5, 6, 0)]), ([(6, (-1))], 8), some (6, 2)), (4, [some (2, 365, 0), some (1, 0, 0), some (1, 5, 0), some (1, 6, 0)], ([(0, 0, 19), (0, 1, 8), (0, 0, 7), (66, 0, 0), (0, 0, 100), (0, 1, 8), (0, 0, 8)], [((2, 365, 0), (0, 0, 45), (1, 1, 0)), ((2, 398, 0), (1, 0, 0), (3, 3, 0)), ((3, 3, 0), (1, 2, 0), (1, 4, 0))], [(2, 1, (-1)), (5, 6, 0)]), ([(6, (-1))], 8), none)]
def c_r174 : BRw := (174, 1, ([(2, 365, 0), (1, 0, 0)], ([(0, 0, 19)], [], [])), [], [(.inl (some (0, 0, 0)), ([], [], []), (0, 0)), (.inl (some (1, 1, 0)), ([(0, 1, 8), (0, 1, 8), (0, 0, 7), (66, 0, 0), (0, 0, 100)], [((2, 365, 0), (0, 0, 45), (1, 2, 0)), ((2, 398, 0), (1, 0, 0), (3, 4, 0)), ((3, 4, 0), (1, 3, 0), (1, 5, 0))], [(3, 2, (-1))]), (0, 0))])
def c_c174 : List BCu := [(4, [some (2, 365, 0), some (1, 0, 0), some (0, 0, 0), some (1, 1, 0)], ([(0, 0, 19), (0, 0, 8)], [], []), ([(1, (-1))], 8), none), (4, [some (2, 365, 0), some (1, 0, 0), some (1, 1, 0), some (1, 2, 0)], ([(0, 0, 19), (0, 1, 8), (0, 0, 8), (0, 1, 8), (0, 0, 7), (66, 0, 0), (0, 0, 100)], [((2, 365, 0), (0, 0, 45), (1, 3, 0)), ((2, 398, 0), (1, 0, 0), (3, 5, 0)), ((3, 5, 0), (1, 4, 0), (1, 6, 0))], [(4, 3, (-1)), (1, 2, 0)]), ([(2, (-1))], 8), none)]
def c_r176 : BRw := (176, 1, ([(2, 365, 0), (1, 0, 0), (1, 1, 0)], ([(0, 0, 19), (0, 0, 7), (0, 1, 20), (66, 0, 0), (0, 0, 100)], [((2, 365, 0), (0, 0, 44), (1, 2, 0)), ((2, 398, 0), (1, 0, 0), (3, 3, 0)), ((3, 3, 0), (1, 1, 0), (1, 4, 0))], [(0, 2, (-1))])), [], [(.inl (some (1, 5, 0)), ([(0, (-2147483648), 2147483647)], [], []), (0, 0))])
def c_c176 : List BCu := [(8, [some (2, 365, 0), some (1, 0, 0), some (1, 1, 0), some (1, 5, 0), some (1, 6, 0), some (1, 7, 0)], ([(0, 0, 19), (0, 0, 7), (0, 1, 20), (66, 0, 0), (0, 0, 100), (0, (-2147483648), 2147483647), (0, 0, 19), (0, 0, 19)], [((2, 365, 0), (0, 0, 44), (1, 2, 0)), ((2, 398, 0), (1, 0, 0), (3, 3, 0)), ((3, 3, 0), (1, 1, 0), (1, 4, 0))], [(0, 2, (-1)), (7, 0, 0), (7, 2, (-1)), (6, 7, 0)]), ([(7, (-1))], 20), some (7, 0)), (8, [some (2, 365, 0), some (1, 0, 0), some (1, 1, 0), some (1, 5, 0), some (1, 6, 0), some (1, 7, 0)], ([(0, 0, 19), (0, 0, 7), (0, 1, 20), (66, 0, 0), (0, 0, 100), (0, (-2147483648), 2147483647), (0, 1, 20), (0, 0, 20)], [((2, 365, 0), (0, 0, 44), (1, 2, 0)), ((2, 398, 0), (1, 0, 0), (3, 3, 0)), ((3, 3, 0), (1, 1, 0), (1, 4, 0))], [(0, 2, (-1)), (6, 7, 0)]), ([(7, (-1))], 20), none)]
def c_r187 : BRw := (187, 1, ([(2, 365, 0), (1, 0, 0)], ([(0, 0, 4)], [], [])), [], [(.inl (some (1, 1, 0)), ([(0, (-2147483648), 2147483647)], [], []), (0, 0))])
def c_c187 : List BCu := [(4, [some (2, 365, 0), some (1, 0, 0), some (1, 1, 0), some (1, 2, 0)], ([(0, 0, 4), (0, (-2147483648), 2147483647), (0, 0, 20)], [], []), ([(2, (-2))], 40), none)]
def c_r217 : BRw := (217, 1, ([(2, 365, 0)], ([], [], [])), [(50, 55)], [(.inl (some (1, 0, 0)), ([(0, 0, 50)], [], []), (0, 0))])
def c_c217 : List BCu := []
def c_r235 : BRw := (235, 1, ([(2, 365, 0)], ([], [], [])), [(50, 51), (50, 55)], [(.inl (some (1, 0, 0)), ([(0, 0, 9)], [], []), (0, 0))])
def c_c235 : List BCu := []
def c_r236 : BRw := (236, 1, ([(2, 365, 0), (1, 0, 0)], ([(0, 0, 4)], [], [])), [], [(.inl (some (1, 1, 0)), ([(0, (-2147483648), 2147483647)], [], []), (0, 0))])
def c_c236 : List BCu := [(4, [some (2, 365, 0), some (1, 0, 0), some (1, 1, 0), some (1, 2, 0)], ([(0, 0, 4), (0, (-2147483648), 2147483647), (0, 0, 5)], [], []), ([(2, (-2))], 10), none)]
def c_r238 : BRw := (238, 1, ([(2, 365, 0), (1, 0, 0), (1, 1, 0)], ([(0, 0, 4), (0, 0, 4)], [], [])), [], [(.inl (some (1, 2, 0)), ([(0, (-1), 19)], [], []), (0, 0))])
def c_c238 : List BCu := [(2, [some (2, 365, 0), some (1, 0, 0), some (1, 1, 0), some (1, 2, 0)], ([(0, 0, 4), (0, 0, 4), (0, 0, 9)], [], []), ([(2, (-2))], 18), none)]
def c_r240 : BRw := (240, 1, ([(2, 365, 0), (1, 0, 0), (1, 1, 0), (1, 2, 0)], ([(0, 0, 4), (0, 0, 4), (0, 0, 19)], [], [])), [], [(.inl (some (1, 3, 0)), ([(0, (-1), 8)], [], []), (0, 0))])
def c_c240 : List BCu := [(6, [some (2, 365, 0), some (1, 0, 0), some (1, 1, 0), some (1, 2, 0), some (1, 3, 0), some (1, 4, 0)], ([(0, 0, 4), (0, 0, 4), (0, 0, 19), (0, (-1), 8), (0, 0, 9)], [], []), ([(4, (-2))], 18), none)]
def c_r255 : BRw := (255, 1, ([(2, 365, 0)], ([], [], [])), [(50, 55)], [(.inl (some (1, 0, 0)), ([(0, 1, 1)], [], []), (0, 0))])
def c_c255 : List BCu := []
def c_r8 : BRw := (8, 2, ([(2, 246, 0), (3, 0, 0), (1, 1, 0)], ([(22, 0, 0), (0, 0, 19)], [], [])), [], [(.inl (some (1, 2, 0)), ([(0, 0, 1)], [], []), (0, 0))])
def c_c8 : List BCu := [(2, [some (2, 246, 0), some (3, 0, 0), some (1, 1, 0), some (1, 2, 0)], ([(22, 0, 0), (0, 0, 19), (0, 0, 5)], [], []), ([(2, (-2))], 10), none)]
def c_r9 : BRw := (9, 2, ([(2, 246, 0), (3, 0, 0), (1, 1, 0)], ([(22, 0, 0), (0, 0, 19)], [], [])), [], [(.inl (some (1, 2, 0)), ([(0, (-2147483648), 2147483647)], [], []), (0, 0))])
def c_c9 : List BCu := [(5, [some (2, 246, 0), some (3, 0, 0), some (1, 1, 0), some (1, 2, 0), some (1, 3, 0)], ([(22, 0, 0), (0, 0, 19), (0, (-2147483648), 2147483647), (0, 0, 5)], [], []), ([(3, (-2))], 10), none)]
def c_r10 : BRw := (10, 2, ([(2, 246, 0), (3, 0, 0), (1, 1, 0)], ([(22, 0, 0), (0, 0, 19)], [], [])), [], [(.inl (some (1, 2, 0)), ([(0, (-2147483648), 2147483647)], [], []), (0, 0))])
def c_c10 : List BCu := [(5, [some (2, 246, 0), some (3, 0, 0), some (1, 1, 0), some (1, 2, 0), some (1, 3, 0), none, none, none], ([(22, 0, 0), (0, 0, 19), (0, (-2147483648), 2147483647), (0, 0, 5)], [], []), ([(3, (-21))], 105), none), (38, [some (2, 246, 0), some (3, 0, 0), some (1, 1, 0), some (1, 2, 0), some (1, 3, 0), some (3, 4, 0), some (1, 5, 0), some (1, 6, 0)], ([(22, 0, 0), (0, 0, 19), (0, (-2147483648), 2147483647), (0, 0, 4), (24, 0, 0), (0, (-1), 8), (0, 0, 9)], [], []), ([(3, (-21)), (6, (-2))], 103), none)]
def c_r14 : BRw := (14, 2, ([(2, 246, 0), (3, 0, 0), (1, 1, 0), (1, 2, 0)], ([(22, 0, 0), (0, 0, 19), (0, 0, 19)], [], [])), [], [(.inl (some (1, 3, 0)), ([(0, (-2147483648), 2147483647)], [], []), (0, 0))])
def c_c14 : List BCu := [(6, [some (2, 246, 0), some (3, 0, 0), some (1, 1, 0), some (1, 2, 0), some (1, 3, 0), some (1, 4, 0), none, none], ([(22, 0, 0), (0, 0, 19), (0, 0, 19), (0, (-2147483648), 2147483647), (0, 0, 5)], [], []), ([(4, (-2))], 10), none)]
def c_r18 : BRw := (18, 2, ([(2, 246, 0), (3, 0, 0), (1, 1, 0)], ([(22, 0, 0), (0, 0, 1)], [], [])), [(37, 0), (38, 0), (40, 0)], [(.inl (some (1, 2, 0)), ([(0, (-2147483648), 2147483647)], [], []), (0, 0))])
def c_c18 : List BCu := [(5, [some (2, 246, 0), some (3, 0, 0), some (1, 1, 0), some (0, 0, 0), some (1, 2, 0), none], ([(22, 0, 0), (0, 0, 1), (0, 0, 20)], [], []), ([(2, (-43))], 871), none), (31, [some (2, 246, 0), some (3, 0, 0), some (1, 1, 0), some (0, 0, 0), some (1, 2, 0), some (1, 3, 0)], ([(22, 0, 0), (0, 0, 1), (0, 0, 19), (0, 0, 20)], [], []), ([(2, (-43)), (3, (-2))], 869), none), (64, [some (2, 246, 0), some (3, 0, 0), some (1, 1, 0), some (1, 2, 0), some (1, 3, 0), none], ([(22, 0, 0), (0, 0, 1), (0, (-2147483648), 2147483647), (0, 0, 5)], [], []), ([(3, (-2))], 10), none)]
def c_r35 : BRw := (35, 2, ([(2, 2, 0), (1, 0, 0), (1, 1, 0), (1, 2, 0)], ([(0, 0, 19), (0, 0, 3), (0, 0, 49)], [], [])), [], [(.inl (some (1, 3, 0)), ([(0, 0, 1)], [], []), (0, 0))])
def c_c35 : List BCu := [(25, [some (2, 2, 0), some (1, 0, 0), some (1, 1, 0), some (1, 2, 0), some (1, 3, 0), some (1, 4, 0), some (1, 5, 0), none], ([(0, 0, 19), (0, 0, 3), (0, 0, 49), (0, 1, 2), (0, (-1), 4), (0, 0, 60)], [], []), ([(5, (-2))], 120), none)]
def c_r38 : BRw := (38, 2, ([(2, 2, 0), (1, 0, 0), (1, 1, 0)], ([(0, 0, 3), (0, 0, 49)], [], [])), [], [(.inl (some (1, 2, 0)), ([(0, (-1), 59)], [], []), (0, 0))])
def c_c38 : List BCu := [(2, [some (2, 2, 0), some (1, 0, 0), some (1, 1, 0), some (1, 2, 0)], ([(0, 0, 3), (0, 0, 49), (0, 0, 60)], [], []), ([(2, (-2))], 120), none)]
def c_r39 : BRw := (39, 2, ([(2, 2, 0), (1, 0, 0)], ([(0, 0, 19)], [], [])), [], [(.inl (some (1, 1, 0)), ([(0, 0, 1)], [], []), (0, 0))])
def c_c39 : List BCu := [(2, [some (2, 2, 0), some (1, 0, 0), some (1, 1, 0)], ([(0, 0, 19), (0, 0, 60)], [], []), ([(1, (-2))], 120), none)]
def c_r41 : BRw := (41, 2, ([(2, 2, 0), (1, 0, 0)], ([(0, 0, 9)], [], [])), [(1, 8), (19, 0)], [(.inl (some (1, 1, 0)), ([(0, 0, 60)], [], []), (0, 0))])
def c_c41 : List BCu := [(7, [some (2, 2, 0), some (1, 0, 0), some (1, 1, 0)], ([(0, 0, 9), (0, 0, 60)], [], []), ([(1, (-2))], 120), none)]
def c_r43 : BRw := (43, 2, ([(2, 2, 0), (1, 0, 0)], ([(0, 0, 19)], [], [])), [(1, 8), (19, 0)], [(.inl (some (1, 1, 0)), ([(0, 0, 60)], [], []), (0, 0))])
def c_c43 : List BCu := [(7, [some (2, 2, 0), some (1, 0, 0), some (1, 1, 0)], ([(0, 0, 19), (0, 0, 60)], [], []), ([(1, (-2))], 120), none)]
def c_r45 : BRw := (45, 2, ([(2, 2, 0), (1, 0, 0)], ([(0, 100, 150)], [], [])), [(11, 2), (11, 3), (12, 0), (13, 0), (15, 4)], [(.inl none, ([], [], []), (0, 0))])
def c_c45 : List BCu := [(2, [some (2, 2, 0), some (1, 0, 0), some (1, 1, 0), none], ([(0, 100, 150), (0, 0, 60)], [], []), ([(1, (-2))], 120), none)]
def c_r47 : BRw := (47, 2, ([(2, 2, 0), (1, 0, 0), (3, 1, 0)], ([(0, 0, 15), (16, 0, 0)], [], [])), [], [(.inl (some (1, 2, 0)), ([(0, 0, 1)], [], []), (0, 0))])
def c_c47 : List BCu := [(2, [some (2, 2, 0), some (1, 0, 0), some (3, 1, 0), some (1, 2, 0), none], ([(0, 0, 15), (16, 0, 0), (0, 0, 60)], [], []), ([(2, (-2))], 120), none)]
def c_r48 : BRw := (48, 2, ([(2, 2, 0)], ([], [], [])), [], [(.inl (some (1, 0, 0)), ([(0, 0, 1)], [], []), (0, 0))])
def c_c48 : List BCu := [(2, [some (2, 2, 0), some (1, 0, 0), none], ([(0, 0, 60)], [], []), ([(0, (-121))], 7260), none), (12, [some (2, 2, 0), some (1, 0, 0), some (1, 1, 0)], ([(0, 0, 59), (0, 0, 59), (0, 1, 60)], [((2, 2, 0), (0, 0, 4), (1, 2, 0))], []), ([(0, (-121)), (1, (-2))], 7258), none)]
def c_r61 : BRw := (61, 2, ([(2, 218, 0), (1, 0, 0), (1, 1, 0)], ([(0, 0, 19), (0, 0, 9)], [], [])), [], [(.inl (some (1, 2, 0)), ([(0, (-2147483648), 2147483647)], [], []), (0, 0))])
def c_c61 : List BCu := [(5, [some (2, 218, 0), some (1, 0, 0), some (1, 1, 0), some (1, 2, 0), some (1, 3, 0)], ([(0, 0, 19), (0, 0, 9), (0, (-2147483648), 2147483647), (0, 0, 8)], [], []), ([(3, (-2))], 16), none)]
def c_r62 : BRw := (62, 2, ([(2, 218, 0), (1, 0, 0), (1, 1, 0)], ([(0, 0, 19), (0, 0, 9)], [], [])), [(28, 0), (32, 0)], [(.inl none, ([], [], []), (0, 0))])
def c_c62 : List BCu := [(5, [some (2, 218, 0), some (1, 0, 0), some (1, 1, 0), some (1, 2, 0), some (1, 3, 0)], ([(0, 0, 19), (0, 0, 9), (0, (-1), 7), (0, 0, 8)], [], []), ([(3, (-2))], 16), none)]
def c_r67 : BRw := (67, 2, ([(2, 218, 0), (1, 0, 0)], ([(0, 0, 19)], [], [])), [], [(.inl (some (1, 1, 0)), ([(0, (-2147483648), 2147483647)], [], []), (0, 0))])
def c_c67 : List BCu := [(7, [some (2, 218, 0), some (1, 0, 0), some (1, 1, 0), some (1, 2, 0), some (1, 3, 0)], ([(0, 0, 19), (0, (-2147483648), 2147483647), (0, (-2147483648), 2147483647), (0, 0, 8)], [], []), ([(3, (-2))], 16), none)]
def c_r68 : BRw := (68, 2, ([(2, 218, 0), (1, 0, 0)], ([(0, 0, 19)], [], [])), [], [(.inl (some (1, 1, 0)), ([(0, (-2147483648), 2147483647)], [], []), (0, 0))])
def c_c68 : List BCu := [(10, [some (2, 218, 0), some (1, 0, 0), some (1, 1, 0), some (1, 2, 0), some (1, 3, 0), some (1, 4, 0), none], ([(0, 0, 19), (0, (-2147483648), 2147483647), (0, (-2147483648), 2147483647), (0, 0, 1), (0, 0, 8)], [], []), ([(4, (-2))], 16), none)]
def c_r72 : BRw := (72, 2, ([(2, 271, 0), (1, 0, 0), (1, 1, 0), (1, 2, 0), (1, 3, 0)], ([(0, 0, 19), (0, 0, 9), (0, 0, 99), (0, 0, 99)], [], [])), [], [(.inl (some (1, 4, 0)), ([(0, 0, 1)], [], []), (0, 0))])
def c_c72 : List BCu := [(3, [some (2, 271, 0), some (1, 0, 0), some (1, 1, 0), some (1, 2, 0), some (1, 3, 0), some (1, 4, 0)], ([(0, 0, 19), (0, 0, 9), (0, 0, 99), (0, 0, 99), (0, 0, 40)], [], []), ([(4, (-2))], 80), none)]
def c_r73 : BRw := (73, 2, ([(2, 271, 0), (1, 0, 0), (1, 1, 0), (1, 2, 0)], ([(0, 0, 19), (0, 0, 9), (0, 0, 99)], [], [])), [], [(.inl (some (1, 3, 0)), ([(0, (-1), 9)], [], []), (0, 0))])
def c_c73 : List BCu := [(3, [some (2, 271, 0), some (1, 0, 0), some (1, 1, 0), some (1, 2, 0), some (1, 3, 0)], ([(0, 0, 19), (0, 0, 9), (0, 0, 99), (0, 0, 40)], [], []), ([(3, (-2))], 80), none)]
def c_r74 : BRw := (74, 2, ([(2, 271, 0)], ([], [], [])), [], [(.inl (some (1, 0, 0)), ([(0, 0, 1)], [], []), (0, 0))])
def c_c74 : List BCu := [(2, [some (2, 271, 0), some (1, 0, 0), none], ([(0, 0, 40)], [], []), ([(0, (-81))], 3240), none), (12, [some (2, 271, 0), some (1, 0, 0), some (1, 1, 0)], ([(0, 0, 39), (0, 0, 39), (0, 1, 40)], [((2, 271, 0), (0, 0, 5), (1, 2, 0))], []), ([(0, (-81)), (1, (-2))], 3238), none)]
def c_r90 : BRw := (90, 2, ([(2, 1, 0), (1, 0, 0), (1, 1, 0), (1, 2, 0)], ([(0, 0, 65535), (0, (-2147483648), 2147483647), (0, (-2147483648), 2147483647)], [], [])), [(0, 4), (3, 0), (3, 1), (3, 2)], [(.inl (some (1, 3, 0)), ([(0, 0, 19)], [], []), (0, 0)), (.inr 1, ([], [], []), (1, 6)), (.inr 2, ([], [], []), (1, 6))])
def c_c90 : List BCu := []
def c_r91 : BRw := (91, 2, ([(2, 1, 0), (1, 0, 0)], ([(0, (-2147483648), 2147483647)], [], [])), [(26, 5), (27, 0)], [(.inl (some (1, 1, 0)), ([(0, 0, 7)], [], []), (0, 0)), (.inr 1, ([], [], []), (1, 6)), (.inr 2, ([], [], []), (1, 6))])
def c_c91 : List BCu := []
def c_r99 : BRw := (99, 2, ([(2, 1, 0), (1, 0, 0), (1, 1, 0), (1, 2, 0), (1, 3, 0), (1, 4, 0)], ([(0, (-2147483648), 2147483647), (0, (-2147483648), 2147483647), (0, (-2147483648), 2147483647), (0, 0, 65535), (0, 0, 65535)], [], [])), [(0, 6), (21, 0), (21, 1), (21, 2), (21, 3), (21, 4)], [(.inl (some (1, 5, 0)), ([(0, 0, 4)], [], []), (0, 0)), (.inr 1, ([], [], []), (1, 6)), (.inr 2, ([], [], []), (1, 6))])
def c_c99 : List BCu := []
def c_r105 : BRw := (105, 2, ([(2, 1, 0), (1, 0, 0), (1, 1, 0)], ([(0, (-2147483648), 2147483647), (0, 0, 1)], [], [])), [(4, 2), (5, 0), (6, 0)], [(.inl (some (1, 2, 0)), ([(0, 0, 3)], [], []), (0, 0)), (.inr 1, ([], [], []), (1, 6)), (.inr 2, ([], [], []), (1, 6))])
def c_c105 : List BCu := []
def c_r114 : BRw := (114, 2, ([(2, 1, 0), (1, 0, 0)], ([(0, (-2147483648), 2147483647)], [], [])), [(1, 5)], [(.inl (some (1, 1, 0)), ([(0, 1, 50)], [], []), (0, 0)), (.inr 1, ([], [], []), (1, 6)), (.inr 2, ([], [], []), (1, 6))])
def c_c114 : List BCu := []
def c_r119 : BRw := (119, 2, ([(2, 1, 0), (1, 0, 0)], ([(0, (-2147483648), 2147483647)], [], [])), [(33, 1), (34, 0)], [(.inl (some (1, 1, 0)), ([(0, 0, 15)], [], []), (0, 0)), (.inr 1, ([], [], []), (1, 6)), (.inr 2, ([], [], []), (1, 6))])
def c_c119 : List BCu := []
def c_r133 : BRw := (133, 2, ([(2, 1, 0), (1, 0, 0), (1, 1, 0)], ([(0, (-2147483648), 2147483647), (0, 0, 1)], [], [])), [], [(.inl (some (1, 2, 0)), ([(0, 0, 150)], [], []), (0, 0)), (.inr 4, ([], [], []), (1, 6))])
def c_c133 : List BCu := []
def c_r134 : BRw := (134, 2, ([(2, 1, 0)], ([], [], [])), [], [(.inl (some (4, 0, 0)), ([], [], []), (0, 0))])
def c_c134 : List BCu := [(6, [some (2, 1, 0), some (4, 0, 0), none, some (1, 0, 0), none], ([(0, 0, 60)], [], []), ([(0, (-2))], 120), none)]
def c_r135 : BRw := (135, 2, ([(2, 1, 0)], ([], [], [])), [], [(.inl (some (5, 0, 0)), ([], [], []), (0, 0)), (.inr 5, ([], [], []), (1, 6))])
def c_c135 : List BCu := [(6, [some (2, 1, 0), some (1, 0, 0), some (1, 1, 0), some (1, 2, 0)], ([(0, (-2147483648), 2147483647), (0, (-2147483648), 2147483647), (0, 0, 20)], [], []), ([(2, (-2))], 40), none)]
def c_r159 : BRw := (159, 2, ([(2, 1, 0), (1, 0, 0), (3, 1, 0)], ([(0, 0, 4), (24, 0, 0)], [], [])), [], [(.inl (some (1, 2, 0)), ([(0, 0, 1)], [], []), (0, 0))])
def c_c159 : List BCu := [(5, [some (2, 1, 0), some (1, 0, 0), some (3, 1, 0), some (1, 2, 0), some (1, 3, 0)], ([(0, 0, 4), (24, 0, 0), (0, (-2147483648), 2147483647), (0, 0, 20)], [], []), ([(3, (-2))], 40), none)]
def c_r160 : BRw := (160, 2, ([(2, 1, 0)], ([], [], [])), [], [(.inl (some (1, 0, 0)), ([(0, 0, 1)], [], []), (0, 0))])
def c_c160 : List BCu := [(2, [some (2, 1, 0), some (1, 0, 0)], ([(0, 0, 5)], [], []), ([(0, (-2))], 10), none)]
def c_r168 : BRw := (168, 2, ([(2, 365, 0), (1, 0, 0), (1, 1, 0), (1, 2, 0)], ([(0, 0, 65535), (0, (-2147483648), 2147483647), (0, (-2147483648), 2147483647)], [], [])), [(50, 44), (50, 55), (51, 0), (52, 0), (53, 0), (54, 0), (55, 0), (65, 0)], [(.inl (some (1, 3, 0)), ([(0, 0, 19)], [], []), (0, 0))])
def c_c168 : List BCu := [(118, [some (2, 365, 0), some (1, 0, 0), some (1, 1, 0), some (1, 2, 0), some (1, 3, 0)], ([(0, 100, 150), (0, 1, 300), (0, 0, 9), (0, 0, 8), (0, 0, 0), (0, 0, 19)], [((2, 365, 0), (0, 0, 55), (1, 4, 0)), ((2, 365, 0), (0, 0, 44), (1, 5, 0))], []), ([(3, (-2))], 16), none)]
def c_r169 : BRw := (169, 2, ([(2, 365, 0), (1, 0, 0)], ([(0, (-2147483648), 2147483647)], [], [])), [(50, 45), (50, 55), (60, 0)], [(.inl (some (1, 1, 0)), ([(0, 0, 7)], [], []), (0, 0))])
def c_c169 : List BCu := []
def c_r178 : BRw := (178, 2, ([(2, 365, 0), (1, 0, 0)], ([(0, 0, 19), (0, 1, 20), (0, 1, 8), (0, 0, 7), (66, 0, 0), (0, 0, 100)], [((2, 365, 0), (0, 0, 44), (1, 1, 0)), ((2, 365, 0), (0, 0, 45), (1, 2, 0)), ((2, 398, 0), (1, 0, 0), (3, 4, 0)), ((3, 4, 0), (1, 3, 0), (1, 5, 0))], [(0, 1, (-1)), (3, 2, (-1))])), [], [(.inl (some (1, 6, 0)), ([(0, (-2147483648), 2147483647)], [], []), (0, 0))])
def c_c178 : List BCu := [(4, [some (2, 365, 0), some (1, 0, 0), some (1, 6, 0), some (1, 7, 0)], ([(0, 0, 19), (0, 1, 20), (0, 1, 8), (0, 0, 7), (66, 0, 0), (0, 0, 100), (0, (-2147483648), 2147483647), (0, 0, 8)], [((2, 365, 0), (0, 0, 44), (1, 1, 0)), ((2, 365, 0), (0, 0, 45), (1, 2, 0)), ((2, 398, 0), (1, 0, 0), (3, 4, 0)), ((3, 4, 0), (1, 3, 0), (1, 5, 0))], [(0, 1, (-1)), (3, 2, (-1))]), ([(7, (-1))], 8), none)]
def c_r180 : BRw := (180, 2, ([(2, 365, 0), (1, 0, 0)], ([(0, 0, 19), (0, 1, 20)], [((2, 365, 0), (0, 0, 44), (1, 1, 0))], [(0, 1, (-1))])), [], [(.inl (some (1, 2, 0)), ([(0, 0, 1)], [], []), (0, 0))])
def c_c180 : List BCu := [(9, [some (2, 365, 0), some (1, 0, 0), some (1, 2, 0), some (1, 3, 0), some (1, 4, 0)], ([(0, 0, 19), (0, 1, 20), (0, (-2147483648), 2147483647), (0, (-2147483648), 2147483647), (0, 0, 8)], [((2, 365, 0), (0, 0, 44), (1, 1, 0))], [(0, 1, (-1))]), ([(4, (-2))], 16), none)]
def c_r185 : BRw := (185, 2, ([(2, 365, 0), (1, 0, 0), (1, 1, 0), (1, 2, 0), (1, 3, 0), (1, 4, 0)], ([(0, (-2147483648), 2147483647), (0, (-2147483648), 2147483647), (0, (-2147483648), 2147483647), (0, 0, 65535), (0, 0, 65535)], [], [])), [(50, 46), (50, 55), (66, 0), (67, 0), (68, 0), (69, 0), (70, 0), (71, 0)], [(.inl (some (1, 5, 0)), ([(0, 0, 4)], [], []), (0, 0))])
def c_c185 : List BCu := []
def c_r195 : BRw := (195, 2, ([(2, 365, 0), (1, 0, 0), (1, 1, 0)], ([(0, (-2147483648), 2147483647), (0, 0, 1)], [], [])), [(50, 47), (50, 55), (73, 0), (74, 0)], [(.inl (some (1, 2, 0)), ([(0, 0, 3)], [], []), (0, 0))])
def c_c195 : List BCu := []
def c_r200 : BRw := (200, 2, ([(2, 365, 0), (1, 0, 0), (1, 1, 0), (1, 2, 0)], ([(0, 0, 19), (0, 0, 3), (0, 0, 50)], [], [])), [], [(.inl (some (1, 3, 0)), ([(0, 0, 1)], [], []), (0, 0))])
def c_c200 : List BCu := [(51, [some (2, 365, 0), some (1, 0, 0), some (1, 1, 0), some (1, 2, 0), some (1, 3, 0), some (1, 4, 0)], ([(0, 0, 19), (0, 0, 3), (0, 0, 50), (0, 0, 1), (0, 0, 60), (0, 1, 150)], [((2, 373, 0), (1, 0, 0), (1, 5, 0))], []), ([(4, (-2))], 120), none)]
def c_r216 : BRw := (216, 2, ([(2, 365, 0), (1, 0, 0)], ([(0, (-2147483648), 2147483647)], [], [])), [(50, 54), (50, 55)], [(.inl (some (1, 1, 0)), ([(0, 0, 50)], [], []), (0, 0))])
def c_c216 : List BCu := []
def c_r224 : BRw := (224, 2, ([(2, 365, 0), (1, 0, 0)], ([(0, (-2147483648), 2147483647)], [], [])), [(50, 50), (50, 55), (88, 0)], [(.inl (some (1, 1, 0)), ([(0, 0, 15)], [], []), (0, 0))])
def c_c224 : List BCu := []
def c_r239 : BRw := (239, 2, ([(2, 365, 0), (1, 0, 0), (1, 1, 0)], ([(0, 0, 4), (0, 0, 19)], [], [])), [], [(.inl (some (1, 2, 0)), ([(0, (-2147483648), 2147483647)], [], []), (0, 0))])
def c_c239 : List BCu := [(5, [some (2, 365, 0), some (1, 0, 0), some (1, 1, 0), some (1, 2, 0), some (1, 3, 0)], ([(0, 0, 4), (0, 0, 19), (0, (-2147483648), 2147483647), (0, 0, 5)], [], []), ([(3, (-2))], 10), none)]
def c_r241 : BRw := (241, 2, ([(2, 365, 0), (1, 0, 0), (1, 1, 0)], ([(0, 0, 4), (0, 0, 19)], [], [])), [], [(.inl (some (1, 2, 0)), ([(0, (-2147483648), 2147483647)], [], []), (0, 0))])
def c_c241 : List BCu := [(5, [some (2, 365, 0), some (1, 0, 0), some (1, 1, 0), some (1, 2, 0), some (1, 3, 0), none, none], ([(0, 0, 4), (0, 0, 19), (0, (-2147483648), 2147483647), (0, 0, 5)], [], []), ([(3, (-21))], 105), none), (32, [some (2, 365, 0), some (1, 0, 0), some (1, 1, 0), some (1, 2, 0), some (1, 3, 0), some (1, 4, 0), some (1, 5, 0)], ([(0, 0, 4), (0, 0, 19), (0, (-2147483648), 2147483647), (0, 0, 4), (0, (-1), 8), (0, 0, 9), (0, 1, 5)], [((2, 619, 0), (1, 0, 0), (1, 6, 0))], []), ([(3, (-21)), (5, (-2))], 103), none)]
def c_r242 : BRw := (242, 2, ([(2, 365, 0), (1, 0, 0), (1, 1, 0), (1, 2, 0)], ([(0, 0, 4), (0, 0, 19), (0, 0, 19)], [], [])), [], [(.inl (some (1, 3, 0)), ([(0, 0, 1)], [], []), (0, 0))])
def c_c242 : List BCu := [(6, [some (2, 365, 0), some (1, 0, 0), some (1, 1, 0), some (1, 2, 0), some (1, 3, 0), some (1, 4, 0), none, none], ([(0, 0, 4), (0, 0, 19), (0, 0, 19), (0, (-2147483648), 2147483647), (0, 0, 5)], [], []), ([(4, (-2))], 10), none)]
def c_r251 : BRw := (251, 2, ([(2, 365, 0), (1, 0, 0), (1, 1, 0)], ([(0, (-2147483648), 2147483647), (0, 0, 1)], [], [])), [(50, 55)], [(.inl (some (1, 2, 0)), ([(0, 0, 120)], [], []), (0, 0))])
def c_c251 : List BCu := []
def c_r253 : BRw := (253, 2, ([(2, 365, 0)], ([], [], [])), [(50, 55)], [(.inl (some (5, 0, 0)), ([], [], []), (0, 0))])
def c_c253 : List BCu := [(6, [some (2, 365, 0), some (1, 0, 0), some (1, 1, 0), some (1, 2, 0), none, none], ([(0, (-2147483648), 2147483647), (0, (-2147483648), 2147483647), (0, 0, 20)], [], []), ([(2, (-123))], 2460), none), (20, [some (2, 365, 0), some (1, 0, 0), some (1, 1, 0), some (1, 2, 0), some (1, 3, 0), some (1, 4, 0)], ([(0, (-2147483648), 2147483647), (0, (-2147483648), 2147483647), (0, 0, 19), (0, 0, 1), (0, 0, 60), (0, 1, 20)], [((2, 365, 0), (0, 0, 44), (1, 5, 0))], []), ([(2, (-123)), (4, (-2))], 2458), none)]
def c_r11 : BRw := (11, 3, ([(2, 246, 0), (3, 0, 0), (1, 1, 0)], ([(22, 0, 0), (0, 0, 1)], [], [])), [], [(.inl (some (1, 2, 0)), ([(0, (-1), 19)], [], []), (0, 0))])
def c_c11 : List BCu := [(8, [some (2, 246, 0), some (3, 0, 0), some (1, 1, 0), some (1, 2, 0), some (1, 3, 0), some (1, 4, 0), none], ([(22, 0, 0), (0, 0, 1), (0, (-1), 19), (0, (-1), 2147483647), (0, 0, 20)], [], []), ([(4, (-2))], 40), none)]
def c_r13 : BRw := (13, 3, ([(2, 246, 0), (3, 0, 0), (1, 1, 0)], ([(22, 0, 0), (0, 0, 19)], [], [])), [], [(.inl (some (1, 2, 0)), ([(0, 0, 1)], [], []), (0, 0))])
def c_c13 : List BCu := [(2, [some (2, 246, 0), some (3, 0, 0), some (1, 1, 0), some (1, 2, 0)], ([(22, 0, 0), (0, 0, 19), (0, 0, 20)], [], []), ([(2, (-2))], 40), none)]
def c_r16 : BRw := (16, 3, ([(2, 246, 0), (3, 0, 0)], ([(22, 0, 0)], [], [])), [], [(.inl (some (1, 1, 0)), ([(0, 0, 19)], [], []), (0, 0))])
def c_c16 : List BCu := [(8, [some (2, 246, 0), some (3, 0, 0), some (1, 1, 0), some (1, 2, 0), some (1, 3, 0)], ([(22, 0, 0), (0, 0, 19), (0, (-2147483648), 2147483647), (0, 0, 20)], [], []), ([(3, (-2))], 40), none)]
def c_r22 : BRw := (22, 3, ([(2, 246, 0), (3, 0, 0)], ([(22, 0, 0)], [], [])), [(36, 0), (37, 0), (38, 0), (40, 0)], [(.inl (some (1, 1, 0)), ([(0, (-1), 19)], [], []), (0, 0))])
def c_c22 : List BCu := [(2, [some (2, 246, 0), some (3, 0, 0), some (1, 1, 0), none, none, none, none], ([(22, 0, 0), (0, 0, 20)], [], []), ([(1, (-43))], 860), none), (50, [some (2, 246, 0), some (3, 0, 0), some (1, 1, 0), some (1, 2, 0), some (1, 3, 0), some (1, 4, 0), some (1, 5, 0)], ([(22, 0, 0), (0, 0, 19), (0, (-2147483648), 2147483647), (0, 0, 19), (0, 0, 19), (0, 0, 20)], [], []), ([(1, (-43)), (5, (-2))], 858), none)]
def c_r33 : BRw := (33, 3, ([(2, 2, 0), (1, 0, 0), (1, 1, 0), (1, 2, 0), (1, 3, 0)], ([(0, 0, 19), (0, 0, 3), (0, 0, 49), (0, 0, 49)], [], [])), [], [(.inl (some (1, 4, 0)), ([(0, 0, 1)], [], []), (0, 0))])
def c_c33 : List BCu := [(16, [some (2, 2, 0), some (1, 0, 0), some (1, 1, 0), some (1, 2, 0), some (1, 3, 0), some (1, 4, 0), some (1, 5, 0)], ([(0, 0, 19), (0, 0, 3), (0, 0, 49), (0, 0, 49), (0, 1, 51), (0, 0, 51)], [], []), ([(5, (-2))], 102), none)]
def c_r50 : BRw := (50, 3, ([(2, 2, 0), (1, 0, 0)], ([(0, 0, 16)], [], [])), [], [(.inl (some (1, 1, 0)), ([(0, 0, 1)], [], []), (0, 0))])
def c_c50 : List BCu := [(2, [some (2, 2, 0), some (1, 0, 0), some (1, 1, 0), none], ([(0, 0, 16), (0, 0, 60)], [], []), ([(1, (-35))], 2100), none), (43, [some (2, 2, 0), some (1, 0, 0), some (1, 1, 0), some (1, 2, 0)], ([(0, 0, 16), (0, 0, 59), (0, 0, 16), (0, 1, 60)], [((2, 2, 0), (0, 0, 4), (1, 3, 0))], []), ([(1, (-35)), (2, (-2))], 2098), none)]
def c_r57 : BRw := (57, 3, ([(2, 244, 0), (2, 2, 0), (3, 0, 0), (1, 1, 0)], ([(16, 0, 0), (0, 0, 9)], [], [])), [(17, 0)], [(.inl (some (1, 2, 0)), ([(0, 0, 9)], [], []), (0, 0))])
def c_c57 : List BCu := [(6, [some (2, 244, 0), some (2, 2, 0), some (3, 0, 0), some (1, 1, 0), some (1, 2, 0), some (1, 3, 0), none, none], ([(16, 0, 0), (0, 0, 9), (0, 0, 9), (0, 0, 4)], [], []), ([(3, (-35))], 140), none), (15, [some (2, 244, 0), some (2, 2, 0), some (3, 0, 0), some (1, 1, 0), some (1, 2, 0), some (1, 3, 0), some (1, 4, 0), none], ([(16, 0, 0), (0, 0, 9), (0, 0, 9), (0, 0, 3), (0, 0, 16)], [], []), ([(3, (-35)), (4, (-2))], 138), none)]
def c_r136 : BRw := (136, 3, ([(2, 1, 0)], ([], [], [])), [], [(.inl (some (6, 0, 0)), ([], [], []), (0, 0)), (.inr 5, ([], [], []), (1, 6))])
def c_c136 : List BCu := [(6, [some (2, 1, 0), some (1, 0, 0), some (1, 1, 0), some (1, 2, 0)], ([(0, (-2147483648), 2147483647), (0, (-2147483648), 2147483647), (0, 0, 20)], [], []), ([(2, (-2))], 40), none)]
def c_r152 : BRw := (152, 3, ([(2, 1, 0)], ([], [], [])), [(48, 0), (49, 0)], [(.inl (some (1, 0, 0)), ([(0, 0, 20)], [], []), (0, 0))])
def c_c152 : List BCu := [(4, [some (2, 1, 0), some (1, 0, 0), some (1, 1, 0)], ([(0, 0, 20), (0, 0, 20)], [], [(0, 1, 0)]), ([(1, (-2))], 40), none)]
def c_r153 : BRw := (153, 3, ([(2, 1, 0), (1, 0, 0)], ([(0, 0, 4)], [], [])), [(48, 0), (49, 0)], [(.inl (some (1, 1, 0)), ([(0, 0, 20)], [], []), (0, 0))])
def c_c153 : List BCu := [(4, [some (2, 1, 0), some (1, 0, 0), some (1, 1, 0), some (1, 2, 0)], ([(0, 0, 4), (0, 0, 20), (0, 0, 20)], [], [(1, 2, 0)]), ([(2, (-2))], 40), none)]
def c_r171 : BRw := (171, 3, ([(2, 365, 0), (1, 0, 0), (1, 1, 0)], ([(0, (-2147483648), 2147483647), (0, (-2147483648), 2147483647)], [], [])), [(50, 55), (61, 0), (63, 0)], [(.inl (some (1, 2, 0)), ([(0, 0, 8)], [], []), (0, 0))])
def c_r179 : BRw := (179, 3, ([(2, 365, 0), (1, 0, 0)], ([(0, (-2147483648), 2147483647)], [], [])), [(50, 55)], [(.inl (some (1, 1, 0)), ([(0, (-2147483648), 2147483647)], [], []), (0, 0))])
def c_c179 : List BCu := []
def c_r181 : BRw := (181, 3, ([(2, 365, 0), (1, 0, 0)], ([(0, (-2147483648), 2147483647)], [], [])), [(50, 55)], [(.inl (some (1, 1, 0)), ([(0, 0, 1)], [], []), (0, 0))])
def c_c181 : List BCu := []
def c_r184 : BRw := (184, 3, ([(2, 365, 0), (1, 0, 0), (1, 1, 0)], ([(0, (-2147483648), 2147483647), (0, 0, 65535)], [], [])), [(50, 55), (54, 0)], [(.inl (some (1, 2, 0)), ([(0, 32, 116)], [], []), (0, 0))])
def c_c184 : List BCu := []
def c_r191 : BRw := (191, 3, ([(2, 365, 0), (1, 0, 0)], ([(0, (-2147483648), 2147483647)], [], [])), [(50, 55)], [(.inl (some (1, 1, 0)), ([(0, 0, 4)], [], []), (0, 0))])
def c_c191 : List BCu := []
def c_r192 : BRw := (192, 3, ([(2, 365, 0), (1, 0, 0)], ([(0, (-2147483648), 2147483647)], [], [])), [(50, 55)], [(.inl (some (1, 1, 0)), ([(0, (-2147483648), 2147483647)], [], []), (0, 0))])
def c_c192 : List BCu := []
def c_r193 : BRw := (193, 3, ([(2, 365, 0), (1, 0, 0)], ([(0, (-2147483648), 2147483647)], [], [])), [(50, 53), (50, 55), (56, 0), (106, 0), (107, 0)], [(.inl (some (1, 1, 0)), ([(0, 32, 119)], [], []), (0, 0))])
def c_c193 : List BCu := []
def c_r194 : BRw := (194, 3, ([(2, 365, 0), (1, 0, 0)], ([(0, (-2147483648), 2147483647)], [], [])), [(50, 55)], [(.inl (some (1, 1, 0)), ([(0, 0, 1)], [], []), (0, 0))])
def c_c194 : List BCu := []
def c_r198 : BRw := (198, 3, ([(2, 365, 0), (1, 0, 0), (1, 1, 0), (1, 2, 0)], ([(0, (-2147483648), 2147483647), (0, 0, 65535), (0, (-2147483648), 2147483647)], [], [])), [(50, 55), (58, 0), (59, 0)], [(.inl (some (1, 3, 0)), ([(0, 0, 1)], [], []), (0, 0))])
def c_c198 : List BCu := []
def c_r199 : BRw := (199, 3, ([(2, 365, 0), (1, 0, 0), (1, 1, 0), (1, 2, 0), (1, 3, 0)], ([(0, (-2147483648), 2147483647), (0, (-2147483648), 2147483647), (0, (-2147483648), 2147483647), (0, (-2147483648), 2147483647)], [], [])), [(50, 48), (50, 55), (76, 0)], [(.inl (some (1, 4, 0)), ([(0, 0, 60)], [], []), (0, 0)), (.inl (some (1, 4, 0)), ([(0, 0, 60)], [], []), (1, 4))])
def c_r201 : BRw := (201, 3, ([(2, 365, 0), (1, 0, 0), (1, 1, 0), (1, 2, 0)], ([(0, (-2147483648), 2147483647), (0, (-2147483648), 2147483647), (0, (-2147483648), 2147483647)], [], [])), [(50, 55)], [(.inl (some (1, 3, 0)), ([(0, 0, 1)], [], []), (0, 0))])
def c_c201 : List BCu := []
def c_r213 : BRw := (213, 3, ([(2, 365, 0), (1, 0, 0), (1, 1, 0)], ([(0, (-2147483648), 2147483647), (0, 0, 65535)], [], [])), [(50, 55)], [(.inl (some (1, 2, 0)), ([(0, 0, 49)], [], []), (0, 0))])
def c_c213 : List BCu := []
def c_r229 : BRw := (229, 3, ([(2, 365, 0), (1, 0, 0), (1, 1, 0)], ([(0, (-2147483648), 2147483647), (0, (-2147483648), 2147483647)], [], [])), [(50, 55)], [(.inl (some (1, 2, 0)), ([(0, 0, 1)], [], []), (0, 0))])
def c_c229 : List BCu := []
def c_r230 : BRw := (230, 3, ([(2, 365, 0), (1, 0, 0), (1, 1, 0)], ([(0, (-2147483648), 2147483647), (0, (-2147483648), 2147483647)], [], [])), [(50, 55), (89, 0), (91, 0), (97, 0)], [(.inl (some (1, 2, 0)), ([(0, 0, 4)], [], []), (0, 0))])
def c_c230 : List BCu := [(80, [some (2, 365, 0), some (1, 0, 0), some (1, 1, 0), some (1, 2, 0), some (1, 3, 0)], ([(0, 0, 4), (0, 0, 9), (0, 0, 4), (0, 0, 51), (0, 0, 0), (0, 0, 4), (0, 1, 5)], [((2, 365, 0), (0, 0, 55), (1, 4, 0)), ((2, 619, 0), (1, 0, 0), (1, 5, 0)), ((2, 365, 0), (0, 0, 46), (1, 6, 0))], []), ([(3, (-2))], 102), none)]
def c_r231 : BRw := (231, 3, ([(2, 365, 0), (1, 0, 0), (1, 1, 0)], ([(0, (-2147483648), 2147483647), (0, 0, 65535)], [], [])), [(50, 55), (71, 0)], [(.inl (some (1, 2, 0)), ([(0, 0, 150)], [], []), (0, 0))])
def c_c231 : List BCu := []
def c_r234 : BRw := (234, 3, ([(2, 365, 0), (1, 0, 0)], ([(0, (-2147483648), 2147483647)], [], [])), [(50, 51), (50, 55), (103, 0)], [(.inl (some (1, 1, 0)), ([(0, 0, 9)], [], []), (0, 0))])
def c_c234 : List BCu := []
def c_r243 : BRw := (243, 3, ([(2, 365, 0), (1, 0, 0), (1, 1, 0)], ([(0, 0, 4), (0, 0, 1)], [], [])), [], [(.inl (some (1, 2, 0)), ([(0, (-1), 19)], [], []), (0, 0))])
def c_c243 : List BCu := [(5, [some (2, 365, 0), some (1, 0, 0), some (1, 1, 0), some (1, 2, 0), some (1, 3, 0), none, none], ([(0, 0, 4), (0, 0, 1), (0, (-1), 19), (0, 0, 20)], [], []), ([(3, (-2))], 40), none)]
def c_r245 : BRw := (245, 3, ([(2, 365, 0), (1, 0, 0)], ([(0, 0, 4)], [], [])), [(108, 0)], [(.inl (some (1, 1, 0)), ([(0, 0, 19)], [], []), (0, 0))])
def c_r249 : BRw := (249, 3, ([(2, 365, 0), (1, 0, 0), (1, 1, 0), (1, 2, 0), (1, 3, 0), (1, 4, 0)], ([(0, (-2147483648), 2147483647), (0, (-2147483648), 2147483647), (0, (-2147483648), 2147483647), (0, (-2147483648), 2147483647), (0, (-2147483648), 2147483647)], [], [])), [(50, 52), (50, 53), (50, 55), (105, 0), (106, 0), (107, 0)], [(.inl (some (1, 5, 0)), ([(0, 0, 40)], [], []), (0, 0)), (.inl (some (1, 5, 0)), ([(0, 0, 40)], [], []), (1, 5))])
def c_r250 : BRw := (250, 3, ([(2, 365, 0), (1, 0, 0), (1, 1, 0), (1, 2, 0)], ([(0, (-2147483648), 2147483647), (0, (-2147483648), 2147483647), (0, (-2147483648), 2147483647)], [], [])), [(50, 55)], [(.inl (some (1, 3, 0)), ([(0, 0, 99)], [], []), (0, 0))])
def c_c250 : List BCu := [(54, [some (2, 365, 0), some (1, 0, 0), some (1, 1, 0), some (1, 2, 0), some (1, 3, 0), some (1, 4, 0), none], ([(0, 0, 19), (0, 0, 9), (0, 0, 99), (0, (-1), 99), (0, 0, 40), (0, 0, 0), (0, 1, 20)], [((2, 365, 0), (0, 0, 55), (1, 5, 0)), ((2, 365, 0), (0, 0, 44), (1, 6, 0))], []), ([(4, (-2))], 80), none)]
def c_r254 : BRw := (254, 3, ([(2, 365, 0)], ([], [], [])), [(50, 55)], [(.inl (some (6, 0, 0)), ([], [], []), (0, 0))])
def c_c254 : List BCu := [(6, [some (2, 365, 0), some (1, 0, 0), some (1, 1, 0), some (1, 2, 0)], ([(0, (-2147483648), 2147483647), (0, (-2147483648), 2147483647), (0, 0, 20)], [], []), ([(2, (-2))], 40), none)]
def c_r256 : BRw := (256, 3, ([(2, 1, 0), (1, 0, 0), (1, 1, 0), (1, 2, 0), (2, 770, 0)], ([(0, 0, 65535), (0, (-2147483648), 2147483647), (0, (-2147483648), 2147483647)], [], [])), [(0, 4), (3, 0), (3, 1), (3, 2), (109, 0)], [(.inl (some (1, 3, 0)), ([(0, 0, 0)], [], []), (0, 0)), (.inl (some (1, 3, 0)), ([(0, 1, 2)], [], []), (1, 6))])
def c_c256 : List BCu := []
def c_r257 : BRw := (257, 3, ([(2, 1, 0), (1, 0, 0), (2, 770, 0)], ([(0, (-2147483648), 2147483647)], [], [])), [(26, 5), (27, 0), (109, 0)], [(.inl (some (1, 1, 0)), ([(0, 0, 0)], [], []), (0, 0)), (.inl (some (1, 1, 0)), ([(0, 1, 2)], [], []), (1, 6))])
def c_c257 : List BCu := []
def c_r265 : BRw := (265, 3, ([(2, 1, 0), (1, 0, 0), (1, 1, 0), (1, 2, 0), (1, 3, 0), (1, 4, 0), (2, 770, 0)], ([(0, (-2147483648), 2147483647), (0, (-2147483648), 2147483647), (0, (-2147483648), 2147483647), (0, 0, 65535), (0, 0, 65535)], [], [])), [(0, 6), (21, 0), (21, 1), (21, 2), (21, 3), (21, 4), (109, 0)], [(.inl (some (1, 5, 0)), ([(0, 0, 0)], [], []), (0, 0)), (.inl (some (1, 5, 0)), ([(0, 1, 2)], [], []), (1, 6))])
def c_c265 : List BCu := []
def c_r271 : BRw := (271, 3, ([(2, 1, 0), (1, 0, 0), (1, 1, 0), (2, 770, 0)], ([(0, (-2147483648), 2147483647), (0, 0, 1)], [], [])), [(4, 2), (5, 0), (6, 0), (109, 0)], [(.inl (some (1, 2, 0)), ([(0, 0, 0)], [], []), (0, 0)), (.inl (some (1, 2, 0)), ([(0, 1, 2)], [], []), (1, 6))])
def c_c271 : List BCu := []
def c_r280 : BRw := (280, 3, ([(2, 1, 0), (1, 0, 0), (2, 770, 0)], ([(0, (-2147483648), 2147483647)], [], [])), [(1, 5), (109, 0)], [(.inl (some (1, 1, 0)), ([(0, 0, 0)], [], []), (0, 0)), (.inl (some (1, 1, 0)), ([(0, 1, 2)], [], []), (1, 6))])
def c_c280 : List BCu := []
def c_r284 : BRw := (284, 3, ([(2, 1, 0), (1, 0, 0), (2, 770, 0)], ([(0, (-2147483648), 2147483647)], [], [])), [(33, 1), (34, 0), (109, 0)], [(.inl (some (1, 1, 0)), ([(0, 0, 0)], [], []), (0, 0)), (.inl (some (1, 1, 0)), ([(0, 1, 2)], [], []), (1, 6))])
def c_c284 : List BCu := []
def c_r297 : BRw := (297, 3, ([(2, 1, 0), (1, 0, 0), (1, 1, 0), (2, 770, 0)], ([(0, (-2147483648), 2147483647), (0, 0, 1)], [], [])), [(109, 0)], [(.inl (some (1, 2, 0)), ([(0, 0, 0)], [], []), (0, 0)), (.inl (some (1, 2, 0)), ([(0, 1, 1)], [], []), (1, 6))])
def c_c297 : List BCu := []
def c_r298 : BRw := (298, 3, ([(2, 1, 0), (2, 771, 0)], ([], [], [])), [(110, 0)], [(.inl (some (1, 0, 0)), ([(0, 0, 0)], [], []), (0, 0)), (.inl (some (1, 0, 0)), ([(0, 1, 1)], [], []), (1, 6))])
def c_c298 : List BCu := []
def c_r12 : BRw := (12, 4, ([(2, 246, 0), (3, 0, 0)], ([(22, 0, 0)], [], [])), [], [(.inl (some (1, 1, 0)), ([(0, (-1), 19)], [], []), (0, 0))])
def c_c12 : List BCu := [(2, [some (2, 246, 0), some (3, 0, 0), some (1, 1, 0)], ([(22, 0, 0), (0, 0, 20)], [], []), ([(1, (-2))], 40), none)]
def c_r15 : BRw := (15, 4, ([(2, 246, 0), (3, 0, 0)], ([(22, 0, 0)], [], [])), [(36, 0)], [(.inl (some (1, 1, 0)), ([(0, (-1), 19)], [], []), (0, 0))])
def c_c15 : List BCu := [(2, [some (2, 246, 0), some (3, 0, 0), some (1, 1, 0), none, none], ([(22, 0, 0), (0, 0, 20)], [], []), ([(1, (-13))], 260), none), (13, [some (2, 246, 0), some (3, 0, 0), some (1, 1, 0), some (1, 2, 0), some (1, 3, 0)], ([(22, 0, 0), (0, 0, 19), (0, (-2147483648), 2147483647), (0, 0, 5)], [], []), ([(1, (-13)), (3, (-2))], 258), none)]
def c_r42 : BRw := (42, 4, ([(2, 2, 0), (1, 0, 0), (1, 1, 0)], ([(0, 0, 19), (0, 1, 49)], [], [])), [(1, 8), (19, 0)], [(.inl (some (1, 2, 0)), ([(0, 0, 60)], [], []), (0, 0))])
def c_c42 : List BCu := [(7, [some (2, 2, 0), some (1, 0, 0), some (1, 1, 0), some (1, 2, 0), none], ([(0, 0, 19), (0, 1, 49), (0, 0, 60)], [], []), ([(2, (-2))], 120), none)]
def c_r92 : BRw := (92, 4, ([(2, 1, 0), (1, 0, 0), (1, 1, 0)], ([(0, (-2147483648), 2147483647), (0, (-2147483648), 2147483647)], [], [])), [(28, 0), (32, 0)], [(.inl (some (1, 2, 0)), ([(0, (-2147483648), 2147483647)], [], []), (0, 0)), (.inr 0, ([], [], []), (1, 6)), (.inr 1, ([], [], []), (1, 6)), (.inr 3, ([], [], []), (1, 6))])
def c_c92 : List BCu := [(61, [some (2, 1, 0), some (1, 0, 0), some (1, 1, 0), some (1, 2, 0), some (1, 3, 0)], ([(0, 0, 19), (0, 1, 8), (0, 0, 9), (0, 0, 8), (0, 1, 20)], [((2, 1, 0), (0, 0, 4), (1, 4, 0))], []), ([(3, (-2))], 16), none)]
def c_r93 : BRw := (93, 4, ([(2, 1, 0), (1, 0, 0), (1, 1, 0)], ([(0, (-2147483648), 2147483647), (0, (-2147483648), 2147483647)], [], [])), [], [(.inl (some (1, 2, 0)), ([(0, 0, 1)], [], []), (0, 0)), (.inr 0, ([], [], []), (1, 6))])
def c_c93 : List BCu := []
def c_r94 : BRw := (94, 4, ([(2, 1, 0), (1, 0, 0), (1, 1, 0), (1, 2, 0)], ([(0, (-2147483648), 2147483647), (0, (-2147483648), 2147483647), (0, (-2147483648), 2147483647)], [], [])), [(29, 0), (30, 0), (32, 0)], [(.inl (some (1, 3, 0)), ([(0, (-2147483648), 2147483647)], [], []), (0, 0)), (.inr 0, ([], [], []), (1, 6)), (.inr 1, ([], [], []), (1, 6)), (.inr 3, ([], [], []), (1, 6))])
def c_c94 : List BCu := []
def c_r95 : BRw := (95, 4, ([(2, 1, 0), (1, 0, 0), (1, 1, 0)], ([(0, (-2147483648), 2147483647), (0, (-2147483648), 2147483647)], [], [])), [], [(.inl (some (1, 2, 0)), ([(0, (-2147483648), 2147483647)], [], []), (0, 0)), (.inr 0, ([], [], []), (1, 6)), (.inr 4, ([], [], []), (1, 6))])
def c_c95 : List BCu := []
def c_r96 : BRw := (96, 4, ([(2, 1, 0), (1, 0, 0)], ([(0, (-2147483648), 2147483647)], [], [])), [], [(.inl (some (1, 1, 0)), ([(0, (-2147483648), 2147483647)], [], []), (0, 0)), (.inr 0, ([], [], []), (1, 6)), (.inr 4, ([], [], []), (1, 6))])
def c_c96 : List BCu := []
def c_r97 : BRw := (97, 4, ([(2, 1, 0), (1, 0, 0)], ([(0, (-2147483648), 2147483647)], [], [])), [], [(.inl (some (1, 1, 0)), ([(0, 0, 1)], [], []), (0, 0)), (.inr 0, ([], [], []), (1, 6))])
def c_c97 : List BCu := []
def c_r98 : BRw := (98, 4, ([(2, 1, 0), (1, 0, 0), (1, 1, 0)], ([(0, (-2147483648), 2147483647), (0, 0, 65535)], [], [])), [(3, 5)], [(.inl (some (1, 2, 0)), ([(0, 45, 116)], [], []), (0, 0)), (.inr 0, ([], [], []), (1, 6)), (.inr 1, ([], [], []), (1, 6))])
def c_c98 : List BCu := []
def c_r100 : BRw := (100, 4, ([(2, 1, 0), (1, 0, 0)], ([(0, (-2147483648), 2147483647)], [], [])), [(3, 3), (3, 6), (11, 2), (11, 3), (12, 0), (13, 0), (48, 0), (49, 0)], [(.inl (some (1, 1, 0)), ([(0, (-2147483648), 2147483647)], [], []), (0, 0)), (.inr 0, ([], [], []), (1, 6))])
def c_c100 : List BCu := [(15, [some (2, 1, 0), some (1, 0, 0), some (1, 1, 0), some (1, 2, 0), some (1, 3, 0), none], ([(0, 0, 4), (0, 0, 20), (0, (-2147483648), 2147483647), (0, 0, 20), (0, 1, 5)], [((2, 1, 0), (0, 0, 6), (1, 4, 0))], []), ([(3, (-2))], 40), none)]
def c_r101 : BRw := (101, 4, ([(2, 1, 0), (1, 0, 0)], ([(0, (-2147483648), 2147483647)], [], [])), [], [(.inl (some (1, 1, 0)), ([(0, 0, 4)], [], []), (0, 0)), (.inr 0, ([], [], []), (1, 6)), (.inr 4, ([], [], []), (1, 6))])
def c_c101 : List BCu := []
def c_r102 : BRw := (102, 4, ([(2, 1, 0), (1, 0, 0)], ([(0, (-2147483648), 2147483647)], [], [])), [], [(.inl (some (1, 1, 0)), ([(0, (-2147483648), 2147483647)], [], []), (0, 0)), (.inr 0, ([], [], []), (1, 6))])
def c_c102 : List BCu := []
def c_r103 : BRw := (103, 4, ([(2, 1, 0), (1, 0, 0)], ([(0, (-2147483648), 2147483647)], [], [])), [(3, 6), (11, 2), (11, 3), (12, 0), (13, 0)], [(.inl (some (1, 1, 0)), ([(0, 108, 119)], [], []), (0, 0)), (.inr 0, ([], [], []), (1, 6)), (.inr 3, ([], [], []), (1, 6))])
def c_c103 : List BCu := []
def c_r104 : BRw := (104, 4, ([(2, 1, 0), (1, 0, 0)], ([(0, (-2147483648), 2147483647)], [], [])), [], [(.inl (some (1, 1, 0)), ([(0, 0, 1)], [], []), (0, 0)), (.inr 0, ([], [], []), (1, 6))])
def c_c104 : List BCu := []
def c_r106 : BRw := (106, 4, ([(2, 1, 0), (1, 0, 0), (1, 1, 0), (1, 2, 0)], ([(0, (-2147483648), 2147483647), (0, 0, 65535), (0, (-2147483648), 2147483647)], [], [])), [(3, 7), (3, 8)], [(.inl (some (1, 3, 0)), ([(0, 0, 1)], [], []), (0, 0)), (.inr 0, ([], [], []), (1, 6)), (.inr 1, ([], [], []), (1, 6))])
def c_c106 : List BCu := []
def c_r107 : BRw := (107, 4, ([(2, 1, 0), (1, 0, 0), (1, 1, 0), (1, 2, 0), (1, 3, 0)], ([(0, (-2147483648), 2147483647), (0, (-2147483648), 2147483647), (0, (-2147483648), 2147483647), (0, (-2147483648), 2147483647)], [], [])), [(4, 7), (7, 0), (8, 0), (9, 0), (10, 0)], [(.inl (some (1, 4, 0)), ([(0, 1, 60)], [], []), (0, 0)), (.inr 0, ([], [], []), (1, 6)), (.inr 1, ([], [], []), (1, 6)), (.inr 2, ([], [], []), (1, 6))])
def c_c107 : List BCu := []
def c_r108 : BRw := (108, 4, ([(2, 1, 0), (1, 0, 0), (1, 1, 0), (1, 2, 0)], ([(0, (-2147483648), 2147483647), (0, (-2147483648), 2147483647), (0, (-2147483648), 2147483647)], [], [])), [], [(.inl (some (1, 3, 0)), ([(0, 0, 1)], [], []), (0, 0)), (.inr 0, ([], [], []), (1, 6)), (.inr 1, ([], [], []), (1, 6))])
def c_c108 : List BCu := []
def c_r111 : BRw := (111, 4, ([(2, 1, 0), (1, 0, 0), (1, 1, 0)], ([(0, (-2147483648), 2147483647), (0, 0, 65535)], [], [])), [], [(.inl (some (1, 2, 0)), ([(0, 0, 49)], [], []), (0, 0)), (.inr 0, ([], [], []), (1, 6)), (.inr 1, ([], [], []), (1, 6))])
def c_c111 : List BCu := []
def c_r112 : BRw := (112, 4, ([(2, 1, 0), (1, 0, 0)], ([(0, (-2147483648), 2147483647)], [], [])), [], [(.inl (some (1, 1, 0)), ([(0, 40, 150)], [], []), (0, 0)), (.inr 0, ([], [], []), (1, 6))])
def c_c112 : List BCu := []
def c_r113 : BRw := (113, 4, ([(2, 1, 0), (1, 0, 0), (1, 1, 0)], ([(0, (-2147483648), 2147483647), (0, (-2147483648), 2147483647)], [], [])), [], [(.inl (some (1, 2, 0)), ([(0, 0, 59)], [], []), (0, 0)), (.inr 0, ([], [], []), (1, 6)), (.inr 1, ([], [], []), (1, 6)), (.inr 4, ([], [], []), (1, 6))])
def c_c113 : List BCu := []
def c_r118 : BRw := (118, 4, ([(2, 1, 0), (1, 0, 0)], ([(0, (-2147483648), 2147483647)], [], [])), [(1, 8), (3, 3), (3, 4), (3, 6), (11, 2), (11, 3), (12, 0), (13, 0), (15, 4), (19, 0)], [(.inl (some (1, 1, 0)), ([(0, 0, 60)], [], []), (0, 0)), (.inr 0, ([], [], []), (1, 6)), (.inr 3, ([], [], []), (1, 6))])
def c_c118 : List BCu := []
def c_r120 : BRw := (120, 4, ([(2, 1, 0), (1, 0, 0), (1, 1, 0)], ([(0, (-2147483648), 2147483647), (0, (-2147483648), 2147483647)], [], [])), [(15, 7), (16, 0)], [(.inl (some (1, 2, 0)), ([(0, 1, 16)], [], []), (0, 0)), (.inr 0, ([], [], []), (1, 6)), (.inr 3, ([], [], []), (1, 6))])
def c_c120 : List BCu := []
def c_r121 : BRw := (121, 4, ([(2, 1, 0), (1, 0, 0)], ([(0, (-2147483648), 2147483647)], [], [])), [(11, 2), (11, 3), (12, 0), (13, 0), (15, 5), (17, 0)], [(.inl (some (1, 1, 0)), ([(0, 0, 9)], [], []), (0, 0)), (.inr 0, ([], [], []), (1, 6)), (.inr 3, ([], [], []), (1, 6))])
def c_c121 : List BCu := []
def c_r122 : BRw := (122, 4, ([(2, 1, 0), (1, 0, 0), (1, 1, 0)], ([(0, (-2147483648), 2147483647), (0, (-2147483648), 2147483647)], [], [])), [], [(.inl (some (1, 2, 0)), ([(0, 0, 1)], [], []), (0, 0)), (.inr 0, ([], [], []), (1, 6))])
def c_c122 : List BCu := []
def c_r123 : BRw := (123, 4, ([(2, 1, 0), (1, 0, 0), (1, 1, 0)], ([(0, (-2147483648), 2147483647), (0, (-2147483648), 2147483647)], [], [])), [(21, 8), (23, 0)], [(.inl (some (1, 2, 0)), ([(0, 0, 4)], [], []), (0, 0)), (.inr 0, ([], [], []), (1, 6)), (.inr 1, ([], [], []), (1, 6)), (.inr 2, ([], [], []), (1, 6))])
def c_c123 : List BCu := []
def c_r124 : BRw := (124, 4, ([(2, 1, 0), (1, 0, 0), (1, 1, 0)], ([(0, (-2147483648), 2147483647), (0, 0, 65535)], [], [])), [(21, 5)], [(.inl (some (1, 2, 0)), ([(0, 63, 150)], [], []), (0, 0)), (.inr 0, ([], [], []), (1, 6)), (.inr 1, ([], [], []), (1, 6))])
def c_c124 : List BCu := []
def c_r125 : BRw := (125, 4, ([(2, 1, 0), (1, 0, 0), (1, 1, 0), (1, 2, 0)], ([(0, (-2147483648), 2147483647), (0, (-2147483648), 2147483647), (0, (-2147483648), 2147483647)], [], [])), [(23, 2), (23, 3), (24, 0)], [(.inl (some (1, 3, 0)), ([(0, (-2147483648), 2147483647)], [], []), (0, 0)), (.inr 0, ([], [], []), (1, 6)), (.inr 3, ([], [], []), (1, 6))])
def c_c125 : List BCu := []
def c_r126 : BRw := (126, 4, ([(2, 1, 0), (1, 0, 0)], ([(0, (-2147483648), 2147483647)], [], [])), [(0, 12), (47, 0)], [(.inl (some (1, 1, 0)), ([(0, 1, 9)], [], []), (0, 0)), (.inr 0, ([], [], []), (1, 6)), (.inr 2, ([], [], []), (1, 6))])
def c_c126 : List BCu := []
def c_r128 : BRw := (128, 4, ([(2, 1, 0), (1, 0, 0), (1, 1, 0)], ([(0, (-2147483648), 2147483647), (0, (-2147483648), 2147483647)], [], [])), [(0, 12), (23, 5), (25, 0)], [(.inl (some (1, 2, 0)), ([(0, (-2147483648), 2147483647)], [], []), (0, 0)), (.inr 0, ([], [], []), (1, 6)), (.inr 3, ([], [], []), (1, 6))])
def c_c128 : List BCu := []
def c_r131 : BRw := (131, 4, ([(2, 1, 0), (1, 0, 0), (1, 1, 0), (1, 2, 0), (1, 3, 0), (1, 4, 0)], ([(0, (-2147483648), 2147483647), (0, (-2147483648), 2147483647), (0, (-2147483648), 2147483647), (0, (-2147483648), 2147483647), (0, (-2147483648), 2147483647)], [], [])), [(11, 2), (11, 3), (12, 0), (13, 0), (41, 5), (42, 0), (43, 0), (44, 0), (45, 0), (46, 0)], [(.inl (some (1, 5, 0)), ([(0, 1, 40)], [], []), (0, 0)), (.inr 0, ([], [], []), (1, 6)), (.inr 1, ([], [], []), (1, 6)), (.inr 2, ([], [], []), (1, 6)), (.inr 3, ([], [], []), (1, 6))])
def c_c131 : List BCu := []
def c_r132 : BRw := (132, 4, ([(2, 1, 0), (1, 0, 0), (1, 1, 0), (1, 2, 0)], ([(0, (-2147483648), 2147483647), (0, (-2147483648), 2147483647), (0, (-2147483648), 2147483647)], [], [])), [], [(.inl (some (1, 3, 0)), ([(0, 0, 9)], [], []), (0, 0)), (.inr 0, ([], [], []), (1, 6)), (.inr 1, ([], [], []), (1, 6)), (.inr 4, ([], [], []), (1, 6))])
def c_c132 : List BCu := []
def c_r173 : BRw := (173, 4, ([(2, 365, 0), (1, 0, 0), (1, 1, 0)], ([(0, (-2147483648), 2147483647), (0, (-2147483648), 2147483647)], [], [])), [(50, 55)], [(.inl (some (1, 2, 0)), ([(0, 0, 1)], [], []), (0, 0))])
def c_c173 : List BCu := []
def c_r175 : BRw := (175, 4, ([(2, 365, 0), (1, 0, 0), (1, 1, 0), (1, 2, 0)], ([(0, (-2147483648), 2147483647), (0, (-2147483648), 2147483647), (0, (-2147483648), 2147483647)], [], [])), [(50, 55), (65, 0)], [(.inl (some (1, 3, 0)), ([(0, 0, 8)], [], []), (0, 0))])
def c_c175 : List BCu := []
def c_r177 : BRw := (177, 4, ([(2, 365, 0), (1, 0, 0), (1, 1, 0)], ([(0, (-2147483648), 2147483647), (0, (-2147483648), 2147483647)], [], [])), [(50, 55)], [(.inl (some (1, 2, 0)), ([(0, (-2147483648), 2147483647)], [], []), (0, 0))])
def c_c177 : List BCu := []
def c_r190 : BRw := (190, 4, ([(2, 365, 0), (1, 0, 0)], ([(0, (-2147483648), 2147483647)], [], [])), [(50, 53), (50, 55), (55, 0), (56, 0), (106, 0), (107, 0), (108, 0)], [(.inl (some (1, 1, 0)), ([(0, 0, 20)], [], []), (0, 0))])
def c_r206 : BRw := (206, 4, ([(2, 365, 0), (1, 0, 0), (1, 1, 0), (1, 2, 0)], ([(0, 0, 19), (0, 0, 3), (0, 0, 49)], [], [])), [], [(.inl (some (1, 3, 0)), ([(0, 0, 1)], [], []), (0, 0))])
def c_c206 : List BCu := [(46, [some (2, 365, 0), some (1, 0, 0), some (1, 1, 0), some (1, 2, 0), some (1, 3, 0), some (1, 4, 0), some (1, 5, 0), none, none], ([(0, 0, 19), (0, 0, 3), (0, 0, 49), (0, 1, 2), (0, 0, 1), (0, 0, 51)], [], []), ([(5, (-123))], 6273), none), (73, [some (2, 365, 0), some (1, 0, 0), some (1, 1, 0), some (1, 2, 0), some (1, 3, 0), some (1, 4, 0), some (1, 5, 0), some (1, 6, 0), none], ([(0, 0, 19), (0, 0, 3), (0, 0, 49), (0, 1, 2), (0, 0, 1), (0, 0, 50), (0, 0, 60)], [], []), ([(5, (-123)), (6, (-2))], 6271), none)]
def c_r214 : BRw := (214, 4, ([(2, 365, 0), (1, 0, 0)], ([(0, (-2147483648), 2147483647)], [], [])), [(50, 55)], [(.inl (some (1, 1, 0)), ([(0, 1, 150)], [], []), (0, 0))])
def c_c214 : List BCu := []
def c_r215 : BRw := (215, 4, ([(2, 365, 0), (1, 0, 0), (1, 1, 0)], ([(0, (-2147483648), 2147483647), (0, (-2147483648), 2147483647)], [], [])), [(50, 55)], [(.inl (some (1, 2, 0)), ([(0, 0, 59)], [], []), (0, 0))])
def c_c215 : List BCu := [(40, [some (2, 365, 0), some (1, 0, 0), some (1, 1, 0), some (1, 2, 0), some (1, 3, 0)], ([(0, 0, 3), (0, 0, 49), (0, (-1), 59), (0, 0, 60), (0, 0, 0), (0, 1, 4)], [((2, 365, 0), (0, 0, 55), (1, 4, 0)), ((2, 365, 0), (0, 0, 47), (1, 5, 0))], []), ([(3, (-2))], 120), none)]
def c_r218 : BRw := (218, 4, ([(2, 365, 0), (1, 0, 0), (1, 1, 0), (1, 2, 0)], ([(0, 0, 59), (0, (-1), 9), (0, (-1), 19)], [], [])), [], [(.inl (some (1, 3, 0)), ([(0, 0, 1)], [], []), (0, 0))])
def c_c218 : List BCu := [(45, [some (2, 365, 0), some (1, 0, 0), some (1, 1, 0), some (1, 2, 0), some (1, 3, 0), some (1, 4, 0)], ([(0, 0, 59), (0, (-1), 9), (0, 0, 19), (0, 0, 1), (0, 0, 51), (0, 0, 116)], [((2, 492, 0), (1, 0, 0), (1, 5, 0))], []), ([(4, (-2))], 102), none)]
def c_r223 : BRw := (223, 4, ([(2, 365, 0), (1, 0, 0)], ([(0, (-2147483648), 2147483647)], [], [])), [(50, 53), (50, 55), (55, 0), (56, 0), (57, 0), (80, 0), (106, 0), (107, 0)], [(.inl (some (1, 1, 0)), ([(0, (-2147483648), 2147483647)], [], []), (0, 0))])
def c_c223 : List BCu := [(33, [some (2, 365, 0), some (1, 0, 0), some (1, 1, 0), some (1, 2, 0)], ([(0, 0, 19), (0, (-2147483648), 2147483647), (0, 0, 60), (0, 0, 0), (0, 0, 0), (0, 1, 20)], [((2, 365, 0), (0, 0, 55), (1, 3, 0)), ((2, 372, 0), (1, 0, 0), (1, 4, 0)), ((2, 365, 0), (0, 0, 44), (1, 5, 0))], []), ([(2, (-2))], 120), none)]
def c_r226 : BRw := (226, 4, ([(2, 365, 0), (1, 0, 0), (1, 1, 0)], ([(0, (-2147483648), 2147483647), (0, (-2147483648), 2147483647)], [], [])), [(50, 55), (83, 0), (84, 0)], [(.inl (some (1, 2, 0)), ([(0, 0, 16)], [], []), (0, 0))])
def c_r227 : BRw := (227, 4, ([(2, 365, 0), (1, 0, 0), (1, 1, 0)], ([(0, 0, 15), (0, 0, 59)], [], [])), [], [(.inl (some (1, 2, 0)), ([(0, 0, 1)], [], []), (0, 0))])
def c_c227 : List BCu := [(5, [some (2, 365, 0), some (1, 0, 0), some (1, 1, 0), some (1, 2, 0), some (1, 3, 0), none], ([(0, 0, 15), (0, 0, 59), (0, 0, 1), (0, 0, 60)], [], []), ([(3, (-105))], 6300), none), (22, [some (2, 365, 0), some (1, 0, 0), some (1, 1, 0), some (1, 2, 0), some (1, 3, 0), some (1, 4, 0)], ([(0, 0, 15), (0, 0, 59), (0, 0, 1), (0, 0, 59), (0, 0, 51), (0, 1, 60)], [((2, 365, 0), (0, 0, 49), (1, 5, 0))], []), ([(3, (-105)), (4, (-2))], 6298), none)]
def c_r233 : BRw := (233, 4, ([(2, 365, 0), (1, 0, 0), (1, 1, 0), (1, 2, 0)], ([(0, (-2147483648), 2147483647), (0, (-2147483648), 2147483647), (0, (-2147483648), 2147483647)], [], [])), [(50, 55), (94, 0), (97, 0)], [(.inl (some (1, 3, 0)), ([(0, (-2147483648), 2147483647)], [], []), (0, 0))])
def c_c233 : List BCu := [(145, [some (2, 365, 0), some (1, 0, 0), some (1, 1, 0), some (1, 2, 0), some (3, 3, 0), some (0, 0, 1), some (1, 4, 0), some (1, 5, 0)], ([(0, 0, 4), (0, 0, 4), (0, 0, 59), (98, 0, 0), (0, (-2147483648), 2147483647), (0, 0, 20), (0, 0, 0), (0, 0, 110), (0, 1, 60), (0, 1, 5), (0, 1, 5)], [((2, 365, 0), (0, 0, 55), (1, 6, 0)), ((2, 492, 0), (1, 2, 0), (1, 7, 0)), ((2, 365, 0), (0, 0, 49), (1, 8, 0)), ((2, 619, 0), (1, 0, 0), (1, 9, 0)), ((2, 365, 0), (0, 0, 46), (1, 10, 0))], []), ([(5, (-2))], 40), none)]
def c_r237 : BRw := (237, 4, ([(2, 365, 0), (1, 0, 0), (1, 1, 0)], ([(0, (-2147483648), 2147483647), (0, (-2147483648), 2147483647)], [], [])), [(50, 51), (50, 55), (99, 0), (102, 0)], [(.inl (some (1, 2, 0)), ([(0, (-2147483648), 2147483647)], [], []), (0, 0))])
def c_c237 : List BCu := [(32, [some (2, 365, 0), some (1, 0, 0), some (1, 1, 0), some (1, 2, 0), some (1, 3, 0), none, none], ([(0, 0, 4), (0, 0, 4), (0, 0, 1), (0, 0, 20), (0, 0, 0), (0, 1, 5), (0, 1, 5)], [((2, 365, 0), (0, 0, 55), (1, 4, 0)), ((2, 619, 0), (1, 0, 0), (1, 5, 0)), ((2, 365, 0), (0, 0, 46), (1, 6, 0))], []), ([(3, (-21))], 420), none), (47, [some (2, 365, 0), some (1, 0, 0), some (1, 1, 0), some (1, 2, 0), some (1, 3, 0), some (1, 4, 0), some (1, 5, 0)], ([(0, 0, 4), (0, 0, 4), (0, 0, 1), (0, 0, 19), (0, (-2147483648), 2147483647), (0, 0, 9), (0, 1, 20), (0, 0, 0), (0, 1, 5), (0, 1, 5)], [((2, 365, 0), (0, 0, 44), (1, 6, 0)), ((2, 365, 0), (0, 0, 55), (1, 7, 0)), ((2, 619, 0), (1, 0, 0), (1, 8, 0)), ((2, 365, 0), (0, 0, 46), (1, 9, 0))], []), ([(3, (-21)), (5, (-2))], 418), none)]
def c_r244 : BRw := (244, 4, ([(2, 365, 0), (1, 0, 0)], ([(0, 0, 4)], [], [])), [], [(.inl (some (1, 1, 0)), ([(0, (-1), 19)], [], []), (0, 0))])
def c_c244 : List BCu := [(2, [some (2, 365, 0), some (1, 0, 0), some (1, 1, 0), none, none], ([(0, 0, 4), (0, 0, 20)], [], []), ([(1, (-43))], 860), none), (20, [some (2, 365, 0), some (1, 0, 0), some (1, 1, 0), some (1, 2, 0), some (1, 3, 0)], ([(0, 0, 4), (0, 0, 19), (0, 0, 1), (0, 0, 20), (0, 1, 20)], [((2, 365, 0), (0, 0, 44), (1, 4, 0))], []), ([(1, (-43)), (3, (-2))], 858), none)]
def c_r252 : BRw := (252, 4, ([(2, 365, 0)], ([], [], [])), [(50, 55)], [(.inl (some (4, 0, 0)), ([], [], []), (0, 0))])
def c_c252 : List BCu := [(11, [some (2, 365, 0), some (4, 0, 0), none, some (1, 0, 0)], ([(0, 0, 60), (0, 0, 0)], [((2, 365, 0), (0, 0, 55), (1, 1, 0))], []), ([(0, (-2))], 120), none)]
def c_r299 : BRw := (299, 4, ([(2, 1, 0), (2, 771, 0)], ([], [], [])), [(110, 0)], [(.inl (some (1, 0, 0)), ([(0, 0, 0)], [], []), (0, 0)), (.inl (some (1, 0, 0)), ([(0, 1, 1)], [], []), (1, 6))])
def c_c299 : List BCu := []
def c_r37 : BRw := (37, 5, ([(2, 2, 0), (1, 0, 0)], ([(0, 0, 19)], [], [])), [(1, 4), (11, 2), (11, 3), (12, 0), (13, 0), (15, 0), (15, 1), (15, 2), (15, 3)], [(.inl (some (1, 1, 0)), ([(0, (-1), 59)], [], []), (0, 0))])
def c_c37 : List BCu := [(5, [some (2, 2, 0), some (1, 0, 0), some (1, 1, 0), none], ([(0, 0, 19), (0, 0, 50)], [], []), ([(1, (-11))], 550), none), (13, [some (2, 2, 0), some (1, 0, 0), some (1, 1, 0), some (1, 2, 0)], ([(0, 0, 19), (0, 0, 49), (0, 0, 4)], [], []), ([(1, (-11)), (2, (-2))], 548), none)]
def c_r109 : BRw := (109, 5, ([(2, 1, 0), (1, 0, 0), (1, 1, 0), (1, 2, 0)], ([(0, (-2147483648), 2147483647), (0, (-2147483648), 2147483647), (0, (-2147483648), 2147483647)], [], [])), [(1, 4), (11, 2), (11, 3), (12, 0), (13, 0), (15, 0), (15, 1), (15, 2), (15, 3)], [(.inl (some (1, 3, 0)), ([(0, 0, 59)], [], []), (0, 0)), (.inr 0, ([], [], []), (1, 6)), (.inr 1, ([], [], []), (1, 6)), (.inr 2, ([], [], []), (1, 6)), (.inr 3, ([], [], []), (1, 6))])
def c_c109 : List BCu := []
def c_r209 : BRw := (209, 5, ([(2, 365, 0), (1, 0, 0), (1, 1, 0), (1, 2, 0)], ([(0, (-2147483648), 2147483647), (0, (-2147483648), 2147483647), (0, (-2147483648), 2147483647)], [], [])), [(50, 49), (50, 53), (50, 55), (77, 0), (78, 0), (79, 0), (106, 0), (107, 0)], [(.inl (some (1, 3, 0)), ([(0, 0, 59)], [], []), (0, 0))])
def c_c209 : List BCu := []
def c_r220 : BRw := (220, 5, ([(2, 365, 0), (1, 0, 0), (1, 1, 0)], ([(0, (-1), 9), (0, (-1), 19)], [], [])), [], [(.inl (some (1, 2, 0)), ([(0, (-2147483648), 2147483647)], [], []), (0, 0))])
def c_c220 : List BCu := [(5, [some (2, 365, 0), some (1, 0, 0), some (1, 1, 0), some (1, 2, 0), some (1, 3, 0)], ([(0, (-1), 9), (0, (-1), 19), (0, (-2147483648), 2147483647), (0, 0, 60)], [], []), ([(3, (-2))], 120), none)]
def c_r228 : BRw := (228, 5, ([(2, 365, 0), (1, 0, 0)], ([(0, (-2147483648), 2147483647)], [], [])), [(50, 53), (50, 55), (81, 0), (86, 0), (106, 0), (107, 0)], [(.inl (some (1, 1, 0)), ([(0, 0, 9)], [], []), (0, 0))])
def c_c228 : List BCu := [(63, [some (2, 365, 0), some (1, 0, 0), some (1, 1, 0), some (1, 2, 0), none, none], ([(0, 0, 59), (0, 0, 9), (0, 0, 4), (0, 0, 0), (0, 0, 49), (0, 0, 0), (0, 0, 0), (0, 1, 60)], [((2, 365, 0), (0, 0, 55), (1, 3, 0)), ((2, 365, 0), (0, 0, 54), (1, 4, 0)), ((2, 493, 0), (1, 0, 0), (1, 5, 0)), ((2, 492, 0), (1, 0, 0), (1, 6, 0)), ((2, 365, 0), (0, 0, 49), (1, 7, 0))], []), ([(2, (-35))], 140), none), (71, [some (2, 365, 0), some (1, 0, 0), some (1, 1, 0), some (1, 2, 0), some (1, 3, 0), none], ([(0, 0, 59), (0, 0, 9), (0, 0, 3), (0, 0, 16), (0, 0, 0), (0, 0, 49), (0, 0, 0), (0, 0, 0), (0, 1, 60)], [((2, 365, 0), (0, 0, 55), (1, 4, 0)), ((2, 365, 0), (0, 0, 54), (1, 5, 0)), ((2, 493, 0), (1, 0, 0), (1, 6, 0)), ((2, 492, 0), (1, 0, 0), (1, 7, 0)), ((2, 365, 0), (0, 0, 49), (1, 8, 0))], []), ([(2, (-35)), (3, (-2))], 138), none)]
def c_r246 : BRw := (246, 5, ([(2, 365, 0), (1, 0, 0)], ([(0, 0, 4)], [], [])), [(108, 0)], [(.inl (some (1, 1, 0)), ([(0, (-1), 19)], [], []), (0, 0))])
def c_c246 : List BCu := [(4, [some (2, 365, 0), some (1, 0, 0), some (1, 1, 0), some (1, 2, 0), none], ([(0, 0, 4), (0, 0, 1), (0, 0, 20)], [], []), ([(2, (-13))], 260), none), (22, [some (2, 365, 0), some (1, 0, 0), some (1, 1, 0), some (1, 2, 0), some (1, 3, 0)], ([(0, 0, 4), (0, 0, 1), (0, 0, 19), (0, 0, 5), (0, 1, 20)], [((2, 365, 0), (0, 0, 44), (1, 4, 0))], []), ([(2, (-13)), (3, (-2))], 258), none)]
def c_r258 : BRw := (258, 5, ([(2, 1, 0), (1, 0, 0), (1, 1, 0), (2, 770, 0)], ([(0, (-2147483648), 2147483647), (0, (-2147483648), 2147483647)], [], [])), [(28, 0), (32, 0), (109, 0)], [(.inl (some (1, 2, 0)), ([(0, 0, 0)], [], []), (0, 0)), (.inl (some (1, 2, 0)), ([(0, 1, 3)], [], []), (1, 6))])
def c_c258 : List BCu := []
def c_r259 : BRw := (259, 5, ([(2, 1, 0), (1, 0, 0), (1, 1, 0), (2, 770, 0)], ([(0, (-2147483648), 2147483647), (0, (-2147483648), 2147483647)], [], [])), [(109, 0)], [(.inl (some (1, 2, 0)), ([(0, 0, 0)], [], []), (0, 0)), (.inl (some (1, 2, 0)), ([(0, 1, 1)], [], []), (1, 6))])
def c_c259 : List BCu := []
def c_r260 : BRw := (260, 5, ([(2, 1, 0), (1, 0, 0), (1, 1, 0), (1, 2, 0), (2, 770, 0)], ([(0, (-2147483648), 2147483647), (0, (-2147483648), 2147483647), (0, (-2147483648), 2147483647)], [], [])), [(29, 0), (30, 0), (32, 0), (109, 0)], [(.inl (some (1, 3, 0)), ([(0, 0, 0)], [], []), (0, 0)), (.inl (some (1, 3, 0)), ([(0, 1, 3)], [], []), (1, 6))])
def c_c260 : List BCu := []
def c_r261 : BRw := (261, 5, ([(2, 1, 0), (1, 0, 0), (1, 1, 0), (2, 770, 0)], ([(0, (-2147483648), 2147483647), (0, (-2147483648), 2147483647)], [], [])), [(109, 0)], [(.inl (some (1, 2, 0)), ([(0, 0, 0)], [], []), (0, 0)), (.inl (some (1, 2, 0)), ([(0, 1, 2)], [], []), (1, 6))])
def c_c261 : List BCu := []
def c_r262 : BRw := (262, 5, ([(2, 1, 0), (1, 0, 0), (2, 770, 0)], ([(0, (-2147483648), 2147483647)], [], [])), [(109, 0)], [(.inl (some (1, 1, 0)), ([(0, 0, 0)], [], []), (0, 0)), (.inl (some (1, 1, 0)), ([(0, 1, 2)], [], []), (1, 6))])
def c_c262 : List BCu := []
def c_r263 : BRw := (263, 5, ([(2, 1, 0), (1, 0, 0), (2, 770, 0)], ([(0, (-2147483648), 2147483647)], [], [])), [(109, 0)], [(.inl (some (1, 1, 0)), ([(0, 0, 0)], [], []), (0, 0)), (.inl (some (1, 1, 0)), ([(0, 1, 1)], [], []), (1, 6))])
def c_c263 : List BCu := []
def c_r264 : BRw := (264, 5, ([(2, 1, 0), (1, 0, 0), (1, 1, 0), (2, 770, 0)], ([(0, (-2147483648), 2147483647), (0, 0, 65535)], [], [])), [(3, 5), (109, 0)], [(.inl (some (1, 2, 0)), ([(0, 0, 0)], [], []), (0, 0)), (.inl (some (1, 2, 0)), ([(0, 1, 2)], [], []), (1, 6))])
def c_c264 : List BCu := []
def c_r266 : BRw := (266, 5, ([(2, 1, 0), (1, 0, 0), (2, 770, 0)], ([(0, (-2147483648), 2147483647)], [], [])), [(3, 3), (3, 6), (11, 2), (11, 3), (12, 0), (13, 0), (48, 0), (49, 0), (109, 0)], [(.inl (some (1, 1, 0)), ([(0, 0, 0)], [], []), (0, 0)), (.inl (some (1, 1, 0)), ([(0, 1, 1)], [], []), (1, 6))])
def c_c266 : List BCu := []
def c_r267 : BRw := (267, 5, ([(2, 1, 0), (1, 0, 0), (2, 770, 0)], ([(0, (-2147483648), 2147483647)], [], [])), [(109, 0)], [(.inl (some (1, 1, 0)), ([(0, 0, 0)], [], []), (0, 0)), (.inl (some (1, 1, 0)), ([(0, 1, 2)], [], []), (1, 6))])
def c_c267 : List BCu := []
def c_r268 : BRw := (268, 5, ([(2, 1, 0), (1, 0, 0), (2, 770, 0)], ([(0, (-2147483648), 2147483647)], [], [])), [(109, 0)], [(.inl (some (1, 1, 0)), ([(0, 0, 0)], [], []), (0, 0)), (.inl (some (1, 1, 0)), ([(0, 1, 1)], [], []), (1, 6))])
def c_c268 : List BCu := []
def c_r269 : BRw := (269, 5, ([(2, 1, 0), (1, 0, 0), (2, 770, 0)], ([(0, (-2147483648), 2147483647)], [], [])), [(3, 6), (11, 2), (11, 3), (12, 0), (13, 0), (109, 0)], [(.inl (some (1, 1, 0)), ([(0, 0, 0)], [], []), (0, 0)), (.inl (some (1, 1, 0)), ([(0, 1, 2)], [], []), (1, 6))])
def c_c269 : List BCu := []
def c_r270 : BRw := (270, 5, ([(2, 1, 0), (1, 0, 0), (2, 770, 0)], ([(0, (-2147483648), 2147483647)], [], [])), [(109, 0)], [(.inl (some (1, 1, 0)), ([(0, 0, 0)], [], []), (0, 0)), (.inl (some (1, 1, 0)), ([(0, 1, 1)], [], []), (1, 6))])
def c_c270 : List BCu := []
def c_r272 : BRw := (272, 5, ([(2, 1, 0), (1, 0, 0), (1, 1, 0), (1, 2, 0), (2, 770, 0)], ([(0, (-2147483648), 2147483647), (0, 0, 65535), (0, (-2147483648), 2147483647)], [], [])), [(3, 7), (3, 8), (109, 0)], [(.inl (some (1, 3, 0)), ([(0, 0, 0)], [], []), (0, 0)), (.inl (some (1, 3, 0)), ([(0, 1, 2)], [], []), (1, 6))])
def c_c272 : List BCu := []
def c_r273 : BRw := (273, 5, ([(2, 1, 0), (1, 0, 0), (1, 1, 0), (1, 2, 0), (1, 3, 0), (2, 770, 0)], ([(0, (-2147483648), 2147483647), (0, (-2147483648), 2147483647), (0, (-2147483648), 2147483647), (0, (-2147483648), 2147483647)], [], [])), [(4, 7), (7, 0), (8, 0), (9, 0), (10, 0), (109, 0)], [(.inl (some (1, 4, 0)), ([(0, 0, 0)], [], []), (0, 0)), (.inl (some (1, 4, 0)), ([(0, 1, 3)], [], []), (1, 6))])
def c_c273 : List BCu := []
def c_r274 : BRw := (274, 5, ([(2, 1, 0), (1, 0, 0), (1, 1, 0), (1, 2, 0), (2, 770, 0)], ([(0, (-2147483648), 2147483647), (0, (-2147483648), 2147483647), (0, (-2147483648), 2147483647)], [], [])), [(109, 0)], [(.inl (some (1, 3, 0)), ([(0, 0, 0)], [], []), (0, 0)), (.inl (some (1, 3, 0)), ([(0, 1, 2)], [], []), (1, 6))])
def c_c274 : List BCu := []
def c_r277 : BRw := (277, 5, ([(2, 1, 0), (1, 0, 0), (1, 1, 0), (2, 770, 0)], ([(0, (-2147483648), 2147483647), (0, 0, 65535)], [], [])), [(109, 0)], [(.inl (some (1, 2, 0)), ([(0, 0, 0)], [], []), (0, 0)), (.inl (some (1, 2, 0)), ([(0, 1, 2)], [], []), (1, 6))])
def c_c277 : List BCu := []
def c_r278 : BRw := (278, 5, ([(2, 1, 0), (1, 0, 0), (2, 770, 0)], ([(0, (-2147483648), 2147483647)], [], [])), [(109, 0)], [(.inl (some (1, 1, 0)), ([(0, 0, 0)], [], []), (0, 0)), (.inl (some (1, 1, 0)), ([(0, 1, 1)], [], []), (1, 6))])
def c_c278 : List BCu := []
def c_r279 : BRw := (279, 5, ([(2, 1, 0), (1, 0, 0), (1, 1, 0), (2, 770, 0)], ([(0, (-2147483648), 2147483647), (0, (-2147483648), 2147483647)], [], [])), [(109, 0)], [(.inl (some (1, 2, 0)), ([(0, 0, 0)], [], []), (0, 0)), (.inl (some (1, 2, 0)), ([(0, 1, 3)], [], []), (1, 6))])
def c_c279 : List BCu := []
def c_r283 : BRw := (283, 5, ([(2, 1, 0), (1, 0, 0), (2, 770, 0)], ([(0, (-2147483648), 2147483647)], [], [])), [(1, 8), (3, 3), (3, 4), (3, 6), (11, 2), (11, 3), (12, 0), (13, 0), (15, 4), (19, 0), (109, 0)], [(.inl (some (1, 1, 0)), ([(0, 0, 0)], [], []), (0, 0)), (.inl (some (1, 1, 0)), ([(0, 1, 2)], [], []), (1, 6))])
def c_c283 : List BCu := []
def c_r285 : BRw := (285, 5, ([(2, 1, 0), (1, 0, 0), (1, 1, 0), (2, 770, 0)], ([(0, (-2147483648), 2147483647), (0, (-2147483648), 2147483647)], [], [])), [(15, 7), (16, 0), (109, 0)], [(.inl (some (1, 2, 0)), ([(0, 0, 0)], [], []), (0, 0)), (.inl (some (1, 2, 0)), ([(0, 1, 2)], [], []), (1, 6))])
def c_c285 : List BCu := []
def c_r286 : BRw := (286, 5, ([(2, 1, 0), (1, 0, 0), (2, 770, 0)], ([(0, (-2147483648), 2147483647)], [], [])), [(11, 2), (11, 3), (12, 0), (13, 0), (15, 5), (17, 0), (109, 0)], [(.inl (some (1, 1, 0)), ([(0, 0, 0)], [], []), (0, 0)), (.inl (some (1, 1, 0)), ([(0, 1, 2)], [], []), (1, 6))])
def c_c286 : List BCu := []
def c_r287 : BRw := (287, 5, ([(2, 1, 0), (1, 0, 0), (1, 1, 0), (2, 770, 0)], ([(0, (-2147483648), 2147483647), (0, (-2147483648), 2147483647)], [], [])), [(109, 0)], [(.inl (some (1, 2, 0)), ([(0, 0, 0)], [], []), (0, 0)), (.inl (some (1, 2, 0)), ([(0, 1, 1)], [], []), (1, 6))])
def c_c287 : List BCu := []
def c_r288 : BRw := (288, 5, ([(2, 1, 0), (1, 0, 0), (1, 1, 0), (2, 770, 0)], ([(0, (-2147483648), 2147483647), (0, (-2147483648), 2147483647)], [], [])), [(21, 8), (23, 0), (109, 0)], [(.inl (some (1, 2, 0)), ([(0, 0, 0)], [], []), (0, 0)), (.inl (some (1, 2, 0)), ([(0, 1, 3)], [], []), (1, 6))])
def c_c288 : List BCu := []
def c_r289 : BRw := (289, 5, ([(2, 1, 0), (1, 0, 0), (1, 1, 0), (2, 770, 0)], ([(0, (-2147483648), 2147483647), (0, 0, 65535)], [], [])), [(21, 5), (109, 0)], [(.inl (some (1, 2, 0)), ([(0, 0, 0)], [], []), (0, 0)), (.inl (some (1, 2, 0)), ([(0, 1, 2)], [], []), (1, 6))])
def c_c289 : List BCu := []
def c_r290 : BRw := (290, 5, ([(2, 1, 0), (1, 0, 0), (1, 1, 0), (1, 2, 0), (2, 770, 0)], ([(0, (-2147483648), 2147483647), (0, (-2147483648), 2147483647), (0, (-2147483648), 2147483647)], [], [])), [(23, 2), (23, 3), (24, 0), (109, 0)], [(.inl (some (1, 3, 0)), ([(0, 0, 0)], [], []), (0, 0)), (.inl (some (1, 3, 0)), ([(0, 1, 2)], [], []), (1, 6))])
def c_c290 : List BCu := []
def c_r291 : BRw := (291, 5, ([(2, 1, 0), (1, 0, 0), (2, 770, 0)], ([(0, (-2147483648), 2147483647)], [], [])), [(0, 12), (47, 0), (109, 0)], [(.inl (some (1, 1, 0)), ([(0, 0, 0)], [], []), (0, 0)), (.inl (some (1, 1, 0)), ([(0, 1, 2)], [], []), (1, 6))])
def c_c291 : List BCu := []
def c_r292 : BRw := (292, 5, ([(2, 1, 0), (1, 0, 0), (1, 1, 0), (2, 770, 0)], ([(0, (-2147483648), 2147483647), (0, (-2147483648), 2147483647)], [], [])), [(0, 12), (23, 5), (25, 0), (109, 0)], [(.inl (some (1, 2, 0)), ([(0, 0, 0)], [], []), (0, 0)), (.inl (some (1, 2, 0)), ([(0, 1, 2)], [], []), (1, 6))])
def c_c292 : List BCu := []
def c_r295 : BRw := (295, 5, ([(2, 1, 0), (1, 0, 0), (1, 1, 0), (1, 2, 0), (1, 3, 0), (1, 4, 0), (2, 770, 0)], ([(0, (-2147483648), 2147483647), (0, (-2147483648), 2147483647), (0, (-2147483648), 2147483647), (0, (-2147483648), 2147483647), (0, (-2147483648), 2147483647)], [], [])), [(11, 2), (11, 3), (12, 0), (13, 0), (41, 5), (42, 0), (43, 0), (44, 0), (45, 0), (46, 0), (109, 0)], [(.inl (some (1, 5, 0)), ([(0, 0, 0)], [], []), (0, 0)), (.inl (some (1, 5, 0)), ([(0, 1, 4)], [], []), (1, 6))])
def c_c295 : List BCu := []
def c_r296 : BRw := (296, 5, ([(2, 1, 0), (1, 0, 0), (1, 1, 0), (1, 2, 0), (2, 770, 0)], ([(0, (-2147483648), 2147483647), (0, (-2147483648), 2147483647), (0, (-2147483648), 2147483647)], [], [])), [(109, 0)], [(.inl (some (1, 3, 0)), ([(0, 0, 0)], [], []), (0, 0)), (.inl (some (1, 3, 0)), ([(0, 1, 3)], [], []), (1, 6))])
def c_c296 : List BCu := []
def c_r46 : BRw := (46, 6, ([(2, 2, 0)], ([], [], [])), [(1, 4), (11, 2), (11, 3), (12, 0), (13, 0), (15, 0), (15, 1), (15, 2), (15, 3), (15, 7), (16, 0)], [(.inl none, ([], [], []), (0, 0))])
def c_c46 : List BCu := [(2, [some (2, 2, 0), some (1, 0, 0), none, none, none], ([(0, 0, 60)], [], []), ([(0, (-35))], 2100), none), (39, [some (2, 2, 0), some (1, 0, 0), some (3, 1, 0), some (1, 2, 0), some (1, 3, 0)], ([(0, 0, 59), (16, 0, 0), (0, 0, 59), (0, 0, 16), (0, 1, 60)], [((2, 2, 0), (0, 0, 8), (1, 4, 0))], []), ([(0, (-35)), (3, (-2))], 2098), none)]
def c_r110 : BRw := (110, 6, ([(2, 1, 0), (1, 0, 0)], ([(0, (-2147483648), 2147483647)], [], [])), [(1, 4), (11, 2), (11, 3), (12, 0), (13, 0), (15, 0), (15, 1), (15, 2), (15, 3), (48, 0), (49, 0)], [(.inl (some (1, 1, 0)), ([(0, (-2147483648), 2147483647)], [], []), (0, 0)), (.inr 0, ([], [], []), (1, 6)), (.inr 2, ([], [], []), (1, 6))])
def c_c110 : List BCu := [(41, [some (2, 1, 0), some (1, 0, 0), some (1, 1, 0), some (1, 2, 0), some (1, 3, 0)], ([(0, 0, 4), (0, 0, 20), (0, (-2147483648), 2147483647), (0, 0, 20), (0, 1, 5)], [((2, 1, 0), (0, 0, 6), (1, 4, 0))], []), ([(3, (-2))], 40), none)]
def c_r129 : BRw := (129, 6, ([(2, 1, 0), (1, 0, 0)], ([(0, (-2147483648), 2147483647)], [], [])), [(36, 0)], [(.inl (some (1, 1, 0)), ([(0, 0, 19)], [], []), (0, 0)), (.inr 0, ([], [], []), (1, 6)), (.inr 4, ([], [], []), (1, 6))])
def c_c129 : List BCu := []
def c_r130 : BRw := (130, 6, ([(2, 1, 0), (1, 0, 0)], ([(0, (-2147483648), 2147483647)], [], [])), [(11, 2), (11, 3), (12, 0), (13, 0), (21, 6), (36, 0)], [(.inl (some (1, 1, 0)), ([(0, 0, 19)], [], []), (0, 0)), (.inr 0, ([], [], []), (1, 6)), (.inr 3, ([], [], []), (1, 6)), (.inr 4, ([], [], []), (1, 6))])
def c_c130 : List BCu := []
def c_r161 : BRw := (161, 6, ([(2, 1, 0)], ([], [], [])), [(36, 0), (37, 0), (38, 0), (40, 0)], [(.inl (some (1, 0, 0)), ([(0, 0, 1)], [], []), (0, 0))])
def c_c161 : List BCu := [(2, [some (2, 1, 0), some (1, 0, 0)], ([(0, 0, 5)], [], []), ([(0, (-2))], 10), none)]
def c_r211 : BRw := (211, 6, ([(2, 365, 0), (1, 0, 0)], ([(0, (-2147483648), 2147483647)], [], [])), [(50, 49), (50, 53), (50, 55), (77, 0), (78, 0), (79, 0), (106, 0), (107, 0), (108, 0)], [(.inl (some (1, 1, 0)), ([(0, 0, 60)], [], []), (0, 0))])
def c_r219 : BRw := (219, 6, ([(2, 365, 0), (1, 0, 0), (1, 1, 0), (1, 2, 0)], ([(0, 100, 115), (0, (-1), 9), (0, (-1), 19)], [], [])), [(50, 49), (50, 53), (77, 0), (78, 0), (79, 0), (80, 0), (83, 0), (84, 0), (106, 0), (107, 0)], [(.inl (some (1, 3, 0)), ([(0, 0, 60)], [], []), (1, 60))])
def c_r247 : BRw := (247, 6, ([(2, 365, 0), (1, 0, 0)], ([(0, (-2147483648), 2147483647)], [], [])), [(50, 55), (108, 0)], [(.inl (some (1, 1, 0)), ([(0, 0, 19)], [], []), (0, 0))])
def c_c247 : List BCu := []
def c_r248 : BRw := (248, 6, ([(2, 365, 0), (1, 0, 0)], ([(0, (-2147483648), 2147483647)], [], [])), [(50, 53), (50, 55), (72, 0), (106, 0), (107, 0), (108, 0)], [(.inl (some (1, 1, 0)), ([(0, 0, 19)], [], []), (0, 0))])
def c_c248 : List BCu := []
def c_r275 : BRw := (275, 6, ([(2, 1, 0), (1, 0, 0), (1, 1, 0), (1, 2, 0), (2, 770, 0)], ([(0, (-2147483648), 2147483647), (0, (-2147483648), 2147483647), (0, (-2147483648), 2147483647)], [], [])), [(1, 4), (11, 2), (11, 3), (12, 0), (13, 0), (15, 0), (15, 1), (15, 2), (15, 3), (109, 0)], [(.inl (some (1, 3, 0)), ([(0, 0, 0)], [], []), (0, 0)), (.inl (some (1, 3, 0)), ([(0, 1, 4)], [], []), (1, 6))])
def c_c275 : List BCu := []
def c_r116 : BRw := (116, 7, ([(2, 1, 0), (1, 0, 0)], ([(0, (-2147483648), 2147483647)], [], [])), [(1, 4), (1, 8), (11, 2), (11, 3), (12, 0), (13, 0), (15, 0), (15, 1), (15, 2), (15, 3), (15, 4), (15, 7), (16, 0), (18, 0), (19, 0)], [(.inl (some (1, 1, 0)), ([(0, 0, 60)], [], []), (0, 0)), (.inr 1, ([], [], []), (1, 6)), (.inr 2, ([], [], []), (1, 6)), (.inr 3, ([], [], []), (1, 6))])
def c_c116 : List BCu := []
def c_r117 : BRw := (117, 7, ([(2, 1, 0), (1, 0, 0), (1, 1, 0)], ([(0, (-2147483648), 2147483647), (0, (-2147483648), 2147483647)], [], [])), [(1, 4), (1, 8), (3, 8), (11, 2), (11, 3), (12, 0), (13, 0), (15, 0), (15, 1), (15, 2), (15, 3), (15, 4), (15, 7), (16, 0), (19, 0)], [(.inl (some (1, 2, 0)), ([(0, 0, 60)], [], []), (0, 0)), (.inr 0, ([], [], []), (1, 6)), (.inr 1, ([], [], []), (1, 6)), (.inr 2, ([], [], []), (1, 6)), (.inr 3, ([], [], []), (1, 6))])
def c_c117 : List BCu := []
def c_r137 : BRw := (137, 7, ([(2, 1, 0)], ([], [], [])), [(36, 0), (37, 0), (38, 0), (40, 0)], [(.inl (some (1, 0, 0)), ([(0, 0, 1)], [], []), (0, 0))])
def c_c137 : List BCu := []
def c_r221 : BRw := (221, 7, ([(2, 365, 0), (1, 0, 0)], ([(0, (-2147483648), 2147483647)], [], [])), [(50, 49), (50, 53), (50, 55), (77, 0), (78, 0), (79, 0), (80, 0), (83, 0), (84, 0), (87, 0), (106, 0), (107, 0)], [(.inl (some (1, 1, 0)), ([(0, 0, 0)], [], []), (0, 0)), (.inl (some (1, 1, 0)), ([(0, 0, 60)], [], []), (1, 60))])
def c_c221 : List BCu := []
def c_r222 : BRw := (222, 7, ([(2, 365, 0), (1, 0, 0), (1, 1, 0)], ([(0, (-2147483648), 2147483647), (0, (-2147483648), 2147483647)], [], [])), [(50, 49), (50, 53), (50, 55), (59, 0), (77, 0), (78, 0), (79, 0), (80, 0), (83, 0), (84, 0), (106, 0), (107, 0)], [(.inl (some (1, 2, 0)), ([(0, 0, 0)], [], []), (0, 0)), (.inl (some (1, 2, 0)), ([(0, 0, 60)], [], []), (1, 60))])
def c_c222 : List BCu := []
def c_r276 : BRw := (276, 7, ([(2, 1, 0), (1, 0, 0), (2, 770, 0)], ([(0, (-2147483648), 2147483647)], [], [])), [(1, 4), (11, 2), (11, 3), (12, 0), (13, 0), (15, 0), (15, 1), (15, 2), (15, 3), (48, 0), (49, 0), (109, 0)], [(.inl (some (1, 1, 0)), ([(0, 0, 0)], [], []), (0, 0)), (.inl (some (1, 1, 0)), ([(0, 1, 2)], [], []), (1, 6))])
def c_c276 : List BCu := []
def c_r293 : BRw := (293, 7, ([(2, 1, 0), (1, 0, 0), (2, 770, 0)], ([(0, (-2147483648), 2147483647)], [], [])), [(36, 0), (109, 0)], [(.inl (some (1, 1, 0)), ([(0, 0, 0)], [], []), (0, 0)), (.inl (some (1, 1, 0)), ([(0, 1, 2)], [], []), (1, 6))])
def c_c293 : List BCu := []
def c_r294 : BRw := (294, 7, ([(2, 1, 0), (1, 0, 0), (2, 770, 0)], ([(0, (-2147483648), 2147483647)], [], [])), [(11, 2), (11, 3), (12, 0), (13, 0), (21, 6), (36, 0), (109, 0)], [(.inl (some (1, 1, 0)), ([(0, 0, 0)], [], []), (0, 0)), (.inl (some (1, 1, 0)), ([(0, 1, 3)], [], []), (1, 6))])
def c_c294 : List BCu := []
def c_r281 : BRw := (281, 8, ([(2, 1, 0), (1, 0, 0), (2, 770, 0)], ([(0, (-2147483648), 2147483647)], [], [])), [(1, 4), (1, 8), (11, 2), (11, 3), (12, 0), (13, 0), (15, 0), (15, 1), (15, 2), (15, 3), (15, 4), (15, 7), (16, 0), (18, 0), (19, 0), (109, 0)], [(.inl (some (1, 1, 0)), ([(0, 0, 0)], [], []), (0, 0)), (.inl (some (1, 1, 0)), ([(0, 1, 3)], [], []), (1, 6))])
def c_c281 : List BCu := []
def c_r282 : BRw := (282, 8, ([(2, 1, 0), (1, 0, 0), (1, 1, 0), (2, 770, 0)], ([(0, (-2147483648), 2147483647), (0, (-2147483648), 2147483647)], [], [])), [(1, 4), (1, 8), (3, 8), (11, 2), (11, 3), (12, 0), (13, 0), (15, 0), (15, 1), (15, 2), (15, 3), (15, 4), (15, 7), (16, 0), (19, 0), (109, 0)], [(.inl (some (1, 2, 0)), ([(0, 0, 0)], [], []), (0, 0)), (.inl (some (1, 2, 0)), ([(0, 1, 4)], [], []), (1, 6))])
def c_c282 : List BCu := []
end
