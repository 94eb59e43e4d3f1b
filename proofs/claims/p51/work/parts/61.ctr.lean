/-! Contracts -/
/-- an end: how, what is known then of more symbols, cells and slots made -/
abbrev BPo : Type := BE × BP × (Nat × Nat)
/-- the method, its depth, its arguments with what must be known, what it may write, its ends -/
abbrev BRw : Type := Nat × Nat × (List BV × BP) × BW × List BPo
def b_pre (R : BRw) : BG := (R.2.2.1.2.1, R.2.2.1.2.2.1, R.2.2.1.2.2.2, [], [])
def b_pst (R : BRw) (p : BPo) : BG := (R.2.2.1.2.1 ++ p.2.1.1, p.2.1.2.1, p.2.1.2.2, [], R.2.2.2.1)
def b_post (K : BH) (R : BRw) (ν : BN) (h : AH) (r : AR) : Prop := ∃ p ∈ R.2.2.2.2, ∃ ν', b_ext R.2.2.1.2.1.length (b_pst R p).1.length ν ν' ∧ b_fin (b_pst R p).1.length ν' p.1 r.1 ∧ b_G K ν' h r.2.1 (b_pst R p) ∧ r.2.2 = p.2.2
def b_valid (K : BH) (R : BRw) : Prop := ∀ (ν : BN) (h : AH) (as : List Value), b_G K ν h h (b_pre R) → b_S (b_pre R).1.length ν R.2.2.1.1 as → ∃ r, b_lim R.2.1 R.1 as h = some r ∧ b_post K R ν h r
def b_sy (q : (Nat × Int × Int) × Nat) : BV := if q.1.1 = 0 then (1, q.2, 0) else (3, q.2, 0)
/-- the symbols from N on as values -/
def b_new (N : Nat) (E : BQ) : List BV := (E.zipIdx N).map b_sy
def b_sbE (σ : List BV) (k : BE) : Option BE := match k with
  | .inl none => some (.inl none)
  | .inl (some b) => (b_sb σ b).map fun b => .inl (some b)
  | .inr k => some (.inr k)
def b_mapF (σ : List BV) (F : BF) : BF := F.filterMap fun f => match b_sb σ f.1, b_sb σ f.2.1, b_sb σ f.2.2 with
  | some x, some y, some z => some (x, y, z)
  | _, _, _ => none
def b_mapC (σ : List BV) (C : BC) : BC := C.filterMap fun c => match σ[c.1]?, σ[c.2.1]? with
  | some (1, n, k), some (1, m, k') => some (n, m, k' + c.2.2 - k)
  | _, _ => none
def b_kpW (K : BH) (E : BQ) (W : BW) (f : BV × BV × BV) : Bool := f.2.1.1 == 9 || (match b_fk K E f with
  | some k => !(W.contains k)
  | none => false)
def b_aft (K : BH) (σ : List BV) (R : BRw) (G : BG) (p : BPo) : Option (List (BE × BG × (Nat × Nat))) := (b_sbE (σ ++ b_new G.1.length p.2.1.1) p.1).map fun k => [(k, (G.1 ++ p.2.1.1, b_mapF (σ ++ b_new G.1.length p.2.1.1) p.2.1.2.1 ++ G.2.1.filter (b_kpW K G.1 R.2.2.2.1), b_mapC (σ ++ b_new G.1.length p.2.1.1) p.2.1.2.2 ++ G.2.2.1, G.2.2.2.1, G.2.2.2.2 ++ R.2.2.2.1.filter fun w => !(G.2.2.2.2.contains w)), p.2.2)]
def b_use (K : BH) (R : BRw) (bas : List BV) (G : BG) : Option (List (BE × BG × (Nat × Nat))) := match b_tot (b_bdF K G.1 R.2.2.1.2.1 (b_bdL (List.replicate R.2.2.1.2.1.length none) (R.2.2.1.1.map some) (bas.map some)) G.2.1 R.2.2.1.2.2.1) with
  | some σ => if b_locs σ (R.2.2.1.1.map some) (bas.map some) = true ∧ b_inst K σ R.2.2.1.2 G = true then b_all R.2.2.2.2 (b_aft K σ R G) else none
  | none => none
def b_ctr (K : BH) (tab : List BRw) (d mt : Nat) (bas : List BV) (G : BG) : Option (List (BE × BG × (Nat × Nat))) := match tab with
  | [] => none
  | R :: tab => if R.1 = mt ∧ R.2.1 ≤ d then (match b_use K R bas G with
    | some o => some o
    | none => b_ctr K tab d mt bas G) else b_ctr K tab d mt bas G
section BT
variable {K : BH} {ν : BN} {h0 h : AH} {G : BG}
theorem b_bs_i {σ : List BV} {N : Nat} {b b' : BV} {z : Int} (hl : b_lt N σ) (hs : b_sb σ b = some b') (h : b_i σ.length (b_vT σ ν) b z) : b_i N ν b' z := by
  obtain ⟨k, n, c⟩ := b
  rcases h with ⟨e, hx⟩ | ⟨e, -, hx⟩
  · have e : k = 0 := e
    subst e
    cases hs
    exact Or.inl ⟨rfl, hx⟩
  · have e : k = 1 := e
    subst e
    rw [b_sb1] at hs
    split at hs
    · rename_i c' he
      cases hs
      rw [b_vT_at he] at hx
      exact Or.inl ⟨rfl, hx⟩
    · rename_i m c' he
      cases hs
      rw [b_vT_at he] at hx
      refine Or.inr ⟨rfl, hl n (1, m, c') he (Or.inl rfl), ?_⟩
      have hx : z = ν m + c' + c := hx
      show z = ν m + (c' + c)
      omega
    · cases hs
theorem b_bs_r {σ : List BV} {N : Nat} {b b' : BV} {a : Nat} (hl : b_lt N σ) (hs : b_sb σ b = some b') (h : b_r σ.length (b_vT σ ν) b a) : b_r N ν b' a := b_bs_v (v := .ref a) hl hs h
theorem b_sb9 {σ : List BV} {b b' : BV} (hs : b_sb σ b = some b') : b'.1 = 9 ↔ b.1 = 9 := by
  unfold b_sb at hs
  split at hs
  · rename_i e
    split at hs <;> cases hs <;> (dsimp only; omega)
  · rename_i e
    split at hs <;> cases hs <;> (dsimp only; omega)
  · rename_i e
    split at hs <;> cases hs <;> (dsimp only; omega)
  · cases hs; exact Iff.rfl
theorem b_bs_fa {σ : List BV} {N : Nat} {h : AH} {f : BV × BV × BV} {x y z : BV} (hl : b_lt N σ) (hx : b_sb σ f.1 = some x) (hy : b_sb σ f.2.1 = some y) (hz : b_sb σ f.2.2 = some z) (k : b_fa σ.length (b_vT σ ν) h f) : b_fa N ν h (x, y, z) := by
  obtain ⟨a, t, vs, k1, k2, k3⟩ := k
  refine ⟨a, t, vs, b_bs_r hl hx k1, k2, ?_⟩
  by_cases e : f.2.1.1 = 9
  · rw [if_pos e] at k3
    rw [if_pos (show (x, y, z).2.1.1 = 9 from (b_sb9 hy).mpr e)]
    exact b_bs_i hl hz k3
  · rw [if_neg e] at k3
    rw [if_neg (show ¬ (x, y, z).2.1.1 = 9 from fun q => e ((b_sb9 hy).mp q))]
    obtain ⟨j, v, m1, m2, m3⟩ := k3
    exact ⟨j, v, b_bs_i hl hy m1, m2, b_bs_v hl hz m3⟩
theorem b_fin.ext {N N' : Nat} {ν' : BN} (x : b_ext N N' ν ν') {o : BE} {r : (Option Value) ⊕ Nat} (h : b_fin N ν o r) : b_fin N' ν' o r := by
  cases o with
  | inl o =>
    cases r with
    | inl r =>
      cases o with
      | none => cases r <;> exact h
      | some b =>
        cases r with
        | none => exact h
        | some v => exact b_v.ext x h
    | inr k => cases o <;> exact h
  | inr k => cases r <;> exact h
theorem b_bs_fin {σ : List BV} {N : Nat} {o o' : BE} {r : (Option Value) ⊕ Nat} (hl : b_lt N σ) (hs : b_sbE σ o = some o') (h : b_fin σ.length (b_vT σ ν) o r) : b_fin N ν o' r := by
  cases o with
  | inl o =>
    cases o with
    | none =>
      cases hs
      cases r with
      | inl r => cases r <;> exact h
      | inr k => exact h
    | some b =>
      have hs : (b_sb σ b).map (fun b => (.inl (some b) : BE)) = some o' := hs
      rw [Option.map_eq_some_iff] at hs
      obtain ⟨b', h1, rfl⟩ := hs
      cases r with
      | inl r =>
        cases r with
        | none => exact h
        | some v => exact b_bs_v hl h1 h
      | inr k => exact h
  | inr k =>
    cases hs
    cases r <;> exact h
theorem b_frm.rf : b_frm K [] h h := fun a c hc => ⟨c.2, hc, rfl, fun _ _ => rfl⟩
theorem b_frm.tr {W W' W'' : BW} {h1 h2 : AH} (f : b_frm K W h0 h1) (g : b_frm K W' h1 h2) (hW : ∀ w, w ∈ W → w ∈ W'') (hW' : ∀ w, w ∈ W' → w ∈ W'') : b_frm K W'' h0 h2 := by
  intro a c hc
  obtain ⟨us, k1, k2, k3⟩ := f a c hc
  obtain ⟨ws, m1, m2, m3⟩ := g a _ k1
  exact ⟨ws, m1, m2.trans k2, fun j hj => (m3 j (fun w hw => hj w (hW' w hw))).trans (k3 j (fun w hw => hj w (hW w hw)))⟩
theorem b_frm.mono {W W' : BW} (f : b_frm K W h0 h) (hW : ∀ w, w ∈ W → w ∈ W') : b_frm K W' h0 h := fun a c hc => by
  obtain ⟨us, k1, k2, k3⟩ := f a c hc
  exact ⟨us, k1, k2, fun j hj => k3 j (fun w hw => hj w (hW w hw))⟩
theorem b_kpW_ok (g : b_G K ν h0 h G) {f : BV × BV × BV} {W : BW} {h' : AH} (hf : b_fa G.1.length ν h f) (hk : b_kpW K G.1 W f = true) (hh : b_frm K W h h') : b_fa G.1.length ν h' f := by
  obtain ⟨a, t, vs, k1, k2, k3⟩ := hf
  obtain ⟨us, u1, u2, u3⟩ := hh a _ k2
  refine ⟨a, t, us, k1, u1, ?_⟩
  unfold b_kpW at hk
  split at k3
  · rename_i e
    rw [if_pos e, u2]; exact k3
  · rename_i e
    rw [if_neg e]
    obtain ⟨j, v, m1, m2, m3⟩ := k3
    refine ⟨j, v, m1, ?_, m3⟩
    have e9 : (f.2.1.1 == 9) = false := by simpa using e
    rw [e9, Bool.false_or] at hk
    split at hk
    · rename_i k hfk
      have hkey := b_fk_ok g hfk k1 m1
      rw [u3 j (fun w hw q => by rw [hkey] at q; cases q; simp [hw] at hk)]
      exact m2
    · cases hk
theorem b_new_at {N n : Nat} {E : BQ} {b : BV} (h : (b_new N E)[n]? = some b) : ∃ q, E[n]? = some q ∧ b = b_sy (q, N + n) := by
  unfold b_new at h
  rw [List.getElem?_map, List.getElem?_zipIdx] at h
  cases hq : E[n]? with
  | none => rw [hq] at h; cases h
  | some q =>
    rw [hq] at h
    refine ⟨q, rfl, ?_⟩
    have h : some (b_sy (q, N + n)) = some b := h
    exact (Option.some.inj h).symm
theorem b_new_len {N : Nat} {E : BQ} : (b_new N E).length = E.length := by unfold b_new; rw [List.length_map, List.length_zipIdx]
theorem b_sy_vl {q : Nat × Int × Int} {n : Nat} : b_vl ν (b_sy (q, n)) = ν n ∧ (b_sy (q, n)).2.1 = n := by
  unfold b_sy
  dsimp only
  split
  · exact ⟨by show ν n + 0 = ν n; rw [Int.add_zero], rfl⟩
  · exact ⟨rfl, rfl⟩
theorem b_vl_ext {N N' : Nat} {ν' : BN} (x : b_ext N N' ν ν') {b : BV} (h : (b.1 = 1 ∨ b.1 = 3) → b.2.1 < N) (h4 : b.1 < 4) : b_vl ν' b = b_vl ν b := by
  unfold b_vl
  split
  · rfl
  · split
    · rename_i e
      rw [x.2 _ (h (Or.inl e))]
    · split
      · rfl
      · rw [x.2 _ (h (Or.inr (by omega)))]
theorem b_locsA {σ : List BV} {N : Nat} {ps bs : List BV} {as : List Value} (hl : b_locs σ (ps.map some) (bs.map some) = true) (h : b_S N ν bs as) : b_S σ.length (b_vT σ ν) ps as := by
  have key : ∀ (ps bs : List BV), b_locs σ (ps.map some) (bs.map some) = true → ps.length = bs.length ∧ ∀ (i : Nat) (p : BV), ps[i]? = some p → ∃ b, bs[i]? = some b ∧ b_sb σ p = some b := by
    intro ps
    induction ps with
    | nil =>
      intro bs hb
      cases bs with
      | nil => exact ⟨rfl, fun i p hp => by cases hp⟩
      | cons b bs => cases hb
    | cons p ps ih =>
      intro bs hb
      cases bs with
      | nil => cases hb
      | cons b bs =>
        rw [List.map_cons, List.map_cons, b_locs, Bool.and_eq_true, beq_iff_eq] at hb
        obtain ⟨k1, k2⟩ := ih bs hb.2
        refine ⟨by rw [List.length_cons, List.length_cons, k1], fun i p' hp => ?_⟩
        cases i with
        | zero => cases hp; exact ⟨b, rfl, hb.1⟩
        | succ i => exact k2 i p' hp
  obtain ⟨k1, k2⟩ := key ps bs hl
  refine ⟨k1.trans h.1, fun i p hp => ?_⟩
  obtain ⟨b, b1, b2⟩ := k2 i p hp
  obtain ⟨v, v1, v2⟩ := h.2 i b b1
  exact ⟨v, v1, b_sb_v b2 v2⟩
theorem b_okq4 {E : BQ} {b : BV} {q : Nat × Int × Int} (h : b_okq K E b q = true) : b.1 < 4 := by
  unfold b_okq at h
  split at h
  · split at h
    · omega
    · rw [Bool.and_eq_true, beq_iff_eq] at h
      omega
  · rw [Bool.or_eq_true] at h
    rcases h with h | h
    · rw [beq_iff_eq] at h
      unfold b_gr at h
      split at h
      · omega
      · split at h
        · omega
        · cases h
    · simp only [Bool.and_eq_true, decide_eq_true_eq, beq_iff_eq] at h
      omega
theorem b_use_ok {R : BRw} (hv : b_valid K R) {bas : List BV} {as : List Value} {outs : List (BE × BG × (Nat × Nat))} (hu : b_use K R bas G = some outs) (g : b_G K ν h0 h G) (hs : b_S G.1.length ν bas as) : ∃ r, b_lim R.2.1 R.1 as h = some r ∧ ∃ o ∈ outs, ∃ ν', b_ext G.1.length o.2.1.1.length ν ν' ∧ b_fin o.2.1.1.length ν' o.1 r.1 ∧ b_G K ν' h0 r.2.1 o.2.1 ∧ r.2.2 = o.2.2 := by
  unfold b_use at hu
  split at hu
  · rename_i σ hσ
    split at hu
    · rename_i hc
      obtain ⟨c1, c2⟩ := hc
      obtain ⟨i1, i2, i3, i4, i5⟩ := b_inst_ok g c2
      have i6 : ∀ (n : Nat) (b : BV), σ[n]? = some b → b.1 < 4 := fun n b hb => by
        unfold b_inst at c2
        rw [Bool.and_eq_true] at c2
        obtain ⟨l1, l2⟩ := b_allq_ok g.1 c2.1
        have hn : n < R.2.2.1.2.1.length := by rw [← l1]; exact b_at_lt hb
        exact b_okq4 (l2 n b _ hb (List.getElem?_eq_getElem hn))
      have hA : b_S (b_pre R).1.length (b_vT σ ν) R.2.2.1.1 as := by
        have := b_locsA c1 hs
        rw [i1] at this
        exact this
      obtain ⟨r, r1, p, p1, ν2, x2, f2, g2, e2⟩ := hv (b_vT σ ν) h as ⟨i3, i4, i5, (fun o ho => by cases ho), g.2.2.2.2.1, b_frm.rf⟩ hA
      refine ⟨r, r1, ?_⟩
      obtain ⟨z, z1, z2⟩ := b_all_ok hu p p1
      unfold b_aft at z1
      rw [Option.map_eq_some_iff] at z1
      obtain ⟨k, k1, rfl⟩ := z1
      refine ⟨_, z2 _ List.mem_cons_self, ?_⟩
      have hN : (G.1 ++ p.2.1.1).length = G.1.length + p.2.1.1.length := List.length_append
      have hNT : (R.2.2.1.2.1 ++ p.2.1.1).length = σ.length + p.2.1.1.length := by rw [List.length_append, i1]
      have hL : (σ ++ b_new G.1.length p.2.1.1).length = σ.length + p.2.1.1.length := by rw [List.length_append, b_new_len]
      generalize hν : (fun n => if n < G.1.length then ν n else ν2 (σ.length + (n - G.1.length)) : BN) = ν'
      have x' : b_ext G.1.length (G.1 ++ p.2.1.1).length ν ν' := ⟨by rw [hN]; exact Nat.le_add_right _ _, fun n hn => by rw [← hν]; exact if_pos hn⟩
      have nw : ∀ i, ν' (G.1.length + i) = ν2 (σ.length + i) := fun i => by
        rw [← hν]
        show (if _ then _ else _) = _
        rw [if_neg (by omega), Nat.add_sub_cancel_left]
      generalize hσ' : σ ++ b_new G.1.length p.2.1.1 = σ' at k1 hL ⊢
      have lt' : b_lt (G.1 ++ p.2.1.1).length σ' := by
        intro n b hb hk
        rw [← hσ'] at hb
        rcases Nat.lt_or_ge n σ.length with q | q
        · rw [List.getElem?_append_left q] at hb
          have := i2 n b hb hk
          omega
        · rw [List.getElem?_append_right q] at hb
          obtain ⟨q0, q1, q2⟩ := b_new_at hb
          have q3 := (List.getElem?_eq_some_iff.mp q1).1
          rw [q2, (b_sy_vl (ν := ν)).2]
          omega
      have ag : ∀ n, n < σ'.length → b_vT σ' ν' n = ν2 n := by
        intro n hn
        have hb := List.getElem?_eq_getElem hn
        rw [b_vT_at hb]
        generalize σ'[n] = b at hb
        rw [← hσ'] at hb
        rcases Nat.lt_or_ge n σ.length with q | q
        · rw [List.getElem?_append_left q] at hb
          rw [b_vl_ext x' (fun hk => i2 n b hb hk) (i6 n b hb)]
          rw [x2.2 n (by rw [← i1]; exact q), b_vT_at hb]
        · rw [List.getElem?_append_right q] at hb
          obtain ⟨q0, q1, q2⟩ := b_new_at hb
          rw [q2, b_sy_vl.1, nw]
          congr 1
          omega
      have xx : b_ext (R.2.2.1.2.1 ++ p.2.1.1).length σ'.length ν2 (b_vT σ' ν') := ⟨by rw [hNT, hL]; exact Nat.le_refl _, fun n hn => ag n (by rw [hL]; rw [hNT] at hn; exact hn)⟩
      refine ⟨ν', x', b_bs_fin lt' k1 (f2.ext xx), ⟨fun n q hq => ?_, fun f hf => ?_, fun c hc => ?_, fun o ho => (g.2.2.2.1 o ho).ext x', g2.2.2.2.2.1, ?_⟩, e2⟩
      · have hq : (G.1 ++ p.2.1.1)[n]? = some q := hq
        rcases Nat.lt_or_ge n G.1.length with a | a
        · rw [List.getElem?_append_left a] at hq
          rw [x'.2 n a]
          exact g.1 n q hq
        · rw [List.getElem?_append_right a] at hq
          have e : n = G.1.length + (n - G.1.length) := by omega
          rw [e, nw]
          refine g2.1 _ q ?_
          show (R.2.2.1.2.1 ++ p.2.1.1)[_]? = some q
          rw [List.getElem?_append_right (by omega)]
          rw [show σ.length + (n - G.1.length) - R.2.2.1.2.1.length = n - G.1.length by omega]
          exact hq
      · have hf : f ∈ b_mapF σ' p.2.1.2.1 ++ G.2.1.filter (b_kpW K G.1 R.2.2.2.1) := hf
        rcases List.mem_append.mp hf with a | a
        · obtain ⟨f0, f1, f3⟩ := List.mem_filterMap.mp a
          split at f3
          · rename_i x y z hx hy hz
            cases f3
            exact b_bs_fa lt' hx hy hz ((g2.2.1 f0 f1).ext xx)
          · cases f3
        · obtain ⟨f0, f1⟩ := List.mem_filter.mp a
          exact (b_kpW_ok g (g.2.1 f f0) f1 g2.2.2.2.2.2).ext x'
      · have hc : c ∈ b_mapC σ' p.2.1.2.2 ++ G.2.2.1 := hc
        rcases List.mem_append.mp hc with a | a
        · obtain ⟨c0, c3, c4⟩ := List.mem_filterMap.mp a
          split at c4
          · rename_i n k m k' hx hy
            cases c4
            have c5 := (g2.2.2.1 c0 c3).ext xx
            have c6 := c5.2.2
            rw [b_vT_at hx, b_vT_at hy] at c6
            have lx := lt' _ _ hx (Or.inl rfl)
            have ly := lt' _ _ hy (Or.inl rfl)
            refine ⟨lx, ly, ?_⟩
            have c6 : ν' n + k ≤ ν' m + k' + c0.2.2 := c6
            show ν' n ≤ ν' m + (k' + c0.2.2 - k)
            omega
          · cases c4
        · exact (g.2.2.1 c a).ext x'
      · show b_frm K (G.2.2.2.2 ++ R.2.2.2.1.filter fun w => !(G.2.2.2.2.contains w)) h0 r.2.1
        refine g.2.2.2.2.2.tr g2.2.2.2.2.2 (fun w hw => List.mem_append_left _ hw) (fun w hw => ?_)
        by_cases q : w ∈ G.2.2.2.2
        · exact List.mem_append_left _ q
        · exact List.mem_append_right _ (List.mem_filter.mpr ⟨hw, by simpa using q⟩)
    · cases hu
  · cases hu
theorem b_ctr_ok {d : Nat} : ∀ {tab : List BRw}, (∀ R ∈ tab, b_valid K R) → b_cal K (b_lim d) (b_ctr K tab d)
  | [], hv => fun ν h0 h mt bas as G outs ho => by cases ho
  | R :: tab, hv => fun ν h0 h mt bas as G outs ho g hs => by
    rw [b_ctr] at ho
    split at ho
    · rename_i hc
      split at ho
      · rename_i o hu
        cases ho
        obtain ⟨r, r1, r2⟩ := b_use_ok (hv R List.mem_cons_self) hu g hs
        refine ⟨r, ?_, r2⟩
        have := b_lim_up (k := d - R.2.1) r1
        rw [hc.1, show R.2.1 + (d - R.2.1) = d by omega] at this
        exact this
      · exact b_ctr_ok (fun R hR => hv R (List.mem_cons_of_mem _ hR)) ν h0 h mt bas as G outs ho g hs
    · exact b_ctr_ok (fun R hR => hv R (List.mem_cons_of_mem _ hR)) ν h0 h mt bas as G outs ho g hs
/-- a method's first locals -/
def b_args (mi : Nat) (bas : List BV) : BL := bas.map some ++ List.replicate (a_mxl mi - bas.length) none
def b_argOK (mi : Nat) (bas : List BV) : Bool := decide (bas.length = a_nrg mi) && (decide (bas.length ≤ a_mxl mi) && bas.all fun b => !b_two b)
theorem b_args_ok {N mi : Nat} {bas : List BV} {as : List Value} (hs : b_S N ν bas as) : b_L N ν (b_args mi bas) (a_args mi as) := by
  refine ⟨by simp only [b_args, a_args, List.length_append, List.length_map, List.length_replicate]; rw [hs.1], fun i b hb => ?_⟩
  unfold b_args at hb
  rcases Nat.lt_or_ge i bas.length with q | q
  · rw [List.getElem?_append_left (by rw [List.length_map]; exact q), List.getElem?_map] at hb
    cases hq : bas[i]? with
    | none => rw [hq] at hb; cases hb
    | some b' =>
      rw [hq] at hb
      cases hb
      obtain ⟨v, v1, v2⟩ := hs.2 i b hq
      refine ⟨v, ?_, v2⟩
      unfold a_get a_args
      rw [List.getElem?_append_left (by rw [List.length_map, ← hs.1]; exact q), List.getElem?_map, v1]
      rfl
  · rw [List.getElem?_append_right (by rw [List.length_map]; exact q), List.getElem?_replicate] at hb
    split at hb <;> cases hb
theorem b_argOK_ok {N mi : Nat} {bas : List BV} {as : List Value} (hs : b_S N ν bas as) (ha : b_argOK mi bas = true) : as.length = a_nrg mi ∧ as.length ≤ a_mxl mi ∧ (as.all fun v => v.category == 1) = true := by
  unfold b_argOK at ha
  rw [Bool.and_eq_true, decide_eq_true_eq, Bool.and_eq_true, decide_eq_true_eq] at ha
  rw [← hs.1]
  refine ⟨ha.1, ha.2.1, List.all_eq_true.mpr fun v hv => ?_⟩
  obtain ⟨i, hi⟩ := List.mem_iff_getElem?.mp hv
  have hb : i < bas.length := by rw [hs.1]; exact (List.getElem?_eq_some_iff.mp hi).1
  obtain ⟨v', v1, v2⟩ := hs.2 i _ (List.getElem?_eq_getElem hb)
  rw [hi] at v1
  cases v1
  have := List.all_eq_true.mp ha.2.2 _ (List.getElem_mem hb)
  rw [v2.cat, if_neg (by simpa using this)]
  rfl
/-- calls by contract, or in place -/
noncomputable def b_orc (K : BH) (tab : List BRw) (F : Nat) : Nat → BK
  | 0 => fun mt bas G => b_ctr K tab 0 mt bas G
  | d + 1 => fun mt bas G => match b_ctr K tab (d + 1) mt bas G with
    | some o => some o
    | none => if b_argOK mt bas = true then (match f_l f_o (b_args mt bas) fun bl => b_ex K (b_orc K tab F d) [] mt F true 0 bl [] G 0 0 with
      | some L => b_all L fun o => (match o.1 with
        | .inl q => some [(q, o.2)]
        | .inr _ => none)
      | none => none) else none
theorem b_orc_ok (hJ : b_JF K) {tab : List BRw} (hv : ∀ R ∈ tab, b_valid K R) (F : Nat) : ∀ d, b_cal K (b_lim d) (b_orc K tab F d)
  | 0 => fun ν h0 h mt bas as G outs ho g hs => b_ctr_ok hv ν h0 h mt bas as G outs ho g hs
  | d + 1 => fun ν h0 h mt bas as G outs ho g hs => by
    rw [b_orc] at ho
    dsimp only at ho
    split at ho
    · rename_i o hu
      cases ho
      exact b_ctr_ok hv ν h0 h mt bas as G outs hu g hs
    · split at ho
      · rename_i ha
        rw [f_l_eq f_o_eq] at ho
        split at ho
        · rename_i L hL
          obtain ⟨o, o1, ν', x, o2⟩ := b_ex_ok hJ (mc0 := 0) (ms0 := 0) (b_orc_ok hJ hv F d) F true 0 (b_args mt bas) [] G 0 0 L ν (a_args mt as) [] h 0 0 hL (b_args_ok hs) b_S.nil g rfl rfl
          obtain ⟨z, z1, z2⟩ := b_all_ok ho o o1
          rcases o2 with ⟨q, r, q1, q2, q3, q4, q5, q6⟩ | ⟨pc', bl', bs', al', st', h', mc', ms', q1, -⟩
          · rw [q1] at z1
            cases z1
            refine ⟨r, b_lim_run (b_argOK_ok hs ha) q2, _, z2 _ List.mem_cons_self, ν', x, q3, q4, ?_⟩
            obtain ⟨r1, r2, r3, r4⟩ := r
            have q5 : r3 = 0 + o.2.2.1 := q5
            have q6 : r4 = 0 + o.2.2.2 := q6
            show (r3, r4) = o.2.2
            rw [q5, q6, Nat.zero_add, Nat.zero_add]
          · rw [q1] at z1
            cases z1
        · cases ho
      · cases ho
end BT
