/-! Shows that go: what is found, what is taken, what is set anew, on both sides -/
theorem zcnt_cut {p : Int → Bool} : ∀ (a b : Nat) (k : Int), zcnt p (a + b) k = zcnt p a k + zcnt p b (k + a)
  | a, b, k => by
    rw [zcnt_sum, zcnt_sum, zcnt_sum]
    exact zsum_cut a b k
theorem zcnt_lt {p : Int → Bool} {i k : Int} (i0 : 0 ≤ i) (ik : i < k) (hp : p i = true) : zcnt p i.toNat 0 < zcnt p k.toNat 0 := by
  have e : k.toNat = (i.toNat + 1) + (k.toNat - i.toNat - 1) := by omega
  have e0 : (0 : Int) + (i.toNat : Int) = i := by omega
  have h1 := zcnt_cut (p := p) (i.toNat + 1) (k.toNat - i.toNat - 1) 0
  have h2 := zcnt_app (p := p) i.toNat 0
  have h3 := zcnt_le p (k.toNat - i.toNat - 1) (0 + ((i.toNat + 1 : Nat) : Int))
  rw [e0, hp, if_pos rfl] at h2
  rw [← e] at h1
  omega
def zfdW : List Nat := [r_Grid_found, r_Grid_foundCount]
/-- the found ones in order -/
def zFd (c : ZS) (g : Int → Bool) (N : Int) : Prop := ∀ k, 0 ≤ k → k < N → g k = true → c r_Grid_found 0 0 (zcnt g k.toNat 0) = k
theorem q_find {c : ZS} {g : Int → Bool} {N : Int} (N60 : N ≤ 60) {G : Int → ZS → ZR} (hE : ∀ k S, k = N → (∀ r, zfdW.contains r = false → S r = c r) → G k S = ((0, [S r_Grid_foundCount 0 0 0]), S)) (hG : ∀ k S, 0 ≤ k → k < N → (∀ r, zfdW.contains r = false → S r = c r) → G k S = if g k = true then e_bind (f_Grid_addFound [k] S) (fun _ S1 => G (k + 1) S1) else G (k + 1) S) : ∀ (j : Nat) (k : Int) (S : ZS), 0 ≤ k → k + j = N → (∀ r, zfdW.contains r = false → S r = c r) → S r_Grid_foundCount 0 0 0 = zcnt g k.toNat 0 → zFd S g k → ∃ S', G k S = ((0, [zcnt g N.toNat 0]), S') ∧ (∀ r, zfdW.contains r = false → S' r = c r) ∧ S' r_Grid_foundCount 0 0 0 = zcnt g N.toNat 0 ∧ zFd S' g N := by
  intro j
  induction j with
  | zero =>
    intro k S k0 k1 fr hc hf
    have e : k = N := by omega
    subst e
    exact ⟨S, by rw [hE k S rfl fr, hc], fr, hc, hf⟩
  | succ j ih =>
    intro k S k0 k1 fr hc hf
    have ek : (k + 1).toNat = k.toNat + 1 := by omega
    have e0 : (0 : Int) + (k.toNat : Int) = k := by omega
    have hcnt := zcnt_app (p := g) k.toNat 0
    rw [e0, ← ek] at hcnt
    have hle := zcnt_le g k.toNat 0
    rw [hG k S k0 (by omega) fr]
    by_cases q : g k = true
    · rw [q, if_pos rfl] at hcnt
      have hw : e_wr (zcnt g k.toNat 0 + 1) = zcnt g k.toNat 0 + 1 := e_wr_id (by omega) (by omega)
      have ea : f_Grid_addFound [k] S = ((0, []), e_upd (e_upd S r_Grid_found 0 0 (zcnt g k.toNat 0) k) r_Grid_foundCount 0 0 0 (zcnt g k.toNat 0 + 1)) := by
        unfold f_Grid_addFound
        dsimp only
        rw [hc, zb_d, if_neg (by omega), hw]
      rw [if_pos q, ea, e_bnd0]
      refine ih (k + 1) _ (by omega) (by omega) (fun r hr => ?_) ?_ (fun i i0 i1 hi => ?_)
      · rw [← fr r hr]
        funext a b d
        have h1 : (r == r_Grid_found) = false := by
          cases e : r == r_Grid_found with
          | false => rfl
          | true => rw [beq_iff_eq] at e; rw [e] at hr; exact absurd hr (by decide)
        have h2 : (r == r_Grid_foundCount) = false := by
          cases e : r == r_Grid_foundCount with
          | false => rfl
          | true => rw [beq_iff_eq] at e; rw [e] at hr; exact absurd hr (by decide)
        rw [e_un h2, e_un h1]
      · rw [e_us, hcnt]
      · rw [e_un (by decide), e_ur]
        by_cases e : i = k
        · rw [e, if_pos ⟨rfl, rfl, rfl⟩]
        · have := zcnt_lt i0 (show i < k by omega) hi
          rw [if_neg (fun z => by omega)]
          exact hf i i0 (by omega) hi
    · rw [if_neg q] at hcnt ⊢
      refine ih (k + 1) S (by omega) (by omega) fr (by rw [hcnt, hc, Int.add_zero]) (fun i i0 i1 hi => ?_)
      by_cases e : i = k
      · rw [e] at hi
        exact absurd hi q
      · exact hf i i0 (by omega) hi
/-- one round of what is taken: the cause is told, on both sides -/
def zTk (cz : Int) (g : Int → Bool) (k : Int) (c m C M : ZS) : Prop := (∀ r, ([r_Show_cause] ++ zArC).contains r = false → C r = c r) ∧ (∀ r, ([r_m_gone] ++ zArM).contains r = false → M r = m r) ∧ (∀ i, C r_Show_cause i 0 0 = if 0 ≤ i ∧ i < k ∧ g i = true then cz else c r_Show_cause i 0 0) ∧ (∀ i, M r_m_gone 0 0 i = if 0 ≤ i ∧ i < k ∧ g i = true then cz else m r_m_gone 0 0 i) ∧ zAr C M
theorem zTk.skip {cz k : Int} {g : Int → Bool} {c m C M : ZS} (h : zTk cz g k c m C M) (hk : g k = false) : zTk cz g (k + 1) c m C M := by
  obtain ⟨h1, h2, h3, h4, h5⟩ := h
  have e : ∀ i, (0 ≤ i ∧ i < k + 1 ∧ g i = true) ↔ (0 ≤ i ∧ i < k ∧ g i = true) := fun i => by
    constructor
    · rintro ⟨a, b, d⟩
      refine ⟨a, ?_, d⟩
      by_cases e : i = k
      · rw [e, hk] at d
        cases d
      · omega
    · rintro ⟨a, b, d⟩
      exact ⟨a, by omega, d⟩
  refine ⟨h1, h2, fun i => ?_, fun i => ?_, h5⟩
  · rw [h3]
    simp only [e]
  · rw [h4]
    simp only [e]
theorem zcA_r {l f : Int} {c : ZS} {X : List Nat} {r : Nat} (hr : (X ++ zArC).contains r = false) : (zcA l f c) r = c r := zcA_o (by
  cases e : zArC.contains r with
  | false => rfl
  | true =>
    rw [List.contains_iff_mem] at e
    have := List.contains_iff_mem.mpr (List.mem_append_right X e)
    rw [hr] at this
    cases this)
theorem zmA_r {l f : Int} {m : ZS} {X : List Nat} {r : Nat} (hr : (X ++ zArM).contains r = false) : (zmA l f m) r = m r := zmA_o (by
  cases e : zArM.contains r with
  | false => rfl
  | true =>
    rw [List.contains_iff_mem] at e
    have := List.contains_iff_mem.mpr (List.mem_append_right X e)
    rw [hr] at this
    cases this)
theorem z_ne1 {X : List Nat} {q r : Nat} (hr : ([q] ++ X).contains r = false) : (r == q) = false := by
  cases e : r == q with
  | false => rfl
  | true =>
    rw [beq_iff_eq] at e
    rw [e] at hr
    have := List.contains_iff_mem.mpr (List.mem_append_left X (List.mem_singleton.mpr (rfl : q = q)))
    rw [hr] at this
    cases this
theorem zTk.take {cz k l f : Int} {g : Int → Bool} {c m C M : ZS} (h : zTk cz g k c m C M) (k0 : 0 ≤ k) (hk : g k = true) : zTk cz g (k + 1) c m (zcA l f (e_upd C r_Show_cause k 0 0 cz)) (zmA l f (e_upd M r_m_gone 0 0 k cz)) := by
  obtain ⟨h1, h2, h3, h4, h5⟩ := h
  refine ⟨fun r hr => ?_, fun r hr => ?_, fun i => ?_, fun i => ?_, zAr.add (zAr_rel.uc (zAr_rel.um h5 (by decide)) (by decide))⟩
  · rw [zcA_r hr, ← h1 r hr]
    funext a b d
    exact e_un (z_ne1 hr)
  · rw [zmA_r hr, ← h2 r hr]
    funext a b d
    exact e_un (z_ne1 hr)
  · rw [zcA_o (by decide), e_ur, h3]
    by_cases e : i = k
    · rw [if_pos ⟨e, rfl, rfl⟩, if_pos ⟨by omega, by omega, e ▸ hk⟩]
    · rw [if_neg (fun z => e z.1)]
      by_cases w : 0 ≤ i ∧ i < k ∧ g i = true
      · rw [if_pos w, if_pos ⟨w.1, by omega, w.2.2⟩]
      · rw [if_neg w, if_neg (fun z => w ⟨z.1, by omega, z.2.2⟩)]
  · rw [zmA_o (by decide), e_ur, h4]
    by_cases e : i = k
    · rw [if_pos ⟨rfl, rfl, e⟩, if_pos ⟨by omega, by omega, e ▸ hk⟩]
    · rw [if_neg (fun z => e z.2.2)]
      by_cases w : 0 ≤ i ∧ i < k ∧ g i = true
      · rw [if_pos w, if_pos ⟨w.1, by omega, w.2.2⟩]
      · rw [if_neg w, if_neg (fun z => w ⟨z.1, by omega, z.2.2⟩)]
/-- behind all of it the grid's relations hold -/
theorem zTk.gr {cz : Int} {g : Int → Bool} {c m C M : ZS} (hc : cz = 115 ∨ cz = 108 ∨ cz = 119) (h : zTk cz g (c r_Grid_showCount 0 0 0) c m C M) (hg : zGr c m) : zGr C M := by
  obtain ⟨h1, h2, h3, h4, h5⟩ := h
  have k : ∀ {R : ZS → ZS → Prop} {KC KM : List Nat}, zRel R KC KM → z_nin KC ([r_Show_cause] ++ zArC) = true → z_nin KM ([r_m_gone] ++ zArM) = true → R c m → R C M := fun hr hq hq' h => hr h (fun r hr' => h1 r (z_nin_ok hq hr')) (fun r hr' => h2 r (z_nin_ok hq' hr'))
  obtain ⟨g1, g2, g3, g4, g5, g6, g7, g8, g9, g10⟩ := hg
  refine ⟨k zFs_rel (by decide) (by decide) g1, k zVe_rel (by decide) (by decide) g2, k zPk_rel (by decide) (by decide) g3, k zPh_rel (by decide) (by decide) g4, k zHr_rel (by decide) (by decide) g5, k zSt_rel (by decide) (by decide) g6, ?_, ?_, k zQu_rel (by decide) (by decide) g9, h5⟩
  · obtain ⟨s1, s2, s3⟩ := g7
    unfold zSw
    rw [h1 r_Grid_showCount (by decide), h1 r_Show_film (by decide), h1 r_Show_screen (by decide), h1 r_Show_first (by decide), h1 r_Show_length (by decide), h1 r_x_filmCount (by decide), h1 r_Film_minutes (by decide), h2 r_m_shows (by decide), h2 r_m_showFilms (by decide), h2 r_m_showScreens (by decide), h2 r_m_showHours (by decide)]
    refine ⟨s1, s2, fun i i0 i1 => ?_⟩
    obtain ⟨a, b⟩ := s3 i i0 i1
    rw [h3, h4]
    by_cases w : 0 ≤ i ∧ i < c r_Grid_showCount 0 0 0 ∧ g i = true
    · rw [if_pos w, if_pos w]
      exact ⟨Or.inr ⟨hc, rfl⟩, fun z => by omega⟩
    · rw [if_neg w, if_neg w]
      exact ⟨a, b⟩
  · obtain ⟨tA, tB, tC⟩ := g8
    unfold zTo
    rw [h1 r_Grid_showCount (by decide), h1 r_Show_film (by decide), h1 r_Show_first (by decide), h1 r_Grid_hour (by decide), h1 r_Film_section (by decide), h1 r_Film_isWithdrawn (by decide), h1 r_Show_length (by decide), h1 r_Show_screen (by decide)]
    have hca : ∀ i, C r_Show_cause i 0 0 = 45 → c r_Show_cause i 0 0 = 45 := fun i z => by
      rw [h3] at z
      by_cases w : 0 ≤ i ∧ i < c r_Grid_showCount 0 0 0 ∧ g i = true
      · rw [if_pos w] at z
        omega
      · rw [if_neg w] at z
        exact z
    exact ⟨fun i i0 i1 z1 z2 => tA i i0 i1 (hca i z1) z2, tB, fun i j i0 ij j1 z1 z2 => tC i j i0 ij j1 (hca i z1) (hca j z2)⟩
