/-! needs: n04. Calls of the class from the law; arrays of arrays -/
def n_psf : Nat → List Int → List ZV
  | _, [] => []
  | i, _ :: xs => (0, (i + 1, 0), (0, 0)) :: n_psf (i + 1) xs
def n_bsf : Nat → List Int → List BV
  | _, [] => []
  | i, _ :: xs => (1, i, 0) :: n_bsf (i + 1) xs
def n_fit : BQ → List Int → Prop
  | [], [] => True
  | q :: E, x :: xs => (q.1 = 0 ∧ q.2.1 ≤ x ∧ x ≤ q.2.2 ∧ n_r x) ∧ n_fit E xs
  | _, _ => False
theorem n_psf_ok : ∀ (xs pre : List Int), (∀ x ∈ xs, n_r x) → z_stk (pre ++ xs) (n_psf pre.length xs) (xs.map n_v)
  | [], _, _ => trivial
  | x :: xs, pre, hr => by
    have ih := n_psf_ok xs (pre ++ [x]) (fun y hy => hr y (List.mem_cons_of_mem _ hy))
    rw [List.append_assoc, List.length_append] at ih
    refine ⟨⟨by rw [List.length_append]; show pre.length + 1 ≤ pre.length + (xs.length + 1); omega, Nat.zero_le _, ?_⟩, ih⟩
    show (Int32.ofInt x).toInt = (pre ++ x :: xs).getD pre.length 0
    rw [n_to (hr x List.mem_cons_self), List.getD_eq_getElem?_getD, List.getElem?_append_right (Nat.le_refl _), Nat.sub_self]
    rfl
theorem n_fit.len : ∀ {E : BQ} {xs : List Int}, n_fit E xs → E.length = xs.length
  | [], [], _ => rfl
  | q :: E, x :: xs, h => congrArg (· + 1) (n_fit.len h.2)
  | [], _ :: _, h => h.elim
  | _ :: _, [], h => h.elim
theorem n_fit.r : ∀ {E : BQ} {xs : List Int}, n_fit E xs → ∀ x ∈ xs, n_r x
  | [], [], _, x, hx => absurd hx List.not_mem_nil
  | q :: E, y :: xs, h, x, hx => by
    rcases List.mem_cons.mp hx with rfl | k
    · exact h.1.2.2.2
    · exact n_fit.r h.2 x k
  | [], _ :: _, h, _, _ => h.elim
  | _ :: _, [], h, _, _ => h.elim
theorem n_fit.at : ∀ {E : BQ} {xs : List Int} {n : Nat} {q : Nat × Int × Int}, n_fit E xs → E[n]? = some q → q.1 = 0 ∧ q.2.1 ≤ xs.getD n 0 ∧ xs.getD n 0 ≤ q.2.2
  | [], [], n, q, _, hq => by
    rw [List.getElem?_nil] at hq
    cases hq
  | p :: E, x :: xs, 0, q, h, hq => by
    cases hq
    exact ⟨h.1.1, h.1.2.1, h.1.2.2.1⟩
  | p :: E, x :: xs, n + 1, q, h, hq => n_fit.at (E := E) (xs := xs) (n := n) h.2 hq
  | [], _ :: _, _, _, h, _ => h.elim
  | _ :: _, [], _, _, h, _ => h.elim
theorem n_bsf_len : ∀ (xs : List Int) (i : Nat), (n_bsf i xs).length = xs.length
  | [], _ => rfl
  | _ :: xs, i => congrArg (· + 1) (n_bsf_len xs (i + 1))
theorem n_bsf_at : ∀ (xs : List Int) (i j : Nat) (b : BV), (n_bsf i xs)[j]? = some b → b = (1, i + j, 0) ∧ j < xs.length
  | [], i, j, b, h => by
    have h : ([] : List BV)[j]? = some b := h
    rw [List.getElem?_nil] at h
    cases h
  | x :: xs, i, 0, b, h => by
    cases h
    exact ⟨rfl, Nat.succ_pos _⟩
  | x :: xs, i, j + 1, b, h => by
    obtain ⟨e, k⟩ := n_bsf_at xs (i + 1) j b h
    exact ⟨by rw [e]; simp only [Prod.mk.injEq, and_true, true_and]; omega, Nat.succ_lt_succ k⟩
theorem n_tot {R : BRw} {xs : List Int} {φ : ZFn} {W : List Nat} {h : AH} (hv : b_valid c_K R) (hz : z_met R.1 xs.length ((2, (0, 0), (0, 0)) :: n_psf 0 xs) φ) (hk : z_kp xs.length W φ) (hW : W.contains z_rA = false) (hI : n_I h) (hA : R.2.2.1.1 = (2, 1, 0) :: n_bsf 0 xs) (hF : R.2.2.1.2.2 = ([], [])) (hE : n_fit R.2.2.1.2.1 xs) (hP : (R.2.2.2.2.all fun p => decide (p.2.2.1 ≤ 1) && (decide (p.2.2.2 ≤ 6) && (match p.1 with
    | .inl (some b) => decide (b.1 = 1)
    | .inl none => false
    | .inr _ => true))) = true) {v : Int} {S : ZS} (hφ : φ xs (z_al h) = ((0, [v]), S)) : ∃ (x : Int32) (h' : AH) (c s : Nat), b_lim R.2.1 R.1 (.ref 1 :: xs.map n_v) h = some (.inl (some (.int x)), h', c, s) ∧ x.toInt = v ∧ n_I h' ∧ z_al h' = S ∧ n_tail h h' ∧ c ≤ 1 ∧ s ≤ 6 := by
  refine n_total (as := .ref 1 :: xs.map n_v) (ν := fun i => xs.getD i 0) hv hz hk hW hI rfl ⟨⟨Nat.zero_le _, Nat.zero_le _, 1, rfl, rfl⟩, n_psf_ok xs [] hE.r⟩ hF (fun n q hq => ?_) ?_ hP hφ
  · obtain ⟨e1, e2, e3⟩ := hE.at hq
    unfold b_q
    rw [if_pos e1]
    exact ⟨e2, e3⟩
  · rw [hA]
    refine ⟨by show (n_bsf 0 xs).length + 1 = (xs.map n_v).length + 1; rw [n_bsf_len, List.length_map], fun i b hb => ?_⟩
    cases i with
    | zero =>
      cases hb
      exact ⟨.ref 1, rfl, Or.inl ⟨rfl, rfl⟩⟩
    | succ j =>
      obtain ⟨rfl, hj⟩ := n_bsf_at xs 0 j b hb
      refine ⟨n_v xs[j], by show (xs.map n_v)[j]? = _; rw [List.getElem?_map, List.getElem?_eq_getElem hj]; rfl, Or.inr ⟨rfl, ?_, ?_⟩⟩
      · show 0 + j < _
        rw [hE.len]
        omega
      · show (Int32.ofInt xs[j]).toInt = xs.getD (0 + j) 0 + 0
        rw [n_to (hE.r _ (List.getElem_mem hj)), Nat.zero_add, List.getD_eq_getElem?_getD, List.getElem?_eq_getElem hj, Int.add_zero]
        rfl
theorem n_obj {h : AH} (hI : n_I h) : ∃ vs, h[1]? = some (11, vs) := by
  obtain ⟨vs, k, -⟩ := hI.1.1 1 _ _ rfl rfl
  exact ⟨vs, k⟩
theorem n_M.tail {h h' : AH} {n : Nat} {T : Nat → Nat} {l : Nat → Int} {A : Nat → Int → Int} (hM : n_M h n T l A) (ht : n_tail h h') : n_M h' n T l A := ⟨by rw [ht.1]; exact hM.1, fun a ha => by
  rw [ht.2 (z_N0 + a) (by omega)]
  exact hM.2 a ha⟩
section
variable {d mi : Nat} {P : Value → AH → Prop} {T : Nat → Nat} {l : Nat → Int} {pc p' len n idx : Nat} {vl vl' st st0 : List Value} {A : Nat → Int → Int} {K : ZS → Prop} {b : Nat} {i : Instr} {xs : List Int} {R : BRw} {φ : ZFn} {W : List Nat} {K' : Int → ZS → Prop}
theorem n_kcl (hi : a_ins mi pc = some (i, len)) (h1 : ∀ st, a_end mi i st = none) (h2 : ∀ st, a_trw mi pc i st = none) (hcl : ∀ h, n_I h → a_call (a_own mi) i st0 h = some (R.1, .ref 1 :: xs.map n_v, st)) (hd : R.2.1 ≤ d) (hv : b_valid c_K R) (hz : z_met R.1 xs.length ((2, (0, 0), (0, 0)) :: n_psf 0 xs) φ) (hk : z_kp xs.length W φ) (hW : W.contains z_rA = false) (hA : R.2.2.1.1 = (2, 1, 0) :: n_bsf 0 xs) (hF : R.2.2.1.2.2 = ([], [])) (hE : n_fit R.2.2.1.2.1 xs) (hP : (R.2.2.2.2.all fun p => decide (p.2.2.1 ≤ 1) && (decide (p.2.2.2 ≤ 6) && (match p.1 with
    | .inl (some b) => decide (b.1 = 1)
    | .inl none => false
    | .inr _ => true))) = true) (hφ : ∀ S, K S → ∃ v S', φ xs S = ((0, [v]), S') ∧ K' v S') (hp : pc + 3 = p') (k : ∀ v, n_J d mi P T l p' vl (n_v v :: st) n A (K' v) b) : n_J d mi P T l pc vl st0 n A K (b + 1) := fun al h a1 a2 a3 a4 => by
  obtain ⟨v, S', e, hK'⟩ := hφ _ a4
  obtain ⟨x, h', c, s, l1, l2, l3, l4, l5, l6, l7⟩ := n_tot hv hz hk hW a3 hA hF hE hP e
  obtain ⟨j, hj⟩ := Nat.exists_eq_add_of_le hd
  have q := n_call (d := d) (b1 := 1) (b := b) (P := P) (al := al) (Q := fun w g => w = n_v v ∧ n_I g ∧ z_al g = S' ∧ n_tail h g) hi (h1 st0) (h2 st0) (hcl h a3) ⟨_, h', c, s, (by rw [hj]; exact b_lim_up l1), ⟨n_xv l2, l3, l4, l5⟩, l6, by omega⟩ (fun w g hw => by
    obtain ⟨rfl, g1, g2, g3⟩ := hw
    rw [hp]
    exact k v al g a1 (a2.tail g3) g1 (by rw [g2]; exact hK'))
  exact q.le (by omega)
end
/-! multianewarray -/
theorem n_mkL {ty : FieldType} {R t a F : Nat} : ∀ (k i : Nat) (h : AH) (vs : List Value), i + k = F → h.length = a + 1 + i → h[a]? = some (t, vs) → vs.length = F → (∀ j, j < i → vs[j]? = some (.ref (a + 1 + j))) → (∀ j, j < i → h[a + 1 + j]? = some (a_row ty R)) → ∃ us, (a_mkL (fun h => h ++ [a_row ty R]) a k i h).length = a + 1 + F ∧ (∀ q, q < a → (a_mkL (fun h => h ++ [a_row ty R]) a k i h)[q]? = h[q]?) ∧ (a_mkL (fun h => h ++ [a_row ty R]) a k i h)[a]? = some (t, us) ∧ us.length = F ∧ (∀ j, j < F → us[j]? = some (.ref (a + 1 + j))) ∧ ∀ j, j < F → (a_mkL (fun h => h ++ [a_row ty R]) a k i h)[a + 1 + j]? = some (a_row ty R)
  | 0, i, h, vs, hi, hl, ha, hv, h1, h2 => by
    have e : i = F := by omega
    subst e
    exact ⟨vs, hl, fun q _ => rfl, ha, hv, h1, h2⟩
  | k + 1, i, h, vs, hi, hl, ha, hv, h1, h2 => by
    have e : a_setR (h ++ [a_row ty R]) a i h.length = (h ++ [a_row ty R]).set a (t, vs.set i (.ref h.length)) := by
      unfold a_setR
      rw [List.getElem?_append_left (by omega), ha]
    obtain ⟨us, u1, u2, u3, u4, u5, u6⟩ := n_mkL (ty := ty) (R := R) (t := t) (a := a) (F := F) k (i + 1) (a_setR (h ++ [a_row ty R]) a i h.length) (vs.set i (.ref h.length)) (by omega) (by rw [e, List.length_set, List.length_append, hl]; rfl) (by rw [e]; exact List.getElem?_set_self (by rw [List.length_append]; omega)) (by rw [List.length_set]; exact hv) (fun j hj => by
      by_cases q : j = i
      · subst q
        rw [List.getElem?_set_self (by omega), hl]
      · rw [List.getElem?_set_ne (Ne.symm q)]
        exact h1 j (by omega)) (fun j hj => by
      rw [e, List.getElem?_set_ne (by omega)]
      by_cases q : j = i
      · subst q
        rw [List.getElem?_append_right (by omega), hl, Nat.sub_self]
        rfl
      · rw [List.getElem?_append_left (by omega)]
        exact h2 j (by omega))
    refine ⟨us, u1, fun q hq => ?_, u3, u4, u5, u6⟩
    show (a_mkL _ a k (i + 1) (a_setR (h ++ [a_row ty R]) a i h.length))[q]? = _
    rw [u2 q hq, e, List.getElem?_set_ne (by omega), List.getElem?_append_left (by omega)]
def n_mkA (A : Nat → Int → Int) (n : Nat) : Nat → Int → Int := fun a k => if a = n then ((z_N0 + n + 1 : Nat) : Int) + k else if n < a then 0 else A a k
theorem n_M.mk {h : AH} {n F R : Nat} {T : Nat → Nat} {l : Nat → Int} {A : Nat → Int → Int} {ty : FieldType} (hM : n_M h n T l A) (hT : T n = a_atag (.array ty)) (hT2 : 25 ≤ T n) (hR : ∀ j, j < F → T (n + 1 + j) = a_atag ty) (hR2 : a_atag ty < 25) (hd : defaultValue ty = .int 0) (hl : l n = F) (hlR : ∀ j, j < F → l (n + 1 + j) = R) : n_M (a_mk [.array ty, ty] [F, R] h) (n + 1 + F) T l (n_mkA A n) ∧ ∀ q, q < z_N0 → (a_mk [.array ty, ty] [F, R] h)[q]? = h[q]? := by
  have e : a_mk [.array ty, ty] [F, R] h = a_mkL (fun h => h ++ [a_row ty R]) h.length F 0 (h ++ [a_row (.array ty) F]) := rfl
  obtain ⟨us, u1, u2, u3, u4, u5, u6⟩ := n_mkL (ty := ty) (R := R) (t := a_atag (.array ty)) (a := h.length) (F := F) F 0 (h ++ [a_row (.array ty) F]) (List.replicate F (defaultValue (.array ty))) (Nat.zero_add _) (by rw [List.length_append]; rfl) (by rw [List.getElem?_append_right (Nat.le_refl _), Nat.sub_self]; rfl) List.length_replicate (fun j hj => absurd hj (Nat.not_lt_zero _)) (fun j hj => absurd hj (Nat.not_lt_zero _))
  rw [e]
  rw [hM.1] at u1 u2 u3 u5 u6 ⊢
  have low : ∀ q, q < z_N0 + n → (h ++ [a_row (.array ty) F])[q]? = h[q]? := fun q hq => List.getElem?_append_left (by rw [hM.1]; exact hq)
  refine ⟨⟨by rw [u1]; omega, fun a ha => ?_⟩, fun q hq => by rw [u2 q (by omega), low q (by omega)]⟩
  rcases Nat.lt_trichotomy a n with q | rfl | q
  · obtain ⟨vs, v1, v2, v3⟩ := hM.2 a q
    refine ⟨vs, by rw [u2 _ (by omega), low _ (by omega)]; exact v1, v2, fun k k0 k1 => ?_⟩
    unfold n_mkA
    rw [if_neg (by omega), if_neg (by omega)]
    exact v3 k k0 k1
  · refine ⟨us, by rw [u3, hT], by rw [hl, u4], fun k k0 k1 => ?_⟩
    unfold n_mkA n_w
    rw [if_pos rfl, if_pos hT2, u5 k.toNat (by omega)]
    have : z_N0 + a + 1 + k.toNat = (((z_N0 + a + 1 : Nat) : Int) + k).toNat := by omega
    rw [this]
  · obtain ⟨j, rfl⟩ : ∃ j, a = n + 1 + j := ⟨a - n - 1, by omega⟩
    refine ⟨List.replicate R (.int 0), ?_, by rw [hlR j (by omega), List.length_replicate], fun k k0 k1 => ?_⟩
    · have := u6 j (by omega)
      rw [show z_N0 + (n + 1 + j) = z_N0 + n + 1 + j by omega, this]
      unfold a_row
      rw [hR j (by omega), hd]
    · rw [hlR j (by omega)] at k1
      unfold n_mkA n_w
      rw [if_neg (show ¬ n + 1 + j = n by omega), if_pos (show n < n + 1 + j by omega), if_neg (show ¬ 25 ≤ T (n + 1 + j) by rw [hR j (by omega)]; omega), List.getElem?_replicate, if_pos (by omega)]
      rfl
