/-! The law's own arrays: at one place behind another, what they hold as a function -/
def n_w (t : Nat) (z : Int) : Value := if 25 ≤ t then .ref z.toNat else n_v z
/-- n arrays; T: their tags, l: their lengths, A: what they hold -/
def n_M (h : AH) (n : Nat) (T : Nat → Nat) (l : Nat → Int) (A : Nat → Int → Int) : Prop := h.length = z_N0 + n ∧ ∀ a, a < n → ∃ vs, h[z_N0 + a]? = some (T a, vs) ∧ (vs.length : Int) = l a ∧ ∀ k : Int, 0 ≤ k → k < l a → vs[k.toNat]? = some (n_w (T a) (A a k))
def n_up (A : Nat → Int → Int) (a : Nat) (k z : Int) : Nat → Int → Int := fun a' k' => if a' = a ∧ k' = k then z else A a' k'
/-- the class's regions are the same -/
def n_sm (h h' : AH) : Prop := ∀ r, r / 64 < z_new → z_al h' r = z_al h r
theorem n_ixk {k : Int} {n : Nat} (k0 : 0 ≤ k) (k1 : k < n) (hn : (n : Int) ≤ 60000) : a_ix (Int32.ofInt k) n = some k.toNat := by
  have hr : n_r k := ⟨by omega, by omega⟩
  have e : (Int32.ofInt k).toInt = k := n_to hr
  have e2 : (Int32.ofInt k).toNatClampNeg = k.toNat := by
    show (Int32.ofInt k).toInt.toNat = k.toNat
    rw [e]
  unfold a_ix
  rw [if_neg, e2]
  intro q
  rcases q with q | q
  · rw [Int32.lt_iff_toInt_lt, e] at q
    have z : (0 : Int32).toInt = 0 := by decide
    omega
  · rw [e2] at q
    omega
theorem n_alE {h h' : AH} (hs : ∀ a, a < z_N0 → h'[a]? = h[a]?) : n_sm h h' := by
  intro r hr
  funext i j k
  unfold z_al
  have hne : r ≠ z_rA := by
    intro q
    rw [q] at hr
    exact absurd hr (by decide)
  rw [if_neg hne, if_neg hne]
  split
  · rename_i a ha
    have ha0 : a < z_N0 := by
      obtain ⟨-, -, q | ⟨q, -, -⟩⟩ := z_ad_lay ha
      · exact z_at_lt q.2
      · unfold z_new at hr
        omega
    have ea : ∀ s, e_at h' a s = e_at h a s := fun s => by
      unfold e_at
      rw [hs a ha0]
    have el : e_len h' a = e_len h a := by
      unfold e_len
      rw [hs a ha0]
    split <;> simp only [ea, el]
  · rfl
theorem n_po {s : Nat} : z_po z_new s = none := rfl
theorem n_pa : z_pa z_new = none := rfl
theorem n_I.of {h h' : AH} (hI : n_I h) (e : ∀ a, a < z_N0 → h'[a]? = h[a]?) (hl : h.length ≤ h'.length) : n_I h' := by
  refine ⟨⟨fun b g row hg hr => ?_, trivial⟩, Nat.le_trans hI.2.1 hl, fun f i j b t' vs' hd hb => ?_⟩
  · have hb : b < z_N0 := by
      rcases Nat.lt_or_ge b z_N0 with q | q
      · exact q
      · have hg : c_gt[b]? = some g := hg
        rw [n_gtN q] at hg
        cases hg
    obtain ⟨us, k1, k2⟩ := hI.1.1 b g row hg hr
    exact ⟨us, (e b hb).trans k1, k2⟩
  · rcases Nat.lt_or_ge b z_N0 with q | q
    · rw [e b q] at hb
      exact hI.2.2 f i j b t' vs' hd hb
    · have hf : f = z_new := z_ad_new (a := 0) hd q
      subst hf
      refine ⟨fun s g v k1 _ => ?_, fun g p e v k1 _ => ?_⟩
      · rw [n_po] at k1
        cases k1
      · rw [n_pa] at k1
        cases k1
section
variable {d mi : Nat} {P : Value → AH → Prop} {pc n : Nat} {al : AL} {st : List Value} {h : AH} {b : Nat} {i : Instr} {T : Nat → Nat} {l : Nat → Int} {A : Nat → Int → Int}
theorem n_Mld {a : Nat} {k : Int} (hM : n_M h n T l A) (ha : a < n) (hi : a_ins mi pc = some (i, 1)) (hz : z_cl i = 3) (hl : 1 = a_len i) (ht : a_ald i (T a) = true) (k0 : 0 ≤ k) (k1 : k < l a) (kk : l a ≤ 60000) (g : n_ok d mi P (pc + 1) al (n_w (T a) (A a k) :: st) h b) : n_ok d mi P pc al (n_v k :: .ref (z_N0 + a) :: st) h b := by
  obtain ⟨vs, h1, h2, h3⟩ := hM.2 a ha
  exact n_ald hi hz hl h1 ht (n_ixk k0 (by omega) (by omega)) (h3 k k0 k1) g
theorem n_Mst {a : Nat} {k z : Int} (hM : n_M h n T l A) (hI : n_I h) (ha : a < n) (hi : a_ins mi pc = some (i, 1)) (hz : z_cl i = 4) (hl : 1 = a_len i) (ht : a_ast i (T a) (n_v z) = some (n_v z)) (hT : T a < 25) (k0 : 0 ≤ k) (k1 : k < l a) (kk : l a ≤ 60000) (hs : ∀ (st : List Value) (vs : List Value), h[z_N0 + a]? = some (T a, vs) → a_ix (Int32.ofInt k) vs.length = some k.toNat → a_st4 (a_own mi) (a_ini mi) i pc al (n_v z :: n_v k :: .ref (z_N0 + a) :: st) h = some (pc + 1, al, st, h.set (z_N0 + a) (T a, vs.set k.toNat (n_v z)), 0, 0)) (g : ∀ h', n_M h' n T l (n_up A a k z) → n_I h' → n_sm h h' → n_ok d mi P (pc + 1) al st h' b) : n_ok d mi P pc al (n_v z :: n_v k :: .ref (z_N0 + a) :: st) h b := by
  obtain ⟨vs, h1, h2, h3⟩ := hM.2 a ha
  refine n_s4 hi hz hl (hs st vs h1 (n_ixk k0 (by omega) (by omega))) (g _ ⟨?_, fun a' ha' => ?_⟩ (hI.of (fun b hb => List.getElem?_set_ne (by omega)) (by rw [List.length_set]; exact Nat.le_refl _)) (n_alE (fun b hb => List.getElem?_set_ne (by omega))))
  · rw [List.length_set]
    exact hM.1
  · by_cases q : a' = a
    · subst q
      refine ⟨vs.set k.toNat (n_v z), ?_, by rw [List.length_set]; exact h2, fun k' k0' k1' => ?_⟩
      · rw [List.getElem?_set_self (by rw [hM.1]; omega)]
      · unfold n_up
        by_cases e : k' = k
        · rw [if_pos ⟨rfl, e⟩, e, List.getElem?_set_self (by omega)]
          unfold n_w
          rw [if_neg (by omega)]
        · rw [if_neg (fun w => e w.2), List.getElem?_set_ne (by omega)]
          exact h3 k' k0' k1'
    · obtain ⟨us, u1, u2, u3⟩ := hM.2 a' ha'
      refine ⟨us, ?_, u2, fun k' k0' k1' => ?_⟩
      · rw [List.getElem?_set_ne (by omega)]
        exact u1
      · unfold n_up
        rw [if_neg (fun w => q w.1)]
        exact u3 k' k0' k1'
theorem n_iast {a : Nat} {k z : Int} (hM : n_M h n T l A) (hI : n_I h) (ha : a < n) (hi : a_ins mi pc = some (.iastore, 1)) (hT : T a = 20) (k0 : 0 ≤ k) (k1 : k < l a) (kk : l a ≤ 60000) (g : ∀ h', n_M h' n T l (n_up A a k z) → n_I h' → n_sm h h' → n_ok d mi P (pc + 1) al st h' b) : n_ok d mi P pc al (n_v z :: n_v k :: .ref (z_N0 + a) :: st) h b := n_Mst hM hI ha hi rfl rfl (by rw [hT]; rfl) (by omega) k0 k1 kk (fun st vs h1 h2 => by
  rw [hT] at h1 ⊢
  unfold a_st4
  dsimp only
  rw [h1]
  dsimp only
  show (match a_ast .iastore 20 (n_v z) with
    | some v => (a_ix (Int32.ofInt k) vs.length).map fun n => (pc + 1, al, st, h.set (z_N0 + a) (20, vs.set n v), 0, 0)
    | none => none) = _
  rw [show a_ast .iastore 20 (n_v z) = some (n_v z) from rfl, h2]
  rfl) g
theorem n_narZ {z : Int} (hz : z = 0 ∨ z = 1) : narrow .boolean (n_v z) = n_v z := by
  rcases hz with rfl | rfl <;> rfl
theorem n_bast {a : Nat} {k z : Int} (hM : n_M h n T l A) (hI : n_I h) (ha : a < n) (hi : a_ins mi pc = some (.bastore, 1)) (hT : T a = 21) (hz : z = 0 ∨ z = 1) (k0 : 0 ≤ k) (k1 : k < l a) (kk : l a ≤ 60000) (g : ∀ h', n_M h' n T l (n_up A a k z) → n_I h' → n_sm h h' → n_ok d mi P (pc + 1) al st h' b) : n_ok d mi P pc al (n_v z :: n_v k :: .ref (z_N0 + a) :: st) h b := by
  have hn : a_ast .bastore 21 (n_v z) = some (n_v z) := by
    rcases hz with rfl | rfl <;> rfl
  exact n_Mst hM hI ha hi rfl rfl (by rw [hT]; exact hn) (by omega) k0 k1 kk (fun st vs h1 h2 => by
    rw [hT] at h1 ⊢
    unfold a_st4
    dsimp only
    rw [h1]
    dsimp only
    show (match a_ast .bastore 21 (n_v z) with
      | some v => (a_ix (Int32.ofInt k) vs.length).map fun n => (pc + 1, al, st, h.set (z_N0 + a) (21, vs.set n v), 0, 0)
      | none => none) = _
    rw [hn, h2]
    rfl) g
theorem n_cast {a : Nat} {k z : Int} (hM : n_M h n T l A) (hI : n_I h) (ha : a < n) (hi : a_ins mi pc = some (.castore, 1)) (hT : T a = 22) (hz : z = 102 ∨ z = 100) (k0 : 0 ≤ k) (k1 : k < l a) (kk : l a ≤ 60000) (g : ∀ h', n_M h' n T l (n_up A a k z) → n_I h' → n_sm h h' → n_ok d mi P (pc + 1) al st h' b) : n_ok d mi P pc al (n_v z :: n_v k :: .ref (z_N0 + a) :: st) h b := by
  have hn : a_ast .castore 22 (n_v z) = some (n_v z) := by
    rcases hz with rfl | rfl <;> rfl
  exact n_Mst hM hI ha hi rfl rfl (by rw [hT]; exact hn) (by omega) k0 k1 kk (fun st vs h1 h2 => by
    rw [hT] at h1 ⊢
    unfold a_st4
    dsimp only
    rw [h1]
    dsimp only
    show (match a_ast .castore 22 (n_v z) with
      | some v => (a_ix (Int32.ofInt k) vs.length).map fun n => (pc + 1, al, st, h.set (z_N0 + a) (22, vs.set n v), 0, 0)
      | none => none) = _
    rw [hn, h2]
    rfl) g
end
