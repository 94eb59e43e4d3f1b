/-! needs: n07. multianewarray in the law -/
theorem n_clv {m : Nat} (hm : m ≤ 60000) : (Int32.ofInt (m : Int)).toNatClampNeg = m ∧ ¬ Int32.ofInt (m : Int) < 0 := by
  have e : (Int32.ofInt (m : Int)).toInt = m := n_to ⟨by omega, by omega⟩
  refine ⟨?_, fun q => ?_⟩
  · show (Int32.ofInt (m : Int)).toInt.toNat = m
    rw [e]
    exact Int.toNat_natCast m
  · rw [Int32.lt_iff_toInt_lt, e] at q
    have z : (0 : Int32).toInt = 0 := by decide
    omega
theorem n_kmulti {d mi : Nat} {P : Value → AH → Prop} {T : Nat → Nat} {l : Nat → Int} {pc p' n : Nat} {vl st : List Value} {A : Nat → Int → Int} {K : ZS → Prop} {b F R idx : Nat} {ty : FieldType} (hK : n_cl K) (hi : a_ins mi pc = some (.multianewarray idx 2, 4)) (hty : a_mty (a_own mi) idx = some (.array ty)) (hc : a_comps (.array ty) = [.array ty, ty]) (hok : a_tyok (.array ty) = true ∧ a_tyok ty = true) (hF : F ≤ 10) (hR : R ≤ 10) (hT : T n = a_atag (.array ty)) (hT2 : 25 ≤ T n) (hTR : ∀ j, j < F → T (n + 1 + j) = a_atag ty) (hR2 : a_atag ty < 25) (hd : defaultValue ty = .int 0) (hl : l n = F) (hlR : ∀ j, j < F → l (n + 1 + j) = R) (hp : pc + 4 = p') (k : n_J d mi P T l p' vl (n_p n :: st) (n + 1 + F) (n_mkA A n) K b) : n_J d mi P T l pc vl (n_v (R : Int) :: n_v (F : Int) :: st) n A K (b + 11) := fun al h a1 a2 a3 a4 => by
  obtain ⟨f1, f2⟩ := n_clv (m := F) (by omega)
  obtain ⟨r1, r2⟩ := n_clv (m := R) (by omega)
  have hty2 : a_tys (a_comps (.array ty)) [F, R] = true := by
    rw [hc]
    simp [a_tys, hok.1, hok.2]
    omega
  have hFR : F * R ≤ 10 * 10 := Nat.mul_le_mul hF hR
  obtain ⟨m1, m2⟩ := a2.mk (F := F) (R := R) hT hT2 hTR hR2 hd hl hlR
  refine n_st (c := 1 + F * 1) (s := F + F * R) (pc' := pc + 4) (al' := al) (st' := .ref h.length :: st) (h' := a_mk [.array ty, ty] [F, R] h) (b := b) hi rfl rfl rfl ?_ (by omega) (by omega) ?_
  · refine a_by6 rfl ?_
    show (match a_mty (a_own mi) idx with
      | some t => if a_tys (a_comps t) [(Int32.ofInt (F : Int)).toNatClampNeg, (Int32.ofInt (R : Int)).toNatClampNeg] = true ∧ ¬ Int32.ofInt (F : Int) < 0 ∧ ¬ Int32.ofInt (R : Int) < 0 then some (pc + 4, al, Value.ref h.length :: st, a_mk (a_comps t) [(Int32.ofInt (F : Int)).toNatClampNeg, (Int32.ofInt (R : Int)).toNatClampNeg] h, a_mkC [(Int32.ofInt (F : Int)).toNatClampNeg, (Int32.ofInt (R : Int)).toNatClampNeg], a_mkS [(Int32.ofInt (F : Int)).toNatClampNeg, (Int32.ofInt (R : Int)).toNatClampNeg]) else none
      | none => none) = _
    rw [hty]
    dsimp only
    rw [f1, r1, if_pos ⟨hty2, f2, r2⟩, hc]
    rfl
  · rw [hp, a2.1]
    exact k al _ a1 m1 (a3.of m2 (by rw [m1.1, a2.1]; omega)) (hK _ _ (n_alE m2) a4)
