/-! Floats and doubles that come out of ints: a quotient by what isn't 0 is a number -/
theorem ff_32 {x : UInt32} (h : Jvm.FP.Core.fIsNaN x = false) : x &&& 0x7fffffff ≤ 0x7f800000 := by
  have h1 : ¬ 2139095040 < x.toNat % 2 ^ 31 := fun q => by
    rw [(Jvm.FP.Core.isNaN_bits32 x).mpr q] at h
    cases h
  rw [UInt32.le_iff_toNat_le, UInt32.toNat_and]
  have e : (0x7fffffff : UInt32).toNat = 2 ^ 31 - 1 := rfl
  rw [e, Nat.and_two_pow_sub_one_eq_mod]
  have e2 : (0x7f800000 : UInt32).toNat = 2139095040 := rfl
  rw [e2]
  omega
theorem ff_64 {x : UInt64} (h : Jvm.FP.Core.dIsNaN x = false) : x &&& 0x7fffffffffffffff ≤ 0x7ff0000000000000 := by
  have h1 : ¬ 9218868437227405312 < x.toNat % 2 ^ 63 := fun q => by
    rw [(Jvm.FP.Core.isNaN_bits x).mpr q] at h
    cases h
  rw [UInt64.le_iff_toNat_le, UInt64.toNat_and]
  have e : (0x7fffffffffffffff : UInt64).toNat = 2 ^ 63 - 1 := rfl
  rw [e, Nat.and_two_pow_sub_one_eq_mod]
  have e2 : (0x7ff0000000000000 : UInt64).toNat = 9218868437227405312 := rfl
  rw [e2]
  omega
theorem ff_fdiv {a b : Int32} (hb : b ≠ 0) : Jvm.FP.Core.fIsNaN (FP.fdiv (FP.i2f a) (FP.i2f b)) = false := Jvm.FP.Core.fdiv_out (Jvm.FP.Core.i2f_fin a).notNaN (Jvm.FP.Core.i2f_fin b) (fun q => Jvm.FP.Core.i2f_ne_zero hb ((Jvm.FP.Core.zero_bits232 _).mp q))
theorem ff_ddiv {a b : Int32} (hb : b ≠ 0) : Jvm.FP.Core.dIsNaN (FP.ddiv (FP.i2d a) (FP.i2d b)) = false := Jvm.FP.Core.ddiv_out (Jvm.FP.Core.i2d_fin a).notNaN (Jvm.FP.Core.i2d_fin b) (fun q => Jvm.FP.Core.i2d_ne_zero hb ((Jvm.FP.Core.zero_bits2 _).mp q))
theorem ff_f2d {x : UInt32} (h : Jvm.FP.Core.fIsNaN x = false) : Jvm.FP.Core.dIsNaN (FP.f2d x) = false := by
  have e : FP.f2d x = Jvm.FP.Core.f2d x := by
    show (if Jvm.FP.Core.fIsNaN x = true then _ else _) = _
    rw [if_neg (by rw [h]; decide)]
  rw [e]
  exact Jvm.FP.Core.f2d_out h
