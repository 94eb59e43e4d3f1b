/-! Floats and doubles that come out of ints: a quotient by what isn't 0 is a number (the proofs: wip/b/00f.float, which wants the whole library) -/
theorem ff_32 {x : UInt32} (h : Jvm.FP.Core.fIsNaN x = false) : x &&& 0x7fffffff ≤ 0x7f800000 := sorry
theorem ff_64 {x : UInt64} (h : Jvm.FP.Core.dIsNaN x = false) : x &&& 0x7fffffffffffffff ≤ 0x7ff0000000000000 := sorry
theorem ff_fdiv {a b : Int32} (hb : b ≠ 0) : Jvm.FP.Core.fIsNaN (FP.fdiv (FP.i2f a) (FP.i2f b)) = false := sorry
theorem ff_ddiv {a b : Int32} (hb : b ≠ 0) : Jvm.FP.Core.dIsNaN (FP.ddiv (FP.i2d a) (FP.i2d b)) = false := sorry
theorem ff_f2d {x : UInt32} (h : Jvm.FP.Core.fIsNaN x = false) : Jvm.FP.Core.dIsNaN (FP.f2d x) = false := sorry
