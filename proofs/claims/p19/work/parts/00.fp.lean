/-! a quotient of two ints, the second not 0, is a number -/
theorem vf_no {x : UInt32} (h : FP.Core.fIsNaN x = false) : vf_n32 x := by
  unfold vf_n32
  rw [UInt32.le_iff_toNat_le, UInt32.toNat_and]
  have h1 : (0x7fffffff : UInt32).toNat = 2 ^ 31 - 1 := by decide
  have h2 : (0x7f800000 : UInt32).toNat = 2139095040 := by decide
  rw [h1, h2, Nat.and_two_pow_sub_one_eq_mod]
  rw [← Bool.not_eq_true, FP.Core.isNaN_bits32] at h
  omega
theorem fq_core {x y : Int32} (hy : ¬ y = 0) : FP.Core.fIsNaN (FP.fdiv (FP.i2f x) (FP.i2f y)) = false :=
  FP.Core.fdiv_out (FP.Core.i2f_fin x).notNaN (FP.Core.i2f_fin y) (fun h => FP.Core.i2f_ne_zero hy ((FP.Core.zero_bits232 _).mp h))
theorem fq_no {x y : Int32} (hy : ¬ y = 0) : vf_n32 (FP.fdiv (FP.i2f x) (FP.i2f y)) := vf_no (fq_core hy)
