/-! ===== the quotients of whole numbers are numbers ===== -/
theorem n64_all : bN64 := by
  intro x y hy
  have h1 : FP.Core.dIsNaN (FP.Core.ddiv (FP.Core.i2d x) (FP.Core.i2d y)) = false := FP.Core.ddiv_out (FP.Core.DFin.notNaN (FP.Core.i2d_fin x)) (FP.Core.i2d_fin y) (fun hz => FP.Core.i2d_ne_zero hy ((FP.Core.zero_bits2 _).mp hz))
  show vf_n64 (FP.Core.ddiv (FP.Core.i2d x) (FP.Core.i2d y))
  generalize FP.Core.ddiv (FP.Core.i2d x) (FP.Core.i2d y) = r9 at h1 ⊢
  have h2 : ¬ 9218868437227405312 < r9.toNat % 2 ^ 63 := fun z => by rw [(FP.Core.isNaN_bits r9).mpr z] at h1; cases h1
  unfold vf_n64
  rw [UInt64.le_iff_toNat_le, UInt64.toNat_and]
  show r9.toNat &&& 9223372036854775807 ≤ 9218868437227405312
  rw [show (9223372036854775807 : Nat) = 2 ^ 63 - 1 by decide, Nat.and_two_pow_sub_one_eq_mod]
  omega
theorem n32_all : bN32 := by
  intro x y hy
  have h1 : FP.Core.fIsNaN (FP.Core.fdiv (FP.Core.i2f x) (FP.Core.i2f y)) = false := FP.Core.fdiv_out (FP.Core.FFin.notNaN (FP.Core.i2f_fin x)) (FP.Core.i2f_fin y) (fun hz => FP.Core.i2f_ne_zero hy ((FP.Core.zero_bits232 _).mp hz))
  show vf_n32 (FP.Core.fdiv (FP.Core.i2f x) (FP.Core.i2f y))
  generalize FP.Core.fdiv (FP.Core.i2f x) (FP.Core.i2f y) = r9 at h1 ⊢
  have h2 : ¬ 2139095040 < r9.toNat % 2 ^ 31 := fun z => by rw [(FP.Core.isNaN_bits32 r9).mpr z] at h1; cases h1
  unfold vf_n32
  rw [UInt32.le_iff_toNat_le, UInt32.toNat_and]
  show r9.toNat &&& 2147483647 ≤ 2139095040
  rw [show (2147483647 : Nat) = 2 ^ 31 - 1 by decide, Nat.and_two_pow_sub_one_eq_mod]
  omega
