/-! ===== quotients of numbers are numbers ===== -/
theorem fp_b64 (x : UInt64) : x &&& 0x7fffffffffffffff ≤ 0x7ff0000000000000 ↔ x.toNat % 2 ^ 63 ≤ 9218868437227405312 := by
  rw [UInt64.le_iff_toNat_le, UInt64.toNat_and]
  have h1 : (0x7fffffffffffffff : UInt64).toNat = 2 ^ 63 - 1 := by decide
  have h2 : (0x7ff0000000000000 : UInt64).toNat = 9218868437227405312 := by decide
  rw [h1, h2, Nat.and_two_pow_sub_one_eq_mod]
theorem fp_b32 (x : UInt32) : x &&& 0x7fffffff ≤ 0x7f800000 ↔ x.toNat % 2 ^ 31 ≤ 2139095040 := by
  rw [UInt32.le_iff_toNat_le, UInt32.toNat_and]
  have h1 : (0x7fffffff : UInt32).toNat = 2 ^ 31 - 1 := by decide
  have h2 : (0x7f800000 : UInt32).toNat = 2139095040 := by decide
  rw [h1, h2, Nat.and_two_pow_sub_one_eq_mod]
theorem fp_n64 {x : UInt64} : x &&& 0x7fffffffffffffff ≤ 0x7ff0000000000000 ↔ Jvm.FP.Core.dIsNaN x = false := by
  rw [fp_b64, ← Bool.not_eq_true, Jvm.FP.Core.isNaN_bits]; omega
theorem fp_n32 {x : UInt32} : x &&& 0x7fffffff ≤ 0x7f800000 ↔ Jvm.FP.Core.fIsNaN x = false := by
  rw [fp_b32, ← Bool.not_eq_true, Jvm.FP.Core.isNaN_bits32]; omega
theorem fp_dd {a b : Int32} (hb : b ≠ 0) : (FP.ddiv (FP.i2d a) (FP.i2d b)) &&& 0x7fffffffffffffff ≤ 0x7ff0000000000000 := fp_n64.mpr (Jvm.FP.Core.ddiv_out (Jvm.FP.Core.DFin.notNaN (Jvm.FP.Core.i2d_fin a)) (Jvm.FP.Core.i2d_fin b) (fun h => Jvm.FP.Core.i2d_ne_zero hb ((Jvm.FP.Core.zero_bits2 _).mp h)))
theorem fp_ff {a b : Int32} (hb : b ≠ 0) : (FP.fdiv (FP.i2f a) (FP.i2f b)) &&& 0x7fffffff ≤ 0x7f800000 := fp_n32.mpr (Jvm.FP.Core.fdiv_out (Jvm.FP.Core.FFin.notNaN (Jvm.FP.Core.i2f_fin a)) (Jvm.FP.Core.i2f_fin b) (fun h => Jvm.FP.Core.i2f_ne_zero hb ((Jvm.FP.Core.zero_bits232 _).mp h)))
theorem fp_f2d {r : UInt32} (h : r &&& 0x7fffffff ≤ 0x7f800000) : (FP.f2d r) &&& 0x7fffffffffffffff ≤ 0x7ff0000000000000 := fp_n64.mpr ((Jvm.FP.f2d_nan r).trans (fp_n32.mp h))
theorem fp_cmp {r : UInt64} (h : r &&& 0x7fffffffffffffff ≤ 0x7ff0000000000000) : Op.cmpValue (FP.dcmp r r) .l = 0 := by
  rw [show FP.dcmp r r = some .eq from Jvm.FP.Core.dcmp_self ((Jvm.FP.Core.notNaN_iff r).mp (fp_n64.mp h))]; rfl
theorem fp_d0 : FP.dconst0 &&& 0x7fffffffffffffff ≤ 0x7ff0000000000000 := by decide +kernel
theorem fp_f0 : FP.fconst0 &&& 0x7fffffff ≤ 0x7f800000 := by decide +kernel
