/-! the library's numbers: so that the round reads the whole library at once -/
theorem wide_0 (a : UInt64) : (a &&& 0x7fffffffffffffff).toNat = a.toNat % 2 ^ 63 := Jvm.FP.Core.mask_toNat a
