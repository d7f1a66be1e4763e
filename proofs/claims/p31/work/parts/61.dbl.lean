/-! A NUMBER IS EQUAL TO ITSELF, if it is one -/
theorem dc_self {a : UInt64} (h : n64 a) : Op.cmpValue (FP.dcmp a a) .l = 0 := by
  have h2 : a.toNat % 2 ^ 63 ≤ 9218868437227405312 := by
    have h3 := Jvm.FP.Core.mask_toNat a
    have h5 : (0x7ff0000000000000 : UInt64).toNat = 9218868437227405312 := by decide
    have h4 : (a &&& 0x7fffffffffffffff).toNat ≤ (0x7ff0000000000000 : UInt64).toNat := UInt64.le_iff_toNat_le.mp h
    rw [h3, h5] at h4
    exact h4
  have h6 : Jvm.FP.Core.val64 a ≠ Jvm.FP.Core.Datum.nan := (Jvm.FP.Core.ne_nan a).mpr h2
  rw [show FP.dcmp a a = some .eq from Jvm.FP.Core.dcmp_self h6]
  rfl
