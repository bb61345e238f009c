/-! ===== floats: quotients of ints are numbers (read over the whole library: FloatLaws) ===== -/
theorem fl_m32 (x : UInt32) : (x &&& 0x7fffffff).toNat = x.toNat % 2 ^ 31 := by
  rw [UInt32.toNat_and]
  exact Nat.and_two_pow_sub_one_eq_mod _ 31
theorem fl_m64 (x : UInt64) : (x &&& 0x7fffffffffffffff).toNat = x.toNat % 2 ^ 63 := by
  rw [UInt64.toNat_and]
  exact Nat.and_two_pow_sub_one_eq_mod _ 63
theorem fl_n32 {x : UInt32} (h : FP.Core.val32 x ≠ .nan) : x &&& 0x7fffffff ≤ 0x7f800000 := by
  show (x &&& 0x7fffffff).toNat ≤ 2139095040
  rw [fl_m32]
  exact (FP.Core.ne_nan32 x).mp h
theorem fl_n64 {x : UInt64} (h : FP.Core.val64 x ≠ .nan) : x &&& 0x7fffffffffffffff ≤ 0x7ff0000000000000 := by
  show (x &&& 0x7fffffffffffffff).toNat ≤ 9218868437227405312
  rw [fl_m64]
  exact (FP.Core.ne_nan x).mp h
theorem fl_d32 (a : Int32) {b : Int32} (hb : b ≠ 0) : FP.Core.val32 (FP.fdiv (FP.i2f a) (FP.i2f b)) ≠ .nan := by
  obtain ⟨h2, h3⟩ := FP.Core.i2f_big (FP.Core.int32_ne hb)
  have h4 := FP.Core.fdiv_mag (K := 160) (L := 127) (FP.Core.i2f_mag a) h2 h3 (by decide) (by decide)
  rw [FP.Core.ne_nan32]
  have h5 : (160 + (149 - 23 - 1) - 127 + 3) * 2 ^ 23 ≤ 2139095040 := by decide
  exact Nat.le_of_lt (Nat.lt_of_lt_of_le h4 h5)
theorem fl_d64 (a : Int32) {b : Int32} (hb : b ≠ 0) : FP.Core.val64 (FP.ddiv (FP.i2d a) (FP.i2d b)) ≠ .nan := by
  obtain ⟨h2, h3⟩ := FP.Core.i2d_big (FP.Core.int32_ne hb)
  have h4 := FP.Core.ddiv_mag (K := 1056) (L := 1023) (FP.Core.i2d_mag a) h2 h3 (by decide) (by decide)
  rw [FP.Core.ne_nan]
  have h5 : (1056 + (1074 - 52 - 1) - 1023 + 3) * 2 ^ 52 ≤ 9218868437227405312 := by decide
  exact Nat.le_of_lt (Nat.lt_of_lt_of_le h4 h5)
theorem fl_w {x : UInt32} (h : FP.Core.val32 x ≠ .nan) : FP.Core.val64 (FP.f2d x) ≠ .nan := by
  have h1 : FP.Core.fIsNaN x = false := (FP.Core.notNaN_iff32 x).mpr h
  have h2 : FP.f2d x = FP.Core.f2d x := by
    unfold FP.f2d
    rw [h1]
    rfl
  rw [h2]
  exact (FP.Core.notNaN_iff _).mp (FP.Core.f2d_out h1)
theorem fl_c {x : UInt64} (h : FP.Core.val64 x ≠ .nan) : Op.cmpValue (FP.dcmp x x) .l = 0 := by
  show Op.cmpValue (FP.Core.dcmp x x) .l = 0
  rw [FP.Core.dcmp_self h]
  rfl
theorem fl_f0 : FP.Core.val32 FP.fconst0 ≠ .nan := by
  show FP.Core.val32 FP.Core.fconst0 ≠ .nan
  rw [FP.Core.val32_fconst0]
  exact FP.Core.Datum.noConfusion
theorem fl_d0 : FP.Core.val64 FP.dconst0 ≠ .nan := by
  show FP.Core.val64 FP.Core.dconst0 ≠ .nan
  rw [FP.Core.val64_dconst0]
  exact FP.Core.Datum.noConfusion
