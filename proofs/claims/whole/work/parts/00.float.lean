/-! SHARES: what a quotient of whole numbers is -/
theorem nb_d {a : UInt64} (h : FP.Core.dIsNaN a = false) : a &&& 0x7fffffffffffffff ≤ 0x7ff0000000000000 := by
  have h2 : ¬ 9218868437227405312 < a.toNat % 2 ^ 63 := fun q => by
    rw [(FP.Core.isNaN_bits a).mpr q] at h
    cases h
  rw [UInt64.le_iff_toNat_le, UInt64.toNat_and]
  have e : (0x7fffffffffffffff : UInt64).toNat = 2 ^ 63 - 1 := by decide
  have e2 : (0x7ff0000000000000 : UInt64).toNat = 9218868437227405312 := by decide
  rw [e, e2, Nat.and_two_pow_sub_one_eq_mod]
  omega
theorem nb_f {a : UInt32} (h : FP.Core.fIsNaN a = false) : a &&& 0x7fffffff ≤ 0x7f800000 := by
  have h2 : ¬ 2139095040 < a.toNat % 2 ^ 31 := fun q => by
    rw [(FP.Core.isNaN_bits32 a).mpr q] at h
    cases h
  rw [UInt32.le_iff_toNat_le, UInt32.toNat_and]
  have e : (0x7fffffff : UInt32).toNat = 2 ^ 31 - 1 := by decide
  have e2 : (0x7f800000 : UInt32).toNat = 2139095040 := by decide
  rw [e, e2, Nat.and_two_pow_sub_one_eq_mod]
  omega
theorem nd_0 {a b : Int32} (hb : b ≠ 0) : FP.Core.dIsNaN (FP.ddiv (FP.i2d a) (FP.i2d b)) = false :=
  FP.Core.ddiv_out ((FP.Core.notNaN_iff _).mpr (FP.Core.DFin.ne_nan (FP.Core.i2d_fin a))) (FP.Core.i2d_fin b) (fun z => FP.Core.i2d_ne_zero hb ((FP.Core.zero_bits2 _).mp z))
theorem nf_0 {a b : Int32} (hb : b ≠ 0) : FP.Core.fIsNaN (FP.fdiv (FP.i2f a) (FP.i2f b)) = false :=
  FP.Core.fdiv_out ((FP.Core.notNaN_iff32 _).mpr (FP.Core.FFin.ne_nan (FP.Core.i2f_fin a))) (FP.Core.i2f_fin b) (fun z => FP.Core.i2f_ne_zero hb ((FP.Core.zero_bits232 _).mp z))
/-- the mean and the share -/
def q_d (a b : Int32) : UInt64 := FP.ddiv (FP.i2d a) (FP.i2d b)
def q_f (a b : Int32) : UInt32 := FP.fdiv (FP.i2f a) (FP.i2f b)
theorem q_d_n {a b : Int32} (hb : b ≠ 0) : FP.ddiv (FP.i2d a) (FP.i2d b) &&& 0x7fffffffffffffff ≤ 0x7ff0000000000000 := nb_d (nd_0 hb)
theorem q_f_n {a b : Int32} (hb : b ≠ 0) : FP.fdiv (FP.i2f a) (FP.i2f b) &&& 0x7fffffff ≤ 0x7f800000 := nb_f (nf_0 hb)
theorem q_fd_n {a b : Int32} (hb : b ≠ 0) : FP.f2d (q_f a b) &&& 0x7fffffffffffffff ≤ 0x7ff0000000000000 := nb_d ((FP.f2d_nan (q_f a b)).trans (nf_0 hb))
theorem q_d_c {a b : Int32} (hb : b ≠ 0) : Op.cmpValue (FP.dcmp (q_d a b) (q_d a b)) .l = 0 := by
  have e : FP.dcmp (q_d a b) (q_d a b) = some .eq := FP.Core.dcmp_self ((FP.Core.notNaN_iff _).mp (nd_0 hb))
  rw [e]
  rfl
theorem q_fd_c {a b : Int32} (hb : b ≠ 0) : Op.cmpValue (FP.dcmp (FP.f2d (q_f a b)) (FP.f2d (q_f a b))) .l = 0 := by
  have e : FP.dcmp (FP.f2d (q_f a b)) (FP.f2d (q_f a b)) = some .eq := FP.Core.dcmp_self ((FP.Core.notNaN_iff _).mp ((FP.f2d_nan (q_f a b)).trans (nf_0 hb)))
  rw [e]
  rfl
theorem q_f_c {a b : Int32} (hb : b ≠ 0) : Op.cmpValue (FP.fcmp (q_f a b) (q_f a b)) .l = 0 := by
  have e : FP.fcmp (q_f a b) (q_f a b) = some .eq := FP.Core.fcmp_self ((FP.Core.notNaN_iff32 _).mp (nf_0 hb))
  rw [e]
  rfl
