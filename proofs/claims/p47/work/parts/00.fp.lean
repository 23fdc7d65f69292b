/-! Numbers that are no NaN. -/
theorem z_n64 {r : UInt64} (h : Jvm.FP.Core.dIsNaN r = false) : vf_n64 r := by
  have h1 := (Jvm.FP.Core.ne_nan r).mp ((Jvm.FP.Core.notNaN_iff r).mp h)
  unfold vf_n64
  rw [UInt64.le_iff_toNat_le, UInt64.toNat_and]
  show r.toNat &&& (2 ^ 63 - 1) ≤ 9218868437227405312
  rw [Nat.and_two_pow_sub_one_eq_mod]
  exact h1
theorem z_n32 {r : UInt32} (h : Jvm.FP.Core.fIsNaN r = false) : vf_n32 r := by
  have h1 := (Jvm.FP.Core.ne_nan32 r).mp ((Jvm.FP.Core.notNaN_iff32 r).mp h)
  unfold vf_n32
  rw [UInt32.le_iff_toNat_le, UInt32.toNat_and]
  show r.toNat &&& (2 ^ 31 - 1) ≤ 2139095040
  rw [Nat.and_two_pow_sub_one_eq_mod]
  exact h1
theorem z_dvN {a b : Int32} (hb : ¬ b = 0) : Jvm.FP.Core.dIsNaN (FP.ddiv (FP.i2d a) (FP.i2d b)) = false :=
  Jvm.FP.Core.ddiv_out (Jvm.FP.Core.i2d_fin a).notNaN (Jvm.FP.Core.i2d_fin b) fun z => Jvm.FP.Core.i2d_ne_zero hb ((Jvm.FP.Core.zero_bits2 _).mp z)
theorem z_fvN {a b : Int32} (hb : ¬ b = 0) : Jvm.FP.Core.fIsNaN (FP.fdiv (FP.i2f a) (FP.i2f b)) = false :=
  Jvm.FP.Core.fdiv_out (Jvm.FP.Core.i2f_fin a).notNaN (Jvm.FP.Core.i2f_fin b) fun z => Jvm.FP.Core.i2f_ne_zero hb ((Jvm.FP.Core.zero_bits232 _).mp z)
theorem z_f2dN {a : UInt32} (h : Jvm.FP.Core.fIsNaN a = false) : Jvm.FP.Core.dIsNaN (FP.f2d a) = false := by
  unfold FP.f2d
  rw [h]
  exact Jvm.FP.Core.f2d_out h
theorem z_dcmpS {a : UInt64} {op : CmpOp} (h : Jvm.FP.Core.dIsNaN a = false) : Op.cmpValue (FP.dcmp a a) op = 0 := by
  rw [show FP.dcmp a a = some .eq from Jvm.FP.Core.dcmp_refl h]
  rfl
