/-! part 12: floats that are no NaN -/
theorem my_n64 {a : UInt64} (h : FP.dIsNaN a = false) : vf_n64 a := by
  have h1 : FP.Core.val64 a ≠ .nan := (FP.Core.notNaN_iff a).mp h
  unfold vf_n64
  rw [UInt64.le_iff_toNat_le, FP.Core.mask_toNat]
  show _ ≤ 9218868437227405312
  cases hv : FP.Core.val64 a with
  | nan => exact absurd hv h1
  | fin s c q => exact Nat.le_of_lt ((FP.Core.fin_bits a).mp ⟨s, c, q, hv⟩)
  | inf s =>
    cases s with
    | false =>
      have e : FP.Core.val64 9218868437227405312 = .inf false := by decide +kernel
      have := FP.Core.val64_inj h1 (hv.trans e.symm)
      subst this; decide
    | true =>
      have e : FP.Core.val64 18442240474082181120 = .inf true := by decide +kernel
      have := FP.Core.val64_inj h1 (hv.trans e.symm)
      subst this; decide
theorem my_n32 {a : UInt32} (h : FP.fIsNaN a = false) : vf_n32 a := by
  have h1 : FP.Core.val32 a ≠ .nan := (FP.Core.notNaN_iff32 a).mp h
  unfold vf_n32
  rw [UInt32.le_iff_toNat_le, FP.Core.mask_toNat32]
  show _ ≤ 2139095040
  cases hv : FP.Core.val32 a with
  | nan => exact absurd hv h1
  | fin s c q => exact Nat.le_of_lt ((FP.Core.fin_bits32 a).mp ⟨s, c, q, hv⟩)
  | inf s =>
    cases s with
    | false =>
      have e : FP.Core.val32 2139095040 = .inf false := by decide +kernel
      have := FP.Core.val32_inj h1 (hv.trans e.symm)
      subst this; decide
    | true =>
      have e : FP.Core.val32 4286578688 = .inf true := by decide +kernel
      have := FP.Core.val32_inj h1 (hv.trans e.symm)
      subst this; decide
theorem my_i2f_fin (a : Int32) : FP.Core.FFin (FP.i2f a) := by
  have := FP.Core.i2f_l2f a
  show FP.Core.FFin (FP.Core.i2f a)
  rw [this]; exact FP.Core.l2f_fin _
theorem my_i2d_fin (a : Int32) : FP.Core.DFin (FP.i2d a) := by
  have := FP.Core.i2d_l2d a
  show FP.Core.DFin (FP.Core.i2d a)
  rw [this]; exact FP.Core.l2d_fin _
theorem my_fdiv {a b : Int32} (h : ¬ b = 0) : FP.fIsNaN (FP.fdiv (FP.i2f a) (FP.i2f b)) = false := by
  refine FP.Core.fdiv_out (my_i2f_fin a).notNaN (my_i2f_fin b) ?_
  rw [FP.Core.zero_bits232]
  exact FP.Core.i2f_ne_zero h
theorem my_ddiv {a b : Int32} (h : ¬ b = 0) : FP.Core.DFin (FP.ddiv (FP.i2d a) (FP.i2d b)) := by
  have h1 := FP.Core.i2d_mag a
  have h2 := FP.Core.i2d_big (FP.Core.int32_ne h)
  have h3 := FP.Core.ddiv_mag (a := FP.Core.i2d a) (b := FP.Core.i2d b) (K := 1088) (L := 1023) (by omega) h2.1 h2.2 (by decide) (by decide)
  rw [FP.Core.fin_bits]
  show (FP.Core.ddiv (FP.Core.i2d a) (FP.Core.i2d b)).toNat % 2 ^ 63 < _
  omega
theorem my_div_nn {a b : Int32} (h : ¬ b = 0) : FP.dIsNaN (FP.ddiv (FP.i2d a) (FP.i2d b)) = false := (my_ddiv h).notNaN
theorem my_two {x : UInt64} (h : FP.dIsNaN x = false) : FP.dIsNaN (FP.dmul x 4611686018427387904) = false := by
  refine FP.Core.dmul_out' h ?_ ?_
  · rw [FP.Core.fin_bits]; decide
  · rw [FP.Core.zero_bits2]; decide
theorem my_one {x : UInt64} (h : FP.dIsNaN x = false) : FP.dIsNaN (FP.dsub x FP.dconst1) = false := by
  refine FP.Core.dsub_out h ?_
  rw [FP.Core.fin_bits]; decide
theorem my_scale {x : UInt64} {k : Int32} (hk : k = 23 ∨ k = 52) (h : FP.dIsNaN x = false) : FP.dIsNaN (FP.dmul x (FP.l2d (1 <<< (k.toInt64 &&& 63)))) = false := by
  refine FP.Core.dmul_out' h (FP.Core.l2d_fin _) ?_
  rw [FP.Core.zero_bits2]
  rcases hk with rfl | rfl
  · exact FP.Core.l2d_ne_zero (by decide)
  · exact FP.Core.l2d_ne_zero (by decide)
theorem my_add_nn {x y : UInt64} (hx : FP.Core.DFin x) (hy : FP.Core.DFin y) : FP.dIsNaN (FP.dadd x y) = false := FP.Core.dadd_out hx.notNaN hy
theorem my_sub_nn {x y : UInt64} (hx : FP.Core.DFin x) (hy : FP.dIsNaN y = false) : FP.dIsNaN (FP.dsub x y) = false := FP.Core.dsub_out' hx hy
theorem my_f2d_nn {x : UInt32} (h : FP.fIsNaN x = false) : FP.dIsNaN (FP.f2d x) = false := by
  have e : FP.f2d x = FP.Core.f2d x := by
    unfold FP.f2d
    have h2 : FP.Core.fIsNaN x = false := h
    rw [if_neg (by rw [h2]; decide)]
  rw [e]
  exact FP.Core.f2d_out h
