def my_fnn (x : UInt64) : Prop := ∃ c q, FP.Core.val64 x = .fin false c q
def bt_u (x : UInt64) : Nat := FP.Core.zmag FP.Core.b64 (FP.Core.val64 x)
def bt_1 : Nat := (2 ^ 179) ^ 6
def my_bt (x : UInt64) : Prop := my_fnn x ∧ 0 < bt_u x
theorem bt_ne {x : UInt64} (h : my_fnn x) : FP.Core.val64 x ≠ .nan := by
  obtain ⟨c, q, h⟩ := h
  rw [h]; exact FP.Core.Datum.noConfusion
theorem bt_nn {x : UInt64} (h : my_bt x) : FP.dIsNaN x = false := (FP.Core.notNaN_iff x).mpr (bt_ne h.1)
theorem bt_zv {x : UInt64} (h : my_fnn x) : FP.Core.zval FP.Core.b64 (FP.Core.val64 x) = (bt_u x : Int) := by
  obtain ⟨c, q, h⟩ := h
  unfold bt_u FP.Core.zval
  rw [h]; rfl
theorem bt_z1 : FP.Core.zval FP.Core.b64 (FP.Core.val64 FP.dconst1) = (bt_1 : Int) := by decide +kernel
theorem bt_two : FP.Core.val64 4611686018427387904 = .fin false 4503599627370496 (-51) := by decide +kernel
theorem bt_mul {x : UInt64} {c : Nat} {q : Int} (h : FP.Core.val64 x = .fin false c q) (hq : q < 0) : ∃ c' q', FP.Core.val64 (FP.dmul x 4611686018427387904) = .fin false c' q' ∧ FP.Core.inUnits c' q' FP.Core.b64.qmin = 2 * FP.Core.inUnits c q FP.Core.b64.qmin := by
  have hf : FP.Core.fits FP.Core.b64 (.fin false c q) := by rw [← h]; exact FP.Core.val64_fits x
  obtain ⟨f1, f2, f3, f4⟩ := hf
  have hqm : FP.Core.b64.qmax = 971 := by decide
  have hqn := FP.Core.qmin_b64
  have hv : FP.Core.val64 (FP.dmul x 4611686018427387904) = FP.Core.round FP.Core.b64 (.fin false (c * 4503599627370496) (q + (-51))) := by
    show FP.Core.val64 (FP.Core.dmul x 4611686018427387904) = _
    rw [FP.Core.val64_dmul, h, bt_two]; rfl
  by_cases hc : FP.Core.b64.tails ≤ c
  · refine ⟨c, q + 1, ?_, ?_⟩
    · rw [hv]
      show FP.Core.roundRatio FP.Core.b64 false (c * 4503599627370496) 1 (q + (-51)) = _
      refine FP.Core.roundRatio_exact FP.Core.good_b64 (by decide) ⟨f1, by omega, by omega, Or.inr hc⟩ ?_
      rw [show (q + (-51) - (q + 1)).toNat = 0 by omega, show ((q + 1) - (q + (-51))).toNat = 52 by omega]
      omega
    · unfold FP.Core.inUnits
      rw [show (q + 1 - FP.Core.b64.qmin).toNat = (q - FP.Core.b64.qmin).toNat + 1 by omega, Nat.pow_succ]
      generalize 2 ^ (q - FP.Core.b64.qmin).toNat = z
      rw [← Nat.mul_assoc, Nat.mul_comm]
  · rcases f4 with f4 | f4
    · have ht := FP.Core.two_tails FP.Core.good_b64
      refine ⟨2 * c, FP.Core.b64.qmin, ?_, ?_⟩
      · rw [hv, f4]
        show FP.Core.roundRatio FP.Core.b64 false (c * 4503599627370496) 1 (FP.Core.b64.qmin + (-51)) = _
        refine FP.Core.roundRatio_exact FP.Core.good_b64 (by decide) ⟨by omega, Int.le_refl _, by omega, Or.inl rfl⟩ ?_
        rw [show (FP.Core.b64.qmin + (-51) - FP.Core.b64.qmin).toNat = 0 by omega, show (FP.Core.b64.qmin - (FP.Core.b64.qmin + (-51))).toNat = 51 by omega]
        omega
      · unfold FP.Core.inUnits
        rw [f4, Int.sub_self, Int.toNat_zero, Nat.pow_zero, Nat.mul_one, Nat.mul_one]
    · exact absurd f4 hc
theorem bt_lt1 {o : Option Ordering} (h : ¬ 0 ≤ (Op.cmpValue o .g)) : o = some .lt := by
  rcases o with _ | o
  · exact absurd (by decide) h
  · cases o
    · rfl
    · exact absurd (by decide) h
    · exact absurd (by decide) h
theorem bt_one {x : UInt64} (h : my_fnn x) (c : ¬ 0 ≤ (Op.cmpValue (FP.dcmp x FP.dconst1) .g)) : bt_u x < bt_1 := by
  have h1 : FP.Core.dcmp x FP.dconst1 = some .lt := bt_lt1 c
  have h2 := (FP.Core.dcmp_lt.mp h1).2.2
  rw [bt_zv h, bt_z1] at h2
  omega
theorem bt_q {c : Nat} {q : Int} (hc : 0 < c) (h : FP.Core.inUnits c q FP.Core.b64.qmin < bt_1) : q < 0 := by
  rcases Int.lt_or_le q 0 with h1 | h1
  · exact h1
  · exfalso
    have hqn := FP.Core.qmin_b64
    unfold FP.Core.inUnits at h
    have h2 : bt_1 ≤ 2 ^ (q - FP.Core.b64.qmin).toNat := by
      unfold bt_1
      rw [← Nat.pow_mul]
      exact Nat.pow_le_pow_right (by decide) (by omega)
    have h3 : 2 ^ (q - FP.Core.b64.qmin).toNat ≤ c * 2 ^ (q - FP.Core.b64.qmin).toNat := Nat.le_mul_of_pos_left _ hc
    omega
theorem bt_step {x : UInt64} (h : my_bt x) (c : ¬ 0 ≤ (Op.cmpValue (FP.dcmp x FP.dconst1) .g)) : my_fnn (FP.dmul x 4611686018427387904) ∧ bt_u (FP.dmul x 4611686018427387904) = 2 * bt_u x := by
  have h1 := bt_one h.1 c
  obtain ⟨⟨c0, q0, hx⟩, h0⟩ := h
  have e : bt_u x = FP.Core.inUnits c0 q0 FP.Core.b64.qmin := by unfold bt_u; rw [hx]; rfl
  rw [e] at h0 h1
  have hc : 0 < c0 := by
    rcases Nat.eq_zero_or_pos c0 with z | z
    · subst z; unfold FP.Core.inUnits at h0; rw [Nat.zero_mul] at h0; exact absurd h0 (Nat.lt_irrefl _)
    · exact z
  obtain ⟨c', q', h2, h3⟩ := bt_mul hx (bt_q hc h1)
  refine ⟨⟨c', q', h2⟩, ?_⟩
  rw [e, ← h3]
  unfold bt_u; rw [h2]; rfl
theorem bt_up {x : UInt64} (h : my_bt x) (c : ¬ 0 ≤ (Op.cmpValue (FP.dcmp x FP.dconst1) .g)) : my_bt (FP.dmul x 4611686018427387904) := by
  obtain ⟨h1, h2⟩ := bt_step h c
  have h3 := h.2
  exact ⟨h1, by omega⟩
theorem bt_dec {x : UInt64} (h : my_bt x) (c : ¬ 0 ≤ (Op.cmpValue (FP.dcmp x FP.dconst1) .g)) : (bt_1 - (bt_u (FP.dmul x 4611686018427387904))) < (bt_1 - (bt_u x)) := by
  obtain ⟨h1, h2⟩ := bt_step h c
  have h3 := h.2
  have h4 := bt_one h.1 c
  omega
theorem bt_init {x : UInt64} (h : my_fnn x) (c : ¬ (Op.cmpValue (FP.dcmp x FP.dconst0) .l) = 0) : my_bt x := by
  refine ⟨h, ?_⟩
  rcases Nat.eq_zero_or_pos (bt_u x) with z | z
  · exfalso
    apply c
    have e0 : FP.Core.zval FP.Core.b64 (FP.Core.val64 FP.dconst0) = 0 := by decide +kernel
    have h1 : FP.Core.dcmp x FP.dconst0 = some .eq := FP.Core.dcmp_eq.mpr ⟨bt_ne h, by decide +kernel, by rw [bt_zv h, z, e0]; rfl⟩
    have h2 : FP.dcmp x FP.dconst0 = some .eq := h1
    rw [h2]; decide
  · exact z
theorem hd_X8_bits_S : yX8_bits.cls ≠ "java/lang/invoke/MethodHandle" ∧ yX8_bits.cls ≠ "java/lang/invoke/VarHandle" ∧ (parseMethodDescriptor yX8_bits.desc).map (fun d => d.parameters.length) = some 3 := by decide +kernel
theorem hd_X8_bits_V : yX8_bits.cls = RX8 ∧ yX8_bits.cls ≠ "java/lang/invoke/MethodHandle" ∧ yX8_bits.cls ≠ "java/lang/invoke/VarHandle" ∧ (parseMethodDescriptor yX8_bits.desc).map (fun d => d.parameters.length) = some 3 := ⟨rfl, hd_X8_bits_S⟩
def f_X8_bits_st  (i5_2 : Int64) (i7_3 : UInt64) : (Int64 × UInt64) ⊕ (Int64 × UInt64) := (if 0 ≤ (Op.cmpValue (FP.dcmp i7_3 FP.dconst1) .g) then (.inr (i5_2, i7_3)) else (.inl ((i5_2 - 1), (FP.dmul i7_3 4611686018427387904))))
def f_X8_bits (x0 : UInt64) (x1 : Int32) (x2 : Int64) : Int64 := (if (Op.cmpValue (FP.dcmp x0 FP.dconst0) .l) = 0 then 0 else (my_t2 (lp (fun (x : Int64 × UInt64) => f_X8_bits_st x.1 x.2) default ((bt_1 - (bt_u x0)) + 1) (x2, x0)) (fun (i5_2 : Int64) (i7_3 : UInt64) => ((i5_2 <<< ((Int32.toInt64 x1) &&& 63)) + (FP.d2l (FP.dmul (FP.dsub i7_3 FP.dconst1) (FP.l2d (1 <<< ((Int32.toInt64 x1) &&& 63)))))))))
set_option maxHeartbeats 400000 in
set_option maxRecDepth 100000 in
theorem c_X8_bits (l : Launch) (D : va_G) (cy : Nat → ClassId) (g : Nat → Nat) (B : Nat)  (x0 : UInt64) (x1 : Int32) (x2 : Int64) (hx0 : my_fnn x0) (hk : x1 = 23 ∨ x1 = 52) : Met l yX8_bits wsX8_bits ({ frames := 0, cells := 0, slots := 0, locals := 0 }) (rdP D cy g B ([] : va_W) [.double x0, .int x1, .long x2]) (vp_Sl (fun r => r = f_X8_bits x0 x1 x2)) 0 0 (fun _ => False) := by
  refine Met.ofW (cc := cX8_bits) (maxL := 9) (ret := (some .long)) (by decide) rfl ?_
  intro p e s m args below meth c s₁ BB hml hv
  obtain ⟨rfl, hP, hK0⟩ := hv
  have hx := BB.exec
  have hb := BB.bytes
  have hr := BB.returns
  have hts := atoms_spec (ws := wsX8_bits) BB.pre
  have hown : s.vm.findClass RX8 = some m.cls := findClass_of_methodNamed BB.named
  have hlocks := BB.notSynchronized
  have S := my_fix hx hb hml hown hts
  have hS : va_S (fun q => B ≤ q) s.heap s.heap [] := va_S.rf
  have hAB : ∀ q : Nat, (fun q => B ≤ q) q → B ≤ q := fun _ h => h
  have hl := lv_entry ([.double x0, .int x1, .long x2]) (n := 9) (Nat.le_of_ble_eq_true rfl)
  rw [lg_entry_eq]
  generalize (lg_sl ([.double x0, .int x1, .long x2]) ++ List.replicate (9 - (lg_sl ([.double x0, .int x1, .long x2])).length) Slot.unset).toArray = ls at hl ⊢
  have hl : lv_has ls 9 [(0, .double x0), (2, .int x1), (3, .long x2)] := hl
  refine lv_dload_n hx hb dX8_bits_0 rfl (lv_at hl 0 rfl) ?_
  refine lv_dconst0 hx hb dX8_bits_1 ?_
  refine lv_dcmp hx hb dX8_bits_2 ?_
  refine lv_if_ne (tgt := 8) hx hb dX8_bits_3 (by decide) (fun c_1 => ?_) (fun c_1 => ?_)
  · refine lv_lload_n hx hb dX8_bits_8 rfl (lv_at hl 2 rfl) ?_
    refine lv_lstore (lv' := [(5, .long x2), (0, .double x0), (2, .int x1), (3, .long x2)]) hx hb dX8_bits_9 hl (by decide) rfl (fun ls hl => ?_)
    refine lv_dload_n hx hb dX8_bits_11 rfl (lv_at hl 1 rfl) ?_
    refine lv_dstore (lv' := [(7, .double x0), (5, .long x2), (0, .double x0), (2, .int x1), (3, .long x2)]) hx hb dX8_bits_12 hl (by decide) rfl (fun ls hl => ?_)
    have cont0 : ∀ (i5_2 : Int64) (i7_3 : UInt64), lp (fun (x : Int64 × UInt64) => f_X8_bits_st x.1 x.2) default ((bt_1 - (bt_u x0)) + 1) (x2, x0) = (i5_2, i7_3) → my_bt i7_3 → ∀ ls : Array Slot, lv_has ls 9 [(0, .double x0), (2, .int x1), (3, .long x2), (5, .long i5_2), (7, .double i7_3)] → W p l e (headSpec wsX8_bits ({ frames := 0, cells := 0, slots := 0, locals := 0 } : Room)).room s m ([.double x0, .int x1, .long x2] : List Value).toArray below meth c s.heap [] 0 0 (MQ below (vp_Sl (fun r => r = f_X8_bits x0 x1 x2)) ([.double x0, .int x1, .long x2] : List Value).toArray s 0 0 (fun _ => False)) (F0 m 38 ls []) := by
      intro i5_2 i7_3 hE0 hj0_0 ls hl
      refine lv_lload hx hb dX8_bits_38 (lv_at hl 3 rfl) ?_
      refine lv_iload_n hx hb dX8_bits_40 rfl (lv_at hl 1 rfl) ?_
      refine lv_lshl (v := (i5_2 <<< ((Int32.toInt64 x1) &&& 63))) hx hb dX8_bits_41 rfl ?_
      refine lv_dload hx hb dX8_bits_42 (lv_at hl 4 rfl) ?_
      refine lv_dconst1 hx hb dX8_bits_44 ?_
      refine lv_dsub hx hb dX8_bits_45 (my_n64 (my_one ((bt_nn hj0_0)))) ?_
      refine lv_lconst (v := 1) hx hb dX8_bits_46 (by decide) ?_
      refine lv_iload_n hx hb dX8_bits_47 rfl (lv_at hl 1 rfl) ?_
      refine lv_lshl (v := (1 <<< ((Int32.toInt64 x1) &&& 63))) hx hb dX8_bits_48 rfl ?_
      refine lv_l2d hx hb dX8_bits_49 ?_
      refine lv_dmul hx hb dX8_bits_50 (my_n64 (my_scale (hk) (my_one ((bt_nn hj0_0))))) ?_
      refine lv_d2l hx hb dX8_bits_51 ?_
      refine lv_ladd hx hb dX8_bits_52 ?_
      exact W.lret hx hb hr (fun t ht hW => ⟨((i5_2 <<< ((Int32.toInt64 x1) &&& 63)) + (FP.d2l (FP.dmul (FP.dsub i7_3 FP.dconst1) (FP.l2d (1 <<< ((Int32.toInt64 x1) &&& 63)))))), rfl, (show f_X8_bits x0 x1 x2 = ((i5_2 <<< ((Int32.toInt64 x1) &&& 63)) + (FP.d2l (FP.dmul (FP.dsub i7_3 FP.dconst1) (FP.l2d (1 <<< ((Int32.toInt64 x1) &&& 63)))))) from by rw [f_X8_bits, if_neg c_1, hE0, my_t2_eq]).symm, ht⟩) (fun q hq => absurd hq List.not_mem_nil) dX8_bits_53
    have key : ∀ (nf : Nat) (i5_2 : Int64) (i7_3 : UInt64), (bt_1 - (bt_u i7_3)) < nf → lp (fun (x : Int64 × UInt64) => f_X8_bits_st x.1 x.2) default nf (i5_2, i7_3) = lp (fun (x : Int64 × UInt64) => f_X8_bits_st x.1 x.2) default ((bt_1 - (bt_u x0)) + 1) (x2, x0) → my_bt i7_3 → ∀ ls : Array Slot, lv_has ls 9 [(0, .double x0), (2, .int x1), (3, .long x2), (5, .long i5_2), (7, .double i7_3)] → W p l e (headSpec wsX8_bits ({ frames := 0, cells := 0, slots := 0, locals := 0 } : Room)).room s m ([.double x0, .int x1, .long x2] : List Value).toArray below meth c s.heap [] 0 0 (MQ below (vp_Sl (fun r => r = f_X8_bits x0 x1 x2)) ([.double x0, .int x1, .long x2] : List Value).toArray s 0 0 (fun _ => False)) (F0 m 14 ls []) := by
      intro n0
      induction n0 with
      | zero => intro i5_2 i7_3 hlt; exact absurd hlt (Nat.not_lt_zero _)
      | succ n0 ih0 =>
        intro i5_2 i7_3 hlt0 hF0 hi0_0 ls hl
        refine lv_dload hx hb dX8_bits_14 (lv_at hl 4 rfl) ?_
        refine lv_dconst1 hx hb dX8_bits_16 ?_
        refine lv_dcmp hx hb dX8_bits_17 ?_
        refine lv_if_ge (tgt := 38) hx hb dX8_bits_18 (by decide) (fun c_4 => ?_) (fun c_4 => ?_)
        · have hst : f_X8_bits_st i5_2 i7_3 = .inr (i5_2, i7_3) := by rw [f_X8_bits_st, if_pos c_4]
          exact cont0 i5_2 i7_3 (lp_inr hst hF0) hi0_0 _ (lv_sub hl [0, 1, 2, 3, 4] rfl)
        · refine lv_dload hx hb dX8_bits_21 (lv_at hl 4 rfl) ?_
          refine lv_ldc2d hx hb hown (hts (.constantDouble RX8 226 (4611686018427387904)) (List.mem_of_getElem? (i := 1) rfl)) dX8_bits_23 ?_
          refine lv_dmul hx hb dX8_bits_26 (my_n64 (my_two ((bt_nn hi0_0)))) ?_
          refine lv_dstore (lv' := [(7, .double (FP.dmul i7_3 4611686018427387904)), (0, .double x0), (2, .int x1), (3, .long x2), (5, .long i5_2)]) hx hb dX8_bits_27 hl (by decide) rfl (fun ls hl => ?_)
          refine lv_lload hx hb dX8_bits_29 (lv_at hl 4 rfl) ?_
          refine lv_lconst (v := 1) hx hb dX8_bits_31 (by decide) ?_
          refine lv_lsub hx hb dX8_bits_32 ?_
          refine lv_lstore (lv' := [(5, .long (i5_2 - 1)), (7, .double (FP.dmul i7_3 4611686018427387904)), (0, .double x0), (2, .int x1), (3, .long x2)]) hx hb dX8_bits_33 hl (by decide) rfl (fun ls hl => ?_)
          refine lv_goto (tgt := 14) hx hb dX8_bits_35 (by decide) ?_
          have hst : f_X8_bits_st i5_2 i7_3 = .inl ((i5_2 - 1), (FP.dmul i7_3 4611686018427387904)) := by rw [f_X8_bits_st, if_neg c_4]
          have hmu : (bt_1 - (bt_u (FP.dmul i7_3 4611686018427387904))) < (bt_1 - (bt_u i7_3)) := bt_dec hi0_0 c_4
          exact ih0 (i5_2 - 1) (FP.dmul i7_3 4611686018427387904) (Nat.lt_of_lt_of_le hmu (Nat.le_of_lt_succ hlt0)) (lp_inl (x := (i5_2, i7_3)) hst hF0) (bt_up hi0_0 c_4) _ (lv_sub hl [2, 3, 4, 0, 1] rfl)
    exact key ((bt_1 - (bt_u x0)) + 1) x2 x0 (Nat.lt_succ_self _) rfl (bt_init hx0 c_1) _ (lv_sub hl [2, 3, 4, 1, 0] rfl)
  · refine lv_lconst (v := 0) hx hb dX8_bits_6 (by decide) ?_
    exact W.lret hx hb hr (fun t ht hW => ⟨0, rfl, (show f_X8_bits x0 x1 x2 = 0 from by rw [f_X8_bits, if_pos c_1]).symm, ht⟩) (fun q hq => absurd hq List.not_mem_nil) dX8_bits_7
theorem swings_le (w : Nat → Int32) (m : Int32) : 0 ≤ (f_X8_swings w m).toInt ∧ (f_X8_swings w m).toInt ≤ 256 := by
  unfold f_X8_swings
  show 0 ≤ (lp (ρ := Int32 × Int32) _ _ _ _).1.toInt ∧ (lp (ρ := Int32 × Int32) _ _ _ _).1.toInt ≤ 256
  refine lp_inv (I := fun z : Int32 × Int32 => 0 ≤ z.1.toInt ∧ z.1.toInt ≤ z.2.toInt ∧ z.2.toInt ≤ 256) (Q := fun z : Int32 × Int32 => 0 ≤ z.1.toInt ∧ z.1.toInt ≤ 256) (by decide) ?_ _ _ (by decide)
  intro z ⟨h1, h2, h3⟩
  unfold f_X8_swings_st
  split
  · exact ⟨h1, Int.le_trans h2 h3⟩
  · rename_i h4
    have h5 : ¬ (256 : Int32).toInt ≤ z.2.toInt := fun h => h4 (Int32.le_iff_toInt_le.mpr h)
    have e8 : (256 : Int32).toInt = 256 := by decide
    have e1 := i32_c1
    have k1 : (z.2 + 1).toInt = z.2.toInt + 1 := by rw [i32_add (by omega) (by omega), e1]
    have k2 : (z.1 + 1).toInt = z.1.toInt + 1 := by rw [i32_add (by omega) (by omega), e1]
    have A : 0 ≤ (z.1 + 0).toInt ∧ (z.1 + 0).toInt ≤ (z.2 + 1).toInt ∧ (z.2 + 1).toInt ≤ 256 := by rw [Int32.add_zero]; omega
    have B : 0 ≤ (z.1 + 1).toInt ∧ (z.1 + 1).toInt ≤ (z.2 + 1).toInt ∧ (z.2 + 1).toInt ≤ 256 := by omega
    repeat' split
    all_goals first | exact A | exact B
theorem allSwings_le (w : Nat → Int32) : 0 ≤ (f_X8_allSwings w).toInt ∧ (f_X8_allSwings w).toInt ≤ 2048 := by
  unfold f_X8_allSwings
  show 0 ≤ (lp (ρ := Int32 × Int32) _ _ _ _).1.toInt ∧ (lp (ρ := Int32 × Int32) _ _ _ _).1.toInt ≤ 2048
  refine lp_inv (I := fun z : Int32 × Int32 => 0 ≤ z.1.toInt ∧ z.1.toInt ≤ 256 * z.2.toInt ∧ z.2.toInt ≤ 8) (Q := fun z : Int32 × Int32 => 0 ≤ z.1.toInt ∧ z.1.toInt ≤ 2048) (by decide) ?_ _ _ (by decide)
  intro z ⟨h1, h2, h3⟩
  unfold f_X8_allSwings_st
  split
  · exact ⟨h1, by show z.1.toInt ≤ _; omega⟩
  · rename_i h4
    have h5 : ¬ (8 : Int32).toInt ≤ z.2.toInt := fun h => h4 (Int32.le_iff_toInt_le.mpr h)
    have e8 := i32_c8
    have e1 := i32_c1
    have hs := swings_le w z.2
    have k1 : (z.2 + 1).toInt = z.2.toInt + 1 := by rw [i32_add (by omega) (by omega), e1]
    have k2 : (z.1 + f_X8_swings w z.2).toInt = z.1.toInt + (f_X8_swings w z.2).toInt := i32_add (by omega) (by omega)
    exact (by omega : 0 ≤ (z.1 + f_X8_swings w z.2).toInt ∧ (z.1 + f_X8_swings w z.2).toInt ≤ 256 * (z.2 + 1).toInt ∧ (z.2 + 1).toInt ≤ 8)
set_option maxRecDepth 100000 in
theorem ord_term (a n : Int32) : 0 ≤ ((f_X8_factorial ((f_X8_ones a) - 1)) * (f_X8_factorial ((f_X8_ones n) - (f_X8_ones a)))).toInt ∧ ((f_X8_factorial ((f_X8_ones a) - 1)) * (f_X8_factorial ((f_X8_ones n) - (f_X8_ones a)))).toInt ≤ 40320 := by
  obtain ⟨j, hj, ea⟩ := ones_9 a
  obtain ⟨k, hk, en⟩ := ones_9 n
  rw [ea, en]
  have h : ∀ j : Nat, j < 9 → ∀ k : Nat, k < 9 → 0 ≤ ((f_X8_factorial (nI j - 1)) * (f_X8_factorial (nI k - nI j))).toInt ∧ ((f_X8_factorial (nI j - 1)) * (f_X8_factorial (nI k - nI j))).toInt ≤ 40320 := by decide +kernel
  exact h j hj k hk
theorem orders_le (n : Int32) (w : Nat → Int32) (m : Int32) : 0 ≤ (f_X8_orders n w m).toInt ∧ (f_X8_orders n w m).toInt ≤ 10321920 := by
  unfold f_X8_orders
  show 0 ≤ (lp (ρ := Int32 × Int32) _ _ _ _).1.toInt ∧ (lp (ρ := Int32 × Int32) _ _ _ _).1.toInt ≤ 10321920
  refine lp_inv (I := fun z : Int32 × Int32 => 0 ≤ z.1.toInt ∧ z.1.toInt ≤ 40320 * z.2.toInt ∧ z.2.toInt ≤ 256) (Q := fun z : Int32 × Int32 => 0 ≤ z.1.toInt ∧ z.1.toInt ≤ 10321920) (by decide) ?_ _ _ (by decide)
  intro z ⟨h1, h2, h3⟩
  unfold f_X8_orders_st
  split
  · exact ⟨h1, by show z.1.toInt ≤ _; omega⟩
  · rename_i h4
    have h5 : ¬ (256 : Int32).toInt ≤ z.2.toInt := fun h => h4 (Int32.le_iff_toInt_le.mpr h)
    have e8 : (256 : Int32).toInt = 256 := by decide
    have e1 := i32_c1
    have ht := ord_term z.2 n
    have k1 : (z.2 + 1).toInt = z.2.toInt + 1 := by rw [i32_add (by omega) (by omega), e1]
    have A : 0 ≤ (z.1 + 0).toInt ∧ (z.1 + 0).toInt ≤ 40320 * (z.2 + 1).toInt ∧ (z.2 + 1).toInt ≤ 256 := by rw [Int32.add_zero]; omega
    generalize (f_X8_factorial ((f_X8_ones z.2) - 1)) * (f_X8_factorial ((f_X8_ones n) - (f_X8_ones z.2))) = T at ht ⊢
    have k2 : (z.1 + T).toInt = z.1.toInt + T.toInt := i32_add (by omega) (by omega)
    have B : 0 ≤ (z.1 + T).toInt ∧ (z.1 + T).toInt ≤ 40320 * (z.2 + 1).toInt ∧ (z.2 + 1).toInt ≤ 256 := by omega
    repeat' split
    all_goals first | exact A | exact B
theorem fnn_of {x : UInt64} (hf : FP.Core.DFin x) (hs : FP.Core.sgn (FP.Core.val64 x) = false) : my_fnn x := by
  obtain ⟨s, c, q, h⟩ := hf
  rw [h] at hs
  have e : s = false := hs
  subst e
  exact ⟨c, q, h⟩
theorem i2d_fnn {a : Int32} (h : 0 ≤ a.toInt) : my_fnn (FP.i2d a) := by
  refine fnn_of (my_i2d_fin a) ?_
  show FP.Core.sgn (FP.Core.val64 (FP.Core.i2d a)) = false
  rw [FP.Core.val64_i2d]
  show FP.Core.sgn (FP.Core.roundRatio FP.Core.b64 (decide (a.toInt < 0)) a.toInt.natAbs 1 0) = false
  rw [FP.Core.sgn_roundRatio]
  exact decide_eq_false (by omega)
theorem quo_sgn (f : FP.Core.Fmt) (c d : Nat) (q r : Int) : FP.Core.sgn (FP.Core.quotient f (.fin false c q) (.fin false d r)) = false := by
  show FP.Core.sgn (if d = 0 then (if c = 0 then .nan else .inf (false != false)) else FP.Core.roundRatio f (false != false) c d (q - r)) = false
  split
  · split
    · rfl
    · rfl
  · rw [FP.Core.sgn_roundRatio]; rfl
theorem pt8_fnn (a : Int32) (s w : Nat → Int32) (x : Int32) : my_fnn (f_X8_partOf a s w x) := by
  refine fnn_of (fin_X8_partOf a s w x) ?_
  unfold f_X8_partOf
  split
  · decide +kernel
  · obtain ⟨c, q, h1⟩ := i2d_fnn (orders_le a w x).1
    have h3 : 0 ≤ (f_X8_factorial (f_X8_ones a)).toInt := by
      obtain ⟨k, hk, e⟩ := ones_9 a
      rw [e]
      have h : ∀ k : Nat, k < 9 → 0 ≤ (f_X8_factorial (nI k)).toInt := by decide +kernel
      exact h k hk
    obtain ⟨d, r, h2⟩ := i2d_fnn h3
    show FP.Core.sgn (FP.Core.val64 (FP.Core.ddiv _ _)) = false
    rw [FP.Core.val64_ddiv, h1, h2]
    exact quo_sgn _ _ _ _ _
theorem i2f_sg {a : Int32} (h : 0 ≤ a.toInt) : ∃ c q, FP.Core.val32 (FP.i2f a) = .fin false c q := by
  obtain ⟨s, c, q, h1⟩ := my_i2f_fin a
  have h2 : FP.Core.sgn (FP.Core.val32 (FP.Core.i2f a)) = false := by
    rw [FP.Core.val32_i2f]
    show FP.Core.sgn (FP.Core.roundRatio FP.Core.b32 (decide (a.toInt < 0)) a.toInt.natAbs 1 0) = false
    rw [FP.Core.sgn_roundRatio]
    exact decide_eq_false (by omega)
  have h3 : FP.Core.sgn (FP.Core.val32 (FP.i2f a)) = false := h2
  rw [h1] at h3
  have e : s = false := h3
  subst e
  exact ⟨c, q, h1⟩
theorem fdiv_fin {a b : Int32} (h : ¬ b = 0) : FP.Core.FFin (FP.fdiv (FP.i2f a) (FP.i2f b)) := by
  have h1 := FP.Core.i2f_mag a
  have h2 := FP.Core.i2f_big (FP.Core.int32_ne h)
  have h3 := FP.Core.fdiv_mag (a := FP.Core.i2f a) (b := FP.Core.i2f b) (K := 160) (L := 127) (by omega) h2.1 h2.2 (by decide) (by decide)
  rw [FP.Core.fin_bits32]
  show (FP.Core.fdiv (FP.Core.i2f a) (FP.Core.i2f b)).toNat % 2 ^ 31 < _
  omega
theorem f2d_fnn {y : UInt32} (hf : FP.Core.FFin y) (hs : FP.Core.sgn (FP.Core.val32 y) = false) : my_fnn (FP.f2d y) := by
  have hn := hf.notNaN
  have e : FP.f2d y = FP.Core.f2d y := by unfold FP.f2d; rw [hn]; rfl
  rw [e]
  refine fnn_of (FP.Core.f2d_fin hf) ?_
  obtain ⟨s, c, q, h⟩ := hf
  rw [h] at hs
  have e2 : s = false := hs
  subst e2
  rw [FP.Core.val64_f2d, h]
  show FP.Core.sgn (FP.Core.roundRatio FP.Core.b64 false c 1 q) = false
  rw [FP.Core.sgn_roundRatio]
theorem sh8_fnn (w : Nat → Int32) (x : Int32) : my_fnn (FP.f2d (f_X8_shareOf w x)) := by
  unfold f_X8_shareOf
  split
  · exact ⟨0, -1074, by decide +kernel⟩
  · rename_i h
    refine f2d_fnn (fdiv_fin h) ?_
    obtain ⟨c, q, h1⟩ := i2f_sg (swings_le w x).1
    obtain ⟨d, r, h2⟩ := i2f_sg (allSwings_le w).1
    show FP.Core.sgn (FP.Core.val32 (FP.Core.fdiv _ _)) = false
    rw [FP.Core.val32_fdiv, h1, h2]
    exact quo_sgn _ _ _ _ _
theorem div3 {k : Int32} (h : ¬ k < 0) : (k / 3).toInt = k.toInt / 3 := by
  have a0 := nn_toInt h
  have hi := i32_hi k
  have e3 : (3 : Int32).toInt = 3 := by decide
  rw [Int32.toInt_div_of_ne_right _ _ (by decide), e3, Int.tdiv_eq_ediv_of_nonneg a0]
theorem dg_0 {k : Int32} (h : ¬ k < 0) : ¬ (k / 3) < 0 := fun h3 => by
  have a0 := nn_toInt h
  have e := div3 h
  have t := Int32.lt_iff_toInt_lt.mp h3
  have e0 := i32_c0
  omega
theorem mul3 {r : Int32} (h0 : ¬ r < 0) (h4 : ¬ 4 < r) : (3 * r).toInt = 3 * r.toInt := by
  have a0 := nn_toInt h0
  have b4 : ¬ (4 : Int32).toInt < r.toInt := fun z => h4 (Int32.lt_iff_toInt_lt.mpr z)
  have e4 := i32_c4
  have e3 : (3 : Int32).toInt = 3 := by decide
  rw [Int32.toInt_mul, e3]
  show Int.bmod _ 4294967296 = _
  rw [Int.bmod_eq_of_le (by omega) (by omega)]
theorem dg_1 {r k : Int32} (h0 : ¬ r < 0) (h4 : ¬ 4 < r) (hk : ¬ k < 0) (h : ¬ (3 * r) ≤ k) : ¬ r ≤ (k / 3) := fun h3 => by
  have a0 := nn_toInt hk
  have e := div3 hk
  have e2 := mul3 h0 h4
  have t := Int32.le_iff_toInt_le.mp h3
  have t2 := Int32.lt_iff_toInt_lt.mp (Int32.not_le.mp h)
  omega
theorem hd_X8_digest_S : yX8_digest.cls ≠ "java/lang/invoke/MethodHandle" ∧ yX8_digest.cls ≠ "java/lang/invoke/VarHandle" ∧ (parseMethodDescriptor yX8_digest.desc).map (fun d => d.parameters.length) = some 0 := by decide +kernel
theorem hd_X8_digest_V : yX8_digest.cls = RX8 ∧ yX8_digest.cls ≠ "java/lang/invoke/MethodHandle" ∧ yX8_digest.cls ≠ "java/lang/invoke/VarHandle" ∧ (parseMethodDescriptor yX8_digest.desc).map (fun d => d.parameters.length) = some 0 := ⟨rfl, hd_X8_digest_S⟩
def f_X8_digest_st3 (u_1 : Int32 × (Nat → Int32)) (i1_12 : Int64) (i3_13 : Int32) : (Int64 × Int32) ⊕ (Int64 × Int32) := (if 256 ≤ i3_13 then (.inr (i1_12, i3_13)) else (if (f_X8_isLeast u_1.2 i3_13) = 0 then (.inl (i1_12, (i3_13 + 1))) else (.inl (((31 * i1_12) + (Int32.toInt64 i3_13)), (i3_13 + 1)))))
def f_X8_digest_st2 (y7 : (Nat → Int32)) (i1_10 : Int64) (i3_11 : Int32) : (Int64 × Int32) ⊕ (Int64 × Int32) := (if (3 * (y7 2)) ≤ i3_11 then (.inr (i1_10, i3_11)) else (.inl (((31 * i1_10) + (Int32.toInt64 (f_X8_ruleOf y7 (i3_11 / 3) (i3_11 - i3_11 / 3 * 3)))), (i3_11 + 1))))
def f_X8_digest_st4 (y7 : (Nat → Int32)) (u_1 : Int32 × (Nat → Int32)) (i3_9 : Int32) (i1_18 : Int64) (i4_19 : Int32) : (Int64 × Int32) ⊕ (Int64 × Int32) := (if 8 ≤ i4_19 then (.inr (i1_18, i4_19)) else (.inl (((31 * i1_18) + (Int32.toInt64 (f_X8_memberOf u_1.1 y7 u_1.2 i3_9 i4_19))), (i4_19 + 1))))
def f_X8_digest_st1 (y7 : (Nat → Int32)) (u_1 : Int32 × (Nat → Int32)) (i1_8 : Int64) (i3_9 : Int32) : (Int64 × Int32) ⊕ (Int64 × Int32) := (if (y7 0) ≤ i3_9 then (.inr (i1_8, i3_9)) else (my_t2 (lp (fun (x : Int64 × Int32) => f_X8_digest_st4 y7 u_1 i3_9 x.1 x.2) default (((8 : Int32).toInt - (0 : Int32).toInt).toNat + 1) (i1_8, 0)) (fun (i1_18 : Int64) (i4_19 : Int32) => (.inl (((31 * ((31 * i1_18) + (f_X8_bits (FP.f2d (f_X8_shareOf u_1.2 i3_9)) 23 127))) + (f_X8_bits (f_X8_partOf u_1.1 y7 u_1.2 i3_9) 52 1023)), (i3_9 + 1))))))
def f_X8_digest_st (y2 : Int32) (y7 : (Nat → Int32)) (u_1 : Int32 × (Nat → Int32)) (i1_6 : Int64) (i3_7 : Int32) : (Int64 × Int32) ⊕ (Int64 × Int32) := (if 12 ≤ i3_7 then (.inr (i1_6, i3_7)) else (.inl (((31 * i1_6) + (Int32.toInt64 (f_X8_wholeOf y2 u_1.1 y7 u_1.2 i3_7))), (i3_7 + 1))))
def f_X8_digest (y0 : Int32) (y2 : Int32) (y7 : (Nat → Int32)) (y10 : (Nat → Int32)) : Int64 × (Int32 × Int32 × (Nat → Int32)) := (my_l (f_X8_lays y7 y10 (y7 1)) (fun (u_1 : Int32 × (Nat → Int32)) => (my_t2 (lp (fun (x : Int64 × Int32) => f_X8_digest_st y2 y7 u_1 x.1 x.2) default (((12 : Int32).toInt - (0 : Int32).toInt).toNat + 1) ((1351228 + (Int32.toInt64 y0)), 0)) (fun (i1_6 : Int64) (i3_7 : Int32) => (my_t2 (lp (fun (x : Int64 × Int32) => f_X8_digest_st1 y7 u_1 x.1 x.2) default ((((y7 0) : Int32).toInt - (0 : Int32).toInt).toNat + 1) (i1_6, 0)) (fun (i1_8 : Int64) (i3_9 : Int32) => (my_t2 (lp (fun (x : Int64 × Int32) => f_X8_digest_st2 y7 x.1 x.2) default ((((3 * (y7 2)) : Int32).toInt - (0 : Int32).toInt).toNat + 1) (i1_8, 0)) (fun (i1_10 : Int64) (i3_11 : Int32) => (my_t2 (lp (fun (x : Int64 × Int32) => f_X8_digest_st3 u_1 x.1 x.2) default (((256 : Int32).toInt - (0 : Int32).toInt).toNat + 1) (i1_10, 0)) (fun (i1_12 : Int64) (i3_13 : Int32) => (i1_12, (0, u_1.1, u_1.2))))))))))))
set_option maxHeartbeats 3200000 in
set_option maxRecDepth 100000 in
theorem c_X8_digest (l : Launch) (D : va_G) (cy : Nat → ClassId) (g : Nat → Nat) (B : Nat) (a : Nat → Nat) (y0 : Int32) (y1 : Int32) (y2 : Int32) (y3 : Int32) (y4 : Int32) (y5 : Int32) (y6 : Int32) (y7 : (Nat → Int32)) (y8 : (Nat → Int32)) (y9 : (Nat → Int32)) (y10 : (Nat → Int32)) (y11 : (Nat → Int32)) (y12 : (Nat → Int32)) (y13 : (Nat → Int32)) (hm8 : ¬ 8 < (y7 0)) (hR4 : ¬ 4 < (y7 2)) (hwin : ∀ j : Nat, y10 j = 0 ∨ y10 j = 1) (hR0 : ¬ (y7 2) < 0) : Met l yX8_digest wsX8_digest ({ frames := 4, cells := 0, slots := 0, locals := 91 }) (muP D cy g B (wModE cy a y0 y1 y2 y3 y4 y5 y6 y7 y8 y9 y10 y11 y12 y13) [.ref (a 0)]) (va_Ql (fun (r : Int64) (u : Int32 × Int32 × (Nat → Int32)) => f_X8_digest y0 y2 y7 y10 = (r, u)) (fun u t => va_P D vwCl (wModE cy a y0 y1 y2 u.1 u.2.1 y5 y6 y7 y8 y9 u.2.2 y11 y12 y13) t.heap) (muA (wModE cy a y0 y1 y2 y3 y4 y5 y6 y7 y8 y9 y10 y11 y12 y13))) 0 0 (muA (wModE cy a y0 y1 y2 y3 y4 y5 y6 y7 y8 y9 y10 y11 y12 y13)) := by
  refine Met.ofW (cc := cX8_digest) (maxL := 5) (ret := (some .long)) (by decide) rfl ?_
  intro p e s m args below meth c s₁ BB hml hv
  obtain ⟨rfl, hP, hK0, hD0⟩ := hv
  have hx := BB.exec
  have hb := BB.bytes
  have hr := BB.returns
  have hts := atoms_spec (ws := wsX8_digest) BB.pre
  have hown : s.vm.findClass RX8 = some m.cls := findClass_of_methodNamed BB.named
  have hlocks := BB.notSynchronized
  have S := my_fix hx hb hml hown hts
  have inX8 : ∀ w ∈ wsX80, w ∈ wsX8_digest := fun w h => List.mem_cons_of_mem _ (List.mem_append_right _ h)
  have hAB := muB hD0
  have hD := muD hD0
  generalize hAe : muA (wModE cy a y0 y1 y2 y3 y4 y5 y6 y7 y8 y9 y10 y11 y12 y13) = A at hAB hD ⊢
  have hS : va_S A s.heap s.heap [] := va_S.rf
  have hl := lv_entry ([.ref (a 0)]) (n := 5) (Nat.le_of_ble_eq_true rfl)
  rw [lg_entry_eq]
  generalize (lg_sl ([.ref (a 0)]) ++ List.replicate (5 - (lg_sl ([.ref (a 0)])).length) Slot.unset).toArray = ls at hl ⊢
  have hl : lv_has ls 5 [(0, .ref (a 0))] := hl
  refine lv_aload_n hx hb dX8_digest_0 rfl (lv_at hl 0 rfl) ?_
  refine lv_iconst (v := 0) hx hb dX8_digest_1 (by decide) ?_
  refine va_put (D := D) (ci := 6) (v := .int 0) (ty := .int) (C := RX8) (T := TX8) (N := 14) hx hb hts inX8 tyX8 tyX8_ok nmX8 hown hK0.1 hP hD hS 0 rfl rfl 6 (by decide) (hts (.fieldLink RX8 32 "PivotChamberModel" "refused" "I") (List.mem_of_getElem? (i := 1) rfl)) (fun _ h9 => h9) rfl (by decide +kernel) rfl rfl (Nat.le_of_ble_eq_true rfl) dX8_digest_2 (fun H locs hP hD hS => ?_)
  have hP : va_P D vwCl (wModE cy a y0 y1 y2 0 y4 y5 y6 y7 y8 y9 y10 y11 y12 y13) H := hP
  have hD : va_D A (wModE cy a y0 y1 y2 0 y4 y5 y6 y7 y8 y9 y10 y11 y12 y13) := hD
  refine lv_aload_n hx hb dX8_digest_5 rfl (lv_at hl 0 rfl) ?_
  refine lv_aload_n hx hb dX8_digest_6 rfl (lv_at hl 0 rfl) ?_
  refine va_get (D := D) (ci := 6) (v := .ref (a 1)) (C := RX8) (T := TX8) (N := 14) hx hb hts inX8 hown hK0.1 hP 0 rfl rfl 0 (by decide) (hts (.fieldLink RX8 7 "PivotChamberModel" "s" "[I") (List.mem_of_getElem? (i := 2) rfl)) (fun _ h9 => h9) rfl dX8_digest_7 ?_
  refine lv_iconst (v := 1) hx hb dX8_digest_10 (by decide) ?_
  refine va_iald hx hb hK0.1 hP 1 0 rfl rfl (vp_in_nI (n := 1) (N := 27) (by decide) (by decide)) dX8_digest_11 ?_
  refine W.eq (g2 := F0 m 12 ls [.int (y7 1), .ref (a 0)]) rfl ?_
  refine mu_allv (wf := fun (u_1 : Int32 × (Nat → Int32)) => (wModE cy a y0 y1 y2 0 u_1.1 y5 y6 y7 y8 y9 u_1.2 y11 y12 y13)) (va_runV (C := RX8) (As := [.int (y7 1)]) (rest := []) S (c_X8_lays l D cy g B a y0 y1 y2 0 y4 y5 y6 y7 y8 y9 y10 y11 y12 y13 (y7 1) hm8 hR4) (cwV 1 hts gX8_digest_X8_lays rfl rfl rfl hd_X8_lays_V ⟨Nat.le_of_ble_eq_true rfl, Nat.le_of_ble_eq_true rfl⟩) ⟨muP_blind, va_recv hK0.1 hP (ci := 6) (q0 := 0) rfl rfl, my_preA hK0 hS hAB hP hD⟩ rfl rfl hl.1 rfl (lv_room (Nat.le_of_ble_eq_true rfl)) dX8_digest_12 ⟨Nat.zero_le _, Nat.zero_le _⟩) hS hD (fun _ => by simp only [List.map_cons, List.map_nil, adrSet, adrSetE, adrPow, adrPowE, adrTxt, adrTxtE, adrSav, adrSavE, adrPCo, adrMod, adrModE]) (fun u_1 H locs hw_2 hP hD hS => ?_)
  have ha_3 : ¬ u_1.1 < 0 := lays_0 hm8 hw_2
  have ha_4 : ¬ 256 ≤ u_1.1 := lays_256 hm8 hw_2
  have ha_5 : ∀ j : Nat, u_1.2 j = 0 ∨ u_1.2 j = 1 := lays_bool hwin hw_2
  refine lv_ldc2 hx hb hown (hts (.constantLong RX8 228 (1351228)) (List.mem_of_getElem? (i := 3) rfl)) dX8_digest_15 ?_
  refine lv_aload_n hx hb dX8_digest_18 rfl (lv_at hl 0 rfl) ?_
  refine va_get (D := D) (ci := 6) (v := .int y0) (C := RX8) (T := TX8) (N := 14) hx hb hts inX8 hown hK0.1 hP 0 rfl rfl 2 (by decide) (hts (.fieldLink RX8 40 "PivotChamberModel" "pasts" "I") (List.mem_of_getElem? (i := 4) rfl)) (fun _ h9 => h9) rfl dX8_digest_19 ?_
  refine lv_i2l (v := (Int32.toInt64 y0)) hx hb dX8_digest_22 rfl ?_
  refine lv_ladd hx hb dX8_digest_23 ?_
  refine lv_lstore_n (lv' := [(1, .long (1351228 + (Int32.toInt64 y0))), (0, .ref (a 0))]) hx hb dX8_digest_24 rfl hl (by decide) rfl (fun ls hl => ?_)
  refine lv_iconst (v := 0) hx hb dX8_digest_25 (by decide) ?_
  refine lv_istore_n (lv' := [(3, .int 0), (1, .long (1351228 + (Int32.toInt64 y0))), (0, .ref (a 0))]) hx hb dX8_digest_26 rfl hl (by decide) rfl (fun ls hl => ?_)
  have cont0 : ∀ (i1_6 : Int64) (i3_7 : Int32), lp (fun (x : Int64 × Int32) => f_X8_digest_st y2 y7 u_1 x.1 x.2) default (((12 : Int32).toInt - (0 : Int32).toInt).toNat + 1) ((1351228 + (Int32.toInt64 y0)), 0) = (i1_6, i3_7) → ¬ i3_7 < 0 → ∀ ls : Array Slot, lv_has ls 5 [(0, .ref (a 0)), (1, .long i1_6), (3, .int i3_7)] → W p l e (headSpec wsX8_digest ({ frames := 4, cells := 0, slots := 0, locals := 91 } : Room)).room s m ([.ref (a 0)] : List Value).toArray below meth c H locs 0 0 (MQ below (va_Ql (fun (r : Int64) (u : Int32 × Int32 × (Nat → Int32)) => f_X8_digest y0 y2 y7 y10 = (r, u)) (fun u t => va_P D vwCl (wModE cy a y0 y1 y2 u.1 u.2.1 y5 y6 y7 y8 y9 u.2.2 y11 y12 y13) t.heap) A) ([.ref (a 0)] : List Value).toArray s 0 0 A) (F0 m 52 ls []) := by
    intro i1_6 i3_7 hE0 hj0_0 ls hl
    refine lv_iconst (v := 0) hx hb dX8_digest_52 (by decide) ?_
    refine lv_istore_n (lv' := [(3, .int 0), (0, .ref (a 0)), (1, .long i1_6)]) hx hb dX8_digest_53 rfl hl (by decide) rfl (fun ls hl => ?_)
    have cont1 : ∀ (i1_8 : Int64) (i3_9 : Int32), lp (fun (x : Int64 × Int32) => f_X8_digest_st1 y7 u_1 x.1 x.2) default ((((y7 0) : Int32).toInt - (0 : Int32).toInt).toNat + 1) (i1_6, 0) = (i1_8, i3_9) → ¬ i3_9 < 0 → ∀ ls : Array Slot, lv_has ls 5 [(0, .ref (a 0)), (1, .long i1_8), (3, .int i3_9)] → W p l e (headSpec wsX8_digest ({ frames := 4, cells := 0, slots := 0, locals := 91 } : Room)).room s m ([.ref (a 0)] : List Value).toArray below meth c H locs 0 0 (MQ below (va_Ql (fun (r : Int64) (u : Int32 × Int32 × (Nat → Int32)) => f_X8_digest y0 y2 y7 y10 = (r, u)) (fun u t => va_P D vwCl (wModE cy a y0 y1 y2 u.1 u.2.1 y5 y6 y7 y8 y9 u.2.2 y11 y12 y13) t.heap) A) ([.ref (a 0)] : List Value).toArray s 0 0 A) (F0 m 142 ls []) := by
      intro i1_8 i3_9 hE1 hj1_0 ls hl
      refine lv_iconst (v := 0) hx hb dX8_digest_142 (by decide) ?_
      refine lv_istore_n (lv' := [(3, .int 0), (0, .ref (a 0)), (1, .long i1_8)]) hx hb dX8_digest_143 rfl hl (by decide) rfl (fun ls hl => ?_)
      have cont2 : ∀ (i1_10 : Int64) (i3_11 : Int32), lp (fun (x : Int64 × Int32) => f_X8_digest_st2 y7 x.1 x.2) default ((((3 * (y7 2)) : Int32).toInt - (0 : Int32).toInt).toNat + 1) (i1_8, 0) = (i1_10, i3_11) → ¬ i3_11 < 0 → ∀ ls : Array Slot, lv_has ls 5 [(0, .ref (a 0)), (1, .long i1_10), (3, .int i3_11)] → W p l e (headSpec wsX8_digest ({ frames := 4, cells := 0, slots := 0, locals := 91 } : Room)).room s m ([.ref (a 0)] : List Value).toArray below meth c H locs 0 0 (MQ below (va_Ql (fun (r : Int64) (u : Int32 × Int32 × (Nat → Int32)) => f_X8_digest y0 y2 y7 y10 = (r, u)) (fun u t => va_P D vwCl (wModE cy a y0 y1 y2 u.1 u.2.1 y5 y6 y7 y8 y9 u.2.2 y11 y12 y13) t.heap) A) ([.ref (a 0)] : List Value).toArray s 0 0 A) (F0 m 180 ls []) := by
        intro i1_10 i3_11 hE2 hj2_0 ls hl
        refine lv_iconst (v := 0) hx hb dX8_digest_180 (by decide) ?_
        refine lv_istore_n (lv' := [(3, .int 0), (0, .ref (a 0)), (1, .long i1_10)]) hx hb dX8_digest_181 rfl hl (by decide) rfl (fun ls hl => ?_)
        have cont3 : ∀ (i1_12 : Int64) (i3_13 : Int32), lp (fun (x : Int64 × Int32) => f_X8_digest_st3 u_1 x.1 x.2) default (((256 : Int32).toInt - (0 : Int32).toInt).toNat + 1) (i1_10, 0) = (i1_12, i3_13) → ¬ i3_13 < 0 → ∀ ls : Array Slot, lv_has ls 5 [(0, .ref (a 0)), (1, .long i1_12), (3, .int i3_13)] → W p l e (headSpec wsX8_digest ({ frames := 4, cells := 0, slots := 0, locals := 91 } : Room)).room s m ([.ref (a 0)] : List Value).toArray below meth c H locs 0 0 (MQ below (va_Ql (fun (r : Int64) (u : Int32 × Int32 × (Nat → Int32)) => f_X8_digest y0 y2 y7 y10 = (r, u)) (fun u t => va_P D vwCl (wModE cy a y0 y1 y2 u.1 u.2.1 y5 y6 y7 y8 y9 u.2.2 y11 y12 y13) t.heap) A) ([.ref (a 0)] : List Value).toArray s 0 0 A) (F0 m 216 ls []) := by
          intro i1_12 i3_13 hE3 hj3_0 ls hl
          refine lv_lload_n hx hb dX8_digest_216 rfl (lv_at hl 1 rfl) ?_
          have hP : va_P D vwCl (wModE cy a y0 y1 y2 0 u_1.1 y5 y6 y7 y8 y9 u_1.2 y11 y12 y13) H := hP
          have hD : va_D A (wModE cy a y0 y1 y2 0 u_1.1 y5 y6 y7 y8 y9 u_1.2 y11 y12 y13) := hD
          exact W.lret hx hb hr (fun t ht hW => ⟨⟨i1_12, (0, u_1.1, u_1.2), rfl, (show f_X8_digest y0 y2 y7 y10 = (i1_12, (0, u_1.1, u_1.2)) from by rw [f_X8_digest, hw_2, my_l_eq, hE0, my_t2_eq, hE1, my_t2_eq, hE2, my_t2_eq, hE3, my_t2_eq]), by show va_P D vwCl _ t.heap; rw [ht]; exact hP⟩, hS.F ht⟩) hS.2.2 dX8_digest_217
        have key : ∀ (nf : Nat) (i1_12 : Int64) (i3_13 : Int32), ((256 : Int32).toInt - (i3_13 : Int32).toInt).toNat < nf → lp (fun (x : Int64 × Int32) => f_X8_digest_st3 u_1 x.1 x.2) default nf (i1_12, i3_13) = lp (fun (x : Int64 × Int32) => f_X8_digest_st3 u_1 x.1 x.2) default (((256 : Int32).toInt - (0 : Int32).toInt).toNat + 1) (i1_10, 0) → ¬ i3_13 < 0 → ∀ ls : Array Slot, lv_has ls 5 [(0, .ref (a 0)), (1, .long i1_12), (3, .int i3_13)] → W p l e (headSpec wsX8_digest ({ frames := 4, cells := 0, slots := 0, locals := 91 } : Room)).room s m ([.ref (a 0)] : List Value).toArray below meth c H locs 0 0 (MQ below (va_Ql (fun (r : Int64) (u : Int32 × Int32 × (Nat → Int32)) => f_X8_digest y0 y2 y7 y10 = (r, u)) (fun u t => va_P D vwCl (wModE cy a y0 y1 y2 u.1 u.2.1 y5 y6 y7 y8 y9 u.2.2 y11 y12 y13) t.heap) A) ([.ref (a 0)] : List Value).toArray s 0 0 A) (F0 m 182 ls []) := by
          intro n3
          induction n3 with
          | zero => intro i1_12 i3_13 hlt; exact absurd hlt (Nat.not_lt_zero _)
          | succ n3 ih3 =>
            intro i1_12 i3_13 hlt3 hF3 hi3_0 ls hl
            refine lv_iload_n hx hb dX8_digest_182 rfl (lv_at hl 2 rfl) ?_
            refine lv_sipush (v := 256) hx hb dX8_digest_183 (by decide) ?_
            refine lv_icmp_ge (tgt := 216) hx hb dX8_digest_186 (by decide) (fun c_14 => ?_) (fun c_14 => ?_)
            · have hst : f_X8_digest_st3 u_1 i1_12 i3_13 = .inr (i1_12, i3_13) := by rw [f_X8_digest_st3, if_pos c_14]
              exact cont3 i1_12 i3_13 (lp_inr hst hF3) hi3_0 _ (lv_sub hl [0, 1, 2] rfl)
            · refine lv_aload_n hx hb dX8_digest_189 rfl (lv_at hl 0 rfl) ?_
              refine lv_iload_n hx hb dX8_digest_190 rfl (lv_at hl 2 rfl) ?_
              refine rd_goi (va_runV (C := RX8) (As := [.int i3_13]) (rest := []) S (c_X8_isLeast l D cy g B a y0 y1 y2 0 u_1.1 y5 y6 y7 y8 y9 u_1.2 y11 y12 y13 i3_13 ha_5 hi3_0 c_14) (cwV 1 hts gX8_digest_X8_isLeast rfl rfl rfl hd_X8_isLeast_V ⟨Nat.le_of_ble_eq_true rfl, Nat.le_of_ble_eq_true rfl⟩) ⟨rdP_blind, va_recv hK0.1 hP (ci := 6) (q0 := 0) rfl rfl, my_preP hK0 hS hAB hP⟩ rfl rfl hl.1 rfl (lv_room (Nat.le_of_ble_eq_true rfl)) dX8_digest_191 ⟨Nat.zero_le _, Nat.zero_le _⟩) ?_
              refine lv_if_eq (tgt := 208) hx hb dX8_digest_194 (by decide) (fun c_15 => ?_) (fun c_15 => ?_)
              · refine lv_lload_n hx hb dX8_digest_208 rfl (lv_at hl 1 rfl) ?_
                refine lv_lstore_n (lv' := [(1, .long i1_12), (0, .ref (a 0)), (3, .int i3_13)]) hx hb dX8_digest_209 rfl hl (by decide) rfl (fun ls hl => ?_)
                refine lv_iinc (v := (i3_13 + 1)) (lv' := [(3, .int (i3_13 + 1)), (1, .long i1_12), (0, .ref (a 0))]) hx hb dX8_digest_210 hl (k := 2) rfl rfl (by decide) rfl (fun ls hl => ?_)
                refine lv_goto (tgt := 182) hx hb dX8_digest_213 (by decide) ?_
                have hst : f_X8_digest_st3 u_1 i1_12 i3_13 = .inl (i1_12, (i3_13 + 1)) := by rw [f_X8_digest_st3, if_neg c_14, if_pos c_15]
                have hmu : ((256 : Int32).toInt - ((i3_13 + 1) : Int32).toInt).toNat < ((256 : Int32).toInt - (i3_13 : Int32).toInt).toNat := mu_up c_14
                exact ih3 i1_12 (i3_13 + 1) (Nat.lt_of_lt_of_le hmu (Nat.le_of_lt_succ hlt3)) (lp_inl hst hF3) (nn_up hi3_0 c_14) _ (lv_sub hl [2, 1, 0] rfl)
              · refine lv_ldc2 hx hb hown (hts (.constantLong RX8 230 (31)) (List.mem_of_getElem? (i := 5) rfl)) dX8_digest_197 ?_
                refine lv_lload_n hx hb dX8_digest_200 rfl (lv_at hl 1 rfl) ?_
                refine lv_lmul hx hb dX8_digest_201 ?_
                refine lv_iload_n hx hb dX8_digest_202 rfl (lv_at hl 2 rfl) ?_
                refine lv_i2l (v := (Int32.toInt64 i3_13)) hx hb dX8_digest_203 rfl ?_
                refine lv_ladd hx hb dX8_digest_204 ?_
                refine lv_goto (tgt := 209) hx hb dX8_digest_205 (by decide) ?_
                refine lv_lstore_n (lv' := [(1, .long ((31 * i1_12) + (Int32.toInt64 i3_13))), (0, .ref (a 0)), (3, .int i3_13)]) hx hb dX8_digest_209 rfl hl (by decide) rfl (fun ls hl => ?_)
                refine lv_iinc (v := (i3_13 + 1)) (lv' := [(3, .int (i3_13 + 1)), (1, .long ((31 * i1_12) + (Int32.toInt64 i3_13))), (0, .ref (a 0))]) hx hb dX8_digest_210 hl (k := 2) rfl rfl (by decide) rfl (fun ls hl => ?_)
                refine lv_goto (tgt := 182) hx hb dX8_digest_213 (by decide) ?_
                have hst : f_X8_digest_st3 u_1 i1_12 i3_13 = .inl (((31 * i1_12) + (Int32.toInt64 i3_13)), (i3_13 + 1)) := by rw [f_X8_digest_st3, if_neg c_14, if_neg c_15]
                have hmu : ((256 : Int32).toInt - ((i3_13 + 1) : Int32).toInt).toNat < ((256 : Int32).toInt - (i3_13 : Int32).toInt).toNat := mu_up c_14
                exact ih3 ((31 * i1_12) + (Int32.toInt64 i3_13)) (i3_13 + 1) (Nat.lt_of_lt_of_le hmu (Nat.le_of_lt_succ hlt3)) (lp_inl hst hF3) (nn_up hi3_0 c_14) _ (lv_sub hl [2, 1, 0] rfl)
        exact key (((256 : Int32).toInt - (0 : Int32).toInt).toNat + 1) i1_10 0 (Nat.lt_succ_self _) rfl (by decide) _ (lv_sub hl [1, 2, 0] rfl)
      have key : ∀ (nf : Nat) (i1_10 : Int64) (i3_11 : Int32), (((3 * (y7 2)) : Int32).toInt - (i3_11 : Int32).toInt).toNat < nf → lp (fun (x : Int64 × Int32) => f_X8_digest_st2 y7 x.1 x.2) default nf (i1_10, i3_11) = lp (fun (x : Int64 × Int32) => f_X8_digest_st2 y7 x.1 x.2) default ((((3 * (y7 2)) : Int32).toInt - (0 : Int32).toInt).toNat + 1) (i1_8, 0) → ¬ i3_11 < 0 → ∀ ls : Array Slot, lv_has ls 5 [(0, .ref (a 0)), (1, .long i1_10), (3, .int i3_11)] → W p l e (headSpec wsX8_digest ({ frames := 4, cells := 0, slots := 0, locals := 91 } : Room)).room s m ([.ref (a 0)] : List Value).toArray below meth c H locs 0 0 (MQ below (va_Ql (fun (r : Int64) (u : Int32 × Int32 × (Nat → Int32)) => f_X8_digest y0 y2 y7 y10 = (r, u)) (fun u t => va_P D vwCl (wModE cy a y0 y1 y2 u.1 u.2.1 y5 y6 y7 y8 y9 u.2.2 y11 y12 y13) t.heap) A) ([.ref (a 0)] : List Value).toArray s 0 0 A) (F0 m 144 ls []) := by
        intro n2
        induction n2 with
        | zero => intro i1_10 i3_11 hlt; exact absurd hlt (Nat.not_lt_zero _)
        | succ n2 ih2 =>
          intro i1_10 i3_11 hlt2 hF2 hi2_0 ls hl
          refine lv_iload_n hx hb dX8_digest_144 rfl (lv_at hl 2 rfl) ?_
          refine lv_iconst (v := 3) hx hb dX8_digest_145 (by decide) ?_
          refine lv_aload_n hx hb dX8_digest_146 rfl (lv_at hl 0 rfl) ?_
          refine va_get (D := D) (ci := 6) (v := .ref (a 1)) (C := RX8) (T := TX8) (N := 14) hx hb hts inX8 hown hK0.1 hP 0 rfl rfl 0 (by decide) (hts (.fieldLink RX8 7 "PivotChamberModel" "s" "[I") (List.mem_of_getElem? (i := 2) rfl)) (fun _ h9 => h9) rfl dX8_digest_147 ?_
          refine lv_iconst (v := 2) hx hb dX8_digest_150 (by decide) ?_
          refine va_iald hx hb hK0.1 hP 1 0 rfl rfl (vp_in_nI (n := 2) (N := 27) (by decide) (by decide)) dX8_digest_151 ?_
          refine W.eq (g2 := F0 m 152 ls [.int (y7 2), .int 3, .int i3_11]) rfl ?_
          refine lv_imul hx hb dX8_digest_152 ?_
          refine lv_icmp_ge (tgt := 180) hx hb dX8_digest_153 (by decide) (fun c_16 => ?_) (fun c_16 => ?_)
          · have hst : f_X8_digest_st2 y7 i1_10 i3_11 = .inr (i1_10, i3_11) := by rw [f_X8_digest_st2, if_pos c_16]
            exact cont2 i1_10 i3_11 (lp_inr hst hF2) hi2_0 _ (lv_sub hl [0, 1, 2] rfl)
          · refine lv_ldc2 hx hb hown (hts (.constantLong RX8 230 (31)) (List.mem_of_getElem? (i := 5) rfl)) dX8_digest_156 ?_
            refine lv_lload_n hx hb dX8_digest_159 rfl (lv_at hl 1 rfl) ?_
            refine lv_lmul hx hb dX8_digest_160 ?_
            refine lv_aload_n hx hb dX8_digest_161 rfl (lv_at hl 0 rfl) ?_
            refine lv_iload_n hx hb dX8_digest_162 rfl (lv_at hl 2 rfl) ?_
            refine lv_iconst (v := 3) hx hb dX8_digest_163 (by decide) ?_
            refine lv_idiv hx hb dX8_digest_164 (by decide) ?_
            refine lv_iload_n hx hb dX8_digest_165 rfl (lv_at hl 2 rfl) ?_
            refine lv_iconst (v := 3) hx hb dX8_digest_166 (by decide) ?_
            refine lv_irem hx hb dX8_digest_167 (by decide) ?_
            refine rd_goi (va_runV (C := RX8) (As := [.int (i3_11 / 3), .int (i3_11 - i3_11 / 3 * 3)]) (rest := [.long (31 * i1_10)]) S (c_X8_ruleOf l D cy g B a y0 y1 y2 0 u_1.1 y5 y6 y7 y8 y9 u_1.2 y11 y12 y13 (i3_11 / 3) (i3_11 - i3_11 / 3 * 3) hR4 (dg_0 hi2_0) (dg_1 hR0 hR4 hi2_0 c_16)) (cwV 2 hts gX8_digest_X8_ruleOf rfl rfl rfl hd_X8_ruleOf_V ⟨Nat.le_of_ble_eq_true rfl, Nat.le_of_ble_eq_true rfl⟩) ⟨rdP_blind, va_recv hK0.1 hP (ci := 6) (q0 := 0) rfl rfl, my_preP hK0 hS hAB hP⟩ rfl rfl hl.1 rfl (lv_room (Nat.le_of_ble_eq_true rfl)) dX8_digest_168 ⟨Nat.zero_le _, Nat.zero_le _⟩) ?_
            refine lv_i2l (v := (Int32.toInt64 (f_X8_ruleOf y7 (i3_11 / 3) (i3_11 - i3_11 / 3 * 3)))) hx hb dX8_digest_171 rfl ?_
            refine lv_ladd hx hb dX8_digest_172 ?_
            refine lv_lstore_n (lv' := [(1, .long ((31 * i1_10) + (Int32.toInt64 (f_X8_ruleOf y7 (i3_11 / 3) (i3_11 - i3_11 / 3 * 3))))), (0, .ref (a 0)), (3, .int i3_11)]) hx hb dX8_digest_173 rfl hl (by decide) rfl (fun ls hl => ?_)
            refine lv_iinc (v := (i3_11 + 1)) (lv' := [(3, .int (i3_11 + 1)), (1, .long ((31 * i1_10) + (Int32.toInt64 (f_X8_ruleOf y7 (i3_11 / 3) (i3_11 - i3_11 / 3 * 3))))), (0, .ref (a 0))]) hx hb dX8_digest_174 hl (k := 2) rfl rfl (by decide) rfl (fun ls hl => ?_)
            refine lv_goto (tgt := 144) hx hb dX8_digest_177 (by decide) ?_
            have hst : f_X8_digest_st2 y7 i1_10 i3_11 = .inl (((31 * i1_10) + (Int32.toInt64 (f_X8_ruleOf y7 (i3_11 / 3) (i3_11 - i3_11 / 3 * 3)))), (i3_11 + 1)) := by rw [f_X8_digest_st2, if_neg c_16]
            have hmu : (((3 * (y7 2)) : Int32).toInt - ((i3_11 + 1) : Int32).toInt).toNat < (((3 * (y7 2)) : Int32).toInt - (i3_11 : Int32).toInt).toNat := mu_up c_16
            exact ih2 ((31 * i1_10) + (Int32.toInt64 (f_X8_ruleOf y7 (i3_11 / 3) (i3_11 - i3_11 / 3 * 3)))) (i3_11 + 1) (Nat.lt_of_lt_of_le hmu (Nat.le_of_lt_succ hlt2)) (lp_inl hst hF2) (nn_up hi2_0 c_16) _ (lv_sub hl [2, 1, 0] rfl)
      exact key ((((3 * (y7 2)) : Int32).toInt - (0 : Int32).toInt).toNat + 1) i1_8 0 (Nat.lt_succ_self _) rfl (by decide) _ (lv_sub hl [1, 2, 0] rfl)
    have key : ∀ (nf : Nat) (i1_8 : Int64) (i3_9 : Int32), (((y7 0) : Int32).toInt - (i3_9 : Int32).toInt).toNat < nf → lp (fun (x : Int64 × Int32) => f_X8_digest_st1 y7 u_1 x.1 x.2) default nf (i1_8, i3_9) = lp (fun (x : Int64 × Int32) => f_X8_digest_st1 y7 u_1 x.1 x.2) default ((((y7 0) : Int32).toInt - (0 : Int32).toInt).toNat + 1) (i1_6, 0) → ¬ i3_9 < 0 → ∀ ls : Array Slot, lv_has ls 5 [(0, .ref (a 0)), (1, .long i1_8), (3, .int i3_9)] → W p l e (headSpec wsX8_digest ({ frames := 4, cells := 0, slots := 0, locals := 91 } : Room)).room s m ([.ref (a 0)] : List Value).toArray below meth c H locs 0 0 (MQ below (va_Ql (fun (r : Int64) (u : Int32 × Int32 × (Nat → Int32)) => f_X8_digest y0 y2 y7 y10 = (r, u)) (fun u t => va_P D vwCl (wModE cy a y0 y1 y2 u.1 u.2.1 y5 y6 y7 y8 y9 u.2.2 y11 y12 y13) t.heap) A) ([.ref (a 0)] : List Value).toArray s 0 0 A) (F0 m 54 ls []) := by
      intro n1
      induction n1 with
      | zero => intro i1_8 i3_9 hlt; exact absurd hlt (Nat.not_lt_zero _)
      | succ n1 ih1 =>
        intro i1_8 i3_9 hlt1 hF1 hi1_0 ls hl
        refine lv_iload_n hx hb dX8_digest_54 rfl (lv_at hl 2 rfl) ?_
        refine lv_aload_n hx hb dX8_digest_55 rfl (lv_at hl 0 rfl) ?_
        refine va_get (D := D) (ci := 6) (v := .ref (a 1)) (C := RX8) (T := TX8) (N := 14) hx hb hts inX8 hown hK0.1 hP 0 rfl rfl 0 (by decide) (hts (.fieldLink RX8 7 "PivotChamberModel" "s" "[I") (List.mem_of_getElem? (i := 2) rfl)) (fun _ h9 => h9) rfl dX8_digest_56 ?_
        refine lv_iconst (v := 0) hx hb dX8_digest_59 (by decide) ?_
        refine va_iald hx hb hK0.1 hP 1 0 rfl rfl (vp_in_nI (n := 0) (N := 27) (by decide) (by decide)) dX8_digest_60 ?_
        refine W.eq (g2 := F0 m 61 ls [.int (y7 0), .int i3_9]) rfl ?_
        refine lv_icmp_ge (tgt := 142) hx hb dX8_digest_61 (by decide) (fun c_17 => ?_) (fun c_17 => ?_)
        · have hst : f_X8_digest_st1 y7 u_1 i1_8 i3_9 = .inr (i1_8, i3_9) := by rw [f_X8_digest_st1, if_pos c_17]
          exact cont1 i1_8 i3_9 (lp_inr hst hF1) hi1_0 _ (lv_sub hl [0, 1, 2] rfl)
        · refine lv_iconst (v := 0) hx hb dX8_digest_64 (by decide) ?_
          refine lv_istore (lv' := [(4, .int 0), (0, .ref (a 0)), (1, .long i1_8), (3, .int i3_9)]) hx hb dX8_digest_65 hl (by decide) rfl (fun ls hl => ?_)
          have cont4 : ∀ (i1_18 : Int64) (i4_19 : Int32), lp (fun (x : Int64 × Int32) => f_X8_digest_st4 y7 u_1 i3_9 x.1 x.2) default (((8 : Int32).toInt - (0 : Int32).toInt).toNat + 1) (i1_8, 0) = (i1_18, i4_19) → ¬ i4_19 < 0 → ∀ ls : Array Slot, lv_has ls 5 [(0, .ref (a 0)), (1, .long i1_18), (3, .int i3_9), (4, .int i4_19)] → W p l e (headSpec wsX8_digest ({ frames := 4, cells := 0, slots := 0, locals := 91 } : Room)).room s m ([.ref (a 0)] : List Value).toArray below meth c H locs 0 0 (MQ below (va_Ql (fun (r : Int64) (u : Int32 × Int32 × (Nat → Int32)) => f_X8_digest y0 y2 y7 y10 = (r, u)) (fun u t => va_P D vwCl (wModE cy a y0 y1 y2 u.1 u.2.1 y5 y6 y7 y8 y9 u.2.2 y11 y12 y13) t.heap) A) ([.ref (a 0)] : List Value).toArray s 0 0 A) (F0 m 95 ls []) := by
            intro i1_18 i4_19 hE4 hj4_0 ls hl
            refine lv_ldc2 hx hb hown (hts (.constantLong RX8 230 (31)) (List.mem_of_getElem? (i := 5) rfl)) dX8_digest_95 ?_
            refine lv_lload_n hx hb dX8_digest_98 rfl (lv_at hl 1 rfl) ?_
            refine lv_lmul hx hb dX8_digest_99 ?_
            refine lv_aload_n hx hb dX8_digest_100 rfl (lv_at hl 0 rfl) ?_
            refine lv_iload_n hx hb dX8_digest_101 rfl (lv_at hl 2 rfl) ?_
            refine rd_gof (va_runV (C := RX8) (As := [.int i3_9]) (rest := [.long (31 * i1_18)]) S (c_X8_shareOf l D cy g B a y0 y1 y2 0 u_1.1 y5 y6 y7 y8 y9 u_1.2 y11 y12 y13 i3_9) (cwV 1 hts gX8_digest_X8_shareOf rfl rfl rfl hd_X8_shareOf_V ⟨Nat.le_of_ble_eq_true rfl, Nat.le_of_ble_eq_true rfl⟩) ⟨rdP_blind, va_recv hK0.1 hP (ci := 6) (q0 := 0) rfl rfl, my_preP hK0 hS hAB hP⟩ rfl rfl hl.1 rfl (lv_room (Nat.le_of_ble_eq_true rfl)) dX8_digest_102 ⟨Nat.zero_le _, Nat.zero_le _⟩) ?_
            refine lv_f2d hx hb dX8_digest_105 (my_n64 (my_f2d_nn (nn_X8_shareOf u_1.2 i3_9))) ?_
            refine lv_bipush (v := 23) hx hb dX8_digest_106 (by decide) ?_
            refine lv_ldc2 hx hb hown (hts (.constantLong RX8 232 (127)) (List.mem_of_getElem? (i := 6) rfl)) dX8_digest_108 ?_
            refine rd_gol (va_runS (As := [.double (FP.f2d (f_X8_shareOf u_1.2 i3_9)), .int 23, .long 127]) (rest := [.long (31 * i1_18)]) S (c_X8_bits l D cy g B (FP.f2d (f_X8_shareOf u_1.2 i3_9)) 23 127 (sh8_fnn _ _) (by decide)) (va_cwS 3 hts gX8_digest_X8_bits rfl rfl rfl hd_X8_bits_S ⟨Nat.le_of_ble_eq_true rfl, Nat.le_of_ble_eq_true rfl⟩) ⟨rdP_blind, my_preV hK0 hS hAB hP [] rfl⟩ rfl rfl hl.1 rfl (lv_room (Nat.le_of_ble_eq_true rfl)) dX8_digest_111 ⟨Nat.zero_le _, Nat.zero_le _⟩) ?_
            refine lv_ladd hx hb dX8_digest_114 ?_
            refine lv_lstore_n (lv' := [(1, .long ((31 * i1_18) + (f_X8_bits (FP.f2d (f_X8_shareOf u_1.2 i3_9)) 23 127))), (0, .ref (a 0)), (3, .int i3_9), (4, .int i4_19)]) hx hb dX8_digest_115 rfl hl (by decide) rfl (fun ls hl => ?_)
            refine lv_ldc2 hx hb hown (hts (.constantLong RX8 230 (31)) (List.mem_of_getElem? (i := 5) rfl)) dX8_digest_116 ?_
            refine lv_lload_n hx hb dX8_digest_119 rfl (lv_at hl 0 rfl) ?_
            refine lv_lmul hx hb dX8_digest_120 ?_
            refine lv_aload_n hx hb dX8_digest_121 rfl (lv_at hl 1 rfl) ?_
            refine lv_iload_n hx hb dX8_digest_122 rfl (lv_at hl 2 rfl) ?_
            refine rd_god (va_runV (C := RX8) (As := [.int i3_9]) (rest := [.long (31 * ((31 * i1_18) + (f_X8_bits (FP.f2d (f_X8_shareOf u_1.2 i3_9)) 23 127)))]) S (c_X8_partOf l D cy g B a y0 y1 y2 0 u_1.1 y5 y6 y7 y8 y9 u_1.2 y11 y12 y13 i3_9 hm8) (cwV 1 hts gX8_digest_X8_partOf rfl rfl rfl hd_X8_partOf_V ⟨Nat.le_of_ble_eq_true rfl, Nat.le_of_ble_eq_true rfl⟩) ⟨rdP_blind, va_recv hK0.1 hP (ci := 6) (q0 := 0) rfl rfl, my_preP hK0 hS hAB hP⟩ rfl rfl hl.1 rfl (lv_room (Nat.le_of_ble_eq_true rfl)) dX8_digest_123 ⟨Nat.zero_le _, Nat.zero_le _⟩) ?_
            refine lv_bipush (v := 52) hx hb dX8_digest_126 (by decide) ?_
            refine lv_ldc2 hx hb hown (hts (.constantLong RX8 238 (1023)) (List.mem_of_getElem? (i := 7) rfl)) dX8_digest_128 ?_
            refine rd_gol (va_runS (As := [.double (f_X8_partOf u_1.1 y7 u_1.2 i3_9), .int 52, .long 1023]) (rest := [.long (31 * ((31 * i1_18) + (f_X8_bits (FP.f2d (f_X8_shareOf u_1.2 i3_9)) 23 127)))]) S (c_X8_bits l D cy g B (f_X8_partOf u_1.1 y7 u_1.2 i3_9) 52 1023 (pt8_fnn _ _ _ _) (by decide)) (va_cwS 3 hts gX8_digest_X8_bits rfl rfl rfl hd_X8_bits_S ⟨Nat.le_of_ble_eq_true rfl, Nat.le_of_ble_eq_true rfl⟩) ⟨rdP_blind, my_preV hK0 hS hAB hP [] rfl⟩ rfl rfl hl.1 rfl (lv_room (Nat.le_of_ble_eq_true rfl)) dX8_digest_131 ⟨Nat.zero_le _, Nat.zero_le _⟩) ?_
            refine lv_ladd hx hb dX8_digest_134 ?_
            refine lv_lstore_n (lv' := [(1, .long ((31 * ((31 * i1_18) + (f_X8_bits (FP.f2d (f_X8_shareOf u_1.2 i3_9)) 23 127))) + (f_X8_bits (f_X8_partOf u_1.1 y7 u_1.2 i3_9) 52 1023))), (0, .ref (a 0)), (3, .int i3_9), (4, .int i4_19)]) hx hb dX8_digest_135 rfl hl (by decide) rfl (fun ls hl => ?_)
            refine lv_iinc (v := (i3_9 + 1)) (lv' := [(3, .int (i3_9 + 1)), (1, .long ((31 * ((31 * i1_18) + (f_X8_bits (FP.f2d (f_X8_shareOf u_1.2 i3_9)) 23 127))) + (f_X8_bits (f_X8_partOf u_1.1 y7 u_1.2 i3_9) 52 1023))), (0, .ref (a 0)), (4, .int i4_19)]) hx hb dX8_digest_136 hl (k := 2) rfl rfl (by decide) rfl (fun ls hl => ?_)
            refine lv_goto (tgt := 54) hx hb dX8_digest_139 (by decide) ?_
            have hst : f_X8_digest_st1 y7 u_1 i1_8 i3_9 = .inl (((31 * ((31 * i1_18) + (f_X8_bits (FP.f2d (f_X8_shareOf u_1.2 i3_9)) 23 127))) + (f_X8_bits (f_X8_partOf u_1.1 y7 u_1.2 i3_9) 52 1023)), (i3_9 + 1)) := by rw [f_X8_digest_st1, if_neg c_17, hE4, my_t2_eq]
            have hmu : (((y7 0) : Int32).toInt - ((i3_9 + 1) : Int32).toInt).toNat < (((y7 0) : Int32).toInt - (i3_9 : Int32).toInt).toNat := mu_up c_17
            exact ih1 ((31 * ((31 * i1_18) + (f_X8_bits (FP.f2d (f_X8_shareOf u_1.2 i3_9)) 23 127))) + (f_X8_bits (f_X8_partOf u_1.1 y7 u_1.2 i3_9) 52 1023)) (i3_9 + 1) (Nat.lt_of_lt_of_le hmu (Nat.le_of_lt_succ hlt1)) (lp_inl hst hF1) (nn_up hi1_0 c_17) _ (lv_sub hl [2, 1, 0] rfl)
          have key : ∀ (nf : Nat) (i1_18 : Int64) (i4_19 : Int32), ((8 : Int32).toInt - (i4_19 : Int32).toInt).toNat < nf → lp (fun (x : Int64 × Int32) => f_X8_digest_st4 y7 u_1 i3_9 x.1 x.2) default nf (i1_18, i4_19) = lp (fun (x : Int64 × Int32) => f_X8_digest_st4 y7 u_1 i3_9 x.1 x.2) default (((8 : Int32).toInt - (0 : Int32).toInt).toNat + 1) (i1_8, 0) → ¬ i4_19 < 0 → ∀ ls : Array Slot, lv_has ls 5 [(0, .ref (a 0)), (1, .long i1_18), (3, .int i3_9), (4, .int i4_19)] → W p l e (headSpec wsX8_digest ({ frames := 4, cells := 0, slots := 0, locals := 91 } : Room)).room s m ([.ref (a 0)] : List Value).toArray below meth c H locs 0 0 (MQ below (va_Ql (fun (r : Int64) (u : Int32 × Int32 × (Nat → Int32)) => f_X8_digest y0 y2 y7 y10 = (r, u)) (fun u t => va_P D vwCl (wModE cy a y0 y1 y2 u.1 u.2.1 y5 y6 y7 y8 y9 u.2.2 y11 y12 y13) t.heap) A) ([.ref (a 0)] : List Value).toArray s 0 0 A) (F0 m 67 ls []) := by
            intro n4
            induction n4 with
            | zero => intro i1_18 i4_19 hlt; exact absurd hlt (Nat.not_lt_zero _)
            | succ n4 ih4 =>
              intro i1_18 i4_19 hlt4 hF4 hi4_0 ls hl
              refine lv_iload hx hb dX8_digest_67 (lv_at hl 3 rfl) ?_
              refine lv_bipush (v := 8) hx hb dX8_digest_69 (by decide) ?_
              refine lv_icmp_ge (tgt := 95) hx hb dX8_digest_71 (by decide) (fun c_20 => ?_) (fun c_20 => ?_)
              · have hst : f_X8_digest_st4 y7 u_1 i3_9 i1_18 i4_19 = .inr (i1_18, i4_19) := by rw [f_X8_digest_st4, if_pos c_20]
                exact cont4 i1_18 i4_19 (lp_inr hst hF4) hi4_0 _ (lv_sub hl [0, 1, 2, 3] rfl)
              · refine lv_ldc2 hx hb hown (hts (.constantLong RX8 230 (31)) (List.mem_of_getElem? (i := 5) rfl)) dX8_digest_74 ?_
                refine lv_lload_n hx hb dX8_digest_77 rfl (lv_at hl 1 rfl) ?_
                refine lv_lmul hx hb dX8_digest_78 ?_
                refine lv_aload_n hx hb dX8_digest_79 rfl (lv_at hl 0 rfl) ?_
                refine lv_iload_n hx hb dX8_digest_80 rfl (lv_at hl 2 rfl) ?_
                refine lv_iload hx hb dX8_digest_81 (lv_at hl 3 rfl) ?_
                refine rd_goi (va_runV (C := RX8) (As := [.int i3_9, .int i4_19]) (rest := [.long (31 * i1_18)]) S (c_X8_memberOf l D cy g B a y0 y1 y2 0 u_1.1 y5 y6 y7 y8 y9 u_1.2 y11 y12 y13 i3_9 i4_19 hm8 ha_5 ha_3 ha_4 hi1_0 (Int32.not_le.mp c_17)) (cwV 2 hts gX8_digest_X8_memberOf rfl rfl rfl hd_X8_memberOf_V ⟨Nat.le_of_ble_eq_true rfl, Nat.le_of_ble_eq_true rfl⟩) ⟨rdP_blind, va_recv hK0.1 hP (ci := 6) (q0 := 0) rfl rfl, my_preP hK0 hS hAB hP⟩ rfl rfl hl.1 rfl (lv_room (Nat.le_of_ble_eq_true rfl)) dX8_digest_83 ⟨Nat.zero_le _, Nat.zero_le _⟩) ?_
                refine lv_i2l (v := (Int32.toInt64 (f_X8_memberOf u_1.1 y7 u_1.2 i3_9 i4_19))) hx hb dX8_digest_86 rfl ?_
                refine lv_ladd hx hb dX8_digest_87 ?_
                refine lv_lstore_n (lv' := [(1, .long ((31 * i1_18) + (Int32.toInt64 (f_X8_memberOf u_1.1 y7 u_1.2 i3_9 i4_19)))), (0, .ref (a 0)), (3, .int i3_9), (4, .int i4_19)]) hx hb dX8_digest_88 rfl hl (by decide) rfl (fun ls hl => ?_)
                refine lv_iinc (v := (i4_19 + 1)) (lv' := [(4, .int (i4_19 + 1)), (1, .long ((31 * i1_18) + (Int32.toInt64 (f_X8_memberOf u_1.1 y7 u_1.2 i3_9 i4_19)))), (0, .ref (a 0)), (3, .int i3_9)]) hx hb dX8_digest_89 hl (k := 3) rfl rfl (by decide) rfl (fun ls hl => ?_)
                refine lv_goto (tgt := 67) hx hb dX8_digest_92 (by decide) ?_
                have hst : f_X8_digest_st4 y7 u_1 i3_9 i1_18 i4_19 = .inl (((31 * i1_18) + (Int32.toInt64 (f_X8_memberOf u_1.1 y7 u_1.2 i3_9 i4_19))), (i4_19 + 1)) := by rw [f_X8_digest_st4, if_neg c_20]
                have hmu : ((8 : Int32).toInt - ((i4_19 + 1) : Int32).toInt).toNat < ((8 : Int32).toInt - (i4_19 : Int32).toInt).toNat := mu_up c_20
                exact ih4 ((31 * i1_18) + (Int32.toInt64 (f_X8_memberOf u_1.1 y7 u_1.2 i3_9 i4_19))) (i4_19 + 1) (Nat.lt_of_lt_of_le hmu (Nat.le_of_lt_succ hlt4)) (lp_inl hst hF4) (nn_up hi4_0 c_20) _ (lv_sub hl [2, 1, 3, 0] rfl)
          exact key (((8 : Int32).toInt - (0 : Int32).toInt).toNat + 1) i1_8 0 (Nat.lt_succ_self _) rfl (by decide) _ (lv_sub hl [1, 2, 3, 0] rfl)
    exact key ((((y7 0) : Int32).toInt - (0 : Int32).toInt).toNat + 1) i1_6 0 (Nat.lt_succ_self _) rfl (by decide) _ (lv_sub hl [1, 2, 0] rfl)
  have key : ∀ (nf : Nat) (i1_6 : Int64) (i3_7 : Int32), ((12 : Int32).toInt - (i3_7 : Int32).toInt).toNat < nf → lp (fun (x : Int64 × Int32) => f_X8_digest_st y2 y7 u_1 x.1 x.2) default nf (i1_6, i3_7) = lp (fun (x : Int64 × Int32) => f_X8_digest_st y2 y7 u_1 x.1 x.2) default (((12 : Int32).toInt - (0 : Int32).toInt).toNat + 1) ((1351228 + (Int32.toInt64 y0)), 0) → ¬ i3_7 < 0 → ∀ ls : Array Slot, lv_has ls 5 [(0, .ref (a 0)), (1, .long i1_6), (3, .int i3_7)] → W p l e (headSpec wsX8_digest ({ frames := 4, cells := 0, slots := 0, locals := 91 } : Room)).room s m ([.ref (a 0)] : List Value).toArray below meth c H locs 0 0 (MQ below (va_Ql (fun (r : Int64) (u : Int32 × Int32 × (Nat → Int32)) => f_X8_digest y0 y2 y7 y10 = (r, u)) (fun u t => va_P D vwCl (wModE cy a y0 y1 y2 u.1 u.2.1 y5 y6 y7 y8 y9 u.2.2 y11 y12 y13) t.heap) A) ([.ref (a 0)] : List Value).toArray s 0 0 A) (F0 m 27 ls []) := by
    intro n0
    induction n0 with
    | zero => intro i1_6 i3_7 hlt; exact absurd hlt (Nat.not_lt_zero _)
    | succ n0 ih0 =>
      intro i1_6 i3_7 hlt0 hF0 hi0_0 ls hl
      refine lv_iload_n hx hb dX8_digest_27 rfl (lv_at hl 2 rfl) ?_
      refine lv_bipush (v := 12) hx hb dX8_digest_28 (by decide) ?_
      refine lv_icmp_ge (tgt := 52) hx hb dX8_digest_30 (by decide) (fun c_21 => ?_) (fun c_21 => ?_)
      · have hst : f_X8_digest_st y2 y7 u_1 i1_6 i3_7 = .inr (i1_6, i3_7) := by rw [f_X8_digest_st, if_pos c_21]
        exact cont0 i1_6 i3_7 (lp_inr hst hF0) hi0_0 _ (lv_sub hl [0, 1, 2] rfl)
      · refine lv_ldc2 hx hb hown (hts (.constantLong RX8 230 (31)) (List.mem_of_getElem? (i := 5) rfl)) dX8_digest_33 ?_
        refine lv_lload_n hx hb dX8_digest_36 rfl (lv_at hl 1 rfl) ?_
        refine lv_lmul hx hb dX8_digest_37 ?_
        refine lv_aload_n hx hb dX8_digest_38 rfl (lv_at hl 0 rfl) ?_
        refine lv_iload_n hx hb dX8_digest_39 rfl (lv_at hl 2 rfl) ?_
        refine rd_goi (va_runV (C := RX8) (As := [.int i3_7]) (rest := [.long (31 * i1_6)]) S (c_X8_wholeOf l D cy g B a y0 y1 y2 0 u_1.1 y5 y6 y7 y8 y9 u_1.2 y11 y12 y13 i3_7 hm8 hR4 ha_5 ha_3 ha_4) (cwV 1 hts gX8_digest_X8_wholeOf rfl rfl rfl hd_X8_wholeOf_V ⟨Nat.le_of_ble_eq_true rfl, Nat.le_of_ble_eq_true rfl⟩) ⟨rdP_blind, va_recv hK0.1 hP (ci := 6) (q0 := 0) rfl rfl, my_preP hK0 hS hAB hP⟩ rfl rfl hl.1 rfl (lv_room (Nat.le_of_ble_eq_true rfl)) dX8_digest_40 ⟨Nat.zero_le _, Nat.zero_le _⟩) ?_
        refine lv_i2l (v := (Int32.toInt64 (f_X8_wholeOf y2 u_1.1 y7 u_1.2 i3_7))) hx hb dX8_digest_43 rfl ?_
        refine lv_ladd hx hb dX8_digest_44 ?_
        refine lv_lstore_n (lv' := [(1, .long ((31 * i1_6) + (Int32.toInt64 (f_X8_wholeOf y2 u_1.1 y7 u_1.2 i3_7)))), (0, .ref (a 0)), (3, .int i3_7)]) hx hb dX8_digest_45 rfl hl (by decide) rfl (fun ls hl => ?_)
        refine lv_iinc (v := (i3_7 + 1)) (lv' := [(3, .int (i3_7 + 1)), (1, .long ((31 * i1_6) + (Int32.toInt64 (f_X8_wholeOf y2 u_1.1 y7 u_1.2 i3_7)))), (0, .ref (a 0))]) hx hb dX8_digest_46 hl (k := 2) rfl rfl (by decide) rfl (fun ls hl => ?_)
        refine lv_goto (tgt := 27) hx hb dX8_digest_49 (by decide) ?_
        have hst : f_X8_digest_st y2 y7 u_1 i1_6 i3_7 = .inl (((31 * i1_6) + (Int32.toInt64 (f_X8_wholeOf y2 u_1.1 y7 u_1.2 i3_7))), (i3_7 + 1)) := by rw [f_X8_digest_st, if_neg c_21]
        have hmu : ((12 : Int32).toInt - ((i3_7 + 1) : Int32).toInt).toNat < ((12 : Int32).toInt - (i3_7 : Int32).toInt).toNat := mu_up c_21
        exact ih0 ((31 * i1_6) + (Int32.toInt64 (f_X8_wholeOf y2 u_1.1 y7 u_1.2 i3_7))) (i3_7 + 1) (Nat.lt_of_lt_of_le hmu (Nat.le_of_lt_succ hlt0)) (lp_inl hst hF0) (nn_up hi0_0 c_21) _ (lv_sub hl [2, 1, 0] rfl)
  exact key (((12 : Int32).toInt - (0 : Int32).toInt).toNat + 1) (1351228 + (Int32.toInt64 y0)) 0 (Nat.lt_succ_self _) rfl (by decide) _ (lv_sub hl [2, 1, 0] rfl)
