theorem hd_X7_bitsOf_S : yX7_bitsOf.cls ≠ "java/lang/invoke/MethodHandle" ∧ yX7_bitsOf.cls ≠ "java/lang/invoke/VarHandle" ∧ (parseMethodDescriptor yX7_bitsOf.desc).map (fun d => d.parameters.length) = some 3 := by decide +kernel
theorem hd_X7_bitsOf_V : yX7_bitsOf.cls = RX7 ∧ yX7_bitsOf.cls ≠ "java/lang/invoke/MethodHandle" ∧ yX7_bitsOf.cls ≠ "java/lang/invoke/VarHandle" ∧ (parseMethodDescriptor yX7_bitsOf.desc).map (fun d => d.parameters.length) = some 3 := ⟨rfl, hd_X7_bitsOf_S⟩
def f_X7_bitsOf_st  (i4_2 : UInt64) (i6_3 : Int32) : (UInt64 × Int32) ⊕ (UInt64 × Int32) := (if 1100 ≤ i6_3 then (.inr (i4_2, i6_3)) else (if 0 ≤ (Op.cmpValue (FP.dcmp i4_2 FP.dconst1) .g) then (.inr (i4_2, i6_3)) else (.inl ((FP.dmul i4_2 4611686018427387904), (i6_3 + 1)))))
def f_X7_bitsOf (x0 : UInt64) (x1 : Int32) (x2 : Int32) : Int64 := (if 0 < (Op.cmpValue (FP.dcmp x0 FP.dconst0) .l) then (my_t2 (lp (fun (x : UInt64 × Int32) => f_X7_bitsOf_st x.1 x.2) default (((1100 : Int32).toInt - (0 : Int32).toInt).toNat + 1) (x0, 0)) (fun (i4_2 : UInt64) (i6_3 : Int32) => (((Int32.toInt64 (x1 - i6_3)) <<< ((Int32.toInt64 x2) &&& 63)) + (FP.d2l (FP.dmul (FP.dsub i4_2 FP.dconst1) (FP.l2d (1 <<< ((Int32.toInt64 x2) &&& 63)))))))) else 0)
set_option maxHeartbeats 400000 in
set_option maxRecDepth 100000 in
theorem c_X7_bitsOf (l : Launch) (D : va_G) (cy : Nat → ClassId) (g : Nat → Nat) (B : Nat)  (x0 : UInt64) (x1 : Int32) (x2 : Int32) (hx0 : FP.dIsNaN x0 = false) (hk : x2 = 23 ∨ x2 = 52) : Met l yX7_bitsOf wsX7_bitsOf ({ frames := 0, cells := 0, slots := 0, locals := 0 }) (rdP D cy g B ([] : va_W) [.double x0, .int x1, .int x2]) (vp_Sl (fun r => r = f_X7_bitsOf x0 x1 x2)) 0 0 (fun _ => False) := by
  refine Met.ofW (cc := cX7_bitsOf) (maxL := 9) (ret := (some .long)) (by decide) rfl ?_
  intro p e s m args below meth c s₁ BB hml hv
  obtain ⟨rfl, hP, hK0⟩ := hv
  have hx := BB.exec
  have hb := BB.bytes
  have hr := BB.returns
  have hts := atoms_spec (ws := wsX7_bitsOf) BB.pre
  have hown : s.vm.findClass RX7 = some m.cls := findClass_of_methodNamed BB.named
  have hlocks := BB.notSynchronized
  have S := my_fix hx hb hml hown hts
  have hS : va_S (fun q => B ≤ q) s.heap s.heap [] := va_S.rf
  have hAB : ∀ q : Nat, (fun q => B ≤ q) q → B ≤ q := fun _ h => h
  have hl := lv_entry ([.double x0, .int x1, .int x2]) (n := 9) (Nat.le_of_ble_eq_true rfl)
  rw [lg_entry_eq]
  generalize (lg_sl ([.double x0, .int x1, .int x2]) ++ List.replicate (9 - (lg_sl ([.double x0, .int x1, .int x2])).length) Slot.unset).toArray = ls at hl ⊢
  have hl : lv_has ls 9 [(0, .double x0), (2, .int x1), (3, .int x2)] := hl
  refine lv_dload_n hx hb dX7_bitsOf_0 rfl (lv_at hl 0 rfl) ?_
  refine lv_dconst0 hx hb dX7_bitsOf_1 ?_
  refine lv_dcmp hx hb dX7_bitsOf_2 ?_
  refine lv_if_gt (tgt := 8) hx hb dX7_bitsOf_3 (by decide) (fun c_1 => ?_) (fun c_1 => ?_)
  · refine lv_dload_n hx hb dX7_bitsOf_8 rfl (lv_at hl 0 rfl) ?_
    refine lv_dstore (lv' := [(4, .double x0), (0, .double x0), (2, .int x1), (3, .int x2)]) hx hb dX7_bitsOf_9 hl (by decide) rfl (fun ls hl => ?_)
    refine lv_iconst (v := 0) hx hb dX7_bitsOf_11 (by decide) ?_
    refine lv_istore (lv' := [(6, .int 0), (4, .double x0), (0, .double x0), (2, .int x1), (3, .int x2)]) hx hb dX7_bitsOf_12 hl (by decide) rfl (fun ls hl => ?_)
    have cont0 : ∀ (i4_2 : UInt64) (i6_3 : Int32), lp (fun (x : UInt64 × Int32) => f_X7_bitsOf_st x.1 x.2) default (((1100 : Int32).toInt - (0 : Int32).toInt).toNat + 1) (x0, 0) = (i4_2, i6_3) → FP.dIsNaN i4_2 = false → ∀ ls : Array Slot, lv_has ls 9 [(0, .double x0), (2, .int x1), (3, .int x2), (4, .double i4_2), (6, .int i6_3)] → W p l e (headSpec wsX7_bitsOf ({ frames := 0, cells := 0, slots := 0, locals := 0 } : Room)).room s m ([.double x0, .int x1, .int x2] : List Value).toArray below meth c s.heap [] 0 0 (MQ below (vp_Sl (fun r => r = f_X7_bitsOf x0 x1 x2)) ([.double x0, .int x1, .int x2] : List Value).toArray s 0 0 (fun _ => False)) (F0 m 43 ls []) := by
      intro i4_2 i6_3 hE0 hj0_0 ls hl
      refine lv_dload hx hb dX7_bitsOf_43 (lv_at hl 3 rfl) ?_
      refine lv_dconst1 hx hb dX7_bitsOf_45 ?_
      refine lv_dsub hx hb dX7_bitsOf_46 (my_n64 (my_one (hj0_0))) ?_
      refine lv_lconst (v := 1) hx hb dX7_bitsOf_47 (by decide) ?_
      refine lv_iload_n hx hb dX7_bitsOf_48 rfl (lv_at hl 2 rfl) ?_
      refine lv_lshl (v := (1 <<< ((Int32.toInt64 x2) &&& 63))) hx hb dX7_bitsOf_49 rfl ?_
      refine lv_l2d hx hb dX7_bitsOf_50 ?_
      refine lv_dmul hx hb dX7_bitsOf_51 (my_n64 (my_scale (hk) (my_one (hj0_0)))) ?_
      refine lv_d2l hx hb dX7_bitsOf_52 ?_
      refine lv_lstore (lv' := [(7, .long (FP.d2l (FP.dmul (FP.dsub i4_2 FP.dconst1) (FP.l2d (1 <<< ((Int32.toInt64 x2) &&& 63)))))), (0, .double x0), (2, .int x1), (3, .int x2), (4, .double i4_2), (6, .int i6_3)]) hx hb dX7_bitsOf_53 hl (by decide) rfl (fun ls hl => ?_)
      refine lv_iload_n hx hb dX7_bitsOf_55 rfl (lv_at hl 2 rfl) ?_
      refine lv_iload hx hb dX7_bitsOf_56 (lv_at hl 5 rfl) ?_
      refine lv_isub hx hb dX7_bitsOf_58 ?_
      refine lv_i2l (v := (Int32.toInt64 (x1 - i6_3))) hx hb dX7_bitsOf_59 rfl ?_
      refine lv_iload_n hx hb dX7_bitsOf_60 rfl (lv_at hl 3 rfl) ?_
      refine lv_lshl (v := ((Int32.toInt64 (x1 - i6_3)) <<< ((Int32.toInt64 x2) &&& 63))) hx hb dX7_bitsOf_61 rfl ?_
      refine lv_lload hx hb dX7_bitsOf_62 (lv_at hl 0 rfl) ?_
      refine lv_ladd hx hb dX7_bitsOf_64 ?_
      exact W.lret hx hb hr (fun t ht hW => ⟨(((Int32.toInt64 (x1 - i6_3)) <<< ((Int32.toInt64 x2) &&& 63)) + (FP.d2l (FP.dmul (FP.dsub i4_2 FP.dconst1) (FP.l2d (1 <<< ((Int32.toInt64 x2) &&& 63)))))), rfl, (show f_X7_bitsOf x0 x1 x2 = (((Int32.toInt64 (x1 - i6_3)) <<< ((Int32.toInt64 x2) &&& 63)) + (FP.d2l (FP.dmul (FP.dsub i4_2 FP.dconst1) (FP.l2d (1 <<< ((Int32.toInt64 x2) &&& 63)))))) from by rw [f_X7_bitsOf, if_pos c_1, hE0, my_t2_eq]).symm, ht⟩) (fun q hq => absurd hq List.not_mem_nil) dX7_bitsOf_65
    have key : ∀ (nf : Nat) (i4_2 : UInt64) (i6_3 : Int32), ((1100 : Int32).toInt - (i6_3 : Int32).toInt).toNat < nf → lp (fun (x : UInt64 × Int32) => f_X7_bitsOf_st x.1 x.2) default nf (i4_2, i6_3) = lp (fun (x : UInt64 × Int32) => f_X7_bitsOf_st x.1 x.2) default (((1100 : Int32).toInt - (0 : Int32).toInt).toNat + 1) (x0, 0) → FP.dIsNaN i4_2 = false → ∀ ls : Array Slot, lv_has ls 9 [(0, .double x0), (2, .int x1), (3, .int x2), (4, .double i4_2), (6, .int i6_3)] → W p l e (headSpec wsX7_bitsOf ({ frames := 0, cells := 0, slots := 0, locals := 0 } : Room)).room s m ([.double x0, .int x1, .int x2] : List Value).toArray below meth c s.heap [] 0 0 (MQ below (vp_Sl (fun r => r = f_X7_bitsOf x0 x1 x2)) ([.double x0, .int x1, .int x2] : List Value).toArray s 0 0 (fun _ => False)) (F0 m 14 ls []) := by
      intro n0
      induction n0 with
      | zero => intro i4_2 i6_3 hlt; exact absurd hlt (Nat.not_lt_zero _)
      | succ n0 ih0 =>
        intro i4_2 i6_3 hlt0 hF0 hi0_0 ls hl
        refine lv_iload hx hb dX7_bitsOf_14 (lv_at hl 4 rfl) ?_
        refine lv_sipush (v := 1100) hx hb dX7_bitsOf_16 (by decide) ?_
        refine lv_icmp_ge (tgt := 43) hx hb dX7_bitsOf_19 (by decide) (fun c_4 => ?_) (fun c_4 => ?_)
        · have hst : f_X7_bitsOf_st i4_2 i6_3 = .inr (i4_2, i6_3) := by rw [f_X7_bitsOf_st, if_pos c_4]
          exact cont0 i4_2 i6_3 (lp_inr hst hF0) hi0_0 _ (lv_sub hl [0, 1, 2, 3, 4] rfl)
        · refine lv_dload hx hb dX7_bitsOf_22 (lv_at hl 3 rfl) ?_
          refine lv_dconst1 hx hb dX7_bitsOf_24 ?_
          refine lv_dcmp hx hb dX7_bitsOf_25 ?_
          refine lv_if_ge (tgt := 43) hx hb dX7_bitsOf_26 (by decide) (fun c_5 => ?_) (fun c_5 => ?_)
          · have hst : f_X7_bitsOf_st i4_2 i6_3 = .inr (i4_2, i6_3) := by rw [f_X7_bitsOf_st, if_neg c_4, if_pos c_5]
            exact cont0 i4_2 i6_3 (lp_inr hst hF0) hi0_0 _ (lv_sub hl [0, 1, 2, 3, 4] rfl)
          · refine lv_dload hx hb dX7_bitsOf_29 (lv_at hl 3 rfl) ?_
            refine lv_ldc2d hx hb hown (hts (.constantDouble RX7 261 (4611686018427387904)) (List.mem_of_getElem? (i := 1) rfl)) dX7_bitsOf_31 ?_
            refine lv_dmul hx hb dX7_bitsOf_34 (my_n64 (my_two (hi0_0))) ?_
            refine lv_dstore (lv' := [(4, .double (FP.dmul i4_2 4611686018427387904)), (0, .double x0), (2, .int x1), (3, .int x2), (6, .int i6_3)]) hx hb dX7_bitsOf_35 hl (by decide) rfl (fun ls hl => ?_)
            refine lv_iinc (v := (i6_3 + 1)) (lv' := [(6, .int (i6_3 + 1)), (4, .double (FP.dmul i4_2 4611686018427387904)), (0, .double x0), (2, .int x1), (3, .int x2)]) hx hb dX7_bitsOf_37 hl (k := 4) rfl rfl (by decide) rfl (fun ls hl => ?_)
            refine lv_goto (tgt := 14) hx hb dX7_bitsOf_40 (by decide) ?_
            have hst : f_X7_bitsOf_st i4_2 i6_3 = .inl ((FP.dmul i4_2 4611686018427387904), (i6_3 + 1)) := by rw [f_X7_bitsOf_st, if_neg c_4, if_neg c_5]
            have hmu : ((1100 : Int32).toInt - ((i6_3 + 1) : Int32).toInt).toNat < ((1100 : Int32).toInt - (i6_3 : Int32).toInt).toNat := mu_up c_4
            exact ih0 (FP.dmul i4_2 4611686018427387904) (i6_3 + 1) (Nat.lt_of_lt_of_le hmu (Nat.le_of_lt_succ hlt0)) (lp_inl hst hF0) (my_two (hi0_0)) _ (lv_sub hl [2, 3, 4, 1, 0] rfl)
    exact key (((1100 : Int32).toInt - (0 : Int32).toInt).toNat + 1) x0 0 (Nat.lt_succ_self _) rfl hx0 _ (lv_sub hl [2, 3, 4, 1, 0] rfl)
  · refine lv_lconst (v := 0) hx hb dX7_bitsOf_6 (by decide) ?_
    exact W.lret hx hb hr (fun t ht hW => ⟨0, rfl, (show f_X7_bitsOf x0 x1 x2 = 0 from by rw [f_X7_bitsOf, if_neg c_1]).symm, ht⟩) (fun q hq => absurd hq List.not_mem_nil) dX7_bitsOf_7
theorem hd_X7_share_S : yX7_share.cls ≠ "java/lang/invoke/MethodHandle" ∧ yX7_share.cls ≠ "java/lang/invoke/VarHandle" ∧ (parseMethodDescriptor yX7_share.desc).map (fun d => d.parameters.length) = some 1 := by decide +kernel
theorem hd_X7_share_V : yX7_share.cls = RX7 ∧ yX7_share.cls ≠ "java/lang/invoke/MethodHandle" ∧ yX7_share.cls ≠ "java/lang/invoke/VarHandle" ∧ (parseMethodDescriptor yX7_share.desc).map (fun d => d.parameters.length) = some 1 := ⟨rfl, hd_X7_share_S⟩
def f_X7_share (st : Int32) (v : SetV) (w : PowV) (x0 : Int32) : Int32 ⊕ (UInt32 × (Int32 × PowV)) := (my_rf (f_X6_faultOfMember v x0) (my_l (f_X7_measured st v w) (fun (u_2 : Int32 × PowV) => (.inr ((f_X3_shareOf u_2.2 x0), (u_2.1, u_2.2))))))
set_option maxHeartbeats 400000 in
set_option maxRecDepth 100000 in
theorem c_X7_share (l : Launch) (hl0 : l.stackTraces = false) (D : va_G) (cy : Nat → ClassId) (g : Nat → Nat) (B : Nat) (p70 : Nat) (b7 : Nat → Nat) (c7 : Nat → Nat) (d7 : Nat → Nat) (e7 : Nat → Nat) (h7 : Nat → Nat) (k7 : Nat → Nat) (st : Int32) (v : SetV) (w : PowV) (x0 : Int32) : vx_Met l yX7_share wsX7_share ({ frames := 7, cells := 1, slots := 6, locals := 132 }) (muP D cy g B (List.flatten [(wPCo p70 b7 c7 d7 e7 h7 k7 st), (wSet cy b7 v), (wPow cy c7 w)]) [.ref p70, .int x0]) (va_Qf (fun (r : UInt32) (u : Int32 × PowV) => f_X7_share st v w x0 = .inr (r, u)) (fun u t => va_P D vwCl (List.flatten [(wPCo p70 b7 c7 d7 e7 h7 k7 u.1), (wSet cy b7 v), (wPow cy c7 u.2)]) t.heap) (muA (List.flatten [(wPCo p70 b7 c7 d7 e7 h7 k7 st), (wSet cy b7 v), (wPow cy c7 w)]))) (vx_X (fun (k : Int32) => f_X7_share st v w x0 = .inl k) (fun E k t => exE k E ∧ va_P D vwCl (List.flatten [(wPCo p70 b7 c7 d7 e7 h7 k7 st), (wSet cy b7 v), (wPow cy c7 w)]) t.heap) (muA (List.flatten [(wPCo p70 b7 c7 d7 e7 h7 k7 st), (wSet cy b7 v), (wPow cy c7 w)]))) 1 6 (muA (List.flatten [(wPCo p70 b7 c7 d7 e7 h7 k7 st), (wSet cy b7 v), (wPow cy c7 w)])) := by
  refine vx_ofW (cc := cX7_share) (maxL := 2) (ret := (some .float)) (by decide) rfl ?_
  intro p e s m args below meth c s₁ BB hml hout hv
  obtain ⟨rfl, hP, hK0, hD0⟩ := hv
  have hx := BB.exec
  have hb := BB.bytes
  have hr := BB.returns
  have hts := atoms_spec (ws := wsX7_share) BB.pre
  have hown : s.vm.findClass RX7 = some m.cls := findClass_of_methodNamed BB.named
  have hlocks := BB.notSynchronized
  have S := my_fix hx hb hml hown hts
  have inX7 : ∀ w ∈ wsX70, w ∈ wsX7_share := fun w h => List.mem_cons_of_mem _ (List.mem_append_left _ (List.mem_append_left _ (List.mem_append_left _ (List.mem_append_left _ (List.mem_append_left _ (List.mem_append_left _ (List.mem_append_right _ h)))))))
  have hAB := muB hD0
  have hD := muD hD0
  generalize hAe : muA (List.flatten [(wPCo p70 b7 c7 d7 e7 h7 k7 st), (wSet cy b7 v), (wPow cy c7 w)]) = A at hAB hD ⊢
  have hS : va_S A s.heap s.heap [] := va_S.rf
  have hl := lv_entry ([.ref p70, .int x0]) (n := 2) (Nat.le_of_ble_eq_true rfl)
  rw [lg_entry_eq]
  generalize (lg_sl ([.ref p70, .int x0]) ++ List.replicate (2 - (lg_sl ([.ref p70, .int x0])).length) Slot.unset).toArray = ls at hl ⊢
  have hl : lv_has ls 2 [(0, .ref p70), (1, .int x0)] := hl
  refine lv_aload_n hx hb dX7_share_0 rfl (lv_at hl 0 rfl) ?_
  refine va_get (D := D) (ci := 5) (v := .ref (b7 0)) (C := RX7) (T := TX7) (N := 7) hx hb hts inX7 hown hK0.1 hP 0 rfl rfl 0 (by decide) (hts (.fieldLink RX7 10 "PivotChamber" "setting" "LPivotChamber$Setting;") (List.mem_of_getElem? (i := 1) rfl)) (fun _ h9 => h9) rfl dX7_share_1 ?_
  refine lv_iload_n hx hb dX7_share_4 rfl (lv_at hl 1 rfl) ?_
  refine rd_goi (va_runV (C := RX6) (As := [.int x0]) (rest := []) S (c_X6_faultOfMember l D cy g B b7 v x0) (cwV 1 hts gX7_share_X6_faultOfMember rfl rfl rfl hd_X6_faultOfMember_V ⟨Nat.le_of_ble_eq_true rfl, Nat.le_of_ble_eq_true rfl⟩) ⟨rdP_blind, va_recv hK0.1 hP (ci := 4) (q0 := 1) rfl rfl, my_preP hK0 hS hAB (my_cP hP 1 rfl)⟩ rfl rfl hl.1 rfl (lv_room (Nat.le_of_ble_eq_true rfl)) dX7_share_5 ⟨Nat.le_of_ble_eq_true rfl, Nat.le_of_ble_eq_true rfl⟩) ?_
  refine my_rfx (vx_runS (As := [.int (f_X6_faultOfMember v x0)]) (rest := []) S (c_X7_refuse l hl0 D cy g B (f_X6_faultOfMember v x0)) (va_cwS 1 hts gX7_share_X7_refuse rfl rfl rfl hd_X7_refuse_S ⟨Nat.le_of_ble_eq_true rfl, Nat.le_of_ble_eq_true rfl⟩) ⟨rdP_blind, my_preV hK0 hS hAB hP [] rfl⟩ rfl rfl hl.1 rfl (lv_room (Nat.le_of_ble_eq_true rfl)) dX7_share_8 ⟨Nat.le_of_ble_eq_true rfl, Nat.le_of_ble_eq_true rfl⟩) hS hP hout hlocks (fun _ h => h) (Nat.le_of_ble_eq_true rfl) (Nat.le_of_ble_eq_true rfl) (fun hrf_1 E t h1 h2 h3 => ⟨(f_X6_faultOfMember v x0), (show f_X7_share st v w x0 = .inl (f_X6_faultOfMember v x0) from by rw [f_X7_share, my_rf_no hrf_1]), ⟨h1, h2⟩, h3⟩) (fun hrf_1 H locs hP hS => ?_)
  have hP : va_P D vwCl (List.flatten [(wPCo p70 b7 c7 d7 e7 h7 k7 st), (wSet cy b7 v), (wPow cy c7 w)]) H := hP
  refine lv_aload_n hx hb dX7_share_11 rfl (lv_at hl 0 rfl) ?_
  refine mu_allr (wf := fun (u_2 : Int32 × PowV) => (List.flatten [(wPCo p70 b7 c7 d7 e7 h7 k7 u_2.1), (wSet cy b7 v), (wPow cy c7 u_2.2)])) (va_runV (C := RX7) (As := []) (rest := []) S (c_X7_measured l D cy g B p70 b7 c7 d7 e7 h7 k7 st v w) (cwV 0 hts gX7_share_X7_measured rfl rfl rfl hd_X7_measured_V ⟨Nat.le_of_ble_eq_true rfl, Nat.le_of_ble_eq_true rfl⟩) ⟨muP_blind, va_recv hK0.1 hP (ci := 5) (q0 := 0) rfl rfl, my_preA hK0 hS hAB hP hD⟩ rfl rfl hl.1 rfl (lv_room (Nat.le_of_ble_eq_true rfl)) dX7_share_12 ⟨Nat.le_of_ble_eq_true rfl, Nat.le_of_ble_eq_true rfl⟩) hS hD (fun _ => my_flat_adr (by simp only [List.map_cons, List.map_nil, adrSet, adrSetE, adrPow, adrPowE, adrTxt, adrTxtE, adrSav, adrSavE, adrPCo, adrMod, adrModE])) (fun u_2 H locs hw_3 hP hD hS => ?_)
  refine lv_iload_n hx hb dX7_share_15 rfl (lv_at hl 1 rfl) ?_
  refine rd_gof (va_runV (C := RX3) (As := [.int x0]) (rest := []) S (c_X3_shareOf l D cy g B c7 u_2.2 x0) (cwV 1 hts gX7_share_X3_shareOf rfl rfl rfl hd_X3_shareOf_V ⟨Nat.le_of_ble_eq_true rfl, Nat.le_of_ble_eq_true rfl⟩) ⟨rdP_blind, va_recv hK0.1 hP (ci := 1) (q0 := 10) rfl rfl, my_preP hK0 hS hAB (my_cP hP 2 rfl)⟩ rfl rfl hl.1 rfl (lv_room (Nat.le_of_ble_eq_true rfl)) dX7_share_16 ⟨Nat.le_of_ble_eq_true rfl, Nat.le_of_ble_eq_true rfl⟩) ?_
  refine vx_ret ?_
  exact W.fret hx hb hr (fun t ht hW => ⟨⟨(f_X3_shareOf u_2.2 x0), (u_2.1, u_2.2), rfl, (show f_X7_share st v w x0 = (.inr ((f_X3_shareOf u_2.2 x0), (u_2.1, u_2.2))) from by rw [f_X7_share, my_rf_ok hrf_1, hw_3, my_l_eq]), by show va_P D vwCl _ t.heap; rw [ht]; exact hP⟩, hS.F ht⟩) hS.2.2 dX7_share_19
theorem hd_X7_part_S : yX7_part.cls ≠ "java/lang/invoke/MethodHandle" ∧ yX7_part.cls ≠ "java/lang/invoke/VarHandle" ∧ (parseMethodDescriptor yX7_part.desc).map (fun d => d.parameters.length) = some 1 := by decide +kernel
theorem hd_X7_part_V : yX7_part.cls = RX7 ∧ yX7_part.cls ≠ "java/lang/invoke/MethodHandle" ∧ yX7_part.cls ≠ "java/lang/invoke/VarHandle" ∧ (parseMethodDescriptor yX7_part.desc).map (fun d => d.parameters.length) = some 1 := ⟨rfl, hd_X7_part_S⟩
def f_X7_part (st : Int32) (v : SetV) (w : PowV) (x0 : Int32) : Int32 ⊕ (UInt64 × (Int32 × PowV)) := (my_rf (f_X6_faultOfMember v x0) (my_l (f_X7_measured st v w) (fun (u_2 : Int32 × PowV) => (.inr ((f_X3_partOf u_2.2 x0), (u_2.1, u_2.2))))))
set_option maxHeartbeats 400000 in
set_option maxRecDepth 100000 in
theorem c_X7_part (l : Launch) (hl0 : l.stackTraces = false) (D : va_G) (cy : Nat → ClassId) (g : Nat → Nat) (B : Nat) (p70 : Nat) (b7 : Nat → Nat) (c7 : Nat → Nat) (d7 : Nat → Nat) (e7 : Nat → Nat) (h7 : Nat → Nat) (k7 : Nat → Nat) (st : Int32) (v : SetV) (w : PowV) (x0 : Int32) : vx_Met l yX7_part wsX7_part ({ frames := 7, cells := 1, slots := 6, locals := 132 }) (muP D cy g B (List.flatten [(wPCo p70 b7 c7 d7 e7 h7 k7 st), (wSet cy b7 v), (wPow cy c7 w)]) [.ref p70, .int x0]) (va_Qd (fun (r : UInt64) (u : Int32 × PowV) => f_X7_part st v w x0 = .inr (r, u)) (fun u t => va_P D vwCl (List.flatten [(wPCo p70 b7 c7 d7 e7 h7 k7 u.1), (wSet cy b7 v), (wPow cy c7 u.2)]) t.heap) (muA (List.flatten [(wPCo p70 b7 c7 d7 e7 h7 k7 st), (wSet cy b7 v), (wPow cy c7 w)]))) (vx_X (fun (k : Int32) => f_X7_part st v w x0 = .inl k) (fun E k t => exE k E ∧ va_P D vwCl (List.flatten [(wPCo p70 b7 c7 d7 e7 h7 k7 st), (wSet cy b7 v), (wPow cy c7 w)]) t.heap) (muA (List.flatten [(wPCo p70 b7 c7 d7 e7 h7 k7 st), (wSet cy b7 v), (wPow cy c7 w)]))) 1 6 (muA (List.flatten [(wPCo p70 b7 c7 d7 e7 h7 k7 st), (wSet cy b7 v), (wPow cy c7 w)])) := by
  refine vx_ofW (cc := cX7_part) (maxL := 2) (ret := (some .double)) (by decide) rfl ?_
  intro p e s m args below meth c s₁ BB hml hout hv
  obtain ⟨rfl, hP, hK0, hD0⟩ := hv
  have hx := BB.exec
  have hb := BB.bytes
  have hr := BB.returns
  have hts := atoms_spec (ws := wsX7_part) BB.pre
  have hown : s.vm.findClass RX7 = some m.cls := findClass_of_methodNamed BB.named
  have hlocks := BB.notSynchronized
  have S := my_fix hx hb hml hown hts
  have inX7 : ∀ w ∈ wsX70, w ∈ wsX7_part := fun w h => List.mem_cons_of_mem _ (List.mem_append_left _ (List.mem_append_left _ (List.mem_append_left _ (List.mem_append_left _ (List.mem_append_left _ (List.mem_append_left _ (List.mem_append_right _ h)))))))
  have hAB := muB hD0
  have hD := muD hD0
  generalize hAe : muA (List.flatten [(wPCo p70 b7 c7 d7 e7 h7 k7 st), (wSet cy b7 v), (wPow cy c7 w)]) = A at hAB hD ⊢
  have hS : va_S A s.heap s.heap [] := va_S.rf
  have hl := lv_entry ([.ref p70, .int x0]) (n := 2) (Nat.le_of_ble_eq_true rfl)
  rw [lg_entry_eq]
  generalize (lg_sl ([.ref p70, .int x0]) ++ List.replicate (2 - (lg_sl ([.ref p70, .int x0])).length) Slot.unset).toArray = ls at hl ⊢
  have hl : lv_has ls 2 [(0, .ref p70), (1, .int x0)] := hl
  refine lv_aload_n hx hb dX7_part_0 rfl (lv_at hl 0 rfl) ?_
  refine va_get (D := D) (ci := 5) (v := .ref (b7 0)) (C := RX7) (T := TX7) (N := 7) hx hb hts inX7 hown hK0.1 hP 0 rfl rfl 0 (by decide) (hts (.fieldLink RX7 10 "PivotChamber" "setting" "LPivotChamber$Setting;") (List.mem_of_getElem? (i := 1) rfl)) (fun _ h9 => h9) rfl dX7_part_1 ?_
  refine lv_iload_n hx hb dX7_part_4 rfl (lv_at hl 1 rfl) ?_
  refine rd_goi (va_runV (C := RX6) (As := [.int x0]) (rest := []) S (c_X6_faultOfMember l D cy g B b7 v x0) (cwV 1 hts gX7_part_X6_faultOfMember rfl rfl rfl hd_X6_faultOfMember_V ⟨Nat.le_of_ble_eq_true rfl, Nat.le_of_ble_eq_true rfl⟩) ⟨rdP_blind, va_recv hK0.1 hP (ci := 4) (q0 := 1) rfl rfl, my_preP hK0 hS hAB (my_cP hP 1 rfl)⟩ rfl rfl hl.1 rfl (lv_room (Nat.le_of_ble_eq_true rfl)) dX7_part_5 ⟨Nat.le_of_ble_eq_true rfl, Nat.le_of_ble_eq_true rfl⟩) ?_
  refine my_rfx (vx_runS (As := [.int (f_X6_faultOfMember v x0)]) (rest := []) S (c_X7_refuse l hl0 D cy g B (f_X6_faultOfMember v x0)) (va_cwS 1 hts gX7_part_X7_refuse rfl rfl rfl hd_X7_refuse_S ⟨Nat.le_of_ble_eq_true rfl, Nat.le_of_ble_eq_true rfl⟩) ⟨rdP_blind, my_preV hK0 hS hAB hP [] rfl⟩ rfl rfl hl.1 rfl (lv_room (Nat.le_of_ble_eq_true rfl)) dX7_part_8 ⟨Nat.le_of_ble_eq_true rfl, Nat.le_of_ble_eq_true rfl⟩) hS hP hout hlocks (fun _ h => h) (Nat.le_of_ble_eq_true rfl) (Nat.le_of_ble_eq_true rfl) (fun hrf_1 E t h1 h2 h3 => ⟨(f_X6_faultOfMember v x0), (show f_X7_part st v w x0 = .inl (f_X6_faultOfMember v x0) from by rw [f_X7_part, my_rf_no hrf_1]), ⟨h1, h2⟩, h3⟩) (fun hrf_1 H locs hP hS => ?_)
  have hP : va_P D vwCl (List.flatten [(wPCo p70 b7 c7 d7 e7 h7 k7 st), (wSet cy b7 v), (wPow cy c7 w)]) H := hP
  refine lv_aload_n hx hb dX7_part_11 rfl (lv_at hl 0 rfl) ?_
  refine mu_allr (wf := fun (u_2 : Int32 × PowV) => (List.flatten [(wPCo p70 b7 c7 d7 e7 h7 k7 u_2.1), (wSet cy b7 v), (wPow cy c7 u_2.2)])) (va_runV (C := RX7) (As := []) (rest := []) S (c_X7_measured l D cy g B p70 b7 c7 d7 e7 h7 k7 st v w) (cwV 0 hts gX7_part_X7_measured rfl rfl rfl hd_X7_measured_V ⟨Nat.le_of_ble_eq_true rfl, Nat.le_of_ble_eq_true rfl⟩) ⟨muP_blind, va_recv hK0.1 hP (ci := 5) (q0 := 0) rfl rfl, my_preA hK0 hS hAB hP hD⟩ rfl rfl hl.1 rfl (lv_room (Nat.le_of_ble_eq_true rfl)) dX7_part_12 ⟨Nat.le_of_ble_eq_true rfl, Nat.le_of_ble_eq_true rfl⟩) hS hD (fun _ => my_flat_adr (by simp only [List.map_cons, List.map_nil, adrSet, adrSetE, adrPow, adrPowE, adrTxt, adrTxtE, adrSav, adrSavE, adrPCo, adrMod, adrModE])) (fun u_2 H locs hw_3 hP hD hS => ?_)
  refine lv_iload_n hx hb dX7_part_15 rfl (lv_at hl 1 rfl) ?_
  refine rd_god (va_runV (C := RX3) (As := [.int x0]) (rest := []) S (c_X3_partOf l D cy g B c7 u_2.2 x0) (cwV 1 hts gX7_part_X3_partOf rfl rfl rfl hd_X3_partOf_V ⟨Nat.le_of_ble_eq_true rfl, Nat.le_of_ble_eq_true rfl⟩) ⟨rdP_blind, va_recv hK0.1 hP (ci := 1) (q0 := 10) rfl rfl, my_preP hK0 hS hAB (my_cP hP 2 rfl)⟩ rfl rfl hl.1 rfl (lv_room (Nat.le_of_ble_eq_true rfl)) dX7_part_16 ⟨Nat.le_of_ble_eq_true rfl, Nat.le_of_ble_eq_true rfl⟩) ?_
  refine vx_ret ?_
  exact W.dret hx hb hr (fun t ht hW => ⟨⟨(f_X3_partOf u_2.2 x0), (u_2.1, u_2.2), rfl, (show f_X7_part st v w x0 = (.inr ((f_X3_partOf u_2.2 x0), (u_2.1, u_2.2))) from by rw [f_X7_part, my_rf_ok hrf_1, hw_3, my_l_eq]), by show va_P D vwCl _ t.heap; rw [ht]; exact hP⟩, hS.F ht⟩) hS.2.2 dX7_part_19
theorem hd_X7_unionGain_S : yX7_unionGain.cls ≠ "java/lang/invoke/MethodHandle" ∧ yX7_unionGain.cls ≠ "java/lang/invoke/VarHandle" ∧ (parseMethodDescriptor yX7_unionGain.desc).map (fun d => d.parameters.length) = some 2 := by decide +kernel
theorem hd_X7_unionGain_V : yX7_unionGain.cls = RX7 ∧ yX7_unionGain.cls ≠ "java/lang/invoke/MethodHandle" ∧ yX7_unionGain.cls ≠ "java/lang/invoke/VarHandle" ∧ (parseMethodDescriptor yX7_unionGain.desc).map (fun d => d.parameters.length) = some 2 := ⟨rfl, hd_X7_unionGain_S⟩
def f_X7_unionGain (st : Int32) (v : SetV) (w : PowV) (v2 : SetV) (w2 : PowV) (x0 : Int32) (x1 : Int32) : Int32 ⊕ (UInt64 × (Int32 × PowV × SetV × PowV)) := (my_rf (f_X6_faultOfPlayers v x0 x1) (my_l (f_X7_measured st v w) (fun (u_2 : Int32 × PowV) => (my_l (f_X7_measured u_2.1 v u_2.2) (fun (u_4 : Int32 × PowV) => (my_l (f_X6_copyFrom v2 v) (fun (u_6 : SetV) => (my_l (f_X6_unite u_6 x0 x1) (fun (u_8 : SetV) => (my_l (f_X3_measure w2 u_8) (fun (u_10 : PowV) => (.inr ((FP.dsub (f_X3_partOf u_10 x0) (FP.dadd (f_X3_partOf u_2.2 x0) (f_X3_partOf u_4.2 x1))), (u_4.1, u_4.2, u_8, u_10))))))))))))))
set_option maxHeartbeats 400000 in
set_option maxRecDepth 100000 in
theorem c_X7_unionGain (l : Launch) (hl0 : l.stackTraces = false) (D : va_G) (cy : Nat → ClassId) (g : Nat → Nat) (B : Nat) (p70 : Nat) (b7 : Nat → Nat) (c7 : Nat → Nat) (d7 : Nat → Nat) (e7 : Nat → Nat) (h7 : Nat → Nat) (k7 : Nat → Nat) (st : Int32) (v : SetV) (w : PowV) (v2 : SetV) (w2 : PowV) (x0 : Int32) (x1 : Int32) : vx_Met l yX7_unionGain wsX7_unionGain ({ frames := 7, cells := 1, slots := 6, locals := 132 }) (muP D cy g B (List.flatten [(wPCo p70 b7 c7 d7 e7 h7 k7 st), (wSet cy b7 v), (wPow cy c7 w), (wSet cy d7 v2), (wPow cy e7 w2)]) [.ref p70, .int x0, .int x1]) (va_Qd (fun (r : UInt64) (u : Int32 × PowV × SetV × PowV) => f_X7_unionGain st v w v2 w2 x0 x1 = .inr (r, u)) (fun u t => va_P D vwCl (List.flatten [(wPCo p70 b7 c7 d7 e7 h7 k7 u.1), (wSet cy b7 v), (wPow cy c7 u.2.1), (wSet cy d7 u.2.2.1), (wPow cy e7 u.2.2.2)]) t.heap) (muA (List.flatten [(wPCo p70 b7 c7 d7 e7 h7 k7 st), (wSet cy b7 v), (wPow cy c7 w), (wSet cy d7 v2), (wPow cy e7 w2)]))) (vx_X (fun (k : Int32) => f_X7_unionGain st v w v2 w2 x0 x1 = .inl k) (fun E k t => exE k E ∧ va_P D vwCl (List.flatten [(wPCo p70 b7 c7 d7 e7 h7 k7 st), (wSet cy b7 v), (wPow cy c7 w), (wSet cy d7 v2), (wPow cy e7 w2)]) t.heap) (muA (List.flatten [(wPCo p70 b7 c7 d7 e7 h7 k7 st), (wSet cy b7 v), (wPow cy c7 w), (wSet cy d7 v2), (wPow cy e7 w2)]))) 1 6 (muA (List.flatten [(wPCo p70 b7 c7 d7 e7 h7 k7 st), (wSet cy b7 v), (wPow cy c7 w), (wSet cy d7 v2), (wPow cy e7 w2)])) := by
  refine vx_ofW (cc := cX7_unionGain) (maxL := 5) (ret := (some .double)) (by decide) rfl ?_
  intro p e s m args below meth c s₁ BB hml hout hv
  obtain ⟨rfl, hP, hK0, hD0⟩ := hv
  have hx := BB.exec
  have hb := BB.bytes
  have hr := BB.returns
  have hts := atoms_spec (ws := wsX7_unionGain) BB.pre
  have hown : s.vm.findClass RX7 = some m.cls := findClass_of_methodNamed BB.named
  have hlocks := BB.notSynchronized
  have S := my_fix hx hb hml hown hts
  have inX7 : ∀ w ∈ wsX70, w ∈ wsX7_unionGain := fun w h => List.mem_cons_of_mem _ (List.mem_append_left _ (List.mem_append_left _ (List.mem_append_left _ (List.mem_append_left _ (List.mem_append_left _ (List.mem_append_left _ (List.mem_append_right _ h)))))))
  have hAB := muB hD0
  have hD := muD hD0
  generalize hAe : muA (List.flatten [(wPCo p70 b7 c7 d7 e7 h7 k7 st), (wSet cy b7 v), (wPow cy c7 w), (wSet cy d7 v2), (wPow cy e7 w2)]) = A at hAB hD ⊢
  have hS : va_S A s.heap s.heap [] := va_S.rf
  have hl := lv_entry ([.ref p70, .int x0, .int x1]) (n := 5) (Nat.le_of_ble_eq_true rfl)
  rw [lg_entry_eq]
  generalize (lg_sl ([.ref p70, .int x0, .int x1]) ++ List.replicate (5 - (lg_sl ([.ref p70, .int x0, .int x1])).length) Slot.unset).toArray = ls at hl ⊢
  have hl : lv_has ls 5 [(0, .ref p70), (1, .int x0), (2, .int x1)] := hl
  refine lv_aload_n hx hb dX7_unionGain_0 rfl (lv_at hl 0 rfl) ?_
  refine va_get (D := D) (ci := 5) (v := .ref (b7 0)) (C := RX7) (T := TX7) (N := 7) hx hb hts inX7 hown hK0.1 hP 0 rfl rfl 0 (by decide) (hts (.fieldLink RX7 10 "PivotChamber" "setting" "LPivotChamber$Setting;") (List.mem_of_getElem? (i := 1) rfl)) (fun _ h9 => h9) rfl dX7_unionGain_1 ?_
  refine lv_iload_n hx hb dX7_unionGain_4 rfl (lv_at hl 1 rfl) ?_
  refine lv_iload_n hx hb dX7_unionGain_5 rfl (lv_at hl 2 rfl) ?_
  refine rd_goi (va_runV (C := RX6) (As := [.int x0, .int x1]) (rest := []) S (c_X6_faultOfPlayers l D cy g B b7 v x0 x1) (cwV 2 hts gX7_unionGain_X6_faultOfPlayers rfl rfl rfl hd_X6_faultOfPlayers_V ⟨Nat.le_of_ble_eq_true rfl, Nat.le_of_ble_eq_true rfl⟩) ⟨rdP_blind, va_recv hK0.1 hP (ci := 4) (q0 := 1) rfl rfl, my_preP hK0 hS hAB (my_cP hP 1 rfl)⟩ rfl rfl hl.1 rfl (lv_room (Nat.le_of_ble_eq_true rfl)) dX7_unionGain_6 ⟨Nat.le_of_ble_eq_true rfl, Nat.le_of_ble_eq_true rfl⟩) ?_
  refine my_rfx (vx_runS (As := [.int (f_X6_faultOfPlayers v x0 x1)]) (rest := []) S (c_X7_refuse l hl0 D cy g B (f_X6_faultOfPlayers v x0 x1)) (va_cwS 1 hts gX7_unionGain_X7_refuse rfl rfl rfl hd_X7_refuse_S ⟨Nat.le_of_ble_eq_true rfl, Nat.le_of_ble_eq_true rfl⟩) ⟨rdP_blind, my_preV hK0 hS hAB hP [] rfl⟩ rfl rfl hl.1 rfl (lv_room (Nat.le_of_ble_eq_true rfl)) dX7_unionGain_9 ⟨Nat.le_of_ble_eq_true rfl, Nat.le_of_ble_eq_true rfl⟩) hS hP hout hlocks (fun _ h => h) (Nat.le_of_ble_eq_true rfl) (Nat.le_of_ble_eq_true rfl) (fun hrf_1 E t h1 h2 h3 => ⟨(f_X6_faultOfPlayers v x0 x1), (show f_X7_unionGain st v w v2 w2 x0 x1 = .inl (f_X6_faultOfPlayers v x0 x1) from by rw [f_X7_unionGain, my_rf_no hrf_1]), ⟨h1, h2⟩, h3⟩) (fun hrf_1 H locs hP hS => ?_)
  have hP : va_P D vwCl (List.flatten [(wPCo p70 b7 c7 d7 e7 h7 k7 st), (wSet cy b7 v), (wPow cy c7 w), (wSet cy d7 v2), (wPow cy e7 w2)]) H := hP
  refine lv_aload_n hx hb dX7_unionGain_12 rfl (lv_at hl 0 rfl) ?_
  refine mu_compr (wcs := [(wPCo p70 b7 c7 d7 e7 h7 k7 st), (wSet cy b7 v), (wPow cy c7 w)]) (wns := fun (u_2 : Int32 × PowV) => [(wPCo p70 b7 c7 d7 e7 h7 k7 u_2.1), (wSet cy b7 v), (wPow cy c7 u_2.2)]) (W2 := fun (u_2 : Int32 × PowV) => [(wPCo p70 b7 c7 d7 e7 h7 k7 u_2.1), (wSet cy b7 v), (wPow cy c7 u_2.2), (wSet cy d7 v2), (wPow cy e7 w2)]) (va_runV (C := RX7) (As := []) (rest := []) S (c_X7_measured l D cy g B p70 b7 c7 d7 e7 h7 k7 st v w) (cwV 0 hts gX7_unionGain_X7_measured rfl rfl rfl hd_X7_measured_V ⟨Nat.le_of_ble_eq_true rfl, Nat.le_of_ble_eq_true rfl⟩) ⟨muP_blind, va_recv hK0.1 hP (ci := 5) (q0 := 0) rfl rfl, my_preC (wcs := [(wPCo p70 b7 c7 d7 e7 h7 k7 st), (wSet cy b7 v), (wPow cy c7 w)]) hK0 hS hAB hP hD [0, 1, 2] (by decide) rfl rfl⟩ rfl rfl hl.1 rfl (lv_room (Nat.le_of_ble_eq_true rfl)) dX7_unionGain_13 ⟨Nat.le_of_ble_eq_true rfl, Nat.le_of_ble_eq_true rfl⟩) hS hP hD [0, 1, 2] rfl rfl (fun _ => rfl) (fun _ => by simp only [List.map_cons, List.map_nil, adrSet, adrSetE, adrPow, adrPowE, adrTxt, adrTxtE, adrSav, adrSavE, adrPCo, adrMod, adrModE]) (fun _ => rfl) (fun u_2 H locs hw_3 hP hD hS => ?_)
  refine lv_iload_n hx hb dX7_unionGain_16 rfl (lv_at hl 1 rfl) ?_
  refine rd_god (va_runV (C := RX3) (As := [.int x0]) (rest := []) S (c_X3_partOf l D cy g B c7 u_2.2 x0) (cwV 1 hts gX7_unionGain_X3_partOf rfl rfl rfl hd_X3_partOf_V ⟨Nat.le_of_ble_eq_true rfl, Nat.le_of_ble_eq_true rfl⟩) ⟨rdP_blind, va_recv hK0.1 hP (ci := 1) (q0 := 10) rfl rfl, my_preP hK0 hS hAB (my_cP hP 2 rfl)⟩ rfl rfl hl.1 rfl (lv_room (Nat.le_of_ble_eq_true rfl)) dX7_unionGain_17 ⟨Nat.le_of_ble_eq_true rfl, Nat.le_of_ble_eq_true rfl⟩) ?_
  refine lv_aload_n hx hb dX7_unionGain_20 rfl (lv_at hl 0 rfl) ?_
  refine mu_compr (wcs := [(wPCo p70 b7 c7 d7 e7 h7 k7 u_2.1), (wSet cy b7 v), (wPow cy c7 u_2.2)]) (wns := fun (u_4 : Int32 × PowV) => [(wPCo p70 b7 c7 d7 e7 h7 k7 u_4.1), (wSet cy b7 v), (wPow cy c7 u_4.2)]) (W2 := fun (u_4 : Int32 × PowV) => [(wPCo p70 b7 c7 d7 e7 h7 k7 u_4.1), (wSet cy b7 v), (wPow cy c7 u_4.2), (wSet cy d7 v2), (wPow cy e7 w2)]) (va_runV (C := RX7) (As := []) (rest := [.double (f_X3_partOf u_2.2 x0)]) S (c_X7_measured l D cy g B p70 b7 c7 d7 e7 h7 k7 u_2.1 v u_2.2) (cwV 0 hts gX7_unionGain_X7_measured rfl rfl rfl hd_X7_measured_V ⟨Nat.le_of_ble_eq_true rfl, Nat.le_of_ble_eq_true rfl⟩) ⟨muP_blind, va_recv hK0.1 hP (ci := 5) (q0 := 0) rfl rfl, my_preC (wcs := [(wPCo p70 b7 c7 d7 e7 h7 k7 u_2.1), (wSet cy b7 v), (wPow cy c7 u_2.2)]) hK0 hS hAB hP hD [0, 1, 2] (by decide) rfl rfl⟩ rfl rfl hl.1 rfl (lv_room (Nat.le_of_ble_eq_true rfl)) dX7_unionGain_21 ⟨Nat.le_of_ble_eq_true rfl, Nat.le_of_ble_eq_true rfl⟩) hS hP hD [0, 1, 2] rfl rfl (fun _ => rfl) (fun _ => by simp only [List.map_cons, List.map_nil, adrSet, adrSetE, adrPow, adrPowE, adrTxt, adrTxtE, adrSav, adrSavE, adrPCo, adrMod, adrModE]) (fun _ => rfl) (fun u_4 H locs hw_5 hP hD hS => ?_)
  refine lv_iload_n hx hb dX7_unionGain_24 rfl (lv_at hl 2 rfl) ?_
  refine rd_god (va_runV (C := RX3) (As := [.int x1]) (rest := [.double (f_X3_partOf u_2.2 x0)]) S (c_X3_partOf l D cy g B c7 u_4.2 x1) (cwV 1 hts gX7_unionGain_X3_partOf rfl rfl rfl hd_X3_partOf_V ⟨Nat.le_of_ble_eq_true rfl, Nat.le_of_ble_eq_true rfl⟩) ⟨rdP_blind, va_recv hK0.1 hP (ci := 1) (q0 := 10) rfl rfl, my_preP hK0 hS hAB (my_cP hP 2 rfl)⟩ rfl rfl hl.1 rfl (lv_room (Nat.le_of_ble_eq_true rfl)) dX7_unionGain_25 ⟨Nat.le_of_ble_eq_true rfl, Nat.le_of_ble_eq_true rfl⟩) ?_
  refine lv_dadd hx hb dX7_unionGain_28 (my_n64 (my_add_nn (fin_X3_partOf u_2.2 x0) (fin_X3_partOf u_4.2 x1))) ?_
  refine lv_dstore_n (lv' := [(3, .double (FP.dadd (f_X3_partOf u_2.2 x0) (f_X3_partOf u_4.2 x1))), (0, .ref p70), (1, .int x0), (2, .int x1)]) hx hb dX7_unionGain_29 rfl hl (by decide) rfl (fun ls hl => ?_)
  refine lv_aload_n hx hb dX7_unionGain_30 rfl (lv_at hl 1 rfl) ?_
  refine va_get (D := D) (ci := 5) (v := .ref (d7 0)) (C := RX7) (T := TX7) (N := 7) hx hb hts inX7 hown hK0.1 hP 0 rfl rfl 3 (by decide) (hts (.fieldLink RX7 27 "PivotChamber" "otherSetting" "LPivotChamber$Setting;") (List.mem_of_getElem? (i := 2) rfl)) (fun _ h9 => h9) rfl dX7_unionGain_31 ?_
  refine lv_aload_n hx hb dX7_unionGain_34 rfl (lv_at hl 1 rfl) ?_
  refine va_get (D := D) (ci := 5) (v := .ref (b7 0)) (C := RX7) (T := TX7) (N := 7) hx hb hts inX7 hown hK0.1 hP 0 rfl rfl 0 (by decide) (hts (.fieldLink RX7 10 "PivotChamber" "setting" "LPivotChamber$Setting;") (List.mem_of_getElem? (i := 1) rfl)) (fun _ h9 => h9) rfl dX7_unionGain_35 ?_
  refine mu_compv (wcs := [(wSet cy d7 v2), (wSet cy b7 v)]) (wns := fun (u_6 : SetV) => [(wSet cy d7 u_6), (wSet cy b7 v)]) (W2 := fun (u_6 : SetV) => [(wPCo p70 b7 c7 d7 e7 h7 k7 u_4.1), (wSet cy b7 v), (wPow cy c7 u_4.2), (wSet cy d7 u_6), (wPow cy e7 w2)]) (va_runV (C := RX6) (As := [.ref (b7 0)]) (rest := []) S (c_X6_copyFrom l D cy g B d7 b7 v2 v) (cwV 1 hts gX7_unionGain_X6_copyFrom rfl rfl rfl hd_X6_copyFrom_V ⟨Nat.le_of_ble_eq_true rfl, Nat.le_of_ble_eq_true rfl⟩) ⟨muP_blind, va_recv hK0.1 hP (ci := 4) (q0 := 25) rfl rfl, my_preC (wcs := [(wSet cy d7 v2), (wSet cy b7 v)]) hK0 hS hAB hP hD [3, 1] (by decide) rfl rfl⟩ rfl rfl hl.1 rfl (lv_room (Nat.le_of_ble_eq_true rfl)) dX7_unionGain_38 ⟨Nat.le_of_ble_eq_true rfl, Nat.le_of_ble_eq_true rfl⟩) hS hP hD [3, 1] rfl rfl (fun _ => rfl) (fun _ => by simp only [List.map_cons, List.map_nil, adrSet, adrSetE, adrPow, adrPowE, adrTxt, adrTxtE, adrSav, adrSavE, adrPCo, adrMod, adrModE]) (fun _ => rfl) (fun u_6 H locs hw_7 hP hD hS => ?_)
  refine lv_aload_n hx hb dX7_unionGain_41 rfl (lv_at hl 1 rfl) ?_
  refine va_get (D := D) (ci := 5) (v := .ref (d7 0)) (C := RX7) (T := TX7) (N := 7) hx hb hts inX7 hown hK0.1 hP 0 rfl rfl 3 (by decide) (hts (.fieldLink RX7 27 "PivotChamber" "otherSetting" "LPivotChamber$Setting;") (List.mem_of_getElem? (i := 2) rfl)) (fun _ h9 => h9) rfl dX7_unionGain_42 ?_
  refine lv_iload_n hx hb dX7_unionGain_45 rfl (lv_at hl 2 rfl) ?_
  refine lv_iload_n hx hb dX7_unionGain_46 rfl (lv_at hl 3 rfl) ?_
  refine mu_compv (wcs := [(wSet cy d7 u_6)]) (wns := fun (u_8 : SetV) => [(wSet cy d7 u_8)]) (W2 := fun (u_8 : SetV) => [(wPCo p70 b7 c7 d7 e7 h7 k7 u_4.1), (wSet cy b7 v), (wPow cy c7 u_4.2), (wSet cy d7 u_8), (wPow cy e7 w2)]) (va_runV (C := RX6) (As := [.int x0, .int x1]) (rest := []) S (c_X6_unite l D cy g B d7 u_6 x0 x1) (cwV 2 hts gX7_unionGain_X6_unite rfl rfl rfl hd_X6_unite_V ⟨Nat.le_of_ble_eq_true rfl, Nat.le_of_ble_eq_true rfl⟩) ⟨muP_blind, va_recv hK0.1 hP (ci := 4) (q0 := 25) rfl rfl, my_preC (wcs := [(wSet cy d7 u_6)]) hK0 hS hAB hP hD [3] (by decide) rfl (List.append_nil _)⟩ rfl rfl hl.1 rfl (lv_room (Nat.le_of_ble_eq_true rfl)) dX7_unionGain_47 ⟨Nat.le_of_ble_eq_true rfl, Nat.le_of_ble_eq_true rfl⟩) hS hP hD [3] rfl (List.append_nil _) (fun _ => List.append_nil _) (fun _ => by simp only [List.map_cons, List.map_nil, adrSet, adrSetE, adrPow, adrPowE, adrTxt, adrTxtE, adrSav, adrSavE, adrPCo, adrMod, adrModE]) (fun _ => rfl) (fun u_8 H locs hw_9 hP hD hS => ?_)
  refine lv_aload_n hx hb dX7_unionGain_50 rfl (lv_at hl 1 rfl) ?_
  refine va_get (D := D) (ci := 5) (v := .ref (e7 0)) (C := RX7) (T := TX7) (N := 7) hx hb hts inX7 hown hK0.1 hP 0 rfl rfl 4 (by decide) (hts (.fieldLink RX7 30 "PivotChamber" "otherPower" "LPivotChamber$Power;") (List.mem_of_getElem? (i := 3) rfl)) (fun _ h9 => h9) rfl dX7_unionGain_51 ?_
  refine lv_aload_n hx hb dX7_unionGain_54 rfl (lv_at hl 1 rfl) ?_
  refine va_get (D := D) (ci := 5) (v := .ref (d7 0)) (C := RX7) (T := TX7) (N := 7) hx hb hts inX7 hown hK0.1 hP 0 rfl rfl 3 (by decide) (hts (.fieldLink RX7 27 "PivotChamber" "otherSetting" "LPivotChamber$Setting;") (List.mem_of_getElem? (i := 2) rfl)) (fun _ h9 => h9) rfl dX7_unionGain_55 ?_
  refine mu_compv (wcs := [(wPow cy e7 w2), (wSet cy d7 u_8)]) (wns := fun (u_10 : PowV) => [(wPow cy e7 u_10), (wSet cy d7 u_8)]) (W2 := fun (u_10 : PowV) => [(wPCo p70 b7 c7 d7 e7 h7 k7 u_4.1), (wSet cy b7 v), (wPow cy c7 u_4.2), (wSet cy d7 u_8), (wPow cy e7 u_10)]) (va_runV (C := RX3) (As := [.ref (d7 0)]) (rest := []) S (c_X3_measure l D cy g B e7 d7 w2 u_8) (cwV 1 hts gX7_unionGain_X3_measure rfl rfl rfl hd_X3_measure_V ⟨Nat.le_of_ble_eq_true rfl, Nat.le_of_ble_eq_true rfl⟩) ⟨muP_blind, va_recv hK0.1 hP (ci := 1) (q0 := 34) rfl rfl, my_preC (wcs := [(wPow cy e7 w2), (wSet cy d7 u_8)]) hK0 hS hAB hP hD [4, 3] (by decide) rfl rfl⟩ rfl rfl hl.1 rfl (lv_room (Nat.le_of_ble_eq_true rfl)) dX7_unionGain_58 ⟨Nat.le_of_ble_eq_true rfl, Nat.le_of_ble_eq_true rfl⟩) hS hP hD [4, 3] rfl rfl (fun _ => rfl) (fun _ => by simp only [List.map_cons, List.map_nil, adrSet, adrSetE, adrPow, adrPowE, adrTxt, adrTxtE, adrSav, adrSavE, adrPCo, adrMod, adrModE]) (fun _ => rfl) (fun u_10 H locs hw_11 hP hD hS => ?_)
  refine lv_aload_n hx hb dX7_unionGain_61 rfl (lv_at hl 1 rfl) ?_
  refine va_get (D := D) (ci := 5) (v := .ref (e7 0)) (C := RX7) (T := TX7) (N := 7) hx hb hts inX7 hown hK0.1 hP 0 rfl rfl 4 (by decide) (hts (.fieldLink RX7 30 "PivotChamber" "otherPower" "LPivotChamber$Power;") (List.mem_of_getElem? (i := 3) rfl)) (fun _ h9 => h9) rfl dX7_unionGain_62 ?_
  refine lv_iload_n hx hb dX7_unionGain_65 rfl (lv_at hl 2 rfl) ?_
  refine rd_god (va_runV (C := RX3) (As := [.int x0]) (rest := []) S (c_X3_partOf l D cy g B e7 u_10 x0) (cwV 1 hts gX7_unionGain_X3_partOf rfl rfl rfl hd_X3_partOf_V ⟨Nat.le_of_ble_eq_true rfl, Nat.le_of_ble_eq_true rfl⟩) ⟨rdP_blind, va_recv hK0.1 hP (ci := 1) (q0 := 34) rfl rfl, my_preP hK0 hS hAB (my_cP hP 4 rfl)⟩ rfl rfl hl.1 rfl (lv_room (Nat.le_of_ble_eq_true rfl)) dX7_unionGain_66 ⟨Nat.le_of_ble_eq_true rfl, Nat.le_of_ble_eq_true rfl⟩) ?_
  refine lv_dload_n hx hb dX7_unionGain_69 rfl (lv_at hl 0 rfl) ?_
  refine lv_dsub hx hb dX7_unionGain_70 (my_n64 (my_sub_nn (fin_X3_partOf u_10 x0) (my_add_nn (fin_X3_partOf u_2.2 x0) (fin_X3_partOf u_4.2 x1)))) ?_
  refine vx_ret ?_
  exact W.dret hx hb hr (fun t ht hW => ⟨⟨(FP.dsub (f_X3_partOf u_10 x0) (FP.dadd (f_X3_partOf u_2.2 x0) (f_X3_partOf u_4.2 x1))), (u_4.1, u_4.2, u_8, u_10), rfl, (show f_X7_unionGain st v w v2 w2 x0 x1 = (.inr ((FP.dsub (f_X3_partOf u_10 x0) (FP.dadd (f_X3_partOf u_2.2 x0) (f_X3_partOf u_4.2 x1))), (u_4.1, u_4.2, u_8, u_10))) from by rw [f_X7_unionGain, my_rf_ok hrf_1, hw_3, my_l_eq, hw_5, my_l_eq, hw_7, my_l_eq, hw_9, my_l_eq, hw_11, my_l_eq]), by show va_P D vwCl _ t.heap; rw [ht]; exact hP⟩, hS.F ht⟩) hS.2.2 dX7_unionGain_71
theorem hd_X7_digest_S : yX7_digest.cls ≠ "java/lang/invoke/MethodHandle" ∧ yX7_digest.cls ≠ "java/lang/invoke/VarHandle" ∧ (parseMethodDescriptor yX7_digest.desc).map (fun d => d.parameters.length) = some 0 := by decide +kernel
theorem hd_X7_digest_V : yX7_digest.cls = RX7 ∧ yX7_digest.cls ≠ "java/lang/invoke/MethodHandle" ∧ yX7_digest.cls ≠ "java/lang/invoke/VarHandle" ∧ (parseMethodDescriptor yX7_digest.desc).map (fun d => d.parameters.length) = some 0 := ⟨rfl, hd_X7_digest_S⟩
def f_X7_digest_st3 (u_1 : Int32 × PowV) (i2_9 : Int64) (i4_10 : Int32) : (Int64 × Int32) ⊕ (Int64 × Int32) := (if u_1.2.2.2.2.2.1 ≤ i4_10 then (.inr (i2_9, i4_10)) else (.inl ((f_X7_mixed i2_9 (Int32.toInt64 (rAt 256 u_1.2.2.2.2.2.2.2.2.2.1 i4_10))), (i4_10 + 1))))
def f_X7_digest_st4 (v : SetV) (i4_8 : Int32) (i2_13 : Int64) (i5_14 : Int32) : (Int64 × Int32) ⊕ (Int64 × Int32) := (if 2 < i5_14 then (.inr (i2_13, i5_14)) else (.inl ((f_X7_mixed i2_13 (Int32.toInt64 (f_X6_ruleValue v i4_8 i5_14))), (i5_14 + 1))))
def f_X7_digest_st2 (v : SetV) (i2_7 : Int64) (i4_8 : Int32) : (Int64 × Int32) ⊕ (Int64 × Int32) := (if v.2.2.1 ≤ i4_8 then (.inr (i2_7, i4_8)) else (my_t2 (lp (fun (x : Int64 × Int32) => f_X7_digest_st4 v i4_8 x.1 x.2) default (((2 : Int32).toInt + 1 - (0 : Int32).toInt).toNat + 1) (i2_7, 0)) (fun (i2_13 : Int64) (i5_14 : Int32) => (.inl (i2_13, (i4_8 + 1))))))
def f_X7_digest_st5 (v : SetV) (u_1 : Int32 × PowV) (i4_6 : Int32) (i2_17 : Int64) (i5_18 : Int32) : (Int64 × Int32) ⊕ (Int64 × Int32) := (if 7 < i5_18 then (.inr (i2_17, i5_18)) else (.inl ((f_X7_mixed i2_17 (Int32.toInt64 (f_X7_memberValue u_1.1 v u_1.2 i4_6 i5_18))), (i5_18 + 1))))
def f_X7_digest_st1 (v : SetV) (u_1 : Int32 × PowV) (i2_5 : Int64) (i4_6 : Int32) : (Int64 × Int32) ⊕ (Int64 × Int32) := (if v.1 ≤ i4_6 then (.inr (i2_5, i4_6)) else (my_t2 (lp (fun (x : Int64 × Int32) => f_X7_digest_st5 v u_1 i4_6 x.1 x.2) default (((7 : Int32).toInt + 1 - (0 : Int32).toInt).toNat + 1) (i2_5, 0)) (fun (i2_17 : Int64) (i5_18 : Int32) => (.inl ((f_X7_mixed (f_X7_mixed i2_17 (f_X7_bitsOf (FP.f2d (f_X3_shareOf u_1.2 i4_6)) 127 23)) (f_X7_bitsOf (f_X3_partOf u_1.2 i4_6) 1023 52)), (i4_6 + 1))))))
def f_X7_digest_st (v : SetV) (tx : TxtV) (u_1 : Int32 × PowV) (i2_3 : Int64) (i4_4 : Int32) : (Int64 × Int32) ⊕ (Int64 × Int32) := (if 11 < i4_4 then (.inr (i2_3, i4_4)) else (.inl ((f_X7_mixed i2_3 (Int32.toInt64 (f_X7_wholeValue u_1.1 v u_1.2 tx i4_4))), (i4_4 + 1))))
def f_X7_digest (st : Int32) (v : SetV) (w : PowV) (z : (Int32 × Int32)) (tx : TxtV) : Int64 × (Int32 × PowV) := (my_l (f_X7_measured st v w) (fun (u_1 : Int32 × PowV) => (my_t2 (lp (fun (x : Int64 × Int32) => f_X7_digest_st v tx u_1 x.1 x.2) default (((11 : Int32).toInt + 1 - (0 : Int32).toInt).toNat + 1) ((f_X7_mixed 43588 (Int32.toInt64 z.1)), 0)) (fun (i2_3 : Int64) (i4_4 : Int32) => (my_t2 (lp (fun (x : Int64 × Int32) => f_X7_digest_st1 v u_1 x.1 x.2) default (((v.1 : Int32).toInt - (0 : Int32).toInt).toNat + 1) (i2_3, 0)) (fun (i2_5 : Int64) (i4_6 : Int32) => (my_t2 (lp (fun (x : Int64 × Int32) => f_X7_digest_st2 v x.1 x.2) default (((v.2.2.1 : Int32).toInt - (0 : Int32).toInt).toNat + 1) (i2_5, 0)) (fun (i2_7 : Int64) (i4_8 : Int32) => (my_t2 (lp (fun (x : Int64 × Int32) => f_X7_digest_st3 u_1 x.1 x.2) default (((u_1.2.2.2.2.2.1 : Int32).toInt - (0 : Int32).toInt).toNat + 1) (i2_7, 0)) (fun (i2_9 : Int64) (i4_10 : Int32) => (i2_9, (u_1.1, u_1.2))))))))))))
set_option maxHeartbeats 3200000 in
set_option maxRecDepth 100000 in
theorem c_X7_digest (l : Launch) (D : va_G) (cy : Nat → ClassId) (g : Nat → Nat) (B : Nat) (p70 : Nat) (b7 : Nat → Nat) (c7 : Nat → Nat) (d7 : Nat → Nat) (e7 : Nat → Nat) (h7 : Nat → Nat) (k7 : Nat → Nat) (q : Nat → Nat → Nat) (st : Int32) (v : SetV) (w : PowV) (z : (Int32 × Int32)) (tx : TxtV) : Met l yX7_digest wsX7_digest ({ frames := 6, cells := 0, slots := 0, locals := 132 }) (muP D cy g B (List.flatten [(wPCo p70 b7 c7 d7 e7 h7 k7 st), (wSet cy b7 v), (wPow cy c7 w), (wSav cy q h7 z), (wTxt cy g k7 tx)]) [.ref p70]) (va_Ql (fun (r : Int64) (u : Int32 × PowV) => f_X7_digest st v w z tx = (r, u)) (fun u t => va_P D vwCl (List.flatten [(wPCo p70 b7 c7 d7 e7 h7 k7 u.1), (wSet cy b7 v), (wPow cy c7 u.2), (wSav cy q h7 z), (wTxt cy g k7 tx)]) t.heap) (muA (List.flatten [(wPCo p70 b7 c7 d7 e7 h7 k7 st), (wSet cy b7 v), (wPow cy c7 w), (wSav cy q h7 z), (wTxt cy g k7 tx)]))) 0 0 (muA (List.flatten [(wPCo p70 b7 c7 d7 e7 h7 k7 st), (wSet cy b7 v), (wPow cy c7 w), (wSav cy q h7 z), (wTxt cy g k7 tx)])) := by
  refine Met.ofW (cc := cX7_digest) (maxL := 6) (ret := (some .long)) (by decide) rfl ?_
  intro p e s m args below meth c s₁ BB hml hv
  obtain ⟨rfl, hP, hK0, hD0⟩ := hv
  have hx := BB.exec
  have hb := BB.bytes
  have hr := BB.returns
  have hts := atoms_spec (ws := wsX7_digest) BB.pre
  have hown : s.vm.findClass RX7 = some m.cls := findClass_of_methodNamed BB.named
  have hlocks := BB.notSynchronized
  have S := my_fix hx hb hml hown hts
  have inX3 : ∀ w ∈ wsX30, w ∈ wsX7_digest := fun w h => List.mem_cons_of_mem _ (List.mem_append_left _ (List.mem_append_left _ (List.mem_append_right _ h)))
  have inX5 : ∀ w ∈ wsX50, w ∈ wsX7_digest := fun w h => List.mem_cons_of_mem _ (List.mem_append_left _ (List.mem_append_left _ (List.mem_append_left _ (List.mem_append_left _ (List.mem_append_right _ h)))))
  have inX6 : ∀ w ∈ wsX60, w ∈ wsX7_digest := fun w h => List.mem_cons_of_mem _ (List.mem_append_left _ (List.mem_append_left _ (List.mem_append_left _ (List.mem_append_right _ h))))
  have inX7 : ∀ w ∈ wsX70, w ∈ wsX7_digest := fun w h => List.mem_cons_of_mem _ (List.mem_append_left _ (List.mem_append_left _ (List.mem_append_left _ (List.mem_append_left _ (List.mem_append_left _ (List.mem_append_right _ h))))))
  have hAB := muB hD0
  have hD := muD hD0
  generalize hAe : muA (List.flatten [(wPCo p70 b7 c7 d7 e7 h7 k7 st), (wSet cy b7 v), (wPow cy c7 w), (wSav cy q h7 z), (wTxt cy g k7 tx)]) = A at hAB hD ⊢
  have hS : va_S A s.heap s.heap [] := va_S.rf
  have hl := lv_entry ([.ref p70]) (n := 6) (Nat.le_of_ble_eq_true rfl)
  rw [lg_entry_eq]
  generalize (lg_sl ([.ref p70]) ++ List.replicate (6 - (lg_sl ([.ref p70])).length) Slot.unset).toArray = ls at hl ⊢
  have hl : lv_has ls 6 [(0, .ref p70)] := hl
  refine lv_aload_n hx hb dX7_digest_0 rfl (lv_at hl 0 rfl) ?_
  refine mu_compr (wcs := [(wPCo p70 b7 c7 d7 e7 h7 k7 st), (wSet cy b7 v), (wPow cy c7 w)]) (wns := fun (u_1 : Int32 × PowV) => [(wPCo p70 b7 c7 d7 e7 h7 k7 u_1.1), (wSet cy b7 v), (wPow cy c7 u_1.2)]) (W2 := fun (u_1 : Int32 × PowV) => [(wPCo p70 b7 c7 d7 e7 h7 k7 u_1.1), (wSet cy b7 v), (wPow cy c7 u_1.2), (wSav cy q h7 z), (wTxt cy g k7 tx)]) (va_runV (C := RX7) (As := []) (rest := []) S (c_X7_measured l D cy g B p70 b7 c7 d7 e7 h7 k7 st v w) (cwV 0 hts gX7_digest_X7_measured rfl rfl rfl hd_X7_measured_V ⟨Nat.le_of_ble_eq_true rfl, Nat.le_of_ble_eq_true rfl⟩) ⟨muP_blind, va_recv hK0.1 hP (ci := 5) (q0 := 0) rfl rfl, my_preC (wcs := [(wPCo p70 b7 c7 d7 e7 h7 k7 st), (wSet cy b7 v), (wPow cy c7 w)]) hK0 hS hAB hP hD [0, 1, 2] (by decide) rfl rfl⟩ rfl rfl hl.1 rfl (lv_room (Nat.le_of_ble_eq_true rfl)) dX7_digest_1 ⟨Nat.zero_le _, Nat.zero_le _⟩) hS hP hD [0, 1, 2] rfl rfl (fun _ => rfl) (fun _ => by simp only [List.map_cons, List.map_nil, adrSet, adrSetE, adrPow, adrPowE, adrTxt, adrTxtE, adrSav, adrSavE, adrPCo, adrMod, adrModE]) (fun _ => rfl) (fun u_1 H locs hw_2 hP hD hS => ?_)
  refine lv_astore_n (lv' := [(1, .ref (c7 0)), (0, .ref p70)]) hx hb dX7_digest_4 rfl hl (by decide) rfl (fun ls hl => ?_)
  refine lv_ldc2 hx hb hown (hts (.constantLong RX7 222 (43588)) (List.mem_of_getElem? (i := 1) rfl)) dX7_digest_5 ?_
  refine lv_aload_n hx hb dX7_digest_8 rfl (lv_at hl 1 rfl) ?_
  refine va_get (D := D) (ci := 5) (v := .ref (h7 0)) (C := RX7) (T := TX7) (N := 7) hx hb hts inX7 hown hK0.1 hP 0 rfl rfl 5 (by decide) (hts (.fieldLink RX7 36 "PivotChamber" "saved" "LPivotChamber$SavedSettings;") (List.mem_of_getElem? (i := 2) rfl)) (fun _ h9 => h9) rfl dX7_digest_9 ?_
  refine va_getN (D := D) (ci := 3) (v := .int z.1) (C := RX5) (T := TX5) (N := 3) (host := "PivotChamber") hx hb hts inX5 hown hK0.1 hP 25 rfl rfl 1 (by decide) (va_Nw.use rfl (hK0.2.1.1.f 6 rfl)) (fun _ h9 => h9) rfl dX7_digest_12 ?_
  refine lv_i2l (v := (Int32.toInt64 z.1)) hx hb dX7_digest_15 rfl ?_
  refine rd_gol (va_runS (As := [.long 43588, .long (Int32.toInt64 z.1)]) (rest := []) S (c_X7_mixed l D cy g B 43588 (Int32.toInt64 z.1)) (va_cwS 2 hts gX7_digest_X7_mixed rfl rfl rfl hd_X7_mixed_S ⟨Nat.le_of_ble_eq_true rfl, Nat.le_of_ble_eq_true rfl⟩) ⟨rdP_blind, my_preV hK0 hS hAB hP [] rfl⟩ rfl rfl hl.1 rfl (lv_room (Nat.le_of_ble_eq_true rfl)) dX7_digest_16 ⟨Nat.zero_le _, Nat.zero_le _⟩) ?_
  refine lv_lstore_n (lv' := [(2, .long (f_X7_mixed 43588 (Int32.toInt64 z.1))), (1, .ref (c7 0)), (0, .ref p70)]) hx hb dX7_digest_19 rfl hl (by decide) rfl (fun ls hl => ?_)
  refine lv_iconst (v := 0) hx hb dX7_digest_20 (by decide) ?_
  refine lv_istore (lv' := [(4, .int 0), (2, .long (f_X7_mixed 43588 (Int32.toInt64 z.1))), (1, .ref (c7 0)), (0, .ref p70)]) hx hb dX7_digest_21 hl (by decide) rfl (fun ls hl => ?_)
  have cont0 : ∀ (i2_3 : Int64) (i4_4 : Int32), lp (fun (x : Int64 × Int32) => f_X7_digest_st v tx u_1 x.1 x.2) default (((11 : Int32).toInt + 1 - (0 : Int32).toInt).toNat + 1) ((f_X7_mixed 43588 (Int32.toInt64 z.1)), 0) = (i2_3, i4_4) → ∀ ls : Array Slot, lv_has ls 6 [(0, .ref p70), (1, .ref (c7 0)), (2, .long i2_3), (4, .int i4_4)] → W p l e (headSpec wsX7_digest ({ frames := 6, cells := 0, slots := 0, locals := 132 } : Room)).room s m ([.ref p70] : List Value).toArray below meth c H locs 0 0 (MQ below (va_Ql (fun (r : Int64) (u : Int32 × PowV) => f_X7_digest st v w z tx = (r, u)) (fun u t => va_P D vwCl (List.flatten [(wPCo p70 b7 c7 d7 e7 h7 k7 u.1), (wSet cy b7 v), (wPow cy c7 u.2), (wSav cy q h7 z), (wTxt cy g k7 tx)]) t.heap) A) ([.ref p70] : List Value).toArray s 0 0 A) (F0 m 49 ls []) := by
    intro i2_3 i4_4 hE0 ls hl
    refine lv_iconst (v := 0) hx hb dX7_digest_49 (by decide) ?_
    refine lv_istore (lv' := [(4, .int 0), (0, .ref p70), (1, .ref (c7 0)), (2, .long i2_3)]) hx hb dX7_digest_50 hl (by decide) rfl (fun ls hl => ?_)
    have cont1 : ∀ (i2_5 : Int64) (i4_6 : Int32), lp (fun (x : Int64 × Int32) => f_X7_digest_st1 v u_1 x.1 x.2) default (((v.1 : Int32).toInt - (0 : Int32).toInt).toNat + 1) (i2_3, 0) = (i2_5, i4_6) → ∀ ls : Array Slot, lv_has ls 6 [(0, .ref p70), (1, .ref (c7 0)), (2, .long i2_5), (4, .int i4_6)] → W p l e (headSpec wsX7_digest ({ frames := 6, cells := 0, slots := 0, locals := 132 } : Room)).room s m ([.ref p70] : List Value).toArray below meth c H locs 0 0 (MQ below (va_Ql (fun (r : Int64) (u : Int32 × PowV) => f_X7_digest st v w z tx = (r, u)) (fun u t => va_P D vwCl (List.flatten [(wPCo p70 b7 c7 d7 e7 h7 k7 u.1), (wSet cy b7 v), (wPow cy c7 u.2), (wSav cy q h7 z), (wTxt cy g k7 tx)]) t.heap) A) ([.ref p70] : List Value).toArray s 0 0 A) (F0 m 139 ls []) := by
      intro i2_5 i4_6 hE1 ls hl
      refine lv_iconst (v := 0) hx hb dX7_digest_139 (by decide) ?_
      refine lv_istore (lv' := [(4, .int 0), (0, .ref p70), (1, .ref (c7 0)), (2, .long i2_5)]) hx hb dX7_digest_140 hl (by decide) rfl (fun ls hl => ?_)
      have cont2 : ∀ (i2_7 : Int64) (i4_8 : Int32), lp (fun (x : Int64 × Int32) => f_X7_digest_st2 v x.1 x.2) default (((v.2.2.1 : Int32).toInt - (0 : Int32).toInt).toNat + 1) (i2_5, 0) = (i2_7, i4_8) → ∀ ls : Array Slot, lv_has ls 6 [(0, .ref p70), (1, .ref (c7 0)), (2, .long i2_7), (4, .int i4_8)] → W p l e (headSpec wsX7_digest ({ frames := 6, cells := 0, slots := 0, locals := 132 } : Room)).room s m ([.ref p70] : List Value).toArray below meth c H locs 0 0 (MQ below (va_Ql (fun (r : Int64) (u : Int32 × PowV) => f_X7_digest st v w z tx = (r, u)) (fun u t => va_P D vwCl (List.flatten [(wPCo p70 b7 c7 d7 e7 h7 k7 u.1), (wSet cy b7 v), (wPow cy c7 u.2), (wSav cy q h7 z), (wTxt cy g k7 tx)]) t.heap) A) ([.ref p70] : List Value).toArray s 0 0 A) (F0 m 192 ls []) := by
        intro i2_7 i4_8 hE2 ls hl
        refine lv_iconst (v := 0) hx hb dX7_digest_192 (by decide) ?_
        refine lv_istore (lv' := [(4, .int 0), (0, .ref p70), (1, .ref (c7 0)), (2, .long i2_7)]) hx hb dX7_digest_193 hl (by decide) rfl (fun ls hl => ?_)
        have cont3 : ∀ (i2_9 : Int64) (i4_10 : Int32), lp (fun (x : Int64 × Int32) => f_X7_digest_st3 u_1 x.1 x.2) default (((u_1.2.2.2.2.2.1 : Int32).toInt - (0 : Int32).toInt).toNat + 1) (i2_7, 0) = (i2_9, i4_10) → ∀ ls : Array Slot, lv_has ls 6 [(0, .ref p70), (1, .ref (c7 0)), (2, .long i2_9), (4, .int i4_10)] → W p l e (headSpec wsX7_digest ({ frames := 6, cells := 0, slots := 0, locals := 132 } : Room)).room s m ([.ref p70] : List Value).toArray below meth c H locs 0 0 (MQ below (va_Ql (fun (r : Int64) (u : Int32 × PowV) => f_X7_digest st v w z tx = (r, u)) (fun u t => va_P D vwCl (List.flatten [(wPCo p70 b7 c7 d7 e7 h7 k7 u.1), (wSet cy b7 v), (wPow cy c7 u.2), (wSav cy q h7 z), (wTxt cy g k7 tx)]) t.heap) A) ([.ref p70] : List Value).toArray s 0 0 A) (F0 m 225 ls []) := by
          intro i2_9 i4_10 hE3 ls hl
          refine lv_lload_n hx hb dX7_digest_225 rfl (lv_at hl 2 rfl) ?_
          exact W.lret hx hb hr (fun t ht hW => ⟨⟨i2_9, (u_1.1, u_1.2), rfl, (show f_X7_digest st v w z tx = (i2_9, (u_1.1, u_1.2)) from by rw [f_X7_digest, hw_2, my_l_eq, hE0, my_t2_eq, hE1, my_t2_eq, hE2, my_t2_eq, hE3, my_t2_eq]), by show va_P D vwCl _ t.heap; rw [ht]; exact hP⟩, hS.F ht⟩) hS.2.2 dX7_digest_226
        have key : ∀ (nf : Nat) (i2_9 : Int64) (i4_10 : Int32), ((u_1.2.2.2.2.2.1 : Int32).toInt - (i4_10 : Int32).toInt).toNat < nf → lp (fun (x : Int64 × Int32) => f_X7_digest_st3 u_1 x.1 x.2) default nf (i2_9, i4_10) = lp (fun (x : Int64 × Int32) => f_X7_digest_st3 u_1 x.1 x.2) default (((u_1.2.2.2.2.2.1 : Int32).toInt - (0 : Int32).toInt).toNat + 1) (i2_7, 0) → ∀ ls : Array Slot, lv_has ls 6 [(0, .ref p70), (1, .ref (c7 0)), (2, .long i2_9), (4, .int i4_10)] → W p l e (headSpec wsX7_digest ({ frames := 6, cells := 0, slots := 0, locals := 132 } : Room)).room s m ([.ref p70] : List Value).toArray below meth c H locs 0 0 (MQ below (va_Ql (fun (r : Int64) (u : Int32 × PowV) => f_X7_digest st v w z tx = (r, u)) (fun u t => va_P D vwCl (List.flatten [(wPCo p70 b7 c7 d7 e7 h7 k7 u.1), (wSet cy b7 v), (wPow cy c7 u.2), (wSav cy q h7 z), (wTxt cy g k7 tx)]) t.heap) A) ([.ref p70] : List Value).toArray s 0 0 A) (F0 m 195 ls []) := by
          intro n3
          induction n3 with
          | zero => intro i2_9 i4_10 hlt; exact absurd hlt (Nat.not_lt_zero _)
          | succ n3 ih3 =>
            intro i2_9 i4_10 hlt3 hF3 ls hl
            refine lv_iload hx hb dX7_digest_195 (lv_at hl 3 rfl) ?_
            refine lv_aload_n hx hb dX7_digest_197 rfl (lv_at hl 1 rfl) ?_
            refine va_getN (D := D) (ci := 1) (v := .int u_1.2.2.2.2.2.1) (C := RX3) (T := TX3) (N := 13) (host := "PivotChamber") hx hb hts inX3 hown hK0.1 hP 10 rfl rfl 6 (by decide) (va_Nw.use rfl (hK0.2.1.1.f 0 rfl)) (fun _ h9 => h9) rfl dX7_digest_198 ?_
            refine lv_icmp_ge (tgt := 225) hx hb dX7_digest_201 (by decide) (fun c_11 => ?_) (fun c_11 => ?_)
            · have hst : f_X7_digest_st3 u_1 i2_9 i4_10 = .inr (i2_9, i4_10) := by rw [f_X7_digest_st3, if_pos c_11]
              exact cont3 i2_9 i4_10 (lp_inr hst hF3) _ (lv_sub hl [0, 1, 2, 3] rfl)
            · refine lv_lload_n hx hb dX7_digest_204 rfl (lv_at hl 2 rfl) ?_
              refine lv_aload_n hx hb dX7_digest_205 rfl (lv_at hl 1 rfl) ?_
              refine va_getN (D := D) (ci := 1) (v := .ref (c7 5)) (C := RX3) (T := TX3) (N := 13) (host := "PivotChamber") hx hb hts inX3 hown hK0.1 hP 10 rfl rfl 7 (by decide) (va_Nw.use rfl (hK0.2.1.1.f 1 rfl)) (fun _ h9 => h9) rfl dX7_digest_206 ?_
              refine lv_iload hx hb dX7_digest_209 (lv_at hl 3 rfl) ?_
              refine rd_goi (va_runV (C := RX4) (As := [.int i4_10]) (rest := [.long i2_9]) S (c_X4_at l D cy g B (c7 5) (c7 6) 256 u_1.2.2.2.2.2.2.2.2.2.1 i4_10 (by decide)) (cwV 1 hts gX7_digest_X4_at rfl rfl rfl hd_X4_at_V ⟨Nat.le_of_ble_eq_true rfl, Nat.le_of_ble_eq_true rfl⟩) ⟨rdP_blind, va_recv hK0.1 hP (ci := 2) (q0 := 15) rfl rfl, my_preV hK0 hS hAB hP [15, 16] rfl⟩ rfl rfl hl.1 rfl (lv_room (Nat.le_of_ble_eq_true rfl)) dX7_digest_211 ⟨Nat.zero_le _, Nat.zero_le _⟩) ?_
              refine lv_i2l (v := (Int32.toInt64 (rAt 256 u_1.2.2.2.2.2.2.2.2.2.1 i4_10))) hx hb dX7_digest_214 rfl ?_
              refine rd_gol (va_runS (As := [.long i2_9, .long (Int32.toInt64 (rAt 256 u_1.2.2.2.2.2.2.2.2.2.1 i4_10))]) (rest := []) S (c_X7_mixed l D cy g B i2_9 (Int32.toInt64 (rAt 256 u_1.2.2.2.2.2.2.2.2.2.1 i4_10))) (va_cwS 2 hts gX7_digest_X7_mixed rfl rfl rfl hd_X7_mixed_S ⟨Nat.le_of_ble_eq_true rfl, Nat.le_of_ble_eq_true rfl⟩) ⟨rdP_blind, my_preV hK0 hS hAB hP [] rfl⟩ rfl rfl hl.1 rfl (lv_room (Nat.le_of_ble_eq_true rfl)) dX7_digest_215 ⟨Nat.zero_le _, Nat.zero_le _⟩) ?_
              refine lv_lstore_n (lv' := [(2, .long (f_X7_mixed i2_9 (Int32.toInt64 (rAt 256 u_1.2.2.2.2.2.2.2.2.2.1 i4_10)))), (0, .ref p70), (1, .ref (c7 0)), (4, .int i4_10)]) hx hb dX7_digest_218 rfl hl (by decide) rfl (fun ls hl => ?_)
              refine lv_iinc (v := (i4_10 + 1)) (lv' := [(4, .int (i4_10 + 1)), (2, .long (f_X7_mixed i2_9 (Int32.toInt64 (rAt 256 u_1.2.2.2.2.2.2.2.2.2.1 i4_10)))), (0, .ref p70), (1, .ref (c7 0))]) hx hb dX7_digest_219 hl (k := 3) rfl rfl (by decide) rfl (fun ls hl => ?_)
              refine lv_goto (tgt := 195) hx hb dX7_digest_222 (by decide) ?_
              have hst : f_X7_digest_st3 u_1 i2_9 i4_10 = .inl ((f_X7_mixed i2_9 (Int32.toInt64 (rAt 256 u_1.2.2.2.2.2.2.2.2.2.1 i4_10))), (i4_10 + 1)) := by rw [f_X7_digest_st3, if_neg c_11]
              have hmu : ((u_1.2.2.2.2.2.1 : Int32).toInt - ((i4_10 + 1) : Int32).toInt).toNat < ((u_1.2.2.2.2.2.1 : Int32).toInt - (i4_10 : Int32).toInt).toNat := mu_up c_11
              exact ih3 (f_X7_mixed i2_9 (Int32.toInt64 (rAt 256 u_1.2.2.2.2.2.2.2.2.2.1 i4_10))) (i4_10 + 1) (Nat.lt_of_lt_of_le hmu (Nat.le_of_lt_succ hlt3)) (lp_inl hst hF3) _ (lv_sub hl [2, 3, 1, 0] rfl)
        exact key (((u_1.2.2.2.2.2.1 : Int32).toInt - (0 : Int32).toInt).toNat + 1) i2_7 0 (Nat.lt_succ_self _) rfl _ (lv_sub hl [1, 2, 3, 0] rfl)
      have key : ∀ (nf : Nat) (i2_7 : Int64) (i4_8 : Int32), ((v.2.2.1 : Int32).toInt - (i4_8 : Int32).toInt).toNat < nf → lp (fun (x : Int64 × Int32) => f_X7_digest_st2 v x.1 x.2) default nf (i2_7, i4_8) = lp (fun (x : Int64 × Int32) => f_X7_digest_st2 v x.1 x.2) default (((v.2.2.1 : Int32).toInt - (0 : Int32).toInt).toNat + 1) (i2_5, 0) → ∀ ls : Array Slot, lv_has ls 6 [(0, .ref p70), (1, .ref (c7 0)), (2, .long i2_7), (4, .int i4_8)] → W p l e (headSpec wsX7_digest ({ frames := 6, cells := 0, slots := 0, locals := 132 } : Room)).room s m ([.ref p70] : List Value).toArray below meth c H locs 0 0 (MQ below (va_Ql (fun (r : Int64) (u : Int32 × PowV) => f_X7_digest st v w z tx = (r, u)) (fun u t => va_P D vwCl (List.flatten [(wPCo p70 b7 c7 d7 e7 h7 k7 u.1), (wSet cy b7 v), (wPow cy c7 u.2), (wSav cy q h7 z), (wTxt cy g k7 tx)]) t.heap) A) ([.ref p70] : List Value).toArray s 0 0 A) (F0 m 142 ls []) := by
        intro n2
        induction n2 with
        | zero => intro i2_7 i4_8 hlt; exact absurd hlt (Nat.not_lt_zero _)
        | succ n2 ih2 =>
          intro i2_7 i4_8 hlt2 hF2 ls hl
          refine lv_iload hx hb dX7_digest_142 (lv_at hl 3 rfl) ?_
          refine lv_aload_n hx hb dX7_digest_144 rfl (lv_at hl 0 rfl) ?_
          refine va_get (D := D) (ci := 5) (v := .ref (b7 0)) (C := RX7) (T := TX7) (N := 7) hx hb hts inX7 hown hK0.1 hP 0 rfl rfl 0 (by decide) (hts (.fieldLink RX7 10 "PivotChamber" "setting" "LPivotChamber$Setting;") (List.mem_of_getElem? (i := 3) rfl)) (fun _ h9 => h9) rfl dX7_digest_145 ?_
          refine va_getN (D := D) (ci := 4) (v := .int v.2.2.1) (C := RX6) (T := TX6) (N := 7) (host := "PivotChamber") hx hb hts inX6 hown hK0.1 hP 1 rfl rfl 4 (by decide) (va_Nw.use rfl (hK0.2.1.1.f 8 rfl)) (fun _ h9 => h9) rfl dX7_digest_148 ?_
          refine lv_icmp_ge (tgt := 192) hx hb dX7_digest_151 (by decide) (fun c_12 => ?_) (fun c_12 => ?_)
          · have hst : f_X7_digest_st2 v i2_7 i4_8 = .inr (i2_7, i4_8) := by rw [f_X7_digest_st2, if_pos c_12]
            exact cont2 i2_7 i4_8 (lp_inr hst hF2) _ (lv_sub hl [0, 1, 2, 3] rfl)
          · refine lv_iconst (v := 0) hx hb dX7_digest_154 (by decide) ?_
            refine lv_istore (lv' := [(5, .int 0), (0, .ref p70), (1, .ref (c7 0)), (2, .long i2_7), (4, .int i4_8)]) hx hb dX7_digest_155 hl (by decide) rfl (fun ls hl => ?_)
            have cont4 : ∀ (i2_13 : Int64) (i5_14 : Int32), lp (fun (x : Int64 × Int32) => f_X7_digest_st4 v i4_8 x.1 x.2) default (((2 : Int32).toInt + 1 - (0 : Int32).toInt).toNat + 1) (i2_7, 0) = (i2_13, i5_14) → ∀ ls : Array Slot, lv_has ls 6 [(0, .ref p70), (1, .ref (c7 0)), (2, .long i2_13), (4, .int i4_8), (5, .int i5_14)] → W p l e (headSpec wsX7_digest ({ frames := 6, cells := 0, slots := 0, locals := 132 } : Room)).room s m ([.ref p70] : List Value).toArray below meth c H locs 0 0 (MQ below (va_Ql (fun (r : Int64) (u : Int32 × PowV) => f_X7_digest st v w z tx = (r, u)) (fun u t => va_P D vwCl (List.flatten [(wPCo p70 b7 c7 d7 e7 h7 k7 u.1), (wSet cy b7 v), (wPow cy c7 u.2), (wSav cy q h7 z), (wTxt cy g k7 tx)]) t.heap) A) ([.ref p70] : List Value).toArray s 0 0 A) (F0 m 186 ls []) := by
              intro i2_13 i5_14 hE4 ls hl
              refine lv_iinc (v := (i4_8 + 1)) (lv' := [(4, .int (i4_8 + 1)), (0, .ref p70), (1, .ref (c7 0)), (2, .long i2_13), (5, .int i5_14)]) hx hb dX7_digest_186 hl (k := 3) rfl rfl (by decide) rfl (fun ls hl => ?_)
              refine lv_goto (tgt := 142) hx hb dX7_digest_189 (by decide) ?_
              have hst : f_X7_digest_st2 v i2_7 i4_8 = .inl (i2_13, (i4_8 + 1)) := by rw [f_X7_digest_st2, if_neg c_12, hE4, my_t2_eq]
              have hmu : ((v.2.2.1 : Int32).toInt - ((i4_8 + 1) : Int32).toInt).toNat < ((v.2.2.1 : Int32).toInt - (i4_8 : Int32).toInt).toNat := mu_up c_12
              exact ih2 i2_13 (i4_8 + 1) (Nat.lt_of_lt_of_le hmu (Nat.le_of_lt_succ hlt2)) (lp_inl hst hF2) _ (lv_sub hl [1, 2, 3, 0] rfl)
            have key : ∀ (nf : Nat) (i2_13 : Int64) (i5_14 : Int32), ((2 : Int32).toInt + 1 - (i5_14 : Int32).toInt).toNat < nf → lp (fun (x : Int64 × Int32) => f_X7_digest_st4 v i4_8 x.1 x.2) default nf (i2_13, i5_14) = lp (fun (x : Int64 × Int32) => f_X7_digest_st4 v i4_8 x.1 x.2) default (((2 : Int32).toInt + 1 - (0 : Int32).toInt).toNat + 1) (i2_7, 0) → ∀ ls : Array Slot, lv_has ls 6 [(0, .ref p70), (1, .ref (c7 0)), (2, .long i2_13), (4, .int i4_8), (5, .int i5_14)] → W p l e (headSpec wsX7_digest ({ frames := 6, cells := 0, slots := 0, locals := 132 } : Room)).room s m ([.ref p70] : List Value).toArray below meth c H locs 0 0 (MQ below (va_Ql (fun (r : Int64) (u : Int32 × PowV) => f_X7_digest st v w z tx = (r, u)) (fun u t => va_P D vwCl (List.flatten [(wPCo p70 b7 c7 d7 e7 h7 k7 u.1), (wSet cy b7 v), (wPow cy c7 u.2), (wSav cy q h7 z), (wTxt cy g k7 tx)]) t.heap) A) ([.ref p70] : List Value).toArray s 0 0 A) (F0 m 157 ls []) := by
              intro n4
              induction n4 with
              | zero => intro i2_13 i5_14 hlt; exact absurd hlt (Nat.not_lt_zero _)
              | succ n4 ih4 =>
                intro i2_13 i5_14 hlt4 hF4 ls hl
                refine lv_iload hx hb dX7_digest_157 (lv_at hl 4 rfl) ?_
                refine lv_iconst (v := 2) hx hb dX7_digest_159 (by decide) ?_
                refine lv_icmp_gt (tgt := 186) hx hb dX7_digest_160 (by decide) (fun c_15 => ?_) (fun c_15 => ?_)
                · have hst : f_X7_digest_st4 v i4_8 i2_13 i5_14 = .inr (i2_13, i5_14) := by rw [f_X7_digest_st4, if_pos c_15]
                  exact cont4 i2_13 i5_14 (lp_inr hst hF4) _ (lv_sub hl [0, 1, 2, 3, 4] rfl)
                · refine lv_lload_n hx hb dX7_digest_163 rfl (lv_at hl 2 rfl) ?_
                  refine lv_aload_n hx hb dX7_digest_164 rfl (lv_at hl 0 rfl) ?_
                  refine va_get (D := D) (ci := 5) (v := .ref (b7 0)) (C := RX7) (T := TX7) (N := 7) hx hb hts inX7 hown hK0.1 hP 0 rfl rfl 0 (by decide) (hts (.fieldLink RX7 10 "PivotChamber" "setting" "LPivotChamber$Setting;") (List.mem_of_getElem? (i := 3) rfl)) (fun _ h9 => h9) rfl dX7_digest_165 ?_
                  refine lv_iload hx hb dX7_digest_168 (lv_at hl 3 rfl) ?_
                  refine lv_iload hx hb dX7_digest_170 (lv_at hl 4 rfl) ?_
                  refine rd_goi (va_runV (C := RX6) (As := [.int i4_8, .int i5_14]) (rest := [.long i2_13]) S (c_X6_ruleValue l D cy g B b7 v i4_8 i5_14) (cwV 2 hts gX7_digest_X6_ruleValue rfl rfl rfl hd_X6_ruleValue_V ⟨Nat.le_of_ble_eq_true rfl, Nat.le_of_ble_eq_true rfl⟩) ⟨rdP_blind, va_recv hK0.1 hP (ci := 4) (q0 := 1) rfl rfl, my_preP hK0 hS hAB (my_cP hP 1 rfl)⟩ rfl rfl hl.1 rfl (lv_room (Nat.le_of_ble_eq_true rfl)) dX7_digest_172 ⟨Nat.zero_le _, Nat.zero_le _⟩) ?_
                  refine lv_i2l (v := (Int32.toInt64 (f_X6_ruleValue v i4_8 i5_14))) hx hb dX7_digest_175 rfl ?_
                  refine rd_gol (va_runS (As := [.long i2_13, .long (Int32.toInt64 (f_X6_ruleValue v i4_8 i5_14))]) (rest := []) S (c_X7_mixed l D cy g B i2_13 (Int32.toInt64 (f_X6_ruleValue v i4_8 i5_14))) (va_cwS 2 hts gX7_digest_X7_mixed rfl rfl rfl hd_X7_mixed_S ⟨Nat.le_of_ble_eq_true rfl, Nat.le_of_ble_eq_true rfl⟩) ⟨rdP_blind, my_preV hK0 hS hAB hP [] rfl⟩ rfl rfl hl.1 rfl (lv_room (Nat.le_of_ble_eq_true rfl)) dX7_digest_176 ⟨Nat.zero_le _, Nat.zero_le _⟩) ?_
                  refine lv_lstore_n (lv' := [(2, .long (f_X7_mixed i2_13 (Int32.toInt64 (f_X6_ruleValue v i4_8 i5_14)))), (0, .ref p70), (1, .ref (c7 0)), (4, .int i4_8), (5, .int i5_14)]) hx hb dX7_digest_179 rfl hl (by decide) rfl (fun ls hl => ?_)
                  refine lv_iinc (v := (i5_14 + 1)) (lv' := [(5, .int (i5_14 + 1)), (2, .long (f_X7_mixed i2_13 (Int32.toInt64 (f_X6_ruleValue v i4_8 i5_14)))), (0, .ref p70), (1, .ref (c7 0)), (4, .int i4_8)]) hx hb dX7_digest_180 hl (k := 4) rfl rfl (by decide) rfl (fun ls hl => ?_)
                  refine lv_goto (tgt := 157) hx hb dX7_digest_183 (by decide) ?_
                  have hst : f_X7_digest_st4 v i4_8 i2_13 i5_14 = .inl ((f_X7_mixed i2_13 (Int32.toInt64 (f_X6_ruleValue v i4_8 i5_14))), (i5_14 + 1)) := by rw [f_X7_digest_st4, if_neg c_15]
                  have hmu : ((2 : Int32).toInt + 1 - ((i5_14 + 1) : Int32).toInt).toNat < ((2 : Int32).toInt + 1 - (i5_14 : Int32).toInt).toNat := mu_le c_15 (by decide)
                  exact ih4 (f_X7_mixed i2_13 (Int32.toInt64 (f_X6_ruleValue v i4_8 i5_14))) (i5_14 + 1) (Nat.lt_of_lt_of_le hmu (Nat.le_of_lt_succ hlt4)) (lp_inl hst hF4) _ (lv_sub hl [2, 3, 1, 4, 0] rfl)
            exact key (((2 : Int32).toInt + 1 - (0 : Int32).toInt).toNat + 1) i2_7 0 (Nat.lt_succ_self _) rfl _ (lv_sub hl [1, 2, 3, 4, 0] rfl)
      exact key (((v.2.2.1 : Int32).toInt - (0 : Int32).toInt).toNat + 1) i2_5 0 (Nat.lt_succ_self _) rfl _ (lv_sub hl [1, 2, 3, 0] rfl)
    have key : ∀ (nf : Nat) (i2_5 : Int64) (i4_6 : Int32), ((v.1 : Int32).toInt - (i4_6 : Int32).toInt).toNat < nf → lp (fun (x : Int64 × Int32) => f_X7_digest_st1 v u_1 x.1 x.2) default nf (i2_5, i4_6) = lp (fun (x : Int64 × Int32) => f_X7_digest_st1 v u_1 x.1 x.2) default (((v.1 : Int32).toInt - (0 : Int32).toInt).toNat + 1) (i2_3, 0) → ∀ ls : Array Slot, lv_has ls 6 [(0, .ref p70), (1, .ref (c7 0)), (2, .long i2_5), (4, .int i4_6)] → W p l e (headSpec wsX7_digest ({ frames := 6, cells := 0, slots := 0, locals := 132 } : Room)).room s m ([.ref p70] : List Value).toArray below meth c H locs 0 0 (MQ below (va_Ql (fun (r : Int64) (u : Int32 × PowV) => f_X7_digest st v w z tx = (r, u)) (fun u t => va_P D vwCl (List.flatten [(wPCo p70 b7 c7 d7 e7 h7 k7 u.1), (wSet cy b7 v), (wPow cy c7 u.2), (wSav cy q h7 z), (wTxt cy g k7 tx)]) t.heap) A) ([.ref p70] : List Value).toArray s 0 0 A) (F0 m 52 ls []) := by
      intro n1
      induction n1 with
      | zero => intro i2_5 i4_6 hlt; exact absurd hlt (Nat.not_lt_zero _)
      | succ n1 ih1 =>
        intro i2_5 i4_6 hlt1 hF1 ls hl
        refine lv_iload hx hb dX7_digest_52 (lv_at hl 3 rfl) ?_
        refine lv_aload_n hx hb dX7_digest_54 rfl (lv_at hl 0 rfl) ?_
        refine va_get (D := D) (ci := 5) (v := .ref (b7 0)) (C := RX7) (T := TX7) (N := 7) hx hb hts inX7 hown hK0.1 hP 0 rfl rfl 0 (by decide) (hts (.fieldLink RX7 10 "PivotChamber" "setting" "LPivotChamber$Setting;") (List.mem_of_getElem? (i := 3) rfl)) (fun _ h9 => h9) rfl dX7_digest_55 ?_
        refine va_getN (D := D) (ci := 4) (v := .int v.1) (C := RX6) (T := TX6) (N := 7) (host := "PivotChamber") hx hb hts inX6 hown hK0.1 hP 1 rfl rfl 0 (by decide) (va_Nw.use rfl (hK0.2.1.1.f 7 rfl)) (fun _ h9 => h9) rfl dX7_digest_58 ?_
        refine lv_icmp_ge (tgt := 139) hx hb dX7_digest_61 (by decide) (fun c_16 => ?_) (fun c_16 => ?_)
        · have hst : f_X7_digest_st1 v u_1 i2_5 i4_6 = .inr (i2_5, i4_6) := by rw [f_X7_digest_st1, if_pos c_16]
          exact cont1 i2_5 i4_6 (lp_inr hst hF1) _ (lv_sub hl [0, 1, 2, 3] rfl)
        · refine lv_iconst (v := 0) hx hb dX7_digest_64 (by decide) ?_
          refine lv_istore (lv' := [(5, .int 0), (0, .ref p70), (1, .ref (c7 0)), (2, .long i2_5), (4, .int i4_6)]) hx hb dX7_digest_65 hl (by decide) rfl (fun ls hl => ?_)
          have cont5 : ∀ (i2_17 : Int64) (i5_18 : Int32), lp (fun (x : Int64 × Int32) => f_X7_digest_st5 v u_1 i4_6 x.1 x.2) default (((7 : Int32).toInt + 1 - (0 : Int32).toInt).toNat + 1) (i2_5, 0) = (i2_17, i5_18) → ∀ ls : Array Slot, lv_has ls 6 [(0, .ref p70), (1, .ref (c7 0)), (2, .long i2_17), (4, .int i4_6), (5, .int i5_18)] → W p l e (headSpec wsX7_digest ({ frames := 6, cells := 0, slots := 0, locals := 132 } : Room)).room s m ([.ref p70] : List Value).toArray below meth c H locs 0 0 (MQ below (va_Ql (fun (r : Int64) (u : Int32 × PowV) => f_X7_digest st v w z tx = (r, u)) (fun u t => va_P D vwCl (List.flatten [(wPCo p70 b7 c7 d7 e7 h7 k7 u.1), (wSet cy b7 v), (wPow cy c7 u.2), (wSav cy q h7 z), (wTxt cy g k7 tx)]) t.heap) A) ([.ref p70] : List Value).toArray s 0 0 A) (F0 m 95 ls []) := by
            intro i2_17 i5_18 hE5 ls hl
            refine lv_lload_n hx hb dX7_digest_95 rfl (lv_at hl 2 rfl) ?_
            refine lv_aload_n hx hb dX7_digest_96 rfl (lv_at hl 1 rfl) ?_
            refine lv_iload hx hb dX7_digest_97 (lv_at hl 3 rfl) ?_
            refine rd_gof (va_runV (C := RX3) (As := [.int i4_6]) (rest := [.long i2_17]) S (c_X3_shareOf l D cy g B c7 u_1.2 i4_6) (cwV 1 hts gX7_digest_X3_shareOf rfl rfl rfl hd_X3_shareOf_V ⟨Nat.le_of_ble_eq_true rfl, Nat.le_of_ble_eq_true rfl⟩) ⟨rdP_blind, va_recv hK0.1 hP (ci := 1) (q0 := 10) rfl rfl, my_preP hK0 hS hAB (my_cP hP 2 rfl)⟩ rfl rfl hl.1 rfl (lv_room (Nat.le_of_ble_eq_true rfl)) dX7_digest_99 ⟨Nat.zero_le _, Nat.zero_le _⟩) ?_
            refine lv_f2d hx hb dX7_digest_102 (my_n64 (my_f2d_nn (nn_X3_shareOf u_1.2 i4_6))) ?_
            refine lv_bipush (v := 127) hx hb dX7_digest_103 (by decide) ?_
            refine lv_bipush (v := 23) hx hb dX7_digest_105 (by decide) ?_
            refine rd_gol (va_runS (As := [.double (FP.f2d (f_X3_shareOf u_1.2 i4_6)), .int 127, .int 23]) (rest := [.long i2_17]) S (c_X7_bitsOf l D cy g B (FP.f2d (f_X3_shareOf u_1.2 i4_6)) 127 23 (my_f2d_nn (nn_X3_shareOf u_1.2 i4_6)) (by decide)) (va_cwS 3 hts gX7_digest_X7_bitsOf rfl rfl rfl hd_X7_bitsOf_S ⟨Nat.le_of_ble_eq_true rfl, Nat.le_of_ble_eq_true rfl⟩) ⟨rdP_blind, my_preV hK0 hS hAB hP [] rfl⟩ rfl rfl hl.1 rfl (lv_room (Nat.le_of_ble_eq_true rfl)) dX7_digest_107 ⟨Nat.zero_le _, Nat.zero_le _⟩) ?_
            refine rd_gol (va_runS (As := [.long i2_17, .long (f_X7_bitsOf (FP.f2d (f_X3_shareOf u_1.2 i4_6)) 127 23)]) (rest := []) S (c_X7_mixed l D cy g B i2_17 (f_X7_bitsOf (FP.f2d (f_X3_shareOf u_1.2 i4_6)) 127 23)) (va_cwS 2 hts gX7_digest_X7_mixed rfl rfl rfl hd_X7_mixed_S ⟨Nat.le_of_ble_eq_true rfl, Nat.le_of_ble_eq_true rfl⟩) ⟨rdP_blind, my_preV hK0 hS hAB hP [] rfl⟩ rfl rfl hl.1 rfl (lv_room (Nat.le_of_ble_eq_true rfl)) dX7_digest_110 ⟨Nat.zero_le _, Nat.zero_le _⟩) ?_
            refine lv_lstore_n (lv' := [(2, .long (f_X7_mixed i2_17 (f_X7_bitsOf (FP.f2d (f_X3_shareOf u_1.2 i4_6)) 127 23))), (0, .ref p70), (1, .ref (c7 0)), (4, .int i4_6), (5, .int i5_18)]) hx hb dX7_digest_113 rfl hl (by decide) rfl (fun ls hl => ?_)
            refine lv_lload_n hx hb dX7_digest_114 rfl (lv_at hl 0 rfl) ?_
            refine lv_aload_n hx hb dX7_digest_115 rfl (lv_at hl 2 rfl) ?_
            refine lv_iload hx hb dX7_digest_116 (lv_at hl 3 rfl) ?_
            refine rd_god (va_runV (C := RX3) (As := [.int i4_6]) (rest := [.long (f_X7_mixed i2_17 (f_X7_bitsOf (FP.f2d (f_X3_shareOf u_1.2 i4_6)) 127 23))]) S (c_X3_partOf l D cy g B c7 u_1.2 i4_6) (cwV 1 hts gX7_digest_X3_partOf rfl rfl rfl hd_X3_partOf_V ⟨Nat.le_of_ble_eq_true rfl, Nat.le_of_ble_eq_true rfl⟩) ⟨rdP_blind, va_recv hK0.1 hP (ci := 1) (q0 := 10) rfl rfl, my_preP hK0 hS hAB (my_cP hP 2 rfl)⟩ rfl rfl hl.1 rfl (lv_room (Nat.le_of_ble_eq_true rfl)) dX7_digest_118 ⟨Nat.zero_le _, Nat.zero_le _⟩) ?_
            refine lv_sipush (v := 1023) hx hb dX7_digest_121 (by decide) ?_
            refine lv_bipush (v := 52) hx hb dX7_digest_124 (by decide) ?_
            refine rd_gol (va_runS (As := [.double (f_X3_partOf u_1.2 i4_6), .int 1023, .int 52]) (rest := [.long (f_X7_mixed i2_17 (f_X7_bitsOf (FP.f2d (f_X3_shareOf u_1.2 i4_6)) 127 23))]) S (c_X7_bitsOf l D cy g B (f_X3_partOf u_1.2 i4_6) 1023 52 (((fin_X3_partOf u_1.2 i4_6)).notNaN) (by decide)) (va_cwS 3 hts gX7_digest_X7_bitsOf rfl rfl rfl hd_X7_bitsOf_S ⟨Nat.le_of_ble_eq_true rfl, Nat.le_of_ble_eq_true rfl⟩) ⟨rdP_blind, my_preV hK0 hS hAB hP [] rfl⟩ rfl rfl hl.1 rfl (lv_room (Nat.le_of_ble_eq_true rfl)) dX7_digest_126 ⟨Nat.zero_le _, Nat.zero_le _⟩) ?_
            refine rd_gol (va_runS (As := [.long (f_X7_mixed i2_17 (f_X7_bitsOf (FP.f2d (f_X3_shareOf u_1.2 i4_6)) 127 23)), .long (f_X7_bitsOf (f_X3_partOf u_1.2 i4_6) 1023 52)]) (rest := []) S (c_X7_mixed l D cy g B (f_X7_mixed i2_17 (f_X7_bitsOf (FP.f2d (f_X3_shareOf u_1.2 i4_6)) 127 23)) (f_X7_bitsOf (f_X3_partOf u_1.2 i4_6) 1023 52)) (va_cwS 2 hts gX7_digest_X7_mixed rfl rfl rfl hd_X7_mixed_S ⟨Nat.le_of_ble_eq_true rfl, Nat.le_of_ble_eq_true rfl⟩) ⟨rdP_blind, my_preV hK0 hS hAB hP [] rfl⟩ rfl rfl hl.1 rfl (lv_room (Nat.le_of_ble_eq_true rfl)) dX7_digest_129 ⟨Nat.zero_le _, Nat.zero_le _⟩) ?_
            refine lv_lstore_n (lv' := [(2, .long (f_X7_mixed (f_X7_mixed i2_17 (f_X7_bitsOf (FP.f2d (f_X3_shareOf u_1.2 i4_6)) 127 23)) (f_X7_bitsOf (f_X3_partOf u_1.2 i4_6) 1023 52))), (0, .ref p70), (1, .ref (c7 0)), (4, .int i4_6), (5, .int i5_18)]) hx hb dX7_digest_132 rfl hl (by decide) rfl (fun ls hl => ?_)
            refine lv_iinc (v := (i4_6 + 1)) (lv' := [(4, .int (i4_6 + 1)), (2, .long (f_X7_mixed (f_X7_mixed i2_17 (f_X7_bitsOf (FP.f2d (f_X3_shareOf u_1.2 i4_6)) 127 23)) (f_X7_bitsOf (f_X3_partOf u_1.2 i4_6) 1023 52))), (0, .ref p70), (1, .ref (c7 0)), (5, .int i5_18)]) hx hb dX7_digest_133 hl (k := 3) rfl rfl (by decide) rfl (fun ls hl => ?_)
            refine lv_goto (tgt := 52) hx hb dX7_digest_136 (by decide) ?_
            have hst : f_X7_digest_st1 v u_1 i2_5 i4_6 = .inl ((f_X7_mixed (f_X7_mixed i2_17 (f_X7_bitsOf (FP.f2d (f_X3_shareOf u_1.2 i4_6)) 127 23)) (f_X7_bitsOf (f_X3_partOf u_1.2 i4_6) 1023 52)), (i4_6 + 1)) := by rw [f_X7_digest_st1, if_neg c_16, hE5, my_t2_eq]
            have hmu : ((v.1 : Int32).toInt - ((i4_6 + 1) : Int32).toInt).toNat < ((v.1 : Int32).toInt - (i4_6 : Int32).toInt).toNat := mu_up c_16
            exact ih1 (f_X7_mixed (f_X7_mixed i2_17 (f_X7_bitsOf (FP.f2d (f_X3_shareOf u_1.2 i4_6)) 127 23)) (f_X7_bitsOf (f_X3_partOf u_1.2 i4_6) 1023 52)) (i4_6 + 1) (Nat.lt_of_lt_of_le hmu (Nat.le_of_lt_succ hlt1)) (lp_inl hst hF1) _ (lv_sub hl [2, 3, 1, 0] rfl)
          have key : ∀ (nf : Nat) (i2_17 : Int64) (i5_18 : Int32), ((7 : Int32).toInt + 1 - (i5_18 : Int32).toInt).toNat < nf → lp (fun (x : Int64 × Int32) => f_X7_digest_st5 v u_1 i4_6 x.1 x.2) default nf (i2_17, i5_18) = lp (fun (x : Int64 × Int32) => f_X7_digest_st5 v u_1 i4_6 x.1 x.2) default (((7 : Int32).toInt + 1 - (0 : Int32).toInt).toNat + 1) (i2_5, 0) → ∀ ls : Array Slot, lv_has ls 6 [(0, .ref p70), (1, .ref (c7 0)), (2, .long i2_17), (4, .int i4_6), (5, .int i5_18)] → W p l e (headSpec wsX7_digest ({ frames := 6, cells := 0, slots := 0, locals := 132 } : Room)).room s m ([.ref p70] : List Value).toArray below meth c H locs 0 0 (MQ below (va_Ql (fun (r : Int64) (u : Int32 × PowV) => f_X7_digest st v w z tx = (r, u)) (fun u t => va_P D vwCl (List.flatten [(wPCo p70 b7 c7 d7 e7 h7 k7 u.1), (wSet cy b7 v), (wPow cy c7 u.2), (wSav cy q h7 z), (wTxt cy g k7 tx)]) t.heap) A) ([.ref p70] : List Value).toArray s 0 0 A) (F0 m 67 ls []) := by
            intro n5
            induction n5 with
            | zero => intro i2_17 i5_18 hlt; exact absurd hlt (Nat.not_lt_zero _)
            | succ n5 ih5 =>
              intro i2_17 i5_18 hlt5 hF5 ls hl
              refine lv_iload hx hb dX7_digest_67 (lv_at hl 4 rfl) ?_
              refine lv_bipush (v := 7) hx hb dX7_digest_69 (by decide) ?_
              refine lv_icmp_gt (tgt := 95) hx hb dX7_digest_71 (by decide) (fun c_19 => ?_) (fun c_19 => ?_)
              · have hst : f_X7_digest_st5 v u_1 i4_6 i2_17 i5_18 = .inr (i2_17, i5_18) := by rw [f_X7_digest_st5, if_pos c_19]
                exact cont5 i2_17 i5_18 (lp_inr hst hF5) _ (lv_sub hl [0, 1, 2, 3, 4] rfl)
              · refine lv_lload_n hx hb dX7_digest_74 rfl (lv_at hl 2 rfl) ?_
                refine lv_aload_n hx hb dX7_digest_75 rfl (lv_at hl 0 rfl) ?_
                refine lv_aload_n hx hb dX7_digest_76 rfl (lv_at hl 1 rfl) ?_
                refine lv_iload hx hb dX7_digest_77 (lv_at hl 3 rfl) ?_
                refine lv_iload hx hb dX7_digest_79 (lv_at hl 4 rfl) ?_
                refine rd_goi (va_runV (C := RX7) (As := [.ref (c7 0), .int i4_6, .int i5_18]) (rest := [.long i2_17]) S (c_X7_memberValue l D cy g B p70 b7 c7 d7 e7 h7 k7 u_1.1 v u_1.2 i4_6 i5_18) (cwV 3 hts gX7_digest_X7_memberValue rfl rfl rfl hd_X7_memberValue_V ⟨Nat.le_of_ble_eq_true rfl, Nat.le_of_ble_eq_true rfl⟩) ⟨rdP_blind, va_recv hK0.1 hP (ci := 5) (q0 := 0) rfl rfl, my_preP hK0 hS hAB (my_csP (ws := [(wPCo p70 b7 c7 d7 e7 h7 k7 u_1.1), (wSet cy b7 v), (wPow cy c7 u_1.2)]) hP [0, 1, 2] rfl)⟩ rfl rfl hl.1 rfl (lv_room (Nat.le_of_ble_eq_true rfl)) dX7_digest_81 ⟨Nat.zero_le _, Nat.zero_le _⟩) ?_
                refine lv_i2l (v := (Int32.toInt64 (f_X7_memberValue u_1.1 v u_1.2 i4_6 i5_18))) hx hb dX7_digest_84 rfl ?_
                refine rd_gol (va_runS (As := [.long i2_17, .long (Int32.toInt64 (f_X7_memberValue u_1.1 v u_1.2 i4_6 i5_18))]) (rest := []) S (c_X7_mixed l D cy g B i2_17 (Int32.toInt64 (f_X7_memberValue u_1.1 v u_1.2 i4_6 i5_18))) (va_cwS 2 hts gX7_digest_X7_mixed rfl rfl rfl hd_X7_mixed_S ⟨Nat.le_of_ble_eq_true rfl, Nat.le_of_ble_eq_true rfl⟩) ⟨rdP_blind, my_preV hK0 hS hAB hP [] rfl⟩ rfl rfl hl.1 rfl (lv_room (Nat.le_of_ble_eq_true rfl)) dX7_digest_85 ⟨Nat.zero_le _, Nat.zero_le _⟩) ?_
                refine lv_lstore_n (lv' := [(2, .long (f_X7_mixed i2_17 (Int32.toInt64 (f_X7_memberValue u_1.1 v u_1.2 i4_6 i5_18)))), (0, .ref p70), (1, .ref (c7 0)), (4, .int i4_6), (5, .int i5_18)]) hx hb dX7_digest_88 rfl hl (by decide) rfl (fun ls hl => ?_)
                refine lv_iinc (v := (i5_18 + 1)) (lv' := [(5, .int (i5_18 + 1)), (2, .long (f_X7_mixed i2_17 (Int32.toInt64 (f_X7_memberValue u_1.1 v u_1.2 i4_6 i5_18)))), (0, .ref p70), (1, .ref (c7 0)), (4, .int i4_6)]) hx hb dX7_digest_89 hl (k := 4) rfl rfl (by decide) rfl (fun ls hl => ?_)
                refine lv_goto (tgt := 67) hx hb dX7_digest_92 (by decide) ?_
                have hst : f_X7_digest_st5 v u_1 i4_6 i2_17 i5_18 = .inl ((f_X7_mixed i2_17 (Int32.toInt64 (f_X7_memberValue u_1.1 v u_1.2 i4_6 i5_18))), (i5_18 + 1)) := by rw [f_X7_digest_st5, if_neg c_19]
                have hmu : ((7 : Int32).toInt + 1 - ((i5_18 + 1) : Int32).toInt).toNat < ((7 : Int32).toInt + 1 - (i5_18 : Int32).toInt).toNat := mu_le c_19 (by decide)
                exact ih5 (f_X7_mixed i2_17 (Int32.toInt64 (f_X7_memberValue u_1.1 v u_1.2 i4_6 i5_18))) (i5_18 + 1) (Nat.lt_of_lt_of_le hmu (Nat.le_of_lt_succ hlt5)) (lp_inl hst hF5) _ (lv_sub hl [2, 3, 1, 4, 0] rfl)
          exact key (((7 : Int32).toInt + 1 - (0 : Int32).toInt).toNat + 1) i2_5 0 (Nat.lt_succ_self _) rfl _ (lv_sub hl [1, 2, 3, 4, 0] rfl)
    exact key (((v.1 : Int32).toInt - (0 : Int32).toInt).toNat + 1) i2_3 0 (Nat.lt_succ_self _) rfl _ (lv_sub hl [1, 2, 3, 0] rfl)
  have key : ∀ (nf : Nat) (i2_3 : Int64) (i4_4 : Int32), ((11 : Int32).toInt + 1 - (i4_4 : Int32).toInt).toNat < nf → lp (fun (x : Int64 × Int32) => f_X7_digest_st v tx u_1 x.1 x.2) default nf (i2_3, i4_4) = lp (fun (x : Int64 × Int32) => f_X7_digest_st v tx u_1 x.1 x.2) default (((11 : Int32).toInt + 1 - (0 : Int32).toInt).toNat + 1) ((f_X7_mixed 43588 (Int32.toInt64 z.1)), 0) → ∀ ls : Array Slot, lv_has ls 6 [(0, .ref p70), (1, .ref (c7 0)), (2, .long i2_3), (4, .int i4_4)] → W p l e (headSpec wsX7_digest ({ frames := 6, cells := 0, slots := 0, locals := 132 } : Room)).room s m ([.ref p70] : List Value).toArray below meth c H locs 0 0 (MQ below (va_Ql (fun (r : Int64) (u : Int32 × PowV) => f_X7_digest st v w z tx = (r, u)) (fun u t => va_P D vwCl (List.flatten [(wPCo p70 b7 c7 d7 e7 h7 k7 u.1), (wSet cy b7 v), (wPow cy c7 u.2), (wSav cy q h7 z), (wTxt cy g k7 tx)]) t.heap) A) ([.ref p70] : List Value).toArray s 0 0 A) (F0 m 23 ls []) := by
    intro n0
    induction n0 with
    | zero => intro i2_3 i4_4 hlt; exact absurd hlt (Nat.not_lt_zero _)
    | succ n0 ih0 =>
      intro i2_3 i4_4 hlt0 hF0 ls hl
      refine lv_iload hx hb dX7_digest_23 (lv_at hl 3 rfl) ?_
      refine lv_bipush (v := 11) hx hb dX7_digest_25 (by decide) ?_
      refine lv_icmp_gt (tgt := 49) hx hb dX7_digest_27 (by decide) (fun c_20 => ?_) (fun c_20 => ?_)
      · have hst : f_X7_digest_st v tx u_1 i2_3 i4_4 = .inr (i2_3, i4_4) := by rw [f_X7_digest_st, if_pos c_20]
        exact cont0 i2_3 i4_4 (lp_inr hst hF0) _ (lv_sub hl [0, 1, 2, 3] rfl)
      · refine lv_lload_n hx hb dX7_digest_30 rfl (lv_at hl 2 rfl) ?_
        refine lv_aload_n hx hb dX7_digest_31 rfl (lv_at hl 0 rfl) ?_
        refine lv_aload_n hx hb dX7_digest_32 rfl (lv_at hl 1 rfl) ?_
        refine lv_iload hx hb dX7_digest_33 (lv_at hl 3 rfl) ?_
        refine rd_goi (va_runV (C := RX7) (As := [.ref (c7 0), .int i4_4]) (rest := [.long i2_3]) S (c_X7_wholeValue l D cy g B p70 b7 c7 d7 e7 h7 k7 u_1.1 v u_1.2 tx i4_4) (cwV 2 hts gX7_digest_X7_wholeValue rfl rfl rfl hd_X7_wholeValue_V ⟨Nat.le_of_ble_eq_true rfl, Nat.le_of_ble_eq_true rfl⟩) ⟨rdP_blind, va_recv hK0.1 hP (ci := 5) (q0 := 0) rfl rfl, my_preP hK0 hS hAB (my_csP (ws := [(wPCo p70 b7 c7 d7 e7 h7 k7 u_1.1), (wSet cy b7 v), (wPow cy c7 u_1.2), (wTxt cy g k7 tx)]) hP [0, 1, 2, 4] rfl)⟩ rfl rfl hl.1 rfl (lv_room (Nat.le_of_ble_eq_true rfl)) dX7_digest_35 ⟨Nat.zero_le _, Nat.zero_le _⟩) ?_
        refine lv_i2l (v := (Int32.toInt64 (f_X7_wholeValue u_1.1 v u_1.2 tx i4_4))) hx hb dX7_digest_38 rfl ?_
        refine rd_gol (va_runS (As := [.long i2_3, .long (Int32.toInt64 (f_X7_wholeValue u_1.1 v u_1.2 tx i4_4))]) (rest := []) S (c_X7_mixed l D cy g B i2_3 (Int32.toInt64 (f_X7_wholeValue u_1.1 v u_1.2 tx i4_4))) (va_cwS 2 hts gX7_digest_X7_mixed rfl rfl rfl hd_X7_mixed_S ⟨Nat.le_of_ble_eq_true rfl, Nat.le_of_ble_eq_true rfl⟩) ⟨rdP_blind, my_preV hK0 hS hAB hP [] rfl⟩ rfl rfl hl.1 rfl (lv_room (Nat.le_of_ble_eq_true rfl)) dX7_digest_39 ⟨Nat.zero_le _, Nat.zero_le _⟩) ?_
        refine lv_lstore_n (lv' := [(2, .long (f_X7_mixed i2_3 (Int32.toInt64 (f_X7_wholeValue u_1.1 v u_1.2 tx i4_4)))), (0, .ref p70), (1, .ref (c7 0)), (4, .int i4_4)]) hx hb dX7_digest_42 rfl hl (by decide) rfl (fun ls hl => ?_)
        refine lv_iinc (v := (i4_4 + 1)) (lv' := [(4, .int (i4_4 + 1)), (2, .long (f_X7_mixed i2_3 (Int32.toInt64 (f_X7_wholeValue u_1.1 v u_1.2 tx i4_4)))), (0, .ref p70), (1, .ref (c7 0))]) hx hb dX7_digest_43 hl (k := 3) rfl rfl (by decide) rfl (fun ls hl => ?_)
        refine lv_goto (tgt := 23) hx hb dX7_digest_46 (by decide) ?_
        have hst : f_X7_digest_st v tx u_1 i2_3 i4_4 = .inl ((f_X7_mixed i2_3 (Int32.toInt64 (f_X7_wholeValue u_1.1 v u_1.2 tx i4_4))), (i4_4 + 1)) := by rw [f_X7_digest_st, if_neg c_20]
        have hmu : ((11 : Int32).toInt + 1 - ((i4_4 + 1) : Int32).toInt).toNat < ((11 : Int32).toInt + 1 - (i4_4 : Int32).toInt).toNat := mu_le c_20 (by decide)
        exact ih0 (f_X7_mixed i2_3 (Int32.toInt64 (f_X7_wholeValue u_1.1 v u_1.2 tx i4_4))) (i4_4 + 1) (Nat.lt_of_lt_of_le hmu (Nat.le_of_lt_succ hlt0)) (lp_inl hst hF0) _ (lv_sub hl [2, 3, 1, 0] rfl)
  exact key (((11 : Int32).toInt + 1 - (0 : Int32).toInt).toNat + 1) (f_X7_mixed 43588 (Int32.toInt64 z.1)) 0 (Nat.lt_succ_self _) rfl _ (lv_sub hl [3, 2, 1, 0] rfl)
