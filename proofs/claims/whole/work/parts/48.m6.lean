theorem hd_X8_shareOf_S : yX8_shareOf.cls ≠ "java/lang/invoke/MethodHandle" ∧ yX8_shareOf.cls ≠ "java/lang/invoke/VarHandle" ∧ (parseMethodDescriptor yX8_shareOf.desc).map (fun d => d.parameters.length) = some 1 := by decide +kernel
theorem hd_X8_shareOf_V : yX8_shareOf.cls = RX8 ∧ yX8_shareOf.cls ≠ "java/lang/invoke/MethodHandle" ∧ yX8_shareOf.cls ≠ "java/lang/invoke/VarHandle" ∧ (parseMethodDescriptor yX8_shareOf.desc).map (fun d => d.parameters.length) = some 1 := ⟨rfl, hd_X8_shareOf_S⟩
def f_X8_shareOf (y10 : (Nat → Int32)) (x0 : Int32) : UInt32 := (if (f_X8_allSwings y10) = 0 then FP.fconst0 else (FP.fdiv (FP.i2f (f_X8_swings y10 x0)) (FP.i2f (f_X8_allSwings y10))))
set_option maxHeartbeats 400000 in
set_option maxRecDepth 100000 in
theorem c_X8_shareOf (l : Launch) (D : va_G) (cy : Nat → ClassId) (g : Nat → Nat) (B : Nat) (a : Nat → Nat) (y0 : Int32) (y1 : Int32) (y2 : Int32) (y3 : Int32) (y4 : Int32) (y5 : Int32) (y6 : Int32) (y7 : (Nat → Int32)) (y8 : (Nat → Int32)) (y9 : (Nat → Int32)) (y10 : (Nat → Int32)) (y11 : (Nat → Int32)) (y12 : (Nat → Int32)) (y13 : (Nat → Int32)) (x0 : Int32) : Met l yX8_shareOf wsX8_shareOf ({ frames := 3, cells := 0, slots := 0, locals := 66 }) (rdP D cy g B (wModE cy a y0 y1 y2 y3 y4 y5 y6 y7 y8 y9 y10 y11 y12 y13) [.ref (a 0), .int x0]) (vp_Sf (fun r => r = f_X8_shareOf y10 x0)) 0 0 (fun _ => False) := by
  refine Met.ofW (cc := cX8_shareOf) (maxL := 3) (ret := (some .float)) (by decide) rfl ?_
  intro p e s m args below meth c s₁ BB hml hv
  obtain ⟨rfl, hP, hK0⟩ := hv
  have hx := BB.exec
  have hb := BB.bytes
  have hr := BB.returns
  have hts := atoms_spec (ws := wsX8_shareOf) BB.pre
  have hown : s.vm.findClass RX8 = some m.cls := findClass_of_methodNamed BB.named
  have hlocks := BB.notSynchronized
  have S := my_fix hx hb hml hown hts
  have hS : va_S (fun q => B ≤ q) s.heap s.heap [] := va_S.rf
  have hAB : ∀ q : Nat, (fun q => B ≤ q) q → B ≤ q := fun _ h => h
  have hl := lv_entry ([.ref (a 0), .int x0]) (n := 3) (Nat.le_of_ble_eq_true rfl)
  rw [lg_entry_eq]
  generalize (lg_sl ([.ref (a 0), .int x0]) ++ List.replicate (3 - (lg_sl ([.ref (a 0), .int x0])).length) Slot.unset).toArray = ls at hl ⊢
  have hl : lv_has ls 3 [(0, .ref (a 0)), (1, .int x0)] := hl
  refine lv_aload_n hx hb dX8_shareOf_0 rfl (lv_at hl 0 rfl) ?_
  refine rd_goi (va_runV (C := RX8) (As := []) (rest := []) S (c_X8_allSwings l D cy g B a y0 y1 y2 y3 y4 y5 y6 y7 y8 y9 y10 y11 y12 y13) (cwV 0 hts gX8_shareOf_X8_allSwings rfl rfl rfl hd_X8_allSwings_V ⟨Nat.le_of_ble_eq_true rfl, Nat.le_of_ble_eq_true rfl⟩) ⟨rdP_blind, va_recv hK0.1 hP (ci := 6) (q0 := 0) rfl rfl, my_preP hK0 hS hAB hP⟩ rfl rfl hl.1 rfl (lv_room (Nat.le_of_ble_eq_true rfl)) dX8_shareOf_1 ⟨Nat.zero_le _, Nat.zero_le _⟩) ?_
  refine lv_istore_n (lv' := [(2, .int (f_X8_allSwings y10)), (0, .ref (a 0)), (1, .int x0)]) hx hb dX8_shareOf_4 rfl hl (by decide) rfl (fun ls hl => ?_)
  refine lv_iload_n hx hb dX8_shareOf_5 rfl (lv_at hl 0 rfl) ?_
  refine lv_if_ne (tgt := 13) hx hb dX8_shareOf_6 (by decide) (fun c_1 => ?_) (fun c_1 => ?_)
  · refine lv_aload_n hx hb dX8_shareOf_13 rfl (lv_at hl 1 rfl) ?_
    refine lv_iload_n hx hb dX8_shareOf_14 rfl (lv_at hl 2 rfl) ?_
    refine rd_goi (va_runV (C := RX8) (As := [.int x0]) (rest := []) S (c_X8_swings l D cy g B a y0 y1 y2 y3 y4 y5 y6 y7 y8 y9 y10 y11 y12 y13 x0) (cwV 1 hts gX8_shareOf_X8_swings rfl rfl rfl hd_X8_swings_V ⟨Nat.le_of_ble_eq_true rfl, Nat.le_of_ble_eq_true rfl⟩) ⟨rdP_blind, va_recv hK0.1 hP (ci := 6) (q0 := 0) rfl rfl, my_preP hK0 hS hAB hP⟩ rfl rfl hl.1 rfl (lv_room (Nat.le_of_ble_eq_true rfl)) dX8_shareOf_15 ⟨Nat.zero_le _, Nat.zero_le _⟩) ?_
    refine lv_i2f hx hb dX8_shareOf_18 ?_
    refine lv_iload_n hx hb dX8_shareOf_19 rfl (lv_at hl 0 rfl) ?_
    refine lv_i2f hx hb dX8_shareOf_20 ?_
    refine lv_fdiv hx hb dX8_shareOf_21 (my_n32 (my_fdiv (c_1))) ?_
    exact W.fret hx hb hr (fun t ht hW => ⟨(FP.fdiv (FP.i2f (f_X8_swings y10 x0)) (FP.i2f (f_X8_allSwings y10))), rfl, (show f_X8_shareOf y10 x0 = (FP.fdiv (FP.i2f (f_X8_swings y10 x0)) (FP.i2f (f_X8_allSwings y10))) from by rw [f_X8_shareOf, if_neg c_1]).symm, ht⟩) (fun q hq => absurd hq List.not_mem_nil) dX8_shareOf_22
  · refine lv_fconst0 hx hb dX8_shareOf_9 ?_
    refine lv_goto (tgt := 22) hx hb dX8_shareOf_10 (by decide) ?_
    exact W.fret hx hb hr (fun t ht hW => ⟨FP.fconst0, rfl, (show f_X8_shareOf y10 x0 = FP.fconst0 from by rw [f_X8_shareOf, if_pos c_1]).symm, ht⟩) (fun q hq => absurd hq List.not_mem_nil) dX8_shareOf_22
theorem hd_X8_partOf_S : yX8_partOf.cls ≠ "java/lang/invoke/MethodHandle" ∧ yX8_partOf.cls ≠ "java/lang/invoke/VarHandle" ∧ (parseMethodDescriptor yX8_partOf.desc).map (fun d => d.parameters.length) = some 1 := by decide +kernel
theorem hd_X8_partOf_V : yX8_partOf.cls = RX8 ∧ yX8_partOf.cls ≠ "java/lang/invoke/MethodHandle" ∧ yX8_partOf.cls ≠ "java/lang/invoke/VarHandle" ∧ (parseMethodDescriptor yX8_partOf.desc).map (fun d => d.parameters.length) = some 1 := ⟨rfl, hd_X8_partOf_S⟩
def f_X8_partOf (y4 : Int32) (y7 : (Nat → Int32)) (y10 : (Nat → Int32)) (x0 : Int32) : UInt64 := (if (f_X8_isPlayer y7 x0) = 0 then FP.dconst0 else (FP.ddiv (FP.i2d (f_X8_orders y4 y10 x0)) (FP.i2d (f_X8_factorial (f_X8_ones y4)))))
set_option maxHeartbeats 400000 in
set_option maxRecDepth 100000 in
theorem c_X8_partOf (l : Launch) (D : va_G) (cy : Nat → ClassId) (g : Nat → Nat) (B : Nat) (a : Nat → Nat) (y0 : Int32) (y1 : Int32) (y2 : Int32) (y3 : Int32) (y4 : Int32) (y5 : Int32) (y6 : Int32) (y7 : (Nat → Int32)) (y8 : (Nat → Int32)) (y9 : (Nat → Int32)) (y10 : (Nat → Int32)) (y11 : (Nat → Int32)) (y12 : (Nat → Int32)) (y13 : (Nat → Int32)) (x0 : Int32) (hm8 : ¬ 8 < (y7 0)) : Met l yX8_partOf wsX8_partOf ({ frames := 2, cells := 0, slots := 0, locals := 47 }) (rdP D cy g B (wModE cy a y0 y1 y2 y3 y4 y5 y6 y7 y8 y9 y10 y11 y12 y13) [.ref (a 0), .int x0]) (vp_Sd (fun r => r = f_X8_partOf y4 y7 y10 x0)) 0 0 (fun _ => False) := by
  refine Met.ofW (cc := cX8_partOf) (maxL := 2) (ret := (some .double)) (by decide) rfl ?_
  intro p e s m args below meth c s₁ BB hml hv
  obtain ⟨rfl, hP, hK0⟩ := hv
  have hx := BB.exec
  have hb := BB.bytes
  have hr := BB.returns
  have hts := atoms_spec (ws := wsX8_partOf) BB.pre
  have hown : s.vm.findClass RX8 = some m.cls := findClass_of_methodNamed BB.named
  have hlocks := BB.notSynchronized
  have S := my_fix hx hb hml hown hts
  have inX8 : ∀ w ∈ wsX80, w ∈ wsX8_partOf := fun w h => List.mem_cons_of_mem _ (List.mem_append_right _ h)
  have hS : va_S (fun q => B ≤ q) s.heap s.heap [] := va_S.rf
  have hAB : ∀ q : Nat, (fun q => B ≤ q) q → B ≤ q := fun _ h => h
  have hl := lv_entry ([.ref (a 0), .int x0]) (n := 2) (Nat.le_of_ble_eq_true rfl)
  rw [lg_entry_eq]
  generalize (lg_sl ([.ref (a 0), .int x0]) ++ List.replicate (2 - (lg_sl ([.ref (a 0), .int x0])).length) Slot.unset).toArray = ls at hl ⊢
  have hl : lv_has ls 2 [(0, .ref (a 0)), (1, .int x0)] := hl
  refine lv_aload_n hx hb dX8_partOf_0 rfl (lv_at hl 0 rfl) ?_
  refine lv_iload_n hx hb dX8_partOf_1 rfl (lv_at hl 1 rfl) ?_
  refine rd_goi (va_runV (C := RX8) (As := [.int x0]) (rest := []) S (c_X8_isPlayer l D cy g B a y0 y1 y2 y3 y4 y5 y6 y7 y8 y9 y10 y11 y12 y13 x0 hm8) (cwV 1 hts gX8_partOf_X8_isPlayer rfl rfl rfl hd_X8_isPlayer_V ⟨Nat.le_of_ble_eq_true rfl, Nat.le_of_ble_eq_true rfl⟩) ⟨rdP_blind, va_recv hK0.1 hP (ci := 6) (q0 := 0) rfl rfl, my_preP hK0 hS hAB hP⟩ rfl rfl hl.1 rfl (lv_room (Nat.le_of_ble_eq_true rfl)) dX8_partOf_2 ⟨Nat.zero_le _, Nat.zero_le _⟩) ?_
  refine lv_if_eq (tgt := 29) hx hb dX8_partOf_5 (by decide) (fun c_1 => ?_) (fun c_1 => ?_)
  · refine lv_dconst0 hx hb dX8_partOf_29 ?_
    exact W.dret hx hb hr (fun t ht hW => ⟨FP.dconst0, rfl, (show f_X8_partOf y4 y7 y10 x0 = FP.dconst0 from by rw [f_X8_partOf, if_pos c_1]).symm, ht⟩) (fun q hq => absurd hq List.not_mem_nil) dX8_partOf_30
  · refine lv_aload_n hx hb dX8_partOf_8 rfl (lv_at hl 0 rfl) ?_
    refine lv_iload_n hx hb dX8_partOf_9 rfl (lv_at hl 1 rfl) ?_
    refine rd_goi (va_runV (C := RX8) (As := [.int x0]) (rest := []) S (c_X8_orders l D cy g B a y0 y1 y2 y3 y4 y5 y6 y7 y8 y9 y10 y11 y12 y13 x0) (cwV 1 hts gX8_partOf_X8_orders rfl rfl rfl hd_X8_orders_V ⟨Nat.le_of_ble_eq_true rfl, Nat.le_of_ble_eq_true rfl⟩) ⟨rdP_blind, va_recv hK0.1 hP (ci := 6) (q0 := 0) rfl rfl, my_preP hK0 hS hAB hP⟩ rfl rfl hl.1 rfl (lv_room (Nat.le_of_ble_eq_true rfl)) dX8_partOf_10 ⟨Nat.zero_le _, Nat.zero_le _⟩) ?_
    refine lv_i2d hx hb dX8_partOf_13 ?_
    refine lv_aload_n hx hb dX8_partOf_14 rfl (lv_at hl 0 rfl) ?_
    refine va_get (D := D) (ci := 6) (v := .int y4) (C := RX8) (T := TX8) (N := 14) hx hb hts inX8 hown hK0.1 hP 0 rfl rfl 8 (by decide) (hts (.fieldLink RX8 71 "PivotChamberModel" "all" "I") (List.mem_of_getElem? (i := 1) rfl)) (fun _ h9 => h9) rfl dX8_partOf_15 ?_
    refine rd_goi (va_runS (As := [.int y4]) (rest := [.double (FP.i2d (f_X8_orders y4 y10 x0))]) S (c_X8_ones l D cy g B y4) (va_cwS 1 hts gX8_partOf_X8_ones rfl rfl rfl hd_X8_ones_S ⟨Nat.le_of_ble_eq_true rfl, Nat.le_of_ble_eq_true rfl⟩) ⟨rdP_blind, my_preV hK0 hS hAB hP [] rfl⟩ rfl rfl hl.1 rfl (lv_room (Nat.le_of_ble_eq_true rfl)) dX8_partOf_18 ⟨Nat.zero_le _, Nat.zero_le _⟩) ?_
    refine rd_goi (va_runS (As := [.int (f_X8_ones y4)]) (rest := [.double (FP.i2d (f_X8_orders y4 y10 x0))]) S (c_X8_factorial l D cy g B (f_X8_ones y4) (ones_b _)) (va_cwS 1 hts gX8_partOf_X8_factorial rfl rfl rfl hd_X8_factorial_S ⟨Nat.le_of_ble_eq_true rfl, Nat.le_of_ble_eq_true rfl⟩) ⟨rdP_blind, my_preV hK0 hS hAB hP [] rfl⟩ rfl rfl hl.1 rfl (lv_room (Nat.le_of_ble_eq_true rfl)) dX8_partOf_21 ⟨Nat.zero_le _, Nat.zero_le _⟩) ?_
    refine lv_i2d hx hb dX8_partOf_24 ?_
    refine lv_ddiv hx hb dX8_partOf_25 (my_n64 (my_div_nn (fac8_nz _))) ?_
    refine lv_goto (tgt := 30) hx hb dX8_partOf_26 (by decide) ?_
    exact W.dret hx hb hr (fun t ht hW => ⟨(FP.ddiv (FP.i2d (f_X8_orders y4 y10 x0)) (FP.i2d (f_X8_factorial (f_X8_ones y4)))), rfl, (show f_X8_partOf y4 y7 y10 x0 = (FP.ddiv (FP.i2d (f_X8_orders y4 y10 x0)) (FP.i2d (f_X8_factorial (f_X8_ones y4)))) from by rw [f_X8_partOf, if_neg c_1]).symm, ht⟩) (fun q hq => absurd hq List.not_mem_nil) dX8_partOf_30
theorem nn_X8_shareOf (w : Nat → Int32) (x : Int32) : FP.fIsNaN (f_X8_shareOf w x) = false := by
  unfold f_X8_shareOf
  split
  · decide +kernel
  · rename_i h; exact my_fdiv h
theorem fin_X8_partOf (a : Int32) (s w : Nat → Int32) (x : Int32) : FP.Core.DFin (f_X8_partOf a s w x) := by
  unfold f_X8_partOf
  split
  · rw [FP.Core.fin_bits]; decide
  · exact my_ddiv (fac8_nz _)
