theorem hd_X3_shareOf_S : yX3_shareOf.cls ≠ "java/lang/invoke/MethodHandle" ∧ yX3_shareOf.cls ≠ "java/lang/invoke/VarHandle" ∧ (parseMethodDescriptor yX3_shareOf.desc).map (fun d => d.parameters.length) = some 1 := by decide +kernel
theorem hd_X3_shareOf_V : yX3_shareOf.cls = RX3 ∧ yX3_shareOf.cls ≠ "java/lang/invoke/MethodHandle" ∧ yX3_shareOf.cls ≠ "java/lang/invoke/VarHandle" ∧ (parseMethodDescriptor yX3_shareOf.desc).map (fun d => d.parameters.length) = some 1 := ⟨rfl, hd_X3_shareOf_S⟩
def f_X3_shareOf (w : PowV) (x0 : Int32) : UInt32 := (if w.2.2.2.2.2.1 = 0 then FP.fconst0 else (FP.fdiv (FP.i2f (rAt 8 w.2.2.2.2.2.2.2.2.2.1 x0)) (FP.i2f w.2.2.2.2.2.1)))
set_option maxHeartbeats 400000 in
set_option maxRecDepth 100000 in
theorem c_X3_shareOf (l : Launch) (D : va_G) (cy : Nat → ClassId) (g : Nat → Nat) (B : Nat) (a : Nat → Nat) (w : PowV) (x0 : Int32) : Met l yX3_shareOf wsX3_shareOf ({ frames := 1, cells := 0, slots := 0, locals := 21 }) (rdP D cy g B (wPow cy a w) [.ref (a 0), .int x0]) (vp_Sf (fun r => r = f_X3_shareOf w x0)) 0 0 (fun _ => False) := by
  refine Met.ofW (cc := cX3_shareOf) (maxL := 2) (ret := (some .float)) (by decide) rfl ?_
  intro p e s m args below meth c s₁ BB hml hv
  obtain ⟨rfl, hP, hK0⟩ := hv
  have hx := BB.exec
  have hb := BB.bytes
  have hr := BB.returns
  have hts := atoms_spec (ws := wsX3_shareOf) BB.pre
  have hown : s.vm.findClass RX3 = some m.cls := findClass_of_methodNamed BB.named
  have hlocks := BB.notSynchronized
  have S := my_fix hx hb hml hown hts
  have inX3 : ∀ w ∈ wsX30, w ∈ wsX3_shareOf := fun w h => List.mem_cons_of_mem _ (List.mem_append_left _ (List.mem_append_right _ h))
  have hS : va_S (fun q => B ≤ q) s.heap s.heap [] := va_S.rf
  have hAB : ∀ q : Nat, (fun q => B ≤ q) q → B ≤ q := fun _ h => h
  have hl := lv_entry ([.ref (a 0), .int x0]) (n := 2) (Nat.le_of_ble_eq_true rfl)
  rw [lg_entry_eq]
  generalize (lg_sl ([.ref (a 0), .int x0]) ++ List.replicate (2 - (lg_sl ([.ref (a 0), .int x0])).length) Slot.unset).toArray = ls at hl ⊢
  have hl : lv_has ls 2 [(0, .ref (a 0)), (1, .int x0)] := hl
  refine lv_aload_n hx hb dX3_shareOf_0 rfl (lv_at hl 0 rfl) ?_
  refine va_get (D := D) (ci := 1) (v := .int w.2.2.2.2.2.1) (C := RX3) (T := TX3) (N := 13) hx hb hts inX3 hown hK0.1 hP 0 rfl rfl 10 (by decide) (hts (.fieldLink RX3 67 "PivotChamber$Power" "allSwings" "I") (List.mem_of_getElem? (i := 1) rfl)) (fun _ h9 => h9) rfl dX3_shareOf_1 ?_
  refine lv_if_ne (tgt := 11) hx hb dX3_shareOf_4 (by decide) (fun c_1 => ?_) (fun c_1 => ?_)
  · refine lv_aload_n hx hb dX3_shareOf_11 rfl (lv_at hl 0 rfl) ?_
    refine va_get (D := D) (ci := 1) (v := .ref (a 7)) (C := RX3) (T := TX3) (N := 13) hx hb hts inX3 hown hK0.1 hP 0 rfl rfl 8 (by decide) (hts (.fieldLink RX3 26 "PivotChamber$Power" "swings" "LPivotChamber$Row;") (List.mem_of_getElem? (i := 2) rfl)) (fun _ h9 => h9) rfl dX3_shareOf_12 ?_
    refine lv_iload_n hx hb dX3_shareOf_15 rfl (lv_at hl 1 rfl) ?_
    refine rd_goi (va_runV (C := RX4) (As := [.int x0]) (rest := []) S (c_X4_at l D cy g B (a 7) (a 8) 8 w.2.2.2.2.2.2.2.2.2.1 x0 (by decide)) (cwV 1 hts gX3_shareOf_X4_at rfl rfl rfl hd_X4_at_V ⟨Nat.le_of_ble_eq_true rfl, Nat.le_of_ble_eq_true rfl⟩) ⟨rdP_blind, va_recv hK0.1 hP (ci := 2) (q0 := 7) rfl rfl, my_preV hK0 hS hAB hP [7, 8] rfl⟩ rfl rfl hl.1 rfl (lv_room (Nat.le_of_ble_eq_true rfl)) dX3_shareOf_16 ⟨Nat.zero_le _, Nat.zero_le _⟩) ?_
    refine lv_i2f hx hb dX3_shareOf_19 ?_
    refine lv_aload_n hx hb dX3_shareOf_20 rfl (lv_at hl 0 rfl) ?_
    refine va_get (D := D) (ci := 1) (v := .int w.2.2.2.2.2.1) (C := RX3) (T := TX3) (N := 13) hx hb hts inX3 hown hK0.1 hP 0 rfl rfl 10 (by decide) (hts (.fieldLink RX3 67 "PivotChamber$Power" "allSwings" "I") (List.mem_of_getElem? (i := 1) rfl)) (fun _ h9 => h9) rfl dX3_shareOf_21 ?_
    refine lv_i2f hx hb dX3_shareOf_24 ?_
    refine lv_fdiv hx hb dX3_shareOf_25 (my_n32 (my_fdiv (c_1))) ?_
    exact W.fret hx hb hr (fun t ht hW => ⟨(FP.fdiv (FP.i2f (rAt 8 w.2.2.2.2.2.2.2.2.2.1 x0)) (FP.i2f w.2.2.2.2.2.1)), rfl, (show f_X3_shareOf w x0 = (FP.fdiv (FP.i2f (rAt 8 w.2.2.2.2.2.2.2.2.2.1 x0)) (FP.i2f w.2.2.2.2.2.1)) from by rw [f_X3_shareOf, if_neg c_1]).symm, ht⟩) (fun q hq => absurd hq List.not_mem_nil) dX3_shareOf_26
  · refine lv_fconst0 hx hb dX3_shareOf_7 ?_
    refine lv_goto (tgt := 26) hx hb dX3_shareOf_8 (by decide) ?_
    exact W.fret hx hb hr (fun t ht hW => ⟨FP.fconst0, rfl, (show f_X3_shareOf w x0 = FP.fconst0 from by rw [f_X3_shareOf, if_pos c_1]).symm, ht⟩) (fun q hq => absurd hq List.not_mem_nil) dX3_shareOf_26
theorem hd_X3_partOf_S : yX3_partOf.cls ≠ "java/lang/invoke/MethodHandle" ∧ yX3_partOf.cls ≠ "java/lang/invoke/VarHandle" ∧ (parseMethodDescriptor yX3_partOf.desc).map (fun d => d.parameters.length) = some 1 := by decide +kernel
theorem hd_X3_partOf_V : yX3_partOf.cls = RX3 ∧ yX3_partOf.cls ≠ "java/lang/invoke/MethodHandle" ∧ yX3_partOf.cls ≠ "java/lang/invoke/VarHandle" ∧ (parseMethodDescriptor yX3_partOf.desc).map (fun d => d.parameters.length) = some 1 := ⟨rfl, hd_X3_partOf_S⟩
def f_X3_partOf (w : PowV) (x0 : Int32) : UInt64 := (if (f_X7_factorial (f_X3_playerCount w)) = 0 then FP.dconst0 else (FP.ddiv (FP.i2d (rAt 8 w.2.2.2.2.2.2.2.2.2.2.1 x0)) (FP.i2d (f_X7_factorial (f_X3_playerCount w)))))
set_option maxHeartbeats 400000 in
set_option maxRecDepth 100000 in
theorem c_X3_partOf (l : Launch) (D : va_G) (cy : Nat → ClassId) (g : Nat → Nat) (B : Nat) (a : Nat → Nat) (w : PowV) (x0 : Int32) : Met l yX3_partOf wsX3_partOf ({ frames := 2, cells := 0, slots := 0, locals := 40 }) (rdP D cy g B (wPow cy a w) [.ref (a 0), .int x0]) (vp_Sd (fun r => r = f_X3_partOf w x0)) 0 0 (fun _ => False) := by
  refine Met.ofW (cc := cX3_partOf) (maxL := 3) (ret := (some .double)) (by decide) rfl ?_
  intro p e s m args below meth c s₁ BB hml hv
  obtain ⟨rfl, hP, hK0⟩ := hv
  have hx := BB.exec
  have hb := BB.bytes
  have hr := BB.returns
  have hts := atoms_spec (ws := wsX3_partOf) BB.pre
  have hown : s.vm.findClass RX3 = some m.cls := findClass_of_methodNamed BB.named
  have hlocks := BB.notSynchronized
  have S := my_fix hx hb hml hown hts
  have inX3 : ∀ w ∈ wsX30, w ∈ wsX3_partOf := fun w h => List.mem_cons_of_mem _ (List.mem_append_left _ (List.mem_append_right _ h))
  have hS : va_S (fun q => B ≤ q) s.heap s.heap [] := va_S.rf
  have hAB : ∀ q : Nat, (fun q => B ≤ q) q → B ≤ q := fun _ h => h
  have hl := lv_entry ([.ref (a 0), .int x0]) (n := 3) (Nat.le_of_ble_eq_true rfl)
  rw [lg_entry_eq]
  generalize (lg_sl ([.ref (a 0), .int x0]) ++ List.replicate (3 - (lg_sl ([.ref (a 0), .int x0])).length) Slot.unset).toArray = ls at hl ⊢
  have hl : lv_has ls 3 [(0, .ref (a 0)), (1, .int x0)] := hl
  refine lv_aload_n hx hb dX3_partOf_0 rfl (lv_at hl 0 rfl) ?_
  refine rd_goi (va_runV (C := RX3) (As := []) (rest := []) S (c_X3_playerCount l D cy g B a w) (cwV 0 hts gX3_partOf_X3_playerCount rfl rfl rfl hd_X3_playerCount_V ⟨Nat.le_of_ble_eq_true rfl, Nat.le_of_ble_eq_true rfl⟩) ⟨rdP_blind, va_recv hK0.1 hP (ci := 1) (q0 := 0) rfl rfl, my_preP hK0 hS hAB hP⟩ rfl rfl hl.1 rfl (lv_room (Nat.le_of_ble_eq_true rfl)) dX3_partOf_1 ⟨Nat.zero_le _, Nat.zero_le _⟩) ?_
  refine rd_goi (va_runSN (As := [.int (f_X3_playerCount w)]) (rest := []) S (c_X7_factorial l D cy g B (f_X3_playerCount w)) ⟨va_cnB 1 hts gX3_partOf_X7_factorial_n108 rfl rfl rfl (hK0.2.1.1.m 3 rfl) (hts (.initialized RX7) (List.mem_of_getElem? (i := 16) rfl)) hd_X7_factorial_S ⟨Nat.le_of_ble_eq_true rfl, Nat.le_of_ble_eq_true rfl⟩, (hts (.static yX7_factorial) (List.mem_of_getElem? (i := 15) rfl)), trivial⟩ ⟨rdP_blind, my_preV hK0 hS hAB hP [] rfl⟩ rfl rfl hl.1 rfl (lv_room (Nat.le_of_ble_eq_true rfl)) dX3_partOf_4 ⟨Nat.zero_le _, Nat.zero_le _⟩) ?_
  refine lv_istore_n (lv' := [(2, .int (f_X7_factorial (f_X3_playerCount w))), (0, .ref (a 0)), (1, .int x0)]) hx hb dX3_partOf_7 rfl hl (by decide) rfl (fun ls hl => ?_)
  refine lv_iload_n hx hb dX3_partOf_8 rfl (lv_at hl 0 rfl) ?_
  refine lv_if_ne (tgt := 16) hx hb dX3_partOf_9 (by decide) (fun c_1 => ?_) (fun c_1 => ?_)
  · refine lv_aload_n hx hb dX3_partOf_16 rfl (lv_at hl 1 rfl) ?_
    refine va_get (D := D) (ci := 1) (v := .ref (a 9)) (C := RX3) (T := TX3) (N := 13) hx hb hts inX3 hown hK0.1 hP 0 rfl rfl 9 (by decide) (hts (.fieldLink RX3 29 "PivotChamber$Power" "orders" "LPivotChamber$Row;") (List.mem_of_getElem? (i := 1) rfl)) (fun _ h9 => h9) rfl dX3_partOf_17 ?_
    refine lv_iload_n hx hb dX3_partOf_20 rfl (lv_at hl 2 rfl) ?_
    refine rd_goi (va_runV (C := RX4) (As := [.int x0]) (rest := []) S (c_X4_at l D cy g B (a 9) (a 10) 8 w.2.2.2.2.2.2.2.2.2.2.1 x0 (by decide)) (cwV 1 hts gX3_partOf_X4_at rfl rfl rfl hd_X4_at_V ⟨Nat.le_of_ble_eq_true rfl, Nat.le_of_ble_eq_true rfl⟩) ⟨rdP_blind, va_recv hK0.1 hP (ci := 2) (q0 := 9) rfl rfl, my_preV hK0 hS hAB hP [9, 10] rfl⟩ rfl rfl hl.1 rfl (lv_room (Nat.le_of_ble_eq_true rfl)) dX3_partOf_21 ⟨Nat.zero_le _, Nat.zero_le _⟩) ?_
    refine lv_i2d hx hb dX3_partOf_24 ?_
    refine lv_iload_n hx hb dX3_partOf_25 rfl (lv_at hl 0 rfl) ?_
    refine lv_i2d hx hb dX3_partOf_26 ?_
    refine lv_ddiv hx hb dX3_partOf_27 (my_n64 (my_div_nn (c_1))) ?_
    exact W.dret hx hb hr (fun t ht hW => ⟨(FP.ddiv (FP.i2d (rAt 8 w.2.2.2.2.2.2.2.2.2.2.1 x0)) (FP.i2d (f_X7_factorial (f_X3_playerCount w)))), rfl, (show f_X3_partOf w x0 = (FP.ddiv (FP.i2d (rAt 8 w.2.2.2.2.2.2.2.2.2.2.1 x0)) (FP.i2d (f_X7_factorial (f_X3_playerCount w)))) from by rw [f_X3_partOf, if_neg c_1]).symm, ht⟩) (fun q hq => absurd hq List.not_mem_nil) dX3_partOf_28
  · refine lv_dconst0 hx hb dX3_partOf_12 ?_
    refine lv_goto (tgt := 28) hx hb dX3_partOf_13 (by decide) ?_
    exact W.dret hx hb hr (fun t ht hW => ⟨FP.dconst0, rfl, (show f_X3_partOf w x0 = FP.dconst0 from by rw [f_X3_partOf, if_pos c_1]).symm, ht⟩) (fun q hq => absurd hq List.not_mem_nil) dX3_partOf_28
theorem nn_X3_shareOf (w : PowV) (x : Int32) : FP.fIsNaN (f_X3_shareOf w x) = false := by
  unfold f_X3_shareOf
  split
  · decide +kernel
  · rename_i h; exact my_fdiv h
theorem fin_X3_partOf (w : PowV) (x : Int32) : FP.Core.DFin (f_X3_partOf w x) := by
  unfold f_X3_partOf
  split
  · rw [FP.Core.fin_bits]; decide
  · rename_i h; exact my_ddiv h
