theorem hd_X7_measured_S : yX7_measured.cls ≠ "java/lang/invoke/MethodHandle" ∧ yX7_measured.cls ≠ "java/lang/invoke/VarHandle" ∧ (parseMethodDescriptor yX7_measured.desc).map (fun d => d.parameters.length) = some 0 := by decide +kernel
theorem hd_X7_measured_V : yX7_measured.cls = RX7 ∧ yX7_measured.cls ≠ "java/lang/invoke/MethodHandle" ∧ yX7_measured.cls ≠ "java/lang/invoke/VarHandle" ∧ (parseMethodDescriptor yX7_measured.desc).map (fun d => d.parameters.length) = some 0 := ⟨rfl, hd_X7_measured_S⟩
def f_X7_measured (st : Int32) (v : SetV) (w : PowV) : Int32 × PowV := (if st = 0 then (st, w) else (my_l (f_X3_measure w v) (fun (u_2 : PowV) => (0, u_2))))
set_option maxHeartbeats 400000 in
set_option maxRecDepth 100000 in
theorem c_X7_measured (l : Launch) (D : va_G) (cy : Nat → ClassId) (g : Nat → Nat) (B : Nat) (p70 : Nat) (b7 : Nat → Nat) (c7 : Nat → Nat) (d7 : Nat → Nat) (e7 : Nat → Nat) (h7 : Nat → Nat) (k7 : Nat → Nat) (st : Int32) (v : SetV) (w : PowV) : Met l yX7_measured wsX7_measured ({ frames := 5, cells := 0, slots := 0, locals := 112 }) (muP D cy g B (List.flatten [(wPCo p70 b7 c7 d7 e7 h7 k7 st), (wSet cy b7 v), (wPow cy c7 w)]) [.ref p70]) (my_Qr (.ref (c7 0)) (fun (u : Int32 × PowV) => f_X7_measured st v w = u) (fun u t => va_P D vwCl (List.flatten [(wPCo p70 b7 c7 d7 e7 h7 k7 u.1), (wSet cy b7 v), (wPow cy c7 u.2)]) t.heap) (muA (List.flatten [(wPCo p70 b7 c7 d7 e7 h7 k7 st), (wSet cy b7 v), (wPow cy c7 w)]))) 0 0 (muA (List.flatten [(wPCo p70 b7 c7 d7 e7 h7 k7 st), (wSet cy b7 v), (wPow cy c7 w)])) := by
  refine Met.ofW (cc := cX7_measured) (maxL := 1) (ret := (some (.object "PivotChamber$Power"))) (by decide) rfl ?_
  intro p e s m args below meth c s₁ BB hml hv
  obtain ⟨rfl, hP, hK0, hD0⟩ := hv
  have hx := BB.exec
  have hb := BB.bytes
  have hr := BB.returns
  have hts := atoms_spec (ws := wsX7_measured) BB.pre
  have hown : s.vm.findClass RX7 = some m.cls := findClass_of_methodNamed BB.named
  have hlocks := BB.notSynchronized
  have S := my_fix hx hb hml hown hts
  have inX7 : ∀ w ∈ wsX70, w ∈ wsX7_measured := fun w h => List.mem_cons_of_mem _ (List.mem_append_left _ (List.mem_append_left _ (List.mem_append_left _ (List.mem_append_right _ h))))
  have hAB := muB hD0
  have hD := muD hD0
  generalize hAe : muA (List.flatten [(wPCo p70 b7 c7 d7 e7 h7 k7 st), (wSet cy b7 v), (wPow cy c7 w)]) = A at hAB hD ⊢
  have hS : va_S A s.heap s.heap [] := va_S.rf
  have hl := lv_entry ([.ref p70]) (n := 1) (Nat.le_of_ble_eq_true rfl)
  rw [lg_entry_eq]
  generalize (lg_sl ([.ref p70]) ++ List.replicate (1 - (lg_sl ([.ref p70])).length) Slot.unset).toArray = ls at hl ⊢
  have hl : lv_has ls 1 [(0, .ref p70)] := hl
  refine lv_aload_n hx hb dX7_measured_0 rfl (lv_at hl 0 rfl) ?_
  refine va_get (D := D) (ci := 5) (v := .int st) (C := RX7) (T := TX7) (N := 7) hx hb hts inX7 hown hK0.1 hP 0 rfl rfl 2 (by decide) (hts (.fieldLink RX7 23 "PivotChamber" "stale" "Z") (List.mem_of_getElem? (i := 1) rfl)) (fun _ h9 => h9) rfl dX7_measured_1 ?_
  refine lv_if_eq (tgt := 23) hx hb dX7_measured_4 (by decide) (fun c_1 => ?_) (fun c_1 => ?_)
  · refine lv_aload_n hx hb dX7_measured_23 rfl (lv_at hl 0 rfl) ?_
    refine va_get (D := D) (ci := 5) (v := .ref (c7 0)) (C := RX7) (T := TX7) (N := 7) hx hb hts inX7 hown hK0.1 hP 0 rfl rfl 1 (by decide) (hts (.fieldLink RX7 19 "PivotChamber" "power" "LPivotChamber$Power;") (List.mem_of_getElem? (i := 2) rfl)) (fun _ h9 => h9) rfl dX7_measured_24 ?_
    exact W.aret (v := (.ref (c7 0))) hx hb hr (Or.inl ⟨_, rfl⟩) (Or.inr ⟨_, rfl⟩) (fun t ht hW => ⟨⟨(st, w), rfl, (show f_X7_measured st v w = (st, w) from by rw [f_X7_measured, if_pos c_1]), by show va_P D vwCl _ t.heap; rw [ht]; exact hP⟩, hS.F ht⟩) hS.2.2 dX7_measured_27
  · refine lv_aload_n hx hb dX7_measured_7 rfl (lv_at hl 0 rfl) ?_
    refine va_get (D := D) (ci := 5) (v := .ref (c7 0)) (C := RX7) (T := TX7) (N := 7) hx hb hts inX7 hown hK0.1 hP 0 rfl rfl 1 (by decide) (hts (.fieldLink RX7 19 "PivotChamber" "power" "LPivotChamber$Power;") (List.mem_of_getElem? (i := 2) rfl)) (fun _ h9 => h9) rfl dX7_measured_8 ?_
    refine lv_aload_n hx hb dX7_measured_11 rfl (lv_at hl 0 rfl) ?_
    refine va_get (D := D) (ci := 5) (v := .ref (b7 0)) (C := RX7) (T := TX7) (N := 7) hx hb hts inX7 hown hK0.1 hP 0 rfl rfl 0 (by decide) (hts (.fieldLink RX7 10 "PivotChamber" "setting" "LPivotChamber$Setting;") (List.mem_of_getElem? (i := 3) rfl)) (fun _ h9 => h9) rfl dX7_measured_12 ?_
    refine mu_compv (wcs := [(wPow cy c7 w), (wSet cy b7 v)]) (wns := fun (u_2 : PowV) => [(wPow cy c7 u_2), (wSet cy b7 v)]) (W2 := fun (u_2 : PowV) => [(wPCo p70 b7 c7 d7 e7 h7 k7 st), (wSet cy b7 v), (wPow cy c7 u_2)]) (va_runV (C := RX3) (As := [.ref (b7 0)]) (rest := []) S (c_X3_measure l D cy g B c7 b7 w v) (cwV 1 hts gX7_measured_X3_measure rfl rfl rfl hd_X3_measure_V ⟨Nat.le_of_ble_eq_true rfl, Nat.le_of_ble_eq_true rfl⟩) ⟨muP_blind, va_recv hK0.1 hP (ci := 1) (q0 := 10) rfl rfl, my_preC (wcs := [(wPow cy c7 w), (wSet cy b7 v)]) hK0 hS hAB hP hD [2, 1] (by decide) rfl rfl⟩ rfl rfl hl.1 rfl (lv_room (Nat.le_of_ble_eq_true rfl)) dX7_measured_15 ⟨Nat.zero_le _, Nat.zero_le _⟩) hS hP hD [2, 1] rfl rfl (fun _ => rfl) (fun _ => by simp only [List.map_cons, List.map_nil, adrSet, adrSetE, adrPow, adrPowE, adrTxt, adrTxtE, adrSav, adrSavE, adrPCo, adrI, adrL]) (fun _ => rfl) (fun u_2 H locs hw_3 hP hD hS => ?_)
    refine lv_aload_n hx hb dX7_measured_18 rfl (lv_at hl 0 rfl) ?_
    refine lv_iconst (v := 0) hx hb dX7_measured_19 (by decide) ?_
    refine va_put (D := D) (ci := 5) (v := .int 0) (ty := .boolean) (C := RX7) (T := TX7) (N := 7) hx hb hts inX7 tyX7 tyX7_ok nmX7 hown hK0.1 hP hD hS 0 rfl rfl 2 (by decide) (hts (.fieldLink RX7 23 "PivotChamber" "stale" "Z") (List.mem_of_getElem? (i := 1) rfl)) (fun _ h9 => h9) rfl (by decide +kernel) (by decide) (by decide) (Nat.le_of_ble_eq_true rfl) dX7_measured_20 (fun H locs hP hD hS => ?_)
    have hP : va_P D vwCl (List.flatten [(wPCo p70 b7 c7 d7 e7 h7 k7 0), (wSet cy b7 v), (wPow cy c7 u_2)]) H := hP
    have hD : va_D A (List.flatten [(wPCo p70 b7 c7 d7 e7 h7 k7 0), (wSet cy b7 v), (wPow cy c7 u_2)]) := hD
    refine lv_aload_n hx hb dX7_measured_23 rfl (lv_at hl 0 rfl) ?_
    refine va_get (D := D) (ci := 5) (v := .ref (c7 0)) (C := RX7) (T := TX7) (N := 7) hx hb hts inX7 hown hK0.1 hP 0 rfl rfl 1 (by decide) (hts (.fieldLink RX7 19 "PivotChamber" "power" "LPivotChamber$Power;") (List.mem_of_getElem? (i := 2) rfl)) (fun _ h9 => h9) rfl dX7_measured_24 ?_
    exact W.aret (v := (.ref (c7 0))) hx hb hr (Or.inl ⟨_, rfl⟩) (Or.inr ⟨_, rfl⟩) (fun t ht hW => ⟨⟨(0, u_2), rfl, (show f_X7_measured st v w = (0, u_2) from by rw [f_X7_measured, if_neg c_1, hw_3, my_l_eq]), by show va_P D vwCl _ t.heap; rw [ht]; exact hP⟩, hS.F ht⟩) hS.2.2 dX7_measured_27
theorem hd_X7_memberValue_S : yX7_memberValue.cls ≠ "java/lang/invoke/MethodHandle" ∧ yX7_memberValue.cls ≠ "java/lang/invoke/VarHandle" ∧ (parseMethodDescriptor yX7_memberValue.desc).map (fun d => d.parameters.length) = some 3 := by decide +kernel
theorem hd_X7_memberValue_V : yX7_memberValue.cls = RX7 ∧ yX7_memberValue.cls ≠ "java/lang/invoke/MethodHandle" ∧ yX7_memberValue.cls ≠ "java/lang/invoke/VarHandle" ∧ (parseMethodDescriptor yX7_memberValue.desc).map (fun d => d.parameters.length) = some 3 := ⟨rfl, hd_X7_memberValue_S⟩
def f_X7_memberValue (st : Int32) (v : SetV) (w : PowV) (x1 : Int32) (x2 : Int32) : Int32 := (if 4 ≤ x2 then (f_X3_memberValue w x1 x2) else (f_X6_memberValue v x1 x2))
set_option maxHeartbeats 400000 in
set_option maxRecDepth 100000 in
theorem c_X7_memberValue (l : Launch) (D : va_G) (cy : Nat → ClassId) (g : Nat → Nat) (B : Nat) (p70 : Nat) (b7 : Nat → Nat) (c7 : Nat → Nat) (d7 : Nat → Nat) (e7 : Nat → Nat) (h7 : Nat → Nat) (k7 : Nat → Nat) (st : Int32) (v : SetV) (w : PowV) (x1 : Int32) (x2 : Int32) : Met l yX7_memberValue wsX7_memberValue ({ frames := 4, cells := 0, slots := 0, locals := 87 }) (rdP D cy g B (List.flatten [(wPCo p70 b7 c7 d7 e7 h7 k7 st), (wSet cy b7 v), (wPow cy c7 w)]) [.ref p70, .ref (c7 0), .int x1, .int x2]) (vp_Si (fun r => r = f_X7_memberValue st v w x1 x2)) 0 0 (fun _ => False) := by
  refine Met.ofW (cc := cX7_memberValue) (maxL := 4) (ret := (some .int)) (by decide) rfl ?_
  intro p e s m args below meth c s₁ BB hml hv
  obtain ⟨rfl, hP, hK0⟩ := hv
  have hx := BB.exec
  have hb := BB.bytes
  have hr := BB.returns
  have hts := atoms_spec (ws := wsX7_memberValue) BB.pre
  have hown : s.vm.findClass RX7 = some m.cls := findClass_of_methodNamed BB.named
  have hlocks := BB.notSynchronized
  have S := my_fix hx hb hml hown hts
  have inX7 : ∀ w ∈ wsX70, w ∈ wsX7_memberValue := fun w h => List.mem_cons_of_mem _ (List.mem_append_left _ (List.mem_append_left _ (List.mem_append_left _ (List.mem_append_right _ h))))
  have hS : va_S (fun q => B ≤ q) s.heap s.heap [] := va_S.rf
  have hAB : ∀ q : Nat, (fun q => B ≤ q) q → B ≤ q := fun _ h => h
  have hl := lv_entry ([.ref p70, .ref (c7 0), .int x1, .int x2]) (n := 4) (Nat.le_of_ble_eq_true rfl)
  rw [lg_entry_eq]
  generalize (lg_sl ([.ref p70, .ref (c7 0), .int x1, .int x2]) ++ List.replicate (4 - (lg_sl ([.ref p70, .ref (c7 0), .int x1, .int x2])).length) Slot.unset).toArray = ls at hl ⊢
  have hl : lv_has ls 4 [(0, .ref p70), (1, .ref (c7 0)), (2, .int x1), (3, .int x2)] := hl
  refine lv_iload_n hx hb dX7_memberValue_0 rfl (lv_at hl 3 rfl) ?_
  refine lv_iconst (v := 4) hx hb dX7_memberValue_1 (by decide) ?_
  refine lv_icmp_ge (tgt := 17) hx hb dX7_memberValue_2 (by decide) (fun c_1 => ?_) (fun c_1 => ?_)
  · refine lv_aload_n hx hb dX7_memberValue_17 rfl (lv_at hl 1 rfl) ?_
    refine lv_iload_n hx hb dX7_memberValue_18 rfl (lv_at hl 2 rfl) ?_
    refine lv_iload_n hx hb dX7_memberValue_19 rfl (lv_at hl 3 rfl) ?_
    refine rd_goi (va_runV (C := RX3) (As := [.int x1, .int x2]) (rest := []) S (c_X3_memberValue l D cy g B c7 w x1 x2) (cwV 2 hts gX7_memberValue_X3_memberValue rfl rfl rfl hd_X3_memberValue_V ⟨Nat.le_of_ble_eq_true rfl, Nat.le_of_ble_eq_true rfl⟩) ⟨rdP_blind, va_recv hK0.1 hP (ci := 1) (q0 := 10) rfl rfl, my_preP hK0 hS hAB (my_cP hP 2 rfl)⟩ rfl rfl hl.1 rfl (lv_room (Nat.le_of_ble_eq_true rfl)) dX7_memberValue_20 ⟨Nat.zero_le _, Nat.zero_le _⟩) ?_
    exact W.iret hx hb hr (fun t ht hW => ⟨(f_X3_memberValue w x1 x2), rfl, (show f_X7_memberValue st v w x1 x2 = (f_X3_memberValue w x1 x2) from by rw [f_X7_memberValue, if_pos c_1]).symm, ht⟩) (fun q hq => absurd hq List.not_mem_nil) dX7_memberValue_23
  · refine lv_aload_n hx hb dX7_memberValue_5 rfl (lv_at hl 0 rfl) ?_
    refine va_get (D := D) (ci := 5) (v := .ref (b7 0)) (C := RX7) (T := TX7) (N := 7) hx hb hts inX7 hown hK0.1 hP 0 rfl rfl 0 (by decide) (hts (.fieldLink RX7 10 "PivotChamber" "setting" "LPivotChamber$Setting;") (List.mem_of_getElem? (i := 1) rfl)) (fun _ h9 => h9) rfl dX7_memberValue_6 ?_
    refine lv_iload_n hx hb dX7_memberValue_9 rfl (lv_at hl 2 rfl) ?_
    refine lv_iload_n hx hb dX7_memberValue_10 rfl (lv_at hl 3 rfl) ?_
    refine rd_goi (va_runV (C := RX6) (As := [.int x1, .int x2]) (rest := []) S (c_X6_memberValue l D cy g B b7 v x1 x2) (cwV 2 hts gX7_memberValue_X6_memberValue rfl rfl rfl hd_X6_memberValue_V ⟨Nat.le_of_ble_eq_true rfl, Nat.le_of_ble_eq_true rfl⟩) ⟨rdP_blind, va_recv hK0.1 hP (ci := 4) (q0 := 1) rfl rfl, my_preP hK0 hS hAB (my_cP hP 1 rfl)⟩ rfl rfl hl.1 rfl (lv_room (Nat.le_of_ble_eq_true rfl)) dX7_memberValue_11 ⟨Nat.zero_le _, Nat.zero_le _⟩) ?_
    refine lv_goto (tgt := 23) hx hb dX7_memberValue_14 (by decide) ?_
    exact W.iret hx hb hr (fun t ht hW => ⟨(f_X6_memberValue v x1 x2), rfl, (show f_X7_memberValue st v w x1 x2 = (f_X6_memberValue v x1 x2) from by rw [f_X7_memberValue, if_neg c_1]).symm, ht⟩) (fun q hq => absurd hq List.not_mem_nil) dX7_memberValue_23
theorem hd_X7_wholeValue_S : yX7_wholeValue.cls ≠ "java/lang/invoke/MethodHandle" ∧ yX7_wholeValue.cls ≠ "java/lang/invoke/VarHandle" ∧ (parseMethodDescriptor yX7_wholeValue.desc).map (fun d => d.parameters.length) = some 2 := by decide +kernel
theorem hd_X7_wholeValue_V : yX7_wholeValue.cls = RX7 ∧ yX7_wholeValue.cls ≠ "java/lang/invoke/MethodHandle" ∧ yX7_wholeValue.cls ≠ "java/lang/invoke/VarHandle" ∧ (parseMethodDescriptor yX7_wholeValue.desc).map (fun d => d.parameters.length) = some 2 := ⟨rfl, hd_X7_wholeValue_S⟩
def f_X7_wholeValue (st : Int32) (v : SetV) (w : PowV) (tx : TxtV) (x1 : Int32) : Int32 := (if x1 = 11 then tx.1 else (if x1 < 5 then (f_X6_wholeValue v x1) else (if x1 = 10 then (f_X6_wholeValue v x1) else (f_X3_wholeValue w x1))))
set_option maxHeartbeats 400000 in
set_option maxRecDepth 100000 in
theorem c_X7_wholeValue (l : Launch) (D : va_G) (cy : Nat → ClassId) (g : Nat → Nat) (B : Nat) (p70 : Nat) (b7 : Nat → Nat) (c7 : Nat → Nat) (d7 : Nat → Nat) (e7 : Nat → Nat) (h7 : Nat → Nat) (k7 : Nat → Nat) (st : Int32) (v : SetV) (w : PowV) (tx : TxtV) (x1 : Int32) : Met l yX7_wholeValue wsX7_wholeValue ({ frames := 4, cells := 0, slots := 0, locals := 85 }) (rdP D cy g B (List.flatten [(wPCo p70 b7 c7 d7 e7 h7 k7 st), (wSet cy b7 v), (wPow cy c7 w), (wTxt cy g k7 tx)]) [.ref p70, .ref (c7 0), .int x1]) (vp_Si (fun r => r = f_X7_wholeValue st v w tx x1)) 0 0 (fun _ => False) := by
  refine Met.ofW (cc := cX7_wholeValue) (maxL := 3) (ret := (some .int)) (by decide) rfl ?_
  intro p e s m args below meth c s₁ BB hml hv
  obtain ⟨rfl, hP, hK0⟩ := hv
  have hx := BB.exec
  have hb := BB.bytes
  have hr := BB.returns
  have hts := atoms_spec (ws := wsX7_wholeValue) BB.pre
  have hown : s.vm.findClass RX7 = some m.cls := findClass_of_methodNamed BB.named
  have hlocks := BB.notSynchronized
  have S := my_fix hx hb hml hown hts
  have inX2 : ∀ w ∈ wsX20, w ∈ wsX7_wholeValue := fun w h => List.mem_cons_of_mem _ (List.mem_append_left _ (List.mem_append_left _ (List.mem_append_left _ (List.mem_append_right _ h))))
  have inX7 : ∀ w ∈ wsX70, w ∈ wsX7_wholeValue := fun w h => List.mem_cons_of_mem _ (List.mem_append_left _ (List.mem_append_left _ (List.mem_append_left _ (List.mem_append_left _ (List.mem_append_right _ h)))))
  have hS : va_S (fun q => B ≤ q) s.heap s.heap [] := va_S.rf
  have hAB : ∀ q : Nat, (fun q => B ≤ q) q → B ≤ q := fun _ h => h
  have hl := lv_entry ([.ref p70, .ref (c7 0), .int x1]) (n := 3) (Nat.le_of_ble_eq_true rfl)
  rw [lg_entry_eq]
  generalize (lg_sl ([.ref p70, .ref (c7 0), .int x1]) ++ List.replicate (3 - (lg_sl ([.ref p70, .ref (c7 0), .int x1])).length) Slot.unset).toArray = ls at hl ⊢
  have hl : lv_has ls 3 [(0, .ref p70), (1, .ref (c7 0)), (2, .int x1)] := hl
  refine lv_iload_n hx hb dX7_wholeValue_0 rfl (lv_at hl 2 rfl) ?_
  refine lv_bipush (v := 11) hx hb dX7_wholeValue_1 (by decide) ?_
  refine lv_icmp_ne (tgt := 14) hx hb dX7_wholeValue_3 (by decide) (fun c_1 => ?_) (fun c_1 => ?_)
  · refine lv_iload_n hx hb dX7_wholeValue_14 rfl (lv_at hl 2 rfl) ?_
    refine lv_iconst (v := 5) hx hb dX7_wholeValue_15 (by decide) ?_
    refine lv_icmp_lt (tgt := 25) hx hb dX7_wholeValue_16 (by decide) (fun c_2 => ?_) (fun c_2 => ?_)
    · refine lv_aload_n hx hb dX7_wholeValue_25 rfl (lv_at hl 0 rfl) ?_
      refine va_get (D := D) (ci := 5) (v := .ref (b7 0)) (C := RX7) (T := TX7) (N := 7) hx hb hts inX7 hown hK0.1 hP 0 rfl rfl 0 (by decide) (hts (.fieldLink RX7 10 "PivotChamber" "setting" "LPivotChamber$Setting;") (List.mem_of_getElem? (i := 2) rfl)) (fun _ h9 => h9) rfl dX7_wholeValue_26 ?_
      refine lv_iload_n hx hb dX7_wholeValue_29 rfl (lv_at hl 2 rfl) ?_
      refine rd_goi (va_runV (C := RX6) (As := [.int x1]) (rest := []) S (c_X6_wholeValue l D cy g B b7 v x1) (cwV 1 hts gX7_wholeValue_X6_wholeValue rfl rfl rfl hd_X6_wholeValue_V ⟨Nat.le_of_ble_eq_true rfl, Nat.le_of_ble_eq_true rfl⟩) ⟨rdP_blind, va_recv hK0.1 hP (ci := 4) (q0 := 1) rfl rfl, my_preP hK0 hS hAB (my_cP hP 1 rfl)⟩ rfl rfl hl.1 rfl (lv_room (Nat.le_of_ble_eq_true rfl)) dX7_wholeValue_30 ⟨Nat.zero_le _, Nat.zero_le _⟩) ?_
      refine lv_goto (tgt := 41) hx hb dX7_wholeValue_33 (by decide) ?_
      exact W.iret hx hb hr (fun t ht hW => ⟨(f_X6_wholeValue v x1), rfl, (show f_X7_wholeValue st v w tx x1 = (f_X6_wholeValue v x1) from by rw [f_X7_wholeValue, if_neg c_1, if_pos c_2]).symm, ht⟩) (fun q hq => absurd hq List.not_mem_nil) dX7_wholeValue_41
    · refine lv_iload_n hx hb dX7_wholeValue_19 rfl (lv_at hl 2 rfl) ?_
      refine lv_bipush (v := 10) hx hb dX7_wholeValue_20 (by decide) ?_
      refine lv_icmp_ne (tgt := 36) hx hb dX7_wholeValue_22 (by decide) (fun c_3 => ?_) (fun c_3 => ?_)
      · refine lv_aload_n hx hb dX7_wholeValue_36 rfl (lv_at hl 1 rfl) ?_
        refine lv_iload_n hx hb dX7_wholeValue_37 rfl (lv_at hl 2 rfl) ?_
        refine rd_goi (va_runV (C := RX3) (As := [.int x1]) (rest := []) S (c_X3_wholeValue l D cy g B c7 w x1) (cwV 1 hts gX7_wholeValue_X3_wholeValue rfl rfl rfl hd_X3_wholeValue_V ⟨Nat.le_of_ble_eq_true rfl, Nat.le_of_ble_eq_true rfl⟩) ⟨rdP_blind, va_recv hK0.1 hP (ci := 1) (q0 := 10) rfl rfl, my_preP hK0 hS hAB (my_cP hP 2 rfl)⟩ rfl rfl hl.1 rfl (lv_room (Nat.le_of_ble_eq_true rfl)) dX7_wholeValue_38 ⟨Nat.zero_le _, Nat.zero_le _⟩) ?_
        exact W.iret hx hb hr (fun t ht hW => ⟨(f_X3_wholeValue w x1), rfl, (show f_X7_wholeValue st v w tx x1 = (f_X3_wholeValue w x1) from by rw [f_X7_wholeValue, if_neg c_1, if_neg c_2, if_neg c_3]).symm, ht⟩) (fun q hq => absurd hq List.not_mem_nil) dX7_wholeValue_41
      · refine lv_aload_n hx hb dX7_wholeValue_25 rfl (lv_at hl 0 rfl) ?_
        refine va_get (D := D) (ci := 5) (v := .ref (b7 0)) (C := RX7) (T := TX7) (N := 7) hx hb hts inX7 hown hK0.1 hP 0 rfl rfl 0 (by decide) (hts (.fieldLink RX7 10 "PivotChamber" "setting" "LPivotChamber$Setting;") (List.mem_of_getElem? (i := 2) rfl)) (fun _ h9 => h9) rfl dX7_wholeValue_26 ?_
        refine lv_iload_n hx hb dX7_wholeValue_29 rfl (lv_at hl 2 rfl) ?_
        refine rd_goi (va_runV (C := RX6) (As := [.int x1]) (rest := []) S (c_X6_wholeValue l D cy g B b7 v x1) (cwV 1 hts gX7_wholeValue_X6_wholeValue rfl rfl rfl hd_X6_wholeValue_V ⟨Nat.le_of_ble_eq_true rfl, Nat.le_of_ble_eq_true rfl⟩) ⟨rdP_blind, va_recv hK0.1 hP (ci := 4) (q0 := 1) rfl rfl, my_preP hK0 hS hAB (my_cP hP 1 rfl)⟩ rfl rfl hl.1 rfl (lv_room (Nat.le_of_ble_eq_true rfl)) dX7_wholeValue_30 ⟨Nat.zero_le _, Nat.zero_le _⟩) ?_
        refine lv_goto (tgt := 41) hx hb dX7_wholeValue_33 (by decide) ?_
        exact W.iret hx hb hr (fun t ht hW => ⟨(f_X6_wholeValue v x1), rfl, (show f_X7_wholeValue st v w tx x1 = (f_X6_wholeValue v x1) from by rw [f_X7_wholeValue, if_neg c_1, if_neg c_2, if_pos c_3]).symm, ht⟩) (fun q hq => absurd hq List.not_mem_nil) dX7_wholeValue_41
  · refine lv_aload_n hx hb dX7_wholeValue_6 rfl (lv_at hl 0 rfl) ?_
    refine va_get (D := D) (ci := 5) (v := .ref (k7 0)) (C := RX7) (T := TX7) (N := 7) hx hb hts inX7 hown hK0.1 hP 0 rfl rfl 6 (by decide) (hts (.fieldLink RX7 43 "PivotChamber" "text" "LPivotChamber$CommandText;") (List.mem_of_getElem? (i := 1) rfl)) (fun _ h9 => h9) rfl dX7_wholeValue_7 ?_
    refine va_getN (D := D) (ci := 0) (v := .int tx.1) (C := RX2) (T := TX2) (N := 6) (host := "PivotChamber") hx hb hts inX2 hown hK0.1 hP 25 rfl rfl 1 (by decide) (va_Nw.use rfl (hK0.2.1.1.f 2 rfl)) (fun _ h9 => h9) rfl dX7_wholeValue_10 ?_
    exact W.iret hx hb hr (fun t ht hW => ⟨tx.1, rfl, (show f_X7_wholeValue st v w tx x1 = tx.1 from by rw [f_X7_wholeValue, if_pos c_1]).symm, ht⟩) (fun q hq => absurd hq List.not_mem_nil) dX7_wholeValue_13
theorem hd_X7_perform_S : yX7_perform.cls ≠ "java/lang/invoke/MethodHandle" ∧ yX7_perform.cls ≠ "java/lang/invoke/VarHandle" ∧ (parseMethodDescriptor yX7_perform.desc).map (fun d => d.parameters.length) = some 3 := by decide +kernel
theorem hd_X7_perform_V : yX7_perform.cls = RX7 ∧ yX7_perform.cls ≠ "java/lang/invoke/MethodHandle" ∧ yX7_perform.cls ≠ "java/lang/invoke/VarHandle" ∧ (parseMethodDescriptor yX7_perform.desc).map (fun d => d.parameters.length) = some 3 := ⟨rfl, hd_X7_perform_S⟩
def f_X7_perform (st : Int32) (v : SetV) (z : (Int32 × Int32)) (s0 : SetV) (s1 : SetV) (s2 : SetV) (s3 : SetV) (x0 : Nat) (x1 : Int32) (x2 : Int32) : Int32 ⊕ (Int32 × (Int32 × SetV × (Int32 × Int32) × SetV × SetV × SetV × SetV)) := (my_rf (f_X6_faultOf v x0 x1 x2) (my_l (f_X5_keep z v s0 s1 s2 s3) (fun (u_2 : (Int32 × Int32) × SetV × SetV × SetV × SetV) => (my_b (f_X6_carryOut v x0 x1 x2) (fun (r_6 : Int32) (u_4 : SetV) => (.inr (r_6, (1, u_4, u_2.1, u_2.2.1, u_2.2.2.1, u_2.2.2.2.1, u_2.2.2.2.2))))))))
set_option maxHeartbeats 400000 in
set_option maxRecDepth 100000 in
theorem c_X7_perform (l : Launch) (hl0 : l.stackTraces = false) (D : va_G) (cy : Nat → ClassId) (g : Nat → Nat) (B : Nat) (p70 : Nat) (b7 : Nat → Nat) (c7 : Nat → Nat) (d7 : Nat → Nat) (e7 : Nat → Nat) (h7 : Nat → Nat) (k7 : Nat → Nat) (q : Nat → Nat → Nat) (st : Int32) (v : SetV) (z : (Int32 × Int32)) (s0 : SetV) (s1 : SetV) (s2 : SetV) (s3 : SetV) (x0 : Nat) (x1 : Int32) (x2 : Int32) (hx0 : x0 < 7) : vx_Met l yX7_perform wsX7_perform ({ frames := 7, cells := 1, slots := 6, locals := 110 }) (muP D cy g B (List.flatten [(wPCo p70 b7 c7 d7 e7 h7 k7 st), (wSet cy b7 v), (wSav cy q h7 z), (wSet cy (q 0) s0), (wSet cy (q 1) s1), (wSet cy (q 2) s2), (wSet cy (q 3) s3)]) [.ref p70, .ref (g (10 + x0)), .int x1, .int x2]) (va_Qi (fun (r : Int32) (u : Int32 × SetV × (Int32 × Int32) × SetV × SetV × SetV × SetV) => f_X7_perform st v z s0 s1 s2 s3 x0 x1 x2 = .inr (r, u)) (fun u t => va_P D vwCl (List.flatten [(wPCo p70 b7 c7 d7 e7 h7 k7 u.1), (wSet cy b7 u.2.1), (wSav cy q h7 u.2.2.1), (wSet cy (q 0) u.2.2.2.1), (wSet cy (q 1) u.2.2.2.2.1), (wSet cy (q 2) u.2.2.2.2.2.1), (wSet cy (q 3) u.2.2.2.2.2.2)]) t.heap) (muA (List.flatten [(wPCo p70 b7 c7 d7 e7 h7 k7 st), (wSet cy b7 v), (wSav cy q h7 z), (wSet cy (q 0) s0), (wSet cy (q 1) s1), (wSet cy (q 2) s2), (wSet cy (q 3) s3)]))) (vx_X (fun (k : Int32) => f_X7_perform st v z s0 s1 s2 s3 x0 x1 x2 = .inl k) (fun E k t => exE k E ∧ va_P D vwCl (List.flatten [(wPCo p70 b7 c7 d7 e7 h7 k7 st), (wSet cy b7 v), (wSav cy q h7 z), (wSet cy (q 0) s0), (wSet cy (q 1) s1), (wSet cy (q 2) s2), (wSet cy (q 3) s3)]) t.heap) (muA (List.flatten [(wPCo p70 b7 c7 d7 e7 h7 k7 st), (wSet cy b7 v), (wSav cy q h7 z), (wSet cy (q 0) s0), (wSet cy (q 1) s1), (wSet cy (q 2) s2), (wSet cy (q 3) s3)]))) 1 6 (muA (List.flatten [(wPCo p70 b7 c7 d7 e7 h7 k7 st), (wSet cy b7 v), (wSav cy q h7 z), (wSet cy (q 0) s0), (wSet cy (q 1) s1), (wSet cy (q 2) s2), (wSet cy (q 3) s3)])) := by
  refine vx_ofW (cc := cX7_perform) (maxL := 4) (ret := (some .int)) (by decide) rfl ?_
  intro p e s m args below meth c s₁ BB hml hout hv
  obtain ⟨rfl, hP, hK0, hD0⟩ := hv
  have hx := BB.exec
  have hb := BB.bytes
  have hr := BB.returns
  have hts := atoms_spec (ws := wsX7_perform) BB.pre
  have hown : s.vm.findClass RX7 = some m.cls := findClass_of_methodNamed BB.named
  have hlocks := BB.notSynchronized
  have S := my_fix hx hb hml hown hts
  have inX7 : ∀ w ∈ wsX70, w ∈ wsX7_perform := fun w h => List.mem_cons_of_mem _ (List.mem_append_left _ (List.mem_append_left _ (List.mem_append_left _ (List.mem_append_left _ (List.mem_append_left _ (List.mem_append_left _ (List.mem_append_right _ h)))))))
  have hAB := muB hD0
  have hD := muD hD0
  generalize hAe : muA (List.flatten [(wPCo p70 b7 c7 d7 e7 h7 k7 st), (wSet cy b7 v), (wSav cy q h7 z), (wSet cy (q 0) s0), (wSet cy (q 1) s1), (wSet cy (q 2) s2), (wSet cy (q 3) s3)]) = A at hAB hD ⊢
  have hS : va_S A s.heap s.heap [] := va_S.rf
  have hl := lv_entry ([.ref p70, .ref (g (10 + x0)), .int x1, .int x2]) (n := 4) (Nat.le_of_ble_eq_true rfl)
  rw [lg_entry_eq]
  generalize (lg_sl ([.ref p70, .ref (g (10 + x0)), .int x1, .int x2]) ++ List.replicate (4 - (lg_sl ([.ref p70, .ref (g (10 + x0)), .int x1, .int x2])).length) Slot.unset).toArray = ls at hl ⊢
  have hl : lv_has ls 4 [(0, .ref p70), (1, .ref (g (10 + x0))), (2, .int x1), (3, .int x2)] := hl
  refine lv_aload_n hx hb dX7_perform_0 rfl (lv_at hl 0 rfl) ?_
  refine va_get (D := D) (ci := 5) (v := .ref (b7 0)) (C := RX7) (T := TX7) (N := 7) hx hb hts inX7 hown hK0.1 hP 0 rfl rfl 0 (by decide) (hts (.fieldLink RX7 10 "PivotChamber" "setting" "LPivotChamber$Setting;") (List.mem_of_getElem? (i := 1) rfl)) (fun _ h9 => h9) rfl dX7_perform_1 ?_
  refine lv_aload_n hx hb dX7_perform_4 rfl (lv_at hl 1 rfl) ?_
  refine lv_iload_n hx hb dX7_perform_5 rfl (lv_at hl 2 rfl) ?_
  refine lv_iload_n hx hb dX7_perform_6 rfl (lv_at hl 3 rfl) ?_
  refine rd_goi (va_runV (C := RX6) (As := [.ref (g (10 + x0)), .int x1, .int x2]) (rest := []) S (c_X6_faultOf l D cy g B b7 v x0 x1 x2 hx0) (cwV 3 hts gX7_perform_X6_faultOf rfl rfl rfl hd_X6_faultOf_V ⟨Nat.le_of_ble_eq_true rfl, Nat.le_of_ble_eq_true rfl⟩) ⟨rdP_blind, va_recv hK0.1 hP (ci := 4) (q0 := 1) rfl rfl, my_preP hK0 hS hAB (my_cP hP 1 rfl)⟩ rfl rfl hl.1 rfl (lv_room (Nat.le_of_ble_eq_true rfl)) dX7_perform_7 ⟨Nat.le_of_ble_eq_true rfl, Nat.le_of_ble_eq_true rfl⟩) ?_
  refine my_rfx (vx_runS (As := [.int (f_X6_faultOf v x0 x1 x2)]) (rest := []) S (c_X7_refuse l hl0 D cy g B (f_X6_faultOf v x0 x1 x2)) (va_cwS 1 hts gX7_perform_X7_refuse rfl rfl rfl hd_X7_refuse_S ⟨Nat.le_of_ble_eq_true rfl, Nat.le_of_ble_eq_true rfl⟩) ⟨rdP_blind, my_preV hK0 hS hAB hP [] rfl⟩ rfl rfl hl.1 rfl (lv_room (Nat.le_of_ble_eq_true rfl)) dX7_perform_10 ⟨Nat.le_of_ble_eq_true rfl, Nat.le_of_ble_eq_true rfl⟩) hS hP hout hlocks (fun _ h => h) (Nat.le_of_ble_eq_true rfl) (Nat.le_of_ble_eq_true rfl) (fun hrf_1 E t h1 h2 h3 => ⟨(f_X6_faultOf v x0 x1 x2), (show f_X7_perform st v z s0 s1 s2 s3 x0 x1 x2 = .inl (f_X6_faultOf v x0 x1 x2) from by rw [f_X7_perform, my_rf_no hrf_1]), ⟨h1, h2⟩, h3⟩) (fun hrf_1 H locs hP hS => ?_)
  have hP : va_P D vwCl (List.flatten [(wPCo p70 b7 c7 d7 e7 h7 k7 st), (wSet cy b7 v), (wSav cy q h7 z), (wSet cy (q 0) s0), (wSet cy (q 1) s1), (wSet cy (q 2) s2), (wSet cy (q 3) s3)]) H := hP
  refine lv_aload_n hx hb dX7_perform_13 rfl (lv_at hl 0 rfl) ?_
  refine va_get (D := D) (ci := 5) (v := .ref (h7 0)) (C := RX7) (T := TX7) (N := 7) hx hb hts inX7 hown hK0.1 hP 0 rfl rfl 5 (by decide) (hts (.fieldLink RX7 36 "PivotChamber" "saved" "LPivotChamber$SavedSettings;") (List.mem_of_getElem? (i := 2) rfl)) (fun _ h9 => h9) rfl dX7_perform_14 ?_
  refine lv_aload_n hx hb dX7_perform_17 rfl (lv_at hl 0 rfl) ?_
  refine va_get (D := D) (ci := 5) (v := .ref (b7 0)) (C := RX7) (T := TX7) (N := 7) hx hb hts inX7 hown hK0.1 hP 0 rfl rfl 0 (by decide) (hts (.fieldLink RX7 10 "PivotChamber" "setting" "LPivotChamber$Setting;") (List.mem_of_getElem? (i := 1) rfl)) (fun _ h9 => h9) rfl dX7_perform_18 ?_
  refine mu_compv (wcs := [(wSav cy q h7 z), (wSet cy b7 v), (wSet cy (q 0) s0), (wSet cy (q 1) s1), (wSet cy (q 2) s2), (wSet cy (q 3) s3)]) (wns := fun (u_2 : (Int32 × Int32) × SetV × SetV × SetV × SetV) => [(wSav cy q h7 u_2.1), (wSet cy b7 v), (wSet cy (q 0) u_2.2.1), (wSet cy (q 1) u_2.2.2.1), (wSet cy (q 2) u_2.2.2.2.1), (wSet cy (q 3) u_2.2.2.2.2)]) (W2 := fun (u_2 : (Int32 × Int32) × SetV × SetV × SetV × SetV) => [(wPCo p70 b7 c7 d7 e7 h7 k7 st), (wSet cy b7 v), (wSav cy q h7 u_2.1), (wSet cy (q 0) u_2.2.1), (wSet cy (q 1) u_2.2.2.1), (wSet cy (q 2) u_2.2.2.2.1), (wSet cy (q 3) u_2.2.2.2.2)]) (va_runV (C := RX5) (As := [.ref (b7 0)]) (rest := []) S (c_X5_keep l D cy g B h7 q b7 z v s0 s1 s2 s3) (cwV 1 hts gX7_perform_X5_keep rfl rfl rfl hd_X5_keep_V ⟨Nat.le_of_ble_eq_true rfl, Nat.le_of_ble_eq_true rfl⟩) ⟨muP_blind, va_recv hK0.1 hP (ci := 3) (q0 := 10) rfl rfl, my_preC (wcs := [(wSav cy q h7 z), (wSet cy b7 v), (wSet cy (q 0) s0), (wSet cy (q 1) s1), (wSet cy (q 2) s2), (wSet cy (q 3) s3)]) hK0 hS hAB hP hD [2, 1, 3, 4, 5, 6] (by decide) rfl rfl⟩ rfl rfl hl.1 rfl (lv_room (Nat.le_of_ble_eq_true rfl)) dX7_perform_21 ⟨Nat.le_of_ble_eq_true rfl, Nat.le_of_ble_eq_true rfl⟩) hS hP hD [2, 1, 3, 4, 5, 6] rfl rfl (fun _ => rfl) (fun _ => by simp only [List.map_cons, List.map_nil, adrSet, adrSetE, adrPow, adrPowE, adrTxt, adrTxtE, adrSav, adrSavE, adrPCo, adrI, adrL]) (fun _ => rfl) (fun u_2 H locs hw_3 hP hD hS => ?_)
  refine lv_aload_n hx hb dX7_perform_24 rfl (lv_at hl 0 rfl) ?_
  refine lv_iconst (v := 1) hx hb dX7_perform_25 (by decide) ?_
  refine va_put (D := D) (ci := 5) (v := .int 1) (ty := .boolean) (C := RX7) (T := TX7) (N := 7) hx hb hts inX7 tyX7 tyX7_ok nmX7 hown hK0.1 hP hD hS 0 rfl rfl 2 (by decide) (hts (.fieldLink RX7 23 "PivotChamber" "stale" "Z") (List.mem_of_getElem? (i := 3) rfl)) (fun _ h9 => h9) rfl (by decide +kernel) (by decide) (by decide) (Nat.le_of_ble_eq_true rfl) dX7_perform_26 (fun H locs hP hD hS => ?_)
  have hP : va_P D vwCl (List.flatten [(wPCo p70 b7 c7 d7 e7 h7 k7 1), (wSet cy b7 v), (wSav cy q h7 u_2.1), (wSet cy (q 0) u_2.2.1), (wSet cy (q 1) u_2.2.2.1), (wSet cy (q 2) u_2.2.2.2.1), (wSet cy (q 3) u_2.2.2.2.2)]) H := hP
  have hD : va_D A (List.flatten [(wPCo p70 b7 c7 d7 e7 h7 k7 1), (wSet cy b7 v), (wSav cy q h7 u_2.1), (wSet cy (q 0) u_2.2.1), (wSet cy (q 1) u_2.2.2.1), (wSet cy (q 2) u_2.2.2.2.1), (wSet cy (q 3) u_2.2.2.2.2)]) := hD
  refine lv_aload_n hx hb dX7_perform_29 rfl (lv_at hl 0 rfl) ?_
  refine va_get (D := D) (ci := 5) (v := .ref (b7 0)) (C := RX7) (T := TX7) (N := 7) hx hb hts inX7 hown hK0.1 hP 0 rfl rfl 0 (by decide) (hts (.fieldLink RX7 10 "PivotChamber" "setting" "LPivotChamber$Setting;") (List.mem_of_getElem? (i := 1) rfl)) (fun _ h9 => h9) rfl dX7_perform_30 ?_
  refine lv_aload_n hx hb dX7_perform_33 rfl (lv_at hl 1 rfl) ?_
  refine lv_iload_n hx hb dX7_perform_34 rfl (lv_at hl 2 rfl) ?_
  refine lv_iload_n hx hb dX7_perform_35 rfl (lv_at hl 3 rfl) ?_
  refine mu_compi (wcs := [(wSet cy b7 v)]) (wns := fun (u_4 : SetV) => [(wSet cy b7 u_4)]) (W2 := fun (u_4 : SetV) => [(wPCo p70 b7 c7 d7 e7 h7 k7 1), (wSet cy b7 u_4), (wSav cy q h7 u_2.1), (wSet cy (q 0) u_2.2.1), (wSet cy (q 1) u_2.2.2.1), (wSet cy (q 2) u_2.2.2.2.1), (wSet cy (q 3) u_2.2.2.2.2)]) (va_runV (C := RX6) (As := [.ref (g (10 + x0)), .int x1, .int x2]) (rest := []) S (c_X6_carryOut l D cy g B b7 v x0 x1 x2 hx0) (cwV 3 hts gX7_perform_X6_carryOut rfl rfl rfl hd_X6_carryOut_V ⟨Nat.le_of_ble_eq_true rfl, Nat.le_of_ble_eq_true rfl⟩) ⟨muP_blind, va_recv hK0.1 hP (ci := 4) (q0 := 1) rfl rfl, my_preC (wcs := [(wSet cy b7 v)]) hK0 hS hAB hP hD [1] (by decide) rfl (List.append_nil _)⟩ rfl rfl hl.1 rfl (lv_room (Nat.le_of_ble_eq_true rfl)) dX7_perform_36 ⟨Nat.le_of_ble_eq_true rfl, Nat.le_of_ble_eq_true rfl⟩) hS hP hD [1] rfl (List.append_nil _) (fun _ => List.append_nil _) (fun _ => by simp only [List.map_cons, List.map_nil, adrSet, adrSetE, adrPow, adrPowE, adrTxt, adrTxtE, adrSav, adrSavE, adrPCo, adrI, adrL]) (fun _ => rfl) (fun r_6 u_4 H locs hw_5 hP hD hS => ?_)
  refine vx_ret ?_
  exact W.iret hx hb hr (fun t ht hW => ⟨⟨r_6, (1, u_4, u_2.1, u_2.2.1, u_2.2.2.1, u_2.2.2.2.1, u_2.2.2.2.2), rfl, (show f_X7_perform st v z s0 s1 s2 s3 x0 x1 x2 = (.inr (r_6, (1, u_4, u_2.1, u_2.2.1, u_2.2.2.1, u_2.2.2.2.1, u_2.2.2.2.2))) from by rw [f_X7_perform, my_rf_ok hrf_1, hw_3, my_l_eq, hw_5, my_b_eq]), by show va_P D vwCl _ t.heap; rw [ht]; exact hP⟩, hS.F ht⟩) hS.2.2 dX7_perform_39
