theorem hd_X7_member_S : yX7_member.cls ≠ "java/lang/invoke/MethodHandle" ∧ yX7_member.cls ≠ "java/lang/invoke/VarHandle" ∧ (parseMethodDescriptor yX7_member.desc).map (fun d => d.parameters.length) = some 2 := by decide +kernel
theorem hd_X7_member_V : yX7_member.cls = RX7 ∧ yX7_member.cls ≠ "java/lang/invoke/MethodHandle" ∧ yX7_member.cls ≠ "java/lang/invoke/VarHandle" ∧ (parseMethodDescriptor yX7_member.desc).map (fun d => d.parameters.length) = some 2 := ⟨rfl, hd_X7_member_S⟩
def f_X7_member (st : Int32) (v : SetV) (w : PowV) (x0 : Int32) (x1 : Int32) : Int32 ⊕ (Int32 × (Int32 × PowV)) := (my_rf (f_X6_faultOfMember v x0) (my_rf (f_X7_faultOfRange x1 0 7) (my_l (f_X7_measured st v w) (fun (u_3 : Int32 × PowV) => (.inr ((f_X7_memberValue u_3.1 v u_3.2 x0 x1), (u_3.1, u_3.2)))))))
set_option maxHeartbeats 400000 in
set_option maxRecDepth 100000 in
theorem c_X7_member (l : Launch) (hl0 : l.stackTraces = false) (D : va_G) (cy : Nat → ClassId) (g : Nat → Nat) (B : Nat) (p70 : Nat) (b7 : Nat → Nat) (c7 : Nat → Nat) (d7 : Nat → Nat) (e7 : Nat → Nat) (h7 : Nat → Nat) (k7 : Nat → Nat) (st : Int32) (v : SetV) (w : PowV) (x0 : Int32) (x1 : Int32) : vx_Met l yX7_member wsX7_member ({ frames := 7, cells := 2, slots := 12, locals := 132 }) (muP D cy g B (List.flatten [(wPCo p70 b7 c7 d7 e7 h7 k7 st), (wSet cy b7 v), (wPow cy c7 w)]) [.ref p70, .int x0, .int x1]) (va_Qi (fun (r : Int32) (u : Int32 × PowV) => f_X7_member st v w x0 x1 = .inr (r, u)) (fun u t => va_P D vwCl (List.flatten [(wPCo p70 b7 c7 d7 e7 h7 k7 u.1), (wSet cy b7 v), (wPow cy c7 u.2)]) t.heap) (muA (List.flatten [(wPCo p70 b7 c7 d7 e7 h7 k7 st), (wSet cy b7 v), (wPow cy c7 w)]))) (vx_X (fun (k : Int32) => f_X7_member st v w x0 x1 = .inl k) (fun E k t => exE k E ∧ va_P D vwCl (List.flatten [(wPCo p70 b7 c7 d7 e7 h7 k7 st), (wSet cy b7 v), (wPow cy c7 w)]) t.heap) (muA (List.flatten [(wPCo p70 b7 c7 d7 e7 h7 k7 st), (wSet cy b7 v), (wPow cy c7 w)]))) 2 12 (muA (List.flatten [(wPCo p70 b7 c7 d7 e7 h7 k7 st), (wSet cy b7 v), (wPow cy c7 w)])) := by
  refine vx_ofW (cc := cX7_member) (maxL := 3) (ret := (some .int)) (by decide) rfl ?_
  intro p e s m args below meth c s₁ BB hml hout hv
  obtain ⟨rfl, hP, hK0, hD0⟩ := hv
  have hx := BB.exec
  have hb := BB.bytes
  have hr := BB.returns
  have hts := atoms_spec (ws := wsX7_member) BB.pre
  have hown : s.vm.findClass RX7 = some m.cls := findClass_of_methodNamed BB.named
  have hlocks := BB.notSynchronized
  have S := my_fix hx hb hml hown hts
  have inX7 : ∀ w ∈ wsX70, w ∈ wsX7_member := fun w h => List.mem_cons_of_mem _ (List.mem_append_left _ (List.mem_append_left _ (List.mem_append_left _ (List.mem_append_left _ (List.mem_append_left _ (List.mem_append_left _ (List.mem_append_right _ h)))))))
  have hAB := muB hD0
  have hD := muD hD0
  generalize hAe : muA (List.flatten [(wPCo p70 b7 c7 d7 e7 h7 k7 st), (wSet cy b7 v), (wPow cy c7 w)]) = A at hAB hD ⊢
  have hS : va_S A s.heap s.heap [] := va_S.rf
  have hl := lv_entry ([.ref p70, .int x0, .int x1]) (n := 3) (Nat.le_of_ble_eq_true rfl)
  rw [lg_entry_eq]
  generalize (lg_sl ([.ref p70, .int x0, .int x1]) ++ List.replicate (3 - (lg_sl ([.ref p70, .int x0, .int x1])).length) Slot.unset).toArray = ls at hl ⊢
  have hl : lv_has ls 3 [(0, .ref p70), (1, .int x0), (2, .int x1)] := hl
  refine lv_aload_n hx hb dX7_member_0 rfl (lv_at hl 0 rfl) ?_
  refine va_get (D := D) (ci := 5) (v := .ref (b7 0)) (C := RX7) (T := TX7) (N := 7) hx hb hts inX7 hown hK0.1 hP 0 rfl rfl 0 (by decide) (hts (.fieldLink RX7 10 "PivotChamber" "setting" "LPivotChamber$Setting;") (List.mem_of_getElem? (i := 1) rfl)) (fun _ h9 => h9) rfl dX7_member_1 ?_
  refine lv_iload_n hx hb dX7_member_4 rfl (lv_at hl 1 rfl) ?_
  refine rd_goi (va_runV (C := RX6) (As := [.int x0]) (rest := []) S (c_X6_faultOfMember l D cy g B b7 v x0) (cwV 1 hts gX7_member_X6_faultOfMember rfl rfl rfl hd_X6_faultOfMember_V ⟨Nat.le_of_ble_eq_true rfl, Nat.le_of_ble_eq_true rfl⟩) ⟨rdP_blind, va_recv hK0.1 hP (ci := 4) (q0 := 1) rfl rfl, my_preP hK0 hS hAB (my_cP hP 1 rfl)⟩ rfl rfl hl.1 rfl (lv_room (Nat.le_of_ble_eq_true rfl)) dX7_member_5 ⟨Nat.le_of_ble_eq_true rfl, Nat.le_of_ble_eq_true rfl⟩) ?_
  refine my_rfx (vx_runS (As := [.int (f_X6_faultOfMember v x0)]) (rest := []) S (c_X7_refuse l hl0 D cy g B (f_X6_faultOfMember v x0)) (va_cwS 1 hts gX7_member_X7_refuse rfl rfl rfl hd_X7_refuse_S ⟨Nat.le_of_ble_eq_true rfl, Nat.le_of_ble_eq_true rfl⟩) ⟨rdP_blind, my_preV hK0 hS hAB hP [] rfl⟩ rfl rfl hl.1 rfl (lv_room (Nat.le_of_ble_eq_true rfl)) dX7_member_8 ⟨Nat.le_of_ble_eq_true rfl, Nat.le_of_ble_eq_true rfl⟩) hS hP hout hlocks (fun _ h => h) (Nat.le_of_ble_eq_true rfl) (Nat.le_of_ble_eq_true rfl) (fun hrf_1 E t h1 h2 h3 => ⟨(f_X6_faultOfMember v x0), (show f_X7_member st v w x0 x1 = .inl (f_X6_faultOfMember v x0) from by rw [f_X7_member, my_rf_no hrf_1]), ⟨h1, h2⟩, h3⟩) (fun hrf_1 H locs hP hS => ?_)
  have hP : va_P D vwCl (List.flatten [(wPCo p70 b7 c7 d7 e7 h7 k7 st), (wSet cy b7 v), (wPow cy c7 w)]) H := hP
  refine lv_iload_n hx hb dX7_member_11 rfl (lv_at hl 2 rfl) ?_
  refine lv_iconst (v := 0) hx hb dX7_member_12 (by decide) ?_
  refine lv_bipush (v := 7) hx hb dX7_member_13 (by decide) ?_
  refine rd_goi (va_runS (As := [.int x1, .int 0, .int 7]) (rest := []) S (c_X7_faultOfRange l D cy g B x1 0 7) (va_cwS 3 hts gX7_member_X7_faultOfRange rfl rfl rfl hd_X7_faultOfRange_S ⟨Nat.le_of_ble_eq_true rfl, Nat.le_of_ble_eq_true rfl⟩) ⟨rdP_blind, my_preV hK0 hS hAB hP [] rfl⟩ rfl rfl hl.1 rfl (lv_room (Nat.le_of_ble_eq_true rfl)) dX7_member_15 ⟨Nat.le_of_ble_eq_true rfl, Nat.le_of_ble_eq_true rfl⟩) ?_
  refine my_rfx (vx_runS (As := [.int (f_X7_faultOfRange x1 0 7)]) (rest := []) S (c_X7_refuse l hl0 D cy g B (f_X7_faultOfRange x1 0 7)) (va_cwS 1 hts gX7_member_X7_refuse rfl rfl rfl hd_X7_refuse_S ⟨Nat.le_of_ble_eq_true rfl, Nat.le_of_ble_eq_true rfl⟩) ⟨rdP_blind, my_preV hK0 hS hAB hP [] rfl⟩ rfl rfl hl.1 rfl (lv_room (Nat.le_of_ble_eq_true rfl)) dX7_member_18 ⟨Nat.le_of_ble_eq_true rfl, Nat.le_of_ble_eq_true rfl⟩) hS hP hout hlocks (fun _ h => h) (Nat.le_of_ble_eq_true rfl) (Nat.le_of_ble_eq_true rfl) (fun hrf_2 E t h1 h2 h3 => ⟨(f_X7_faultOfRange x1 0 7), (show f_X7_member st v w x0 x1 = .inl (f_X7_faultOfRange x1 0 7) from by rw [f_X7_member, my_rf_ok hrf_1, my_rf_no hrf_2]), ⟨h1, h2⟩, h3⟩) (fun hrf_2 H locs hP hS => ?_)
  have hP : va_P D vwCl (List.flatten [(wPCo p70 b7 c7 d7 e7 h7 k7 st), (wSet cy b7 v), (wPow cy c7 w)]) H := hP
  refine lv_aload_n hx hb dX7_member_21 rfl (lv_at hl 0 rfl) ?_
  refine lv_aload_n hx hb dX7_member_22 rfl (lv_at hl 0 rfl) ?_
  refine mu_allr (wf := fun (u_3 : Int32 × PowV) => (List.flatten [(wPCo p70 b7 c7 d7 e7 h7 k7 u_3.1), (wSet cy b7 v), (wPow cy c7 u_3.2)])) (va_runV (C := RX7) (As := []) (rest := [.ref p70]) S (c_X7_measured l D cy g B p70 b7 c7 d7 e7 h7 k7 st v w) (cwV 0 hts gX7_member_X7_measured rfl rfl rfl hd_X7_measured_V ⟨Nat.le_of_ble_eq_true rfl, Nat.le_of_ble_eq_true rfl⟩) ⟨muP_blind, va_recv hK0.1 hP (ci := 5) (q0 := 0) rfl rfl, my_preA hK0 hS hAB hP hD⟩ rfl rfl hl.1 rfl (lv_room (Nat.le_of_ble_eq_true rfl)) dX7_member_23 ⟨Nat.le_of_ble_eq_true rfl, Nat.le_of_ble_eq_true rfl⟩) hS hD (fun _ => my_flat_adr (by simp only [List.map_cons, List.map_nil, adrSet, adrSetE, adrPow, adrPowE, adrTxt, adrTxtE, adrSav, adrSavE, adrPCo, adrMod, adrModE])) (fun u_3 H locs hw_4 hP hD hS => ?_)
  refine lv_iload_n hx hb dX7_member_26 rfl (lv_at hl 1 rfl) ?_
  refine lv_iload_n hx hb dX7_member_27 rfl (lv_at hl 2 rfl) ?_
  refine rd_goi (va_runV (C := RX7) (As := [.ref (c7 0), .int x0, .int x1]) (rest := []) S (c_X7_memberValue l D cy g B p70 b7 c7 d7 e7 h7 k7 u_3.1 v u_3.2 x0 x1) (cwV 3 hts gX7_member_X7_memberValue rfl rfl rfl hd_X7_memberValue_V ⟨Nat.le_of_ble_eq_true rfl, Nat.le_of_ble_eq_true rfl⟩) ⟨rdP_blind, va_recv hK0.1 hP (ci := 5) (q0 := 0) rfl rfl, my_preP hK0 hS hAB hP⟩ rfl rfl hl.1 rfl (lv_room (Nat.le_of_ble_eq_true rfl)) dX7_member_28 ⟨Nat.le_of_ble_eq_true rfl, Nat.le_of_ble_eq_true rfl⟩) ?_
  refine vx_ret ?_
  exact W.iret hx hb hr (fun t ht hW => ⟨⟨(f_X7_memberValue u_3.1 v u_3.2 x0 x1), (u_3.1, u_3.2), rfl, (show f_X7_member st v w x0 x1 = (.inr ((f_X7_memberValue u_3.1 v u_3.2 x0 x1), (u_3.1, u_3.2))) from by rw [f_X7_member, my_rf_ok hrf_1, my_rf_ok hrf_2, hw_4, my_l_eq]), by show va_P D vwCl _ t.heap; rw [ht]; exact hP⟩, hS.F ht⟩) hS.2.2 dX7_member_31
theorem hd_X7_rule_S : yX7_rule.cls ≠ "java/lang/invoke/MethodHandle" ∧ yX7_rule.cls ≠ "java/lang/invoke/VarHandle" ∧ (parseMethodDescriptor yX7_rule.desc).map (fun d => d.parameters.length) = some 2 := by decide +kernel
theorem hd_X7_rule_V : yX7_rule.cls = RX7 ∧ yX7_rule.cls ≠ "java/lang/invoke/MethodHandle" ∧ yX7_rule.cls ≠ "java/lang/invoke/VarHandle" ∧ (parseMethodDescriptor yX7_rule.desc).map (fun d => d.parameters.length) = some 2 := ⟨rfl, hd_X7_rule_S⟩
def f_X7_rule (st : Int32) (v : SetV) (x0 : Int32) (x1 : Int32) : Int32 ⊕ (Int32 × Int32) := (my_rf (f_X6_faultOfRule v x0) (my_rf (f_X7_faultOfRange x1 0 2) (.inr ((f_X6_ruleValue v x0 x1), st))))
set_option maxHeartbeats 400000 in
set_option maxRecDepth 100000 in
theorem c_X7_rule (l : Launch) (hl0 : l.stackTraces = false) (D : va_G) (cy : Nat → ClassId) (g : Nat → Nat) (B : Nat) (p70 : Nat) (b7 : Nat → Nat) (c7 : Nat → Nat) (d7 : Nat → Nat) (e7 : Nat → Nat) (h7 : Nat → Nat) (k7 : Nat → Nat) (st : Int32) (v : SetV) (x0 : Int32) (x1 : Int32) : vx_Met l yX7_rule wsX7_rule ({ frames := 7, cells := 2, slots := 12, locals := 110 }) (muP D cy g B (List.flatten [(wPCo p70 b7 c7 d7 e7 h7 k7 st), (wSet cy b7 v)]) [.ref p70, .int x0, .int x1]) (va_Qi (fun (r : Int32) (u : Int32) => f_X7_rule st v x0 x1 = .inr (r, u)) (fun u t => va_P D vwCl (List.flatten [(wPCo p70 b7 c7 d7 e7 h7 k7 u), (wSet cy b7 v)]) t.heap) (muA (List.flatten [(wPCo p70 b7 c7 d7 e7 h7 k7 st), (wSet cy b7 v)]))) (vx_X (fun (k : Int32) => f_X7_rule st v x0 x1 = .inl k) (fun E k t => exE k E ∧ va_P D vwCl (List.flatten [(wPCo p70 b7 c7 d7 e7 h7 k7 st), (wSet cy b7 v)]) t.heap) (muA (List.flatten [(wPCo p70 b7 c7 d7 e7 h7 k7 st), (wSet cy b7 v)]))) 2 12 (muA (List.flatten [(wPCo p70 b7 c7 d7 e7 h7 k7 st), (wSet cy b7 v)])) := by
  refine vx_ofW (cc := cX7_rule) (maxL := 3) (ret := (some .int)) (by decide) rfl ?_
  intro p e s m args below meth c s₁ BB hml hout hv
  obtain ⟨rfl, hP, hK0, hD0⟩ := hv
  have hx := BB.exec
  have hb := BB.bytes
  have hr := BB.returns
  have hts := atoms_spec (ws := wsX7_rule) BB.pre
  have hown : s.vm.findClass RX7 = some m.cls := findClass_of_methodNamed BB.named
  have hlocks := BB.notSynchronized
  have S := my_fix hx hb hml hown hts
  have inX7 : ∀ w ∈ wsX70, w ∈ wsX7_rule := fun w h => List.mem_cons_of_mem _ (List.mem_append_left _ (List.mem_append_left _ (List.mem_append_left _ (List.mem_append_left _ (List.mem_append_left _ (List.mem_append_right _ h))))))
  have hAB := muB hD0
  have hD := muD hD0
  generalize hAe : muA (List.flatten [(wPCo p70 b7 c7 d7 e7 h7 k7 st), (wSet cy b7 v)]) = A at hAB hD ⊢
  have hS : va_S A s.heap s.heap [] := va_S.rf
  have hl := lv_entry ([.ref p70, .int x0, .int x1]) (n := 3) (Nat.le_of_ble_eq_true rfl)
  rw [lg_entry_eq]
  generalize (lg_sl ([.ref p70, .int x0, .int x1]) ++ List.replicate (3 - (lg_sl ([.ref p70, .int x0, .int x1])).length) Slot.unset).toArray = ls at hl ⊢
  have hl : lv_has ls 3 [(0, .ref p70), (1, .int x0), (2, .int x1)] := hl
  refine lv_aload_n hx hb dX7_rule_0 rfl (lv_at hl 0 rfl) ?_
  refine va_get (D := D) (ci := 5) (v := .ref (b7 0)) (C := RX7) (T := TX7) (N := 7) hx hb hts inX7 hown hK0.1 hP 0 rfl rfl 0 (by decide) (hts (.fieldLink RX7 10 "PivotChamber" "setting" "LPivotChamber$Setting;") (List.mem_of_getElem? (i := 1) rfl)) (fun _ h9 => h9) rfl dX7_rule_1 ?_
  refine lv_iload_n hx hb dX7_rule_4 rfl (lv_at hl 1 rfl) ?_
  refine rd_goi (va_runV (C := RX6) (As := [.int x0]) (rest := []) S (c_X6_faultOfRule l D cy g B b7 v x0) (cwV 1 hts gX7_rule_X6_faultOfRule rfl rfl rfl hd_X6_faultOfRule_V ⟨Nat.le_of_ble_eq_true rfl, Nat.le_of_ble_eq_true rfl⟩) ⟨rdP_blind, va_recv hK0.1 hP (ci := 4) (q0 := 1) rfl rfl, my_preP hK0 hS hAB (my_cP hP 1 rfl)⟩ rfl rfl hl.1 rfl (lv_room (Nat.le_of_ble_eq_true rfl)) dX7_rule_5 ⟨Nat.le_of_ble_eq_true rfl, Nat.le_of_ble_eq_true rfl⟩) ?_
  refine my_rfx (vx_runS (As := [.int (f_X6_faultOfRule v x0)]) (rest := []) S (c_X7_refuse l hl0 D cy g B (f_X6_faultOfRule v x0)) (va_cwS 1 hts gX7_rule_X7_refuse rfl rfl rfl hd_X7_refuse_S ⟨Nat.le_of_ble_eq_true rfl, Nat.le_of_ble_eq_true rfl⟩) ⟨rdP_blind, my_preV hK0 hS hAB hP [] rfl⟩ rfl rfl hl.1 rfl (lv_room (Nat.le_of_ble_eq_true rfl)) dX7_rule_8 ⟨Nat.le_of_ble_eq_true rfl, Nat.le_of_ble_eq_true rfl⟩) hS hP hout hlocks (fun _ h => h) (Nat.le_of_ble_eq_true rfl) (Nat.le_of_ble_eq_true rfl) (fun hrf_1 E t h1 h2 h3 => ⟨(f_X6_faultOfRule v x0), (show f_X7_rule st v x0 x1 = .inl (f_X6_faultOfRule v x0) from by rw [f_X7_rule, my_rf_no hrf_1]), ⟨h1, h2⟩, h3⟩) (fun hrf_1 H locs hP hS => ?_)
  have hP : va_P D vwCl (List.flatten [(wPCo p70 b7 c7 d7 e7 h7 k7 st), (wSet cy b7 v)]) H := hP
  refine lv_iload_n hx hb dX7_rule_11 rfl (lv_at hl 2 rfl) ?_
  refine lv_iconst (v := 0) hx hb dX7_rule_12 (by decide) ?_
  refine lv_iconst (v := 2) hx hb dX7_rule_13 (by decide) ?_
  refine rd_goi (va_runS (As := [.int x1, .int 0, .int 2]) (rest := []) S (c_X7_faultOfRange l D cy g B x1 0 2) (va_cwS 3 hts gX7_rule_X7_faultOfRange rfl rfl rfl hd_X7_faultOfRange_S ⟨Nat.le_of_ble_eq_true rfl, Nat.le_of_ble_eq_true rfl⟩) ⟨rdP_blind, my_preV hK0 hS hAB hP [] rfl⟩ rfl rfl hl.1 rfl (lv_room (Nat.le_of_ble_eq_true rfl)) dX7_rule_14 ⟨Nat.le_of_ble_eq_true rfl, Nat.le_of_ble_eq_true rfl⟩) ?_
  refine my_rfx (vx_runS (As := [.int (f_X7_faultOfRange x1 0 2)]) (rest := []) S (c_X7_refuse l hl0 D cy g B (f_X7_faultOfRange x1 0 2)) (va_cwS 1 hts gX7_rule_X7_refuse rfl rfl rfl hd_X7_refuse_S ⟨Nat.le_of_ble_eq_true rfl, Nat.le_of_ble_eq_true rfl⟩) ⟨rdP_blind, my_preV hK0 hS hAB hP [] rfl⟩ rfl rfl hl.1 rfl (lv_room (Nat.le_of_ble_eq_true rfl)) dX7_rule_17 ⟨Nat.le_of_ble_eq_true rfl, Nat.le_of_ble_eq_true rfl⟩) hS hP hout hlocks (fun _ h => h) (Nat.le_of_ble_eq_true rfl) (Nat.le_of_ble_eq_true rfl) (fun hrf_2 E t h1 h2 h3 => ⟨(f_X7_faultOfRange x1 0 2), (show f_X7_rule st v x0 x1 = .inl (f_X7_faultOfRange x1 0 2) from by rw [f_X7_rule, my_rf_ok hrf_1, my_rf_no hrf_2]), ⟨h1, h2⟩, h3⟩) (fun hrf_2 H locs hP hS => ?_)
  have hP : va_P D vwCl (List.flatten [(wPCo p70 b7 c7 d7 e7 h7 k7 st), (wSet cy b7 v)]) H := hP
  refine lv_aload_n hx hb dX7_rule_20 rfl (lv_at hl 0 rfl) ?_
  refine va_get (D := D) (ci := 5) (v := .ref (b7 0)) (C := RX7) (T := TX7) (N := 7) hx hb hts inX7 hown hK0.1 hP 0 rfl rfl 0 (by decide) (hts (.fieldLink RX7 10 "PivotChamber" "setting" "LPivotChamber$Setting;") (List.mem_of_getElem? (i := 1) rfl)) (fun _ h9 => h9) rfl dX7_rule_21 ?_
  refine lv_iload_n hx hb dX7_rule_24 rfl (lv_at hl 1 rfl) ?_
  refine lv_iload_n hx hb dX7_rule_25 rfl (lv_at hl 2 rfl) ?_
  refine rd_goi (va_runV (C := RX6) (As := [.int x0, .int x1]) (rest := []) S (c_X6_ruleValue l D cy g B b7 v x0 x1) (cwV 2 hts gX7_rule_X6_ruleValue rfl rfl rfl hd_X6_ruleValue_V ⟨Nat.le_of_ble_eq_true rfl, Nat.le_of_ble_eq_true rfl⟩) ⟨rdP_blind, va_recv hK0.1 hP (ci := 4) (q0 := 1) rfl rfl, my_preP hK0 hS hAB (my_cP hP 1 rfl)⟩ rfl rfl hl.1 rfl (lv_room (Nat.le_of_ble_eq_true rfl)) dX7_rule_26 ⟨Nat.le_of_ble_eq_true rfl, Nat.le_of_ble_eq_true rfl⟩) ?_
  refine vx_ret ?_
  exact W.iret hx hb hr (fun t ht hW => ⟨⟨(f_X6_ruleValue v x0 x1), st, rfl, (show f_X7_rule st v x0 x1 = (.inr ((f_X6_ruleValue v x0 x1), st)) from by rw [f_X7_rule, my_rf_ok hrf_1, my_rf_ok hrf_2]), by show va_P D vwCl _ t.heap; rw [ht]; exact hP⟩, hS.F ht⟩) hS.2.2 dX7_rule_29
theorem hd_X7_whole_S : yX7_whole.cls ≠ "java/lang/invoke/MethodHandle" ∧ yX7_whole.cls ≠ "java/lang/invoke/VarHandle" ∧ (parseMethodDescriptor yX7_whole.desc).map (fun d => d.parameters.length) = some 1 := by decide +kernel
theorem hd_X7_whole_V : yX7_whole.cls = RX7 ∧ yX7_whole.cls ≠ "java/lang/invoke/MethodHandle" ∧ yX7_whole.cls ≠ "java/lang/invoke/VarHandle" ∧ (parseMethodDescriptor yX7_whole.desc).map (fun d => d.parameters.length) = some 1 := ⟨rfl, hd_X7_whole_S⟩
def f_X7_whole (st : Int32) (v : SetV) (w : PowV) (tx : TxtV) (x0 : Int32) : Int32 ⊕ (Int32 × (Int32 × PowV)) := (my_rf (f_X7_faultOfRange x0 0 11) (my_l (f_X7_measured st v w) (fun (u_2 : Int32 × PowV) => (.inr ((f_X7_wholeValue u_2.1 v u_2.2 tx x0), (u_2.1, u_2.2))))))
set_option maxHeartbeats 400000 in
set_option maxRecDepth 100000 in
theorem c_X7_whole (l : Launch) (hl0 : l.stackTraces = false) (D : va_G) (cy : Nat → ClassId) (g : Nat → Nat) (B : Nat) (p70 : Nat) (b7 : Nat → Nat) (c7 : Nat → Nat) (d7 : Nat → Nat) (e7 : Nat → Nat) (h7 : Nat → Nat) (k7 : Nat → Nat) (st : Int32) (v : SetV) (w : PowV) (tx : TxtV) (x0 : Int32) : vx_Met l yX7_whole wsX7_whole ({ frames := 7, cells := 1, slots := 6, locals := 132 }) (muP D cy g B (List.flatten [(wPCo p70 b7 c7 d7 e7 h7 k7 st), (wSet cy b7 v), (wPow cy c7 w), (wTxt cy g k7 tx)]) [.ref p70, .int x0]) (va_Qi (fun (r : Int32) (u : Int32 × PowV) => f_X7_whole st v w tx x0 = .inr (r, u)) (fun u t => va_P D vwCl (List.flatten [(wPCo p70 b7 c7 d7 e7 h7 k7 u.1), (wSet cy b7 v), (wPow cy c7 u.2), (wTxt cy g k7 tx)]) t.heap) (muA (List.flatten [(wPCo p70 b7 c7 d7 e7 h7 k7 st), (wSet cy b7 v), (wPow cy c7 w), (wTxt cy g k7 tx)]))) (vx_X (fun (k : Int32) => f_X7_whole st v w tx x0 = .inl k) (fun E k t => exE k E ∧ va_P D vwCl (List.flatten [(wPCo p70 b7 c7 d7 e7 h7 k7 st), (wSet cy b7 v), (wPow cy c7 w), (wTxt cy g k7 tx)]) t.heap) (muA (List.flatten [(wPCo p70 b7 c7 d7 e7 h7 k7 st), (wSet cy b7 v), (wPow cy c7 w), (wTxt cy g k7 tx)]))) 1 6 (muA (List.flatten [(wPCo p70 b7 c7 d7 e7 h7 k7 st), (wSet cy b7 v), (wPow cy c7 w), (wTxt cy g k7 tx)])) := by
  refine vx_ofW (cc := cX7_whole) (maxL := 2) (ret := (some .int)) (by decide) rfl ?_
  intro p e s m args below meth c s₁ BB hml hout hv
  obtain ⟨rfl, hP, hK0, hD0⟩ := hv
  have hx := BB.exec
  have hb := BB.bytes
  have hr := BB.returns
  have hts := atoms_spec (ws := wsX7_whole) BB.pre
  have hown : s.vm.findClass RX7 = some m.cls := findClass_of_methodNamed BB.named
  have hlocks := BB.notSynchronized
  have S := my_fix hx hb hml hown hts
  have hAB := muB hD0
  have hD := muD hD0
  generalize hAe : muA (List.flatten [(wPCo p70 b7 c7 d7 e7 h7 k7 st), (wSet cy b7 v), (wPow cy c7 w), (wTxt cy g k7 tx)]) = A at hAB hD ⊢
  have hS : va_S A s.heap s.heap [] := va_S.rf
  have hl := lv_entry ([.ref p70, .int x0]) (n := 2) (Nat.le_of_ble_eq_true rfl)
  rw [lg_entry_eq]
  generalize (lg_sl ([.ref p70, .int x0]) ++ List.replicate (2 - (lg_sl ([.ref p70, .int x0])).length) Slot.unset).toArray = ls at hl ⊢
  have hl : lv_has ls 2 [(0, .ref p70), (1, .int x0)] := hl
  refine lv_iload_n hx hb dX7_whole_0 rfl (lv_at hl 1 rfl) ?_
  refine lv_iconst (v := 0) hx hb dX7_whole_1 (by decide) ?_
  refine lv_bipush (v := 11) hx hb dX7_whole_2 (by decide) ?_
  refine rd_goi (va_runS (As := [.int x0, .int 0, .int 11]) (rest := []) S (c_X7_faultOfRange l D cy g B x0 0 11) (va_cwS 3 hts gX7_whole_X7_faultOfRange rfl rfl rfl hd_X7_faultOfRange_S ⟨Nat.le_of_ble_eq_true rfl, Nat.le_of_ble_eq_true rfl⟩) ⟨rdP_blind, my_preV hK0 hS hAB hP [] rfl⟩ rfl rfl hl.1 rfl (lv_room (Nat.le_of_ble_eq_true rfl)) dX7_whole_4 ⟨Nat.le_of_ble_eq_true rfl, Nat.le_of_ble_eq_true rfl⟩) ?_
  refine my_rfx (vx_runS (As := [.int (f_X7_faultOfRange x0 0 11)]) (rest := []) S (c_X7_refuse l hl0 D cy g B (f_X7_faultOfRange x0 0 11)) (va_cwS 1 hts gX7_whole_X7_refuse rfl rfl rfl hd_X7_refuse_S ⟨Nat.le_of_ble_eq_true rfl, Nat.le_of_ble_eq_true rfl⟩) ⟨rdP_blind, my_preV hK0 hS hAB hP [] rfl⟩ rfl rfl hl.1 rfl (lv_room (Nat.le_of_ble_eq_true rfl)) dX7_whole_7 ⟨Nat.le_of_ble_eq_true rfl, Nat.le_of_ble_eq_true rfl⟩) hS hP hout hlocks (fun _ h => h) (Nat.le_of_ble_eq_true rfl) (Nat.le_of_ble_eq_true rfl) (fun hrf_1 E t h1 h2 h3 => ⟨(f_X7_faultOfRange x0 0 11), (show f_X7_whole st v w tx x0 = .inl (f_X7_faultOfRange x0 0 11) from by rw [f_X7_whole, my_rf_no hrf_1]), ⟨h1, h2⟩, h3⟩) (fun hrf_1 H locs hP hS => ?_)
  have hP : va_P D vwCl (List.flatten [(wPCo p70 b7 c7 d7 e7 h7 k7 st), (wSet cy b7 v), (wPow cy c7 w), (wTxt cy g k7 tx)]) H := hP
  refine lv_aload_n hx hb dX7_whole_10 rfl (lv_at hl 0 rfl) ?_
  refine lv_aload_n hx hb dX7_whole_11 rfl (lv_at hl 0 rfl) ?_
  refine mu_compr (wcs := [(wPCo p70 b7 c7 d7 e7 h7 k7 st), (wSet cy b7 v), (wPow cy c7 w)]) (wns := fun (u_2 : Int32 × PowV) => [(wPCo p70 b7 c7 d7 e7 h7 k7 u_2.1), (wSet cy b7 v), (wPow cy c7 u_2.2)]) (W2 := fun (u_2 : Int32 × PowV) => [(wPCo p70 b7 c7 d7 e7 h7 k7 u_2.1), (wSet cy b7 v), (wPow cy c7 u_2.2), (wTxt cy g k7 tx)]) (va_runV (C := RX7) (As := []) (rest := [.ref p70]) S (c_X7_measured l D cy g B p70 b7 c7 d7 e7 h7 k7 st v w) (cwV 0 hts gX7_whole_X7_measured rfl rfl rfl hd_X7_measured_V ⟨Nat.le_of_ble_eq_true rfl, Nat.le_of_ble_eq_true rfl⟩) ⟨muP_blind, va_recv hK0.1 hP (ci := 5) (q0 := 0) rfl rfl, my_preC (wcs := [(wPCo p70 b7 c7 d7 e7 h7 k7 st), (wSet cy b7 v), (wPow cy c7 w)]) hK0 hS hAB hP hD [0, 1, 2] (by decide) rfl rfl⟩ rfl rfl hl.1 rfl (lv_room (Nat.le_of_ble_eq_true rfl)) dX7_whole_12 ⟨Nat.le_of_ble_eq_true rfl, Nat.le_of_ble_eq_true rfl⟩) hS hP hD [0, 1, 2] rfl rfl (fun _ => rfl) (fun _ => by simp only [List.map_cons, List.map_nil, adrSet, adrSetE, adrPow, adrPowE, adrTxt, adrTxtE, adrSav, adrSavE, adrPCo, adrMod, adrModE]) (fun _ => rfl) (fun u_2 H locs hw_3 hP hD hS => ?_)
  refine lv_iload_n hx hb dX7_whole_15 rfl (lv_at hl 1 rfl) ?_
  refine rd_goi (va_runV (C := RX7) (As := [.ref (c7 0), .int x0]) (rest := []) S (c_X7_wholeValue l D cy g B p70 b7 c7 d7 e7 h7 k7 u_2.1 v u_2.2 tx x0) (cwV 2 hts gX7_whole_X7_wholeValue rfl rfl rfl hd_X7_wholeValue_V ⟨Nat.le_of_ble_eq_true rfl, Nat.le_of_ble_eq_true rfl⟩) ⟨rdP_blind, va_recv hK0.1 hP (ci := 5) (q0 := 0) rfl rfl, my_preP hK0 hS hAB hP⟩ rfl rfl hl.1 rfl (lv_room (Nat.le_of_ble_eq_true rfl)) dX7_whole_16 ⟨Nat.le_of_ble_eq_true rfl, Nat.le_of_ble_eq_true rfl⟩) ?_
  refine vx_ret ?_
  exact W.iret hx hb hr (fun t ht hW => ⟨⟨(f_X7_wholeValue u_2.1 v u_2.2 tx x0), (u_2.1, u_2.2), rfl, (show f_X7_whole st v w tx x0 = (.inr ((f_X7_wholeValue u_2.1 v u_2.2 tx x0), (u_2.1, u_2.2))) from by rw [f_X7_whole, my_rf_ok hrf_1, hw_3, my_l_eq]), by show va_P D vwCl _ t.heap; rw [ht]; exact hP⟩, hS.F ht⟩) hS.2.2 dX7_whole_19
theorem hd_X7_wins_S : yX7_wins.cls ≠ "java/lang/invoke/MethodHandle" ∧ yX7_wins.cls ≠ "java/lang/invoke/VarHandle" ∧ (parseMethodDescriptor yX7_wins.desc).map (fun d => d.parameters.length) = some 1 := by decide +kernel
theorem hd_X7_wins_V : yX7_wins.cls = RX7 ∧ yX7_wins.cls ≠ "java/lang/invoke/MethodHandle" ∧ yX7_wins.cls ≠ "java/lang/invoke/VarHandle" ∧ (parseMethodDescriptor yX7_wins.desc).map (fun d => d.parameters.length) = some 1 := ⟨rfl, hd_X7_wins_S⟩
def f_X7_wins (st : Int32) (v : SetV) (w : PowV) (x0 : Int32) : Int32 ⊕ (Int32 × (Int32 × PowV)) := (my_rf (f_X6_faultOfSet v x0) (my_l (f_X7_measured st v w) (fun (u_2 : Int32 × PowV) => (if (f_X3_isWinning u_2.2 x0) = 0 then (.inr (0, (u_2.1, u_2.2))) else (.inr (1, (u_2.1, u_2.2)))))))
set_option maxHeartbeats 400000 in
set_option maxRecDepth 100000 in
theorem c_X7_wins (l : Launch) (hl0 : l.stackTraces = false) (D : va_G) (cy : Nat → ClassId) (g : Nat → Nat) (B : Nat) (p70 : Nat) (b7 : Nat → Nat) (c7 : Nat → Nat) (d7 : Nat → Nat) (e7 : Nat → Nat) (h7 : Nat → Nat) (k7 : Nat → Nat) (st : Int32) (v : SetV) (w : PowV) (x0 : Int32) : vx_Met l yX7_wins wsX7_wins ({ frames := 7, cells := 1, slots := 6, locals := 132 }) (muP D cy g B (List.flatten [(wPCo p70 b7 c7 d7 e7 h7 k7 st), (wSet cy b7 v), (wPow cy c7 w)]) [.ref p70, .int x0]) (va_Qi (fun (r : Int32) (u : Int32 × PowV) => f_X7_wins st v w x0 = .inr (r, u)) (fun u t => va_P D vwCl (List.flatten [(wPCo p70 b7 c7 d7 e7 h7 k7 u.1), (wSet cy b7 v), (wPow cy c7 u.2)]) t.heap) (muA (List.flatten [(wPCo p70 b7 c7 d7 e7 h7 k7 st), (wSet cy b7 v), (wPow cy c7 w)]))) (vx_X (fun (k : Int32) => f_X7_wins st v w x0 = .inl k) (fun E k t => exE k E ∧ va_P D vwCl (List.flatten [(wPCo p70 b7 c7 d7 e7 h7 k7 st), (wSet cy b7 v), (wPow cy c7 w)]) t.heap) (muA (List.flatten [(wPCo p70 b7 c7 d7 e7 h7 k7 st), (wSet cy b7 v), (wPow cy c7 w)]))) 1 6 (muA (List.flatten [(wPCo p70 b7 c7 d7 e7 h7 k7 st), (wSet cy b7 v), (wPow cy c7 w)])) := by
  refine vx_ofW (cc := cX7_wins) (maxL := 2) (ret := (some .int)) (by decide) rfl ?_
  intro p e s m args below meth c s₁ BB hml hout hv
  obtain ⟨rfl, hP, hK0, hD0⟩ := hv
  have hx := BB.exec
  have hb := BB.bytes
  have hr := BB.returns
  have hts := atoms_spec (ws := wsX7_wins) BB.pre
  have hown : s.vm.findClass RX7 = some m.cls := findClass_of_methodNamed BB.named
  have hlocks := BB.notSynchronized
  have S := my_fix hx hb hml hown hts
  have inX7 : ∀ w ∈ wsX70, w ∈ wsX7_wins := fun w h => List.mem_cons_of_mem _ (List.mem_append_left _ (List.mem_append_left _ (List.mem_append_left _ (List.mem_append_left _ (List.mem_append_left _ (List.mem_append_left _ (List.mem_append_right _ h)))))))
  have hAB := muB hD0
  have hD := muD hD0
  generalize hAe : muA (List.flatten [(wPCo p70 b7 c7 d7 e7 h7 k7 st), (wSet cy b7 v), (wPow cy c7 w)]) = A at hAB hD ⊢
  have hS : va_S A s.heap s.heap [] := va_S.rf
  have hl := lv_entry ([.ref p70, .int x0]) (n := 2) (Nat.le_of_ble_eq_true rfl)
  rw [lg_entry_eq]
  generalize (lg_sl ([.ref p70, .int x0]) ++ List.replicate (2 - (lg_sl ([.ref p70, .int x0])).length) Slot.unset).toArray = ls at hl ⊢
  have hl : lv_has ls 2 [(0, .ref p70), (1, .int x0)] := hl
  refine lv_aload_n hx hb dX7_wins_0 rfl (lv_at hl 0 rfl) ?_
  refine va_get (D := D) (ci := 5) (v := .ref (b7 0)) (C := RX7) (T := TX7) (N := 7) hx hb hts inX7 hown hK0.1 hP 0 rfl rfl 0 (by decide) (hts (.fieldLink RX7 10 "PivotChamber" "setting" "LPivotChamber$Setting;") (List.mem_of_getElem? (i := 1) rfl)) (fun _ h9 => h9) rfl dX7_wins_1 ?_
  refine lv_iload_n hx hb dX7_wins_4 rfl (lv_at hl 1 rfl) ?_
  refine rd_goi (va_runV (C := RX6) (As := [.int x0]) (rest := []) S (c_X6_faultOfSet l D cy g B b7 v x0) (cwV 1 hts gX7_wins_X6_faultOfSet rfl rfl rfl hd_X6_faultOfSet_V ⟨Nat.le_of_ble_eq_true rfl, Nat.le_of_ble_eq_true rfl⟩) ⟨rdP_blind, va_recv hK0.1 hP (ci := 4) (q0 := 1) rfl rfl, my_preP hK0 hS hAB (my_cP hP 1 rfl)⟩ rfl rfl hl.1 rfl (lv_room (Nat.le_of_ble_eq_true rfl)) dX7_wins_5 ⟨Nat.le_of_ble_eq_true rfl, Nat.le_of_ble_eq_true rfl⟩) ?_
  refine my_rfx (vx_runS (As := [.int (f_X6_faultOfSet v x0)]) (rest := []) S (c_X7_refuse l hl0 D cy g B (f_X6_faultOfSet v x0)) (va_cwS 1 hts gX7_wins_X7_refuse rfl rfl rfl hd_X7_refuse_S ⟨Nat.le_of_ble_eq_true rfl, Nat.le_of_ble_eq_true rfl⟩) ⟨rdP_blind, my_preV hK0 hS hAB hP [] rfl⟩ rfl rfl hl.1 rfl (lv_room (Nat.le_of_ble_eq_true rfl)) dX7_wins_8 ⟨Nat.le_of_ble_eq_true rfl, Nat.le_of_ble_eq_true rfl⟩) hS hP hout hlocks (fun _ h => h) (Nat.le_of_ble_eq_true rfl) (Nat.le_of_ble_eq_true rfl) (fun hrf_1 E t h1 h2 h3 => ⟨(f_X6_faultOfSet v x0), (show f_X7_wins st v w x0 = .inl (f_X6_faultOfSet v x0) from by rw [f_X7_wins, my_rf_no hrf_1]), ⟨h1, h2⟩, h3⟩) (fun hrf_1 H locs hP hS => ?_)
  have hP : va_P D vwCl (List.flatten [(wPCo p70 b7 c7 d7 e7 h7 k7 st), (wSet cy b7 v), (wPow cy c7 w)]) H := hP
  refine lv_aload_n hx hb dX7_wins_11 rfl (lv_at hl 0 rfl) ?_
  refine mu_allr (wf := fun (u_2 : Int32 × PowV) => (List.flatten [(wPCo p70 b7 c7 d7 e7 h7 k7 u_2.1), (wSet cy b7 v), (wPow cy c7 u_2.2)])) (va_runV (C := RX7) (As := []) (rest := []) S (c_X7_measured l D cy g B p70 b7 c7 d7 e7 h7 k7 st v w) (cwV 0 hts gX7_wins_X7_measured rfl rfl rfl hd_X7_measured_V ⟨Nat.le_of_ble_eq_true rfl, Nat.le_of_ble_eq_true rfl⟩) ⟨muP_blind, va_recv hK0.1 hP (ci := 5) (q0 := 0) rfl rfl, my_preA hK0 hS hAB hP hD⟩ rfl rfl hl.1 rfl (lv_room (Nat.le_of_ble_eq_true rfl)) dX7_wins_12 ⟨Nat.le_of_ble_eq_true rfl, Nat.le_of_ble_eq_true rfl⟩) hS hD (fun _ => my_flat_adr (by simp only [List.map_cons, List.map_nil, adrSet, adrSetE, adrPow, adrPowE, adrTxt, adrTxtE, adrSav, adrSavE, adrPCo, adrMod, adrModE])) (fun u_2 H locs hw_3 hP hD hS => ?_)
  refine lv_iload_n hx hb dX7_wins_15 rfl (lv_at hl 1 rfl) ?_
  refine rd_goi (va_runV (C := RX3) (As := [.int x0]) (rest := []) S (c_X3_isWinning l D cy g B c7 u_2.2 x0) (cwV 1 hts gX7_wins_X3_isWinning rfl rfl rfl hd_X3_isWinning_V ⟨Nat.le_of_ble_eq_true rfl, Nat.le_of_ble_eq_true rfl⟩) ⟨rdP_blind, va_recv hK0.1 hP (ci := 1) (q0 := 10) rfl rfl, my_preP hK0 hS hAB (my_cP hP 2 rfl)⟩ rfl rfl hl.1 rfl (lv_room (Nat.le_of_ble_eq_true rfl)) dX7_wins_16 ⟨Nat.le_of_ble_eq_true rfl, Nat.le_of_ble_eq_true rfl⟩) ?_
  refine lv_if_eq (tgt := 26) hx hb dX7_wins_19 (by decide) (fun c_4 => ?_) (fun c_4 => ?_)
  · refine lv_iconst (v := 0) hx hb dX7_wins_26 (by decide) ?_
    refine vx_ret ?_
    exact W.iret hx hb hr (fun t ht hW => ⟨⟨0, (u_2.1, u_2.2), rfl, (show f_X7_wins st v w x0 = (.inr (0, (u_2.1, u_2.2))) from by rw [f_X7_wins, my_rf_ok hrf_1, hw_3, my_l_eq, if_pos c_4]), by show va_P D vwCl _ t.heap; rw [ht]; exact hP⟩, hS.F ht⟩) hS.2.2 dX7_wins_27
  · refine lv_iconst (v := 1) hx hb dX7_wins_22 (by decide) ?_
    refine lv_goto (tgt := 27) hx hb dX7_wins_23 (by decide) ?_
    refine vx_ret ?_
    exact W.iret hx hb hr (fun t ht hW => ⟨⟨1, (u_2.1, u_2.2), rfl, (show f_X7_wins st v w x0 = (.inr (1, (u_2.1, u_2.2))) from by rw [f_X7_wins, my_rf_ok hrf_1, hw_3, my_l_eq, if_neg c_4]), by show va_P D vwCl _ t.heap; rw [ht]; exact hP⟩, hS.F ht⟩) hS.2.2 dX7_wins_27
theorem hd_X7_least_S : yX7_least.cls ≠ "java/lang/invoke/MethodHandle" ∧ yX7_least.cls ≠ "java/lang/invoke/VarHandle" ∧ (parseMethodDescriptor yX7_least.desc).map (fun d => d.parameters.length) = some 1 := by decide +kernel
theorem hd_X7_least_V : yX7_least.cls = RX7 ∧ yX7_least.cls ≠ "java/lang/invoke/MethodHandle" ∧ yX7_least.cls ≠ "java/lang/invoke/VarHandle" ∧ (parseMethodDescriptor yX7_least.desc).map (fun d => d.parameters.length) = some 1 := ⟨rfl, hd_X7_least_S⟩
def f_X7_least (st : Int32) (v : SetV) (w : PowV) (x0 : Int32) : Int32 ⊕ (Int32 × (Int32 × PowV)) := (if 0 ≤ x0 then (my_rf 0 (my_l (f_X7_measured st v w) (fun (u_3 : Int32 × PowV) => (if u_3.2.2.2.2.2.1 ≤ x0 then (.inr ((-1), (u_3.1, u_3.2))) else (.inr ((rAt 256 u_3.2.2.2.2.2.2.2.2.2.1 x0), (u_3.1, u_3.2))))))) else (my_rf 2 (my_l (f_X7_measured st v w) (fun (u_7 : Int32 × PowV) => (if u_7.2.2.2.2.2.1 ≤ x0 then (.inr ((-1), (u_7.1, u_7.2))) else (.inr ((rAt 256 u_7.2.2.2.2.2.2.2.2.2.1 x0), (u_7.1, u_7.2))))))))
set_option maxHeartbeats 400000 in
set_option maxRecDepth 100000 in
theorem c_X7_least (l : Launch) (hl0 : l.stackTraces = false) (D : va_G) (cy : Nat → ClassId) (g : Nat → Nat) (B : Nat) (p70 : Nat) (b7 : Nat → Nat) (c7 : Nat → Nat) (d7 : Nat → Nat) (e7 : Nat → Nat) (h7 : Nat → Nat) (k7 : Nat → Nat) (st : Int32) (v : SetV) (w : PowV) (x0 : Int32) : vx_Met l yX7_least wsX7_least ({ frames := 7, cells := 1, slots := 6, locals := 132 }) (muP D cy g B (List.flatten [(wPCo p70 b7 c7 d7 e7 h7 k7 st), (wSet cy b7 v), (wPow cy c7 w)]) [.ref p70, .int x0]) (va_Qi (fun (r : Int32) (u : Int32 × PowV) => f_X7_least st v w x0 = .inr (r, u)) (fun u t => va_P D vwCl (List.flatten [(wPCo p70 b7 c7 d7 e7 h7 k7 u.1), (wSet cy b7 v), (wPow cy c7 u.2)]) t.heap) (muA (List.flatten [(wPCo p70 b7 c7 d7 e7 h7 k7 st), (wSet cy b7 v), (wPow cy c7 w)]))) (vx_X (fun (k : Int32) => f_X7_least st v w x0 = .inl k) (fun E k t => exE k E ∧ va_P D vwCl (List.flatten [(wPCo p70 b7 c7 d7 e7 h7 k7 st), (wSet cy b7 v), (wPow cy c7 w)]) t.heap) (muA (List.flatten [(wPCo p70 b7 c7 d7 e7 h7 k7 st), (wSet cy b7 v), (wPow cy c7 w)]))) 1 6 (muA (List.flatten [(wPCo p70 b7 c7 d7 e7 h7 k7 st), (wSet cy b7 v), (wPow cy c7 w)])) := by
  refine vx_ofW (cc := cX7_least) (maxL := 3) (ret := (some .int)) (by decide) rfl ?_
  intro p e s m args below meth c s₁ BB hml hout hv
  obtain ⟨rfl, hP, hK0, hD0⟩ := hv
  have hx := BB.exec
  have hb := BB.bytes
  have hr := BB.returns
  have hts := atoms_spec (ws := wsX7_least) BB.pre
  have hown : s.vm.findClass RX7 = some m.cls := findClass_of_methodNamed BB.named
  have hlocks := BB.notSynchronized
  have S := my_fix hx hb hml hown hts
  have inX3 : ∀ w ∈ wsX30, w ∈ wsX7_least := fun w h => List.mem_cons_of_mem _ (List.mem_append_left _ (List.mem_append_left _ (List.mem_append_left _ (List.mem_append_left _ (List.mem_append_left _ (List.mem_append_left _ (List.mem_append_right _ h)))))))
  have hAB := muB hD0
  have hD := muD hD0
  generalize hAe : muA (List.flatten [(wPCo p70 b7 c7 d7 e7 h7 k7 st), (wSet cy b7 v), (wPow cy c7 w)]) = A at hAB hD ⊢
  have hS : va_S A s.heap s.heap [] := va_S.rf
  have hl := lv_entry ([.ref p70, .int x0]) (n := 3) (Nat.le_of_ble_eq_true rfl)
  rw [lg_entry_eq]
  generalize (lg_sl ([.ref p70, .int x0]) ++ List.replicate (3 - (lg_sl ([.ref p70, .int x0])).length) Slot.unset).toArray = ls at hl ⊢
  have hl : lv_has ls 3 [(0, .ref p70), (1, .int x0)] := hl
  refine lv_iload_n hx hb dX7_least_0 rfl (lv_at hl 1 rfl) ?_
  refine lv_if_ge (tgt := 8) hx hb dX7_least_1 (by decide) (fun c_1 => ?_) (fun c_1 => ?_)
  · refine lv_iconst (v := 0) hx hb dX7_least_8 (by decide) ?_
    refine my_rfx (vx_runS (As := [.int 0]) (rest := []) S (c_X7_refuse l hl0 D cy g B 0) (va_cwS 1 hts gX7_least_X7_refuse rfl rfl rfl hd_X7_refuse_S ⟨Nat.le_of_ble_eq_true rfl, Nat.le_of_ble_eq_true rfl⟩) ⟨rdP_blind, my_preV hK0 hS hAB hP [] rfl⟩ rfl rfl hl.1 rfl (lv_room (Nat.le_of_ble_eq_true rfl)) dX7_least_9 ⟨Nat.le_of_ble_eq_true rfl, Nat.le_of_ble_eq_true rfl⟩) hS hP hout hlocks (fun _ h => h) (Nat.le_of_ble_eq_true rfl) (Nat.le_of_ble_eq_true rfl) (fun hrf_2 E t h1 h2 h3 => ⟨0, (show f_X7_least st v w x0 = .inl 0 from by rw [f_X7_least, if_pos c_1, my_rf_no hrf_2]), ⟨h1, h2⟩, h3⟩) (fun hrf_2 H locs hP hS => ?_)
    have hP : va_P D vwCl (List.flatten [(wPCo p70 b7 c7 d7 e7 h7 k7 st), (wSet cy b7 v), (wPow cy c7 w)]) H := hP
    refine lv_aload_n hx hb dX7_least_12 rfl (lv_at hl 0 rfl) ?_
    refine mu_allr (wf := fun (u_3 : Int32 × PowV) => (List.flatten [(wPCo p70 b7 c7 d7 e7 h7 k7 u_3.1), (wSet cy b7 v), (wPow cy c7 u_3.2)])) (va_runV (C := RX7) (As := []) (rest := []) S (c_X7_measured l D cy g B p70 b7 c7 d7 e7 h7 k7 st v w) (cwV 0 hts gX7_least_X7_measured rfl rfl rfl hd_X7_measured_V ⟨Nat.le_of_ble_eq_true rfl, Nat.le_of_ble_eq_true rfl⟩) ⟨muP_blind, va_recv hK0.1 hP (ci := 5) (q0 := 0) rfl rfl, my_preA hK0 hS hAB hP hD⟩ rfl rfl hl.1 rfl (lv_room (Nat.le_of_ble_eq_true rfl)) dX7_least_13 ⟨Nat.le_of_ble_eq_true rfl, Nat.le_of_ble_eq_true rfl⟩) hS hD (fun _ => my_flat_adr (by simp only [List.map_cons, List.map_nil, adrSet, adrSetE, adrPow, adrPowE, adrTxt, adrTxtE, adrSav, adrSavE, adrPCo, adrMod, adrModE])) (fun u_3 H locs hw_4 hP hD hS => ?_)
    refine lv_astore_n (lv' := [(2, .ref (c7 0)), (0, .ref p70), (1, .int x0)]) hx hb dX7_least_16 rfl hl (by decide) rfl (fun ls hl => ?_)
    refine lv_iload_n hx hb dX7_least_17 rfl (lv_at hl 2 rfl) ?_
    refine lv_aload_n hx hb dX7_least_18 rfl (lv_at hl 0 rfl) ?_
    refine va_getN (D := D) (ci := 1) (v := .int u_3.2.2.2.2.2.1) (C := RX3) (T := TX3) (N := 13) (host := "PivotChamber") hx hb hts inX3 hown hK0.1 hP 10 rfl rfl 6 (by decide) (va_Nw.use rfl (hK0.2.1.1.f 0 rfl)) (fun _ h9 => h9) rfl dX7_least_19 ?_
    refine lv_icmp_ge (tgt := 36) hx hb dX7_least_22 (by decide) (fun c_5 => ?_) (fun c_5 => ?_)
    · refine lv_iconst (v := (-1)) hx hb dX7_least_36 (by decide) ?_
      refine vx_ret ?_
      exact W.iret hx hb hr (fun t ht hW => ⟨⟨(-1), (u_3.1, u_3.2), rfl, (show f_X7_least st v w x0 = (.inr ((-1), (u_3.1, u_3.2))) from by rw [f_X7_least, if_pos c_1, my_rf_ok hrf_2, hw_4, my_l_eq, if_pos c_5]), by show va_P D vwCl _ t.heap; rw [ht]; exact hP⟩, hS.F ht⟩) hS.2.2 dX7_least_37
    · refine lv_aload_n hx hb dX7_least_25 rfl (lv_at hl 0 rfl) ?_
      refine va_getN (D := D) (ci := 1) (v := .ref (c7 5)) (C := RX3) (T := TX3) (N := 13) (host := "PivotChamber") hx hb hts inX3 hown hK0.1 hP 10 rfl rfl 7 (by decide) (va_Nw.use rfl (hK0.2.1.1.f 1 rfl)) (fun _ h9 => h9) rfl dX7_least_26 ?_
      refine lv_iload_n hx hb dX7_least_29 rfl (lv_at hl 2 rfl) ?_
      refine rd_goi (va_runV (C := RX4) (As := [.int x0]) (rest := []) S (c_X4_at l D cy g B (c7 5) (c7 6) 256 u_3.2.2.2.2.2.2.2.2.2.1 x0 (by decide)) (cwV 1 hts gX7_least_X4_at rfl rfl rfl hd_X4_at_V ⟨Nat.le_of_ble_eq_true rfl, Nat.le_of_ble_eq_true rfl⟩) ⟨rdP_blind, va_recv hK0.1 hP (ci := 2) (q0 := 15) rfl rfl, my_preV hK0 hS hAB hP [15, 16] rfl⟩ rfl rfl hl.1 rfl (lv_room (Nat.le_of_ble_eq_true rfl)) dX7_least_30 ⟨Nat.le_of_ble_eq_true rfl, Nat.le_of_ble_eq_true rfl⟩) ?_
      refine lv_goto (tgt := 37) hx hb dX7_least_33 (by decide) ?_
      refine vx_ret ?_
      exact W.iret hx hb hr (fun t ht hW => ⟨⟨(rAt 256 u_3.2.2.2.2.2.2.2.2.2.1 x0), (u_3.1, u_3.2), rfl, (show f_X7_least st v w x0 = (.inr ((rAt 256 u_3.2.2.2.2.2.2.2.2.2.1 x0), (u_3.1, u_3.2))) from by rw [f_X7_least, if_pos c_1, my_rf_ok hrf_2, hw_4, my_l_eq, if_neg c_5]), by show va_P D vwCl _ t.heap; rw [ht]; exact hP⟩, hS.F ht⟩) hS.2.2 dX7_least_37
  · refine lv_iconst (v := 2) hx hb dX7_least_4 (by decide) ?_
    refine lv_goto (tgt := 9) hx hb dX7_least_5 (by decide) ?_
    refine my_rfx (vx_runS (As := [.int 2]) (rest := []) S (c_X7_refuse l hl0 D cy g B 2) (va_cwS 1 hts gX7_least_X7_refuse rfl rfl rfl hd_X7_refuse_S ⟨Nat.le_of_ble_eq_true rfl, Nat.le_of_ble_eq_true rfl⟩) ⟨rdP_blind, my_preV hK0 hS hAB hP [] rfl⟩ rfl rfl hl.1 rfl (lv_room (Nat.le_of_ble_eq_true rfl)) dX7_least_9 ⟨Nat.le_of_ble_eq_true rfl, Nat.le_of_ble_eq_true rfl⟩) hS hP hout hlocks (fun _ h => h) (Nat.le_of_ble_eq_true rfl) (Nat.le_of_ble_eq_true rfl) (fun hrf_6 E t h1 h2 h3 => ⟨2, (show f_X7_least st v w x0 = .inl 2 from by rw [f_X7_least, if_neg c_1, my_rf_no hrf_6]), ⟨h1, h2⟩, h3⟩) (fun hrf_6 H locs hP hS => ?_)
    have hP : va_P D vwCl (List.flatten [(wPCo p70 b7 c7 d7 e7 h7 k7 st), (wSet cy b7 v), (wPow cy c7 w)]) H := hP
    refine lv_aload_n hx hb dX7_least_12 rfl (lv_at hl 0 rfl) ?_
    refine mu_allr (wf := fun (u_7 : Int32 × PowV) => (List.flatten [(wPCo p70 b7 c7 d7 e7 h7 k7 u_7.1), (wSet cy b7 v), (wPow cy c7 u_7.2)])) (va_runV (C := RX7) (As := []) (rest := []) S (c_X7_measured l D cy g B p70 b7 c7 d7 e7 h7 k7 st v w) (cwV 0 hts gX7_least_X7_measured rfl rfl rfl hd_X7_measured_V ⟨Nat.le_of_ble_eq_true rfl, Nat.le_of_ble_eq_true rfl⟩) ⟨muP_blind, va_recv hK0.1 hP (ci := 5) (q0 := 0) rfl rfl, my_preA hK0 hS hAB hP hD⟩ rfl rfl hl.1 rfl (lv_room (Nat.le_of_ble_eq_true rfl)) dX7_least_13 ⟨Nat.le_of_ble_eq_true rfl, Nat.le_of_ble_eq_true rfl⟩) hS hD (fun _ => my_flat_adr (by simp only [List.map_cons, List.map_nil, adrSet, adrSetE, adrPow, adrPowE, adrTxt, adrTxtE, adrSav, adrSavE, adrPCo, adrMod, adrModE])) (fun u_7 H locs hw_8 hP hD hS => ?_)
    refine lv_astore_n (lv' := [(2, .ref (c7 0)), (0, .ref p70), (1, .int x0)]) hx hb dX7_least_16 rfl hl (by decide) rfl (fun ls hl => ?_)
    refine lv_iload_n hx hb dX7_least_17 rfl (lv_at hl 2 rfl) ?_
    refine lv_aload_n hx hb dX7_least_18 rfl (lv_at hl 0 rfl) ?_
    refine va_getN (D := D) (ci := 1) (v := .int u_7.2.2.2.2.2.1) (C := RX3) (T := TX3) (N := 13) (host := "PivotChamber") hx hb hts inX3 hown hK0.1 hP 10 rfl rfl 6 (by decide) (va_Nw.use rfl (hK0.2.1.1.f 0 rfl)) (fun _ h9 => h9) rfl dX7_least_19 ?_
    refine lv_icmp_ge (tgt := 36) hx hb dX7_least_22 (by decide) (fun c_9 => ?_) (fun c_9 => ?_)
    · refine lv_iconst (v := (-1)) hx hb dX7_least_36 (by decide) ?_
      refine vx_ret ?_
      exact W.iret hx hb hr (fun t ht hW => ⟨⟨(-1), (u_7.1, u_7.2), rfl, (show f_X7_least st v w x0 = (.inr ((-1), (u_7.1, u_7.2))) from by rw [f_X7_least, if_neg c_1, my_rf_ok hrf_6, hw_8, my_l_eq, if_pos c_9]), by show va_P D vwCl _ t.heap; rw [ht]; exact hP⟩, hS.F ht⟩) hS.2.2 dX7_least_37
    · refine lv_aload_n hx hb dX7_least_25 rfl (lv_at hl 0 rfl) ?_
      refine va_getN (D := D) (ci := 1) (v := .ref (c7 5)) (C := RX3) (T := TX3) (N := 13) (host := "PivotChamber") hx hb hts inX3 hown hK0.1 hP 10 rfl rfl 7 (by decide) (va_Nw.use rfl (hK0.2.1.1.f 1 rfl)) (fun _ h9 => h9) rfl dX7_least_26 ?_
      refine lv_iload_n hx hb dX7_least_29 rfl (lv_at hl 2 rfl) ?_
      refine rd_goi (va_runV (C := RX4) (As := [.int x0]) (rest := []) S (c_X4_at l D cy g B (c7 5) (c7 6) 256 u_7.2.2.2.2.2.2.2.2.2.1 x0 (by decide)) (cwV 1 hts gX7_least_X4_at rfl rfl rfl hd_X4_at_V ⟨Nat.le_of_ble_eq_true rfl, Nat.le_of_ble_eq_true rfl⟩) ⟨rdP_blind, va_recv hK0.1 hP (ci := 2) (q0 := 15) rfl rfl, my_preV hK0 hS hAB hP [15, 16] rfl⟩ rfl rfl hl.1 rfl (lv_room (Nat.le_of_ble_eq_true rfl)) dX7_least_30 ⟨Nat.le_of_ble_eq_true rfl, Nat.le_of_ble_eq_true rfl⟩) ?_
      refine lv_goto (tgt := 37) hx hb dX7_least_33 (by decide) ?_
      refine vx_ret ?_
      exact W.iret hx hb hr (fun t ht hW => ⟨⟨(rAt 256 u_7.2.2.2.2.2.2.2.2.2.1 x0), (u_7.1, u_7.2), rfl, (show f_X7_least st v w x0 = (.inr ((rAt 256 u_7.2.2.2.2.2.2.2.2.2.1 x0), (u_7.1, u_7.2))) from by rw [f_X7_least, if_neg c_1, my_rf_ok hrf_6, hw_8, my_l_eq, if_neg c_9]), by show va_P D vwCl _ t.heap; rw [ht]; exact hP⟩, hS.F ht⟩) hS.2.2 dX7_least_37
theorem hd_X7_reason_S : yX7_reason.cls ≠ "java/lang/invoke/MethodHandle" ∧ yX7_reason.cls ≠ "java/lang/invoke/VarHandle" ∧ (parseMethodDescriptor yX7_reason.desc).map (fun d => d.parameters.length) = some 1 := by decide +kernel
theorem hd_X7_reason_V : yX7_reason.cls = RX7 ∧ yX7_reason.cls ≠ "java/lang/invoke/MethodHandle" ∧ yX7_reason.cls ≠ "java/lang/invoke/VarHandle" ∧ (parseMethodDescriptor yX7_reason.desc).map (fun d => d.parameters.length) = some 1 := ⟨rfl, hd_X7_reason_S⟩
def f_X7_reason (st : Int32) (v : SetV) (w : PowV) (x0 : Int32) : Int32 ⊕ (Int32 × (Int32 × PowV)) := (my_rf (f_X6_faultOfSet v x0) (my_l (f_X7_measured st v w) (fun (u_2 : Int32 × PowV) => (if v.2.1 ≤ (f_X6_weightOf v (rAt 256 u_2.2.2.2.2.2.2.2.1 x0)) then (if (f_X6_firstBrokenRule v (rAt 256 u_2.2.2.2.2.2.2.2.1 x0)) = (-1) then (.inr (0, (u_2.1, u_2.2))) else (.inr ((2 + (f_X6_firstBrokenRule v (rAt 256 u_2.2.2.2.2.2.2.2.1 x0))), (u_2.1, u_2.2)))) else (.inr (1, (u_2.1, u_2.2)))))))
set_option maxHeartbeats 400000 in
set_option maxRecDepth 100000 in
theorem c_X7_reason (l : Launch) (hl0 : l.stackTraces = false) (D : va_G) (cy : Nat → ClassId) (g : Nat → Nat) (B : Nat) (p70 : Nat) (b7 : Nat → Nat) (c7 : Nat → Nat) (d7 : Nat → Nat) (e7 : Nat → Nat) (h7 : Nat → Nat) (k7 : Nat → Nat) (st : Int32) (v : SetV) (w : PowV) (x0 : Int32) : vx_Met l yX7_reason wsX7_reason ({ frames := 7, cells := 1, slots := 6, locals := 132 }) (muP D cy g B (List.flatten [(wPCo p70 b7 c7 d7 e7 h7 k7 st), (wSet cy b7 v), (wPow cy c7 w)]) [.ref p70, .int x0]) (va_Qi (fun (r : Int32) (u : Int32 × PowV) => f_X7_reason st v w x0 = .inr (r, u)) (fun u t => va_P D vwCl (List.flatten [(wPCo p70 b7 c7 d7 e7 h7 k7 u.1), (wSet cy b7 v), (wPow cy c7 u.2)]) t.heap) (muA (List.flatten [(wPCo p70 b7 c7 d7 e7 h7 k7 st), (wSet cy b7 v), (wPow cy c7 w)]))) (vx_X (fun (k : Int32) => f_X7_reason st v w x0 = .inl k) (fun E k t => exE k E ∧ va_P D vwCl (List.flatten [(wPCo p70 b7 c7 d7 e7 h7 k7 st), (wSet cy b7 v), (wPow cy c7 w)]) t.heap) (muA (List.flatten [(wPCo p70 b7 c7 d7 e7 h7 k7 st), (wSet cy b7 v), (wPow cy c7 w)]))) 1 6 (muA (List.flatten [(wPCo p70 b7 c7 d7 e7 h7 k7 st), (wSet cy b7 v), (wPow cy c7 w)])) := by
  refine vx_ofW (cc := cX7_reason) (maxL := 4) (ret := (some .int)) (by decide) rfl ?_
  intro p e s m args below meth c s₁ BB hml hout hv
  obtain ⟨rfl, hP, hK0, hD0⟩ := hv
  have hx := BB.exec
  have hb := BB.bytes
  have hr := BB.returns
  have hts := atoms_spec (ws := wsX7_reason) BB.pre
  have hown : s.vm.findClass RX7 = some m.cls := findClass_of_methodNamed BB.named
  have hlocks := BB.notSynchronized
  have S := my_fix hx hb hml hown hts
  have inX3 : ∀ w ∈ wsX30, w ∈ wsX7_reason := fun w h => List.mem_cons_of_mem _ (List.mem_append_left _ (List.mem_append_left _ (List.mem_append_left _ (List.mem_append_left _ (List.mem_append_left _ (List.mem_append_right _ h))))))
  have inX6 : ∀ w ∈ wsX60, w ∈ wsX7_reason := fun w h => List.mem_cons_of_mem _ (List.mem_append_left _ (List.mem_append_left _ (List.mem_append_left _ (List.mem_append_left _ (List.mem_append_right _ h)))))
  have inX7 : ∀ w ∈ wsX70, w ∈ wsX7_reason := fun w h => List.mem_cons_of_mem _ (List.mem_append_left _ (List.mem_append_left _ (List.mem_append_left _ (List.mem_append_left _ (List.mem_append_left _ (List.mem_append_left _ (List.mem_append_right _ h)))))))
  have hAB := muB hD0
  have hD := muD hD0
  generalize hAe : muA (List.flatten [(wPCo p70 b7 c7 d7 e7 h7 k7 st), (wSet cy b7 v), (wPow cy c7 w)]) = A at hAB hD ⊢
  have hS : va_S A s.heap s.heap [] := va_S.rf
  have hl := lv_entry ([.ref p70, .int x0]) (n := 4) (Nat.le_of_ble_eq_true rfl)
  rw [lg_entry_eq]
  generalize (lg_sl ([.ref p70, .int x0]) ++ List.replicate (4 - (lg_sl ([.ref p70, .int x0])).length) Slot.unset).toArray = ls at hl ⊢
  have hl : lv_has ls 4 [(0, .ref p70), (1, .int x0)] := hl
  refine lv_aload_n hx hb dX7_reason_0 rfl (lv_at hl 0 rfl) ?_
  refine va_get (D := D) (ci := 5) (v := .ref (b7 0)) (C := RX7) (T := TX7) (N := 7) hx hb hts inX7 hown hK0.1 hP 0 rfl rfl 0 (by decide) (hts (.fieldLink RX7 10 "PivotChamber" "setting" "LPivotChamber$Setting;") (List.mem_of_getElem? (i := 1) rfl)) (fun _ h9 => h9) rfl dX7_reason_1 ?_
  refine lv_iload_n hx hb dX7_reason_4 rfl (lv_at hl 1 rfl) ?_
  refine rd_goi (va_runV (C := RX6) (As := [.int x0]) (rest := []) S (c_X6_faultOfSet l D cy g B b7 v x0) (cwV 1 hts gX7_reason_X6_faultOfSet rfl rfl rfl hd_X6_faultOfSet_V ⟨Nat.le_of_ble_eq_true rfl, Nat.le_of_ble_eq_true rfl⟩) ⟨rdP_blind, va_recv hK0.1 hP (ci := 4) (q0 := 1) rfl rfl, my_preP hK0 hS hAB (my_cP hP 1 rfl)⟩ rfl rfl hl.1 rfl (lv_room (Nat.le_of_ble_eq_true rfl)) dX7_reason_5 ⟨Nat.le_of_ble_eq_true rfl, Nat.le_of_ble_eq_true rfl⟩) ?_
  refine my_rfx (vx_runS (As := [.int (f_X6_faultOfSet v x0)]) (rest := []) S (c_X7_refuse l hl0 D cy g B (f_X6_faultOfSet v x0)) (va_cwS 1 hts gX7_reason_X7_refuse rfl rfl rfl hd_X7_refuse_S ⟨Nat.le_of_ble_eq_true rfl, Nat.le_of_ble_eq_true rfl⟩) ⟨rdP_blind, my_preV hK0 hS hAB hP [] rfl⟩ rfl rfl hl.1 rfl (lv_room (Nat.le_of_ble_eq_true rfl)) dX7_reason_8 ⟨Nat.le_of_ble_eq_true rfl, Nat.le_of_ble_eq_true rfl⟩) hS hP hout hlocks (fun _ h => h) (Nat.le_of_ble_eq_true rfl) (Nat.le_of_ble_eq_true rfl) (fun hrf_1 E t h1 h2 h3 => ⟨(f_X6_faultOfSet v x0), (show f_X7_reason st v w x0 = .inl (f_X6_faultOfSet v x0) from by rw [f_X7_reason, my_rf_no hrf_1]), ⟨h1, h2⟩, h3⟩) (fun hrf_1 H locs hP hS => ?_)
  have hP : va_P D vwCl (List.flatten [(wPCo p70 b7 c7 d7 e7 h7 k7 st), (wSet cy b7 v), (wPow cy c7 w)]) H := hP
  refine lv_aload_n hx hb dX7_reason_11 rfl (lv_at hl 0 rfl) ?_
  refine mu_allr (wf := fun (u_2 : Int32 × PowV) => (List.flatten [(wPCo p70 b7 c7 d7 e7 h7 k7 u_2.1), (wSet cy b7 v), (wPow cy c7 u_2.2)])) (va_runV (C := RX7) (As := []) (rest := []) S (c_X7_measured l D cy g B p70 b7 c7 d7 e7 h7 k7 st v w) (cwV 0 hts gX7_reason_X7_measured rfl rfl rfl hd_X7_measured_V ⟨Nat.le_of_ble_eq_true rfl, Nat.le_of_ble_eq_true rfl⟩) ⟨muP_blind, va_recv hK0.1 hP (ci := 5) (q0 := 0) rfl rfl, my_preA hK0 hS hAB hP hD⟩ rfl rfl hl.1 rfl (lv_room (Nat.le_of_ble_eq_true rfl)) dX7_reason_12 ⟨Nat.le_of_ble_eq_true rfl, Nat.le_of_ble_eq_true rfl⟩) hS hD (fun _ => my_flat_adr (by simp only [List.map_cons, List.map_nil, adrSet, adrSetE, adrPow, adrPowE, adrTxt, adrTxtE, adrSav, adrSavE, adrPCo, adrMod, adrModE])) (fun u_2 H locs hw_3 hP hD hS => ?_)
  refine va_getN (D := D) (ci := 1) (v := .ref (c7 1)) (C := RX3) (T := TX3) (N := 13) (host := "PivotChamber") hx hb hts inX3 hown hK0.1 hP 10 rfl rfl 2 (by decide) (va_Nw.use rfl (hK0.2.1.1.f 2 rfl)) (fun _ h9 => h9) rfl dX7_reason_15 ?_
  refine lv_iload_n hx hb dX7_reason_18 rfl (lv_at hl 1 rfl) ?_
  refine rd_goi (va_runV (C := RX4) (As := [.int x0]) (rest := []) S (c_X4_at l D cy g B (c7 1) (c7 2) 256 u_2.2.2.2.2.2.2.2.1 x0 (by decide)) (cwV 1 hts gX7_reason_X4_at rfl rfl rfl hd_X4_at_V ⟨Nat.le_of_ble_eq_true rfl, Nat.le_of_ble_eq_true rfl⟩) ⟨rdP_blind, va_recv hK0.1 hP (ci := 2) (q0 := 11) rfl rfl, my_preV hK0 hS hAB hP [11, 12] rfl⟩ rfl rfl hl.1 rfl (lv_room (Nat.le_of_ble_eq_true rfl)) dX7_reason_19 ⟨Nat.le_of_ble_eq_true rfl, Nat.le_of_ble_eq_true rfl⟩) ?_
  refine lv_istore_n (lv' := [(2, .int (rAt 256 u_2.2.2.2.2.2.2.2.1 x0)), (0, .ref p70), (1, .int x0)]) hx hb dX7_reason_22 rfl hl (by decide) rfl (fun ls hl => ?_)
  refine lv_aload_n hx hb dX7_reason_23 rfl (lv_at hl 1 rfl) ?_
  refine va_get (D := D) (ci := 5) (v := .ref (b7 0)) (C := RX7) (T := TX7) (N := 7) hx hb hts inX7 hown hK0.1 hP 0 rfl rfl 0 (by decide) (hts (.fieldLink RX7 10 "PivotChamber" "setting" "LPivotChamber$Setting;") (List.mem_of_getElem? (i := 1) rfl)) (fun _ h9 => h9) rfl dX7_reason_24 ?_
  refine lv_iload_n hx hb dX7_reason_27 rfl (lv_at hl 0 rfl) ?_
  refine rd_goi (va_runV (C := RX6) (As := [.int (rAt 256 u_2.2.2.2.2.2.2.2.1 x0)]) (rest := []) S (c_X6_weightOf l D cy g B b7 v (rAt 256 u_2.2.2.2.2.2.2.2.1 x0)) (cwV 1 hts gX7_reason_X6_weightOf rfl rfl rfl hd_X6_weightOf_V ⟨Nat.le_of_ble_eq_true rfl, Nat.le_of_ble_eq_true rfl⟩) ⟨rdP_blind, va_recv hK0.1 hP (ci := 4) (q0 := 1) rfl rfl, my_preP hK0 hS hAB (my_cP hP 1 rfl)⟩ rfl rfl hl.1 rfl (lv_room (Nat.le_of_ble_eq_true rfl)) dX7_reason_28 ⟨Nat.le_of_ble_eq_true rfl, Nat.le_of_ble_eq_true rfl⟩) ?_
  refine lv_aload_n hx hb dX7_reason_31 rfl (lv_at hl 1 rfl) ?_
  refine va_get (D := D) (ci := 5) (v := .ref (b7 0)) (C := RX7) (T := TX7) (N := 7) hx hb hts inX7 hown hK0.1 hP 0 rfl rfl 0 (by decide) (hts (.fieldLink RX7 10 "PivotChamber" "setting" "LPivotChamber$Setting;") (List.mem_of_getElem? (i := 1) rfl)) (fun _ h9 => h9) rfl dX7_reason_32 ?_
  refine va_getN (D := D) (ci := 4) (v := .int v.2.1) (C := RX6) (T := TX6) (N := 7) (host := "PivotChamber") hx hb hts inX6 hown hK0.1 hP 1 rfl rfl 3 (by decide) (va_Nw.use rfl (hK0.2.1.1.f 3 rfl)) (fun _ h9 => h9) rfl dX7_reason_35 ?_
  refine lv_icmp_ge (tgt := 43) hx hb dX7_reason_38 (by decide) (fun c_4 => ?_) (fun c_4 => ?_)
  · refine lv_aload_n hx hb dX7_reason_43 rfl (lv_at hl 1 rfl) ?_
    refine va_get (D := D) (ci := 5) (v := .ref (b7 0)) (C := RX7) (T := TX7) (N := 7) hx hb hts inX7 hown hK0.1 hP 0 rfl rfl 0 (by decide) (hts (.fieldLink RX7 10 "PivotChamber" "setting" "LPivotChamber$Setting;") (List.mem_of_getElem? (i := 1) rfl)) (fun _ h9 => h9) rfl dX7_reason_44 ?_
    refine lv_iload_n hx hb dX7_reason_47 rfl (lv_at hl 0 rfl) ?_
    refine rd_goi (va_runV (C := RX6) (As := [.int (rAt 256 u_2.2.2.2.2.2.2.2.1 x0)]) (rest := []) S (c_X6_firstBrokenRule l D cy g B b7 v (rAt 256 u_2.2.2.2.2.2.2.2.1 x0)) (cwV 1 hts gX7_reason_X6_firstBrokenRule rfl rfl rfl hd_X6_firstBrokenRule_V ⟨Nat.le_of_ble_eq_true rfl, Nat.le_of_ble_eq_true rfl⟩) ⟨rdP_blind, va_recv hK0.1 hP (ci := 4) (q0 := 1) rfl rfl, my_preP hK0 hS hAB (my_cP hP 1 rfl)⟩ rfl rfl hl.1 rfl (lv_room (Nat.le_of_ble_eq_true rfl)) dX7_reason_48 ⟨Nat.le_of_ble_eq_true rfl, Nat.le_of_ble_eq_true rfl⟩) ?_
    refine lv_istore_n (lv' := [(3, .int (f_X6_firstBrokenRule v (rAt 256 u_2.2.2.2.2.2.2.2.1 x0))), (2, .int (rAt 256 u_2.2.2.2.2.2.2.2.1 x0)), (0, .ref p70), (1, .int x0)]) hx hb dX7_reason_51 rfl hl (by decide) rfl (fun ls hl => ?_)
    refine lv_iload_n hx hb dX7_reason_52 rfl (lv_at hl 0 rfl) ?_
    refine lv_iconst (v := (-1)) hx hb dX7_reason_53 (by decide) ?_
    refine lv_icmp_ne (tgt := 61) hx hb dX7_reason_54 (by decide) (fun c_5 => ?_) (fun c_5 => ?_)
    · refine lv_iconst (v := 2) hx hb dX7_reason_61 (by decide) ?_
      refine lv_iload_n hx hb dX7_reason_62 rfl (lv_at hl 0 rfl) ?_
      refine lv_iadd hx hb dX7_reason_63 ?_
      refine vx_ret ?_
      exact W.iret hx hb hr (fun t ht hW => ⟨⟨(2 + (f_X6_firstBrokenRule v (rAt 256 u_2.2.2.2.2.2.2.2.1 x0))), (u_2.1, u_2.2), rfl, (show f_X7_reason st v w x0 = (.inr ((2 + (f_X6_firstBrokenRule v (rAt 256 u_2.2.2.2.2.2.2.2.1 x0))), (u_2.1, u_2.2))) from by rw [f_X7_reason, my_rf_ok hrf_1, hw_3, my_l_eq, if_pos c_4, if_neg c_5]), by show va_P D vwCl _ t.heap; rw [ht]; exact hP⟩, hS.F ht⟩) hS.2.2 dX7_reason_64
    · refine lv_iconst (v := 0) hx hb dX7_reason_57 (by decide) ?_
      refine lv_goto (tgt := 64) hx hb dX7_reason_58 (by decide) ?_
      refine vx_ret ?_
      exact W.iret hx hb hr (fun t ht hW => ⟨⟨0, (u_2.1, u_2.2), rfl, (show f_X7_reason st v w x0 = (.inr (0, (u_2.1, u_2.2))) from by rw [f_X7_reason, my_rf_ok hrf_1, hw_3, my_l_eq, if_pos c_4, if_pos c_5]), by show va_P D vwCl _ t.heap; rw [ht]; exact hP⟩, hS.F ht⟩) hS.2.2 dX7_reason_64
  · refine lv_iconst (v := 1) hx hb dX7_reason_41 (by decide) ?_
    refine vx_ret ?_
    exact W.iret hx hb hr (fun t ht hW => ⟨⟨1, (u_2.1, u_2.2), rfl, (show f_X7_reason st v w x0 = (.inr (1, (u_2.1, u_2.2))) from by rw [f_X7_reason, my_rf_ok hrf_1, hw_3, my_l_eq, if_neg c_4]), by show va_P D vwCl _ t.heap; rw [ht]; exact hP⟩, hS.F ht⟩) hS.2.2 dX7_reason_42
theorem hd_X7_pivot_S : yX7_pivot.cls ≠ "java/lang/invoke/MethodHandle" ∧ yX7_pivot.cls ≠ "java/lang/invoke/VarHandle" ∧ (parseMethodDescriptor yX7_pivot.desc).map (fun d => d.parameters.length) = some 1 := by decide +kernel
theorem hd_X7_pivot_V : yX7_pivot.cls = RX7 ∧ yX7_pivot.cls ≠ "java/lang/invoke/MethodHandle" ∧ yX7_pivot.cls ≠ "java/lang/invoke/VarHandle" ∧ (parseMethodDescriptor yX7_pivot.desc).map (fun d => d.parameters.length) = some 1 := ⟨rfl, hd_X7_pivot_S⟩
def f_X7_pivot (st : Int32) (v : SetV) (w : PowV) (x0 : Int32) : Int32 ⊕ (Int32 × (Int32 × PowV)) := (my_rf (f_X6_faultOfOrder v x0) (my_l (f_X7_measured st v w) (fun (u_2 : Int32 × PowV) => (.inr ((f_X3_pivotOf u_2.2 x0), (u_2.1, u_2.2))))))
set_option maxHeartbeats 400000 in
set_option maxRecDepth 100000 in
theorem c_X7_pivot (l : Launch) (hl0 : l.stackTraces = false) (D : va_G) (cy : Nat → ClassId) (g : Nat → Nat) (B : Nat) (p70 : Nat) (b7 : Nat → Nat) (c7 : Nat → Nat) (d7 : Nat → Nat) (e7 : Nat → Nat) (h7 : Nat → Nat) (k7 : Nat → Nat) (st : Int32) (v : SetV) (w : PowV) (x0 : Int32) : vx_Met l yX7_pivot wsX7_pivot ({ frames := 7, cells := 1, slots := 6, locals := 132 }) (muP D cy g B (List.flatten [(wPCo p70 b7 c7 d7 e7 h7 k7 st), (wSet cy b7 v), (wPow cy c7 w)]) [.ref p70, .int x0]) (va_Qi (fun (r : Int32) (u : Int32 × PowV) => f_X7_pivot st v w x0 = .inr (r, u)) (fun u t => va_P D vwCl (List.flatten [(wPCo p70 b7 c7 d7 e7 h7 k7 u.1), (wSet cy b7 v), (wPow cy c7 u.2)]) t.heap) (muA (List.flatten [(wPCo p70 b7 c7 d7 e7 h7 k7 st), (wSet cy b7 v), (wPow cy c7 w)]))) (vx_X (fun (k : Int32) => f_X7_pivot st v w x0 = .inl k) (fun E k t => exE k E ∧ va_P D vwCl (List.flatten [(wPCo p70 b7 c7 d7 e7 h7 k7 st), (wSet cy b7 v), (wPow cy c7 w)]) t.heap) (muA (List.flatten [(wPCo p70 b7 c7 d7 e7 h7 k7 st), (wSet cy b7 v), (wPow cy c7 w)]))) 1 6 (muA (List.flatten [(wPCo p70 b7 c7 d7 e7 h7 k7 st), (wSet cy b7 v), (wPow cy c7 w)])) := by
  refine vx_ofW (cc := cX7_pivot) (maxL := 2) (ret := (some .int)) (by decide) rfl ?_
  intro p e s m args below meth c s₁ BB hml hout hv
  obtain ⟨rfl, hP, hK0, hD0⟩ := hv
  have hx := BB.exec
  have hb := BB.bytes
  have hr := BB.returns
  have hts := atoms_spec (ws := wsX7_pivot) BB.pre
  have hown : s.vm.findClass RX7 = some m.cls := findClass_of_methodNamed BB.named
  have hlocks := BB.notSynchronized
  have S := my_fix hx hb hml hown hts
  have inX7 : ∀ w ∈ wsX70, w ∈ wsX7_pivot := fun w h => List.mem_cons_of_mem _ (List.mem_append_left _ (List.mem_append_left _ (List.mem_append_left _ (List.mem_append_left _ (List.mem_append_left _ (List.mem_append_left _ (List.mem_append_right _ h)))))))
  have hAB := muB hD0
  have hD := muD hD0
  generalize hAe : muA (List.flatten [(wPCo p70 b7 c7 d7 e7 h7 k7 st), (wSet cy b7 v), (wPow cy c7 w)]) = A at hAB hD ⊢
  have hS : va_S A s.heap s.heap [] := va_S.rf
  have hl := lv_entry ([.ref p70, .int x0]) (n := 2) (Nat.le_of_ble_eq_true rfl)
  rw [lg_entry_eq]
  generalize (lg_sl ([.ref p70, .int x0]) ++ List.replicate (2 - (lg_sl ([.ref p70, .int x0])).length) Slot.unset).toArray = ls at hl ⊢
  have hl : lv_has ls 2 [(0, .ref p70), (1, .int x0)] := hl
  refine lv_aload_n hx hb dX7_pivot_0 rfl (lv_at hl 0 rfl) ?_
  refine va_get (D := D) (ci := 5) (v := .ref (b7 0)) (C := RX7) (T := TX7) (N := 7) hx hb hts inX7 hown hK0.1 hP 0 rfl rfl 0 (by decide) (hts (.fieldLink RX7 10 "PivotChamber" "setting" "LPivotChamber$Setting;") (List.mem_of_getElem? (i := 1) rfl)) (fun _ h9 => h9) rfl dX7_pivot_1 ?_
  refine lv_iload_n hx hb dX7_pivot_4 rfl (lv_at hl 1 rfl) ?_
  refine rd_goi (va_runV (C := RX6) (As := [.int x0]) (rest := []) S (c_X6_faultOfOrder l D cy g B b7 v x0) (cwV 1 hts gX7_pivot_X6_faultOfOrder rfl rfl rfl hd_X6_faultOfOrder_V ⟨Nat.le_of_ble_eq_true rfl, Nat.le_of_ble_eq_true rfl⟩) ⟨rdP_blind, va_recv hK0.1 hP (ci := 4) (q0 := 1) rfl rfl, my_preP hK0 hS hAB (my_cP hP 1 rfl)⟩ rfl rfl hl.1 rfl (lv_room (Nat.le_of_ble_eq_true rfl)) dX7_pivot_5 ⟨Nat.le_of_ble_eq_true rfl, Nat.le_of_ble_eq_true rfl⟩) ?_
  refine my_rfx (vx_runS (As := [.int (f_X6_faultOfOrder v x0)]) (rest := []) S (c_X7_refuse l hl0 D cy g B (f_X6_faultOfOrder v x0)) (va_cwS 1 hts gX7_pivot_X7_refuse rfl rfl rfl hd_X7_refuse_S ⟨Nat.le_of_ble_eq_true rfl, Nat.le_of_ble_eq_true rfl⟩) ⟨rdP_blind, my_preV hK0 hS hAB hP [] rfl⟩ rfl rfl hl.1 rfl (lv_room (Nat.le_of_ble_eq_true rfl)) dX7_pivot_8 ⟨Nat.le_of_ble_eq_true rfl, Nat.le_of_ble_eq_true rfl⟩) hS hP hout hlocks (fun _ h => h) (Nat.le_of_ble_eq_true rfl) (Nat.le_of_ble_eq_true rfl) (fun hrf_1 E t h1 h2 h3 => ⟨(f_X6_faultOfOrder v x0), (show f_X7_pivot st v w x0 = .inl (f_X6_faultOfOrder v x0) from by rw [f_X7_pivot, my_rf_no hrf_1]), ⟨h1, h2⟩, h3⟩) (fun hrf_1 H locs hP hS => ?_)
  have hP : va_P D vwCl (List.flatten [(wPCo p70 b7 c7 d7 e7 h7 k7 st), (wSet cy b7 v), (wPow cy c7 w)]) H := hP
  refine lv_aload_n hx hb dX7_pivot_11 rfl (lv_at hl 0 rfl) ?_
  refine mu_allr (wf := fun (u_2 : Int32 × PowV) => (List.flatten [(wPCo p70 b7 c7 d7 e7 h7 k7 u_2.1), (wSet cy b7 v), (wPow cy c7 u_2.2)])) (va_runV (C := RX7) (As := []) (rest := []) S (c_X7_measured l D cy g B p70 b7 c7 d7 e7 h7 k7 st v w) (cwV 0 hts gX7_pivot_X7_measured rfl rfl rfl hd_X7_measured_V ⟨Nat.le_of_ble_eq_true rfl, Nat.le_of_ble_eq_true rfl⟩) ⟨muP_blind, va_recv hK0.1 hP (ci := 5) (q0 := 0) rfl rfl, my_preA hK0 hS hAB hP hD⟩ rfl rfl hl.1 rfl (lv_room (Nat.le_of_ble_eq_true rfl)) dX7_pivot_12 ⟨Nat.le_of_ble_eq_true rfl, Nat.le_of_ble_eq_true rfl⟩) hS hD (fun _ => my_flat_adr (by simp only [List.map_cons, List.map_nil, adrSet, adrSetE, adrPow, adrPowE, adrTxt, adrTxtE, adrSav, adrSavE, adrPCo, adrMod, adrModE])) (fun u_2 H locs hw_3 hP hD hS => ?_)
  refine lv_iload_n hx hb dX7_pivot_15 rfl (lv_at hl 1 rfl) ?_
  refine rd_goi (va_runV (C := RX3) (As := [.int x0]) (rest := []) S (c_X3_pivotOf l D cy g B c7 u_2.2 x0) (cwV 1 hts gX7_pivot_X3_pivotOf rfl rfl rfl hd_X3_pivotOf_V ⟨Nat.le_of_ble_eq_true rfl, Nat.le_of_ble_eq_true rfl⟩) ⟨rdP_blind, va_recv hK0.1 hP (ci := 1) (q0 := 10) rfl rfl, my_preP hK0 hS hAB (my_cP hP 2 rfl)⟩ rfl rfl hl.1 rfl (lv_room (Nat.le_of_ble_eq_true rfl)) dX7_pivot_16 ⟨Nat.le_of_ble_eq_true rfl, Nat.le_of_ble_eq_true rfl⟩) ?_
  refine vx_ret ?_
  exact W.iret hx hb hr (fun t ht hW => ⟨⟨(f_X3_pivotOf u_2.2 x0), (u_2.1, u_2.2), rfl, (show f_X7_pivot st v w x0 = (.inr ((f_X3_pivotOf u_2.2 x0), (u_2.1, u_2.2))) from by rw [f_X7_pivot, my_rf_ok hrf_1, hw_3, my_l_eq]), by show va_P D vwCl _ t.heap; rw [ht]; exact hP⟩, hS.F ht⟩) hS.2.2 dX7_pivot_19
theorem hd_X7_swingsWith_S : yX7_swingsWith.cls ≠ "java/lang/invoke/MethodHandle" ∧ yX7_swingsWith.cls ≠ "java/lang/invoke/VarHandle" ∧ (parseMethodDescriptor yX7_swingsWith.desc).map (fun d => d.parameters.length) = some 2 := by decide +kernel
theorem hd_X7_swingsWith_V : yX7_swingsWith.cls = RX7 ∧ yX7_swingsWith.cls ≠ "java/lang/invoke/MethodHandle" ∧ yX7_swingsWith.cls ≠ "java/lang/invoke/VarHandle" ∧ (parseMethodDescriptor yX7_swingsWith.desc).map (fun d => d.parameters.length) = some 2 := ⟨rfl, hd_X7_swingsWith_S⟩
def f_X7_swingsWith (st : Int32) (v : SetV) (v2 : SetV) (w2 : PowV) (x0 : Int32) (x1 : Int32) : Int32 ⊕ (Int32 × (SetV × PowV)) := (my_rf (f_X6_faultOfMember v x0) (my_rf (f_X7_faultOfRange x1 1 400) (my_l (f_X7_measuredWith st v v2 w2 x1) (fun (u_3 : SetV × PowV) => (.inr ((rAt 8 u_3.2.2.2.2.2.2.2.2.2.2.1 x0), (u_3.1, u_3.2)))))))
set_option maxHeartbeats 400000 in
set_option maxRecDepth 100000 in
theorem c_X7_swingsWith (l : Launch) (hl0 : l.stackTraces = false) (D : va_G) (cy : Nat → ClassId) (g : Nat → Nat) (B : Nat) (p70 : Nat) (b7 : Nat → Nat) (c7 : Nat → Nat) (d7 : Nat → Nat) (e7 : Nat → Nat) (h7 : Nat → Nat) (k7 : Nat → Nat) (st : Int32) (v : SetV) (v2 : SetV) (w2 : PowV) (x0 : Int32) (x1 : Int32) : vx_Met l yX7_swingsWith wsX7_swingsWith ({ frames := 7, cells := 2, slots := 12, locals := 133 }) (muP D cy g B (List.flatten [(wPCo p70 b7 c7 d7 e7 h7 k7 st), (wSet cy b7 v), (wSet cy d7 v2), (wPow cy e7 w2)]) [.ref p70, .int x0, .int x1]) (va_Qi (fun (r : Int32) (u : SetV × PowV) => f_X7_swingsWith st v v2 w2 x0 x1 = .inr (r, u)) (fun u t => va_P D vwCl (List.flatten [(wPCo p70 b7 c7 d7 e7 h7 k7 st), (wSet cy b7 v), (wSet cy d7 u.1), (wPow cy e7 u.2)]) t.heap) (muA (List.flatten [(wPCo p70 b7 c7 d7 e7 h7 k7 st), (wSet cy b7 v), (wSet cy d7 v2), (wPow cy e7 w2)]))) (vx_X (fun (k : Int32) => f_X7_swingsWith st v v2 w2 x0 x1 = .inl k) (fun E k t => exE k E ∧ va_P D vwCl (List.flatten [(wPCo p70 b7 c7 d7 e7 h7 k7 st), (wSet cy b7 v), (wSet cy d7 v2), (wPow cy e7 w2)]) t.heap) (muA (List.flatten [(wPCo p70 b7 c7 d7 e7 h7 k7 st), (wSet cy b7 v), (wSet cy d7 v2), (wPow cy e7 w2)]))) 2 12 (muA (List.flatten [(wPCo p70 b7 c7 d7 e7 h7 k7 st), (wSet cy b7 v), (wSet cy d7 v2), (wPow cy e7 w2)])) := by
  refine vx_ofW (cc := cX7_swingsWith) (maxL := 3) (ret := (some .int)) (by decide) rfl ?_
  intro p e s m args below meth c s₁ BB hml hout hv
  obtain ⟨rfl, hP, hK0, hD0⟩ := hv
  have hx := BB.exec
  have hb := BB.bytes
  have hr := BB.returns
  have hts := atoms_spec (ws := wsX7_swingsWith) BB.pre
  have hown : s.vm.findClass RX7 = some m.cls := findClass_of_methodNamed BB.named
  have hlocks := BB.notSynchronized
  have S := my_fix hx hb hml hown hts
  have inX3 : ∀ w ∈ wsX30, w ∈ wsX7_swingsWith := fun w h => List.mem_cons_of_mem _ (List.mem_append_left _ (List.mem_append_left _ (List.mem_append_left _ (List.mem_append_left _ (List.mem_append_left _ (List.mem_append_right _ h))))))
  have inX7 : ∀ w ∈ wsX70, w ∈ wsX7_swingsWith := fun w h => List.mem_cons_of_mem _ (List.mem_append_left _ (List.mem_append_left _ (List.mem_append_left _ (List.mem_append_left _ (List.mem_append_left _ (List.mem_append_left _ (List.mem_append_right _ h)))))))
  have hAB := muB hD0
  have hD := muD hD0
  generalize hAe : muA (List.flatten [(wPCo p70 b7 c7 d7 e7 h7 k7 st), (wSet cy b7 v), (wSet cy d7 v2), (wPow cy e7 w2)]) = A at hAB hD ⊢
  have hS : va_S A s.heap s.heap [] := va_S.rf
  have hl := lv_entry ([.ref p70, .int x0, .int x1]) (n := 3) (Nat.le_of_ble_eq_true rfl)
  rw [lg_entry_eq]
  generalize (lg_sl ([.ref p70, .int x0, .int x1]) ++ List.replicate (3 - (lg_sl ([.ref p70, .int x0, .int x1])).length) Slot.unset).toArray = ls at hl ⊢
  have hl : lv_has ls 3 [(0, .ref p70), (1, .int x0), (2, .int x1)] := hl
  refine lv_aload_n hx hb dX7_swingsWith_0 rfl (lv_at hl 0 rfl) ?_
  refine va_get (D := D) (ci := 5) (v := .ref (b7 0)) (C := RX7) (T := TX7) (N := 7) hx hb hts inX7 hown hK0.1 hP 0 rfl rfl 0 (by decide) (hts (.fieldLink RX7 10 "PivotChamber" "setting" "LPivotChamber$Setting;") (List.mem_of_getElem? (i := 1) rfl)) (fun _ h9 => h9) rfl dX7_swingsWith_1 ?_
  refine lv_iload_n hx hb dX7_swingsWith_4 rfl (lv_at hl 1 rfl) ?_
  refine rd_goi (va_runV (C := RX6) (As := [.int x0]) (rest := []) S (c_X6_faultOfMember l D cy g B b7 v x0) (cwV 1 hts gX7_swingsWith_X6_faultOfMember rfl rfl rfl hd_X6_faultOfMember_V ⟨Nat.le_of_ble_eq_true rfl, Nat.le_of_ble_eq_true rfl⟩) ⟨rdP_blind, va_recv hK0.1 hP (ci := 4) (q0 := 1) rfl rfl, my_preP hK0 hS hAB (my_cP hP 1 rfl)⟩ rfl rfl hl.1 rfl (lv_room (Nat.le_of_ble_eq_true rfl)) dX7_swingsWith_5 ⟨Nat.le_of_ble_eq_true rfl, Nat.le_of_ble_eq_true rfl⟩) ?_
  refine my_rfx (vx_runS (As := [.int (f_X6_faultOfMember v x0)]) (rest := []) S (c_X7_refuse l hl0 D cy g B (f_X6_faultOfMember v x0)) (va_cwS 1 hts gX7_swingsWith_X7_refuse rfl rfl rfl hd_X7_refuse_S ⟨Nat.le_of_ble_eq_true rfl, Nat.le_of_ble_eq_true rfl⟩) ⟨rdP_blind, my_preV hK0 hS hAB hP [] rfl⟩ rfl rfl hl.1 rfl (lv_room (Nat.le_of_ble_eq_true rfl)) dX7_swingsWith_8 ⟨Nat.le_of_ble_eq_true rfl, Nat.le_of_ble_eq_true rfl⟩) hS hP hout hlocks (fun _ h => h) (Nat.le_of_ble_eq_true rfl) (Nat.le_of_ble_eq_true rfl) (fun hrf_1 E t h1 h2 h3 => ⟨(f_X6_faultOfMember v x0), (show f_X7_swingsWith st v v2 w2 x0 x1 = .inl (f_X6_faultOfMember v x0) from by rw [f_X7_swingsWith, my_rf_no hrf_1]), ⟨h1, h2⟩, h3⟩) (fun hrf_1 H locs hP hS => ?_)
  have hP : va_P D vwCl (List.flatten [(wPCo p70 b7 c7 d7 e7 h7 k7 st), (wSet cy b7 v), (wSet cy d7 v2), (wPow cy e7 w2)]) H := hP
  refine lv_iload_n hx hb dX7_swingsWith_11 rfl (lv_at hl 2 rfl) ?_
  refine lv_iconst (v := 1) hx hb dX7_swingsWith_12 (by decide) ?_
  refine lv_sipush (v := 400) hx hb dX7_swingsWith_13 (by decide) ?_
  refine rd_goi (va_runS (As := [.int x1, .int 1, .int 400]) (rest := []) S (c_X7_faultOfRange l D cy g B x1 1 400) (va_cwS 3 hts gX7_swingsWith_X7_faultOfRange rfl rfl rfl hd_X7_faultOfRange_S ⟨Nat.le_of_ble_eq_true rfl, Nat.le_of_ble_eq_true rfl⟩) ⟨rdP_blind, my_preV hK0 hS hAB hP [] rfl⟩ rfl rfl hl.1 rfl (lv_room (Nat.le_of_ble_eq_true rfl)) dX7_swingsWith_16 ⟨Nat.le_of_ble_eq_true rfl, Nat.le_of_ble_eq_true rfl⟩) ?_
  refine my_rfx (vx_runS (As := [.int (f_X7_faultOfRange x1 1 400)]) (rest := []) S (c_X7_refuse l hl0 D cy g B (f_X7_faultOfRange x1 1 400)) (va_cwS 1 hts gX7_swingsWith_X7_refuse rfl rfl rfl hd_X7_refuse_S ⟨Nat.le_of_ble_eq_true rfl, Nat.le_of_ble_eq_true rfl⟩) ⟨rdP_blind, my_preV hK0 hS hAB hP [] rfl⟩ rfl rfl hl.1 rfl (lv_room (Nat.le_of_ble_eq_true rfl)) dX7_swingsWith_19 ⟨Nat.le_of_ble_eq_true rfl, Nat.le_of_ble_eq_true rfl⟩) hS hP hout hlocks (fun _ h => h) (Nat.le_of_ble_eq_true rfl) (Nat.le_of_ble_eq_true rfl) (fun hrf_2 E t h1 h2 h3 => ⟨(f_X7_faultOfRange x1 1 400), (show f_X7_swingsWith st v v2 w2 x0 x1 = .inl (f_X7_faultOfRange x1 1 400) from by rw [f_X7_swingsWith, my_rf_ok hrf_1, my_rf_no hrf_2]), ⟨h1, h2⟩, h3⟩) (fun hrf_2 H locs hP hS => ?_)
  have hP : va_P D vwCl (List.flatten [(wPCo p70 b7 c7 d7 e7 h7 k7 st), (wSet cy b7 v), (wSet cy d7 v2), (wPow cy e7 w2)]) H := hP
  refine lv_aload_n hx hb dX7_swingsWith_22 rfl (lv_at hl 0 rfl) ?_
  refine lv_iload_n hx hb dX7_swingsWith_23 rfl (lv_at hl 2 rfl) ?_
  refine mu_allr (wf := fun (u_3 : SetV × PowV) => (List.flatten [(wPCo p70 b7 c7 d7 e7 h7 k7 st), (wSet cy b7 v), (wSet cy d7 u_3.1), (wPow cy e7 u_3.2)])) (va_runV (C := RX7) (As := [.int x1]) (rest := []) S (c_X7_measuredWith l D cy g B p70 b7 c7 d7 e7 h7 k7 st v v2 w2 x1) (cwV 1 hts gX7_swingsWith_X7_measuredWith rfl rfl rfl hd_X7_measuredWith_V ⟨Nat.le_of_ble_eq_true rfl, Nat.le_of_ble_eq_true rfl⟩) ⟨muP_blind, va_recv hK0.1 hP (ci := 5) (q0 := 0) rfl rfl, my_preA hK0 hS hAB hP hD⟩ rfl rfl hl.1 rfl (lv_room (Nat.le_of_ble_eq_true rfl)) dX7_swingsWith_24 ⟨Nat.le_of_ble_eq_true rfl, Nat.le_of_ble_eq_true rfl⟩) hS hD (fun _ => my_flat_adr (by simp only [List.map_cons, List.map_nil, adrSet, adrSetE, adrPow, adrPowE, adrTxt, adrTxtE, adrSav, adrSavE, adrPCo, adrMod, adrModE])) (fun u_3 H locs hw_4 hP hD hS => ?_)
  refine va_getN (D := D) (ci := 1) (v := .ref (e7 7)) (C := RX3) (T := TX3) (N := 13) (host := "PivotChamber") hx hb hts inX3 hown hK0.1 hP 19 rfl rfl 8 (by decide) (va_Nw.use rfl (hK0.2.1.1.f 4 rfl)) (fun _ h9 => h9) rfl dX7_swingsWith_27 ?_
  refine lv_iload_n hx hb dX7_swingsWith_30 rfl (lv_at hl 1 rfl) ?_
  refine rd_goi (va_runV (C := RX4) (As := [.int x0]) (rest := []) S (c_X4_at l D cy g B (e7 7) (e7 8) 8 u_3.2.2.2.2.2.2.2.2.2.2.1 x0 (by decide)) (cwV 1 hts gX7_swingsWith_X4_at rfl rfl rfl hd_X4_at_V ⟨Nat.le_of_ble_eq_true rfl, Nat.le_of_ble_eq_true rfl⟩) ⟨rdP_blind, va_recv hK0.1 hP (ci := 2) (q0 := 26) rfl rfl, my_preV hK0 hS hAB hP [26, 27] rfl⟩ rfl rfl hl.1 rfl (lv_room (Nat.le_of_ble_eq_true rfl)) dX7_swingsWith_31 ⟨Nat.le_of_ble_eq_true rfl, Nat.le_of_ble_eq_true rfl⟩) ?_
  refine vx_ret ?_
  exact W.iret hx hb hr (fun t ht hW => ⟨⟨(rAt 8 u_3.2.2.2.2.2.2.2.2.2.2.1 x0), (u_3.1, u_3.2), rfl, (show f_X7_swingsWith st v v2 w2 x0 x1 = (.inr ((rAt 8 u_3.2.2.2.2.2.2.2.2.2.2.1 x0), (u_3.1, u_3.2))) from by rw [f_X7_swingsWith, my_rf_ok hrf_1, my_rf_ok hrf_2, hw_4, my_l_eq]), by show va_P D vwCl _ t.heap; rw [ht]; exact hP⟩, hS.F ht⟩) hS.2.2 dX7_swingsWith_34
theorem hd_X7_bestQuota_S : yX7_bestQuota.cls ≠ "java/lang/invoke/MethodHandle" ∧ yX7_bestQuota.cls ≠ "java/lang/invoke/VarHandle" ∧ (parseMethodDescriptor yX7_bestQuota.desc).map (fun d => d.parameters.length) = some 1 := by decide +kernel
theorem hd_X7_bestQuota_V : yX7_bestQuota.cls = RX7 ∧ yX7_bestQuota.cls ≠ "java/lang/invoke/MethodHandle" ∧ yX7_bestQuota.cls ≠ "java/lang/invoke/VarHandle" ∧ (parseMethodDescriptor yX7_bestQuota.desc).map (fun d => d.parameters.length) = some 1 := ⟨rfl, hd_X7_bestQuota_S⟩
def f_X7_bestQuota (st : Int32) (v : SetV) (w : PowV) (x0 : Int32) : Int32 ⊕ (Int32 × (Int32 × PowV)) := (my_rf (f_X6_faultOfMember v x0) (my_l (f_X7_measured st v w) (fun (u_2 : Int32 × PowV) => (my_b (f_X3_bestQuotaFor u_2.2 x0 (f_X6_weightOf v (f_X6_everybody v))) (fun (r_6 : Int32) (u_4 : PowV) => (.inr (r_6, (u_2.1, u_4))))))))
set_option maxHeartbeats 400000 in
set_option maxRecDepth 100000 in
theorem c_X7_bestQuota (l : Launch) (hl0 : l.stackTraces = false) (D : va_G) (cy : Nat → ClassId) (g : Nat → Nat) (B : Nat) (p70 : Nat) (b7 : Nat → Nat) (c7 : Nat → Nat) (d7 : Nat → Nat) (e7 : Nat → Nat) (h7 : Nat → Nat) (k7 : Nat → Nat) (st : Int32) (v : SetV) (w : PowV) (x0 : Int32) : vx_Met l yX7_bestQuota wsX7_bestQuota ({ frames := 7, cells := 1, slots := 6, locals := 132 }) (muP D cy g B (List.flatten [(wPCo p70 b7 c7 d7 e7 h7 k7 st), (wSet cy b7 v), (wPow cy c7 w)]) [.ref p70, .int x0]) (va_Qi (fun (r : Int32) (u : Int32 × PowV) => f_X7_bestQuota st v w x0 = .inr (r, u)) (fun u t => va_P D vwCl (List.flatten [(wPCo p70 b7 c7 d7 e7 h7 k7 u.1), (wSet cy b7 v), (wPow cy c7 u.2)]) t.heap) (muA (List.flatten [(wPCo p70 b7 c7 d7 e7 h7 k7 st), (wSet cy b7 v), (wPow cy c7 w)]))) (vx_X (fun (k : Int32) => f_X7_bestQuota st v w x0 = .inl k) (fun E k t => exE k E ∧ va_P D vwCl (List.flatten [(wPCo p70 b7 c7 d7 e7 h7 k7 st), (wSet cy b7 v), (wPow cy c7 w)]) t.heap) (muA (List.flatten [(wPCo p70 b7 c7 d7 e7 h7 k7 st), (wSet cy b7 v), (wPow cy c7 w)]))) 1 6 (muA (List.flatten [(wPCo p70 b7 c7 d7 e7 h7 k7 st), (wSet cy b7 v), (wPow cy c7 w)])) := by
  refine vx_ofW (cc := cX7_bestQuota) (maxL := 2) (ret := (some .int)) (by decide) rfl ?_
  intro p e s m args below meth c s₁ BB hml hout hv
  obtain ⟨rfl, hP, hK0, hD0⟩ := hv
  have hx := BB.exec
  have hb := BB.bytes
  have hr := BB.returns
  have hts := atoms_spec (ws := wsX7_bestQuota) BB.pre
  have hown : s.vm.findClass RX7 = some m.cls := findClass_of_methodNamed BB.named
  have hlocks := BB.notSynchronized
  have S := my_fix hx hb hml hown hts
  have inX7 : ∀ w ∈ wsX70, w ∈ wsX7_bestQuota := fun w h => List.mem_cons_of_mem _ (List.mem_append_left _ (List.mem_append_left _ (List.mem_append_left _ (List.mem_append_left _ (List.mem_append_left _ (List.mem_append_left _ (List.mem_append_right _ h)))))))
  have hAB := muB hD0
  have hD := muD hD0
  generalize hAe : muA (List.flatten [(wPCo p70 b7 c7 d7 e7 h7 k7 st), (wSet cy b7 v), (wPow cy c7 w)]) = A at hAB hD ⊢
  have hS : va_S A s.heap s.heap [] := va_S.rf
  have hl := lv_entry ([.ref p70, .int x0]) (n := 2) (Nat.le_of_ble_eq_true rfl)
  rw [lg_entry_eq]
  generalize (lg_sl ([.ref p70, .int x0]) ++ List.replicate (2 - (lg_sl ([.ref p70, .int x0])).length) Slot.unset).toArray = ls at hl ⊢
  have hl : lv_has ls 2 [(0, .ref p70), (1, .int x0)] := hl
  refine lv_aload_n hx hb dX7_bestQuota_0 rfl (lv_at hl 0 rfl) ?_
  refine va_get (D := D) (ci := 5) (v := .ref (b7 0)) (C := RX7) (T := TX7) (N := 7) hx hb hts inX7 hown hK0.1 hP 0 rfl rfl 0 (by decide) (hts (.fieldLink RX7 10 "PivotChamber" "setting" "LPivotChamber$Setting;") (List.mem_of_getElem? (i := 1) rfl)) (fun _ h9 => h9) rfl dX7_bestQuota_1 ?_
  refine lv_iload_n hx hb dX7_bestQuota_4 rfl (lv_at hl 1 rfl) ?_
  refine rd_goi (va_runV (C := RX6) (As := [.int x0]) (rest := []) S (c_X6_faultOfMember l D cy g B b7 v x0) (cwV 1 hts gX7_bestQuota_X6_faultOfMember rfl rfl rfl hd_X6_faultOfMember_V ⟨Nat.le_of_ble_eq_true rfl, Nat.le_of_ble_eq_true rfl⟩) ⟨rdP_blind, va_recv hK0.1 hP (ci := 4) (q0 := 1) rfl rfl, my_preP hK0 hS hAB (my_cP hP 1 rfl)⟩ rfl rfl hl.1 rfl (lv_room (Nat.le_of_ble_eq_true rfl)) dX7_bestQuota_5 ⟨Nat.le_of_ble_eq_true rfl, Nat.le_of_ble_eq_true rfl⟩) ?_
  refine my_rfx (vx_runS (As := [.int (f_X6_faultOfMember v x0)]) (rest := []) S (c_X7_refuse l hl0 D cy g B (f_X6_faultOfMember v x0)) (va_cwS 1 hts gX7_bestQuota_X7_refuse rfl rfl rfl hd_X7_refuse_S ⟨Nat.le_of_ble_eq_true rfl, Nat.le_of_ble_eq_true rfl⟩) ⟨rdP_blind, my_preV hK0 hS hAB hP [] rfl⟩ rfl rfl hl.1 rfl (lv_room (Nat.le_of_ble_eq_true rfl)) dX7_bestQuota_8 ⟨Nat.le_of_ble_eq_true rfl, Nat.le_of_ble_eq_true rfl⟩) hS hP hout hlocks (fun _ h => h) (Nat.le_of_ble_eq_true rfl) (Nat.le_of_ble_eq_true rfl) (fun hrf_1 E t h1 h2 h3 => ⟨(f_X6_faultOfMember v x0), (show f_X7_bestQuota st v w x0 = .inl (f_X6_faultOfMember v x0) from by rw [f_X7_bestQuota, my_rf_no hrf_1]), ⟨h1, h2⟩, h3⟩) (fun hrf_1 H locs hP hS => ?_)
  have hP : va_P D vwCl (List.flatten [(wPCo p70 b7 c7 d7 e7 h7 k7 st), (wSet cy b7 v), (wPow cy c7 w)]) H := hP
  refine lv_aload_n hx hb dX7_bestQuota_11 rfl (lv_at hl 0 rfl) ?_
  refine mu_allr (wf := fun (u_2 : Int32 × PowV) => (List.flatten [(wPCo p70 b7 c7 d7 e7 h7 k7 u_2.1), (wSet cy b7 v), (wPow cy c7 u_2.2)])) (va_runV (C := RX7) (As := []) (rest := []) S (c_X7_measured l D cy g B p70 b7 c7 d7 e7 h7 k7 st v w) (cwV 0 hts gX7_bestQuota_X7_measured rfl rfl rfl hd_X7_measured_V ⟨Nat.le_of_ble_eq_true rfl, Nat.le_of_ble_eq_true rfl⟩) ⟨muP_blind, va_recv hK0.1 hP (ci := 5) (q0 := 0) rfl rfl, my_preA hK0 hS hAB hP hD⟩ rfl rfl hl.1 rfl (lv_room (Nat.le_of_ble_eq_true rfl)) dX7_bestQuota_12 ⟨Nat.le_of_ble_eq_true rfl, Nat.le_of_ble_eq_true rfl⟩) hS hD (fun _ => my_flat_adr (by simp only [List.map_cons, List.map_nil, adrSet, adrSetE, adrPow, adrPowE, adrTxt, adrTxtE, adrSav, adrSavE, adrPCo, adrMod, adrModE])) (fun u_2 H locs hw_3 hP hD hS => ?_)
  refine lv_iload_n hx hb dX7_bestQuota_15 rfl (lv_at hl 1 rfl) ?_
  refine lv_aload_n hx hb dX7_bestQuota_16 rfl (lv_at hl 0 rfl) ?_
  refine va_get (D := D) (ci := 5) (v := .ref (b7 0)) (C := RX7) (T := TX7) (N := 7) hx hb hts inX7 hown hK0.1 hP 0 rfl rfl 0 (by decide) (hts (.fieldLink RX7 10 "PivotChamber" "setting" "LPivotChamber$Setting;") (List.mem_of_getElem? (i := 1) rfl)) (fun _ h9 => h9) rfl dX7_bestQuota_17 ?_
  refine lv_aload_n hx hb dX7_bestQuota_20 rfl (lv_at hl 0 rfl) ?_
  refine va_get (D := D) (ci := 5) (v := .ref (b7 0)) (C := RX7) (T := TX7) (N := 7) hx hb hts inX7 hown hK0.1 hP 0 rfl rfl 0 (by decide) (hts (.fieldLink RX7 10 "PivotChamber" "setting" "LPivotChamber$Setting;") (List.mem_of_getElem? (i := 1) rfl)) (fun _ h9 => h9) rfl dX7_bestQuota_21 ?_
  refine rd_goi (va_runV (C := RX6) (As := []) (rest := [.ref (b7 0), .int x0, .ref (c7 0)]) S (c_X6_everybody l D cy g B b7 v) (cwV 0 hts gX7_bestQuota_X6_everybody rfl rfl rfl hd_X6_everybody_V ⟨Nat.le_of_ble_eq_true rfl, Nat.le_of_ble_eq_true rfl⟩) ⟨rdP_blind, va_recv hK0.1 hP (ci := 4) (q0 := 1) rfl rfl, my_preP hK0 hS hAB (my_cP hP 1 rfl)⟩ rfl rfl hl.1 rfl (lv_room (Nat.le_of_ble_eq_true rfl)) dX7_bestQuota_24 ⟨Nat.le_of_ble_eq_true rfl, Nat.le_of_ble_eq_true rfl⟩) ?_
  refine rd_goi (va_runV (C := RX6) (As := [.int (f_X6_everybody v)]) (rest := [.int x0, .ref (c7 0)]) S (c_X6_weightOf l D cy g B b7 v (f_X6_everybody v)) (cwV 1 hts gX7_bestQuota_X6_weightOf rfl rfl rfl hd_X6_weightOf_V ⟨Nat.le_of_ble_eq_true rfl, Nat.le_of_ble_eq_true rfl⟩) ⟨rdP_blind, va_recv hK0.1 hP (ci := 4) (q0 := 1) rfl rfl, my_preP hK0 hS hAB (my_cP hP 1 rfl)⟩ rfl rfl hl.1 rfl (lv_room (Nat.le_of_ble_eq_true rfl)) dX7_bestQuota_27 ⟨Nat.le_of_ble_eq_true rfl, Nat.le_of_ble_eq_true rfl⟩) ?_
  refine mu_compi (wcs := [(wPow cy c7 u_2.2)]) (wns := fun (u_4 : PowV) => [(wPow cy c7 u_4)]) (W2 := fun (u_4 : PowV) => [(wPCo p70 b7 c7 d7 e7 h7 k7 u_2.1), (wSet cy b7 v), (wPow cy c7 u_4)]) (va_runV (C := RX3) (As := [.int x0, .int (f_X6_weightOf v (f_X6_everybody v))]) (rest := []) S (c_X3_bestQuotaFor l D cy g B c7 u_2.2 x0 (f_X6_weightOf v (f_X6_everybody v))) (cwV 2 hts gX7_bestQuota_X3_bestQuotaFor rfl rfl rfl hd_X3_bestQuotaFor_V ⟨Nat.le_of_ble_eq_true rfl, Nat.le_of_ble_eq_true rfl⟩) ⟨muP_blind, va_recv hK0.1 hP (ci := 1) (q0 := 10) rfl rfl, my_preC (wcs := [(wPow cy c7 u_2.2)]) hK0 hS hAB hP hD [2] (by decide) rfl (List.append_nil _)⟩ rfl rfl hl.1 rfl (lv_room (Nat.le_of_ble_eq_true rfl)) dX7_bestQuota_30 ⟨Nat.le_of_ble_eq_true rfl, Nat.le_of_ble_eq_true rfl⟩) hS hP hD [2] rfl (List.append_nil _) (fun _ => List.append_nil _) (fun _ => by simp only [List.map_cons, List.map_nil, adrSet, adrSetE, adrPow, adrPowE, adrTxt, adrTxtE, adrSav, adrSavE, adrPCo, adrMod, adrModE]) (fun _ => rfl) (fun r_6 u_4 H locs hw_5 hP hD hS => ?_)
  refine vx_ret ?_
  exact W.iret hx hb hr (fun t ht hW => ⟨⟨r_6, (u_2.1, u_4), rfl, (show f_X7_bestQuota st v w x0 = (.inr (r_6, (u_2.1, u_4))) from by rw [f_X7_bestQuota, my_rf_ok hrf_1, hw_3, my_l_eq, hw_5, my_b_eq]), by show va_P D vwCl _ t.heap; rw [ht]; exact hP⟩, hS.F ht⟩) hS.2.2 dX7_bestQuota_33
theorem hd_X7_dummiesWith_S : yX7_dummiesWith.cls ≠ "java/lang/invoke/MethodHandle" ∧ yX7_dummiesWith.cls ≠ "java/lang/invoke/VarHandle" ∧ (parseMethodDescriptor yX7_dummiesWith.desc).map (fun d => d.parameters.length) = some 1 := by decide +kernel
theorem hd_X7_dummiesWith_V : yX7_dummiesWith.cls = RX7 ∧ yX7_dummiesWith.cls ≠ "java/lang/invoke/MethodHandle" ∧ yX7_dummiesWith.cls ≠ "java/lang/invoke/VarHandle" ∧ (parseMethodDescriptor yX7_dummiesWith.desc).map (fun d => d.parameters.length) = some 1 := ⟨rfl, hd_X7_dummiesWith_S⟩
def f_X7_dummiesWith (st : Int32) (v : SetV) (v2 : SetV) (w2 : PowV) (x0 : Int32) : Int32 ⊕ (Int32 × (SetV × PowV)) := (my_rf (f_X7_faultOfRange x0 1 400) (my_l (f_X7_measuredWith st v v2 w2 x0) (fun (u_2 : SetV × PowV) => (.inr ((f_X3_dummies u_2.2), (u_2.1, u_2.2))))))
set_option maxHeartbeats 400000 in
set_option maxRecDepth 100000 in
theorem c_X7_dummiesWith (l : Launch) (hl0 : l.stackTraces = false) (D : va_G) (cy : Nat → ClassId) (g : Nat → Nat) (B : Nat) (p70 : Nat) (b7 : Nat → Nat) (c7 : Nat → Nat) (d7 : Nat → Nat) (e7 : Nat → Nat) (h7 : Nat → Nat) (k7 : Nat → Nat) (st : Int32) (v : SetV) (v2 : SetV) (w2 : PowV) (x0 : Int32) : vx_Met l yX7_dummiesWith wsX7_dummiesWith ({ frames := 7, cells := 1, slots := 6, locals := 133 }) (muP D cy g B (List.flatten [(wPCo p70 b7 c7 d7 e7 h7 k7 st), (wSet cy b7 v), (wSet cy d7 v2), (wPow cy e7 w2)]) [.ref p70, .int x0]) (va_Qi (fun (r : Int32) (u : SetV × PowV) => f_X7_dummiesWith st v v2 w2 x0 = .inr (r, u)) (fun u t => va_P D vwCl (List.flatten [(wPCo p70 b7 c7 d7 e7 h7 k7 st), (wSet cy b7 v), (wSet cy d7 u.1), (wPow cy e7 u.2)]) t.heap) (muA (List.flatten [(wPCo p70 b7 c7 d7 e7 h7 k7 st), (wSet cy b7 v), (wSet cy d7 v2), (wPow cy e7 w2)]))) (vx_X (fun (k : Int32) => f_X7_dummiesWith st v v2 w2 x0 = .inl k) (fun E k t => exE k E ∧ va_P D vwCl (List.flatten [(wPCo p70 b7 c7 d7 e7 h7 k7 st), (wSet cy b7 v), (wSet cy d7 v2), (wPow cy e7 w2)]) t.heap) (muA (List.flatten [(wPCo p70 b7 c7 d7 e7 h7 k7 st), (wSet cy b7 v), (wSet cy d7 v2), (wPow cy e7 w2)]))) 1 6 (muA (List.flatten [(wPCo p70 b7 c7 d7 e7 h7 k7 st), (wSet cy b7 v), (wSet cy d7 v2), (wPow cy e7 w2)])) := by
  refine vx_ofW (cc := cX7_dummiesWith) (maxL := 2) (ret := (some .int)) (by decide) rfl ?_
  intro p e s m args below meth c s₁ BB hml hout hv
  obtain ⟨rfl, hP, hK0, hD0⟩ := hv
  have hx := BB.exec
  have hb := BB.bytes
  have hr := BB.returns
  have hts := atoms_spec (ws := wsX7_dummiesWith) BB.pre
  have hown : s.vm.findClass RX7 = some m.cls := findClass_of_methodNamed BB.named
  have hlocks := BB.notSynchronized
  have S := my_fix hx hb hml hown hts
  have hAB := muB hD0
  have hD := muD hD0
  generalize hAe : muA (List.flatten [(wPCo p70 b7 c7 d7 e7 h7 k7 st), (wSet cy b7 v), (wSet cy d7 v2), (wPow cy e7 w2)]) = A at hAB hD ⊢
  have hS : va_S A s.heap s.heap [] := va_S.rf
  have hl := lv_entry ([.ref p70, .int x0]) (n := 2) (Nat.le_of_ble_eq_true rfl)
  rw [lg_entry_eq]
  generalize (lg_sl ([.ref p70, .int x0]) ++ List.replicate (2 - (lg_sl ([.ref p70, .int x0])).length) Slot.unset).toArray = ls at hl ⊢
  have hl : lv_has ls 2 [(0, .ref p70), (1, .int x0)] := hl
  refine lv_iload_n hx hb dX7_dummiesWith_0 rfl (lv_at hl 1 rfl) ?_
  refine lv_iconst (v := 1) hx hb dX7_dummiesWith_1 (by decide) ?_
  refine lv_sipush (v := 400) hx hb dX7_dummiesWith_2 (by decide) ?_
  refine rd_goi (va_runS (As := [.int x0, .int 1, .int 400]) (rest := []) S (c_X7_faultOfRange l D cy g B x0 1 400) (va_cwS 3 hts gX7_dummiesWith_X7_faultOfRange rfl rfl rfl hd_X7_faultOfRange_S ⟨Nat.le_of_ble_eq_true rfl, Nat.le_of_ble_eq_true rfl⟩) ⟨rdP_blind, my_preV hK0 hS hAB hP [] rfl⟩ rfl rfl hl.1 rfl (lv_room (Nat.le_of_ble_eq_true rfl)) dX7_dummiesWith_5 ⟨Nat.le_of_ble_eq_true rfl, Nat.le_of_ble_eq_true rfl⟩) ?_
  refine my_rfx (vx_runS (As := [.int (f_X7_faultOfRange x0 1 400)]) (rest := []) S (c_X7_refuse l hl0 D cy g B (f_X7_faultOfRange x0 1 400)) (va_cwS 1 hts gX7_dummiesWith_X7_refuse rfl rfl rfl hd_X7_refuse_S ⟨Nat.le_of_ble_eq_true rfl, Nat.le_of_ble_eq_true rfl⟩) ⟨rdP_blind, my_preV hK0 hS hAB hP [] rfl⟩ rfl rfl hl.1 rfl (lv_room (Nat.le_of_ble_eq_true rfl)) dX7_dummiesWith_8 ⟨Nat.le_of_ble_eq_true rfl, Nat.le_of_ble_eq_true rfl⟩) hS hP hout hlocks (fun _ h => h) (Nat.le_of_ble_eq_true rfl) (Nat.le_of_ble_eq_true rfl) (fun hrf_1 E t h1 h2 h3 => ⟨(f_X7_faultOfRange x0 1 400), (show f_X7_dummiesWith st v v2 w2 x0 = .inl (f_X7_faultOfRange x0 1 400) from by rw [f_X7_dummiesWith, my_rf_no hrf_1]), ⟨h1, h2⟩, h3⟩) (fun hrf_1 H locs hP hS => ?_)
  have hP : va_P D vwCl (List.flatten [(wPCo p70 b7 c7 d7 e7 h7 k7 st), (wSet cy b7 v), (wSet cy d7 v2), (wPow cy e7 w2)]) H := hP
  refine lv_aload_n hx hb dX7_dummiesWith_11 rfl (lv_at hl 0 rfl) ?_
  refine lv_iload_n hx hb dX7_dummiesWith_12 rfl (lv_at hl 1 rfl) ?_
  refine mu_allr (wf := fun (u_2 : SetV × PowV) => (List.flatten [(wPCo p70 b7 c7 d7 e7 h7 k7 st), (wSet cy b7 v), (wSet cy d7 u_2.1), (wPow cy e7 u_2.2)])) (va_runV (C := RX7) (As := [.int x0]) (rest := []) S (c_X7_measuredWith l D cy g B p70 b7 c7 d7 e7 h7 k7 st v v2 w2 x0) (cwV 1 hts gX7_dummiesWith_X7_measuredWith rfl rfl rfl hd_X7_measuredWith_V ⟨Nat.le_of_ble_eq_true rfl, Nat.le_of_ble_eq_true rfl⟩) ⟨muP_blind, va_recv hK0.1 hP (ci := 5) (q0 := 0) rfl rfl, my_preA hK0 hS hAB hP hD⟩ rfl rfl hl.1 rfl (lv_room (Nat.le_of_ble_eq_true rfl)) dX7_dummiesWith_13 ⟨Nat.le_of_ble_eq_true rfl, Nat.le_of_ble_eq_true rfl⟩) hS hD (fun _ => my_flat_adr (by simp only [List.map_cons, List.map_nil, adrSet, adrSetE, adrPow, adrPowE, adrTxt, adrTxtE, adrSav, adrSavE, adrPCo, adrMod, adrModE])) (fun u_2 H locs hw_3 hP hD hS => ?_)
  refine rd_goi (va_runV (C := RX3) (As := []) (rest := []) S (c_X3_dummies l D cy g B e7 u_2.2) (cwV 0 hts gX7_dummiesWith_X3_dummies rfl rfl rfl hd_X3_dummies_V ⟨Nat.le_of_ble_eq_true rfl, Nat.le_of_ble_eq_true rfl⟩) ⟨rdP_blind, va_recv hK0.1 hP (ci := 1) (q0 := 19) rfl rfl, my_preP hK0 hS hAB (my_cP hP 3 rfl)⟩ rfl rfl hl.1 rfl (lv_room (Nat.le_of_ble_eq_true rfl)) dX7_dummiesWith_16 ⟨Nat.le_of_ble_eq_true rfl, Nat.le_of_ble_eq_true rfl⟩) ?_
  refine vx_ret ?_
  exact W.iret hx hb hr (fun t ht hW => ⟨⟨(f_X3_dummies u_2.2), (u_2.1, u_2.2), rfl, (show f_X7_dummiesWith st v v2 w2 x0 = (.inr ((f_X3_dummies u_2.2), (u_2.1, u_2.2))) from by rw [f_X7_dummiesWith, my_rf_ok hrf_1, hw_3, my_l_eq]), by show va_P D vwCl _ t.heap; rw [ht]; exact hP⟩, hS.F ht⟩) hS.2.2 dX7_dummiesWith_19
theorem hd_X7_leastWeight_S : yX7_leastWeight.cls ≠ "java/lang/invoke/MethodHandle" ∧ yX7_leastWeight.cls ≠ "java/lang/invoke/VarHandle" ∧ (parseMethodDescriptor yX7_leastWeight.desc).map (fun d => d.parameters.length) = some 1 := by decide +kernel
theorem hd_X7_leastWeight_V : yX7_leastWeight.cls = RX7 ∧ yX7_leastWeight.cls ≠ "java/lang/invoke/MethodHandle" ∧ yX7_leastWeight.cls ≠ "java/lang/invoke/VarHandle" ∧ (parseMethodDescriptor yX7_leastWeight.desc).map (fun d => d.parameters.length) = some 1 := ⟨rfl, hd_X7_leastWeight_S⟩
def f_X7_leastWeight_st (v : SetV) (x0 : Int32) (u_2 : Int32 × PowV) (i2_4 : Int32) (i4_5 : Int32) : (Int32 × Int32) ⊕ (Int32 × Int32) := (if 256 ≤ i4_5 then (.inr (i2_4, i4_5)) else (if (f_X3_isSetOfPlayers u_2.2 i4_5) = 0 then (.inl (i2_4, (i4_5 + 1))) else (if (f_X7_contains i4_5 x0) = 0 then (.inl (i2_4, (i4_5 + 1))) else (.inl ((my_min i2_4 (f_X7_weightToSwing u_2.1 v u_2.2 x0 i4_5)), (i4_5 + 1))))))
def f_X7_leastWeight (st : Int32) (v : SetV) (w : PowV) (x0 : Int32) : Int32 ⊕ (Int32 × (Int32 × PowV)) := (my_rf (f_X6_faultOfMember v x0) (my_l (f_X7_measured st v w) (fun (u_2 : Int32 × PowV) => (my_t2 (lp (fun (x : Int32 × Int32) => f_X7_leastWeight_st v x0 u_2 x.1 x.2) default (((256 : Int32).toInt - (0 : Int32).toInt).toNat + 1) (51, 0)) (fun (i2_4 : Int32) (i4_5 : Int32) => (if i2_4 ≤ 50 then (.inr (i2_4, (u_2.1, u_2.2))) else (.inr ((-1), (u_2.1, u_2.2)))))))))
set_option maxHeartbeats 400000 in
set_option maxRecDepth 100000 in
theorem c_X7_leastWeight (l : Launch) (hl0 : l.stackTraces = false) (D : va_G) (cy : Nat → ClassId) (g : Nat → Nat) (B : Nat) (p70 : Nat) (b7 : Nat → Nat) (c7 : Nat → Nat) (d7 : Nat → Nat) (e7 : Nat → Nat) (h7 : Nat → Nat) (k7 : Nat → Nat) (st : Int32) (v : SetV) (w : PowV) (x0 : Int32) : vx_Met l yX7_leastWeight wsX7_leastWeight ({ frames := 7, cells := 1, slots := 6, locals := 132 }) (muP D cy g B (List.flatten [(wPCo p70 b7 c7 d7 e7 h7 k7 st), (wSet cy b7 v), (wPow cy c7 w)]) [.ref p70, .int x0]) (va_Qi (fun (r : Int32) (u : Int32 × PowV) => f_X7_leastWeight st v w x0 = .inr (r, u)) (fun u t => va_P D vwCl (List.flatten [(wPCo p70 b7 c7 d7 e7 h7 k7 u.1), (wSet cy b7 v), (wPow cy c7 u.2)]) t.heap) (muA (List.flatten [(wPCo p70 b7 c7 d7 e7 h7 k7 st), (wSet cy b7 v), (wPow cy c7 w)]))) (vx_X (fun (k : Int32) => f_X7_leastWeight st v w x0 = .inl k) (fun E k t => exE k E ∧ va_P D vwCl (List.flatten [(wPCo p70 b7 c7 d7 e7 h7 k7 st), (wSet cy b7 v), (wPow cy c7 w)]) t.heap) (muA (List.flatten [(wPCo p70 b7 c7 d7 e7 h7 k7 st), (wSet cy b7 v), (wPow cy c7 w)]))) 1 6 (muA (List.flatten [(wPCo p70 b7 c7 d7 e7 h7 k7 st), (wSet cy b7 v), (wPow cy c7 w)])) := by
  refine vx_ofW (cc := cX7_leastWeight) (maxL := 5) (ret := (some .int)) (by decide) rfl ?_
  intro p e s m args below meth c s₁ BB hml hout hv
  obtain ⟨rfl, hP, hK0, hD0⟩ := hv
  have hx := BB.exec
  have hb := BB.bytes
  have hr := BB.returns
  have hts := atoms_spec (ws := wsX7_leastWeight) BB.pre
  have hown : s.vm.findClass RX7 = some m.cls := findClass_of_methodNamed BB.named
  have hlocks := BB.notSynchronized
  have S := my_fix hx hb hml hown hts
  have inX7 : ∀ w ∈ wsX70, w ∈ wsX7_leastWeight := fun w h => List.mem_cons_of_mem _ (List.mem_append_left _ (List.mem_append_left _ (List.mem_append_left _ (List.mem_append_left _ (List.mem_append_left _ (List.mem_append_left _ (List.mem_append_right _ h)))))))
  have hAB := muB hD0
  have hD := muD hD0
  generalize hAe : muA (List.flatten [(wPCo p70 b7 c7 d7 e7 h7 k7 st), (wSet cy b7 v), (wPow cy c7 w)]) = A at hAB hD ⊢
  have hS : va_S A s.heap s.heap [] := va_S.rf
  have hl := lv_entry ([.ref p70, .int x0]) (n := 5) (Nat.le_of_ble_eq_true rfl)
  rw [lg_entry_eq]
  generalize (lg_sl ([.ref p70, .int x0]) ++ List.replicate (5 - (lg_sl ([.ref p70, .int x0])).length) Slot.unset).toArray = ls at hl ⊢
  have hl : lv_has ls 5 [(0, .ref p70), (1, .int x0)] := hl
  refine lv_aload_n hx hb dX7_leastWeight_0 rfl (lv_at hl 0 rfl) ?_
  refine va_get (D := D) (ci := 5) (v := .ref (b7 0)) (C := RX7) (T := TX7) (N := 7) hx hb hts inX7 hown hK0.1 hP 0 rfl rfl 0 (by decide) (hts (.fieldLink RX7 10 "PivotChamber" "setting" "LPivotChamber$Setting;") (List.mem_of_getElem? (i := 1) rfl)) (fun _ h9 => h9) rfl dX7_leastWeight_1 ?_
  refine lv_iload_n hx hb dX7_leastWeight_4 rfl (lv_at hl 1 rfl) ?_
  refine rd_goi (va_runV (C := RX6) (As := [.int x0]) (rest := []) S (c_X6_faultOfMember l D cy g B b7 v x0) (cwV 1 hts gX7_leastWeight_X6_faultOfMember rfl rfl rfl hd_X6_faultOfMember_V ⟨Nat.le_of_ble_eq_true rfl, Nat.le_of_ble_eq_true rfl⟩) ⟨rdP_blind, va_recv hK0.1 hP (ci := 4) (q0 := 1) rfl rfl, my_preP hK0 hS hAB (my_cP hP 1 rfl)⟩ rfl rfl hl.1 rfl (lv_room (Nat.le_of_ble_eq_true rfl)) dX7_leastWeight_5 ⟨Nat.le_of_ble_eq_true rfl, Nat.le_of_ble_eq_true rfl⟩) ?_
  refine my_rfx (vx_runS (As := [.int (f_X6_faultOfMember v x0)]) (rest := []) S (c_X7_refuse l hl0 D cy g B (f_X6_faultOfMember v x0)) (va_cwS 1 hts gX7_leastWeight_X7_refuse rfl rfl rfl hd_X7_refuse_S ⟨Nat.le_of_ble_eq_true rfl, Nat.le_of_ble_eq_true rfl⟩) ⟨rdP_blind, my_preV hK0 hS hAB hP [] rfl⟩ rfl rfl hl.1 rfl (lv_room (Nat.le_of_ble_eq_true rfl)) dX7_leastWeight_8 ⟨Nat.le_of_ble_eq_true rfl, Nat.le_of_ble_eq_true rfl⟩) hS hP hout hlocks (fun _ h => h) (Nat.le_of_ble_eq_true rfl) (Nat.le_of_ble_eq_true rfl) (fun hrf_1 E t h1 h2 h3 => ⟨(f_X6_faultOfMember v x0), (show f_X7_leastWeight st v w x0 = .inl (f_X6_faultOfMember v x0) from by rw [f_X7_leastWeight, my_rf_no hrf_1]), ⟨h1, h2⟩, h3⟩) (fun hrf_1 H locs hP hS => ?_)
  have hP : va_P D vwCl (List.flatten [(wPCo p70 b7 c7 d7 e7 h7 k7 st), (wSet cy b7 v), (wPow cy c7 w)]) H := hP
  refine lv_bipush (v := 51) hx hb dX7_leastWeight_11 (by decide) ?_
  refine lv_istore_n (lv' := [(2, .int 51), (0, .ref p70), (1, .int x0)]) hx hb dX7_leastWeight_13 rfl hl (by decide) rfl (fun ls hl => ?_)
  refine lv_aload_n hx hb dX7_leastWeight_14 rfl (lv_at hl 1 rfl) ?_
  refine mu_allr (wf := fun (u_2 : Int32 × PowV) => (List.flatten [(wPCo p70 b7 c7 d7 e7 h7 k7 u_2.1), (wSet cy b7 v), (wPow cy c7 u_2.2)])) (va_runV (C := RX7) (As := []) (rest := []) S (c_X7_measured l D cy g B p70 b7 c7 d7 e7 h7 k7 st v w) (cwV 0 hts gX7_leastWeight_X7_measured rfl rfl rfl hd_X7_measured_V ⟨Nat.le_of_ble_eq_true rfl, Nat.le_of_ble_eq_true rfl⟩) ⟨muP_blind, va_recv hK0.1 hP (ci := 5) (q0 := 0) rfl rfl, my_preA hK0 hS hAB hP hD⟩ rfl rfl hl.1 rfl (lv_room (Nat.le_of_ble_eq_true rfl)) dX7_leastWeight_15 ⟨Nat.le_of_ble_eq_true rfl, Nat.le_of_ble_eq_true rfl⟩) hS hD (fun _ => my_flat_adr (by simp only [List.map_cons, List.map_nil, adrSet, adrSetE, adrPow, adrPowE, adrTxt, adrTxtE, adrSav, adrSavE, adrPCo, adrMod, adrModE])) (fun u_2 H locs hw_3 hP hD hS => ?_)
  refine lv_astore_n (lv' := [(3, .ref (c7 0)), (2, .int 51), (0, .ref p70), (1, .int x0)]) hx hb dX7_leastWeight_18 rfl hl (by decide) rfl (fun ls hl => ?_)
  refine lv_iconst (v := 0) hx hb dX7_leastWeight_19 (by decide) ?_
  refine lv_istore (lv' := [(4, .int 0), (3, .ref (c7 0)), (2, .int 51), (0, .ref p70), (1, .int x0)]) hx hb dX7_leastWeight_20 hl (by decide) rfl (fun ls hl => ?_)
  have cont0 : ∀ (i2_4 : Int32) (i4_5 : Int32), lp (fun (x : Int32 × Int32) => f_X7_leastWeight_st v x0 u_2 x.1 x.2) default (((256 : Int32).toInt - (0 : Int32).toInt).toNat + 1) (51, 0) = (i2_4, i4_5) → ∀ ls : Array Slot, lv_has ls 5 [(0, .ref p70), (1, .int x0), (2, .int i2_4), (3, .ref (c7 0)), (4, .int i4_5)] → W p l e (headSpec wsX7_leastWeight ({ frames := 7, cells := 1, slots := 6, locals := 132 } : Room)).room s m ([.ref p70, .int x0] : List Value).toArray below meth c H locs (0 + 1) (0 + 6) (vx_MQ below (va_Qi (fun (r : Int32) (u : Int32 × PowV) => f_X7_leastWeight st v w x0 = .inr (r, u)) (fun u t => va_P D vwCl (List.flatten [(wPCo p70 b7 c7 d7 e7 h7 k7 u.1), (wSet cy b7 v), (wPow cy c7 u.2)]) t.heap) A) (vx_X (fun (k : Int32) => f_X7_leastWeight st v w x0 = .inl k) (fun E k t => exE k E ∧ va_P D vwCl (List.flatten [(wPCo p70 b7 c7 d7 e7 h7 k7 st), (wSet cy b7 v), (wPow cy c7 w)]) t.heap) A) ([.ref p70, .int x0] : List Value).toArray s 1 6 A) (F0 m 67 ls []) := by
    intro i2_4 i4_5 hE0 ls hl
    refine lv_iload_n hx hb dX7_leastWeight_67 rfl (lv_at hl 2 rfl) ?_
    refine lv_bipush (v := 50) hx hb dX7_leastWeight_68 (by decide) ?_
    refine lv_icmp_le (tgt := 77) hx hb dX7_leastWeight_70 (by decide) (fun c_6 => ?_) (fun c_6 => ?_)
    · refine lv_iload_n hx hb dX7_leastWeight_77 rfl (lv_at hl 2 rfl) ?_
      refine vx_ret ?_
      exact W.iret hx hb hr (fun t ht hW => ⟨⟨i2_4, (u_2.1, u_2.2), rfl, (show f_X7_leastWeight st v w x0 = (.inr (i2_4, (u_2.1, u_2.2))) from by rw [f_X7_leastWeight, my_rf_ok hrf_1, hw_3, my_l_eq, hE0, my_t2_eq, if_pos c_6]), by show va_P D vwCl _ t.heap; rw [ht]; exact hP⟩, hS.F ht⟩) hS.2.2 dX7_leastWeight_78
    · refine lv_iconst (v := (-1)) hx hb dX7_leastWeight_73 (by decide) ?_
      refine lv_goto (tgt := 78) hx hb dX7_leastWeight_74 (by decide) ?_
      refine vx_ret ?_
      exact W.iret hx hb hr (fun t ht hW => ⟨⟨(-1), (u_2.1, u_2.2), rfl, (show f_X7_leastWeight st v w x0 = (.inr ((-1), (u_2.1, u_2.2))) from by rw [f_X7_leastWeight, my_rf_ok hrf_1, hw_3, my_l_eq, hE0, my_t2_eq, if_neg c_6]), by show va_P D vwCl _ t.heap; rw [ht]; exact hP⟩, hS.F ht⟩) hS.2.2 dX7_leastWeight_78
  have key : ∀ (nf : Nat) (i2_4 : Int32) (i4_5 : Int32), ((256 : Int32).toInt - (i4_5 : Int32).toInt).toNat < nf → lp (fun (x : Int32 × Int32) => f_X7_leastWeight_st v x0 u_2 x.1 x.2) default nf (i2_4, i4_5) = lp (fun (x : Int32 × Int32) => f_X7_leastWeight_st v x0 u_2 x.1 x.2) default (((256 : Int32).toInt - (0 : Int32).toInt).toNat + 1) (51, 0) → ∀ ls : Array Slot, lv_has ls 5 [(0, .ref p70), (1, .int x0), (2, .int i2_4), (3, .ref (c7 0)), (4, .int i4_5)] → W p l e (headSpec wsX7_leastWeight ({ frames := 7, cells := 1, slots := 6, locals := 132 } : Room)).room s m ([.ref p70, .int x0] : List Value).toArray below meth c H locs (0 + 1) (0 + 6) (vx_MQ below (va_Qi (fun (r : Int32) (u : Int32 × PowV) => f_X7_leastWeight st v w x0 = .inr (r, u)) (fun u t => va_P D vwCl (List.flatten [(wPCo p70 b7 c7 d7 e7 h7 k7 u.1), (wSet cy b7 v), (wPow cy c7 u.2)]) t.heap) A) (vx_X (fun (k : Int32) => f_X7_leastWeight st v w x0 = .inl k) (fun E k t => exE k E ∧ va_P D vwCl (List.flatten [(wPCo p70 b7 c7 d7 e7 h7 k7 st), (wSet cy b7 v), (wPow cy c7 w)]) t.heap) A) ([.ref p70, .int x0] : List Value).toArray s 1 6 A) (F0 m 22 ls []) := by
    intro n0
    induction n0 with
    | zero => intro i2_4 i4_5 hlt; exact absurd hlt (Nat.not_lt_zero _)
    | succ n0 ih0 =>
      intro i2_4 i4_5 hlt0 hF0 ls hl
      refine lv_iload hx hb dX7_leastWeight_22 (lv_at hl 4 rfl) ?_
      refine lv_sipush (v := 256) hx hb dX7_leastWeight_24 (by decide) ?_
      refine lv_icmp_ge (tgt := 67) hx hb dX7_leastWeight_27 (by decide) (fun c_7 => ?_) (fun c_7 => ?_)
      · have hst : f_X7_leastWeight_st v x0 u_2 i2_4 i4_5 = .inr (i2_4, i4_5) := by rw [f_X7_leastWeight_st, if_pos c_7]
        exact cont0 i2_4 i4_5 (lp_inr hst hF0) _ (lv_sub hl [0, 1, 2, 3, 4] rfl)
      · refine lv_aload_n hx hb dX7_leastWeight_30 rfl (lv_at hl 3 rfl) ?_
        refine lv_iload hx hb dX7_leastWeight_31 (lv_at hl 4 rfl) ?_
        refine rd_goi (va_runV (C := RX3) (As := [.int i4_5]) (rest := []) S (c_X3_isSetOfPlayers l D cy g B c7 u_2.2 i4_5) (cwV 1 hts gX7_leastWeight_X3_isSetOfPlayers rfl rfl rfl hd_X3_isSetOfPlayers_V ⟨Nat.le_of_ble_eq_true rfl, Nat.le_of_ble_eq_true rfl⟩) ⟨rdP_blind, va_recv hK0.1 hP (ci := 1) (q0 := 10) rfl rfl, my_preP hK0 hS hAB (my_cP hP 2 rfl)⟩ rfl rfl hl.1 rfl (lv_room (Nat.le_of_ble_eq_true rfl)) dX7_leastWeight_33 ⟨Nat.le_of_ble_eq_true rfl, Nat.le_of_ble_eq_true rfl⟩) ?_
        refine lv_if_eq (tgt := 61) hx hb dX7_leastWeight_36 (by decide) (fun c_8 => ?_) (fun c_8 => ?_)
        · refine lv_iinc (v := (i4_5 + 1)) (lv' := [(4, .int (i4_5 + 1)), (0, .ref p70), (1, .int x0), (2, .int i2_4), (3, .ref (c7 0))]) hx hb dX7_leastWeight_61 hl (k := 4) rfl rfl (by decide) rfl (fun ls hl => ?_)
          refine lv_goto (tgt := 22) hx hb dX7_leastWeight_64 (by decide) ?_
          have hst : f_X7_leastWeight_st v x0 u_2 i2_4 i4_5 = .inl (i2_4, (i4_5 + 1)) := by rw [f_X7_leastWeight_st, if_neg c_7, if_pos c_8]
          have hmu : ((256 : Int32).toInt - ((i4_5 + 1) : Int32).toInt).toNat < ((256 : Int32).toInt - (i4_5 : Int32).toInt).toNat := mu_up c_7
          exact ih0 i2_4 (i4_5 + 1) (Nat.lt_of_lt_of_le hmu (Nat.le_of_lt_succ hlt0)) (lp_inl hst hF0) _ (lv_sub hl [1, 2, 3, 4, 0] rfl)
        · refine lv_iload hx hb dX7_leastWeight_39 (lv_at hl 4 rfl) ?_
          refine lv_iload_n hx hb dX7_leastWeight_41 rfl (lv_at hl 1 rfl) ?_
          refine rd_goi (va_runS (As := [.int i4_5, .int x0]) (rest := []) S (c_X7_contains l D cy g B i4_5 x0) (va_cwS 2 hts gX7_leastWeight_X7_contains rfl rfl rfl hd_X7_contains_S ⟨Nat.le_of_ble_eq_true rfl, Nat.le_of_ble_eq_true rfl⟩) ⟨rdP_blind, my_preV hK0 hS hAB hP [] rfl⟩ rfl rfl hl.1 rfl (lv_room (Nat.le_of_ble_eq_true rfl)) dX7_leastWeight_42 ⟨Nat.le_of_ble_eq_true rfl, Nat.le_of_ble_eq_true rfl⟩) ?_
          refine lv_if_eq (tgt := 61) hx hb dX7_leastWeight_45 (by decide) (fun c_9 => ?_) (fun c_9 => ?_)
          · refine lv_iinc (v := (i4_5 + 1)) (lv' := [(4, .int (i4_5 + 1)), (0, .ref p70), (1, .int x0), (2, .int i2_4), (3, .ref (c7 0))]) hx hb dX7_leastWeight_61 hl (k := 4) rfl rfl (by decide) rfl (fun ls hl => ?_)
            refine lv_goto (tgt := 22) hx hb dX7_leastWeight_64 (by decide) ?_
            have hst : f_X7_leastWeight_st v x0 u_2 i2_4 i4_5 = .inl (i2_4, (i4_5 + 1)) := by rw [f_X7_leastWeight_st, if_neg c_7, if_neg c_8, if_pos c_9]
            have hmu : ((256 : Int32).toInt - ((i4_5 + 1) : Int32).toInt).toNat < ((256 : Int32).toInt - (i4_5 : Int32).toInt).toNat := mu_up c_7
            exact ih0 i2_4 (i4_5 + 1) (Nat.lt_of_lt_of_le hmu (Nat.le_of_lt_succ hlt0)) (lp_inl hst hF0) _ (lv_sub hl [1, 2, 3, 4, 0] rfl)
          · refine lv_iload_n hx hb dX7_leastWeight_48 rfl (lv_at hl 2 rfl) ?_
            refine lv_aload_n hx hb dX7_leastWeight_49 rfl (lv_at hl 0 rfl) ?_
            refine lv_aload_n hx hb dX7_leastWeight_50 rfl (lv_at hl 3 rfl) ?_
            refine lv_iload_n hx hb dX7_leastWeight_51 rfl (lv_at hl 1 rfl) ?_
            refine lv_iload hx hb dX7_leastWeight_52 (lv_at hl 4 rfl) ?_
            refine rd_goi (va_runV (C := RX7) (As := [.ref (c7 0), .int x0, .int i4_5]) (rest := [.int i2_4]) S (c_X7_weightToSwing l D cy g B p70 b7 c7 d7 e7 h7 k7 u_2.1 v u_2.2 x0 i4_5) (cwV 3 hts gX7_leastWeight_X7_weightToSwing rfl rfl rfl hd_X7_weightToSwing_V ⟨Nat.le_of_ble_eq_true rfl, Nat.le_of_ble_eq_true rfl⟩) ⟨rdP_blind, va_recv hK0.1 hP (ci := 5) (q0 := 0) rfl rfl, my_preP hK0 hS hAB hP⟩ rfl rfl hl.1 rfl (lv_room (Nat.le_of_ble_eq_true rfl)) dX7_leastWeight_54 ⟨Nat.le_of_ble_eq_true rfl, Nat.le_of_ble_eq_true rfl⟩) ?_
            refine va_mmin hx hb (hml.trans hl.1.symm) hown (hts (.methodLink RX7 179 Lib.Math.min.name) (List.mem_of_getElem? (i := 2) rfl)) (hts (.static Lib.Math.min.name) (List.mem_of_getElem? (i := 3) rfl)) (hts (.initialized "java/lang/Math") (List.mem_of_getElem? (i := 4) rfl)) (hts (.code Lib.Math.min.name Lib.Math.min.code 2 (some .int)) (List.mem_of_getElem? (i := 5) rfl)) (Nat.le_of_ble_eq_true rfl) (Nat.le_of_ble_eq_true rfl) (Nat.le_of_ble_eq_true rfl) (Nat.le_of_ble_eq_true rfl) dX7_leastWeight_57 ?_
            refine W.eq (g2 := F0 m 60 ls [.int (my_min i2_4 (f_X7_weightToSwing u_2.1 v u_2.2 x0 i4_5))]) rfl ?_
            refine lv_istore_n (lv' := [(2, .int (my_min i2_4 (f_X7_weightToSwing u_2.1 v u_2.2 x0 i4_5))), (0, .ref p70), (1, .int x0), (3, .ref (c7 0)), (4, .int i4_5)]) hx hb dX7_leastWeight_60 rfl hl (by decide) rfl (fun ls hl => ?_)
            refine lv_iinc (v := (i4_5 + 1)) (lv' := [(4, .int (i4_5 + 1)), (2, .int (my_min i2_4 (f_X7_weightToSwing u_2.1 v u_2.2 x0 i4_5))), (0, .ref p70), (1, .int x0), (3, .ref (c7 0))]) hx hb dX7_leastWeight_61 hl (k := 4) rfl rfl (by decide) rfl (fun ls hl => ?_)
            refine lv_goto (tgt := 22) hx hb dX7_leastWeight_64 (by decide) ?_
            have hst : f_X7_leastWeight_st v x0 u_2 i2_4 i4_5 = .inl ((my_min i2_4 (f_X7_weightToSwing u_2.1 v u_2.2 x0 i4_5)), (i4_5 + 1)) := by rw [f_X7_leastWeight_st, if_neg c_7, if_neg c_8, if_neg c_9]
            have hmu : ((256 : Int32).toInt - ((i4_5 + 1) : Int32).toInt).toNat < ((256 : Int32).toInt - (i4_5 : Int32).toInt).toNat := mu_up c_7
            exact ih0 (my_min i2_4 (f_X7_weightToSwing u_2.1 v u_2.2 x0 i4_5)) (i4_5 + 1) (Nat.lt_of_lt_of_le hmu (Nat.le_of_lt_succ hlt0)) (lp_inl hst hF0) _ (lv_sub hl [2, 3, 1, 4, 0] rfl)
  exact key (((256 : Int32).toInt - (0 : Int32).toInt).toNat + 1) 51 0 (Nat.lt_succ_self _) rfl _ (lv_sub hl [3, 4, 2, 1, 0] rfl)
theorem hd_X7_compare_S : yX7_compare.cls ≠ "java/lang/invoke/MethodHandle" ∧ yX7_compare.cls ≠ "java/lang/invoke/VarHandle" ∧ (parseMethodDescriptor yX7_compare.desc).map (fun d => d.parameters.length) = some 2 := by decide +kernel
theorem hd_X7_compare_V : yX7_compare.cls = RX7 ∧ yX7_compare.cls ≠ "java/lang/invoke/MethodHandle" ∧ yX7_compare.cls ≠ "java/lang/invoke/VarHandle" ∧ (parseMethodDescriptor yX7_compare.desc).map (fun d => d.parameters.length) = some 2 := ⟨rfl, hd_X7_compare_S⟩
def f_X7_compare (st : Int32) (v : SetV) (w : PowV) (x0 : Int32) (x1 : Int32) : Int32 ⊕ (Int32 × (Int32 × PowV)) := (my_rf (f_X6_faultOfPlayers v x0 x1) (my_l (f_X7_measured st v w) (fun (u_2 : Int32 × PowV) => (my_l (f_X7_measured u_2.1 v u_2.2) (fun (u_4 : Int32 × PowV) => (if (f_X3_isNeverBelow u_2.2 x0 x1) = 0 then (if (f_X3_isNeverBelow u_4.2 x1 x0) = 0 then (.inr (2, (u_4.1, u_4.2))) else (.inr ((-1), (u_4.1, u_4.2)))) else (if (f_X3_isNeverBelow u_4.2 x1 x0) = 0 then (.inr (1, (u_4.1, u_4.2))) else (.inr (0, (u_4.1, u_4.2))))))))))
set_option maxHeartbeats 400000 in
set_option maxRecDepth 100000 in
theorem c_X7_compare (l : Launch) (hl0 : l.stackTraces = false) (D : va_G) (cy : Nat → ClassId) (g : Nat → Nat) (B : Nat) (p70 : Nat) (b7 : Nat → Nat) (c7 : Nat → Nat) (d7 : Nat → Nat) (e7 : Nat → Nat) (h7 : Nat → Nat) (k7 : Nat → Nat) (st : Int32) (v : SetV) (w : PowV) (x0 : Int32) (x1 : Int32) : vx_Met l yX7_compare wsX7_compare ({ frames := 7, cells := 1, slots := 6, locals := 132 }) (muP D cy g B (List.flatten [(wPCo p70 b7 c7 d7 e7 h7 k7 st), (wSet cy b7 v), (wPow cy c7 w)]) [.ref p70, .int x0, .int x1]) (va_Qi (fun (r : Int32) (u : Int32 × PowV) => f_X7_compare st v w x0 x1 = .inr (r, u)) (fun u t => va_P D vwCl (List.flatten [(wPCo p70 b7 c7 d7 e7 h7 k7 u.1), (wSet cy b7 v), (wPow cy c7 u.2)]) t.heap) (muA (List.flatten [(wPCo p70 b7 c7 d7 e7 h7 k7 st), (wSet cy b7 v), (wPow cy c7 w)]))) (vx_X (fun (k : Int32) => f_X7_compare st v w x0 x1 = .inl k) (fun E k t => exE k E ∧ va_P D vwCl (List.flatten [(wPCo p70 b7 c7 d7 e7 h7 k7 st), (wSet cy b7 v), (wPow cy c7 w)]) t.heap) (muA (List.flatten [(wPCo p70 b7 c7 d7 e7 h7 k7 st), (wSet cy b7 v), (wPow cy c7 w)]))) 1 6 (muA (List.flatten [(wPCo p70 b7 c7 d7 e7 h7 k7 st), (wSet cy b7 v), (wPow cy c7 w)])) := by
  refine vx_ofW (cc := cX7_compare) (maxL := 5) (ret := (some .int)) (by decide) rfl ?_
  intro p e s m args below meth c s₁ BB hml hout hv
  obtain ⟨rfl, hP, hK0, hD0⟩ := hv
  have hx := BB.exec
  have hb := BB.bytes
  have hr := BB.returns
  have hts := atoms_spec (ws := wsX7_compare) BB.pre
  have hown : s.vm.findClass RX7 = some m.cls := findClass_of_methodNamed BB.named
  have hlocks := BB.notSynchronized
  have S := my_fix hx hb hml hown hts
  have inX7 : ∀ w ∈ wsX70, w ∈ wsX7_compare := fun w h => List.mem_cons_of_mem _ (List.mem_append_left _ (List.mem_append_left _ (List.mem_append_left _ (List.mem_append_left _ (List.mem_append_left _ (List.mem_append_left _ (List.mem_append_right _ h)))))))
  have hAB := muB hD0
  have hD := muD hD0
  generalize hAe : muA (List.flatten [(wPCo p70 b7 c7 d7 e7 h7 k7 st), (wSet cy b7 v), (wPow cy c7 w)]) = A at hAB hD ⊢
  have hS : va_S A s.heap s.heap [] := va_S.rf
  have hl := lv_entry ([.ref p70, .int x0, .int x1]) (n := 5) (Nat.le_of_ble_eq_true rfl)
  rw [lg_entry_eq]
  generalize (lg_sl ([.ref p70, .int x0, .int x1]) ++ List.replicate (5 - (lg_sl ([.ref p70, .int x0, .int x1])).length) Slot.unset).toArray = ls at hl ⊢
  have hl : lv_has ls 5 [(0, .ref p70), (1, .int x0), (2, .int x1)] := hl
  refine lv_aload_n hx hb dX7_compare_0 rfl (lv_at hl 0 rfl) ?_
  refine va_get (D := D) (ci := 5) (v := .ref (b7 0)) (C := RX7) (T := TX7) (N := 7) hx hb hts inX7 hown hK0.1 hP 0 rfl rfl 0 (by decide) (hts (.fieldLink RX7 10 "PivotChamber" "setting" "LPivotChamber$Setting;") (List.mem_of_getElem? (i := 1) rfl)) (fun _ h9 => h9) rfl dX7_compare_1 ?_
  refine lv_iload_n hx hb dX7_compare_4 rfl (lv_at hl 1 rfl) ?_
  refine lv_iload_n hx hb dX7_compare_5 rfl (lv_at hl 2 rfl) ?_
  refine rd_goi (va_runV (C := RX6) (As := [.int x0, .int x1]) (rest := []) S (c_X6_faultOfPlayers l D cy g B b7 v x0 x1) (cwV 2 hts gX7_compare_X6_faultOfPlayers rfl rfl rfl hd_X6_faultOfPlayers_V ⟨Nat.le_of_ble_eq_true rfl, Nat.le_of_ble_eq_true rfl⟩) ⟨rdP_blind, va_recv hK0.1 hP (ci := 4) (q0 := 1) rfl rfl, my_preP hK0 hS hAB (my_cP hP 1 rfl)⟩ rfl rfl hl.1 rfl (lv_room (Nat.le_of_ble_eq_true rfl)) dX7_compare_6 ⟨Nat.le_of_ble_eq_true rfl, Nat.le_of_ble_eq_true rfl⟩) ?_
  refine my_rfx (vx_runS (As := [.int (f_X6_faultOfPlayers v x0 x1)]) (rest := []) S (c_X7_refuse l hl0 D cy g B (f_X6_faultOfPlayers v x0 x1)) (va_cwS 1 hts gX7_compare_X7_refuse rfl rfl rfl hd_X7_refuse_S ⟨Nat.le_of_ble_eq_true rfl, Nat.le_of_ble_eq_true rfl⟩) ⟨rdP_blind, my_preV hK0 hS hAB hP [] rfl⟩ rfl rfl hl.1 rfl (lv_room (Nat.le_of_ble_eq_true rfl)) dX7_compare_9 ⟨Nat.le_of_ble_eq_true rfl, Nat.le_of_ble_eq_true rfl⟩) hS hP hout hlocks (fun _ h => h) (Nat.le_of_ble_eq_true rfl) (Nat.le_of_ble_eq_true rfl) (fun hrf_1 E t h1 h2 h3 => ⟨(f_X6_faultOfPlayers v x0 x1), (show f_X7_compare st v w x0 x1 = .inl (f_X6_faultOfPlayers v x0 x1) from by rw [f_X7_compare, my_rf_no hrf_1]), ⟨h1, h2⟩, h3⟩) (fun hrf_1 H locs hP hS => ?_)
  have hP : va_P D vwCl (List.flatten [(wPCo p70 b7 c7 d7 e7 h7 k7 st), (wSet cy b7 v), (wPow cy c7 w)]) H := hP
  refine lv_aload_n hx hb dX7_compare_12 rfl (lv_at hl 0 rfl) ?_
  refine mu_allr (wf := fun (u_2 : Int32 × PowV) => (List.flatten [(wPCo p70 b7 c7 d7 e7 h7 k7 u_2.1), (wSet cy b7 v), (wPow cy c7 u_2.2)])) (va_runV (C := RX7) (As := []) (rest := []) S (c_X7_measured l D cy g B p70 b7 c7 d7 e7 h7 k7 st v w) (cwV 0 hts gX7_compare_X7_measured rfl rfl rfl hd_X7_measured_V ⟨Nat.le_of_ble_eq_true rfl, Nat.le_of_ble_eq_true rfl⟩) ⟨muP_blind, va_recv hK0.1 hP (ci := 5) (q0 := 0) rfl rfl, my_preA hK0 hS hAB hP hD⟩ rfl rfl hl.1 rfl (lv_room (Nat.le_of_ble_eq_true rfl)) dX7_compare_13 ⟨Nat.le_of_ble_eq_true rfl, Nat.le_of_ble_eq_true rfl⟩) hS hD (fun _ => my_flat_adr (by simp only [List.map_cons, List.map_nil, adrSet, adrSetE, adrPow, adrPowE, adrTxt, adrTxtE, adrSav, adrSavE, adrPCo, adrMod, adrModE])) (fun u_2 H locs hw_3 hP hD hS => ?_)
  refine lv_iload_n hx hb dX7_compare_16 rfl (lv_at hl 1 rfl) ?_
  refine lv_iload_n hx hb dX7_compare_17 rfl (lv_at hl 2 rfl) ?_
  refine rd_goi (va_runV (C := RX3) (As := [.int x0, .int x1]) (rest := []) S (c_X3_isNeverBelow l D cy g B c7 u_2.2 x0 x1) (cwV 2 hts gX7_compare_X3_isNeverBelow rfl rfl rfl hd_X3_isNeverBelow_V ⟨Nat.le_of_ble_eq_true rfl, Nat.le_of_ble_eq_true rfl⟩) ⟨rdP_blind, va_recv hK0.1 hP (ci := 1) (q0 := 10) rfl rfl, my_preP hK0 hS hAB (my_cP hP 2 rfl)⟩ rfl rfl hl.1 rfl (lv_room (Nat.le_of_ble_eq_true rfl)) dX7_compare_18 ⟨Nat.le_of_ble_eq_true rfl, Nat.le_of_ble_eq_true rfl⟩) ?_
  refine lv_istore_n (lv' := [(3, .int (f_X3_isNeverBelow u_2.2 x0 x1)), (0, .ref p70), (1, .int x0), (2, .int x1)]) hx hb dX7_compare_21 rfl hl (by decide) rfl (fun ls hl => ?_)
  refine lv_aload_n hx hb dX7_compare_22 rfl (lv_at hl 1 rfl) ?_
  refine mu_allr (wf := fun (u_4 : Int32 × PowV) => (List.flatten [(wPCo p70 b7 c7 d7 e7 h7 k7 u_4.1), (wSet cy b7 v), (wPow cy c7 u_4.2)])) (va_runV (C := RX7) (As := []) (rest := []) S (c_X7_measured l D cy g B p70 b7 c7 d7 e7 h7 k7 u_2.1 v u_2.2) (cwV 0 hts gX7_compare_X7_measured rfl rfl rfl hd_X7_measured_V ⟨Nat.le_of_ble_eq_true rfl, Nat.le_of_ble_eq_true rfl⟩) ⟨muP_blind, va_recv hK0.1 hP (ci := 5) (q0 := 0) rfl rfl, my_preA hK0 hS hAB hP hD⟩ rfl rfl hl.1 rfl (lv_room (Nat.le_of_ble_eq_true rfl)) dX7_compare_23 ⟨Nat.le_of_ble_eq_true rfl, Nat.le_of_ble_eq_true rfl⟩) hS hD (fun _ => my_flat_adr (by simp only [List.map_cons, List.map_nil, adrSet, adrSetE, adrPow, adrPowE, adrTxt, adrTxtE, adrSav, adrSavE, adrPCo, adrMod, adrModE])) (fun u_4 H locs hw_5 hP hD hS => ?_)
  refine lv_iload_n hx hb dX7_compare_26 rfl (lv_at hl 3 rfl) ?_
  refine lv_iload_n hx hb dX7_compare_27 rfl (lv_at hl 2 rfl) ?_
  refine rd_goi (va_runV (C := RX3) (As := [.int x1, .int x0]) (rest := []) S (c_X3_isNeverBelow l D cy g B c7 u_4.2 x1 x0) (cwV 2 hts gX7_compare_X3_isNeverBelow rfl rfl rfl hd_X3_isNeverBelow_V ⟨Nat.le_of_ble_eq_true rfl, Nat.le_of_ble_eq_true rfl⟩) ⟨rdP_blind, va_recv hK0.1 hP (ci := 1) (q0 := 10) rfl rfl, my_preP hK0 hS hAB (my_cP hP 2 rfl)⟩ rfl rfl hl.1 rfl (lv_room (Nat.le_of_ble_eq_true rfl)) dX7_compare_28 ⟨Nat.le_of_ble_eq_true rfl, Nat.le_of_ble_eq_true rfl⟩) ?_
  refine lv_istore (lv' := [(4, .int (f_X3_isNeverBelow u_4.2 x1 x0)), (3, .int (f_X3_isNeverBelow u_2.2 x0 x1)), (0, .ref p70), (1, .int x0), (2, .int x1)]) hx hb dX7_compare_31 hl (by decide) rfl (fun ls hl => ?_)
  refine lv_iload_n hx hb dX7_compare_33 rfl (lv_at hl 1 rfl) ?_
  refine lv_if_eq (tgt := 48) hx hb dX7_compare_34 (by decide) (fun c_6 => ?_) (fun c_6 => ?_)
  · refine lv_iload hx hb dX7_compare_48 (lv_at hl 0 rfl) ?_
    refine lv_if_eq (tgt := 57) hx hb dX7_compare_50 (by decide) (fun c_7 => ?_) (fun c_7 => ?_)
    · refine lv_iconst (v := 2) hx hb dX7_compare_57 (by decide) ?_
      refine vx_ret ?_
      exact W.iret hx hb hr (fun t ht hW => ⟨⟨2, (u_4.1, u_4.2), rfl, (show f_X7_compare st v w x0 x1 = (.inr (2, (u_4.1, u_4.2))) from by rw [f_X7_compare, my_rf_ok hrf_1, hw_3, my_l_eq, hw_5, my_l_eq, if_pos c_6, if_pos c_7]), by show va_P D vwCl _ t.heap; rw [ht]; exact hP⟩, hS.F ht⟩) hS.2.2 dX7_compare_58
    · refine lv_iconst (v := (-1)) hx hb dX7_compare_53 (by decide) ?_
      refine lv_goto (tgt := 58) hx hb dX7_compare_54 (by decide) ?_
      refine vx_ret ?_
      exact W.iret hx hb hr (fun t ht hW => ⟨⟨(-1), (u_4.1, u_4.2), rfl, (show f_X7_compare st v w x0 x1 = (.inr ((-1), (u_4.1, u_4.2))) from by rw [f_X7_compare, my_rf_ok hrf_1, hw_3, my_l_eq, hw_5, my_l_eq, if_pos c_6, if_neg c_7]), by show va_P D vwCl _ t.heap; rw [ht]; exact hP⟩, hS.F ht⟩) hS.2.2 dX7_compare_58
  · refine lv_iload hx hb dX7_compare_37 (lv_at hl 0 rfl) ?_
    refine lv_if_eq (tgt := 46) hx hb dX7_compare_39 (by decide) (fun c_8 => ?_) (fun c_8 => ?_)
    · refine lv_iconst (v := 1) hx hb dX7_compare_46 (by decide) ?_
      refine vx_ret ?_
      exact W.iret hx hb hr (fun t ht hW => ⟨⟨1, (u_4.1, u_4.2), rfl, (show f_X7_compare st v w x0 x1 = (.inr (1, (u_4.1, u_4.2))) from by rw [f_X7_compare, my_rf_ok hrf_1, hw_3, my_l_eq, hw_5, my_l_eq, if_neg c_6, if_pos c_8]), by show va_P D vwCl _ t.heap; rw [ht]; exact hP⟩, hS.F ht⟩) hS.2.2 dX7_compare_47
    · refine lv_iconst (v := 0) hx hb dX7_compare_42 (by decide) ?_
      refine lv_goto (tgt := 47) hx hb dX7_compare_43 (by decide) ?_
      refine vx_ret ?_
      exact W.iret hx hb hr (fun t ht hW => ⟨⟨0, (u_4.1, u_4.2), rfl, (show f_X7_compare st v w x0 x1 = (.inr (0, (u_4.1, u_4.2))) from by rw [f_X7_compare, my_rf_ok hrf_1, hw_3, my_l_eq, hw_5, my_l_eq, if_neg c_6, if_neg c_8]), by show va_P D vwCl _ t.heap; rw [ht]; exact hP⟩, hS.F ht⟩) hS.2.2 dX7_compare_47
theorem hd_X7_type_S : yX7_type.cls ≠ "java/lang/invoke/MethodHandle" ∧ yX7_type.cls ≠ "java/lang/invoke/VarHandle" ∧ (parseMethodDescriptor yX7_type.desc).map (fun d => d.parameters.length) = some 1 := by decide +kernel
theorem hd_X7_type_V : yX7_type.cls = RX7 ∧ yX7_type.cls ≠ "java/lang/invoke/MethodHandle" ∧ yX7_type.cls ≠ "java/lang/invoke/VarHandle" ∧ (parseMethodDescriptor yX7_type.desc).map (fun d => d.parameters.length) = some 1 := ⟨rfl, hd_X7_type_S⟩
def f_X7_type (st : Int32) (tx : TxtV) (x0 : Int32) : Int32 ⊕ (Int32 × (Int32 × TxtV)) := (my_rf (f_X7_faultOfRange x0 0 127) (if tx.1 < 150 then (my_rf 0 (my_b (f_X2_append tx x0) (fun (r_6 : Int32) (u_4 : TxtV) => (.inr (r_6, (st, u_4)))))) else (my_rf 3 (my_b (f_X2_append tx x0) (fun (r_10 : Int32) (u_8 : TxtV) => (.inr (r_10, (st, u_8))))))))
set_option maxHeartbeats 400000 in
set_option maxRecDepth 100000 in
theorem c_X7_type (l : Launch) (hl0 : l.stackTraces = false) (D : va_G) (cy : Nat → ClassId) (g : Nat → Nat) (B : Nat) (p70 : Nat) (b7 : Nat → Nat) (c7 : Nat → Nat) (d7 : Nat → Nat) (e7 : Nat → Nat) (h7 : Nat → Nat) (k7 : Nat → Nat) (st : Int32) (tx : TxtV) (x0 : Int32) : vx_Met l yX7_type wsX7_type ({ frames := 7, cells := 2, slots := 12, locals := 110 }) (muP D cy g B (List.flatten [(wPCo p70 b7 c7 d7 e7 h7 k7 st), (wTxt cy g k7 tx)]) [.ref p70, .int x0]) (va_Qi (fun (r : Int32) (u : Int32 × TxtV) => f_X7_type st tx x0 = .inr (r, u)) (fun u t => va_P D vwCl (List.flatten [(wPCo p70 b7 c7 d7 e7 h7 k7 u.1), (wTxt cy g k7 u.2)]) t.heap) (muA (List.flatten [(wPCo p70 b7 c7 d7 e7 h7 k7 st), (wTxt cy g k7 tx)]))) (vx_X (fun (k : Int32) => f_X7_type st tx x0 = .inl k) (fun E k t => exE k E ∧ va_P D vwCl (List.flatten [(wPCo p70 b7 c7 d7 e7 h7 k7 st), (wTxt cy g k7 tx)]) t.heap) (muA (List.flatten [(wPCo p70 b7 c7 d7 e7 h7 k7 st), (wTxt cy g k7 tx)]))) 2 12 (muA (List.flatten [(wPCo p70 b7 c7 d7 e7 h7 k7 st), (wTxt cy g k7 tx)])) := by
  refine vx_ofW (cc := cX7_type) (maxL := 2) (ret := (some .int)) (by decide) rfl ?_
  intro p e s m args below meth c s₁ BB hml hout hv
  obtain ⟨rfl, hP, hK0, hD0⟩ := hv
  have hx := BB.exec
  have hb := BB.bytes
  have hr := BB.returns
  have hts := atoms_spec (ws := wsX7_type) BB.pre
  have hown : s.vm.findClass RX7 = some m.cls := findClass_of_methodNamed BB.named
  have hlocks := BB.notSynchronized
  have S := my_fix hx hb hml hown hts
  have inX2 : ∀ w ∈ wsX20, w ∈ wsX7_type := fun w h => List.mem_cons_of_mem _ (List.mem_append_left _ (List.mem_append_left _ (List.mem_append_left _ (List.mem_append_left _ (List.mem_append_right _ h)))))
  have inX7 : ∀ w ∈ wsX70, w ∈ wsX7_type := fun w h => List.mem_cons_of_mem _ (List.mem_append_left _ (List.mem_append_left _ (List.mem_append_left _ (List.mem_append_left _ (List.mem_append_left _ (List.mem_append_right _ h))))))
  have hAB := muB hD0
  have hD := muD hD0
  generalize hAe : muA (List.flatten [(wPCo p70 b7 c7 d7 e7 h7 k7 st), (wTxt cy g k7 tx)]) = A at hAB hD ⊢
  have hS : va_S A s.heap s.heap [] := va_S.rf
  have hl := lv_entry ([.ref p70, .int x0]) (n := 2) (Nat.le_of_ble_eq_true rfl)
  rw [lg_entry_eq]
  generalize (lg_sl ([.ref p70, .int x0]) ++ List.replicate (2 - (lg_sl ([.ref p70, .int x0])).length) Slot.unset).toArray = ls at hl ⊢
  have hl : lv_has ls 2 [(0, .ref p70), (1, .int x0)] := hl
  refine lv_iload_n hx hb dX7_type_0 rfl (lv_at hl 1 rfl) ?_
  refine lv_iconst (v := 0) hx hb dX7_type_1 (by decide) ?_
  refine lv_bipush (v := 127) hx hb dX7_type_2 (by decide) ?_
  refine rd_goi (va_runS (As := [.int x0, .int 0, .int 127]) (rest := []) S (c_X7_faultOfRange l D cy g B x0 0 127) (va_cwS 3 hts gX7_type_X7_faultOfRange rfl rfl rfl hd_X7_faultOfRange_S ⟨Nat.le_of_ble_eq_true rfl, Nat.le_of_ble_eq_true rfl⟩) ⟨rdP_blind, my_preV hK0 hS hAB hP [] rfl⟩ rfl rfl hl.1 rfl (lv_room (Nat.le_of_ble_eq_true rfl)) dX7_type_4 ⟨Nat.le_of_ble_eq_true rfl, Nat.le_of_ble_eq_true rfl⟩) ?_
  refine my_rfx (vx_runS (As := [.int (f_X7_faultOfRange x0 0 127)]) (rest := []) S (c_X7_refuse l hl0 D cy g B (f_X7_faultOfRange x0 0 127)) (va_cwS 1 hts gX7_type_X7_refuse rfl rfl rfl hd_X7_refuse_S ⟨Nat.le_of_ble_eq_true rfl, Nat.le_of_ble_eq_true rfl⟩) ⟨rdP_blind, my_preV hK0 hS hAB hP [] rfl⟩ rfl rfl hl.1 rfl (lv_room (Nat.le_of_ble_eq_true rfl)) dX7_type_7 ⟨Nat.le_of_ble_eq_true rfl, Nat.le_of_ble_eq_true rfl⟩) hS hP hout hlocks (fun _ h => h) (Nat.le_of_ble_eq_true rfl) (Nat.le_of_ble_eq_true rfl) (fun hrf_1 E t h1 h2 h3 => ⟨(f_X7_faultOfRange x0 0 127), (show f_X7_type st tx x0 = .inl (f_X7_faultOfRange x0 0 127) from by rw [f_X7_type, my_rf_no hrf_1]), ⟨h1, h2⟩, h3⟩) (fun hrf_1 H locs hP hS => ?_)
  have hP : va_P D vwCl (List.flatten [(wPCo p70 b7 c7 d7 e7 h7 k7 st), (wTxt cy g k7 tx)]) H := hP
  refine lv_aload_n hx hb dX7_type_10 rfl (lv_at hl 0 rfl) ?_
  refine va_get (D := D) (ci := 5) (v := .ref (k7 0)) (C := RX7) (T := TX7) (N := 7) hx hb hts inX7 hown hK0.1 hP 0 rfl rfl 6 (by decide) (hts (.fieldLink RX7 43 "PivotChamber" "text" "LPivotChamber$CommandText;") (List.mem_of_getElem? (i := 1) rfl)) (fun _ h9 => h9) rfl dX7_type_11 ?_
  refine va_getN (D := D) (ci := 0) (v := .int tx.1) (C := RX2) (T := TX2) (N := 6) (host := "PivotChamber") hx hb hts inX2 hown hK0.1 hP 1 rfl rfl 1 (by decide) (va_Nw.use rfl (hK0.2.1.1.f 5 rfl)) (fun _ h9 => h9) rfl dX7_type_14 ?_
  refine lv_sipush (v := 150) hx hb dX7_type_17 (by decide) ?_
  refine lv_icmp_lt (tgt := 27) hx hb dX7_type_20 (by decide) (fun c_2 => ?_) (fun c_2 => ?_)
  · refine lv_iconst (v := 0) hx hb dX7_type_27 (by decide) ?_
    refine my_rfx (vx_runS (As := [.int 0]) (rest := []) S (c_X7_refuse l hl0 D cy g B 0) (va_cwS 1 hts gX7_type_X7_refuse rfl rfl rfl hd_X7_refuse_S ⟨Nat.le_of_ble_eq_true rfl, Nat.le_of_ble_eq_true rfl⟩) ⟨rdP_blind, my_preV hK0 hS hAB hP [] rfl⟩ rfl rfl hl.1 rfl (lv_room (Nat.le_of_ble_eq_true rfl)) dX7_type_28 ⟨Nat.le_of_ble_eq_true rfl, Nat.le_of_ble_eq_true rfl⟩) hS hP hout hlocks (fun _ h => h) (Nat.le_of_ble_eq_true rfl) (Nat.le_of_ble_eq_true rfl) (fun hrf_3 E t h1 h2 h3 => ⟨0, (show f_X7_type st tx x0 = .inl 0 from by rw [f_X7_type, my_rf_ok hrf_1, if_pos c_2, my_rf_no hrf_3]), ⟨h1, h2⟩, h3⟩) (fun hrf_3 H locs hP hS => ?_)
    have hP : va_P D vwCl (List.flatten [(wPCo p70 b7 c7 d7 e7 h7 k7 st), (wTxt cy g k7 tx)]) H := hP
    refine lv_aload_n hx hb dX7_type_31 rfl (lv_at hl 0 rfl) ?_
    refine va_get (D := D) (ci := 5) (v := .ref (k7 0)) (C := RX7) (T := TX7) (N := 7) hx hb hts inX7 hown hK0.1 hP 0 rfl rfl 6 (by decide) (hts (.fieldLink RX7 43 "PivotChamber" "text" "LPivotChamber$CommandText;") (List.mem_of_getElem? (i := 1) rfl)) (fun _ h9 => h9) rfl dX7_type_32 ?_
    refine lv_iload_n hx hb dX7_type_35 rfl (lv_at hl 1 rfl) ?_
    refine mu_compi (wcs := [(wTxt cy g k7 tx)]) (wns := fun (u_4 : TxtV) => [(wTxt cy g k7 u_4)]) (W2 := fun (u_4 : TxtV) => [(wPCo p70 b7 c7 d7 e7 h7 k7 st), (wTxt cy g k7 u_4)]) (va_runV (C := RX2) (As := [.int x0]) (rest := []) S (c_X2_append l D cy g B k7 tx x0) (cwV 1 hts gX7_type_X2_append rfl rfl rfl hd_X2_append_V ⟨Nat.le_of_ble_eq_true rfl, Nat.le_of_ble_eq_true rfl⟩) ⟨muP_blind, va_recv hK0.1 hP (ci := 0) (q0 := 1) rfl rfl, my_preC (wcs := [(wTxt cy g k7 tx)]) hK0 hS hAB hP hD [1] (by decide) rfl (List.append_nil _)⟩ rfl rfl hl.1 rfl (lv_room (Nat.le_of_ble_eq_true rfl)) dX7_type_36 ⟨Nat.le_of_ble_eq_true rfl, Nat.le_of_ble_eq_true rfl⟩) hS hP hD [1] rfl (List.append_nil _) (fun _ => List.append_nil _) (fun _ => by simp only [List.map_cons, List.map_nil, adrSet, adrSetE, adrPow, adrPowE, adrTxt, adrTxtE, adrSav, adrSavE, adrPCo, adrMod, adrModE]) (fun _ => rfl) (fun r_6 u_4 H locs hw_5 hP hD hS => ?_)
    refine vx_ret ?_
    exact W.iret hx hb hr (fun t ht hW => ⟨⟨r_6, (st, u_4), rfl, (show f_X7_type st tx x0 = (.inr (r_6, (st, u_4))) from by rw [f_X7_type, my_rf_ok hrf_1, if_pos c_2, my_rf_ok hrf_3, hw_5, my_b_eq]), by show va_P D vwCl _ t.heap; rw [ht]; exact hP⟩, hS.F ht⟩) hS.2.2 dX7_type_39
  · refine lv_iconst (v := 3) hx hb dX7_type_23 (by decide) ?_
    refine lv_goto (tgt := 28) hx hb dX7_type_24 (by decide) ?_
    refine my_rfx (vx_runS (As := [.int 3]) (rest := []) S (c_X7_refuse l hl0 D cy g B 3) (va_cwS 1 hts gX7_type_X7_refuse rfl rfl rfl hd_X7_refuse_S ⟨Nat.le_of_ble_eq_true rfl, Nat.le_of_ble_eq_true rfl⟩) ⟨rdP_blind, my_preV hK0 hS hAB hP [] rfl⟩ rfl rfl hl.1 rfl (lv_room (Nat.le_of_ble_eq_true rfl)) dX7_type_28 ⟨Nat.le_of_ble_eq_true rfl, Nat.le_of_ble_eq_true rfl⟩) hS hP hout hlocks (fun _ h => h) (Nat.le_of_ble_eq_true rfl) (Nat.le_of_ble_eq_true rfl) (fun hrf_7 E t h1 h2 h3 => ⟨3, (show f_X7_type st tx x0 = .inl 3 from by rw [f_X7_type, my_rf_ok hrf_1, if_neg c_2, my_rf_no hrf_7]), ⟨h1, h2⟩, h3⟩) (fun hrf_7 H locs hP hS => ?_)
    have hP : va_P D vwCl (List.flatten [(wPCo p70 b7 c7 d7 e7 h7 k7 st), (wTxt cy g k7 tx)]) H := hP
    refine lv_aload_n hx hb dX7_type_31 rfl (lv_at hl 0 rfl) ?_
    refine va_get (D := D) (ci := 5) (v := .ref (k7 0)) (C := RX7) (T := TX7) (N := 7) hx hb hts inX7 hown hK0.1 hP 0 rfl rfl 6 (by decide) (hts (.fieldLink RX7 43 "PivotChamber" "text" "LPivotChamber$CommandText;") (List.mem_of_getElem? (i := 1) rfl)) (fun _ h9 => h9) rfl dX7_type_32 ?_
    refine lv_iload_n hx hb dX7_type_35 rfl (lv_at hl 1 rfl) ?_
    refine mu_compi (wcs := [(wTxt cy g k7 tx)]) (wns := fun (u_8 : TxtV) => [(wTxt cy g k7 u_8)]) (W2 := fun (u_8 : TxtV) => [(wPCo p70 b7 c7 d7 e7 h7 k7 st), (wTxt cy g k7 u_8)]) (va_runV (C := RX2) (As := [.int x0]) (rest := []) S (c_X2_append l D cy g B k7 tx x0) (cwV 1 hts gX7_type_X2_append rfl rfl rfl hd_X2_append_V ⟨Nat.le_of_ble_eq_true rfl, Nat.le_of_ble_eq_true rfl⟩) ⟨muP_blind, va_recv hK0.1 hP (ci := 0) (q0 := 1) rfl rfl, my_preC (wcs := [(wTxt cy g k7 tx)]) hK0 hS hAB hP hD [1] (by decide) rfl (List.append_nil _)⟩ rfl rfl hl.1 rfl (lv_room (Nat.le_of_ble_eq_true rfl)) dX7_type_36 ⟨Nat.le_of_ble_eq_true rfl, Nat.le_of_ble_eq_true rfl⟩) hS hP hD [1] rfl (List.append_nil _) (fun _ => List.append_nil _) (fun _ => by simp only [List.map_cons, List.map_nil, adrSet, adrSetE, adrPow, adrPowE, adrTxt, adrTxtE, adrSav, adrSavE, adrPCo, adrMod, adrModE]) (fun _ => rfl) (fun r_10 u_8 H locs hw_9 hP hD hS => ?_)
    refine vx_ret ?_
    exact W.iret hx hb hr (fun t ht hW => ⟨⟨r_10, (st, u_8), rfl, (show f_X7_type st tx x0 = (.inr (r_10, (st, u_8))) from by rw [f_X7_type, my_rf_ok hrf_1, if_neg c_2, my_rf_ok hrf_7, hw_9, my_b_eq]), by show va_P D vwCl _ t.heap; rw [ht]; exact hP⟩, hS.F ht⟩) hS.2.2 dX7_type_39
theorem hd_X7_clearCommands_S : yX7_clearCommands.cls ≠ "java/lang/invoke/MethodHandle" ∧ yX7_clearCommands.cls ≠ "java/lang/invoke/VarHandle" ∧ (parseMethodDescriptor yX7_clearCommands.desc).map (fun d => d.parameters.length) = some 0 := by decide +kernel
theorem hd_X7_clearCommands_V : yX7_clearCommands.cls = RX7 ∧ yX7_clearCommands.cls ≠ "java/lang/invoke/MethodHandle" ∧ yX7_clearCommands.cls ≠ "java/lang/invoke/VarHandle" ∧ (parseMethodDescriptor yX7_clearCommands.desc).map (fun d => d.parameters.length) = some 0 := ⟨rfl, hd_X7_clearCommands_S⟩
def f_X7_clearCommands (st : Int32) (tx : TxtV) : Int32 × (Int32 × TxtV) := (tx.1, (st, (0, tx.2)))
set_option maxHeartbeats 400000 in
set_option maxRecDepth 100000 in
theorem c_X7_clearCommands (l : Launch) (D : va_G) (cy : Nat → ClassId) (g : Nat → Nat) (B : Nat) (p70 : Nat) (b7 : Nat → Nat) (c7 : Nat → Nat) (d7 : Nat → Nat) (e7 : Nat → Nat) (h7 : Nat → Nat) (k7 : Nat → Nat) (st : Int32) (tx : TxtV) : Met l yX7_clearCommands wsX7_clearCommands ({ frames := 0, cells := 0, slots := 0, locals := 0 }) (muP D cy g B (List.flatten [(wPCo p70 b7 c7 d7 e7 h7 k7 st), (wTxt cy g k7 tx)]) [.ref p70]) (va_Qi (fun (r : Int32) (u : Int32 × TxtV) => f_X7_clearCommands st tx = (r, u)) (fun u t => va_P D vwCl (List.flatten [(wPCo p70 b7 c7 d7 e7 h7 k7 u.1), (wTxt cy g k7 u.2)]) t.heap) (muA (List.flatten [(wPCo p70 b7 c7 d7 e7 h7 k7 st), (wTxt cy g k7 tx)]))) 0 0 (muA (List.flatten [(wPCo p70 b7 c7 d7 e7 h7 k7 st), (wTxt cy g k7 tx)])) := by
  refine Met.ofW (cc := cX7_clearCommands) (maxL := 2) (ret := (some .int)) (by decide) rfl ?_
  intro p e s m args below meth c s₁ BB hml hv
  obtain ⟨rfl, hP, hK0, hD0⟩ := hv
  have hx := BB.exec
  have hb := BB.bytes
  have hr := BB.returns
  have hts := atoms_spec (ws := wsX7_clearCommands) BB.pre
  have hown : s.vm.findClass RX7 = some m.cls := findClass_of_methodNamed BB.named
  have hlocks := BB.notSynchronized
  have S := my_fix hx hb hml hown hts
  have inX2 : ∀ w ∈ wsX20, w ∈ wsX7_clearCommands := fun w h => List.mem_cons_of_mem _ (List.mem_append_right _ h)
  have inX7 : ∀ w ∈ wsX70, w ∈ wsX7_clearCommands := fun w h => List.mem_cons_of_mem _ (List.mem_append_left _ (List.mem_append_right _ h))
  have hAB := muB hD0
  have hD := muD hD0
  generalize hAe : muA (List.flatten [(wPCo p70 b7 c7 d7 e7 h7 k7 st), (wTxt cy g k7 tx)]) = A at hAB hD ⊢
  have hS : va_S A s.heap s.heap [] := va_S.rf
  have hl := lv_entry ([.ref p70]) (n := 2) (Nat.le_of_ble_eq_true rfl)
  rw [lg_entry_eq]
  generalize (lg_sl ([.ref p70]) ++ List.replicate (2 - (lg_sl ([.ref p70])).length) Slot.unset).toArray = ls at hl ⊢
  have hl : lv_has ls 2 [(0, .ref p70)] := hl
  refine lv_aload_n hx hb dX7_clearCommands_0 rfl (lv_at hl 0 rfl) ?_
  refine va_get (D := D) (ci := 5) (v := .ref (k7 0)) (C := RX7) (T := TX7) (N := 7) hx hb hts inX7 hown hK0.1 hP 0 rfl rfl 6 (by decide) (hts (.fieldLink RX7 43 "PivotChamber" "text" "LPivotChamber$CommandText;") (List.mem_of_getElem? (i := 1) rfl)) (fun _ h9 => h9) rfl dX7_clearCommands_1 ?_
  refine va_getN (D := D) (ci := 0) (v := .int tx.1) (C := RX2) (T := TX2) (N := 6) (host := "PivotChamber") hx hb hts inX2 hown hK0.1 hP 1 rfl rfl 1 (by decide) (va_Nw.use rfl (hK0.2.1.1.f 5 rfl)) (fun _ h9 => h9) rfl dX7_clearCommands_4 ?_
  refine lv_istore_n (lv' := [(1, .int tx.1), (0, .ref p70)]) hx hb dX7_clearCommands_7 rfl hl (by decide) rfl (fun ls hl => ?_)
  refine lv_aload_n hx hb dX7_clearCommands_8 rfl (lv_at hl 1 rfl) ?_
  refine va_get (D := D) (ci := 5) (v := .ref (k7 0)) (C := RX7) (T := TX7) (N := 7) hx hb hts inX7 hown hK0.1 hP 0 rfl rfl 6 (by decide) (hts (.fieldLink RX7 43 "PivotChamber" "text" "LPivotChamber$CommandText;") (List.mem_of_getElem? (i := 1) rfl)) (fun _ h9 => h9) rfl dX7_clearCommands_9 ?_
  refine lv_iconst (v := 0) hx hb dX7_clearCommands_12 (by decide) ?_
  refine va_putN (D := D) (ci := 0) (v := .int 0) (ty := .int) (C := RX2) (T := TX2) (N := 6) (host := "PivotChamber") hx hb hts inX2 tyX2 tyX2_ok nmX2 hown hK0.1 hP hD hS 1 rfl rfl 1 (by decide) (va_Nw.use rfl (hK0.2.1.1.f 5 rfl)) (fun _ h9 => h9) rfl (by decide +kernel) rfl rfl (Nat.le_of_ble_eq_true rfl) dX7_clearCommands_13 (fun H locs hP hD hS => ?_)
  have hP : va_P D vwCl (List.flatten [(wPCo p70 b7 c7 d7 e7 h7 k7 st), (wTxtE cy g k7 0 tx.2.1 tx.2.2.1 tx.2.2.2.1 tx.2.2.2.2.1 tx.2.2.2.2.2)]) H := hP
  have hD : va_D A (List.flatten [(wPCo p70 b7 c7 d7 e7 h7 k7 st), (wTxtE cy g k7 0 tx.2.1 tx.2.2.1 tx.2.2.2.1 tx.2.2.2.2.1 tx.2.2.2.2.2)]) := hD
  refine lv_iload_n hx hb dX7_clearCommands_16 rfl (lv_at hl 0 rfl) ?_
  have hP : va_P D vwCl (List.flatten [(wPCo p70 b7 c7 d7 e7 h7 k7 st), (wTxt cy g k7 (0, tx.2))]) H := by rw [wTxt_mk]; exact hP
  have hD : va_D A (List.flatten [(wPCo p70 b7 c7 d7 e7 h7 k7 st), (wTxt cy g k7 (0, tx.2))]) := by rw [wTxt_mk]; exact hD
  exact W.iret hx hb hr (fun t ht hW => ⟨⟨tx.1, (st, (0, tx.2)), rfl, (show f_X7_clearCommands st tx = (tx.1, (st, (0, tx.2))) from by rw [f_X7_clearCommands]), by show va_P D vwCl _ t.heap; rw [ht]; exact hP⟩, hS.F ht⟩) hS.2.2 dX7_clearCommands_17
theorem hd_X7_carryOutText_S : yX7_carryOutText.cls ≠ "java/lang/invoke/MethodHandle" ∧ yX7_carryOutText.cls ≠ "java/lang/invoke/VarHandle" ∧ (parseMethodDescriptor yX7_carryOutText.desc).map (fun d => d.parameters.length) = some 0 := by decide +kernel
theorem hd_X7_carryOutText_V : yX7_carryOutText.cls = RX7 ∧ yX7_carryOutText.cls ≠ "java/lang/invoke/MethodHandle" ∧ yX7_carryOutText.cls ≠ "java/lang/invoke/VarHandle" ∧ (parseMethodDescriptor yX7_carryOutText.desc).map (fun d => d.parameters.length) = some 0 := ⟨rfl, hd_X7_carryOutText_S⟩
def f_X7_carryOutText_st (tx : TxtV) (i1_1 : Int32) (w1_2 : SetV) (w21_3 : Int32) (w22_4 : Int32) (w23_5 : Int32) (w24_6 : Nat) : (Int32 × SetV × Int32 × Int32 × Int32 × Nat) ⊕ (Int32 × (SetV × TxtV)) := (if 150 ≤ i1_1 then (.inr (i1_1, (w1_2, (tx.1, w21_3, w22_4, w23_5, w24_6, tx.2.2.2.2.2)))) else (my_b (f_X2_hasCommand (tx.1, w21_3, w22_4, w23_5, w24_6, tx.2.2.2.2.2)) (fun (r_10 : Int32) (u_8 : Int32) => (if r_10 = 0 then (.inr (i1_1, (w1_2, (tx.1, u_8, w22_4, w23_5, w24_6, tx.2.2.2.2.2)))) else (my_b (f_X2_readCommand (tx.1, u_8, w22_4, w23_5, w24_6, tx.2.2.2.2.2)) (fun (r_14 : Int32) (u_12 : Int32 × Int32 × Int32 × Nat) => (if u_12.2.2.2 < 7 then (if (f_X6_faultOf w1_2 u_12.2.2.2 u_12.2.1 u_12.2.2.1) = 0 then (if u_12.2.2.2 < 7 then (my_b (f_X6_carryOut w1_2 u_12.2.2.2 u_12.2.1 u_12.2.2.1) (fun (r_20 : Int32) (u_18 : SetV) => (.inl ((i1_1 + 1), u_18, u_12.1, u_12.2.1, u_12.2.2.1, u_12.2.2.2)))) else (my_b (f_X6_carryOut_null w1_2 u_12.2.1 u_12.2.2.1) (fun (r_23 : Int32) (u_21 : SetV) => (.inl ((i1_1 + 1), u_21, u_12.1, u_12.2.1, u_12.2.2.1, u_12.2.2.2))))) else (.inr (i1_1, (w1_2, (tx.1, u_12.1, u_12.2.1, u_12.2.2.1, u_12.2.2.2, tx.2.2.2.2.2))))) else (if (f_X6_faultOf_null w1_2 u_12.2.1 u_12.2.2.1) = 0 then (if u_12.2.2.2 < 7 then (my_b (f_X6_carryOut w1_2 u_12.2.2.2 u_12.2.1 u_12.2.2.1) (fun (r_28 : Int32) (u_26 : SetV) => (.inl ((i1_1 + 1), u_26, u_12.1, u_12.2.1, u_12.2.2.1, u_12.2.2.2)))) else (my_b (f_X6_carryOut_null w1_2 u_12.2.1 u_12.2.2.1) (fun (r_31 : Int32) (u_29 : SetV) => (.inl ((i1_1 + 1), u_29, u_12.1, u_12.2.1, u_12.2.2.1, u_12.2.2.2))))) else (.inr (i1_1, (w1_2, (tx.1, u_12.1, u_12.2.1, u_12.2.2.1, u_12.2.2.2, tx.2.2.2.2.2))))))))))))
def f_X7_carryOutText (st : Int32) (v : SetV) (tx : TxtV) : Int32 × (SetV × TxtV) := (lp (fun (x : Int32 × SetV × Int32 × Int32 × Int32 × Nat) => f_X7_carryOutText_st tx x.1 x.2.1 x.2.2.1 x.2.2.2.1 x.2.2.2.2.1 x.2.2.2.2.2) default (((150 : Int32).toInt - (0 : Int32).toInt).toNat + 1) (0, v, 0, tx.2.2.1, tx.2.2.2.1, tx.2.2.2.2.1))
set_option maxHeartbeats 400000 in
set_option maxRecDepth 100000 in
theorem c_X7_carryOutText (l : Launch) (D : va_G) (cy : Nat → ClassId) (g : Nat → Nat) (B : Nat) (p70 : Nat) (b7 : Nat → Nat) (c7 : Nat → Nat) (d7 : Nat → Nat) (e7 : Nat → Nat) (h7 : Nat → Nat) (k7 : Nat → Nat) (st : Int32) (v : SetV) (tx : TxtV) : Met l yX7_carryOutText wsX7_carryOutText ({ frames := 7, cells := 0, slots := 0, locals := 157 }) (muP D cy g B (List.flatten [(wPCo p70 b7 c7 d7 e7 h7 k7 st), (wSet cy b7 v), (wTxt cy g k7 tx)]) [.ref p70]) (va_Qi (fun (r : Int32) (u : SetV × TxtV) => f_X7_carryOutText st v tx = (r, u)) (fun u t => va_P D vwCl (List.flatten [(wPCo p70 b7 c7 d7 e7 h7 k7 st), (wSet cy b7 u.1), (wTxt cy g k7 u.2)]) t.heap) (muA (List.flatten [(wPCo p70 b7 c7 d7 e7 h7 k7 st), (wSet cy b7 v), (wTxt cy g k7 tx)]))) 0 0 (muA (List.flatten [(wPCo p70 b7 c7 d7 e7 h7 k7 st), (wSet cy b7 v), (wTxt cy g k7 tx)])) := by
  refine Met.ofW (cc := cX7_carryOutText) (maxL := 2) (ret := (some .int)) (by decide) rfl ?_
  intro p e s m args below meth c s₁ BB hml hv
  obtain ⟨rfl, hP, hK0, hD0⟩ := hv
  have hx := BB.exec
  have hb := BB.bytes
  have hr := BB.returns
  have hts := atoms_spec (ws := wsX7_carryOutText) BB.pre
  have hown : s.vm.findClass RX7 = some m.cls := findClass_of_methodNamed BB.named
  have hlocks := BB.notSynchronized
  have S := my_fix hx hb hml hown hts
  have inX2 : ∀ w ∈ wsX20, w ∈ wsX7_carryOutText := fun w h => List.mem_cons_of_mem _ (List.mem_append_left _ (List.mem_append_left _ (List.mem_append_right _ h)))
  have inX7 : ∀ w ∈ wsX70, w ∈ wsX7_carryOutText := fun w h => List.mem_cons_of_mem _ (List.mem_append_left _ (List.mem_append_left _ (List.mem_append_left _ (List.mem_append_right _ h))))
  have hAB := muB hD0
  have hD := muD hD0
  generalize hAe : muA (List.flatten [(wPCo p70 b7 c7 d7 e7 h7 k7 st), (wSet cy b7 v), (wTxt cy g k7 tx)]) = A at hAB hD ⊢
  have hS : va_S A s.heap s.heap [] := va_S.rf
  have hl := lv_entry ([.ref p70]) (n := 2) (Nat.le_of_ble_eq_true rfl)
  rw [lg_entry_eq]
  generalize (lg_sl ([.ref p70]) ++ List.replicate (2 - (lg_sl ([.ref p70])).length) Slot.unset).toArray = ls at hl ⊢
  have hl : lv_has ls 2 [(0, .ref p70)] := hl
  refine lv_aload_n hx hb dX7_carryOutText_0 rfl (lv_at hl 0 rfl) ?_
  refine va_get (D := D) (ci := 5) (v := .ref (k7 0)) (C := RX7) (T := TX7) (N := 7) hx hb hts inX7 hown hK0.1 hP 0 rfl rfl 6 (by decide) (hts (.fieldLink RX7 43 "PivotChamber" "text" "LPivotChamber$CommandText;") (List.mem_of_getElem? (i := 1) rfl)) (fun _ h9 => h9) rfl dX7_carryOutText_1 ?_
  refine lv_iconst (v := 0) hx hb dX7_carryOutText_4 (by decide) ?_
  refine va_putN (D := D) (ci := 0) (v := .int 0) (ty := .int) (C := RX2) (T := TX2) (N := 6) (host := "PivotChamber") hx hb hts inX2 tyX2 tyX2_ok nmX2 hown hK0.1 hP hD hS 10 rfl rfl 2 (by decide) (va_Nw.use rfl (hK0.2.1.1.f 9 rfl)) (fun _ h9 => h9) rfl (by decide +kernel) rfl rfl (Nat.le_of_ble_eq_true rfl) dX7_carryOutText_5 (fun H locs hP hD hS => ?_)
  have hP : va_P D vwCl (List.flatten [(wPCo p70 b7 c7 d7 e7 h7 k7 st), (wSet cy b7 v), (wTxtE cy g k7 tx.1 0 tx.2.2.1 tx.2.2.2.1 tx.2.2.2.2.1 tx.2.2.2.2.2)]) H := hP
  have hD : va_D A (List.flatten [(wPCo p70 b7 c7 d7 e7 h7 k7 st), (wSet cy b7 v), (wTxtE cy g k7 tx.1 0 tx.2.2.1 tx.2.2.2.1 tx.2.2.2.2.1 tx.2.2.2.2.2)]) := hD
  refine lv_iconst (v := 0) hx hb dX7_carryOutText_8 (by decide) ?_
  refine lv_istore_n (lv' := [(1, .int 0), (0, .ref p70)]) hx hb dX7_carryOutText_9 rfl hl (by decide) rfl (fun ls hl => ?_)
  have key : ∀ (nf : Nat) (i1_1 : Int32) (w1_2 : SetV) (w21_3 : Int32) (w22_4 : Int32) (w23_5 : Int32) (w24_6 : Nat), ((150 : Int32).toInt - (i1_1 : Int32).toInt).toNat < nf → lp (fun (x : Int32 × SetV × Int32 × Int32 × Int32 × Nat) => f_X7_carryOutText_st tx x.1 x.2.1 x.2.2.1 x.2.2.2.1 x.2.2.2.2.1 x.2.2.2.2.2) default nf (i1_1, w1_2, w21_3, w22_4, w23_5, w24_6) = lp (fun (x : Int32 × SetV × Int32 × Int32 × Int32 × Nat) => f_X7_carryOutText_st tx x.1 x.2.1 x.2.2.1 x.2.2.2.1 x.2.2.2.2.1 x.2.2.2.2.2) default (((150 : Int32).toInt - (0 : Int32).toInt).toNat + 1) (0, v, 0, tx.2.2.1, tx.2.2.2.1, tx.2.2.2.2.1) → ∀ (H : Heap) (locs : List Loc), va_P D vwCl (List.flatten [(wPCo p70 b7 c7 d7 e7 h7 k7 st), (wSet cy b7 w1_2), (wTxtE cy g k7 tx.1 w21_3 w22_4 w23_5 w24_6 tx.2.2.2.2.2)]) H → va_D A (List.flatten [(wPCo p70 b7 c7 d7 e7 h7 k7 st), (wSet cy b7 w1_2), (wTxtE cy g k7 tx.1 w21_3 w22_4 w23_5 w24_6 tx.2.2.2.2.2)]) → va_S A s.heap H locs → ∀ ls : Array Slot, lv_has ls 2 [(0, .ref p70), (1, .int i1_1)] → W p l e (headSpec wsX7_carryOutText ({ frames := 7, cells := 0, slots := 0, locals := 157 } : Room)).room s m ([.ref p70] : List Value).toArray below meth c H locs 0 0 (MQ below (va_Qi (fun (r : Int32) (u : SetV × TxtV) => f_X7_carryOutText st v tx = (r, u)) (fun u t => va_P D vwCl (List.flatten [(wPCo p70 b7 c7 d7 e7 h7 k7 st), (wSet cy b7 u.1), (wTxt cy g k7 u.2)]) t.heap) A) ([.ref p70] : List Value).toArray s 0 0 A) (F0 m 10 ls []) := by
    intro n0
    induction n0 with
    | zero => intro i1_1 w1_2 w21_3 w22_4 w23_5 w24_6 hlt; exact absurd hlt (Nat.not_lt_zero _)
    | succ n0 ih0 =>
      intro i1_1 w1_2 w21_3 w22_4 w23_5 w24_6 hlt0 hF0 H locs hP hD hS ls hl
      refine lv_iload_n hx hb dX7_carryOutText_10 rfl (lv_at hl 1 rfl) ?_
      refine lv_sipush (v := 150) hx hb dX7_carryOutText_11 (by decide) ?_
      refine lv_icmp_ge (tgt := 103) hx hb dX7_carryOutText_14 (by decide) (fun c_7 => ?_) (fun c_7 => ?_)
      · refine lv_iload_n hx hb dX7_carryOutText_103 rfl (lv_at hl 1 rfl) ?_
        have hP : va_P D vwCl (List.flatten [(wPCo p70 b7 c7 d7 e7 h7 k7 st), (wSet cy b7 w1_2), (wTxt cy g k7 (tx.1, w21_3, w22_4, w23_5, w24_6, tx.2.2.2.2.2))]) H := by rw [wTxt_mk]; exact hP
        have hD : va_D A (List.flatten [(wPCo p70 b7 c7 d7 e7 h7 k7 st), (wSet cy b7 w1_2), (wTxt cy g k7 (tx.1, w21_3, w22_4, w23_5, w24_6, tx.2.2.2.2.2))]) := by rw [wTxt_mk]; exact hD
        have hst : f_X7_carryOutText_st tx i1_1 w1_2 w21_3 w22_4 w23_5 w24_6 = .inr (i1_1, (w1_2, (tx.1, w21_3, w22_4, w23_5, w24_6, tx.2.2.2.2.2))) := by rw [f_X7_carryOutText_st, if_pos c_7]
        exact W.iret hx hb hr (fun t ht hW => ⟨⟨i1_1, (w1_2, (tx.1, w21_3, w22_4, w23_5, w24_6, tx.2.2.2.2.2)), rfl, (show f_X7_carryOutText st v tx = (i1_1, (w1_2, (tx.1, w21_3, w22_4, w23_5, w24_6, tx.2.2.2.2.2))) from by rw [f_X7_carryOutText]; exact lp_inr hst hF0), by show va_P D vwCl _ t.heap; rw [ht]; exact hP⟩, hS.F ht⟩) hS.2.2 dX7_carryOutText_104
      · refine lv_aload_n hx hb dX7_carryOutText_17 rfl (lv_at hl 0 rfl) ?_
        refine va_get (D := D) (ci := 5) (v := .ref (k7 0)) (C := RX7) (T := TX7) (N := 7) hx hb hts inX7 hown hK0.1 hP 0 rfl rfl 6 (by decide) (hts (.fieldLink RX7 43 "PivotChamber" "text" "LPivotChamber$CommandText;") (List.mem_of_getElem? (i := 1) rfl)) (fun _ h9 => h9) rfl dX7_carryOutText_18 ?_
        have hP : va_P D vwCl (List.flatten [(wPCo p70 b7 c7 d7 e7 h7 k7 st), (wSet cy b7 w1_2), (wTxt cy g k7 (tx.1, w21_3, w22_4, w23_5, w24_6, tx.2.2.2.2.2))]) H := by rw [wTxt_mk]; exact hP
        have hD : va_D A (List.flatten [(wPCo p70 b7 c7 d7 e7 h7 k7 st), (wSet cy b7 w1_2), (wTxt cy g k7 (tx.1, w21_3, w22_4, w23_5, w24_6, tx.2.2.2.2.2))]) := by rw [wTxt_mk]; exact hD
        refine mu_compi (wcs := [(wTxt cy g k7 (tx.1, w21_3, w22_4, w23_5, w24_6, tx.2.2.2.2.2))]) (wns := fun (u_8 : Int32) => [(wTxtE cy g k7 tx.1 u_8 w22_4 w23_5 w24_6 tx.2.2.2.2.2)]) (W2 := fun (u_8 : Int32) => [(wPCo p70 b7 c7 d7 e7 h7 k7 st), (wSet cy b7 w1_2), (wTxtE cy g k7 tx.1 u_8 w22_4 w23_5 w24_6 tx.2.2.2.2.2)]) (va_runV (C := RX2) (As := []) (rest := []) S (c_X2_hasCommand l D cy g B k7 (tx.1, w21_3, w22_4, w23_5, w24_6, tx.2.2.2.2.2)) (cwV 0 hts gX7_carryOutText_X2_hasCommand rfl rfl rfl hd_X2_hasCommand_V ⟨Nat.le_of_ble_eq_true rfl, Nat.le_of_ble_eq_true rfl⟩) ⟨muP_blind, va_recv hK0.1 hP (ci := 0) (q0 := 10) rfl rfl, my_preC (wcs := [(wTxt cy g k7 (tx.1, w21_3, w22_4, w23_5, w24_6, tx.2.2.2.2.2))]) hK0 hS hAB hP hD [2] (by decide) rfl (List.append_nil _)⟩ rfl rfl hl.1 rfl (lv_room (Nat.le_of_ble_eq_true rfl)) dX7_carryOutText_21 ⟨Nat.zero_le _, Nat.zero_le _⟩) hS hP hD [2] rfl (List.append_nil _) (fun _ => List.append_nil _) (fun _ => by simp only [List.map_cons, List.map_nil, adrSet, adrSetE, adrPow, adrPowE, adrTxt, adrTxtE, adrSav, adrSavE, adrPCo, adrMod, adrModE]) (fun _ => rfl) (fun r_10 u_8 H locs hw_9 hP hD hS => ?_)
        refine lv_if_eq (tgt := 103) hx hb dX7_carryOutText_24 (by decide) (fun c_11 => ?_) (fun c_11 => ?_)
        · refine lv_iload_n hx hb dX7_carryOutText_103 rfl (lv_at hl 1 rfl) ?_
          have hP : va_P D vwCl (List.flatten [(wPCo p70 b7 c7 d7 e7 h7 k7 st), (wSet cy b7 w1_2), (wTxt cy g k7 (tx.1, u_8, w22_4, w23_5, w24_6, tx.2.2.2.2.2))]) H := by rw [wTxt_mk]; exact hP
          have hD : va_D A (List.flatten [(wPCo p70 b7 c7 d7 e7 h7 k7 st), (wSet cy b7 w1_2), (wTxt cy g k7 (tx.1, u_8, w22_4, w23_5, w24_6, tx.2.2.2.2.2))]) := by rw [wTxt_mk]; exact hD
          have hst : f_X7_carryOutText_st tx i1_1 w1_2 w21_3 w22_4 w23_5 w24_6 = .inr (i1_1, (w1_2, (tx.1, u_8, w22_4, w23_5, w24_6, tx.2.2.2.2.2))) := by rw [f_X7_carryOutText_st, if_neg c_7, hw_9, my_b_eq, if_pos c_11]
          exact W.iret hx hb hr (fun t ht hW => ⟨⟨i1_1, (w1_2, (tx.1, u_8, w22_4, w23_5, w24_6, tx.2.2.2.2.2)), rfl, (show f_X7_carryOutText st v tx = (i1_1, (w1_2, (tx.1, u_8, w22_4, w23_5, w24_6, tx.2.2.2.2.2))) from by rw [f_X7_carryOutText]; exact lp_inr hst hF0), by show va_P D vwCl _ t.heap; rw [ht]; exact hP⟩, hS.F ht⟩) hS.2.2 dX7_carryOutText_104
        · refine lv_aload_n hx hb dX7_carryOutText_27 rfl (lv_at hl 0 rfl) ?_
          refine va_get (D := D) (ci := 5) (v := .ref (k7 0)) (C := RX7) (T := TX7) (N := 7) hx hb hts inX7 hown hK0.1 hP 0 rfl rfl 6 (by decide) (hts (.fieldLink RX7 43 "PivotChamber" "text" "LPivotChamber$CommandText;") (List.mem_of_getElem? (i := 1) rfl)) (fun _ h9 => h9) rfl dX7_carryOutText_28 ?_
          have hP : va_P D vwCl (List.flatten [(wPCo p70 b7 c7 d7 e7 h7 k7 st), (wSet cy b7 w1_2), (wTxt cy g k7 (tx.1, u_8, w22_4, w23_5, w24_6, tx.2.2.2.2.2))]) H := by rw [wTxt_mk]; exact hP
          have hD : va_D A (List.flatten [(wPCo p70 b7 c7 d7 e7 h7 k7 st), (wSet cy b7 w1_2), (wTxt cy g k7 (tx.1, u_8, w22_4, w23_5, w24_6, tx.2.2.2.2.2))]) := by rw [wTxt_mk]; exact hD
          refine mu_compi (wcs := [(wTxt cy g k7 (tx.1, u_8, w22_4, w23_5, w24_6, tx.2.2.2.2.2))]) (wns := fun (u_12 : Int32 × Int32 × Int32 × Nat) => [(wTxtE cy g k7 tx.1 u_12.1 u_12.2.1 u_12.2.2.1 u_12.2.2.2 tx.2.2.2.2.2)]) (W2 := fun (u_12 : Int32 × Int32 × Int32 × Nat) => [(wPCo p70 b7 c7 d7 e7 h7 k7 st), (wSet cy b7 w1_2), (wTxtE cy g k7 tx.1 u_12.1 u_12.2.1 u_12.2.2.1 u_12.2.2.2 tx.2.2.2.2.2)]) (va_runV (C := RX2) (As := []) (rest := []) S (c_X2_readCommand l D cy g B k7 (tx.1, u_8, w22_4, w23_5, w24_6, tx.2.2.2.2.2)) (cwV 0 hts gX7_carryOutText_X2_readCommand rfl rfl rfl hd_X2_readCommand_V ⟨Nat.le_of_ble_eq_true rfl, Nat.le_of_ble_eq_true rfl⟩) ⟨muP_blind, va_recv hK0.1 hP (ci := 0) (q0 := 10) rfl rfl, my_preC (wcs := [(wTxt cy g k7 (tx.1, u_8, w22_4, w23_5, w24_6, tx.2.2.2.2.2))]) hK0 hS hAB hP hD [2] (by decide) rfl (List.append_nil _)⟩ rfl rfl hl.1 rfl (lv_room (Nat.le_of_ble_eq_true rfl)) dX7_carryOutText_31 ⟨Nat.zero_le _, Nat.zero_le _⟩) hS hP hD [2] rfl (List.append_nil _) (fun _ => List.append_nil _) (fun _ => by simp only [List.map_cons, List.map_nil, adrSet, adrSetE, adrPow, adrPowE, adrTxt, adrTxtE, adrSav, adrSavE, adrPCo, adrMod, adrModE]) (fun _ => rfl) (fun r_14 u_12 H locs hw_13 hP hD hS => ?_)
          refine lv_pop hx hb dX7_carryOutText_34 rfl ?_
          refine lv_aload_n hx hb dX7_carryOutText_35 rfl (lv_at hl 0 rfl) ?_
          refine va_get (D := D) (ci := 5) (v := .ref (b7 0)) (C := RX7) (T := TX7) (N := 7) hx hb hts inX7 hown hK0.1 hP 0 rfl rfl 0 (by decide) (hts (.fieldLink RX7 10 "PivotChamber" "setting" "LPivotChamber$Setting;") (List.mem_of_getElem? (i := 2) rfl)) (fun _ h9 => h9) rfl dX7_carryOutText_36 ?_
          refine lv_aload_n hx hb dX7_carryOutText_39 rfl (lv_at hl 0 rfl) ?_
          refine va_get (D := D) (ci := 5) (v := .ref (k7 0)) (C := RX7) (T := TX7) (N := 7) hx hb hts inX7 hown hK0.1 hP 0 rfl rfl 6 (by decide) (hts (.fieldLink RX7 43 "PivotChamber" "text" "LPivotChamber$CommandText;") (List.mem_of_getElem? (i := 1) rfl)) (fun _ h9 => h9) rfl dX7_carryOutText_40 ?_
          refine va_getN (D := D) (ci := 0) (v := (cmdV g u_12.2.2.2)) (C := RX2) (T := TX2) (N := 6) (host := "PivotChamber") hx hb hts inX2 hown hK0.1 hP 10 rfl rfl 3 (by decide) (va_Nw.use rfl (hK0.2.1.1.f 10 rfl)) (fun _ h9 => h9) rfl dX7_carryOutText_43 ?_
          refine lv_aload_n hx hb dX7_carryOutText_46 rfl (lv_at hl 0 rfl) ?_
          refine va_get (D := D) (ci := 5) (v := .ref (k7 0)) (C := RX7) (T := TX7) (N := 7) hx hb hts inX7 hown hK0.1 hP 0 rfl rfl 6 (by decide) (hts (.fieldLink RX7 43 "PivotChamber" "text" "LPivotChamber$CommandText;") (List.mem_of_getElem? (i := 1) rfl)) (fun _ h9 => h9) rfl dX7_carryOutText_47 ?_
          refine va_getN (D := D) (ci := 0) (v := .int u_12.2.1) (C := RX2) (T := TX2) (N := 6) (host := "PivotChamber") hx hb hts inX2 hown hK0.1 hP 10 rfl rfl 4 (by decide) (va_Nw.use rfl (hK0.2.1.1.f 11 rfl)) (fun _ h9 => h9) rfl dX7_carryOutText_50 ?_
          refine lv_aload_n hx hb dX7_carryOutText_53 rfl (lv_at hl 0 rfl) ?_
          refine va_get (D := D) (ci := 5) (v := .ref (k7 0)) (C := RX7) (T := TX7) (N := 7) hx hb hts inX7 hown hK0.1 hP 0 rfl rfl 6 (by decide) (hts (.fieldLink RX7 43 "PivotChamber" "text" "LPivotChamber$CommandText;") (List.mem_of_getElem? (i := 1) rfl)) (fun _ h9 => h9) rfl dX7_carryOutText_54 ?_
          refine va_getN (D := D) (ci := 0) (v := .int u_12.2.2.1) (C := RX2) (T := TX2) (N := 6) (host := "PivotChamber") hx hb hts inX2 hown hK0.1 hP 10 rfl rfl 5 (by decide) (va_Nw.use rfl (hK0.2.1.1.f 12 rfl)) (fun _ h9 => h9) rfl dX7_carryOutText_57 ?_
          by_cases c_15 : u_12.2.2.2 < 7
          · refine W.eq (g2 := F0 m 60 ls [.int u_12.2.2.1, .int u_12.2.1, .ref (g (10 + u_12.2.2.2)), .ref (b7 0)]) (by rw [cmdV_ref c_15]) ?_
            refine rd_goi (va_runV (C := RX6) (As := [.ref (g (10 + u_12.2.2.2)), .int u_12.2.1, .int u_12.2.2.1]) (rest := []) S (c_X6_faultOf l D cy g B b7 w1_2 u_12.2.2.2 u_12.2.1 u_12.2.2.1 c_15) (cwV 3 hts gX7_carryOutText_X6_faultOf rfl rfl rfl hd_X6_faultOf_V ⟨Nat.le_of_ble_eq_true rfl, Nat.le_of_ble_eq_true rfl⟩) ⟨rdP_blind, va_recv hK0.1 hP (ci := 4) (q0 := 1) rfl rfl, my_preP hK0 hS hAB (my_cP hP 1 rfl)⟩ rfl rfl hl.1 rfl (lv_room (Nat.le_of_ble_eq_true rfl)) dX7_carryOutText_60 ⟨Nat.zero_le _, Nat.zero_le _⟩) ?_
            refine lv_if_eq (tgt := 68) hx hb dX7_carryOutText_63 (by decide) (fun c_16 => ?_) (fun c_16 => ?_)
            · refine lv_aload_n hx hb dX7_carryOutText_68 rfl (lv_at hl 0 rfl) ?_
              refine va_get (D := D) (ci := 5) (v := .ref (b7 0)) (C := RX7) (T := TX7) (N := 7) hx hb hts inX7 hown hK0.1 hP 0 rfl rfl 0 (by decide) (hts (.fieldLink RX7 10 "PivotChamber" "setting" "LPivotChamber$Setting;") (List.mem_of_getElem? (i := 2) rfl)) (fun _ h9 => h9) rfl dX7_carryOutText_69 ?_
              refine lv_aload_n hx hb dX7_carryOutText_72 rfl (lv_at hl 0 rfl) ?_
              refine va_get (D := D) (ci := 5) (v := .ref (k7 0)) (C := RX7) (T := TX7) (N := 7) hx hb hts inX7 hown hK0.1 hP 0 rfl rfl 6 (by decide) (hts (.fieldLink RX7 43 "PivotChamber" "text" "LPivotChamber$CommandText;") (List.mem_of_getElem? (i := 1) rfl)) (fun _ h9 => h9) rfl dX7_carryOutText_73 ?_
              refine va_getN (D := D) (ci := 0) (v := (cmdV g u_12.2.2.2)) (C := RX2) (T := TX2) (N := 6) (host := "PivotChamber") hx hb hts inX2 hown hK0.1 hP 10 rfl rfl 3 (by decide) (va_Nw.use rfl (hK0.2.1.1.f 10 rfl)) (fun _ h9 => h9) rfl dX7_carryOutText_76 ?_
              refine lv_aload_n hx hb dX7_carryOutText_79 rfl (lv_at hl 0 rfl) ?_
              refine va_get (D := D) (ci := 5) (v := .ref (k7 0)) (C := RX7) (T := TX7) (N := 7) hx hb hts inX7 hown hK0.1 hP 0 rfl rfl 6 (by decide) (hts (.fieldLink RX7 43 "PivotChamber" "text" "LPivotChamber$CommandText;") (List.mem_of_getElem? (i := 1) rfl)) (fun _ h9 => h9) rfl dX7_carryOutText_80 ?_
              refine va_getN (D := D) (ci := 0) (v := .int u_12.2.1) (C := RX2) (T := TX2) (N := 6) (host := "PivotChamber") hx hb hts inX2 hown hK0.1 hP 10 rfl rfl 4 (by decide) (va_Nw.use rfl (hK0.2.1.1.f 11 rfl)) (fun _ h9 => h9) rfl dX7_carryOutText_83 ?_
              refine lv_aload_n hx hb dX7_carryOutText_86 rfl (lv_at hl 0 rfl) ?_
              refine va_get (D := D) (ci := 5) (v := .ref (k7 0)) (C := RX7) (T := TX7) (N := 7) hx hb hts inX7 hown hK0.1 hP 0 rfl rfl 6 (by decide) (hts (.fieldLink RX7 43 "PivotChamber" "text" "LPivotChamber$CommandText;") (List.mem_of_getElem? (i := 1) rfl)) (fun _ h9 => h9) rfl dX7_carryOutText_87 ?_
              refine va_getN (D := D) (ci := 0) (v := .int u_12.2.2.1) (C := RX2) (T := TX2) (N := 6) (host := "PivotChamber") hx hb hts inX2 hown hK0.1 hP 10 rfl rfl 5 (by decide) (va_Nw.use rfl (hK0.2.1.1.f 12 rfl)) (fun _ h9 => h9) rfl dX7_carryOutText_90 ?_
              by_cases c_17 : u_12.2.2.2 < 7
              · refine W.eq (g2 := F0 m 93 ls [.int u_12.2.2.1, .int u_12.2.1, .ref (g (10 + u_12.2.2.2)), .ref (b7 0)]) (by rw [cmdV_ref c_17]) ?_
                refine mu_compi (wcs := [(wSet cy b7 w1_2)]) (wns := fun (u_18 : SetV) => [(wSet cy b7 u_18)]) (W2 := fun (u_18 : SetV) => [(wPCo p70 b7 c7 d7 e7 h7 k7 st), (wSet cy b7 u_18), (wTxtE cy g k7 tx.1 u_12.1 u_12.2.1 u_12.2.2.1 u_12.2.2.2 tx.2.2.2.2.2)]) (va_runV (C := RX6) (As := [.ref (g (10 + u_12.2.2.2)), .int u_12.2.1, .int u_12.2.2.1]) (rest := []) S (c_X6_carryOut l D cy g B b7 w1_2 u_12.2.2.2 u_12.2.1 u_12.2.2.1 c_17) (cwV 3 hts gX7_carryOutText_X6_carryOut rfl rfl rfl hd_X6_carryOut_V ⟨Nat.le_of_ble_eq_true rfl, Nat.le_of_ble_eq_true rfl⟩) ⟨muP_blind, va_recv hK0.1 hP (ci := 4) (q0 := 1) rfl rfl, my_preC (wcs := [(wSet cy b7 w1_2)]) hK0 hS hAB hP hD [1] (by decide) rfl (List.append_nil _)⟩ rfl rfl hl.1 rfl (lv_room (Nat.le_of_ble_eq_true rfl)) dX7_carryOutText_93 ⟨Nat.zero_le _, Nat.zero_le _⟩) hS hP hD [1] rfl (List.append_nil _) (fun _ => List.append_nil _) (fun _ => by simp only [List.map_cons, List.map_nil, adrSet, adrSetE, adrPow, adrPowE, adrTxt, adrTxtE, adrSav, adrSavE, adrPCo, adrMod, adrModE]) (fun _ => rfl) (fun r_20 u_18 H locs hw_19 hP hD hS => ?_)
                refine lv_pop hx hb dX7_carryOutText_96 rfl ?_
                refine lv_iinc (v := (i1_1 + 1)) (lv' := [(1, .int (i1_1 + 1)), (0, .ref p70)]) hx hb dX7_carryOutText_97 hl (k := 1) rfl rfl (by decide) rfl (fun ls hl => ?_)
                refine lv_goto (tgt := 10) hx hb dX7_carryOutText_100 (by decide) ?_
                have hst : f_X7_carryOutText_st tx i1_1 w1_2 w21_3 w22_4 w23_5 w24_6 = .inl ((i1_1 + 1), u_18, u_12.1, u_12.2.1, u_12.2.2.1, u_12.2.2.2) := by rw [f_X7_carryOutText_st, if_neg c_7, hw_9, my_b_eq, if_neg c_11, hw_13, my_b_eq, if_pos c_15, if_pos c_16, if_pos c_17, hw_19, my_b_eq]
                have hmu : ((150 : Int32).toInt - ((i1_1 + 1) : Int32).toInt).toNat < ((150 : Int32).toInt - (i1_1 : Int32).toInt).toNat := mu_up c_7
                exact ih0 (i1_1 + 1) u_18 u_12.1 u_12.2.1 u_12.2.2.1 u_12.2.2.2 (Nat.lt_of_lt_of_le hmu (Nat.le_of_lt_succ hlt0)) (lp_inl hst hF0) _ _ hP hD hS _ (lv_sub hl [1, 0] rfl)
              · refine W.eq (g2 := F0 m 93 ls [.int u_12.2.2.1, .int u_12.2.1, .null, .ref (b7 0)]) (by rw [cmdV_null c_17]) ?_
                refine mu_compi (wcs := [(wSet cy b7 w1_2)]) (wns := fun (u_21 : SetV) => [(wSet cy b7 u_21)]) (W2 := fun (u_21 : SetV) => [(wPCo p70 b7 c7 d7 e7 h7 k7 st), (wSet cy b7 u_21), (wTxtE cy g k7 tx.1 u_12.1 u_12.2.1 u_12.2.2.1 u_12.2.2.2 tx.2.2.2.2.2)]) (va_runV (C := RX6) (As := [.null, .int u_12.2.1, .int u_12.2.2.1]) (rest := []) S (c_X6_carryOut_null l D cy g B b7 w1_2 u_12.2.1 u_12.2.2.1) (cwV 3 hts gX7_carryOutText_X6_carryOut rfl rfl rfl hd_X6_carryOut_V ⟨Nat.le_of_ble_eq_true rfl, Nat.le_of_ble_eq_true rfl⟩) ⟨muP_blind, va_recv hK0.1 hP (ci := 4) (q0 := 1) rfl rfl, my_preC (wcs := [(wSet cy b7 w1_2)]) hK0 hS hAB hP hD [1] (by decide) rfl (List.append_nil _)⟩ rfl rfl hl.1 rfl (lv_room (Nat.le_of_ble_eq_true rfl)) dX7_carryOutText_93 ⟨Nat.zero_le _, Nat.zero_le _⟩) hS hP hD [1] rfl (List.append_nil _) (fun _ => List.append_nil _) (fun _ => by simp only [List.map_cons, List.map_nil, adrSet, adrSetE, adrPow, adrPowE, adrTxt, adrTxtE, adrSav, adrSavE, adrPCo, adrMod, adrModE]) (fun _ => rfl) (fun r_23 u_21 H locs hw_22 hP hD hS => ?_)
                refine lv_pop hx hb dX7_carryOutText_96 rfl ?_
                refine lv_iinc (v := (i1_1 + 1)) (lv' := [(1, .int (i1_1 + 1)), (0, .ref p70)]) hx hb dX7_carryOutText_97 hl (k := 1) rfl rfl (by decide) rfl (fun ls hl => ?_)
                refine lv_goto (tgt := 10) hx hb dX7_carryOutText_100 (by decide) ?_
                have hst : f_X7_carryOutText_st tx i1_1 w1_2 w21_3 w22_4 w23_5 w24_6 = .inl ((i1_1 + 1), u_21, u_12.1, u_12.2.1, u_12.2.2.1, u_12.2.2.2) := by rw [f_X7_carryOutText_st, if_neg c_7, hw_9, my_b_eq, if_neg c_11, hw_13, my_b_eq, if_pos c_15, if_pos c_16, if_neg c_17, hw_22, my_b_eq]
                have hmu : ((150 : Int32).toInt - ((i1_1 + 1) : Int32).toInt).toNat < ((150 : Int32).toInt - (i1_1 : Int32).toInt).toNat := mu_up c_7
                exact ih0 (i1_1 + 1) u_21 u_12.1 u_12.2.1 u_12.2.2.1 u_12.2.2.2 (Nat.lt_of_lt_of_le hmu (Nat.le_of_lt_succ hlt0)) (lp_inl hst hF0) _ _ hP hD hS _ (lv_sub hl [1, 0] rfl)
            · refine lv_iload_n hx hb dX7_carryOutText_66 rfl (lv_at hl 1 rfl) ?_
              have hP : va_P D vwCl (List.flatten [(wPCo p70 b7 c7 d7 e7 h7 k7 st), (wSet cy b7 w1_2), (wTxt cy g k7 (tx.1, u_12.1, u_12.2.1, u_12.2.2.1, u_12.2.2.2, tx.2.2.2.2.2))]) H := by rw [wTxt_mk]; exact hP
              have hD : va_D A (List.flatten [(wPCo p70 b7 c7 d7 e7 h7 k7 st), (wSet cy b7 w1_2), (wTxt cy g k7 (tx.1, u_12.1, u_12.2.1, u_12.2.2.1, u_12.2.2.2, tx.2.2.2.2.2))]) := by rw [wTxt_mk]; exact hD
              have hst : f_X7_carryOutText_st tx i1_1 w1_2 w21_3 w22_4 w23_5 w24_6 = .inr (i1_1, (w1_2, (tx.1, u_12.1, u_12.2.1, u_12.2.2.1, u_12.2.2.2, tx.2.2.2.2.2))) := by rw [f_X7_carryOutText_st, if_neg c_7, hw_9, my_b_eq, if_neg c_11, hw_13, my_b_eq, if_pos c_15, if_neg c_16]
              exact W.iret hx hb hr (fun t ht hW => ⟨⟨i1_1, (w1_2, (tx.1, u_12.1, u_12.2.1, u_12.2.2.1, u_12.2.2.2, tx.2.2.2.2.2)), rfl, (show f_X7_carryOutText st v tx = (i1_1, (w1_2, (tx.1, u_12.1, u_12.2.1, u_12.2.2.1, u_12.2.2.2, tx.2.2.2.2.2))) from by rw [f_X7_carryOutText]; exact lp_inr hst hF0), by show va_P D vwCl _ t.heap; rw [ht]; exact hP⟩, hS.F ht⟩) hS.2.2 dX7_carryOutText_67
          · refine W.eq (g2 := F0 m 60 ls [.int u_12.2.2.1, .int u_12.2.1, .null, .ref (b7 0)]) (by rw [cmdV_null c_15]) ?_
            refine rd_goi (va_runV (C := RX6) (As := [.null, .int u_12.2.1, .int u_12.2.2.1]) (rest := []) S (c_X6_faultOf_null l D cy g B b7 w1_2 u_12.2.1 u_12.2.2.1) (cwV 3 hts gX7_carryOutText_X6_faultOf rfl rfl rfl hd_X6_faultOf_V ⟨Nat.le_of_ble_eq_true rfl, Nat.le_of_ble_eq_true rfl⟩) ⟨rdP_blind, va_recv hK0.1 hP (ci := 4) (q0 := 1) rfl rfl, my_preP hK0 hS hAB (my_cP hP 1 rfl)⟩ rfl rfl hl.1 rfl (lv_room (Nat.le_of_ble_eq_true rfl)) dX7_carryOutText_60 ⟨Nat.zero_le _, Nat.zero_le _⟩) ?_
            refine lv_if_eq (tgt := 68) hx hb dX7_carryOutText_63 (by decide) (fun c_24 => ?_) (fun c_24 => ?_)
            · refine lv_aload_n hx hb dX7_carryOutText_68 rfl (lv_at hl 0 rfl) ?_
              refine va_get (D := D) (ci := 5) (v := .ref (b7 0)) (C := RX7) (T := TX7) (N := 7) hx hb hts inX7 hown hK0.1 hP 0 rfl rfl 0 (by decide) (hts (.fieldLink RX7 10 "PivotChamber" "setting" "LPivotChamber$Setting;") (List.mem_of_getElem? (i := 2) rfl)) (fun _ h9 => h9) rfl dX7_carryOutText_69 ?_
              refine lv_aload_n hx hb dX7_carryOutText_72 rfl (lv_at hl 0 rfl) ?_
              refine va_get (D := D) (ci := 5) (v := .ref (k7 0)) (C := RX7) (T := TX7) (N := 7) hx hb hts inX7 hown hK0.1 hP 0 rfl rfl 6 (by decide) (hts (.fieldLink RX7 43 "PivotChamber" "text" "LPivotChamber$CommandText;") (List.mem_of_getElem? (i := 1) rfl)) (fun _ h9 => h9) rfl dX7_carryOutText_73 ?_
              refine va_getN (D := D) (ci := 0) (v := (cmdV g u_12.2.2.2)) (C := RX2) (T := TX2) (N := 6) (host := "PivotChamber") hx hb hts inX2 hown hK0.1 hP 10 rfl rfl 3 (by decide) (va_Nw.use rfl (hK0.2.1.1.f 10 rfl)) (fun _ h9 => h9) rfl dX7_carryOutText_76 ?_
              refine lv_aload_n hx hb dX7_carryOutText_79 rfl (lv_at hl 0 rfl) ?_
              refine va_get (D := D) (ci := 5) (v := .ref (k7 0)) (C := RX7) (T := TX7) (N := 7) hx hb hts inX7 hown hK0.1 hP 0 rfl rfl 6 (by decide) (hts (.fieldLink RX7 43 "PivotChamber" "text" "LPivotChamber$CommandText;") (List.mem_of_getElem? (i := 1) rfl)) (fun _ h9 => h9) rfl dX7_carryOutText_80 ?_
              refine va_getN (D := D) (ci := 0) (v := .int u_12.2.1) (C := RX2) (T := TX2) (N := 6) (host := "PivotChamber") hx hb hts inX2 hown hK0.1 hP 10 rfl rfl 4 (by decide) (va_Nw.use rfl (hK0.2.1.1.f 11 rfl)) (fun _ h9 => h9) rfl dX7_carryOutText_83 ?_
              refine lv_aload_n hx hb dX7_carryOutText_86 rfl (lv_at hl 0 rfl) ?_
              refine va_get (D := D) (ci := 5) (v := .ref (k7 0)) (C := RX7) (T := TX7) (N := 7) hx hb hts inX7 hown hK0.1 hP 0 rfl rfl 6 (by decide) (hts (.fieldLink RX7 43 "PivotChamber" "text" "LPivotChamber$CommandText;") (List.mem_of_getElem? (i := 1) rfl)) (fun _ h9 => h9) rfl dX7_carryOutText_87 ?_
              refine va_getN (D := D) (ci := 0) (v := .int u_12.2.2.1) (C := RX2) (T := TX2) (N := 6) (host := "PivotChamber") hx hb hts inX2 hown hK0.1 hP 10 rfl rfl 5 (by decide) (va_Nw.use rfl (hK0.2.1.1.f 12 rfl)) (fun _ h9 => h9) rfl dX7_carryOutText_90 ?_
              by_cases c_25 : u_12.2.2.2 < 7
              · refine W.eq (g2 := F0 m 93 ls [.int u_12.2.2.1, .int u_12.2.1, .ref (g (10 + u_12.2.2.2)), .ref (b7 0)]) (by rw [cmdV_ref c_25]) ?_
                refine mu_compi (wcs := [(wSet cy b7 w1_2)]) (wns := fun (u_26 : SetV) => [(wSet cy b7 u_26)]) (W2 := fun (u_26 : SetV) => [(wPCo p70 b7 c7 d7 e7 h7 k7 st), (wSet cy b7 u_26), (wTxtE cy g k7 tx.1 u_12.1 u_12.2.1 u_12.2.2.1 u_12.2.2.2 tx.2.2.2.2.2)]) (va_runV (C := RX6) (As := [.ref (g (10 + u_12.2.2.2)), .int u_12.2.1, .int u_12.2.2.1]) (rest := []) S (c_X6_carryOut l D cy g B b7 w1_2 u_12.2.2.2 u_12.2.1 u_12.2.2.1 c_25) (cwV 3 hts gX7_carryOutText_X6_carryOut rfl rfl rfl hd_X6_carryOut_V ⟨Nat.le_of_ble_eq_true rfl, Nat.le_of_ble_eq_true rfl⟩) ⟨muP_blind, va_recv hK0.1 hP (ci := 4) (q0 := 1) rfl rfl, my_preC (wcs := [(wSet cy b7 w1_2)]) hK0 hS hAB hP hD [1] (by decide) rfl (List.append_nil _)⟩ rfl rfl hl.1 rfl (lv_room (Nat.le_of_ble_eq_true rfl)) dX7_carryOutText_93 ⟨Nat.zero_le _, Nat.zero_le _⟩) hS hP hD [1] rfl (List.append_nil _) (fun _ => List.append_nil _) (fun _ => by simp only [List.map_cons, List.map_nil, adrSet, adrSetE, adrPow, adrPowE, adrTxt, adrTxtE, adrSav, adrSavE, adrPCo, adrMod, adrModE]) (fun _ => rfl) (fun r_28 u_26 H locs hw_27 hP hD hS => ?_)
                refine lv_pop hx hb dX7_carryOutText_96 rfl ?_
                refine lv_iinc (v := (i1_1 + 1)) (lv' := [(1, .int (i1_1 + 1)), (0, .ref p70)]) hx hb dX7_carryOutText_97 hl (k := 1) rfl rfl (by decide) rfl (fun ls hl => ?_)
                refine lv_goto (tgt := 10) hx hb dX7_carryOutText_100 (by decide) ?_
                have hst : f_X7_carryOutText_st tx i1_1 w1_2 w21_3 w22_4 w23_5 w24_6 = .inl ((i1_1 + 1), u_26, u_12.1, u_12.2.1, u_12.2.2.1, u_12.2.2.2) := by rw [f_X7_carryOutText_st, if_neg c_7, hw_9, my_b_eq, if_neg c_11, hw_13, my_b_eq, if_neg c_15, if_pos c_24, if_pos c_25, hw_27, my_b_eq]
                have hmu : ((150 : Int32).toInt - ((i1_1 + 1) : Int32).toInt).toNat < ((150 : Int32).toInt - (i1_1 : Int32).toInt).toNat := mu_up c_7
                exact ih0 (i1_1 + 1) u_26 u_12.1 u_12.2.1 u_12.2.2.1 u_12.2.2.2 (Nat.lt_of_lt_of_le hmu (Nat.le_of_lt_succ hlt0)) (lp_inl hst hF0) _ _ hP hD hS _ (lv_sub hl [1, 0] rfl)
              · refine W.eq (g2 := F0 m 93 ls [.int u_12.2.2.1, .int u_12.2.1, .null, .ref (b7 0)]) (by rw [cmdV_null c_25]) ?_
                refine mu_compi (wcs := [(wSet cy b7 w1_2)]) (wns := fun (u_29 : SetV) => [(wSet cy b7 u_29)]) (W2 := fun (u_29 : SetV) => [(wPCo p70 b7 c7 d7 e7 h7 k7 st), (wSet cy b7 u_29), (wTxtE cy g k7 tx.1 u_12.1 u_12.2.1 u_12.2.2.1 u_12.2.2.2 tx.2.2.2.2.2)]) (va_runV (C := RX6) (As := [.null, .int u_12.2.1, .int u_12.2.2.1]) (rest := []) S (c_X6_carryOut_null l D cy g B b7 w1_2 u_12.2.1 u_12.2.2.1) (cwV 3 hts gX7_carryOutText_X6_carryOut rfl rfl rfl hd_X6_carryOut_V ⟨Nat.le_of_ble_eq_true rfl, Nat.le_of_ble_eq_true rfl⟩) ⟨muP_blind, va_recv hK0.1 hP (ci := 4) (q0 := 1) rfl rfl, my_preC (wcs := [(wSet cy b7 w1_2)]) hK0 hS hAB hP hD [1] (by decide) rfl (List.append_nil _)⟩ rfl rfl hl.1 rfl (lv_room (Nat.le_of_ble_eq_true rfl)) dX7_carryOutText_93 ⟨Nat.zero_le _, Nat.zero_le _⟩) hS hP hD [1] rfl (List.append_nil _) (fun _ => List.append_nil _) (fun _ => by simp only [List.map_cons, List.map_nil, adrSet, adrSetE, adrPow, adrPowE, adrTxt, adrTxtE, adrSav, adrSavE, adrPCo, adrMod, adrModE]) (fun _ => rfl) (fun r_31 u_29 H locs hw_30 hP hD hS => ?_)
                refine lv_pop hx hb dX7_carryOutText_96 rfl ?_
                refine lv_iinc (v := (i1_1 + 1)) (lv' := [(1, .int (i1_1 + 1)), (0, .ref p70)]) hx hb dX7_carryOutText_97 hl (k := 1) rfl rfl (by decide) rfl (fun ls hl => ?_)
                refine lv_goto (tgt := 10) hx hb dX7_carryOutText_100 (by decide) ?_
                have hst : f_X7_carryOutText_st tx i1_1 w1_2 w21_3 w22_4 w23_5 w24_6 = .inl ((i1_1 + 1), u_29, u_12.1, u_12.2.1, u_12.2.2.1, u_12.2.2.2) := by rw [f_X7_carryOutText_st, if_neg c_7, hw_9, my_b_eq, if_neg c_11, hw_13, my_b_eq, if_neg c_15, if_pos c_24, if_neg c_25, hw_30, my_b_eq]
                have hmu : ((150 : Int32).toInt - ((i1_1 + 1) : Int32).toInt).toNat < ((150 : Int32).toInt - (i1_1 : Int32).toInt).toNat := mu_up c_7
                exact ih0 (i1_1 + 1) u_29 u_12.1 u_12.2.1 u_12.2.2.1 u_12.2.2.2 (Nat.lt_of_lt_of_le hmu (Nat.le_of_lt_succ hlt0)) (lp_inl hst hF0) _ _ hP hD hS _ (lv_sub hl [1, 0] rfl)
            · refine lv_iload_n hx hb dX7_carryOutText_66 rfl (lv_at hl 1 rfl) ?_
              have hP : va_P D vwCl (List.flatten [(wPCo p70 b7 c7 d7 e7 h7 k7 st), (wSet cy b7 w1_2), (wTxt cy g k7 (tx.1, u_12.1, u_12.2.1, u_12.2.2.1, u_12.2.2.2, tx.2.2.2.2.2))]) H := by rw [wTxt_mk]; exact hP
              have hD : va_D A (List.flatten [(wPCo p70 b7 c7 d7 e7 h7 k7 st), (wSet cy b7 w1_2), (wTxt cy g k7 (tx.1, u_12.1, u_12.2.1, u_12.2.2.1, u_12.2.2.2, tx.2.2.2.2.2))]) := by rw [wTxt_mk]; exact hD
              have hst : f_X7_carryOutText_st tx i1_1 w1_2 w21_3 w22_4 w23_5 w24_6 = .inr (i1_1, (w1_2, (tx.1, u_12.1, u_12.2.1, u_12.2.2.1, u_12.2.2.2, tx.2.2.2.2.2))) := by rw [f_X7_carryOutText_st, if_neg c_7, hw_9, my_b_eq, if_neg c_11, hw_13, my_b_eq, if_neg c_15, if_neg c_24]
              exact W.iret hx hb hr (fun t ht hW => ⟨⟨i1_1, (w1_2, (tx.1, u_12.1, u_12.2.1, u_12.2.2.1, u_12.2.2.2, tx.2.2.2.2.2)), rfl, (show f_X7_carryOutText st v tx = (i1_1, (w1_2, (tx.1, u_12.1, u_12.2.1, u_12.2.2.1, u_12.2.2.2, tx.2.2.2.2.2))) from by rw [f_X7_carryOutText]; exact lp_inr hst hF0), by show va_P D vwCl _ t.heap; rw [ht]; exact hP⟩, hS.F ht⟩) hS.2.2 dX7_carryOutText_67
  exact key (((150 : Int32).toInt - (0 : Int32).toInt).toNat + 1) 0 v 0 tx.2.2.1 tx.2.2.2.1 tx.2.2.2.2.1 (Nat.lt_succ_self _) rfl _ _ hP hD hS _ (lv_sub hl [1, 0] rfl)
theorem hd_X7_runCommands_S : yX7_runCommands.cls ≠ "java/lang/invoke/MethodHandle" ∧ yX7_runCommands.cls ≠ "java/lang/invoke/VarHandle" ∧ (parseMethodDescriptor yX7_runCommands.desc).map (fun d => d.parameters.length) = some 0 := by decide +kernel
theorem hd_X7_runCommands_V : yX7_runCommands.cls = RX7 ∧ yX7_runCommands.cls ≠ "java/lang/invoke/MethodHandle" ∧ yX7_runCommands.cls ≠ "java/lang/invoke/VarHandle" ∧ (parseMethodDescriptor yX7_runCommands.desc).map (fun d => d.parameters.length) = some 0 := ⟨rfl, hd_X7_runCommands_S⟩
def f_X7_runCommands (st : Int32) (v : SetV) (z : (Int32 × Int32)) (s0 : SetV) (s1 : SetV) (s2 : SetV) (s3 : SetV) (tx : TxtV) : Int32 × (Int32 × SetV × (Int32 × Int32) × SetV × SetV × SetV × SetV × TxtV) := (my_b (f_X2_findFault tx) (fun (r_3 : Int32) (u_1 : Int32 × Int32 × Int32 × Nat) => (if r_3 = (-1) then (my_l (f_X5_keep z v s0 s1 s2 s3) (fun (u_5 : (Int32 × Int32) × SetV × SetV × SetV × SetV) => (my_b (f_X7_carryOutText 1 v (tx.1, u_1.1, u_1.2.1, u_1.2.2.1, u_1.2.2.2, tx.2.2.2.2.2)) (fun (r_9 : Int32) (u_7 : SetV × TxtV) => (r_9, (1, u_7.1, u_5.1, u_5.2.1, u_5.2.2.1, u_5.2.2.2.1, u_5.2.2.2.2, u_7.2)))))) else (((-10) - r_3), (st, v, z, s0, s1, s2, s3, (tx.1, u_1.1, u_1.2.1, u_1.2.2.1, u_1.2.2.2, tx.2.2.2.2.2))))))
set_option maxHeartbeats 400000 in
set_option maxRecDepth 100000 in
theorem c_X7_runCommands (l : Launch) (D : va_G) (cy : Nat → ClassId) (g : Nat → Nat) (B : Nat) (p70 : Nat) (b7 : Nat → Nat) (c7 : Nat → Nat) (d7 : Nat → Nat) (e7 : Nat → Nat) (h7 : Nat → Nat) (k7 : Nat → Nat) (q : Nat → Nat → Nat) (st : Int32) (v : SetV) (z : (Int32 × Int32)) (s0 : SetV) (s1 : SetV) (s2 : SetV) (s3 : SetV) (tx : TxtV) : Met l yX7_runCommands wsX7_runCommands ({ frames := 8, cells := 0, slots := 0, locals := 179 }) (muP D cy g B (List.flatten [(wPCo p70 b7 c7 d7 e7 h7 k7 st), (wSet cy b7 v), (wSav cy q h7 z), (wSet cy (q 0) s0), (wSet cy (q 1) s1), (wSet cy (q 2) s2), (wSet cy (q 3) s3), (wTxt cy g k7 tx)]) [.ref p70]) (va_Qi (fun (r : Int32) (u : Int32 × SetV × (Int32 × Int32) × SetV × SetV × SetV × SetV × TxtV) => f_X7_runCommands st v z s0 s1 s2 s3 tx = (r, u)) (fun u t => va_P D vwCl (List.flatten [(wPCo p70 b7 c7 d7 e7 h7 k7 u.1), (wSet cy b7 u.2.1), (wSav cy q h7 u.2.2.1), (wSet cy (q 0) u.2.2.2.1), (wSet cy (q 1) u.2.2.2.2.1), (wSet cy (q 2) u.2.2.2.2.2.1), (wSet cy (q 3) u.2.2.2.2.2.2.1), (wTxt cy g k7 u.2.2.2.2.2.2.2)]) t.heap) (muA (List.flatten [(wPCo p70 b7 c7 d7 e7 h7 k7 st), (wSet cy b7 v), (wSav cy q h7 z), (wSet cy (q 0) s0), (wSet cy (q 1) s1), (wSet cy (q 2) s2), (wSet cy (q 3) s3), (wTxt cy g k7 tx)]))) 0 0 (muA (List.flatten [(wPCo p70 b7 c7 d7 e7 h7 k7 st), (wSet cy b7 v), (wSav cy q h7 z), (wSet cy (q 0) s0), (wSet cy (q 1) s1), (wSet cy (q 2) s2), (wSet cy (q 3) s3), (wTxt cy g k7 tx)])) := by
  refine Met.ofW (cc := cX7_runCommands) (maxL := 2) (ret := (some .int)) (by decide) rfl ?_
  intro p e s m args below meth c s₁ BB hml hv
  obtain ⟨rfl, hP, hK0, hD0⟩ := hv
  have hx := BB.exec
  have hb := BB.bytes
  have hr := BB.returns
  have hts := atoms_spec (ws := wsX7_runCommands) BB.pre
  have hown : s.vm.findClass RX7 = some m.cls := findClass_of_methodNamed BB.named
  have hlocks := BB.notSynchronized
  have S := my_fix hx hb hml hown hts
  have inX7 : ∀ w ∈ wsX70, w ∈ wsX7_runCommands := fun w h => List.mem_cons_of_mem _ (List.mem_append_left _ (List.mem_append_left _ (List.mem_append_left _ (List.mem_append_left _ (List.mem_append_right _ h)))))
  have hAB := muB hD0
  have hD := muD hD0
  generalize hAe : muA (List.flatten [(wPCo p70 b7 c7 d7 e7 h7 k7 st), (wSet cy b7 v), (wSav cy q h7 z), (wSet cy (q 0) s0), (wSet cy (q 1) s1), (wSet cy (q 2) s2), (wSet cy (q 3) s3), (wTxt cy g k7 tx)]) = A at hAB hD ⊢
  have hS : va_S A s.heap s.heap [] := va_S.rf
  have hl := lv_entry ([.ref p70]) (n := 2) (Nat.le_of_ble_eq_true rfl)
  rw [lg_entry_eq]
  generalize (lg_sl ([.ref p70]) ++ List.replicate (2 - (lg_sl ([.ref p70])).length) Slot.unset).toArray = ls at hl ⊢
  have hl : lv_has ls 2 [(0, .ref p70)] := hl
  refine lv_aload_n hx hb dX7_runCommands_0 rfl (lv_at hl 0 rfl) ?_
  refine va_get (D := D) (ci := 5) (v := .ref (k7 0)) (C := RX7) (T := TX7) (N := 7) hx hb hts inX7 hown hK0.1 hP 0 rfl rfl 6 (by decide) (hts (.fieldLink RX7 43 "PivotChamber" "text" "LPivotChamber$CommandText;") (List.mem_of_getElem? (i := 1) rfl)) (fun _ h9 => h9) rfl dX7_runCommands_1 ?_
  refine mu_compi (wcs := [(wTxt cy g k7 tx)]) (wns := fun (u_1 : Int32 × Int32 × Int32 × Nat) => [(wTxtE cy g k7 tx.1 u_1.1 u_1.2.1 u_1.2.2.1 u_1.2.2.2 tx.2.2.2.2.2)]) (W2 := fun (u_1 : Int32 × Int32 × Int32 × Nat) => [(wPCo p70 b7 c7 d7 e7 h7 k7 st), (wSet cy b7 v), (wSav cy q h7 z), (wSet cy (q 0) s0), (wSet cy (q 1) s1), (wSet cy (q 2) s2), (wSet cy (q 3) s3), (wTxtE cy g k7 tx.1 u_1.1 u_1.2.1 u_1.2.2.1 u_1.2.2.2 tx.2.2.2.2.2)]) (va_runV (C := RX2) (As := []) (rest := []) S (c_X2_findFault l D cy g B k7 tx) (cwV 0 hts gX7_runCommands_X2_findFault rfl rfl rfl hd_X2_findFault_V ⟨Nat.le_of_ble_eq_true rfl, Nat.le_of_ble_eq_true rfl⟩) ⟨muP_blind, va_recv hK0.1 hP (ci := 0) (q0 := 48) rfl rfl, my_preC (wcs := [(wTxt cy g k7 tx)]) hK0 hS hAB hP hD [7] (by decide) rfl (List.append_nil _)⟩ rfl rfl hl.1 rfl (lv_room (Nat.le_of_ble_eq_true rfl)) dX7_runCommands_4 ⟨Nat.zero_le _, Nat.zero_le _⟩) hS hP hD [7] rfl (List.append_nil _) (fun _ => List.append_nil _) (fun _ => by simp only [List.map_cons, List.map_nil, adrSet, adrSetE, adrPow, adrPowE, adrTxt, adrTxtE, adrSav, adrSavE, adrPCo, adrMod, adrModE]) (fun _ => rfl) (fun r_3 u_1 H locs hw_2 hP hD hS => ?_)
  refine lv_istore_n (lv' := [(1, .int r_3), (0, .ref p70)]) hx hb dX7_runCommands_7 rfl hl (by decide) rfl (fun ls hl => ?_)
  refine lv_iload_n hx hb dX7_runCommands_8 rfl (lv_at hl 0 rfl) ?_
  refine lv_iconst (v := (-1)) hx hb dX7_runCommands_9 (by decide) ?_
  refine lv_icmp_eq (tgt := 18) hx hb dX7_runCommands_10 (by decide) (fun c_4 => ?_) (fun c_4 => ?_)
  · refine lv_aload_n hx hb dX7_runCommands_18 rfl (lv_at hl 1 rfl) ?_
    refine va_get (D := D) (ci := 5) (v := .ref (h7 0)) (C := RX7) (T := TX7) (N := 7) hx hb hts inX7 hown hK0.1 hP 0 rfl rfl 5 (by decide) (hts (.fieldLink RX7 36 "PivotChamber" "saved" "LPivotChamber$SavedSettings;") (List.mem_of_getElem? (i := 2) rfl)) (fun _ h9 => h9) rfl dX7_runCommands_19 ?_
    refine lv_aload_n hx hb dX7_runCommands_22 rfl (lv_at hl 1 rfl) ?_
    refine va_get (D := D) (ci := 5) (v := .ref (b7 0)) (C := RX7) (T := TX7) (N := 7) hx hb hts inX7 hown hK0.1 hP 0 rfl rfl 0 (by decide) (hts (.fieldLink RX7 10 "PivotChamber" "setting" "LPivotChamber$Setting;") (List.mem_of_getElem? (i := 3) rfl)) (fun _ h9 => h9) rfl dX7_runCommands_23 ?_
    refine mu_compv (wcs := [(wSav cy q h7 z), (wSet cy b7 v), (wSet cy (q 0) s0), (wSet cy (q 1) s1), (wSet cy (q 2) s2), (wSet cy (q 3) s3)]) (wns := fun (u_5 : (Int32 × Int32) × SetV × SetV × SetV × SetV) => [(wSav cy q h7 u_5.1), (wSet cy b7 v), (wSet cy (q 0) u_5.2.1), (wSet cy (q 1) u_5.2.2.1), (wSet cy (q 2) u_5.2.2.2.1), (wSet cy (q 3) u_5.2.2.2.2)]) (W2 := fun (u_5 : (Int32 × Int32) × SetV × SetV × SetV × SetV) => [(wPCo p70 b7 c7 d7 e7 h7 k7 st), (wSet cy b7 v), (wSav cy q h7 u_5.1), (wSet cy (q 0) u_5.2.1), (wSet cy (q 1) u_5.2.2.1), (wSet cy (q 2) u_5.2.2.2.1), (wSet cy (q 3) u_5.2.2.2.2), (wTxtE cy g k7 tx.1 u_1.1 u_1.2.1 u_1.2.2.1 u_1.2.2.2 tx.2.2.2.2.2)]) (va_runV (C := RX5) (As := [.ref (b7 0)]) (rest := []) S (c_X5_keep l D cy g B h7 q b7 z v s0 s1 s2 s3) (cwV 1 hts gX7_runCommands_X5_keep rfl rfl rfl hd_X5_keep_V ⟨Nat.le_of_ble_eq_true rfl, Nat.le_of_ble_eq_true rfl⟩) ⟨muP_blind, va_recv hK0.1 hP (ci := 3) (q0 := 10) rfl rfl, my_preC (wcs := [(wSav cy q h7 z), (wSet cy b7 v), (wSet cy (q 0) s0), (wSet cy (q 1) s1), (wSet cy (q 2) s2), (wSet cy (q 3) s3)]) hK0 hS hAB hP hD [2, 1, 3, 4, 5, 6] (by decide) rfl rfl⟩ rfl rfl hl.1 rfl (lv_room (Nat.le_of_ble_eq_true rfl)) dX7_runCommands_26 ⟨Nat.zero_le _, Nat.zero_le _⟩) hS hP hD [2, 1, 3, 4, 5, 6] rfl rfl (fun _ => rfl) (fun _ => by simp only [List.map_cons, List.map_nil, adrSet, adrSetE, adrPow, adrPowE, adrTxt, adrTxtE, adrSav, adrSavE, adrPCo, adrMod, adrModE]) (fun _ => rfl) (fun u_5 H locs hw_6 hP hD hS => ?_)
    refine lv_aload_n hx hb dX7_runCommands_29 rfl (lv_at hl 1 rfl) ?_
    refine lv_iconst (v := 1) hx hb dX7_runCommands_30 (by decide) ?_
    refine va_put (D := D) (ci := 5) (v := .int 1) (ty := .boolean) (C := RX7) (T := TX7) (N := 7) hx hb hts inX7 tyX7 tyX7_ok nmX7 hown hK0.1 hP hD hS 0 rfl rfl 2 (by decide) (hts (.fieldLink RX7 23 "PivotChamber" "stale" "Z") (List.mem_of_getElem? (i := 4) rfl)) (fun _ h9 => h9) rfl (by decide +kernel) (by decide) (by decide) (Nat.le_of_ble_eq_true rfl) dX7_runCommands_31 (fun H locs hP hD hS => ?_)
    have hP : va_P D vwCl (List.flatten [(wPCo p70 b7 c7 d7 e7 h7 k7 1), (wSet cy b7 v), (wSav cy q h7 u_5.1), (wSet cy (q 0) u_5.2.1), (wSet cy (q 1) u_5.2.2.1), (wSet cy (q 2) u_5.2.2.2.1), (wSet cy (q 3) u_5.2.2.2.2), (wTxtE cy g k7 tx.1 u_1.1 u_1.2.1 u_1.2.2.1 u_1.2.2.2 tx.2.2.2.2.2)]) H := hP
    have hD : va_D A (List.flatten [(wPCo p70 b7 c7 d7 e7 h7 k7 1), (wSet cy b7 v), (wSav cy q h7 u_5.1), (wSet cy (q 0) u_5.2.1), (wSet cy (q 1) u_5.2.2.1), (wSet cy (q 2) u_5.2.2.2.1), (wSet cy (q 3) u_5.2.2.2.2), (wTxtE cy g k7 tx.1 u_1.1 u_1.2.1 u_1.2.2.1 u_1.2.2.2 tx.2.2.2.2.2)]) := hD
    refine lv_aload_n hx hb dX7_runCommands_34 rfl (lv_at hl 1 rfl) ?_
    have hP : va_P D vwCl (List.flatten [(wPCo p70 b7 c7 d7 e7 h7 k7 1), (wSet cy b7 v), (wSav cy q h7 u_5.1), (wSet cy (q 0) u_5.2.1), (wSet cy (q 1) u_5.2.2.1), (wSet cy (q 2) u_5.2.2.2.1), (wSet cy (q 3) u_5.2.2.2.2), (wTxt cy g k7 (tx.1, u_1.1, u_1.2.1, u_1.2.2.1, u_1.2.2.2, tx.2.2.2.2.2))]) H := by rw [wTxt_mk]; exact hP
    have hD : va_D A (List.flatten [(wPCo p70 b7 c7 d7 e7 h7 k7 1), (wSet cy b7 v), (wSav cy q h7 u_5.1), (wSet cy (q 0) u_5.2.1), (wSet cy (q 1) u_5.2.2.1), (wSet cy (q 2) u_5.2.2.2.1), (wSet cy (q 3) u_5.2.2.2.2), (wTxt cy g k7 (tx.1, u_1.1, u_1.2.1, u_1.2.2.1, u_1.2.2.2, tx.2.2.2.2.2))]) := by rw [wTxt_mk]; exact hD
    refine mu_compi (wcs := [(wPCo p70 b7 c7 d7 e7 h7 k7 1), (wSet cy b7 v), (wTxt cy g k7 (tx.1, u_1.1, u_1.2.1, u_1.2.2.1, u_1.2.2.2, tx.2.2.2.2.2))]) (wns := fun (u_7 : SetV × TxtV) => [(wPCo p70 b7 c7 d7 e7 h7 k7 1), (wSet cy b7 u_7.1), (wTxt cy g k7 u_7.2)]) (W2 := fun (u_7 : SetV × TxtV) => [(wPCo p70 b7 c7 d7 e7 h7 k7 1), (wSet cy b7 u_7.1), (wSav cy q h7 u_5.1), (wSet cy (q 0) u_5.2.1), (wSet cy (q 1) u_5.2.2.1), (wSet cy (q 2) u_5.2.2.2.1), (wSet cy (q 3) u_5.2.2.2.2), (wTxt cy g k7 u_7.2)]) (va_runV (C := RX7) (As := []) (rest := []) S (c_X7_carryOutText l D cy g B p70 b7 c7 d7 e7 h7 k7 1 v (tx.1, u_1.1, u_1.2.1, u_1.2.2.1, u_1.2.2.2, tx.2.2.2.2.2)) (cwV 0 hts gX7_runCommands_X7_carryOutText rfl rfl rfl hd_X7_carryOutText_V ⟨Nat.le_of_ble_eq_true rfl, Nat.le_of_ble_eq_true rfl⟩) ⟨muP_blind, va_recv hK0.1 hP (ci := 5) (q0 := 0) rfl rfl, my_preC (wcs := [(wPCo p70 b7 c7 d7 e7 h7 k7 1), (wSet cy b7 v), (wTxt cy g k7 (tx.1, u_1.1, u_1.2.1, u_1.2.2.1, u_1.2.2.2, tx.2.2.2.2.2))]) hK0 hS hAB hP hD [0, 1, 7] (by decide) rfl rfl⟩ rfl rfl hl.1 rfl (lv_room (Nat.le_of_ble_eq_true rfl)) dX7_runCommands_35 ⟨Nat.zero_le _, Nat.zero_le _⟩) hS hP hD [0, 1, 7] rfl rfl (fun _ => rfl) (fun _ => by simp only [List.map_cons, List.map_nil, adrSet, adrSetE, adrPow, adrPowE, adrTxt, adrTxtE, adrSav, adrSavE, adrPCo, adrMod, adrModE]) (fun _ => rfl) (fun r_9 u_7 H locs hw_8 hP hD hS => ?_)
    exact W.iret hx hb hr (fun t ht hW => ⟨⟨r_9, (1, u_7.1, u_5.1, u_5.2.1, u_5.2.2.1, u_5.2.2.2.1, u_5.2.2.2.2, u_7.2), rfl, (show f_X7_runCommands st v z s0 s1 s2 s3 tx = (r_9, (1, u_7.1, u_5.1, u_5.2.1, u_5.2.2.1, u_5.2.2.2.1, u_5.2.2.2.2, u_7.2)) from by rw [f_X7_runCommands, hw_2, my_b_eq, if_pos c_4, hw_6, my_l_eq, hw_8, my_b_eq]), by show va_P D vwCl _ t.heap; rw [ht]; exact hP⟩, hS.F ht⟩) hS.2.2 dX7_runCommands_38
  · refine lv_bipush (v := (-10)) hx hb dX7_runCommands_13 (by decide) ?_
    refine lv_iload_n hx hb dX7_runCommands_15 rfl (lv_at hl 0 rfl) ?_
    refine lv_isub hx hb dX7_runCommands_16 ?_
    have hP : va_P D vwCl (List.flatten [(wPCo p70 b7 c7 d7 e7 h7 k7 st), (wSet cy b7 v), (wSav cy q h7 z), (wSet cy (q 0) s0), (wSet cy (q 1) s1), (wSet cy (q 2) s2), (wSet cy (q 3) s3), (wTxt cy g k7 (tx.1, u_1.1, u_1.2.1, u_1.2.2.1, u_1.2.2.2, tx.2.2.2.2.2))]) H := by rw [wTxt_mk]; exact hP
    have hD : va_D A (List.flatten [(wPCo p70 b7 c7 d7 e7 h7 k7 st), (wSet cy b7 v), (wSav cy q h7 z), (wSet cy (q 0) s0), (wSet cy (q 1) s1), (wSet cy (q 2) s2), (wSet cy (q 3) s3), (wTxt cy g k7 (tx.1, u_1.1, u_1.2.1, u_1.2.2.1, u_1.2.2.2, tx.2.2.2.2.2))]) := by rw [wTxt_mk]; exact hD
    exact W.iret hx hb hr (fun t ht hW => ⟨⟨((-10) - r_3), (st, v, z, s0, s1, s2, s3, (tx.1, u_1.1, u_1.2.1, u_1.2.2.1, u_1.2.2.2, tx.2.2.2.2.2)), rfl, (show f_X7_runCommands st v z s0 s1 s2 s3 tx = (((-10) - r_3), (st, v, z, s0, s1, s2, s3, (tx.1, u_1.1, u_1.2.1, u_1.2.2.1, u_1.2.2.2, tx.2.2.2.2.2))) from by rw [f_X7_runCommands, hw_2, my_b_eq, if_neg c_4]), by show va_P D vwCl _ t.heap; rw [ht]; exact hP⟩, hS.F ht⟩) hS.2.2 dX7_runCommands_17
theorem hd_X7_undo_S : yX7_undo.cls ≠ "java/lang/invoke/MethodHandle" ∧ yX7_undo.cls ≠ "java/lang/invoke/VarHandle" ∧ (parseMethodDescriptor yX7_undo.desc).map (fun d => d.parameters.length) = some 0 := by decide +kernel
theorem hd_X7_undo_V : yX7_undo.cls = RX7 ∧ yX7_undo.cls ≠ "java/lang/invoke/MethodHandle" ∧ yX7_undo.cls ≠ "java/lang/invoke/VarHandle" ∧ (parseMethodDescriptor yX7_undo.desc).map (fun d => d.parameters.length) = some 0 := ⟨rfl, hd_X7_undo_S⟩
def f_X7_undo (st : Int32) (v : SetV) (z : (Int32 × Int32)) (s0 : SetV) (s1 : SetV) (s2 : SetV) (s3 : SetV) : Int32 ⊕ (Int32 × (Int32 × SetV × (Int32 × Int32) × SetV × SetV × SetV × SetV)) := (if z.1 = 0 then (my_rf 3 (my_l (f_X5_giveBack z v s0 s1 s2 s3) (fun (u_6 : (Int32 × Int32) × SetV) => (.inr (u_6.1.1, (1, u_6.2, u_6.1, s0, s1, s2, s3)))))) else (my_rf 0 (my_l (f_X5_giveBack z v s0 s1 s2 s3) (fun (u_3 : (Int32 × Int32) × SetV) => (.inr (u_3.1.1, (1, u_3.2, u_3.1, s0, s1, s2, s3)))))))
set_option maxHeartbeats 400000 in
set_option maxRecDepth 100000 in
theorem c_X7_undo (l : Launch) (hl0 : l.stackTraces = false) (D : va_G) (cy : Nat → ClassId) (g : Nat → Nat) (B : Nat) (p70 : Nat) (b7 : Nat → Nat) (c7 : Nat → Nat) (d7 : Nat → Nat) (e7 : Nat → Nat) (h7 : Nat → Nat) (k7 : Nat → Nat) (q : Nat → Nat → Nat) (st : Int32) (v : SetV) (z : (Int32 × Int32)) (s0 : SetV) (s1 : SetV) (s2 : SetV) (s3 : SetV) : vx_Met l yX7_undo wsX7_undo ({ frames := 7, cells := 1, slots := 6, locals := 110 }) (muP D cy g B (List.flatten [(wPCo p70 b7 c7 d7 e7 h7 k7 st), (wSet cy b7 v), (wSav cy q h7 z), (wSet cy (q 0) s0), (wSet cy (q 1) s1), (wSet cy (q 2) s2), (wSet cy (q 3) s3)]) [.ref p70]) (va_Qi (fun (r : Int32) (u : Int32 × SetV × (Int32 × Int32) × SetV × SetV × SetV × SetV) => f_X7_undo st v z s0 s1 s2 s3 = .inr (r, u)) (fun u t => va_P D vwCl (List.flatten [(wPCo p70 b7 c7 d7 e7 h7 k7 u.1), (wSet cy b7 u.2.1), (wSav cy q h7 u.2.2.1), (wSet cy (q 0) u.2.2.2.1), (wSet cy (q 1) u.2.2.2.2.1), (wSet cy (q 2) u.2.2.2.2.2.1), (wSet cy (q 3) u.2.2.2.2.2.2)]) t.heap) (muA (List.flatten [(wPCo p70 b7 c7 d7 e7 h7 k7 st), (wSet cy b7 v), (wSav cy q h7 z), (wSet cy (q 0) s0), (wSet cy (q 1) s1), (wSet cy (q 2) s2), (wSet cy (q 3) s3)]))) (vx_X (fun (k : Int32) => f_X7_undo st v z s0 s1 s2 s3 = .inl k) (fun E k t => exE k E ∧ va_P D vwCl (List.flatten [(wPCo p70 b7 c7 d7 e7 h7 k7 st), (wSet cy b7 v), (wSav cy q h7 z), (wSet cy (q 0) s0), (wSet cy (q 1) s1), (wSet cy (q 2) s2), (wSet cy (q 3) s3)]) t.heap) (muA (List.flatten [(wPCo p70 b7 c7 d7 e7 h7 k7 st), (wSet cy b7 v), (wSav cy q h7 z), (wSet cy (q 0) s0), (wSet cy (q 1) s1), (wSet cy (q 2) s2), (wSet cy (q 3) s3)]))) 1 6 (muA (List.flatten [(wPCo p70 b7 c7 d7 e7 h7 k7 st), (wSet cy b7 v), (wSav cy q h7 z), (wSet cy (q 0) s0), (wSet cy (q 1) s1), (wSet cy (q 2) s2), (wSet cy (q 3) s3)])) := by
  refine vx_ofW (cc := cX7_undo) (maxL := 1) (ret := (some .int)) (by decide) rfl ?_
  intro p e s m args below meth c s₁ BB hml hout hv
  obtain ⟨rfl, hP, hK0, hD0⟩ := hv
  have hx := BB.exec
  have hb := BB.bytes
  have hr := BB.returns
  have hts := atoms_spec (ws := wsX7_undo) BB.pre
  have hown : s.vm.findClass RX7 = some m.cls := findClass_of_methodNamed BB.named
  have hlocks := BB.notSynchronized
  have S := my_fix hx hb hml hown hts
  have inX5 : ∀ w ∈ wsX50, w ∈ wsX7_undo := fun w h => List.mem_cons_of_mem _ (List.mem_append_left _ (List.mem_append_left _ (List.mem_append_left _ (List.mem_append_left _ (List.mem_append_left _ (List.mem_append_right _ h))))))
  have inX7 : ∀ w ∈ wsX70, w ∈ wsX7_undo := fun w h => List.mem_cons_of_mem _ (List.mem_append_left _ (List.mem_append_left _ (List.mem_append_left _ (List.mem_append_left _ (List.mem_append_left _ (List.mem_append_left _ (List.mem_append_right _ h)))))))
  have hAB := muB hD0
  have hD := muD hD0
  generalize hAe : muA (List.flatten [(wPCo p70 b7 c7 d7 e7 h7 k7 st), (wSet cy b7 v), (wSav cy q h7 z), (wSet cy (q 0) s0), (wSet cy (q 1) s1), (wSet cy (q 2) s2), (wSet cy (q 3) s3)]) = A at hAB hD ⊢
  have hS : va_S A s.heap s.heap [] := va_S.rf
  have hl := lv_entry ([.ref p70]) (n := 1) (Nat.le_of_ble_eq_true rfl)
  rw [lg_entry_eq]
  generalize (lg_sl ([.ref p70]) ++ List.replicate (1 - (lg_sl ([.ref p70])).length) Slot.unset).toArray = ls at hl ⊢
  have hl : lv_has ls 1 [(0, .ref p70)] := hl
  refine lv_aload_n hx hb dX7_undo_0 rfl (lv_at hl 0 rfl) ?_
  refine va_get (D := D) (ci := 5) (v := .ref (h7 0)) (C := RX7) (T := TX7) (N := 7) hx hb hts inX7 hown hK0.1 hP 0 rfl rfl 5 (by decide) (hts (.fieldLink RX7 36 "PivotChamber" "saved" "LPivotChamber$SavedSettings;") (List.mem_of_getElem? (i := 1) rfl)) (fun _ h9 => h9) rfl dX7_undo_1 ?_
  refine va_getN (D := D) (ci := 3) (v := .int z.1) (C := RX5) (T := TX5) (N := 3) (host := "PivotChamber") hx hb hts inX5 hown hK0.1 hP 10 rfl rfl 1 (by decide) (va_Nw.use rfl (hK0.2.1.1.f 6 rfl)) (fun _ h9 => h9) rfl dX7_undo_4 ?_
  refine lv_if_ne (tgt := 14) hx hb dX7_undo_7 (by decide) (fun c_1 => ?_) (fun c_1 => ?_)
  · refine lv_iconst (v := 0) hx hb dX7_undo_14 (by decide) ?_
    refine my_rfx (vx_runS (As := [.int 0]) (rest := []) S (c_X7_refuse l hl0 D cy g B 0) (va_cwS 1 hts gX7_undo_X7_refuse rfl rfl rfl hd_X7_refuse_S ⟨Nat.le_of_ble_eq_true rfl, Nat.le_of_ble_eq_true rfl⟩) ⟨rdP_blind, my_preV hK0 hS hAB hP [] rfl⟩ rfl rfl hl.1 rfl (lv_room (Nat.le_of_ble_eq_true rfl)) dX7_undo_15 ⟨Nat.le_of_ble_eq_true rfl, Nat.le_of_ble_eq_true rfl⟩) hS hP hout hlocks (fun _ h => h) (Nat.le_of_ble_eq_true rfl) (Nat.le_of_ble_eq_true rfl) (fun hrf_2 E t h1 h2 h3 => ⟨0, (show f_X7_undo st v z s0 s1 s2 s3 = .inl 0 from by rw [f_X7_undo, if_neg c_1, my_rf_no hrf_2]), ⟨h1, h2⟩, h3⟩) (fun hrf_2 H locs hP hS => ?_)
    have hP : va_P D vwCl (List.flatten [(wPCo p70 b7 c7 d7 e7 h7 k7 st), (wSet cy b7 v), (wSav cy q h7 z), (wSet cy (q 0) s0), (wSet cy (q 1) s1), (wSet cy (q 2) s2), (wSet cy (q 3) s3)]) H := hP
    refine lv_aload_n hx hb dX7_undo_18 rfl (lv_at hl 0 rfl) ?_
    refine va_get (D := D) (ci := 5) (v := .ref (h7 0)) (C := RX7) (T := TX7) (N := 7) hx hb hts inX7 hown hK0.1 hP 0 rfl rfl 5 (by decide) (hts (.fieldLink RX7 36 "PivotChamber" "saved" "LPivotChamber$SavedSettings;") (List.mem_of_getElem? (i := 1) rfl)) (fun _ h9 => h9) rfl dX7_undo_19 ?_
    refine lv_aload_n hx hb dX7_undo_22 rfl (lv_at hl 0 rfl) ?_
    refine va_get (D := D) (ci := 5) (v := .ref (b7 0)) (C := RX7) (T := TX7) (N := 7) hx hb hts inX7 hown hK0.1 hP 0 rfl rfl 0 (by decide) (hts (.fieldLink RX7 10 "PivotChamber" "setting" "LPivotChamber$Setting;") (List.mem_of_getElem? (i := 2) rfl)) (fun _ h9 => h9) rfl dX7_undo_23 ?_
    refine mu_compv (wcs := [(wSav cy q h7 z), (wSet cy b7 v), (wSet cy (q 0) s0), (wSet cy (q 1) s1), (wSet cy (q 2) s2), (wSet cy (q 3) s3)]) (wns := fun (u_3 : (Int32 × Int32) × SetV) => [(wSav cy q h7 u_3.1), (wSet cy b7 u_3.2), (wSet cy (q 0) s0), (wSet cy (q 1) s1), (wSet cy (q 2) s2), (wSet cy (q 3) s3)]) (W2 := fun (u_3 : (Int32 × Int32) × SetV) => [(wPCo p70 b7 c7 d7 e7 h7 k7 st), (wSet cy b7 u_3.2), (wSav cy q h7 u_3.1), (wSet cy (q 0) s0), (wSet cy (q 1) s1), (wSet cy (q 2) s2), (wSet cy (q 3) s3)]) (va_runV (C := RX5) (As := [.ref (b7 0)]) (rest := []) S (c_X5_giveBack l D cy g B h7 q b7 z v s0 s1 s2 s3) (cwV 1 hts gX7_undo_X5_giveBack rfl rfl rfl hd_X5_giveBack_V ⟨Nat.le_of_ble_eq_true rfl, Nat.le_of_ble_eq_true rfl⟩) ⟨muP_blind, va_recv hK0.1 hP (ci := 3) (q0 := 10) rfl rfl, my_preC (wcs := [(wSav cy q h7 z), (wSet cy b7 v), (wSet cy (q 0) s0), (wSet cy (q 1) s1), (wSet cy (q 2) s2), (wSet cy (q 3) s3)]) hK0 hS hAB hP hD [2, 1, 3, 4, 5, 6] (by decide) rfl rfl⟩ rfl rfl hl.1 rfl (lv_room (Nat.le_of_ble_eq_true rfl)) dX7_undo_26 ⟨Nat.le_of_ble_eq_true rfl, Nat.le_of_ble_eq_true rfl⟩) hS hP hD [2, 1, 3, 4, 5, 6] rfl rfl (fun _ => rfl) (fun _ => by simp only [List.map_cons, List.map_nil, adrSet, adrSetE, adrPow, adrPowE, adrTxt, adrTxtE, adrSav, adrSavE, adrPCo, adrMod, adrModE]) (fun _ => rfl) (fun u_3 H locs hw_4 hP hD hS => ?_)
    refine lv_aload_n hx hb dX7_undo_29 rfl (lv_at hl 0 rfl) ?_
    refine lv_iconst (v := 1) hx hb dX7_undo_30 (by decide) ?_
    refine va_put (D := D) (ci := 5) (v := .int 1) (ty := .boolean) (C := RX7) (T := TX7) (N := 7) hx hb hts inX7 tyX7 tyX7_ok nmX7 hown hK0.1 hP hD hS 0 rfl rfl 2 (by decide) (hts (.fieldLink RX7 23 "PivotChamber" "stale" "Z") (List.mem_of_getElem? (i := 3) rfl)) (fun _ h9 => h9) rfl (by decide +kernel) (by decide) (by decide) (Nat.le_of_ble_eq_true rfl) dX7_undo_31 (fun H locs hP hD hS => ?_)
    have hP : va_P D vwCl (List.flatten [(wPCo p70 b7 c7 d7 e7 h7 k7 1), (wSet cy b7 u_3.2), (wSav cy q h7 u_3.1), (wSet cy (q 0) s0), (wSet cy (q 1) s1), (wSet cy (q 2) s2), (wSet cy (q 3) s3)]) H := hP
    have hD : va_D A (List.flatten [(wPCo p70 b7 c7 d7 e7 h7 k7 1), (wSet cy b7 u_3.2), (wSav cy q h7 u_3.1), (wSet cy (q 0) s0), (wSet cy (q 1) s1), (wSet cy (q 2) s2), (wSet cy (q 3) s3)]) := hD
    refine lv_aload_n hx hb dX7_undo_34 rfl (lv_at hl 0 rfl) ?_
    refine va_get (D := D) (ci := 5) (v := .ref (h7 0)) (C := RX7) (T := TX7) (N := 7) hx hb hts inX7 hown hK0.1 hP 0 rfl rfl 5 (by decide) (hts (.fieldLink RX7 36 "PivotChamber" "saved" "LPivotChamber$SavedSettings;") (List.mem_of_getElem? (i := 1) rfl)) (fun _ h9 => h9) rfl dX7_undo_35 ?_
    refine va_getN (D := D) (ci := 3) (v := .int u_3.1.1) (C := RX5) (T := TX5) (N := 3) (host := "PivotChamber") hx hb hts inX5 hown hK0.1 hP 10 rfl rfl 1 (by decide) (va_Nw.use rfl (hK0.2.1.1.f 6 rfl)) (fun _ h9 => h9) rfl dX7_undo_38 ?_
    refine vx_ret ?_
    exact W.iret hx hb hr (fun t ht hW => ⟨⟨u_3.1.1, (1, u_3.2, u_3.1, s0, s1, s2, s3), rfl, (show f_X7_undo st v z s0 s1 s2 s3 = (.inr (u_3.1.1, (1, u_3.2, u_3.1, s0, s1, s2, s3))) from by rw [f_X7_undo, if_neg c_1, my_rf_ok hrf_2, hw_4, my_l_eq]), by show va_P D vwCl _ t.heap; rw [ht]; exact hP⟩, hS.F ht⟩) hS.2.2 dX7_undo_41
  · refine lv_iconst (v := 3) hx hb dX7_undo_10 (by decide) ?_
    refine lv_goto (tgt := 15) hx hb dX7_undo_11 (by decide) ?_
    refine my_rfx (vx_runS (As := [.int 3]) (rest := []) S (c_X7_refuse l hl0 D cy g B 3) (va_cwS 1 hts gX7_undo_X7_refuse rfl rfl rfl hd_X7_refuse_S ⟨Nat.le_of_ble_eq_true rfl, Nat.le_of_ble_eq_true rfl⟩) ⟨rdP_blind, my_preV hK0 hS hAB hP [] rfl⟩ rfl rfl hl.1 rfl (lv_room (Nat.le_of_ble_eq_true rfl)) dX7_undo_15 ⟨Nat.le_of_ble_eq_true rfl, Nat.le_of_ble_eq_true rfl⟩) hS hP hout hlocks (fun _ h => h) (Nat.le_of_ble_eq_true rfl) (Nat.le_of_ble_eq_true rfl) (fun hrf_5 E t h1 h2 h3 => ⟨3, (show f_X7_undo st v z s0 s1 s2 s3 = .inl 3 from by rw [f_X7_undo, if_pos c_1, my_rf_no hrf_5]), ⟨h1, h2⟩, h3⟩) (fun hrf_5 H locs hP hS => ?_)
    have hP : va_P D vwCl (List.flatten [(wPCo p70 b7 c7 d7 e7 h7 k7 st), (wSet cy b7 v), (wSav cy q h7 z), (wSet cy (q 0) s0), (wSet cy (q 1) s1), (wSet cy (q 2) s2), (wSet cy (q 3) s3)]) H := hP
    refine lv_aload_n hx hb dX7_undo_18 rfl (lv_at hl 0 rfl) ?_
    refine va_get (D := D) (ci := 5) (v := .ref (h7 0)) (C := RX7) (T := TX7) (N := 7) hx hb hts inX7 hown hK0.1 hP 0 rfl rfl 5 (by decide) (hts (.fieldLink RX7 36 "PivotChamber" "saved" "LPivotChamber$SavedSettings;") (List.mem_of_getElem? (i := 1) rfl)) (fun _ h9 => h9) rfl dX7_undo_19 ?_
    refine lv_aload_n hx hb dX7_undo_22 rfl (lv_at hl 0 rfl) ?_
    refine va_get (D := D) (ci := 5) (v := .ref (b7 0)) (C := RX7) (T := TX7) (N := 7) hx hb hts inX7 hown hK0.1 hP 0 rfl rfl 0 (by decide) (hts (.fieldLink RX7 10 "PivotChamber" "setting" "LPivotChamber$Setting;") (List.mem_of_getElem? (i := 2) rfl)) (fun _ h9 => h9) rfl dX7_undo_23 ?_
    refine mu_compv (wcs := [(wSav cy q h7 z), (wSet cy b7 v), (wSet cy (q 0) s0), (wSet cy (q 1) s1), (wSet cy (q 2) s2), (wSet cy (q 3) s3)]) (wns := fun (u_6 : (Int32 × Int32) × SetV) => [(wSav cy q h7 u_6.1), (wSet cy b7 u_6.2), (wSet cy (q 0) s0), (wSet cy (q 1) s1), (wSet cy (q 2) s2), (wSet cy (q 3) s3)]) (W2 := fun (u_6 : (Int32 × Int32) × SetV) => [(wPCo p70 b7 c7 d7 e7 h7 k7 st), (wSet cy b7 u_6.2), (wSav cy q h7 u_6.1), (wSet cy (q 0) s0), (wSet cy (q 1) s1), (wSet cy (q 2) s2), (wSet cy (q 3) s3)]) (va_runV (C := RX5) (As := [.ref (b7 0)]) (rest := []) S (c_X5_giveBack l D cy g B h7 q b7 z v s0 s1 s2 s3) (cwV 1 hts gX7_undo_X5_giveBack rfl rfl rfl hd_X5_giveBack_V ⟨Nat.le_of_ble_eq_true rfl, Nat.le_of_ble_eq_true rfl⟩) ⟨muP_blind, va_recv hK0.1 hP (ci := 3) (q0 := 10) rfl rfl, my_preC (wcs := [(wSav cy q h7 z), (wSet cy b7 v), (wSet cy (q 0) s0), (wSet cy (q 1) s1), (wSet cy (q 2) s2), (wSet cy (q 3) s3)]) hK0 hS hAB hP hD [2, 1, 3, 4, 5, 6] (by decide) rfl rfl⟩ rfl rfl hl.1 rfl (lv_room (Nat.le_of_ble_eq_true rfl)) dX7_undo_26 ⟨Nat.le_of_ble_eq_true rfl, Nat.le_of_ble_eq_true rfl⟩) hS hP hD [2, 1, 3, 4, 5, 6] rfl rfl (fun _ => rfl) (fun _ => by simp only [List.map_cons, List.map_nil, adrSet, adrSetE, adrPow, adrPowE, adrTxt, adrTxtE, adrSav, adrSavE, adrPCo, adrMod, adrModE]) (fun _ => rfl) (fun u_6 H locs hw_7 hP hD hS => ?_)
    refine lv_aload_n hx hb dX7_undo_29 rfl (lv_at hl 0 rfl) ?_
    refine lv_iconst (v := 1) hx hb dX7_undo_30 (by decide) ?_
    refine va_put (D := D) (ci := 5) (v := .int 1) (ty := .boolean) (C := RX7) (T := TX7) (N := 7) hx hb hts inX7 tyX7 tyX7_ok nmX7 hown hK0.1 hP hD hS 0 rfl rfl 2 (by decide) (hts (.fieldLink RX7 23 "PivotChamber" "stale" "Z") (List.mem_of_getElem? (i := 3) rfl)) (fun _ h9 => h9) rfl (by decide +kernel) (by decide) (by decide) (Nat.le_of_ble_eq_true rfl) dX7_undo_31 (fun H locs hP hD hS => ?_)
    have hP : va_P D vwCl (List.flatten [(wPCo p70 b7 c7 d7 e7 h7 k7 1), (wSet cy b7 u_6.2), (wSav cy q h7 u_6.1), (wSet cy (q 0) s0), (wSet cy (q 1) s1), (wSet cy (q 2) s2), (wSet cy (q 3) s3)]) H := hP
    have hD : va_D A (List.flatten [(wPCo p70 b7 c7 d7 e7 h7 k7 1), (wSet cy b7 u_6.2), (wSav cy q h7 u_6.1), (wSet cy (q 0) s0), (wSet cy (q 1) s1), (wSet cy (q 2) s2), (wSet cy (q 3) s3)]) := hD
    refine lv_aload_n hx hb dX7_undo_34 rfl (lv_at hl 0 rfl) ?_
    refine va_get (D := D) (ci := 5) (v := .ref (h7 0)) (C := RX7) (T := TX7) (N := 7) hx hb hts inX7 hown hK0.1 hP 0 rfl rfl 5 (by decide) (hts (.fieldLink RX7 36 "PivotChamber" "saved" "LPivotChamber$SavedSettings;") (List.mem_of_getElem? (i := 1) rfl)) (fun _ h9 => h9) rfl dX7_undo_35 ?_
    refine va_getN (D := D) (ci := 3) (v := .int u_6.1.1) (C := RX5) (T := TX5) (N := 3) (host := "PivotChamber") hx hb hts inX5 hown hK0.1 hP 10 rfl rfl 1 (by decide) (va_Nw.use rfl (hK0.2.1.1.f 6 rfl)) (fun _ h9 => h9) rfl dX7_undo_38 ?_
    refine vx_ret ?_
    exact W.iret hx hb hr (fun t ht hW => ⟨⟨u_6.1.1, (1, u_6.2, u_6.1, s0, s1, s2, s3), rfl, (show f_X7_undo st v z s0 s1 s2 s3 = (.inr (u_6.1.1, (1, u_6.2, u_6.1, s0, s1, s2, s3))) from by rw [f_X7_undo, if_pos c_1, my_rf_ok hrf_5, hw_7, my_l_eq]), by show va_P D vwCl _ t.heap; rw [ht]; exact hP⟩, hS.F ht⟩) hS.2.2 dX7_undo_41
