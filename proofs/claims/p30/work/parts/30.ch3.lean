theorem hd_X7_member_S : yX7_member.cls ≠ "java/lang/invoke/MethodHandle" ∧ yX7_member.cls ≠ "java/lang/invoke/VarHandle" ∧ (parseMethodDescriptor yX7_member.desc).map (fun d => d.parameters.length) = some 2 := by decide +kernel
theorem hd_X7_member_V : yX7_member.cls = RX7 ∧ yX7_member.cls ≠ "java/lang/invoke/MethodHandle" ∧ yX7_member.cls ≠ "java/lang/invoke/VarHandle" ∧ (parseMethodDescriptor yX7_member.desc).map (fun d => d.parameters.length) = some 2 := ⟨rfl, hd_X7_member_S⟩
def f_X7_member (st : Int32) (v : SetV) (w : PowV) (x0 : Int32) (x1 : Int32) : Int32 ⊕ (Int32 × (Int32 × PowV)) := (my_rf (f_X6_faultOfMember v x0) (my_rf (f_X7_faultOfRange x1 0 7) (my_l (f_X7_measured st v w) (fun (u_3 : Int32 × PowV) => (.inr ((f_X7_memberValue u_3.1 v u_3.2 x0 x1), (u_3.1, u_3.2)))))))
set_option maxHeartbeats 400000 in
set_option maxRecDepth 100000 in
theorem c_X7_member (l : Launch) (hl0 : l.stackTraces = false) (D : va_G) (cy : Nat → ClassId) (g : Nat → Nat) (B : Nat) (p70 : Nat) (b7 : Nat → Nat) (c7 : Nat → Nat) (d7 : Nat → Nat) (e7 : Nat → Nat) (h7 : Nat → Nat) (k7 : Nat → Nat) (st : Int32) (v : SetV) (w : PowV) (x0 : Int32) (x1 : Int32) : vx_Met l yX7_member wsX7_member ({ frames := 7, cells := 2, slots := 12, locals := 132 }) (muP D cy g B (List.flatten [(wPCo p70 b7 c7 d7 e7 h7 k7 st), (wSet cy b7 v), (wPow cy c7 w)]) [.ref p70, .int x0, .int x1]) (va_Qi (fun (r : Int32) (u : Int32 × PowV) => f_X7_member st v w x0 x1 = .inr (r, u)) (fun u t => va_P D vwCl (List.flatten [(wPCo p70 b7 c7 d7 e7 h7 k7 u.1), (wSet cy b7 v), (wPow cy c7 u.2)]) t.heap) (muA (List.flatten [(wPCo p70 b7 c7 d7 e7 h7 k7 st), (wSet cy b7 v), (wPow cy c7 w)]))) (vx_X (fun (k : Int32) => f_X7_member st v w x0 x1 = .inl k) (fun E k t => exE k E ∧ va_P D vwCl (List.flatten [(wPCo p70 b7 c7 d7 e7 h7 k7 st), (wSet cy b7 v), (wPow cy c7 w)]) t.heap) (muA (List.flatten [(wPCo p70 b7 c7 d7 e7 h7 k7 st), (wSet cy b7 v), (wPow cy c7 w)]))) 2 12 (muA (List.flatten [(wPCo p70 b7 c7 d7 e7 h7 k7 st), (wSet cy b7 v), (wPow cy c7 w)])) := by
  refine vx_ofW (cc := cX7_member) (maxL := 3) (ret := (some .int)) (by decide) rfl ?_
  intro p e s m args below meth c s₁ BB hml hout hv
  obtain ⟨rfl, hP, hK0, hD0⟩ := hv
  have hx := BB.exec
  have hb := BB.bytes
  have hr := BB.returns
  have hts := atoms_spec (ws := wsX7_member) BB.pre
  have hown : s.vm.findClass RX7 = some m.cls := findClass_of_methodNamed BB.named
  have hlocks := BB.notSynchronized
  have S := my_fix hx hb hml hown hts
  have inX7 : ∀ w ∈ wsX70, w ∈ wsX7_member := fun w h => List.mem_cons_of_mem _ (List.mem_append_left _ (List.mem_append_left _ (List.mem_append_left _ (List.mem_append_left _ (List.mem_append_left _ (List.mem_append_left _ (List.mem_append_right _ h)))))))
  have hAB := muB hD0
  have hD := muD hD0
  generalize hAe : muA (List.flatten [(wPCo p70 b7 c7 d7 e7 h7 k7 st), (wSet cy b7 v), (wPow cy c7 w)]) = A at hAB hD ⊢
  have hS : va_S A s.heap s.heap [] := va_S.rf
  have hl := lv_entry ([.ref p70, .int x0, .int x1]) (n := 3) (Nat.le_of_ble_eq_true rfl)
  rw [lg_entry_eq]
  generalize (lg_sl ([.ref p70, .int x0, .int x1]) ++ List.replicate (3 - (lg_sl ([.ref p70, .int x0, .int x1])).length) Slot.unset).toArray = ls at hl ⊢
  have hl : lv_has ls 3 [(0, .ref p70), (1, .int x0), (2, .int x1)] := hl
  refine lv_aload_n hx hb dX7_member_0 rfl (lv_at hl 0 rfl) ?_
  refine va_get (D := D) (ci := 5) (v := .ref (b7 0)) (C := RX7) (T := TX7) (N := 7) hx hb hts inX7 hown hK0.1 hP 0 rfl rfl 0 (by decide) (hts (.fieldLink RX7 10 "PivotChamber" "setting" "LPivotChamber$Setting;") (List.mem_of_getElem? (i := 1) rfl)) (fun _ h9 => h9) rfl dX7_member_1 ?_
  refine lv_iload_n hx hb dX7_member_4 rfl (lv_at hl 1 rfl) ?_
  refine rd_goi (va_runV (C := RX6) (As := [.int x0]) (rest := []) S (c_X6_faultOfMember l D cy g B b7 v x0) (cwV 1 hts gX7_member_X6_faultOfMember rfl rfl rfl hd_X6_faultOfMember_V ⟨Nat.le_of_ble_eq_true rfl, Nat.le_of_ble_eq_true rfl⟩) ⟨rdP_blind, va_recv hK0.1 hP (ci := 4) (q0 := 1) rfl rfl, my_preP hK0 hS hAB (my_cP hP 1 rfl)⟩ rfl rfl hl.1 rfl (lv_room (Nat.le_of_ble_eq_true rfl)) dX7_member_5 ⟨Nat.le_of_ble_eq_true rfl, Nat.le_of_ble_eq_true rfl⟩) ?_
  refine my_rfx (vx_runS (As := [.int (f_X6_faultOfMember v x0)]) (rest := []) S (c_X7_refuse l hl0 D cy g B (f_X6_faultOfMember v x0)) (va_cwS 1 hts gX7_member_X7_refuse rfl rfl rfl hd_X7_refuse_S ⟨Nat.le_of_ble_eq_true rfl, Nat.le_of_ble_eq_true rfl⟩) ⟨rdP_blind, my_preV hK0 hS hAB hP [] rfl⟩ rfl rfl hl.1 rfl (lv_room (Nat.le_of_ble_eq_true rfl)) dX7_member_8 ⟨Nat.le_of_ble_eq_true rfl, Nat.le_of_ble_eq_true rfl⟩) hS hP hout hlocks (fun _ h => h) (Nat.le_of_ble_eq_true rfl) (Nat.le_of_ble_eq_true rfl) (fun hrf_1 E t h1 h2 h3 => ⟨(f_X6_faultOfMember v x0), (show f_X7_member st v w x0 x1 = .inl (f_X6_faultOfMember v x0) from by rw [f_X7_member, my_rf_no hrf_1]), ⟨h1, h2⟩, h3⟩) (fun hrf_1 H locs hP hS => ?_)
  have hP : va_P D vwCl (List.flatten [(wPCo p70 b7 c7 d7 e7 h7 k7 st), (wSet cy b7 v), (wPow cy c7 w)]) H := hP
  refine lv_iload_n hx hb dX7_member_11 rfl (lv_at hl 2 rfl) ?_
  refine lv_iconst (v := 0) hx hb dX7_member_12 (by decide) ?_
  refine lv_bipush (v := 7) hx hb dX7_member_13 (by decide) ?_
  refine rd_goi (va_runS (As := [.int x1, .int 0, .int 7]) (rest := []) S (c_X7_faultOfRange l D cy g B x1 0 7) (va_cwS 3 hts gX7_member_X7_faultOfRange rfl rfl rfl hd_X7_faultOfRange_S ⟨Nat.le_of_ble_eq_true rfl, Nat.le_of_ble_eq_true rfl⟩) ⟨rdP_blind, my_preV hK0 hS hAB hP [] rfl⟩ rfl rfl hl.1 rfl (lv_room (Nat.le_of_ble_eq_true rfl)) dX7_member_15 ⟨Nat.le_of_ble_eq_true rfl, Nat.le_of_ble_eq_true rfl⟩) ?_
  refine my_rfx (vx_runS (As := [.int (f_X7_faultOfRange x1 0 7)]) (rest := []) S (c_X7_refuse l hl0 D cy g B (f_X7_faultOfRange x1 0 7)) (va_cwS 1 hts gX7_member_X7_refuse rfl rfl rfl hd_X7_refuse_S ⟨Nat.le_of_ble_eq_true rfl, Nat.le_of_ble_eq_true rfl⟩) ⟨rdP_blind, my_preV hK0 hS hAB hP [] rfl⟩ rfl rfl hl.1 rfl (lv_room (Nat.le_of_ble_eq_true rfl)) dX7_member_18 ⟨Nat.le_of_ble_eq_true rfl, Nat.le_of_ble_eq_true rfl⟩) hS hP hout hlocks (fun _ h => h) (Nat.le_of_ble_eq_true rfl) (Nat.le_of_ble_eq_true rfl) (fun hrf_2 E t h1 h2 h3 => ⟨(f_X7_faultOfRange x1 0 7), (show f_X7_member st v w x0 x1 = .inl (f_X7_faultOfRange x1 0 7) from by rw [f_X7_member, my_rf_ok hrf_1, my_rf_no hrf_2]), ⟨h1, h2⟩, h3⟩) (fun hrf_2 H locs hP hS => ?_)
  have hP : va_P D vwCl (List.flatten [(wPCo p70 b7 c7 d7 e7 h7 k7 st), (wSet cy b7 v), (wPow cy c7 w)]) H := hP
  refine lv_aload_n hx hb dX7_member_21 rfl (lv_at hl 0 rfl) ?_
  refine lv_aload_n hx hb dX7_member_22 rfl (lv_at hl 0 rfl) ?_
  refine mu_allr (wf := fun (u_3 : Int32 × PowV) => (List.flatten [(wPCo p70 b7 c7 d7 e7 h7 k7 u_3.1), (wSet cy b7 v), (wPow cy c7 u_3.2)])) (va_runV (C := RX7) (As := []) (rest := [.ref p70]) S (c_X7_measured l D cy g B p70 b7 c7 d7 e7 h7 k7 st v w) (cwV 0 hts gX7_member_X7_measured rfl rfl rfl hd_X7_measured_V ⟨Nat.le_of_ble_eq_true rfl, Nat.le_of_ble_eq_true rfl⟩) ⟨muP_blind, va_recv hK0.1 hP (ci := 5) (q0 := 0) rfl rfl, my_preA hK0 hS hAB hP hD⟩ rfl rfl hl.1 rfl (lv_room (Nat.le_of_ble_eq_true rfl)) dX7_member_23 ⟨Nat.le_of_ble_eq_true rfl, Nat.le_of_ble_eq_true rfl⟩) hS hD (fun _ => my_flat_adr (by simp only [List.map_cons, List.map_nil, adrSet, adrSetE, adrPow, adrPowE, adrTxt, adrTxtE, adrSav, adrSavE, adrPCo, adrI, adrL])) (fun u_3 H locs hw_4 hP hD hS => ?_)
  refine lv_iload_n hx hb dX7_member_26 rfl (lv_at hl 1 rfl) ?_
  refine lv_iload_n hx hb dX7_member_27 rfl (lv_at hl 2 rfl) ?_
  refine rd_goi (va_runV (C := RX7) (As := [.ref (c7 0), .int x0, .int x1]) (rest := []) S (c_X7_memberValue l D cy g B p70 b7 c7 d7 e7 h7 k7 u_3.1 v u_3.2 x0 x1) (cwV 3 hts gX7_member_X7_memberValue rfl rfl rfl hd_X7_memberValue_V ⟨Nat.le_of_ble_eq_true rfl, Nat.le_of_ble_eq_true rfl⟩) ⟨rdP_blind, va_recv hK0.1 hP (ci := 5) (q0 := 0) rfl rfl, my_preP hK0 hS hAB hP⟩ rfl rfl hl.1 rfl (lv_room (Nat.le_of_ble_eq_true rfl)) dX7_member_28 ⟨Nat.le_of_ble_eq_true rfl, Nat.le_of_ble_eq_true rfl⟩) ?_
  refine vx_ret ?_
  exact W.iret hx hb hr (fun t ht hW => ⟨⟨(f_X7_memberValue u_3.1 v u_3.2 x0 x1), (u_3.1, u_3.2), rfl, (show f_X7_member st v w x0 x1 = (.inr ((f_X7_memberValue u_3.1 v u_3.2 x0 x1), (u_3.1, u_3.2))) from by rw [f_X7_member, my_rf_ok hrf_1, my_rf_ok hrf_2, hw_4, my_l_eq]), by show va_P D vwCl _ t.heap; rw [ht]; exact hP⟩, hS.F ht⟩) hS.2.2 dX7_member_31
theorem hd_X7_rule_S : yX7_rule.cls ≠ "java/lang/invoke/MethodHandle" ∧ yX7_rule.cls ≠ "java/lang/invoke/VarHandle" ∧ (parseMethodDescriptor yX7_rule.desc).map (fun d => d.parameters.length) = some 2 := by decide +kernel
theorem hd_X7_rule_V : yX7_rule.cls = RX7 ∧ yX7_rule.cls ≠ "java/lang/invoke/MethodHandle" ∧ yX7_rule.cls ≠ "java/lang/invoke/VarHandle" ∧ (parseMethodDescriptor yX7_rule.desc).map (fun d => d.parameters.length) = some 2 := ⟨rfl, hd_X7_rule_S⟩
def f_X7_rule (st : Int32) (v : SetV) (x0 : Int32) (x1 : Int32) : Int32 ⊕ (Int32 × Int32) := (my_rf (f_X6_faultOfRule v x0) (my_rf (f_X7_faultOfRange x1 0 2) (.inr ((f_X6_ruleValue v x0 x1), st))))
set_option maxHeartbeats 400000 in
set_option maxRecDepth 100000 in
theorem c_X7_rule (l : Launch) (hl0 : l.stackTraces = false) (D : va_G) (cy : Nat → ClassId) (g : Nat → Nat) (B : Nat) (p70 : Nat) (b7 : Nat → Nat) (c7 : Nat → Nat) (d7 : Nat → Nat) (e7 : Nat → Nat) (h7 : Nat → Nat) (k7 : Nat → Nat) (st : Int32) (v : SetV) (x0 : Int32) (x1 : Int32) : vx_Met l yX7_rule wsX7_rule ({ frames := 7, cells := 2, slots := 12, locals := 110 }) (muP D cy g B (List.flatten [(wPCo p70 b7 c7 d7 e7 h7 k7 st), (wSet cy b7 v)]) [.ref p70, .int x0, .int x1]) (va_Qi (fun (r : Int32) (u : Int32) => f_X7_rule st v x0 x1 = .inr (r, u)) (fun u t => va_P D vwCl (List.flatten [(wPCo p70 b7 c7 d7 e7 h7 k7 u), (wSet cy b7 v)]) t.heap) (muA (List.flatten [(wPCo p70 b7 c7 d7 e7 h7 k7 st), (wSet cy b7 v)]))) (vx_X (fun (k : Int32) => f_X7_rule st v x0 x1 = .inl k) (fun E k t => exE k E ∧ va_P D vwCl (List.flatten [(wPCo p70 b7 c7 d7 e7 h7 k7 st), (wSet cy b7 v)]) t.heap) (muA (List.flatten [(wPCo p70 b7 c7 d7 e7 h7 k7 st), (wSet cy b7 v)]))) 2 12 (muA (List.flatten [(wPCo p70 b7 c7 d7 e7 h7 k7 st), (wSet cy b7 v)])) := by
  refine vx_ofW (cc := cX7_rule) (maxL := 3) (ret := (some .int)) (by decide) rfl ?_
  intro p e s m args below meth c s₁ BB hml hout hv
  obtain ⟨rfl, hP, hK0, hD0⟩ := hv
  have hx := BB.exec
  have hb := BB.bytes
  have hr := BB.returns
  have hts := atoms_spec (ws := wsX7_rule) BB.pre
  have hown : s.vm.findClass RX7 = some m.cls := findClass_of_methodNamed BB.named
  have hlocks := BB.notSynchronized
  have S := my_fix hx hb hml hown hts
  have inX7 : ∀ w ∈ wsX70, w ∈ wsX7_rule := fun w h => List.mem_cons_of_mem _ (List.mem_append_left _ (List.mem_append_left _ (List.mem_append_left _ (List.mem_append_left _ (List.mem_append_left _ (List.mem_append_right _ h))))))
  have hAB := muB hD0
  have hD := muD hD0
  generalize hAe : muA (List.flatten [(wPCo p70 b7 c7 d7 e7 h7 k7 st), (wSet cy b7 v)]) = A at hAB hD ⊢
  have hS : va_S A s.heap s.heap [] := va_S.rf
  have hl := lv_entry ([.ref p70, .int x0, .int x1]) (n := 3) (Nat.le_of_ble_eq_true rfl)
  rw [lg_entry_eq]
  generalize (lg_sl ([.ref p70, .int x0, .int x1]) ++ List.replicate (3 - (lg_sl ([.ref p70, .int x0, .int x1])).length) Slot.unset).toArray = ls at hl ⊢
  have hl : lv_has ls 3 [(0, .ref p70), (1, .int x0), (2, .int x1)] := hl
  refine lv_aload_n hx hb dX7_rule_0 rfl (lv_at hl 0 rfl) ?_
  refine va_get (D := D) (ci := 5) (v := .ref (b7 0)) (C := RX7) (T := TX7) (N := 7) hx hb hts inX7 hown hK0.1 hP 0 rfl rfl 0 (by decide) (hts (.fieldLink RX7 10 "PivotChamber" "setting" "LPivotChamber$Setting;") (List.mem_of_getElem? (i := 1) rfl)) (fun _ h9 => h9) rfl dX7_rule_1 ?_
  refine lv_iload_n hx hb dX7_rule_4 rfl (lv_at hl 1 rfl) ?_
  refine rd_goi (va_runV (C := RX6) (As := [.int x0]) (rest := []) S (c_X6_faultOfRule l D cy g B b7 v x0) (cwV 1 hts gX7_rule_X6_faultOfRule rfl rfl rfl hd_X6_faultOfRule_V ⟨Nat.le_of_ble_eq_true rfl, Nat.le_of_ble_eq_true rfl⟩) ⟨rdP_blind, va_recv hK0.1 hP (ci := 4) (q0 := 1) rfl rfl, my_preP hK0 hS hAB (my_cP hP 1 rfl)⟩ rfl rfl hl.1 rfl (lv_room (Nat.le_of_ble_eq_true rfl)) dX7_rule_5 ⟨Nat.le_of_ble_eq_true rfl, Nat.le_of_ble_eq_true rfl⟩) ?_
  refine my_rfx (vx_runS (As := [.int (f_X6_faultOfRule v x0)]) (rest := []) S (c_X7_refuse l hl0 D cy g B (f_X6_faultOfRule v x0)) (va_cwS 1 hts gX7_rule_X7_refuse rfl rfl rfl hd_X7_refuse_S ⟨Nat.le_of_ble_eq_true rfl, Nat.le_of_ble_eq_true rfl⟩) ⟨rdP_blind, my_preV hK0 hS hAB hP [] rfl⟩ rfl rfl hl.1 rfl (lv_room (Nat.le_of_ble_eq_true rfl)) dX7_rule_8 ⟨Nat.le_of_ble_eq_true rfl, Nat.le_of_ble_eq_true rfl⟩) hS hP hout hlocks (fun _ h => h) (Nat.le_of_ble_eq_true rfl) (Nat.le_of_ble_eq_true rfl) (fun hrf_1 E t h1 h2 h3 => ⟨(f_X6_faultOfRule v x0), (show f_X7_rule st v x0 x1 = .inl (f_X6_faultOfRule v x0) from by rw [f_X7_rule, my_rf_no hrf_1]), ⟨h1, h2⟩, h3⟩) (fun hrf_1 H locs hP hS => ?_)
  have hP : va_P D vwCl (List.flatten [(wPCo p70 b7 c7 d7 e7 h7 k7 st), (wSet cy b7 v)]) H := hP
  refine lv_iload_n hx hb dX7_rule_11 rfl (lv_at hl 2 rfl) ?_
  refine lv_iconst (v := 0) hx hb dX7_rule_12 (by decide) ?_
  refine lv_iconst (v := 2) hx hb dX7_rule_13 (by decide) ?_
  refine rd_goi (va_runS (As := [.int x1, .int 0, .int 2]) (rest := []) S (c_X7_faultOfRange l D cy g B x1 0 2) (va_cwS 3 hts gX7_rule_X7_faultOfRange rfl rfl rfl hd_X7_faultOfRange_S ⟨Nat.le_of_ble_eq_true rfl, Nat.le_of_ble_eq_true rfl⟩) ⟨rdP_blind, my_preV hK0 hS hAB hP [] rfl⟩ rfl rfl hl.1 rfl (lv_room (Nat.le_of_ble_eq_true rfl)) dX7_rule_14 ⟨Nat.le_of_ble_eq_true rfl, Nat.le_of_ble_eq_true rfl⟩) ?_
  refine my_rfx (vx_runS (As := [.int (f_X7_faultOfRange x1 0 2)]) (rest := []) S (c_X7_refuse l hl0 D cy g B (f_X7_faultOfRange x1 0 2)) (va_cwS 1 hts gX7_rule_X7_refuse rfl rfl rfl hd_X7_refuse_S ⟨Nat.le_of_ble_eq_true rfl, Nat.le_of_ble_eq_true rfl⟩) ⟨rdP_blind, my_preV hK0 hS hAB hP [] rfl⟩ rfl rfl hl.1 rfl (lv_room (Nat.le_of_ble_eq_true rfl)) dX7_rule_17 ⟨Nat.le_of_ble_eq_true rfl, Nat.le_of_ble_eq_true rfl⟩) hS hP hout hlocks (fun _ h => h) (Nat.le_of_ble_eq_true rfl) (Nat.le_of_ble_eq_true rfl) (fun hrf_2 E t h1 h2 h3 => ⟨(f_X7_faultOfRange x1 0 2), (show f_X7_rule st v x0 x1 = .inl (f_X7_faultOfRange x1 0 2) from by rw [f_X7_rule, my_rf_ok hrf_1, my_rf_no hrf_2]), ⟨h1, h2⟩, h3⟩) (fun hrf_2 H locs hP hS => ?_)
  have hP : va_P D vwCl (List.flatten [(wPCo p70 b7 c7 d7 e7 h7 k7 st), (wSet cy b7 v)]) H := hP
  refine lv_aload_n hx hb dX7_rule_20 rfl (lv_at hl 0 rfl) ?_
  refine va_get (D := D) (ci := 5) (v := .ref (b7 0)) (C := RX7) (T := TX7) (N := 7) hx hb hts inX7 hown hK0.1 hP 0 rfl rfl 0 (by decide) (hts (.fieldLink RX7 10 "PivotChamber" "setting" "LPivotChamber$Setting;") (List.mem_of_getElem? (i := 1) rfl)) (fun _ h9 => h9) rfl dX7_rule_21 ?_
  refine lv_iload_n hx hb dX7_rule_24 rfl (lv_at hl 1 rfl) ?_
  refine lv_iload_n hx hb dX7_rule_25 rfl (lv_at hl 2 rfl) ?_
  refine rd_goi (va_runV (C := RX6) (As := [.int x0, .int x1]) (rest := []) S (c_X6_ruleValue l D cy g B b7 v x0 x1) (cwV 2 hts gX7_rule_X6_ruleValue rfl rfl rfl hd_X6_ruleValue_V ⟨Nat.le_of_ble_eq_true rfl, Nat.le_of_ble_eq_true rfl⟩) ⟨rdP_blind, va_recv hK0.1 hP (ci := 4) (q0 := 1) rfl rfl, my_preP hK0 hS hAB (my_cP hP 1 rfl)⟩ rfl rfl hl.1 rfl (lv_room (Nat.le_of_ble_eq_true rfl)) dX7_rule_26 ⟨Nat.le_of_ble_eq_true rfl, Nat.le_of_ble_eq_true rfl⟩) ?_
  refine vx_ret ?_
  exact W.iret hx hb hr (fun t ht hW => ⟨⟨(f_X6_ruleValue v x0 x1), st, rfl, (show f_X7_rule st v x0 x1 = (.inr ((f_X6_ruleValue v x0 x1), st)) from by rw [f_X7_rule, my_rf_ok hrf_1, my_rf_ok hrf_2]), by show va_P D vwCl _ t.heap; rw [ht]; exact hP⟩, hS.F ht⟩) hS.2.2 dX7_rule_29
theorem hd_X7_whole_S : yX7_whole.cls ≠ "java/lang/invoke/MethodHandle" ∧ yX7_whole.cls ≠ "java/lang/invoke/VarHandle" ∧ (parseMethodDescriptor yX7_whole.desc).map (fun d => d.parameters.length) = some 1 := by decide +kernel
theorem hd_X7_whole_V : yX7_whole.cls = RX7 ∧ yX7_whole.cls ≠ "java/lang/invoke/MethodHandle" ∧ yX7_whole.cls ≠ "java/lang/invoke/VarHandle" ∧ (parseMethodDescriptor yX7_whole.desc).map (fun d => d.parameters.length) = some 1 := ⟨rfl, hd_X7_whole_S⟩
def f_X7_whole (st : Int32) (v : SetV) (w : PowV) (tx : TxtV) (x0 : Int32) : Int32 ⊕ (Int32 × (Int32 × PowV)) := (my_rf (f_X7_faultOfRange x0 0 11) (my_l (f_X7_measured st v w) (fun (u_2 : Int32 × PowV) => (.inr ((f_X7_wholeValue u_2.1 v u_2.2 tx x0), (u_2.1, u_2.2))))))
set_option maxHeartbeats 400000 in
set_option maxRecDepth 100000 in
theorem c_X7_whole (l : Launch) (hl0 : l.stackTraces = false) (D : va_G) (cy : Nat → ClassId) (g : Nat → Nat) (B : Nat) (p70 : Nat) (b7 : Nat → Nat) (c7 : Nat → Nat) (d7 : Nat → Nat) (e7 : Nat → Nat) (h7 : Nat → Nat) (k7 : Nat → Nat) (st : Int32) (v : SetV) (w : PowV) (tx : TxtV) (x0 : Int32) : vx_Met l yX7_whole wsX7_whole ({ frames := 7, cells := 1, slots := 6, locals := 132 }) (muP D cy g B (List.flatten [(wPCo p70 b7 c7 d7 e7 h7 k7 st), (wSet cy b7 v), (wPow cy c7 w), (wTxt cy g k7 tx)]) [.ref p70, .int x0]) (va_Qi (fun (r : Int32) (u : Int32 × PowV) => f_X7_whole st v w tx x0 = .inr (r, u)) (fun u t => va_P D vwCl (List.flatten [(wPCo p70 b7 c7 d7 e7 h7 k7 u.1), (wSet cy b7 v), (wPow cy c7 u.2), (wTxt cy g k7 tx)]) t.heap) (muA (List.flatten [(wPCo p70 b7 c7 d7 e7 h7 k7 st), (wSet cy b7 v), (wPow cy c7 w), (wTxt cy g k7 tx)]))) (vx_X (fun (k : Int32) => f_X7_whole st v w tx x0 = .inl k) (fun E k t => exE k E ∧ va_P D vwCl (List.flatten [(wPCo p70 b7 c7 d7 e7 h7 k7 st), (wSet cy b7 v), (wPow cy c7 w), (wTxt cy g k7 tx)]) t.heap) (muA (List.flatten [(wPCo p70 b7 c7 d7 e7 h7 k7 st), (wSet cy b7 v), (wPow cy c7 w), (wTxt cy g k7 tx)]))) 1 6 (muA (List.flatten [(wPCo p70 b7 c7 d7 e7 h7 k7 st), (wSet cy b7 v), (wPow cy c7 w), (wTxt cy g k7 tx)])) := by
  refine vx_ofW (cc := cX7_whole) (maxL := 2) (ret := (some .int)) (by decide) rfl ?_
  intro p e s m args below meth c s₁ BB hml hout hv
  obtain ⟨rfl, hP, hK0, hD0⟩ := hv
  have hx := BB.exec
  have hb := BB.bytes
  have hr := BB.returns
  have hts := atoms_spec (ws := wsX7_whole) BB.pre
  have hown : s.vm.findClass RX7 = some m.cls := findClass_of_methodNamed BB.named
  have hlocks := BB.notSynchronized
  have S := my_fix hx hb hml hown hts
  have hAB := muB hD0
  have hD := muD hD0
  generalize hAe : muA (List.flatten [(wPCo p70 b7 c7 d7 e7 h7 k7 st), (wSet cy b7 v), (wPow cy c7 w), (wTxt cy g k7 tx)]) = A at hAB hD ⊢
  have hS : va_S A s.heap s.heap [] := va_S.rf
  have hl := lv_entry ([.ref p70, .int x0]) (n := 2) (Nat.le_of_ble_eq_true rfl)
  rw [lg_entry_eq]
  generalize (lg_sl ([.ref p70, .int x0]) ++ List.replicate (2 - (lg_sl ([.ref p70, .int x0])).length) Slot.unset).toArray = ls at hl ⊢
  have hl : lv_has ls 2 [(0, .ref p70), (1, .int x0)] := hl
  refine lv_iload_n hx hb dX7_whole_0 rfl (lv_at hl 1 rfl) ?_
  refine lv_iconst (v := 0) hx hb dX7_whole_1 (by decide) ?_
  refine lv_bipush (v := 11) hx hb dX7_whole_2 (by decide) ?_
  refine rd_goi (va_runS (As := [.int x0, .int 0, .int 11]) (rest := []) S (c_X7_faultOfRange l D cy g B x0 0 11) (va_cwS 3 hts gX7_whole_X7_faultOfRange rfl rfl rfl hd_X7_faultOfRange_S ⟨Nat.le_of_ble_eq_true rfl, Nat.le_of_ble_eq_true rfl⟩) ⟨rdP_blind, my_preV hK0 hS hAB hP [] rfl⟩ rfl rfl hl.1 rfl (lv_room (Nat.le_of_ble_eq_true rfl)) dX7_whole_4 ⟨Nat.le_of_ble_eq_true rfl, Nat.le_of_ble_eq_true rfl⟩) ?_
  refine my_rfx (vx_runS (As := [.int (f_X7_faultOfRange x0 0 11)]) (rest := []) S (c_X7_refuse l hl0 D cy g B (f_X7_faultOfRange x0 0 11)) (va_cwS 1 hts gX7_whole_X7_refuse rfl rfl rfl hd_X7_refuse_S ⟨Nat.le_of_ble_eq_true rfl, Nat.le_of_ble_eq_true rfl⟩) ⟨rdP_blind, my_preV hK0 hS hAB hP [] rfl⟩ rfl rfl hl.1 rfl (lv_room (Nat.le_of_ble_eq_true rfl)) dX7_whole_7 ⟨Nat.le_of_ble_eq_true rfl, Nat.le_of_ble_eq_true rfl⟩) hS hP hout hlocks (fun _ h => h) (Nat.le_of_ble_eq_true rfl) (Nat.le_of_ble_eq_true rfl) (fun hrf_1 E t h1 h2 h3 => ⟨(f_X7_faultOfRange x0 0 11), (show f_X7_whole st v w tx x0 = .inl (f_X7_faultOfRange x0 0 11) from by rw [f_X7_whole, my_rf_no hrf_1]), ⟨h1, h2⟩, h3⟩) (fun hrf_1 H locs hP hS => ?_)
  have hP : va_P D vwCl (List.flatten [(wPCo p70 b7 c7 d7 e7 h7 k7 st), (wSet cy b7 v), (wPow cy c7 w), (wTxt cy g k7 tx)]) H := hP
  refine lv_aload_n hx hb dX7_whole_10 rfl (lv_at hl 0 rfl) ?_
  refine lv_aload_n hx hb dX7_whole_11 rfl (lv_at hl 0 rfl) ?_
  refine mu_compr (wcs := [(wPCo p70 b7 c7 d7 e7 h7 k7 st), (wSet cy b7 v), (wPow cy c7 w)]) (wns := fun (u_2 : Int32 × PowV) => [(wPCo p70 b7 c7 d7 e7 h7 k7 u_2.1), (wSet cy b7 v), (wPow cy c7 u_2.2)]) (W2 := fun (u_2 : Int32 × PowV) => [(wPCo p70 b7 c7 d7 e7 h7 k7 u_2.1), (wSet cy b7 v), (wPow cy c7 u_2.2), (wTxt cy g k7 tx)]) (va_runV (C := RX7) (As := []) (rest := [.ref p70]) S (c_X7_measured l D cy g B p70 b7 c7 d7 e7 h7 k7 st v w) (cwV 0 hts gX7_whole_X7_measured rfl rfl rfl hd_X7_measured_V ⟨Nat.le_of_ble_eq_true rfl, Nat.le_of_ble_eq_true rfl⟩) ⟨muP_blind, va_recv hK0.1 hP (ci := 5) (q0 := 0) rfl rfl, my_preC (wcs := [(wPCo p70 b7 c7 d7 e7 h7 k7 st), (wSet cy b7 v), (wPow cy c7 w)]) hK0 hS hAB hP hD [0, 1, 2] (by decide) rfl rfl⟩ rfl rfl hl.1 rfl (lv_room (Nat.le_of_ble_eq_true rfl)) dX7_whole_12 ⟨Nat.le_of_ble_eq_true rfl, Nat.le_of_ble_eq_true rfl⟩) hS hP hD [0, 1, 2] rfl rfl (fun _ => rfl) (fun _ => by simp only [List.map_cons, List.map_nil, adrSet, adrSetE, adrPow, adrPowE, adrTxt, adrTxtE, adrSav, adrSavE, adrPCo, adrI, adrL]) (fun _ => rfl) (fun u_2 H locs hw_3 hP hD hS => ?_)
  refine lv_iload_n hx hb dX7_whole_15 rfl (lv_at hl 1 rfl) ?_
  refine rd_goi (va_runV (C := RX7) (As := [.ref (c7 0), .int x0]) (rest := []) S (c_X7_wholeValue l D cy g B p70 b7 c7 d7 e7 h7 k7 u_2.1 v u_2.2 tx x0) (cwV 2 hts gX7_whole_X7_wholeValue rfl rfl rfl hd_X7_wholeValue_V ⟨Nat.le_of_ble_eq_true rfl, Nat.le_of_ble_eq_true rfl⟩) ⟨rdP_blind, va_recv hK0.1 hP (ci := 5) (q0 := 0) rfl rfl, my_preP hK0 hS hAB hP⟩ rfl rfl hl.1 rfl (lv_room (Nat.le_of_ble_eq_true rfl)) dX7_whole_16 ⟨Nat.le_of_ble_eq_true rfl, Nat.le_of_ble_eq_true rfl⟩) ?_
  refine vx_ret ?_
  exact W.iret hx hb hr (fun t ht hW => ⟨⟨(f_X7_wholeValue u_2.1 v u_2.2 tx x0), (u_2.1, u_2.2), rfl, (show f_X7_whole st v w tx x0 = (.inr ((f_X7_wholeValue u_2.1 v u_2.2 tx x0), (u_2.1, u_2.2))) from by rw [f_X7_whole, my_rf_ok hrf_1, hw_3, my_l_eq]), by show va_P D vwCl _ t.heap; rw [ht]; exact hP⟩, hS.F ht⟩) hS.2.2 dX7_whole_19
theorem hd_X7_wins_S : yX7_wins.cls ≠ "java/lang/invoke/MethodHandle" ∧ yX7_wins.cls ≠ "java/lang/invoke/VarHandle" ∧ (parseMethodDescriptor yX7_wins.desc).map (fun d => d.parameters.length) = some 1 := by decide +kernel
theorem hd_X7_wins_V : yX7_wins.cls = RX7 ∧ yX7_wins.cls ≠ "java/lang/invoke/MethodHandle" ∧ yX7_wins.cls ≠ "java/lang/invoke/VarHandle" ∧ (parseMethodDescriptor yX7_wins.desc).map (fun d => d.parameters.length) = some 1 := ⟨rfl, hd_X7_wins_S⟩
def f_X7_wins (st : Int32) (v : SetV) (w : PowV) (x0 : Int32) : Int32 ⊕ (Int32 × (Int32 × PowV)) := (my_rf (f_X6_faultOfSet v x0) (my_l (f_X7_measured st v w) (fun (u_2 : Int32 × PowV) => (if (f_X3_isWinning u_2.2 x0) = 0 then (.inr (0, (u_2.1, u_2.2))) else (.inr (1, (u_2.1, u_2.2)))))))
set_option maxHeartbeats 400000 in
set_option maxRecDepth 100000 in
theorem c_X7_wins (l : Launch) (hl0 : l.stackTraces = false) (D : va_G) (cy : Nat → ClassId) (g : Nat → Nat) (B : Nat) (p70 : Nat) (b7 : Nat → Nat) (c7 : Nat → Nat) (d7 : Nat → Nat) (e7 : Nat → Nat) (h7 : Nat → Nat) (k7 : Nat → Nat) (st : Int32) (v : SetV) (w : PowV) (x0 : Int32) : vx_Met l yX7_wins wsX7_wins ({ frames := 7, cells := 1, slots := 6, locals := 132 }) (muP D cy g B (List.flatten [(wPCo p70 b7 c7 d7 e7 h7 k7 st), (wSet cy b7 v), (wPow cy c7 w)]) [.ref p70, .int x0]) (va_Qi (fun (r : Int32) (u : Int32 × PowV) => f_X7_wins st v w x0 = .inr (r, u)) (fun u t => va_P D vwCl (List.flatten [(wPCo p70 b7 c7 d7 e7 h7 k7 u.1), (wSet cy b7 v), (wPow cy c7 u.2)]) t.heap) (muA (List.flatten [(wPCo p70 b7 c7 d7 e7 h7 k7 st), (wSet cy b7 v), (wPow cy c7 w)]))) (vx_X (fun (k : Int32) => f_X7_wins st v w x0 = .inl k) (fun E k t => exE k E ∧ va_P D vwCl (List.flatten [(wPCo p70 b7 c7 d7 e7 h7 k7 st), (wSet cy b7 v), (wPow cy c7 w)]) t.heap) (muA (List.flatten [(wPCo p70 b7 c7 d7 e7 h7 k7 st), (wSet cy b7 v), (wPow cy c7 w)]))) 1 6 (muA (List.flatten [(wPCo p70 b7 c7 d7 e7 h7 k7 st), (wSet cy b7 v), (wPow cy c7 w)])) := by
  refine vx_ofW (cc := cX7_wins) (maxL := 2) (ret := (some .int)) (by decide) rfl ?_
  intro p e s m args below meth c s₁ BB hml hout hv
  obtain ⟨rfl, hP, hK0, hD0⟩ := hv
  have hx := BB.exec
  have hb := BB.bytes
  have hr := BB.returns
  have hts := atoms_spec (ws := wsX7_wins) BB.pre
  have hown : s.vm.findClass RX7 = some m.cls := findClass_of_methodNamed BB.named
  have hlocks := BB.notSynchronized
  have S := my_fix hx hb hml hown hts
  have inX7 : ∀ w ∈ wsX70, w ∈ wsX7_wins := fun w h => List.mem_cons_of_mem _ (List.mem_append_left _ (List.mem_append_left _ (List.mem_append_left _ (List.mem_append_left _ (List.mem_append_left _ (List.mem_append_left _ (List.mem_append_right _ h)))))))
  have hAB := muB hD0
  have hD := muD hD0
  generalize hAe : muA (List.flatten [(wPCo p70 b7 c7 d7 e7 h7 k7 st), (wSet cy b7 v), (wPow cy c7 w)]) = A at hAB hD ⊢
  have hS : va_S A s.heap s.heap [] := va_S.rf
  have hl := lv_entry ([.ref p70, .int x0]) (n := 2) (Nat.le_of_ble_eq_true rfl)
  rw [lg_entry_eq]
  generalize (lg_sl ([.ref p70, .int x0]) ++ List.replicate (2 - (lg_sl ([.ref p70, .int x0])).length) Slot.unset).toArray = ls at hl ⊢
  have hl : lv_has ls 2 [(0, .ref p70), (1, .int x0)] := hl
  refine lv_aload_n hx hb dX7_wins_0 rfl (lv_at hl 0 rfl) ?_
  refine va_get (D := D) (ci := 5) (v := .ref (b7 0)) (C := RX7) (T := TX7) (N := 7) hx hb hts inX7 hown hK0.1 hP 0 rfl rfl 0 (by decide) (hts (.fieldLink RX7 10 "PivotChamber" "setting" "LPivotChamber$Setting;") (List.mem_of_getElem? (i := 1) rfl)) (fun _ h9 => h9) rfl dX7_wins_1 ?_
  refine lv_iload_n hx hb dX7_wins_4 rfl (lv_at hl 1 rfl) ?_
  refine rd_goi (va_runV (C := RX6) (As := [.int x0]) (rest := []) S (c_X6_faultOfSet l D cy g B b7 v x0) (cwV 1 hts gX7_wins_X6_faultOfSet rfl rfl rfl hd_X6_faultOfSet_V ⟨Nat.le_of_ble_eq_true rfl, Nat.le_of_ble_eq_true rfl⟩) ⟨rdP_blind, va_recv hK0.1 hP (ci := 4) (q0 := 1) rfl rfl, my_preP hK0 hS hAB (my_cP hP 1 rfl)⟩ rfl rfl hl.1 rfl (lv_room (Nat.le_of_ble_eq_true rfl)) dX7_wins_5 ⟨Nat.le_of_ble_eq_true rfl, Nat.le_of_ble_eq_true rfl⟩) ?_
  refine my_rfx (vx_runS (As := [.int (f_X6_faultOfSet v x0)]) (rest := []) S (c_X7_refuse l hl0 D cy g B (f_X6_faultOfSet v x0)) (va_cwS 1 hts gX7_wins_X7_refuse rfl rfl rfl hd_X7_refuse_S ⟨Nat.le_of_ble_eq_true rfl, Nat.le_of_ble_eq_true rfl⟩) ⟨rdP_blind, my_preV hK0 hS hAB hP [] rfl⟩ rfl rfl hl.1 rfl (lv_room (Nat.le_of_ble_eq_true rfl)) dX7_wins_8 ⟨Nat.le_of_ble_eq_true rfl, Nat.le_of_ble_eq_true rfl⟩) hS hP hout hlocks (fun _ h => h) (Nat.le_of_ble_eq_true rfl) (Nat.le_of_ble_eq_true rfl) (fun hrf_1 E t h1 h2 h3 => ⟨(f_X6_faultOfSet v x0), (show f_X7_wins st v w x0 = .inl (f_X6_faultOfSet v x0) from by rw [f_X7_wins, my_rf_no hrf_1]), ⟨h1, h2⟩, h3⟩) (fun hrf_1 H locs hP hS => ?_)
  have hP : va_P D vwCl (List.flatten [(wPCo p70 b7 c7 d7 e7 h7 k7 st), (wSet cy b7 v), (wPow cy c7 w)]) H := hP
  refine lv_aload_n hx hb dX7_wins_11 rfl (lv_at hl 0 rfl) ?_
  refine mu_allr (wf := fun (u_2 : Int32 × PowV) => (List.flatten [(wPCo p70 b7 c7 d7 e7 h7 k7 u_2.1), (wSet cy b7 v), (wPow cy c7 u_2.2)])) (va_runV (C := RX7) (As := []) (rest := []) S (c_X7_measured l D cy g B p70 b7 c7 d7 e7 h7 k7 st v w) (cwV 0 hts gX7_wins_X7_measured rfl rfl rfl hd_X7_measured_V ⟨Nat.le_of_ble_eq_true rfl, Nat.le_of_ble_eq_true rfl⟩) ⟨muP_blind, va_recv hK0.1 hP (ci := 5) (q0 := 0) rfl rfl, my_preA hK0 hS hAB hP hD⟩ rfl rfl hl.1 rfl (lv_room (Nat.le_of_ble_eq_true rfl)) dX7_wins_12 ⟨Nat.le_of_ble_eq_true rfl, Nat.le_of_ble_eq_true rfl⟩) hS hD (fun _ => my_flat_adr (by simp only [List.map_cons, List.map_nil, adrSet, adrSetE, adrPow, adrPowE, adrTxt, adrTxtE, adrSav, adrSavE, adrPCo, adrI, adrL])) (fun u_2 H locs hw_3 hP hD hS => ?_)
  refine lv_iload_n hx hb dX7_wins_15 rfl (lv_at hl 1 rfl) ?_
  refine rd_goi (va_runV (C := RX3) (As := [.int x0]) (rest := []) S (c_X3_isWinning l D cy g B c7 u_2.2 x0) (cwV 1 hts gX7_wins_X3_isWinning rfl rfl rfl hd_X3_isWinning_V ⟨Nat.le_of_ble_eq_true rfl, Nat.le_of_ble_eq_true rfl⟩) ⟨rdP_blind, va_recv hK0.1 hP (ci := 1) (q0 := 10) rfl rfl, my_preP hK0 hS hAB (my_cP hP 2 rfl)⟩ rfl rfl hl.1 rfl (lv_room (Nat.le_of_ble_eq_true rfl)) dX7_wins_16 ⟨Nat.le_of_ble_eq_true rfl, Nat.le_of_ble_eq_true rfl⟩) ?_
  refine lv_if_eq (tgt := 26) hx hb dX7_wins_19 (by decide) (fun c_4 => ?_) (fun c_4 => ?_)
  · refine lv_iconst (v := 0) hx hb dX7_wins_26 (by decide) ?_
    refine vx_ret ?_
    exact W.iret hx hb hr (fun t ht hW => ⟨⟨0, (u_2.1, u_2.2), rfl, (show f_X7_wins st v w x0 = (.inr (0, (u_2.1, u_2.2))) from by rw [f_X7_wins, my_rf_ok hrf_1, hw_3, my_l_eq, if_pos c_4]), by show va_P D vwCl _ t.heap; rw [ht]; exact hP⟩, hS.F ht⟩) hS.2.2 dX7_wins_27
  · refine lv_iconst (v := 1) hx hb dX7_wins_22 (by decide) ?_
    refine lv_goto (tgt := 27) hx hb dX7_wins_23 (by decide) ?_
    refine vx_ret ?_
    exact W.iret hx hb hr (fun t ht hW => ⟨⟨1, (u_2.1, u_2.2), rfl, (show f_X7_wins st v w x0 = (.inr (1, (u_2.1, u_2.2))) from by rw [f_X7_wins, my_rf_ok hrf_1, hw_3, my_l_eq, if_neg c_4]), by show va_P D vwCl _ t.heap; rw [ht]; exact hP⟩, hS.F ht⟩) hS.2.2 dX7_wins_27
theorem hd_X7_least_S : yX7_least.cls ≠ "java/lang/invoke/MethodHandle" ∧ yX7_least.cls ≠ "java/lang/invoke/VarHandle" ∧ (parseMethodDescriptor yX7_least.desc).map (fun d => d.parameters.length) = some 1 := by decide +kernel
theorem hd_X7_least_V : yX7_least.cls = RX7 ∧ yX7_least.cls ≠ "java/lang/invoke/MethodHandle" ∧ yX7_least.cls ≠ "java/lang/invoke/VarHandle" ∧ (parseMethodDescriptor yX7_least.desc).map (fun d => d.parameters.length) = some 1 := ⟨rfl, hd_X7_least_S⟩
def f_X7_least (st : Int32) (v : SetV) (w : PowV) (x0 : Int32) : Int32 ⊕ (Int32 × (Int32 × PowV)) := (if 0 ≤ x0 then (my_rf 0 (my_l (f_X7_measured st v w) (fun (u_3 : Int32 × PowV) => (if u_3.2.2.2.2.2.1 ≤ x0 then (.inr ((-1), (u_3.1, u_3.2))) else (.inr ((rAt 256 u_3.2.2.2.2.2.2.2.2.2.1 x0), (u_3.1, u_3.2))))))) else (my_rf 2 (my_l (f_X7_measured st v w) (fun (u_7 : Int32 × PowV) => (if u_7.2.2.2.2.2.1 ≤ x0 then (.inr ((-1), (u_7.1, u_7.2))) else (.inr ((rAt 256 u_7.2.2.2.2.2.2.2.2.2.1 x0), (u_7.1, u_7.2))))))))
set_option maxHeartbeats 400000 in
set_option maxRecDepth 100000 in
theorem c_X7_least (l : Launch) (hl0 : l.stackTraces = false) (D : va_G) (cy : Nat → ClassId) (g : Nat → Nat) (B : Nat) (p70 : Nat) (b7 : Nat → Nat) (c7 : Nat → Nat) (d7 : Nat → Nat) (e7 : Nat → Nat) (h7 : Nat → Nat) (k7 : Nat → Nat) (st : Int32) (v : SetV) (w : PowV) (x0 : Int32) : vx_Met l yX7_least wsX7_least ({ frames := 7, cells := 1, slots := 6, locals := 132 }) (muP D cy g B (List.flatten [(wPCo p70 b7 c7 d7 e7 h7 k7 st), (wSet cy b7 v), (wPow cy c7 w)]) [.ref p70, .int x0]) (va_Qi (fun (r : Int32) (u : Int32 × PowV) => f_X7_least st v w x0 = .inr (r, u)) (fun u t => va_P D vwCl (List.flatten [(wPCo p70 b7 c7 d7 e7 h7 k7 u.1), (wSet cy b7 v), (wPow cy c7 u.2)]) t.heap) (muA (List.flatten [(wPCo p70 b7 c7 d7 e7 h7 k7 st), (wSet cy b7 v), (wPow cy c7 w)]))) (vx_X (fun (k : Int32) => f_X7_least st v w x0 = .inl k) (fun E k t => exE k E ∧ va_P D vwCl (List.flatten [(wPCo p70 b7 c7 d7 e7 h7 k7 st), (wSet cy b7 v), (wPow cy c7 w)]) t.heap) (muA (List.flatten [(wPCo p70 b7 c7 d7 e7 h7 k7 st), (wSet cy b7 v), (wPow cy c7 w)]))) 1 6 (muA (List.flatten [(wPCo p70 b7 c7 d7 e7 h7 k7 st), (wSet cy b7 v), (wPow cy c7 w)])) := by
  refine vx_ofW (cc := cX7_least) (maxL := 3) (ret := (some .int)) (by decide) rfl ?_
  intro p e s m args below meth c s₁ BB hml hout hv
  obtain ⟨rfl, hP, hK0, hD0⟩ := hv
  have hx := BB.exec
  have hb := BB.bytes
  have hr := BB.returns
  have hts := atoms_spec (ws := wsX7_least) BB.pre
  have hown : s.vm.findClass RX7 = some m.cls := findClass_of_methodNamed BB.named
  have hlocks := BB.notSynchronized
  have S := my_fix hx hb hml hown hts
  have inX3 : ∀ w ∈ wsX30, w ∈ wsX7_least := fun w h => List.mem_cons_of_mem _ (List.mem_append_left _ (List.mem_append_left _ (List.mem_append_left _ (List.mem_append_left _ (List.mem_append_left _ (List.mem_append_left _ (List.mem_append_right _ h)))))))
  have hAB := muB hD0
  have hD := muD hD0
  generalize hAe : muA (List.flatten [(wPCo p70 b7 c7 d7 e7 h7 k7 st), (wSet cy b7 v), (wPow cy c7 w)]) = A at hAB hD ⊢
  have hS : va_S A s.heap s.heap [] := va_S.rf
  have hl := lv_entry ([.ref p70, .int x0]) (n := 3) (Nat.le_of_ble_eq_true rfl)
  rw [lg_entry_eq]
  generalize (lg_sl ([.ref p70, .int x0]) ++ List.replicate (3 - (lg_sl ([.ref p70, .int x0])).length) Slot.unset).toArray = ls at hl ⊢
  have hl : lv_has ls 3 [(0, .ref p70), (1, .int x0)] := hl
  refine lv_iload_n hx hb dX7_least_0 rfl (lv_at hl 1 rfl) ?_
  refine lv_if_ge (tgt := 8) hx hb dX7_least_1 (by decide) (fun c_1 => ?_) (fun c_1 => ?_)
  · refine lv_iconst (v := 0) hx hb dX7_least_8 (by decide) ?_
    refine my_rfx (vx_runS (As := [.int 0]) (rest := []) S (c_X7_refuse l hl0 D cy g B 0) (va_cwS 1 hts gX7_least_X7_refuse rfl rfl rfl hd_X7_refuse_S ⟨Nat.le_of_ble_eq_true rfl, Nat.le_of_ble_eq_true rfl⟩) ⟨rdP_blind, my_preV hK0 hS hAB hP [] rfl⟩ rfl rfl hl.1 rfl (lv_room (Nat.le_of_ble_eq_true rfl)) dX7_least_9 ⟨Nat.le_of_ble_eq_true rfl, Nat.le_of_ble_eq_true rfl⟩) hS hP hout hlocks (fun _ h => h) (Nat.le_of_ble_eq_true rfl) (Nat.le_of_ble_eq_true rfl) (fun hrf_2 E t h1 h2 h3 => ⟨0, (show f_X7_least st v w x0 = .inl 0 from by rw [f_X7_least, if_pos c_1, my_rf_no hrf_2]), ⟨h1, h2⟩, h3⟩) (fun hrf_2 H locs hP hS => ?_)
    have hP : va_P D vwCl (List.flatten [(wPCo p70 b7 c7 d7 e7 h7 k7 st), (wSet cy b7 v), (wPow cy c7 w)]) H := hP
    refine lv_aload_n hx hb dX7_least_12 rfl (lv_at hl 0 rfl) ?_
    refine mu_allr (wf := fun (u_3 : Int32 × PowV) => (List.flatten [(wPCo p70 b7 c7 d7 e7 h7 k7 u_3.1), (wSet cy b7 v), (wPow cy c7 u_3.2)])) (va_runV (C := RX7) (As := []) (rest := []) S (c_X7_measured l D cy g B p70 b7 c7 d7 e7 h7 k7 st v w) (cwV 0 hts gX7_least_X7_measured rfl rfl rfl hd_X7_measured_V ⟨Nat.le_of_ble_eq_true rfl, Nat.le_of_ble_eq_true rfl⟩) ⟨muP_blind, va_recv hK0.1 hP (ci := 5) (q0 := 0) rfl rfl, my_preA hK0 hS hAB hP hD⟩ rfl rfl hl.1 rfl (lv_room (Nat.le_of_ble_eq_true rfl)) dX7_least_13 ⟨Nat.le_of_ble_eq_true rfl, Nat.le_of_ble_eq_true rfl⟩) hS hD (fun _ => my_flat_adr (by simp only [List.map_cons, List.map_nil, adrSet, adrSetE, adrPow, adrPowE, adrTxt, adrTxtE, adrSav, adrSavE, adrPCo, adrI, adrL])) (fun u_3 H locs hw_4 hP hD hS => ?_)
    refine lv_astore_n (lv' := [(2, .ref (c7 0)), (0, .ref p70), (1, .int x0)]) hx hb dX7_least_16 rfl hl (by decide) rfl (fun ls hl => ?_)
    refine lv_iload_n hx hb dX7_least_17 rfl (lv_at hl 2 rfl) ?_
    refine lv_aload_n hx hb dX7_least_18 rfl (lv_at hl 0 rfl) ?_
    refine va_getN (D := D) (ci := 1) (v := .int u_3.2.2.2.2.2.1) (C := RX3) (T := TX3) (N := 13) (host := "PivotChamber") hx hb hts inX3 hown hK0.1 hP 10 rfl rfl 6 (by decide) (va_Nw.use rfl (hK0.2.1.1.f 0 rfl)) (fun _ h9 => h9) rfl dX7_least_19 ?_
    refine lv_icmp_ge (tgt := 36) hx hb dX7_least_22 (by decide) (fun c_5 => ?_) (fun c_5 => ?_)
    · refine lv_iconst (v := (-1)) hx hb dX7_least_36 (by decide) ?_
      refine vx_ret ?_
      exact W.iret hx hb hr (fun t ht hW => ⟨⟨(-1), (u_3.1, u_3.2), rfl, (show f_X7_least st v w x0 = (.inr ((-1), (u_3.1, u_3.2))) from by rw [f_X7_least, if_pos c_1, my_rf_ok hrf_2, hw_4, my_l_eq, if_pos c_5]), by show va_P D vwCl _ t.heap; rw [ht]; exact hP⟩, hS.F ht⟩) hS.2.2 dX7_least_37
    · refine lv_aload_n hx hb dX7_least_25 rfl (lv_at hl 0 rfl) ?_
      refine va_getN (D := D) (ci := 1) (v := .ref (c7 5)) (C := RX3) (T := TX3) (N := 13) (host := "PivotChamber") hx hb hts inX3 hown hK0.1 hP 10 rfl rfl 7 (by decide) (va_Nw.use rfl (hK0.2.1.1.f 1 rfl)) (fun _ h9 => h9) rfl dX7_least_26 ?_
      refine lv_iload_n hx hb dX7_least_29 rfl (lv_at hl 2 rfl) ?_
      refine rd_goi (va_runV (C := RX4) (As := [.int x0]) (rest := []) S (c_X4_at l D cy g B (c7 5) (c7 6) 256 u_3.2.2.2.2.2.2.2.2.2.1 x0 (by decide)) (cwV 1 hts gX7_least_X4_at rfl rfl rfl hd_X4_at_V ⟨Nat.le_of_ble_eq_true rfl, Nat.le_of_ble_eq_true rfl⟩) ⟨rdP_blind, va_recv hK0.1 hP (ci := 2) (q0 := 15) rfl rfl, my_preV hK0 hS hAB hP [15, 16] rfl⟩ rfl rfl hl.1 rfl (lv_room (Nat.le_of_ble_eq_true rfl)) dX7_least_30 ⟨Nat.le_of_ble_eq_true rfl, Nat.le_of_ble_eq_true rfl⟩) ?_
      refine lv_goto (tgt := 37) hx hb dX7_least_33 (by decide) ?_
      refine vx_ret ?_
      exact W.iret hx hb hr (fun t ht hW => ⟨⟨(rAt 256 u_3.2.2.2.2.2.2.2.2.2.1 x0), (u_3.1, u_3.2), rfl, (show f_X7_least st v w x0 = (.inr ((rAt 256 u_3.2.2.2.2.2.2.2.2.2.1 x0), (u_3.1, u_3.2))) from by rw [f_X7_least, if_pos c_1, my_rf_ok hrf_2, hw_4, my_l_eq, if_neg c_5]), by show va_P D vwCl _ t.heap; rw [ht]; exact hP⟩, hS.F ht⟩) hS.2.2 dX7_least_37
  · refine lv_iconst (v := 2) hx hb dX7_least_4 (by decide) ?_
    refine lv_goto (tgt := 9) hx hb dX7_least_5 (by decide) ?_
    refine my_rfx (vx_runS (As := [.int 2]) (rest := []) S (c_X7_refuse l hl0 D cy g B 2) (va_cwS 1 hts gX7_least_X7_refuse rfl rfl rfl hd_X7_refuse_S ⟨Nat.le_of_ble_eq_true rfl, Nat.le_of_ble_eq_true rfl⟩) ⟨rdP_blind, my_preV hK0 hS hAB hP [] rfl⟩ rfl rfl hl.1 rfl (lv_room (Nat.le_of_ble_eq_true rfl)) dX7_least_9 ⟨Nat.le_of_ble_eq_true rfl, Nat.le_of_ble_eq_true rfl⟩) hS hP hout hlocks (fun _ h => h) (Nat.le_of_ble_eq_true rfl) (Nat.le_of_ble_eq_true rfl) (fun hrf_6 E t h1 h2 h3 => ⟨2, (show f_X7_least st v w x0 = .inl 2 from by rw [f_X7_least, if_neg c_1, my_rf_no hrf_6]), ⟨h1, h2⟩, h3⟩) (fun hrf_6 H locs hP hS => ?_)
    have hP : va_P D vwCl (List.flatten [(wPCo p70 b7 c7 d7 e7 h7 k7 st), (wSet cy b7 v), (wPow cy c7 w)]) H := hP
    refine lv_aload_n hx hb dX7_least_12 rfl (lv_at hl 0 rfl) ?_
    refine mu_allr (wf := fun (u_7 : Int32 × PowV) => (List.flatten [(wPCo p70 b7 c7 d7 e7 h7 k7 u_7.1), (wSet cy b7 v), (wPow cy c7 u_7.2)])) (va_runV (C := RX7) (As := []) (rest := []) S (c_X7_measured l D cy g B p70 b7 c7 d7 e7 h7 k7 st v w) (cwV 0 hts gX7_least_X7_measured rfl rfl rfl hd_X7_measured_V ⟨Nat.le_of_ble_eq_true rfl, Nat.le_of_ble_eq_true rfl⟩) ⟨muP_blind, va_recv hK0.1 hP (ci := 5) (q0 := 0) rfl rfl, my_preA hK0 hS hAB hP hD⟩ rfl rfl hl.1 rfl (lv_room (Nat.le_of_ble_eq_true rfl)) dX7_least_13 ⟨Nat.le_of_ble_eq_true rfl, Nat.le_of_ble_eq_true rfl⟩) hS hD (fun _ => my_flat_adr (by simp only [List.map_cons, List.map_nil, adrSet, adrSetE, adrPow, adrPowE, adrTxt, adrTxtE, adrSav, adrSavE, adrPCo, adrI, adrL])) (fun u_7 H locs hw_8 hP hD hS => ?_)
    refine lv_astore_n (lv' := [(2, .ref (c7 0)), (0, .ref p70), (1, .int x0)]) hx hb dX7_least_16 rfl hl (by decide) rfl (fun ls hl => ?_)
    refine lv_iload_n hx hb dX7_least_17 rfl (lv_at hl 2 rfl) ?_
    refine lv_aload_n hx hb dX7_least_18 rfl (lv_at hl 0 rfl) ?_
    refine va_getN (D := D) (ci := 1) (v := .int u_7.2.2.2.2.2.1) (C := RX3) (T := TX3) (N := 13) (host := "PivotChamber") hx hb hts inX3 hown hK0.1 hP 10 rfl rfl 6 (by decide) (va_Nw.use rfl (hK0.2.1.1.f 0 rfl)) (fun _ h9 => h9) rfl dX7_least_19 ?_
    refine lv_icmp_ge (tgt := 36) hx hb dX7_least_22 (by decide) (fun c_9 => ?_) (fun c_9 => ?_)
    · refine lv_iconst (v := (-1)) hx hb dX7_least_36 (by decide) ?_
      refine vx_ret ?_
      exact W.iret hx hb hr (fun t ht hW => ⟨⟨(-1), (u_7.1, u_7.2), rfl, (show f_X7_least st v w x0 = (.inr ((-1), (u_7.1, u_7.2))) from by rw [f_X7_least, if_neg c_1, my_rf_ok hrf_6, hw_8, my_l_eq, if_pos c_9]), by show va_P D vwCl _ t.heap; rw [ht]; exact hP⟩, hS.F ht⟩) hS.2.2 dX7_least_37
    · refine lv_aload_n hx hb dX7_least_25 rfl (lv_at hl 0 rfl) ?_
      refine va_getN (D := D) (ci := 1) (v := .ref (c7 5)) (C := RX3) (T := TX3) (N := 13) (host := "PivotChamber") hx hb hts inX3 hown hK0.1 hP 10 rfl rfl 7 (by decide) (va_Nw.use rfl (hK0.2.1.1.f 1 rfl)) (fun _ h9 => h9) rfl dX7_least_26 ?_
      refine lv_iload_n hx hb dX7_least_29 rfl (lv_at hl 2 rfl) ?_
      refine rd_goi (va_runV (C := RX4) (As := [.int x0]) (rest := []) S (c_X4_at l D cy g B (c7 5) (c7 6) 256 u_7.2.2.2.2.2.2.2.2.2.1 x0 (by decide)) (cwV 1 hts gX7_least_X4_at rfl rfl rfl hd_X4_at_V ⟨Nat.le_of_ble_eq_true rfl, Nat.le_of_ble_eq_true rfl⟩) ⟨rdP_blind, va_recv hK0.1 hP (ci := 2) (q0 := 15) rfl rfl, my_preV hK0 hS hAB hP [15, 16] rfl⟩ rfl rfl hl.1 rfl (lv_room (Nat.le_of_ble_eq_true rfl)) dX7_least_30 ⟨Nat.le_of_ble_eq_true rfl, Nat.le_of_ble_eq_true rfl⟩) ?_
      refine lv_goto (tgt := 37) hx hb dX7_least_33 (by decide) ?_
      refine vx_ret ?_
      exact W.iret hx hb hr (fun t ht hW => ⟨⟨(rAt 256 u_7.2.2.2.2.2.2.2.2.2.1 x0), (u_7.1, u_7.2), rfl, (show f_X7_least st v w x0 = (.inr ((rAt 256 u_7.2.2.2.2.2.2.2.2.2.1 x0), (u_7.1, u_7.2))) from by rw [f_X7_least, if_neg c_1, my_rf_ok hrf_6, hw_8, my_l_eq, if_neg c_9]), by show va_P D vwCl _ t.heap; rw [ht]; exact hP⟩, hS.F ht⟩) hS.2.2 dX7_least_37
