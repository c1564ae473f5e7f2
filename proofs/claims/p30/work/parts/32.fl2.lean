theorem hd_X7_share_S : yX7_share.cls ≠ "java/lang/invoke/MethodHandle" ∧ yX7_share.cls ≠ "java/lang/invoke/VarHandle" ∧ (parseMethodDescriptor yX7_share.desc).map (fun d => d.parameters.length) = some 1 := by decide +kernel
theorem hd_X7_share_V : yX7_share.cls = RX7 ∧ yX7_share.cls ≠ "java/lang/invoke/MethodHandle" ∧ yX7_share.cls ≠ "java/lang/invoke/VarHandle" ∧ (parseMethodDescriptor yX7_share.desc).map (fun d => d.parameters.length) = some 1 := ⟨rfl, hd_X7_share_S⟩
def f_X7_share (st : Int32) (v : SetV) (w : PowV) (x0 : Int32) : Int32 ⊕ (UInt32 × (Int32 × PowV)) := (my_rf (f_X6_faultOfMember v x0) (my_l (f_X7_measured st v w) (fun (u_2 : Int32 × PowV) => (.inr ((f_X3_shareOf u_2.2 x0), (u_2.1, u_2.2))))))
set_option maxHeartbeats 400000 in
set_option maxRecDepth 100000 in
theorem c_X7_share (l : Launch) (hl0 : l.stackTraces = false) (D : va_G) (cy : Nat → ClassId) (g : Nat → Nat) (B : Nat) (p70 : Nat) (b7 : Nat → Nat) (c7 : Nat → Nat) (d7 : Nat → Nat) (e7 : Nat → Nat) (h7 : Nat → Nat) (k7 : Nat → Nat) (st : Int32) (v : SetV) (w : PowV) (x0 : Int32) : vx_Met l yX7_share wsX7_share ({ frames := 7, cells := 1, slots := 6, locals := 132 }) (muP D cy g B (List.flatten [(wPCo p70 b7 c7 d7 e7 h7 k7 st), (wSet cy b7 v), (wPow cy c7 w)]) [.ref p70, .int x0]) (va_Qf (fun (r : UInt32) (u : Int32 × PowV) => f_X7_share st v w x0 = .inr (r, u)) (fun u t => va_P D vwCl (List.flatten [(wPCo p70 b7 c7 d7 e7 h7 k7 u.1), (wSet cy b7 v), (wPow cy c7 u.2)]) t.heap) (muA (List.flatten [(wPCo p70 b7 c7 d7 e7 h7 k7 st), (wSet cy b7 v), (wPow cy c7 w)]))) (vx_X (fun (k : Int32) => f_X7_share st v w x0 = .inl k) (fun E k t => exE k E ∧ va_P D vwCl (List.flatten [(wPCo p70 b7 c7 d7 e7 h7 k7 st), (wSet cy b7 v), (wPow cy c7 w)]) t.heap) (muA (List.flatten [(wPCo p70 b7 c7 d7 e7 h7 k7 st), (wSet cy b7 v), (wPow cy c7 w)]))) 1 6 (muA (List.flatten [(wPCo p70 b7 c7 d7 e7 h7 k7 st), (wSet cy b7 v), (wPow cy c7 w)])) := by
  refine vx_ofW (cc := cX7_share) (maxL := 2) (ret := (some .float)) (by decide) rfl ?_
  intro p e s m args below meth c s₁ BB hml hout hv
  obtain ⟨rfl, hP, hK0, hD0⟩ := hv
  have hx := BB.exec
  have hb := BB.bytes
  have hr := BB.returns
  have hts := atoms_spec (ws := wsX7_share) BB.pre
  have hown : s.vm.findClass RX7 = some m.cls := findClass_of_methodNamed BB.named
  have hlocks := BB.notSynchronized
  have S := my_fix hx hb hml hown hts
  have inX7 : ∀ w ∈ wsX70, w ∈ wsX7_share := fun w h => List.mem_cons_of_mem _ (List.mem_append_left _ (List.mem_append_left _ (List.mem_append_left _ (List.mem_append_left _ (List.mem_append_left _ (List.mem_append_left _ (List.mem_append_right _ h)))))))
  have hAB := muB hD0
  have hD := muD hD0
  generalize hAe : muA (List.flatten [(wPCo p70 b7 c7 d7 e7 h7 k7 st), (wSet cy b7 v), (wPow cy c7 w)]) = A at hAB hD ⊢
  have hS : va_S A s.heap s.heap [] := va_S.rf
  have hl := lv_entry ([.ref p70, .int x0]) (n := 2) (Nat.le_of_ble_eq_true rfl)
  rw [lg_entry_eq]
  generalize (lg_sl ([.ref p70, .int x0]) ++ List.replicate (2 - (lg_sl ([.ref p70, .int x0])).length) Slot.unset).toArray = ls at hl ⊢
  have hl : lv_has ls 2 [(0, .ref p70), (1, .int x0)] := hl
  refine lv_aload_n hx hb dX7_share_0 rfl (lv_at hl 0 rfl) ?_
  refine va_get (D := D) (ci := 5) (v := .ref (b7 0)) (C := RX7) (T := TX7) (N := 7) hx hb hts inX7 hown hK0.1 hP 0 rfl rfl 0 (by decide) (hts (.fieldLink RX7 10 "PivotChamber" "setting" "LPivotChamber$Setting;") (List.mem_of_getElem? (i := 1) rfl)) (fun _ h9 => h9) rfl dX7_share_1 ?_
  refine lv_iload_n hx hb dX7_share_4 rfl (lv_at hl 1 rfl) ?_
  refine rd_goi (va_runV (C := RX6) (As := [.int x0]) (rest := []) S (c_X6_faultOfMember l D cy g B b7 v x0) (cwV 1 hts gX7_share_X6_faultOfMember rfl rfl rfl hd_X6_faultOfMember_V ⟨Nat.le_of_ble_eq_true rfl, Nat.le_of_ble_eq_true rfl⟩) ⟨rdP_blind, va_recv hK0.1 hP (ci := 4) (q0 := 1) rfl rfl, my_preP hK0 hS hAB (my_cP hP 1 rfl)⟩ rfl rfl hl.1 rfl (lv_room (Nat.le_of_ble_eq_true rfl)) dX7_share_5 ⟨Nat.le_of_ble_eq_true rfl, Nat.le_of_ble_eq_true rfl⟩) ?_
  refine my_rfx (vx_runS (As := [.int (f_X6_faultOfMember v x0)]) (rest := []) S (c_X7_refuse l hl0 D cy g B (f_X6_faultOfMember v x0)) (va_cwS 1 hts gX7_share_X7_refuse rfl rfl rfl hd_X7_refuse_S ⟨Nat.le_of_ble_eq_true rfl, Nat.le_of_ble_eq_true rfl⟩) ⟨rdP_blind, my_preV hK0 hS hAB hP [] rfl⟩ rfl rfl hl.1 rfl (lv_room (Nat.le_of_ble_eq_true rfl)) dX7_share_8 ⟨Nat.le_of_ble_eq_true rfl, Nat.le_of_ble_eq_true rfl⟩) hS hP hout hlocks (fun _ h => h) (Nat.le_of_ble_eq_true rfl) (Nat.le_of_ble_eq_true rfl) (fun hrf_1 E t h1 h2 h3 => ⟨(f_X6_faultOfMember v x0), (show f_X7_share st v w x0 = .inl (f_X6_faultOfMember v x0) from by rw [f_X7_share, my_rf_no hrf_1]), ⟨h1, h2⟩, h3⟩) (fun hrf_1 H locs hP hS => ?_)
  have hP : va_P D vwCl (List.flatten [(wPCo p70 b7 c7 d7 e7 h7 k7 st), (wSet cy b7 v), (wPow cy c7 w)]) H := hP
  refine lv_aload_n hx hb dX7_share_11 rfl (lv_at hl 0 rfl) ?_
  refine mu_allr (wf := fun (u_2 : Int32 × PowV) => (List.flatten [(wPCo p70 b7 c7 d7 e7 h7 k7 u_2.1), (wSet cy b7 v), (wPow cy c7 u_2.2)])) (va_runV (C := RX7) (As := []) (rest := []) S (c_X7_measured l D cy g B p70 b7 c7 d7 e7 h7 k7 st v w) (cwV 0 hts gX7_share_X7_measured rfl rfl rfl hd_X7_measured_V ⟨Nat.le_of_ble_eq_true rfl, Nat.le_of_ble_eq_true rfl⟩) ⟨muP_blind, va_recv hK0.1 hP (ci := 5) (q0 := 0) rfl rfl, my_preA hK0 hS hAB hP hD⟩ rfl rfl hl.1 rfl (lv_room (Nat.le_of_ble_eq_true rfl)) dX7_share_12 ⟨Nat.le_of_ble_eq_true rfl, Nat.le_of_ble_eq_true rfl⟩) hS hD (fun _ => my_flat_adr (by simp only [List.map_cons, List.map_nil, adrSet, adrSetE, adrPow, adrPowE, adrTxt, adrTxtE, adrSav, adrSavE, adrPCo, adrI, adrL])) (fun u_2 H locs hw_3 hP hD hS => ?_)
  refine lv_iload_n hx hb dX7_share_15 rfl (lv_at hl 1 rfl) ?_
  refine rd_gof (va_runV (C := RX3) (As := [.int x0]) (rest := []) S (c_X3_shareOf l D cy g B c7 u_2.2 x0) (cwV 1 hts gX7_share_X3_shareOf rfl rfl rfl hd_X3_shareOf_V ⟨Nat.le_of_ble_eq_true rfl, Nat.le_of_ble_eq_true rfl⟩) ⟨rdP_blind, va_recv hK0.1 hP (ci := 1) (q0 := 10) rfl rfl, my_preP hK0 hS hAB (my_cP hP 2 rfl)⟩ rfl rfl hl.1 rfl (lv_room (Nat.le_of_ble_eq_true rfl)) dX7_share_16 ⟨Nat.le_of_ble_eq_true rfl, Nat.le_of_ble_eq_true rfl⟩) ?_
  refine vx_ret ?_
  exact W.fret hx hb hr (fun t ht hW => ⟨⟨(f_X3_shareOf u_2.2 x0), (u_2.1, u_2.2), rfl, (show f_X7_share st v w x0 = (.inr ((f_X3_shareOf u_2.2 x0), (u_2.1, u_2.2))) from by rw [f_X7_share, my_rf_ok hrf_1, hw_3, my_l_eq]), by show va_P D vwCl _ t.heap; rw [ht]; exact hP⟩, hS.F ht⟩) hS.2.2 dX7_share_19
theorem hd_X7_part_S : yX7_part.cls ≠ "java/lang/invoke/MethodHandle" ∧ yX7_part.cls ≠ "java/lang/invoke/VarHandle" ∧ (parseMethodDescriptor yX7_part.desc).map (fun d => d.parameters.length) = some 1 := by decide +kernel
theorem hd_X7_part_V : yX7_part.cls = RX7 ∧ yX7_part.cls ≠ "java/lang/invoke/MethodHandle" ∧ yX7_part.cls ≠ "java/lang/invoke/VarHandle" ∧ (parseMethodDescriptor yX7_part.desc).map (fun d => d.parameters.length) = some 1 := ⟨rfl, hd_X7_part_S⟩
def f_X7_part (st : Int32) (v : SetV) (w : PowV) (x0 : Int32) : Int32 ⊕ (UInt64 × (Int32 × PowV)) := (my_rf (f_X6_faultOfMember v x0) (my_l (f_X7_measured st v w) (fun (u_2 : Int32 × PowV) => (.inr ((f_X3_partOf u_2.2 x0), (u_2.1, u_2.2))))))
set_option maxHeartbeats 400000 in
set_option maxRecDepth 100000 in
theorem c_X7_part (l : Launch) (hl0 : l.stackTraces = false) (D : va_G) (cy : Nat → ClassId) (g : Nat → Nat) (B : Nat) (p70 : Nat) (b7 : Nat → Nat) (c7 : Nat → Nat) (d7 : Nat → Nat) (e7 : Nat → Nat) (h7 : Nat → Nat) (k7 : Nat → Nat) (st : Int32) (v : SetV) (w : PowV) (x0 : Int32) : vx_Met l yX7_part wsX7_part ({ frames := 7, cells := 1, slots := 6, locals := 132 }) (muP D cy g B (List.flatten [(wPCo p70 b7 c7 d7 e7 h7 k7 st), (wSet cy b7 v), (wPow cy c7 w)]) [.ref p70, .int x0]) (va_Qd (fun (r : UInt64) (u : Int32 × PowV) => f_X7_part st v w x0 = .inr (r, u)) (fun u t => va_P D vwCl (List.flatten [(wPCo p70 b7 c7 d7 e7 h7 k7 u.1), (wSet cy b7 v), (wPow cy c7 u.2)]) t.heap) (muA (List.flatten [(wPCo p70 b7 c7 d7 e7 h7 k7 st), (wSet cy b7 v), (wPow cy c7 w)]))) (vx_X (fun (k : Int32) => f_X7_part st v w x0 = .inl k) (fun E k t => exE k E ∧ va_P D vwCl (List.flatten [(wPCo p70 b7 c7 d7 e7 h7 k7 st), (wSet cy b7 v), (wPow cy c7 w)]) t.heap) (muA (List.flatten [(wPCo p70 b7 c7 d7 e7 h7 k7 st), (wSet cy b7 v), (wPow cy c7 w)]))) 1 6 (muA (List.flatten [(wPCo p70 b7 c7 d7 e7 h7 k7 st), (wSet cy b7 v), (wPow cy c7 w)])) := by
  refine vx_ofW (cc := cX7_part) (maxL := 2) (ret := (some .double)) (by decide) rfl ?_
  intro p e s m args below meth c s₁ BB hml hout hv
  obtain ⟨rfl, hP, hK0, hD0⟩ := hv
  have hx := BB.exec
  have hb := BB.bytes
  have hr := BB.returns
  have hts := atoms_spec (ws := wsX7_part) BB.pre
  have hown : s.vm.findClass RX7 = some m.cls := findClass_of_methodNamed BB.named
  have hlocks := BB.notSynchronized
  have S := my_fix hx hb hml hown hts
  have inX7 : ∀ w ∈ wsX70, w ∈ wsX7_part := fun w h => List.mem_cons_of_mem _ (List.mem_append_left _ (List.mem_append_left _ (List.mem_append_left _ (List.mem_append_left _ (List.mem_append_left _ (List.mem_append_left _ (List.mem_append_right _ h)))))))
  have hAB := muB hD0
  have hD := muD hD0
  generalize hAe : muA (List.flatten [(wPCo p70 b7 c7 d7 e7 h7 k7 st), (wSet cy b7 v), (wPow cy c7 w)]) = A at hAB hD ⊢
  have hS : va_S A s.heap s.heap [] := va_S.rf
  have hl := lv_entry ([.ref p70, .int x0]) (n := 2) (Nat.le_of_ble_eq_true rfl)
  rw [lg_entry_eq]
  generalize (lg_sl ([.ref p70, .int x0]) ++ List.replicate (2 - (lg_sl ([.ref p70, .int x0])).length) Slot.unset).toArray = ls at hl ⊢
  have hl : lv_has ls 2 [(0, .ref p70), (1, .int x0)] := hl
  refine lv_aload_n hx hb dX7_part_0 rfl (lv_at hl 0 rfl) ?_
  refine va_get (D := D) (ci := 5) (v := .ref (b7 0)) (C := RX7) (T := TX7) (N := 7) hx hb hts inX7 hown hK0.1 hP 0 rfl rfl 0 (by decide) (hts (.fieldLink RX7 10 "PivotChamber" "setting" "LPivotChamber$Setting;") (List.mem_of_getElem? (i := 1) rfl)) (fun _ h9 => h9) rfl dX7_part_1 ?_
  refine lv_iload_n hx hb dX7_part_4 rfl (lv_at hl 1 rfl) ?_
  refine rd_goi (va_runV (C := RX6) (As := [.int x0]) (rest := []) S (c_X6_faultOfMember l D cy g B b7 v x0) (cwV 1 hts gX7_part_X6_faultOfMember rfl rfl rfl hd_X6_faultOfMember_V ⟨Nat.le_of_ble_eq_true rfl, Nat.le_of_ble_eq_true rfl⟩) ⟨rdP_blind, va_recv hK0.1 hP (ci := 4) (q0 := 1) rfl rfl, my_preP hK0 hS hAB (my_cP hP 1 rfl)⟩ rfl rfl hl.1 rfl (lv_room (Nat.le_of_ble_eq_true rfl)) dX7_part_5 ⟨Nat.le_of_ble_eq_true rfl, Nat.le_of_ble_eq_true rfl⟩) ?_
  refine my_rfx (vx_runS (As := [.int (f_X6_faultOfMember v x0)]) (rest := []) S (c_X7_refuse l hl0 D cy g B (f_X6_faultOfMember v x0)) (va_cwS 1 hts gX7_part_X7_refuse rfl rfl rfl hd_X7_refuse_S ⟨Nat.le_of_ble_eq_true rfl, Nat.le_of_ble_eq_true rfl⟩) ⟨rdP_blind, my_preV hK0 hS hAB hP [] rfl⟩ rfl rfl hl.1 rfl (lv_room (Nat.le_of_ble_eq_true rfl)) dX7_part_8 ⟨Nat.le_of_ble_eq_true rfl, Nat.le_of_ble_eq_true rfl⟩) hS hP hout hlocks (fun _ h => h) (Nat.le_of_ble_eq_true rfl) (Nat.le_of_ble_eq_true rfl) (fun hrf_1 E t h1 h2 h3 => ⟨(f_X6_faultOfMember v x0), (show f_X7_part st v w x0 = .inl (f_X6_faultOfMember v x0) from by rw [f_X7_part, my_rf_no hrf_1]), ⟨h1, h2⟩, h3⟩) (fun hrf_1 H locs hP hS => ?_)
  have hP : va_P D vwCl (List.flatten [(wPCo p70 b7 c7 d7 e7 h7 k7 st), (wSet cy b7 v), (wPow cy c7 w)]) H := hP
  refine lv_aload_n hx hb dX7_part_11 rfl (lv_at hl 0 rfl) ?_
  refine mu_allr (wf := fun (u_2 : Int32 × PowV) => (List.flatten [(wPCo p70 b7 c7 d7 e7 h7 k7 u_2.1), (wSet cy b7 v), (wPow cy c7 u_2.2)])) (va_runV (C := RX7) (As := []) (rest := []) S (c_X7_measured l D cy g B p70 b7 c7 d7 e7 h7 k7 st v w) (cwV 0 hts gX7_part_X7_measured rfl rfl rfl hd_X7_measured_V ⟨Nat.le_of_ble_eq_true rfl, Nat.le_of_ble_eq_true rfl⟩) ⟨muP_blind, va_recv hK0.1 hP (ci := 5) (q0 := 0) rfl rfl, my_preA hK0 hS hAB hP hD⟩ rfl rfl hl.1 rfl (lv_room (Nat.le_of_ble_eq_true rfl)) dX7_part_12 ⟨Nat.le_of_ble_eq_true rfl, Nat.le_of_ble_eq_true rfl⟩) hS hD (fun _ => my_flat_adr (by simp only [List.map_cons, List.map_nil, adrSet, adrSetE, adrPow, adrPowE, adrTxt, adrTxtE, adrSav, adrSavE, adrPCo, adrI, adrL])) (fun u_2 H locs hw_3 hP hD hS => ?_)
  refine lv_iload_n hx hb dX7_part_15 rfl (lv_at hl 1 rfl) ?_
  refine rd_god (va_runV (C := RX3) (As := [.int x0]) (rest := []) S (c_X3_partOf l D cy g B c7 u_2.2 x0) (cwV 1 hts gX7_part_X3_partOf rfl rfl rfl hd_X3_partOf_V ⟨Nat.le_of_ble_eq_true rfl, Nat.le_of_ble_eq_true rfl⟩) ⟨rdP_blind, va_recv hK0.1 hP (ci := 1) (q0 := 10) rfl rfl, my_preP hK0 hS hAB (my_cP hP 2 rfl)⟩ rfl rfl hl.1 rfl (lv_room (Nat.le_of_ble_eq_true rfl)) dX7_part_16 ⟨Nat.le_of_ble_eq_true rfl, Nat.le_of_ble_eq_true rfl⟩) ?_
  refine vx_ret ?_
  exact W.dret hx hb hr (fun t ht hW => ⟨⟨(f_X3_partOf u_2.2 x0), (u_2.1, u_2.2), rfl, (show f_X7_part st v w x0 = (.inr ((f_X3_partOf u_2.2 x0), (u_2.1, u_2.2))) from by rw [f_X7_part, my_rf_ok hrf_1, hw_3, my_l_eq]), by show va_P D vwCl _ t.heap; rw [ht]; exact hP⟩, hS.F ht⟩) hS.2.2 dX7_part_19
