theorem hd_X7_add_S : yX7_add.cls ≠ "java/lang/invoke/MethodHandle" ∧ yX7_add.cls ≠ "java/lang/invoke/VarHandle" ∧ (parseMethodDescriptor yX7_add.desc).map (fun d => d.parameters.length) = some 1 := by decide +kernel
theorem hd_X7_add_V : yX7_add.cls = RX7 ∧ yX7_add.cls ≠ "java/lang/invoke/MethodHandle" ∧ yX7_add.cls ≠ "java/lang/invoke/VarHandle" ∧ (parseMethodDescriptor yX7_add.desc).map (fun d => d.parameters.length) = some 1 := ⟨rfl, hd_X7_add_S⟩
def f_X7_add (st : Int32) (v : SetV) (z : (Int32 × Int32)) (s0 : SetV) (s1 : SetV) (s2 : SetV) (s3 : SetV) (x0 : Int32) : Int32 ⊕ (Int32 × (Int32 × SetV × (Int32 × Int32) × SetV × SetV × SetV × SetV)) := (my_s (f_X7_perform st v z s0 s1 s2 s3 0 x0 0) (fun (r_3 : Int32) (u_1 : Int32 × SetV × (Int32 × Int32) × SetV × SetV × SetV × SetV) => (.inr (r_3, (u_1.1, u_1.2.1, u_1.2.2.1, u_1.2.2.2.1, u_1.2.2.2.2.1, u_1.2.2.2.2.2.1, u_1.2.2.2.2.2.2)))))
set_option maxHeartbeats 400000 in
set_option maxRecDepth 100000 in
theorem c_X7_add (l : Launch) (hl0 : l.stackTraces = false) (D : va_G) (cy : Nat → ClassId) (g : Nat → Nat) (B : Nat) (p70 : Nat) (b7 : Nat → Nat) (c7 : Nat → Nat) (d7 : Nat → Nat) (e7 : Nat → Nat) (h7 : Nat → Nat) (k7 : Nat → Nat) (q : Nat → Nat → Nat) (st : Int32) (v : SetV) (z : (Int32 × Int32)) (s0 : SetV) (s1 : SetV) (s2 : SetV) (s3 : SetV) (x0 : Int32) : vx_Met l yX7_add wsX7_add ({ frames := 8, cells := 1, slots := 6, locals := 133 }) (muP D cy g B (List.flatten [(wPCo p70 b7 c7 d7 e7 h7 k7 st), (wSet cy b7 v), (wSav cy q h7 z), (wSet cy (q 0) s0), (wSet cy (q 1) s1), (wSet cy (q 2) s2), (wSet cy (q 3) s3)]) [.ref p70, .int x0]) (va_Qi (fun (r : Int32) (u : Int32 × SetV × (Int32 × Int32) × SetV × SetV × SetV × SetV) => f_X7_add st v z s0 s1 s2 s3 x0 = .inr (r, u)) (fun u t => va_P D vwCl (List.flatten [(wPCo p70 b7 c7 d7 e7 h7 k7 u.1), (wSet cy b7 u.2.1), (wSav cy q h7 u.2.2.1), (wSet cy (q 0) u.2.2.2.1), (wSet cy (q 1) u.2.2.2.2.1), (wSet cy (q 2) u.2.2.2.2.2.1), (wSet cy (q 3) u.2.2.2.2.2.2)]) t.heap) (muA (List.flatten [(wPCo p70 b7 c7 d7 e7 h7 k7 st), (wSet cy b7 v), (wSav cy q h7 z), (wSet cy (q 0) s0), (wSet cy (q 1) s1), (wSet cy (q 2) s2), (wSet cy (q 3) s3)]))) (vx_X (fun (k : Int32) => f_X7_add st v z s0 s1 s2 s3 x0 = .inl k) (fun E k t => exE k E ∧ va_P D vwCl (List.flatten [(wPCo p70 b7 c7 d7 e7 h7 k7 st), (wSet cy b7 v), (wSav cy q h7 z), (wSet cy (q 0) s0), (wSet cy (q 1) s1), (wSet cy (q 2) s2), (wSet cy (q 3) s3)]) t.heap) (muA (List.flatten [(wPCo p70 b7 c7 d7 e7 h7 k7 st), (wSet cy b7 v), (wSav cy q h7 z), (wSet cy (q 0) s0), (wSet cy (q 1) s1), (wSet cy (q 2) s2), (wSet cy (q 3) s3)]))) 1 6 (muA (List.flatten [(wPCo p70 b7 c7 d7 e7 h7 k7 st), (wSet cy b7 v), (wSav cy q h7 z), (wSet cy (q 0) s0), (wSet cy (q 1) s1), (wSet cy (q 2) s2), (wSet cy (q 3) s3)])) := by
  refine vx_ofW (cc := cX7_add) (maxL := 2) (ret := (some .int)) (by decide) rfl ?_
  intro p e s m args below meth c s₁ BB hml hout hv
  obtain ⟨rfl, hP, hK0, hD0⟩ := hv
  have hx := BB.exec
  have hb := BB.bytes
  have hr := BB.returns
  have hts := atoms_spec (ws := wsX7_add) BB.pre
  have hown : s.vm.findClass RX7 = some m.cls := findClass_of_methodNamed BB.named
  have hlocks := BB.notSynchronized
  have S := my_fix hx hb hml hown hts
  have hAB := muB hD0
  have hD := muD hD0
  generalize hAe : muA (List.flatten [(wPCo p70 b7 c7 d7 e7 h7 k7 st), (wSet cy b7 v), (wSav cy q h7 z), (wSet cy (q 0) s0), (wSet cy (q 1) s1), (wSet cy (q 2) s2), (wSet cy (q 3) s3)]) = A at hAB hD ⊢
  have hS : va_S A s.heap s.heap [] := va_S.rf
  have hl := lv_entry ([.ref p70, .int x0]) (n := 2) (Nat.le_of_ble_eq_true rfl)
  rw [lg_entry_eq]
  generalize (lg_sl ([.ref p70, .int x0]) ++ List.replicate (2 - (lg_sl ([.ref p70, .int x0])).length) Slot.unset).toArray = ls at hl ⊢
  have hl : lv_has ls 2 [(0, .ref p70), (1, .int x0)] := hl
  refine lv_aload_n hx hb dX7_add_0 rfl (lv_at hl 0 rfl) ?_
  refine va_gets hx hb ((hK0.2.2.narrow hAB).2.2.2.1.1 0 (by decide)).1 hS hown (hts (.fieldLink RX7 47 "PivotChamber$Command" "ADD" "LPivotChamber$Command;") (List.mem_of_getElem? (i := 1) rfl)) (fun _ h => h) dX7_add_1 ?_
  refine lv_iload_n hx hb dX7_add_4 rfl (lv_at hl 1 rfl) ?_
  refine lv_iconst (v := 0) hx hb dX7_add_5 (by decide) ?_
  refine my_pxi (wf := fun (u_1 : Int32 × SetV × (Int32 × Int32) × SetV × SetV × SetV × SetV) => (List.flatten [(wPCo p70 b7 c7 d7 e7 h7 k7 u_1.1), (wSet cy b7 u_1.2.1), (wSav cy q h7 u_1.2.2.1), (wSet cy (q 0) u_1.2.2.2.1), (wSet cy (q 1) u_1.2.2.2.2.1), (wSet cy (q 2) u_1.2.2.2.2.2.1), (wSet cy (q 3) u_1.2.2.2.2.2.2)])) (vx_runV (C := RX7) (As := [.ref (g (10 + 0)), .int x0, .int 0]) (rest := []) S (c_X7_perform l hl0 D cy g B p70 b7 c7 d7 e7 h7 k7 q st v z s0 s1 s2 s3 0 x0 0 (by decide)) (cwV 3 hts gX7_add_X7_perform rfl rfl rfl hd_X7_perform_V ⟨Nat.le_of_ble_eq_true rfl, Nat.le_of_ble_eq_true rfl⟩) ⟨muP_blind, va_recv hK0.1 hP (ci := 5) (q0 := 0) rfl rfl, my_preA hK0 hS hAB hP hD⟩ rfl rfl hl.1 rfl (lv_room (Nat.le_of_ble_eq_true rfl)) dX7_add_6 ⟨Nat.le_of_ble_eq_true rfl, Nat.le_of_ble_eq_true rfl⟩) hS hD (fun _ => my_flat_adr (by simp only [List.map_cons, List.map_nil, adrSet, adrSetE, adrPow, adrPowE, adrTxt, adrTxtE, adrSav, adrSavE, adrPCo, adrI, adrL])) hout hlocks (fun _ h => h) (Nat.le_of_ble_eq_true rfl) (Nat.le_of_ble_eq_true rfl) (fun k E t h0 h1 h2 h3 => ⟨k, (show f_X7_add st v z s0 s1 s2 s3 x0 = .inl k from by rw [f_X7_add, h0, my_s_inl]), ⟨h1, h2⟩, h3⟩) (fun r_3 u_1 H locs hw_2 hP hD hS => ?_)
  refine vx_ret ?_
  exact W.iret hx hb hr (fun t ht hW => ⟨⟨r_3, (u_1.1, u_1.2.1, u_1.2.2.1, u_1.2.2.2.1, u_1.2.2.2.2.1, u_1.2.2.2.2.2.1, u_1.2.2.2.2.2.2), rfl, (show f_X7_add st v z s0 s1 s2 s3 x0 = (.inr (r_3, (u_1.1, u_1.2.1, u_1.2.2.1, u_1.2.2.2.1, u_1.2.2.2.2.1, u_1.2.2.2.2.2.1, u_1.2.2.2.2.2.2))) from by rw [f_X7_add, hw_2, my_s_inr]), by show va_P D vwCl _ t.heap; rw [ht]; exact hP⟩, hS.F ht⟩) hS.2.2 dX7_add_9
theorem hd_X7_setWeight_S : yX7_setWeight.cls ≠ "java/lang/invoke/MethodHandle" ∧ yX7_setWeight.cls ≠ "java/lang/invoke/VarHandle" ∧ (parseMethodDescriptor yX7_setWeight.desc).map (fun d => d.parameters.length) = some 2 := by decide +kernel
theorem hd_X7_setWeight_V : yX7_setWeight.cls = RX7 ∧ yX7_setWeight.cls ≠ "java/lang/invoke/MethodHandle" ∧ yX7_setWeight.cls ≠ "java/lang/invoke/VarHandle" ∧ (parseMethodDescriptor yX7_setWeight.desc).map (fun d => d.parameters.length) = some 2 := ⟨rfl, hd_X7_setWeight_S⟩
def f_X7_setWeight (st : Int32) (v : SetV) (z : (Int32 × Int32)) (s0 : SetV) (s1 : SetV) (s2 : SetV) (s3 : SetV) (x0 : Int32) (x1 : Int32) : Int32 ⊕ (Int32 × (Int32 × SetV × (Int32 × Int32) × SetV × SetV × SetV × SetV)) := (my_s (f_X7_perform st v z s0 s1 s2 s3 1 x0 x1) (fun (r_3 : Int32) (u_1 : Int32 × SetV × (Int32 × Int32) × SetV × SetV × SetV × SetV) => (.inr (r_3, (u_1.1, u_1.2.1, u_1.2.2.1, u_1.2.2.2.1, u_1.2.2.2.2.1, u_1.2.2.2.2.2.1, u_1.2.2.2.2.2.2)))))
set_option maxHeartbeats 400000 in
set_option maxRecDepth 100000 in
theorem c_X7_setWeight (l : Launch) (hl0 : l.stackTraces = false) (D : va_G) (cy : Nat → ClassId) (g : Nat → Nat) (B : Nat) (p70 : Nat) (b7 : Nat → Nat) (c7 : Nat → Nat) (d7 : Nat → Nat) (e7 : Nat → Nat) (h7 : Nat → Nat) (k7 : Nat → Nat) (q : Nat → Nat → Nat) (st : Int32) (v : SetV) (z : (Int32 × Int32)) (s0 : SetV) (s1 : SetV) (s2 : SetV) (s3 : SetV) (x0 : Int32) (x1 : Int32) : vx_Met l yX7_setWeight wsX7_setWeight ({ frames := 8, cells := 1, slots := 6, locals := 133 }) (muP D cy g B (List.flatten [(wPCo p70 b7 c7 d7 e7 h7 k7 st), (wSet cy b7 v), (wSav cy q h7 z), (wSet cy (q 0) s0), (wSet cy (q 1) s1), (wSet cy (q 2) s2), (wSet cy (q 3) s3)]) [.ref p70, .int x0, .int x1]) (va_Qi (fun (r : Int32) (u : Int32 × SetV × (Int32 × Int32) × SetV × SetV × SetV × SetV) => f_X7_setWeight st v z s0 s1 s2 s3 x0 x1 = .inr (r, u)) (fun u t => va_P D vwCl (List.flatten [(wPCo p70 b7 c7 d7 e7 h7 k7 u.1), (wSet cy b7 u.2.1), (wSav cy q h7 u.2.2.1), (wSet cy (q 0) u.2.2.2.1), (wSet cy (q 1) u.2.2.2.2.1), (wSet cy (q 2) u.2.2.2.2.2.1), (wSet cy (q 3) u.2.2.2.2.2.2)]) t.heap) (muA (List.flatten [(wPCo p70 b7 c7 d7 e7 h7 k7 st), (wSet cy b7 v), (wSav cy q h7 z), (wSet cy (q 0) s0), (wSet cy (q 1) s1), (wSet cy (q 2) s2), (wSet cy (q 3) s3)]))) (vx_X (fun (k : Int32) => f_X7_setWeight st v z s0 s1 s2 s3 x0 x1 = .inl k) (fun E k t => exE k E ∧ va_P D vwCl (List.flatten [(wPCo p70 b7 c7 d7 e7 h7 k7 st), (wSet cy b7 v), (wSav cy q h7 z), (wSet cy (q 0) s0), (wSet cy (q 1) s1), (wSet cy (q 2) s2), (wSet cy (q 3) s3)]) t.heap) (muA (List.flatten [(wPCo p70 b7 c7 d7 e7 h7 k7 st), (wSet cy b7 v), (wSav cy q h7 z), (wSet cy (q 0) s0), (wSet cy (q 1) s1), (wSet cy (q 2) s2), (wSet cy (q 3) s3)]))) 1 6 (muA (List.flatten [(wPCo p70 b7 c7 d7 e7 h7 k7 st), (wSet cy b7 v), (wSav cy q h7 z), (wSet cy (q 0) s0), (wSet cy (q 1) s1), (wSet cy (q 2) s2), (wSet cy (q 3) s3)])) := by
  refine vx_ofW (cc := cX7_setWeight) (maxL := 3) (ret := (some .int)) (by decide) rfl ?_
  intro p e s m args below meth c s₁ BB hml hout hv
  obtain ⟨rfl, hP, hK0, hD0⟩ := hv
  have hx := BB.exec
  have hb := BB.bytes
  have hr := BB.returns
  have hts := atoms_spec (ws := wsX7_setWeight) BB.pre
  have hown : s.vm.findClass RX7 = some m.cls := findClass_of_methodNamed BB.named
  have hlocks := BB.notSynchronized
  have S := my_fix hx hb hml hown hts
  have hAB := muB hD0
  have hD := muD hD0
  generalize hAe : muA (List.flatten [(wPCo p70 b7 c7 d7 e7 h7 k7 st), (wSet cy b7 v), (wSav cy q h7 z), (wSet cy (q 0) s0), (wSet cy (q 1) s1), (wSet cy (q 2) s2), (wSet cy (q 3) s3)]) = A at hAB hD ⊢
  have hS : va_S A s.heap s.heap [] := va_S.rf
  have hl := lv_entry ([.ref p70, .int x0, .int x1]) (n := 3) (Nat.le_of_ble_eq_true rfl)
  rw [lg_entry_eq]
  generalize (lg_sl ([.ref p70, .int x0, .int x1]) ++ List.replicate (3 - (lg_sl ([.ref p70, .int x0, .int x1])).length) Slot.unset).toArray = ls at hl ⊢
  have hl : lv_has ls 3 [(0, .ref p70), (1, .int x0), (2, .int x1)] := hl
  refine lv_aload_n hx hb dX7_setWeight_0 rfl (lv_at hl 0 rfl) ?_
  refine va_gets hx hb ((hK0.2.2.narrow hAB).2.2.2.1.1 1 (by decide)).1 hS hown (hts (.fieldLink RX7 57 "PivotChamber$Command" "WEIGHT" "LPivotChamber$Command;") (List.mem_of_getElem? (i := 1) rfl)) (fun _ h => h) dX7_setWeight_1 ?_
  refine lv_iload_n hx hb dX7_setWeight_4 rfl (lv_at hl 1 rfl) ?_
  refine lv_iload_n hx hb dX7_setWeight_5 rfl (lv_at hl 2 rfl) ?_
  refine my_pxi (wf := fun (u_1 : Int32 × SetV × (Int32 × Int32) × SetV × SetV × SetV × SetV) => (List.flatten [(wPCo p70 b7 c7 d7 e7 h7 k7 u_1.1), (wSet cy b7 u_1.2.1), (wSav cy q h7 u_1.2.2.1), (wSet cy (q 0) u_1.2.2.2.1), (wSet cy (q 1) u_1.2.2.2.2.1), (wSet cy (q 2) u_1.2.2.2.2.2.1), (wSet cy (q 3) u_1.2.2.2.2.2.2)])) (vx_runV (C := RX7) (As := [.ref (g (10 + 1)), .int x0, .int x1]) (rest := []) S (c_X7_perform l hl0 D cy g B p70 b7 c7 d7 e7 h7 k7 q st v z s0 s1 s2 s3 1 x0 x1 (by decide)) (cwV 3 hts gX7_setWeight_X7_perform rfl rfl rfl hd_X7_perform_V ⟨Nat.le_of_ble_eq_true rfl, Nat.le_of_ble_eq_true rfl⟩) ⟨muP_blind, va_recv hK0.1 hP (ci := 5) (q0 := 0) rfl rfl, my_preA hK0 hS hAB hP hD⟩ rfl rfl hl.1 rfl (lv_room (Nat.le_of_ble_eq_true rfl)) dX7_setWeight_6 ⟨Nat.le_of_ble_eq_true rfl, Nat.le_of_ble_eq_true rfl⟩) hS hD (fun _ => my_flat_adr (by simp only [List.map_cons, List.map_nil, adrSet, adrSetE, adrPow, adrPowE, adrTxt, adrTxtE, adrSav, adrSavE, adrPCo, adrI, adrL])) hout hlocks (fun _ h => h) (Nat.le_of_ble_eq_true rfl) (Nat.le_of_ble_eq_true rfl) (fun k E t h0 h1 h2 h3 => ⟨k, (show f_X7_setWeight st v z s0 s1 s2 s3 x0 x1 = .inl k from by rw [f_X7_setWeight, h0, my_s_inl]), ⟨h1, h2⟩, h3⟩) (fun r_3 u_1 H locs hw_2 hP hD hS => ?_)
  refine vx_ret ?_
  exact W.iret hx hb hr (fun t ht hW => ⟨⟨r_3, (u_1.1, u_1.2.1, u_1.2.2.1, u_1.2.2.2.1, u_1.2.2.2.2.1, u_1.2.2.2.2.2.1, u_1.2.2.2.2.2.2), rfl, (show f_X7_setWeight st v z s0 s1 s2 s3 x0 x1 = (.inr (r_3, (u_1.1, u_1.2.1, u_1.2.2.1, u_1.2.2.2.1, u_1.2.2.2.2.1, u_1.2.2.2.2.2.1, u_1.2.2.2.2.2.2))) from by rw [f_X7_setWeight, hw_2, my_s_inr]), by show va_P D vwCl _ t.heap; rw [ht]; exact hP⟩, hS.F ht⟩) hS.2.2 dX7_setWeight_9
theorem hd_X7_setQuota_S : yX7_setQuota.cls ≠ "java/lang/invoke/MethodHandle" ∧ yX7_setQuota.cls ≠ "java/lang/invoke/VarHandle" ∧ (parseMethodDescriptor yX7_setQuota.desc).map (fun d => d.parameters.length) = some 1 := by decide +kernel
theorem hd_X7_setQuota_V : yX7_setQuota.cls = RX7 ∧ yX7_setQuota.cls ≠ "java/lang/invoke/MethodHandle" ∧ yX7_setQuota.cls ≠ "java/lang/invoke/VarHandle" ∧ (parseMethodDescriptor yX7_setQuota.desc).map (fun d => d.parameters.length) = some 1 := ⟨rfl, hd_X7_setQuota_S⟩
def f_X7_setQuota (st : Int32) (v : SetV) (z : (Int32 × Int32)) (s0 : SetV) (s1 : SetV) (s2 : SetV) (s3 : SetV) (x0 : Int32) : Int32 ⊕ (Int32 × (Int32 × SetV × (Int32 × Int32) × SetV × SetV × SetV × SetV)) := (my_s (f_X7_perform st v z s0 s1 s2 s3 2 x0 0) (fun (r_3 : Int32) (u_1 : Int32 × SetV × (Int32 × Int32) × SetV × SetV × SetV × SetV) => (.inr (r_3, (u_1.1, u_1.2.1, u_1.2.2.1, u_1.2.2.2.1, u_1.2.2.2.2.1, u_1.2.2.2.2.2.1, u_1.2.2.2.2.2.2)))))
set_option maxHeartbeats 400000 in
set_option maxRecDepth 100000 in
theorem c_X7_setQuota (l : Launch) (hl0 : l.stackTraces = false) (D : va_G) (cy : Nat → ClassId) (g : Nat → Nat) (B : Nat) (p70 : Nat) (b7 : Nat → Nat) (c7 : Nat → Nat) (d7 : Nat → Nat) (e7 : Nat → Nat) (h7 : Nat → Nat) (k7 : Nat → Nat) (q : Nat → Nat → Nat) (st : Int32) (v : SetV) (z : (Int32 × Int32)) (s0 : SetV) (s1 : SetV) (s2 : SetV) (s3 : SetV) (x0 : Int32) : vx_Met l yX7_setQuota wsX7_setQuota ({ frames := 8, cells := 1, slots := 6, locals := 133 }) (muP D cy g B (List.flatten [(wPCo p70 b7 c7 d7 e7 h7 k7 st), (wSet cy b7 v), (wSav cy q h7 z), (wSet cy (q 0) s0), (wSet cy (q 1) s1), (wSet cy (q 2) s2), (wSet cy (q 3) s3)]) [.ref p70, .int x0]) (va_Qi (fun (r : Int32) (u : Int32 × SetV × (Int32 × Int32) × SetV × SetV × SetV × SetV) => f_X7_setQuota st v z s0 s1 s2 s3 x0 = .inr (r, u)) (fun u t => va_P D vwCl (List.flatten [(wPCo p70 b7 c7 d7 e7 h7 k7 u.1), (wSet cy b7 u.2.1), (wSav cy q h7 u.2.2.1), (wSet cy (q 0) u.2.2.2.1), (wSet cy (q 1) u.2.2.2.2.1), (wSet cy (q 2) u.2.2.2.2.2.1), (wSet cy (q 3) u.2.2.2.2.2.2)]) t.heap) (muA (List.flatten [(wPCo p70 b7 c7 d7 e7 h7 k7 st), (wSet cy b7 v), (wSav cy q h7 z), (wSet cy (q 0) s0), (wSet cy (q 1) s1), (wSet cy (q 2) s2), (wSet cy (q 3) s3)]))) (vx_X (fun (k : Int32) => f_X7_setQuota st v z s0 s1 s2 s3 x0 = .inl k) (fun E k t => exE k E ∧ va_P D vwCl (List.flatten [(wPCo p70 b7 c7 d7 e7 h7 k7 st), (wSet cy b7 v), (wSav cy q h7 z), (wSet cy (q 0) s0), (wSet cy (q 1) s1), (wSet cy (q 2) s2), (wSet cy (q 3) s3)]) t.heap) (muA (List.flatten [(wPCo p70 b7 c7 d7 e7 h7 k7 st), (wSet cy b7 v), (wSav cy q h7 z), (wSet cy (q 0) s0), (wSet cy (q 1) s1), (wSet cy (q 2) s2), (wSet cy (q 3) s3)]))) 1 6 (muA (List.flatten [(wPCo p70 b7 c7 d7 e7 h7 k7 st), (wSet cy b7 v), (wSav cy q h7 z), (wSet cy (q 0) s0), (wSet cy (q 1) s1), (wSet cy (q 2) s2), (wSet cy (q 3) s3)])) := by
  refine vx_ofW (cc := cX7_setQuota) (maxL := 2) (ret := (some .int)) (by decide) rfl ?_
  intro p e s m args below meth c s₁ BB hml hout hv
  obtain ⟨rfl, hP, hK0, hD0⟩ := hv
  have hx := BB.exec
  have hb := BB.bytes
  have hr := BB.returns
  have hts := atoms_spec (ws := wsX7_setQuota) BB.pre
  have hown : s.vm.findClass RX7 = some m.cls := findClass_of_methodNamed BB.named
  have hlocks := BB.notSynchronized
  have S := my_fix hx hb hml hown hts
  have hAB := muB hD0
  have hD := muD hD0
  generalize hAe : muA (List.flatten [(wPCo p70 b7 c7 d7 e7 h7 k7 st), (wSet cy b7 v), (wSav cy q h7 z), (wSet cy (q 0) s0), (wSet cy (q 1) s1), (wSet cy (q 2) s2), (wSet cy (q 3) s3)]) = A at hAB hD ⊢
  have hS : va_S A s.heap s.heap [] := va_S.rf
  have hl := lv_entry ([.ref p70, .int x0]) (n := 2) (Nat.le_of_ble_eq_true rfl)
  rw [lg_entry_eq]
  generalize (lg_sl ([.ref p70, .int x0]) ++ List.replicate (2 - (lg_sl ([.ref p70, .int x0])).length) Slot.unset).toArray = ls at hl ⊢
  have hl : lv_has ls 2 [(0, .ref p70), (1, .int x0)] := hl
  refine lv_aload_n hx hb dX7_setQuota_0 rfl (lv_at hl 0 rfl) ?_
  refine va_gets hx hb ((hK0.2.2.narrow hAB).2.2.2.1.1 2 (by decide)).1 hS hown (hts (.fieldLink RX7 60 "PivotChamber$Command" "QUOTA" "LPivotChamber$Command;") (List.mem_of_getElem? (i := 1) rfl)) (fun _ h => h) dX7_setQuota_1 ?_
  refine lv_iload_n hx hb dX7_setQuota_4 rfl (lv_at hl 1 rfl) ?_
  refine lv_iconst (v := 0) hx hb dX7_setQuota_5 (by decide) ?_
  refine my_pxi (wf := fun (u_1 : Int32 × SetV × (Int32 × Int32) × SetV × SetV × SetV × SetV) => (List.flatten [(wPCo p70 b7 c7 d7 e7 h7 k7 u_1.1), (wSet cy b7 u_1.2.1), (wSav cy q h7 u_1.2.2.1), (wSet cy (q 0) u_1.2.2.2.1), (wSet cy (q 1) u_1.2.2.2.2.1), (wSet cy (q 2) u_1.2.2.2.2.2.1), (wSet cy (q 3) u_1.2.2.2.2.2.2)])) (vx_runV (C := RX7) (As := [.ref (g (10 + 2)), .int x0, .int 0]) (rest := []) S (c_X7_perform l hl0 D cy g B p70 b7 c7 d7 e7 h7 k7 q st v z s0 s1 s2 s3 2 x0 0 (by decide)) (cwV 3 hts gX7_setQuota_X7_perform rfl rfl rfl hd_X7_perform_V ⟨Nat.le_of_ble_eq_true rfl, Nat.le_of_ble_eq_true rfl⟩) ⟨muP_blind, va_recv hK0.1 hP (ci := 5) (q0 := 0) rfl rfl, my_preA hK0 hS hAB hP hD⟩ rfl rfl hl.1 rfl (lv_room (Nat.le_of_ble_eq_true rfl)) dX7_setQuota_6 ⟨Nat.le_of_ble_eq_true rfl, Nat.le_of_ble_eq_true rfl⟩) hS hD (fun _ => my_flat_adr (by simp only [List.map_cons, List.map_nil, adrSet, adrSetE, adrPow, adrPowE, adrTxt, adrTxtE, adrSav, adrSavE, adrPCo, adrI, adrL])) hout hlocks (fun _ h => h) (Nat.le_of_ble_eq_true rfl) (Nat.le_of_ble_eq_true rfl) (fun k E t h0 h1 h2 h3 => ⟨k, (show f_X7_setQuota st v z s0 s1 s2 s3 x0 = .inl k from by rw [f_X7_setQuota, h0, my_s_inl]), ⟨h1, h2⟩, h3⟩) (fun r_3 u_1 H locs hw_2 hP hD hS => ?_)
  refine vx_ret ?_
  exact W.iret hx hb hr (fun t ht hW => ⟨⟨r_3, (u_1.1, u_1.2.1, u_1.2.2.1, u_1.2.2.2.1, u_1.2.2.2.2.1, u_1.2.2.2.2.2.1, u_1.2.2.2.2.2.2), rfl, (show f_X7_setQuota st v z s0 s1 s2 s3 x0 = (.inr (r_3, (u_1.1, u_1.2.1, u_1.2.2.1, u_1.2.2.2.1, u_1.2.2.2.2.1, u_1.2.2.2.2.2.1, u_1.2.2.2.2.2.2))) from by rw [f_X7_setQuota, hw_2, my_s_inr]), by show va_P D vwCl _ t.heap; rw [ht]; exact hP⟩, hS.F ht⟩) hS.2.2 dX7_setQuota_9
theorem hd_X7_follow_S : yX7_follow.cls ≠ "java/lang/invoke/MethodHandle" ∧ yX7_follow.cls ≠ "java/lang/invoke/VarHandle" ∧ (parseMethodDescriptor yX7_follow.desc).map (fun d => d.parameters.length) = some 2 := by decide +kernel
theorem hd_X7_follow_V : yX7_follow.cls = RX7 ∧ yX7_follow.cls ≠ "java/lang/invoke/MethodHandle" ∧ yX7_follow.cls ≠ "java/lang/invoke/VarHandle" ∧ (parseMethodDescriptor yX7_follow.desc).map (fun d => d.parameters.length) = some 2 := ⟨rfl, hd_X7_follow_S⟩
def f_X7_follow (st : Int32) (v : SetV) (z : (Int32 × Int32)) (s0 : SetV) (s1 : SetV) (s2 : SetV) (s3 : SetV) (x0 : Int32) (x1 : Int32) : Int32 ⊕ (Int32 × (Int32 × SetV × (Int32 × Int32) × SetV × SetV × SetV × SetV)) := (my_s (f_X7_perform st v z s0 s1 s2 s3 3 x0 x1) (fun (r_3 : Int32) (u_1 : Int32 × SetV × (Int32 × Int32) × SetV × SetV × SetV × SetV) => (.inr (r_3, (u_1.1, u_1.2.1, u_1.2.2.1, u_1.2.2.2.1, u_1.2.2.2.2.1, u_1.2.2.2.2.2.1, u_1.2.2.2.2.2.2)))))
set_option maxHeartbeats 400000 in
set_option maxRecDepth 100000 in
theorem c_X7_follow (l : Launch) (hl0 : l.stackTraces = false) (D : va_G) (cy : Nat → ClassId) (g : Nat → Nat) (B : Nat) (p70 : Nat) (b7 : Nat → Nat) (c7 : Nat → Nat) (d7 : Nat → Nat) (e7 : Nat → Nat) (h7 : Nat → Nat) (k7 : Nat → Nat) (q : Nat → Nat → Nat) (st : Int32) (v : SetV) (z : (Int32 × Int32)) (s0 : SetV) (s1 : SetV) (s2 : SetV) (s3 : SetV) (x0 : Int32) (x1 : Int32) : vx_Met l yX7_follow wsX7_follow ({ frames := 8, cells := 1, slots := 6, locals := 133 }) (muP D cy g B (List.flatten [(wPCo p70 b7 c7 d7 e7 h7 k7 st), (wSet cy b7 v), (wSav cy q h7 z), (wSet cy (q 0) s0), (wSet cy (q 1) s1), (wSet cy (q 2) s2), (wSet cy (q 3) s3)]) [.ref p70, .int x0, .int x1]) (va_Qi (fun (r : Int32) (u : Int32 × SetV × (Int32 × Int32) × SetV × SetV × SetV × SetV) => f_X7_follow st v z s0 s1 s2 s3 x0 x1 = .inr (r, u)) (fun u t => va_P D vwCl (List.flatten [(wPCo p70 b7 c7 d7 e7 h7 k7 u.1), (wSet cy b7 u.2.1), (wSav cy q h7 u.2.2.1), (wSet cy (q 0) u.2.2.2.1), (wSet cy (q 1) u.2.2.2.2.1), (wSet cy (q 2) u.2.2.2.2.2.1), (wSet cy (q 3) u.2.2.2.2.2.2)]) t.heap) (muA (List.flatten [(wPCo p70 b7 c7 d7 e7 h7 k7 st), (wSet cy b7 v), (wSav cy q h7 z), (wSet cy (q 0) s0), (wSet cy (q 1) s1), (wSet cy (q 2) s2), (wSet cy (q 3) s3)]))) (vx_X (fun (k : Int32) => f_X7_follow st v z s0 s1 s2 s3 x0 x1 = .inl k) (fun E k t => exE k E ∧ va_P D vwCl (List.flatten [(wPCo p70 b7 c7 d7 e7 h7 k7 st), (wSet cy b7 v), (wSav cy q h7 z), (wSet cy (q 0) s0), (wSet cy (q 1) s1), (wSet cy (q 2) s2), (wSet cy (q 3) s3)]) t.heap) (muA (List.flatten [(wPCo p70 b7 c7 d7 e7 h7 k7 st), (wSet cy b7 v), (wSav cy q h7 z), (wSet cy (q 0) s0), (wSet cy (q 1) s1), (wSet cy (q 2) s2), (wSet cy (q 3) s3)]))) 1 6 (muA (List.flatten [(wPCo p70 b7 c7 d7 e7 h7 k7 st), (wSet cy b7 v), (wSav cy q h7 z), (wSet cy (q 0) s0), (wSet cy (q 1) s1), (wSet cy (q 2) s2), (wSet cy (q 3) s3)])) := by
  refine vx_ofW (cc := cX7_follow) (maxL := 3) (ret := (some .int)) (by decide) rfl ?_
  intro p e s m args below meth c s₁ BB hml hout hv
  obtain ⟨rfl, hP, hK0, hD0⟩ := hv
  have hx := BB.exec
  have hb := BB.bytes
  have hr := BB.returns
  have hts := atoms_spec (ws := wsX7_follow) BB.pre
  have hown : s.vm.findClass RX7 = some m.cls := findClass_of_methodNamed BB.named
  have hlocks := BB.notSynchronized
  have S := my_fix hx hb hml hown hts
  have hAB := muB hD0
  have hD := muD hD0
  generalize hAe : muA (List.flatten [(wPCo p70 b7 c7 d7 e7 h7 k7 st), (wSet cy b7 v), (wSav cy q h7 z), (wSet cy (q 0) s0), (wSet cy (q 1) s1), (wSet cy (q 2) s2), (wSet cy (q 3) s3)]) = A at hAB hD ⊢
  have hS : va_S A s.heap s.heap [] := va_S.rf
  have hl := lv_entry ([.ref p70, .int x0, .int x1]) (n := 3) (Nat.le_of_ble_eq_true rfl)
  rw [lg_entry_eq]
  generalize (lg_sl ([.ref p70, .int x0, .int x1]) ++ List.replicate (3 - (lg_sl ([.ref p70, .int x0, .int x1])).length) Slot.unset).toArray = ls at hl ⊢
  have hl : lv_has ls 3 [(0, .ref p70), (1, .int x0), (2, .int x1)] := hl
  refine lv_aload_n hx hb dX7_follow_0 rfl (lv_at hl 0 rfl) ?_
  refine va_gets hx hb ((hK0.2.2.narrow hAB).2.2.2.1.1 3 (by decide)).1 hS hown (hts (.fieldLink RX7 63 "PivotChamber$Command" "FOLLOW" "LPivotChamber$Command;") (List.mem_of_getElem? (i := 1) rfl)) (fun _ h => h) dX7_follow_1 ?_
  refine lv_iload_n hx hb dX7_follow_4 rfl (lv_at hl 1 rfl) ?_
  refine lv_iload_n hx hb dX7_follow_5 rfl (lv_at hl 2 rfl) ?_
  refine my_pxi (wf := fun (u_1 : Int32 × SetV × (Int32 × Int32) × SetV × SetV × SetV × SetV) => (List.flatten [(wPCo p70 b7 c7 d7 e7 h7 k7 u_1.1), (wSet cy b7 u_1.2.1), (wSav cy q h7 u_1.2.2.1), (wSet cy (q 0) u_1.2.2.2.1), (wSet cy (q 1) u_1.2.2.2.2.1), (wSet cy (q 2) u_1.2.2.2.2.2.1), (wSet cy (q 3) u_1.2.2.2.2.2.2)])) (vx_runV (C := RX7) (As := [.ref (g (10 + 3)), .int x0, .int x1]) (rest := []) S (c_X7_perform l hl0 D cy g B p70 b7 c7 d7 e7 h7 k7 q st v z s0 s1 s2 s3 3 x0 x1 (by decide)) (cwV 3 hts gX7_follow_X7_perform rfl rfl rfl hd_X7_perform_V ⟨Nat.le_of_ble_eq_true rfl, Nat.le_of_ble_eq_true rfl⟩) ⟨muP_blind, va_recv hK0.1 hP (ci := 5) (q0 := 0) rfl rfl, my_preA hK0 hS hAB hP hD⟩ rfl rfl hl.1 rfl (lv_room (Nat.le_of_ble_eq_true rfl)) dX7_follow_6 ⟨Nat.le_of_ble_eq_true rfl, Nat.le_of_ble_eq_true rfl⟩) hS hD (fun _ => my_flat_adr (by simp only [List.map_cons, List.map_nil, adrSet, adrSetE, adrPow, adrPowE, adrTxt, adrTxtE, adrSav, adrSavE, adrPCo, adrI, adrL])) hout hlocks (fun _ h => h) (Nat.le_of_ble_eq_true rfl) (Nat.le_of_ble_eq_true rfl) (fun k E t h0 h1 h2 h3 => ⟨k, (show f_X7_follow st v z s0 s1 s2 s3 x0 x1 = .inl k from by rw [f_X7_follow, h0, my_s_inl]), ⟨h1, h2⟩, h3⟩) (fun r_3 u_1 H locs hw_2 hP hD hS => ?_)
  refine vx_ret ?_
  exact W.iret hx hb hr (fun t ht hW => ⟨⟨r_3, (u_1.1, u_1.2.1, u_1.2.2.1, u_1.2.2.2.1, u_1.2.2.2.2.1, u_1.2.2.2.2.2.1, u_1.2.2.2.2.2.2), rfl, (show f_X7_follow st v z s0 s1 s2 s3 x0 x1 = (.inr (r_3, (u_1.1, u_1.2.1, u_1.2.2.1, u_1.2.2.2.1, u_1.2.2.2.2.1, u_1.2.2.2.2.2.1, u_1.2.2.2.2.2.2))) from by rw [f_X7_follow, hw_2, my_s_inr]), by show va_P D vwCl _ t.heap; rw [ht]; exact hP⟩, hS.F ht⟩) hS.2.2 dX7_follow_9
theorem hd_X7_leave_S : yX7_leave.cls ≠ "java/lang/invoke/MethodHandle" ∧ yX7_leave.cls ≠ "java/lang/invoke/VarHandle" ∧ (parseMethodDescriptor yX7_leave.desc).map (fun d => d.parameters.length) = some 1 := by decide +kernel
theorem hd_X7_leave_V : yX7_leave.cls = RX7 ∧ yX7_leave.cls ≠ "java/lang/invoke/MethodHandle" ∧ yX7_leave.cls ≠ "java/lang/invoke/VarHandle" ∧ (parseMethodDescriptor yX7_leave.desc).map (fun d => d.parameters.length) = some 1 := ⟨rfl, hd_X7_leave_S⟩
def f_X7_leave (st : Int32) (v : SetV) (z : (Int32 × Int32)) (s0 : SetV) (s1 : SetV) (s2 : SetV) (s3 : SetV) (x0 : Int32) : Int32 ⊕ (Int32 × (Int32 × SetV × (Int32 × Int32) × SetV × SetV × SetV × SetV)) := (my_s (f_X7_perform st v z s0 s1 s2 s3 4 x0 0) (fun (r_3 : Int32) (u_1 : Int32 × SetV × (Int32 × Int32) × SetV × SetV × SetV × SetV) => (.inr (r_3, (u_1.1, u_1.2.1, u_1.2.2.1, u_1.2.2.2.1, u_1.2.2.2.2.1, u_1.2.2.2.2.2.1, u_1.2.2.2.2.2.2)))))
set_option maxHeartbeats 400000 in
set_option maxRecDepth 100000 in
theorem c_X7_leave (l : Launch) (hl0 : l.stackTraces = false) (D : va_G) (cy : Nat → ClassId) (g : Nat → Nat) (B : Nat) (p70 : Nat) (b7 : Nat → Nat) (c7 : Nat → Nat) (d7 : Nat → Nat) (e7 : Nat → Nat) (h7 : Nat → Nat) (k7 : Nat → Nat) (q : Nat → Nat → Nat) (st : Int32) (v : SetV) (z : (Int32 × Int32)) (s0 : SetV) (s1 : SetV) (s2 : SetV) (s3 : SetV) (x0 : Int32) : vx_Met l yX7_leave wsX7_leave ({ frames := 8, cells := 1, slots := 6, locals := 133 }) (muP D cy g B (List.flatten [(wPCo p70 b7 c7 d7 e7 h7 k7 st), (wSet cy b7 v), (wSav cy q h7 z), (wSet cy (q 0) s0), (wSet cy (q 1) s1), (wSet cy (q 2) s2), (wSet cy (q 3) s3)]) [.ref p70, .int x0]) (va_Qi (fun (r : Int32) (u : Int32 × SetV × (Int32 × Int32) × SetV × SetV × SetV × SetV) => f_X7_leave st v z s0 s1 s2 s3 x0 = .inr (r, u)) (fun u t => va_P D vwCl (List.flatten [(wPCo p70 b7 c7 d7 e7 h7 k7 u.1), (wSet cy b7 u.2.1), (wSav cy q h7 u.2.2.1), (wSet cy (q 0) u.2.2.2.1), (wSet cy (q 1) u.2.2.2.2.1), (wSet cy (q 2) u.2.2.2.2.2.1), (wSet cy (q 3) u.2.2.2.2.2.2)]) t.heap) (muA (List.flatten [(wPCo p70 b7 c7 d7 e7 h7 k7 st), (wSet cy b7 v), (wSav cy q h7 z), (wSet cy (q 0) s0), (wSet cy (q 1) s1), (wSet cy (q 2) s2), (wSet cy (q 3) s3)]))) (vx_X (fun (k : Int32) => f_X7_leave st v z s0 s1 s2 s3 x0 = .inl k) (fun E k t => exE k E ∧ va_P D vwCl (List.flatten [(wPCo p70 b7 c7 d7 e7 h7 k7 st), (wSet cy b7 v), (wSav cy q h7 z), (wSet cy (q 0) s0), (wSet cy (q 1) s1), (wSet cy (q 2) s2), (wSet cy (q 3) s3)]) t.heap) (muA (List.flatten [(wPCo p70 b7 c7 d7 e7 h7 k7 st), (wSet cy b7 v), (wSav cy q h7 z), (wSet cy (q 0) s0), (wSet cy (q 1) s1), (wSet cy (q 2) s2), (wSet cy (q 3) s3)]))) 1 6 (muA (List.flatten [(wPCo p70 b7 c7 d7 e7 h7 k7 st), (wSet cy b7 v), (wSav cy q h7 z), (wSet cy (q 0) s0), (wSet cy (q 1) s1), (wSet cy (q 2) s2), (wSet cy (q 3) s3)])) := by
  refine vx_ofW (cc := cX7_leave) (maxL := 2) (ret := (some .int)) (by decide) rfl ?_
  intro p e s m args below meth c s₁ BB hml hout hv
  obtain ⟨rfl, hP, hK0, hD0⟩ := hv
  have hx := BB.exec
  have hb := BB.bytes
  have hr := BB.returns
  have hts := atoms_spec (ws := wsX7_leave) BB.pre
  have hown : s.vm.findClass RX7 = some m.cls := findClass_of_methodNamed BB.named
  have hlocks := BB.notSynchronized
  have S := my_fix hx hb hml hown hts
  have hAB := muB hD0
  have hD := muD hD0
  generalize hAe : muA (List.flatten [(wPCo p70 b7 c7 d7 e7 h7 k7 st), (wSet cy b7 v), (wSav cy q h7 z), (wSet cy (q 0) s0), (wSet cy (q 1) s1), (wSet cy (q 2) s2), (wSet cy (q 3) s3)]) = A at hAB hD ⊢
  have hS : va_S A s.heap s.heap [] := va_S.rf
  have hl := lv_entry ([.ref p70, .int x0]) (n := 2) (Nat.le_of_ble_eq_true rfl)
  rw [lg_entry_eq]
  generalize (lg_sl ([.ref p70, .int x0]) ++ List.replicate (2 - (lg_sl ([.ref p70, .int x0])).length) Slot.unset).toArray = ls at hl ⊢
  have hl : lv_has ls 2 [(0, .ref p70), (1, .int x0)] := hl
  refine lv_aload_n hx hb dX7_leave_0 rfl (lv_at hl 0 rfl) ?_
  refine va_gets hx hb ((hK0.2.2.narrow hAB).2.2.2.1.1 4 (by decide)).1 hS hown (hts (.fieldLink RX7 66 "PivotChamber$Command" "LEAVE" "LPivotChamber$Command;") (List.mem_of_getElem? (i := 1) rfl)) (fun _ h => h) dX7_leave_1 ?_
  refine lv_iload_n hx hb dX7_leave_4 rfl (lv_at hl 1 rfl) ?_
  refine lv_iconst (v := 0) hx hb dX7_leave_5 (by decide) ?_
  refine my_pxi (wf := fun (u_1 : Int32 × SetV × (Int32 × Int32) × SetV × SetV × SetV × SetV) => (List.flatten [(wPCo p70 b7 c7 d7 e7 h7 k7 u_1.1), (wSet cy b7 u_1.2.1), (wSav cy q h7 u_1.2.2.1), (wSet cy (q 0) u_1.2.2.2.1), (wSet cy (q 1) u_1.2.2.2.2.1), (wSet cy (q 2) u_1.2.2.2.2.2.1), (wSet cy (q 3) u_1.2.2.2.2.2.2)])) (vx_runV (C := RX7) (As := [.ref (g (10 + 4)), .int x0, .int 0]) (rest := []) S (c_X7_perform l hl0 D cy g B p70 b7 c7 d7 e7 h7 k7 q st v z s0 s1 s2 s3 4 x0 0 (by decide)) (cwV 3 hts gX7_leave_X7_perform rfl rfl rfl hd_X7_perform_V ⟨Nat.le_of_ble_eq_true rfl, Nat.le_of_ble_eq_true rfl⟩) ⟨muP_blind, va_recv hK0.1 hP (ci := 5) (q0 := 0) rfl rfl, my_preA hK0 hS hAB hP hD⟩ rfl rfl hl.1 rfl (lv_room (Nat.le_of_ble_eq_true rfl)) dX7_leave_6 ⟨Nat.le_of_ble_eq_true rfl, Nat.le_of_ble_eq_true rfl⟩) hS hD (fun _ => my_flat_adr (by simp only [List.map_cons, List.map_nil, adrSet, adrSetE, adrPow, adrPowE, adrTxt, adrTxtE, adrSav, adrSavE, adrPCo, adrI, adrL])) hout hlocks (fun _ h => h) (Nat.le_of_ble_eq_true rfl) (Nat.le_of_ble_eq_true rfl) (fun k E t h0 h1 h2 h3 => ⟨k, (show f_X7_leave st v z s0 s1 s2 s3 x0 = .inl k from by rw [f_X7_leave, h0, my_s_inl]), ⟨h1, h2⟩, h3⟩) (fun r_3 u_1 H locs hw_2 hP hD hS => ?_)
  refine vx_ret ?_
  exact W.iret hx hb hr (fun t ht hW => ⟨⟨r_3, (u_1.1, u_1.2.1, u_1.2.2.1, u_1.2.2.2.1, u_1.2.2.2.2.1, u_1.2.2.2.2.2.1, u_1.2.2.2.2.2.2), rfl, (show f_X7_leave st v z s0 s1 s2 s3 x0 = (.inr (r_3, (u_1.1, u_1.2.1, u_1.2.2.1, u_1.2.2.2.1, u_1.2.2.2.2.1, u_1.2.2.2.2.2.1, u_1.2.2.2.2.2.2))) from by rw [f_X7_leave, hw_2, my_s_inr]), by show va_P D vwCl _ t.heap; rw [ht]; exact hP⟩, hS.F ht⟩) hS.2.2 dX7_leave_9
theorem hd_X7_addRule_S : yX7_addRule.cls ≠ "java/lang/invoke/MethodHandle" ∧ yX7_addRule.cls ≠ "java/lang/invoke/VarHandle" ∧ (parseMethodDescriptor yX7_addRule.desc).map (fun d => d.parameters.length) = some 2 := by decide +kernel
theorem hd_X7_addRule_V : yX7_addRule.cls = RX7 ∧ yX7_addRule.cls ≠ "java/lang/invoke/MethodHandle" ∧ yX7_addRule.cls ≠ "java/lang/invoke/VarHandle" ∧ (parseMethodDescriptor yX7_addRule.desc).map (fun d => d.parameters.length) = some 2 := ⟨rfl, hd_X7_addRule_S⟩
def f_X7_addRule (st : Int32) (v : SetV) (z : (Int32 × Int32)) (s0 : SetV) (s1 : SetV) (s2 : SetV) (s3 : SetV) (x0 : Int32) (x1 : Int32) : Int32 ⊕ (Int32 × (Int32 × SetV × (Int32 × Int32) × SetV × SetV × SetV × SetV)) := (my_s (f_X7_perform st v z s0 s1 s2 s3 5 x0 x1) (fun (r_3 : Int32) (u_1 : Int32 × SetV × (Int32 × Int32) × SetV × SetV × SetV × SetV) => (.inr (r_3, (u_1.1, u_1.2.1, u_1.2.2.1, u_1.2.2.2.1, u_1.2.2.2.2.1, u_1.2.2.2.2.2.1, u_1.2.2.2.2.2.2)))))
set_option maxHeartbeats 400000 in
set_option maxRecDepth 100000 in
theorem c_X7_addRule (l : Launch) (hl0 : l.stackTraces = false) (D : va_G) (cy : Nat → ClassId) (g : Nat → Nat) (B : Nat) (p70 : Nat) (b7 : Nat → Nat) (c7 : Nat → Nat) (d7 : Nat → Nat) (e7 : Nat → Nat) (h7 : Nat → Nat) (k7 : Nat → Nat) (q : Nat → Nat → Nat) (st : Int32) (v : SetV) (z : (Int32 × Int32)) (s0 : SetV) (s1 : SetV) (s2 : SetV) (s3 : SetV) (x0 : Int32) (x1 : Int32) : vx_Met l yX7_addRule wsX7_addRule ({ frames := 8, cells := 1, slots := 6, locals := 133 }) (muP D cy g B (List.flatten [(wPCo p70 b7 c7 d7 e7 h7 k7 st), (wSet cy b7 v), (wSav cy q h7 z), (wSet cy (q 0) s0), (wSet cy (q 1) s1), (wSet cy (q 2) s2), (wSet cy (q 3) s3)]) [.ref p70, .int x0, .int x1]) (va_Qi (fun (r : Int32) (u : Int32 × SetV × (Int32 × Int32) × SetV × SetV × SetV × SetV) => f_X7_addRule st v z s0 s1 s2 s3 x0 x1 = .inr (r, u)) (fun u t => va_P D vwCl (List.flatten [(wPCo p70 b7 c7 d7 e7 h7 k7 u.1), (wSet cy b7 u.2.1), (wSav cy q h7 u.2.2.1), (wSet cy (q 0) u.2.2.2.1), (wSet cy (q 1) u.2.2.2.2.1), (wSet cy (q 2) u.2.2.2.2.2.1), (wSet cy (q 3) u.2.2.2.2.2.2)]) t.heap) (muA (List.flatten [(wPCo p70 b7 c7 d7 e7 h7 k7 st), (wSet cy b7 v), (wSav cy q h7 z), (wSet cy (q 0) s0), (wSet cy (q 1) s1), (wSet cy (q 2) s2), (wSet cy (q 3) s3)]))) (vx_X (fun (k : Int32) => f_X7_addRule st v z s0 s1 s2 s3 x0 x1 = .inl k) (fun E k t => exE k E ∧ va_P D vwCl (List.flatten [(wPCo p70 b7 c7 d7 e7 h7 k7 st), (wSet cy b7 v), (wSav cy q h7 z), (wSet cy (q 0) s0), (wSet cy (q 1) s1), (wSet cy (q 2) s2), (wSet cy (q 3) s3)]) t.heap) (muA (List.flatten [(wPCo p70 b7 c7 d7 e7 h7 k7 st), (wSet cy b7 v), (wSav cy q h7 z), (wSet cy (q 0) s0), (wSet cy (q 1) s1), (wSet cy (q 2) s2), (wSet cy (q 3) s3)]))) 1 6 (muA (List.flatten [(wPCo p70 b7 c7 d7 e7 h7 k7 st), (wSet cy b7 v), (wSav cy q h7 z), (wSet cy (q 0) s0), (wSet cy (q 1) s1), (wSet cy (q 2) s2), (wSet cy (q 3) s3)])) := by
  refine vx_ofW (cc := cX7_addRule) (maxL := 3) (ret := (some .int)) (by decide) rfl ?_
  intro p e s m args below meth c s₁ BB hml hout hv
  obtain ⟨rfl, hP, hK0, hD0⟩ := hv
  have hx := BB.exec
  have hb := BB.bytes
  have hr := BB.returns
  have hts := atoms_spec (ws := wsX7_addRule) BB.pre
  have hown : s.vm.findClass RX7 = some m.cls := findClass_of_methodNamed BB.named
  have hlocks := BB.notSynchronized
  have S := my_fix hx hb hml hown hts
  have hAB := muB hD0
  have hD := muD hD0
  generalize hAe : muA (List.flatten [(wPCo p70 b7 c7 d7 e7 h7 k7 st), (wSet cy b7 v), (wSav cy q h7 z), (wSet cy (q 0) s0), (wSet cy (q 1) s1), (wSet cy (q 2) s2), (wSet cy (q 3) s3)]) = A at hAB hD ⊢
  have hS : va_S A s.heap s.heap [] := va_S.rf
  have hl := lv_entry ([.ref p70, .int x0, .int x1]) (n := 3) (Nat.le_of_ble_eq_true rfl)
  rw [lg_entry_eq]
  generalize (lg_sl ([.ref p70, .int x0, .int x1]) ++ List.replicate (3 - (lg_sl ([.ref p70, .int x0, .int x1])).length) Slot.unset).toArray = ls at hl ⊢
  have hl : lv_has ls 3 [(0, .ref p70), (1, .int x0), (2, .int x1)] := hl
  refine lv_aload_n hx hb dX7_addRule_0 rfl (lv_at hl 0 rfl) ?_
  refine va_gets hx hb ((hK0.2.2.narrow hAB).2.2.2.1.1 5 (by decide)).1 hS hown (hts (.fieldLink RX7 69 "PivotChamber$Command" "RULE" "LPivotChamber$Command;") (List.mem_of_getElem? (i := 1) rfl)) (fun _ h => h) dX7_addRule_1 ?_
  refine lv_iload_n hx hb dX7_addRule_4 rfl (lv_at hl 1 rfl) ?_
  refine lv_iload_n hx hb dX7_addRule_5 rfl (lv_at hl 2 rfl) ?_
  refine my_pxi (wf := fun (u_1 : Int32 × SetV × (Int32 × Int32) × SetV × SetV × SetV × SetV) => (List.flatten [(wPCo p70 b7 c7 d7 e7 h7 k7 u_1.1), (wSet cy b7 u_1.2.1), (wSav cy q h7 u_1.2.2.1), (wSet cy (q 0) u_1.2.2.2.1), (wSet cy (q 1) u_1.2.2.2.2.1), (wSet cy (q 2) u_1.2.2.2.2.2.1), (wSet cy (q 3) u_1.2.2.2.2.2.2)])) (vx_runV (C := RX7) (As := [.ref (g (10 + 5)), .int x0, .int x1]) (rest := []) S (c_X7_perform l hl0 D cy g B p70 b7 c7 d7 e7 h7 k7 q st v z s0 s1 s2 s3 5 x0 x1 (by decide)) (cwV 3 hts gX7_addRule_X7_perform rfl rfl rfl hd_X7_perform_V ⟨Nat.le_of_ble_eq_true rfl, Nat.le_of_ble_eq_true rfl⟩) ⟨muP_blind, va_recv hK0.1 hP (ci := 5) (q0 := 0) rfl rfl, my_preA hK0 hS hAB hP hD⟩ rfl rfl hl.1 rfl (lv_room (Nat.le_of_ble_eq_true rfl)) dX7_addRule_6 ⟨Nat.le_of_ble_eq_true rfl, Nat.le_of_ble_eq_true rfl⟩) hS hD (fun _ => my_flat_adr (by simp only [List.map_cons, List.map_nil, adrSet, adrSetE, adrPow, adrPowE, adrTxt, adrTxtE, adrSav, adrSavE, adrPCo, adrI, adrL])) hout hlocks (fun _ h => h) (Nat.le_of_ble_eq_true rfl) (Nat.le_of_ble_eq_true rfl) (fun k E t h0 h1 h2 h3 => ⟨k, (show f_X7_addRule st v z s0 s1 s2 s3 x0 x1 = .inl k from by rw [f_X7_addRule, h0, my_s_inl]), ⟨h1, h2⟩, h3⟩) (fun r_3 u_1 H locs hw_2 hP hD hS => ?_)
  refine vx_ret ?_
  exact W.iret hx hb hr (fun t ht hW => ⟨⟨r_3, (u_1.1, u_1.2.1, u_1.2.2.1, u_1.2.2.2.1, u_1.2.2.2.2.1, u_1.2.2.2.2.2.1, u_1.2.2.2.2.2.2), rfl, (show f_X7_addRule st v z s0 s1 s2 s3 x0 x1 = (.inr (r_3, (u_1.1, u_1.2.1, u_1.2.2.1, u_1.2.2.2.1, u_1.2.2.2.2.1, u_1.2.2.2.2.2.1, u_1.2.2.2.2.2.2))) from by rw [f_X7_addRule, hw_2, my_s_inr]), by show va_P D vwCl _ t.heap; rw [ht]; exact hP⟩, hS.F ht⟩) hS.2.2 dX7_addRule_9
theorem hd_X7_dropRule_S : yX7_dropRule.cls ≠ "java/lang/invoke/MethodHandle" ∧ yX7_dropRule.cls ≠ "java/lang/invoke/VarHandle" ∧ (parseMethodDescriptor yX7_dropRule.desc).map (fun d => d.parameters.length) = some 1 := by decide +kernel
theorem hd_X7_dropRule_V : yX7_dropRule.cls = RX7 ∧ yX7_dropRule.cls ≠ "java/lang/invoke/MethodHandle" ∧ yX7_dropRule.cls ≠ "java/lang/invoke/VarHandle" ∧ (parseMethodDescriptor yX7_dropRule.desc).map (fun d => d.parameters.length) = some 1 := ⟨rfl, hd_X7_dropRule_S⟩
def f_X7_dropRule (st : Int32) (v : SetV) (z : (Int32 × Int32)) (s0 : SetV) (s1 : SetV) (s2 : SetV) (s3 : SetV) (x0 : Int32) : Int32 ⊕ (Int32 × (Int32 × SetV × (Int32 × Int32) × SetV × SetV × SetV × SetV)) := (my_s (f_X7_perform st v z s0 s1 s2 s3 6 x0 0) (fun (r_3 : Int32) (u_1 : Int32 × SetV × (Int32 × Int32) × SetV × SetV × SetV × SetV) => (.inr (r_3, (u_1.1, u_1.2.1, u_1.2.2.1, u_1.2.2.2.1, u_1.2.2.2.2.1, u_1.2.2.2.2.2.1, u_1.2.2.2.2.2.2)))))
set_option maxHeartbeats 400000 in
set_option maxRecDepth 100000 in
theorem c_X7_dropRule (l : Launch) (hl0 : l.stackTraces = false) (D : va_G) (cy : Nat → ClassId) (g : Nat → Nat) (B : Nat) (p70 : Nat) (b7 : Nat → Nat) (c7 : Nat → Nat) (d7 : Nat → Nat) (e7 : Nat → Nat) (h7 : Nat → Nat) (k7 : Nat → Nat) (q : Nat → Nat → Nat) (st : Int32) (v : SetV) (z : (Int32 × Int32)) (s0 : SetV) (s1 : SetV) (s2 : SetV) (s3 : SetV) (x0 : Int32) : vx_Met l yX7_dropRule wsX7_dropRule ({ frames := 8, cells := 1, slots := 6, locals := 133 }) (muP D cy g B (List.flatten [(wPCo p70 b7 c7 d7 e7 h7 k7 st), (wSet cy b7 v), (wSav cy q h7 z), (wSet cy (q 0) s0), (wSet cy (q 1) s1), (wSet cy (q 2) s2), (wSet cy (q 3) s3)]) [.ref p70, .int x0]) (va_Qi (fun (r : Int32) (u : Int32 × SetV × (Int32 × Int32) × SetV × SetV × SetV × SetV) => f_X7_dropRule st v z s0 s1 s2 s3 x0 = .inr (r, u)) (fun u t => va_P D vwCl (List.flatten [(wPCo p70 b7 c7 d7 e7 h7 k7 u.1), (wSet cy b7 u.2.1), (wSav cy q h7 u.2.2.1), (wSet cy (q 0) u.2.2.2.1), (wSet cy (q 1) u.2.2.2.2.1), (wSet cy (q 2) u.2.2.2.2.2.1), (wSet cy (q 3) u.2.2.2.2.2.2)]) t.heap) (muA (List.flatten [(wPCo p70 b7 c7 d7 e7 h7 k7 st), (wSet cy b7 v), (wSav cy q h7 z), (wSet cy (q 0) s0), (wSet cy (q 1) s1), (wSet cy (q 2) s2), (wSet cy (q 3) s3)]))) (vx_X (fun (k : Int32) => f_X7_dropRule st v z s0 s1 s2 s3 x0 = .inl k) (fun E k t => exE k E ∧ va_P D vwCl (List.flatten [(wPCo p70 b7 c7 d7 e7 h7 k7 st), (wSet cy b7 v), (wSav cy q h7 z), (wSet cy (q 0) s0), (wSet cy (q 1) s1), (wSet cy (q 2) s2), (wSet cy (q 3) s3)]) t.heap) (muA (List.flatten [(wPCo p70 b7 c7 d7 e7 h7 k7 st), (wSet cy b7 v), (wSav cy q h7 z), (wSet cy (q 0) s0), (wSet cy (q 1) s1), (wSet cy (q 2) s2), (wSet cy (q 3) s3)]))) 1 6 (muA (List.flatten [(wPCo p70 b7 c7 d7 e7 h7 k7 st), (wSet cy b7 v), (wSav cy q h7 z), (wSet cy (q 0) s0), (wSet cy (q 1) s1), (wSet cy (q 2) s2), (wSet cy (q 3) s3)])) := by
  refine vx_ofW (cc := cX7_dropRule) (maxL := 2) (ret := (some .int)) (by decide) rfl ?_
  intro p e s m args below meth c s₁ BB hml hout hv
  obtain ⟨rfl, hP, hK0, hD0⟩ := hv
  have hx := BB.exec
  have hb := BB.bytes
  have hr := BB.returns
  have hts := atoms_spec (ws := wsX7_dropRule) BB.pre
  have hown : s.vm.findClass RX7 = some m.cls := findClass_of_methodNamed BB.named
  have hlocks := BB.notSynchronized
  have S := my_fix hx hb hml hown hts
  have hAB := muB hD0
  have hD := muD hD0
  generalize hAe : muA (List.flatten [(wPCo p70 b7 c7 d7 e7 h7 k7 st), (wSet cy b7 v), (wSav cy q h7 z), (wSet cy (q 0) s0), (wSet cy (q 1) s1), (wSet cy (q 2) s2), (wSet cy (q 3) s3)]) = A at hAB hD ⊢
  have hS : va_S A s.heap s.heap [] := va_S.rf
  have hl := lv_entry ([.ref p70, .int x0]) (n := 2) (Nat.le_of_ble_eq_true rfl)
  rw [lg_entry_eq]
  generalize (lg_sl ([.ref p70, .int x0]) ++ List.replicate (2 - (lg_sl ([.ref p70, .int x0])).length) Slot.unset).toArray = ls at hl ⊢
  have hl : lv_has ls 2 [(0, .ref p70), (1, .int x0)] := hl
  refine lv_aload_n hx hb dX7_dropRule_0 rfl (lv_at hl 0 rfl) ?_
  refine va_gets hx hb ((hK0.2.2.narrow hAB).2.2.2.1.1 6 (by decide)).1 hS hown (hts (.fieldLink RX7 72 "PivotChamber$Command" "DROP" "LPivotChamber$Command;") (List.mem_of_getElem? (i := 1) rfl)) (fun _ h => h) dX7_dropRule_1 ?_
  refine lv_iload_n hx hb dX7_dropRule_4 rfl (lv_at hl 1 rfl) ?_
  refine lv_iconst (v := 0) hx hb dX7_dropRule_5 (by decide) ?_
  refine my_pxi (wf := fun (u_1 : Int32 × SetV × (Int32 × Int32) × SetV × SetV × SetV × SetV) => (List.flatten [(wPCo p70 b7 c7 d7 e7 h7 k7 u_1.1), (wSet cy b7 u_1.2.1), (wSav cy q h7 u_1.2.2.1), (wSet cy (q 0) u_1.2.2.2.1), (wSet cy (q 1) u_1.2.2.2.2.1), (wSet cy (q 2) u_1.2.2.2.2.2.1), (wSet cy (q 3) u_1.2.2.2.2.2.2)])) (vx_runV (C := RX7) (As := [.ref (g (10 + 6)), .int x0, .int 0]) (rest := []) S (c_X7_perform l hl0 D cy g B p70 b7 c7 d7 e7 h7 k7 q st v z s0 s1 s2 s3 6 x0 0 (by decide)) (cwV 3 hts gX7_dropRule_X7_perform rfl rfl rfl hd_X7_perform_V ⟨Nat.le_of_ble_eq_true rfl, Nat.le_of_ble_eq_true rfl⟩) ⟨muP_blind, va_recv hK0.1 hP (ci := 5) (q0 := 0) rfl rfl, my_preA hK0 hS hAB hP hD⟩ rfl rfl hl.1 rfl (lv_room (Nat.le_of_ble_eq_true rfl)) dX7_dropRule_6 ⟨Nat.le_of_ble_eq_true rfl, Nat.le_of_ble_eq_true rfl⟩) hS hD (fun _ => my_flat_adr (by simp only [List.map_cons, List.map_nil, adrSet, adrSetE, adrPow, adrPowE, adrTxt, adrTxtE, adrSav, adrSavE, adrPCo, adrI, adrL])) hout hlocks (fun _ h => h) (Nat.le_of_ble_eq_true rfl) (Nat.le_of_ble_eq_true rfl) (fun k E t h0 h1 h2 h3 => ⟨k, (show f_X7_dropRule st v z s0 s1 s2 s3 x0 = .inl k from by rw [f_X7_dropRule, h0, my_s_inl]), ⟨h1, h2⟩, h3⟩) (fun r_3 u_1 H locs hw_2 hP hD hS => ?_)
  refine vx_ret ?_
  exact W.iret hx hb hr (fun t ht hW => ⟨⟨r_3, (u_1.1, u_1.2.1, u_1.2.2.1, u_1.2.2.2.1, u_1.2.2.2.2.1, u_1.2.2.2.2.2.1, u_1.2.2.2.2.2.2), rfl, (show f_X7_dropRule st v z s0 s1 s2 s3 x0 = (.inr (r_3, (u_1.1, u_1.2.1, u_1.2.2.1, u_1.2.2.2.1, u_1.2.2.2.2.1, u_1.2.2.2.2.2.1, u_1.2.2.2.2.2.2))) from by rw [f_X7_dropRule, hw_2, my_s_inr]), by show va_P D vwCl _ t.heap; rw [ht]; exact hP⟩, hS.F ht⟩) hS.2.2 dX7_dropRule_9
