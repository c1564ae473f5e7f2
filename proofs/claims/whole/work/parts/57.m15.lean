theorem hd_X8_does_S : yX8_does.cls ≠ "java/lang/invoke/MethodHandle" ∧ yX8_does.cls ≠ "java/lang/invoke/VarHandle" ∧ (parseMethodDescriptor yX8_does.desc).map (fun d => d.parameters.length) = some 0 := by decide +kernel
theorem hd_X8_does_V : yX8_does.cls = RX8 ∧ yX8_does.cls ≠ "java/lang/invoke/MethodHandle" ∧ yX8_does.cls ≠ "java/lang/invoke/VarHandle" ∧ (parseMethodDescriptor yX8_does.desc).map (fun d => d.parameters.length) = some 0 := ⟨rfl, hd_X8_does_S⟩
def f_X8_does (y0 : Int32) (y1 : Int32) (y6 : Int32) (y7 : (Nat → Int32)) (y8 : (Nat → Int32)) (y13 : (Nat → Int32)) : Int32 × (Int32 × Int32 × (Nat → Int32) × (Nat → Int32)) := (if y6 = 0 then (my_b (f_X8_add y0 y1 y7 y8 (y13 0)) (fun (r_3 : Int32) (u_1 : Int32 × Int32 × (Nat → Int32) × (Nat → Int32)) => (r_3, (u_1.1, u_1.2.1, u_1.2.2.1, u_1.2.2.2)))) else (if y6 = 1 then (my_b (f_X8_setWeight y0 y1 y7 y8 (y13 0) (y13 1)) (fun (r_6 : Int32) (u_4 : Int32 × Int32 × (Nat → Int32) × (Nat → Int32)) => (r_6, (u_4.1, u_4.2.1, u_4.2.2.1, u_4.2.2.2)))) else (if y6 = 2 then (my_b (f_X8_setQuota y0 y1 y7 y8 (y13 0)) (fun (r_9 : Int32) (u_7 : Int32 × Int32 × (Nat → Int32) × (Nat → Int32)) => (r_9, (u_7.1, u_7.2.1, u_7.2.2.1, u_7.2.2.2)))) else (if y6 = 3 then (my_b (f_X8_follow y0 y1 y7 y8 (y13 0) (y13 1)) (fun (r_12 : Int32) (u_10 : Int32 × Int32 × (Nat → Int32) × (Nat → Int32)) => (r_12, (u_10.1, u_10.2.1, u_10.2.2.1, u_10.2.2.2)))) else (if y6 = 4 then (my_b (f_X8_leave y0 y1 y7 y8 (y13 0)) (fun (r_15 : Int32) (u_13 : Int32 × Int32 × (Nat → Int32) × (Nat → Int32)) => (r_15, (u_13.1, u_13.2.1, u_13.2.2.1, u_13.2.2.2)))) else (if y6 = 5 then (my_b (f_X8_addRule y0 y1 y7 y8 (y13 0) (y13 1)) (fun (r_18 : Int32) (u_16 : Int32 × Int32 × (Nat → Int32) × (Nat → Int32)) => (r_18, (u_16.1, u_16.2.1, u_16.2.2.1, u_16.2.2.2)))) else (my_b (f_X8_dropRule y0 y1 y7 y8 (y13 0)) (fun (r_21 : Int32) (u_19 : Int32 × Int32 × (Nat → Int32) × (Nat → Int32)) => (r_21, (u_19.1, u_19.2.1, u_19.2.2.1, u_19.2.2.2))))))))))
set_option maxHeartbeats 400000 in
set_option maxRecDepth 100000 in
theorem c_X8_does (l : Launch) (D : va_G) (cy : Nat → ClassId) (g : Nat → Nat) (B : Nat) (a : Nat → Nat) (y0 : Int32) (y1 : Int32) (y2 : Int32) (y3 : Int32) (y4 : Int32) (y5 : Int32) (y6 : Int32) (y7 : (Nat → Int32)) (y8 : (Nat → Int32)) (y9 : (Nat → Int32)) (y10 : (Nat → Int32)) (y11 : (Nat → Int32)) (y12 : (Nat → Int32)) (y13 : (Nat → Int32)) (hpa0 : ¬ y0 < 0) (hpa4 : ¬ 4 < y0) (hm8 : ¬ 8 < (y7 0)) (hR4 : ¬ 4 < (y7 2)) (hm0 : ¬ (y7 0) < 0) (hR0 : ¬ (y7 2) < 0) : Met l yX8_does wsX8_does ({ frames := 4, cells := 0, slots := 0, locals := 89 }) (muP D cy g B (wModE cy a y0 y1 y2 y3 y4 y5 y6 y7 y8 y9 y10 y11 y12 y13) [.ref (a 0)]) (va_Qi (fun (r : Int32) (u : Int32 × Int32 × (Nat → Int32) × (Nat → Int32)) => f_X8_does y0 y1 y6 y7 y8 y13 = (r, u)) (fun u t => va_P D vwCl (wModE cy a u.1 y1 y2 u.2.1 y4 y5 y6 u.2.2.1 u.2.2.2 y9 y10 y11 y12 y13) t.heap) (muA (wModE cy a y0 y1 y2 y3 y4 y5 y6 y7 y8 y9 y10 y11 y12 y13))) 0 0 (muA (wModE cy a y0 y1 y2 y3 y4 y5 y6 y7 y8 y9 y10 y11 y12 y13)) := by
  refine Met.ofW (cc := cX8_does) (maxL := 1) (ret := (some .int)) (by decide) rfl ?_
  intro p e s m args below meth c s₁ BB hml hv
  obtain ⟨rfl, hP, hK0, hD0⟩ := hv
  have hx := BB.exec
  have hb := BB.bytes
  have hr := BB.returns
  have hts := atoms_spec (ws := wsX8_does) BB.pre
  have hown : s.vm.findClass RX8 = some m.cls := findClass_of_methodNamed BB.named
  have hlocks := BB.notSynchronized
  have S := my_fix hx hb hml hown hts
  have inX8 : ∀ w ∈ wsX80, w ∈ wsX8_does := fun w h => List.mem_cons_of_mem _ (List.mem_append_right _ h)
  have hAB := muB hD0
  have hD := muD hD0
  generalize hAe : muA (wModE cy a y0 y1 y2 y3 y4 y5 y6 y7 y8 y9 y10 y11 y12 y13) = A at hAB hD ⊢
  have hS : va_S A s.heap s.heap [] := va_S.rf
  have hl := lv_entry ([.ref (a 0)]) (n := 1) (Nat.le_of_ble_eq_true rfl)
  rw [lg_entry_eq]
  generalize (lg_sl ([.ref (a 0)]) ++ List.replicate (1 - (lg_sl ([.ref (a 0)])).length) Slot.unset).toArray = ls at hl ⊢
  have hl : lv_has ls 1 [(0, .ref (a 0))] := hl
  refine lv_aload_n hx hb dX8_does_0 rfl (lv_at hl 0 rfl) ?_
  refine va_get (D := D) (ci := 6) (v := .int y6) (C := RX8) (T := TX8) (N := 14) hx hb hts inX8 hown hK0.1 hP 0 rfl rfl 12 (by decide) (hts (.fieldLink RX8 189 "PivotChamberModel" "command" "I") (List.mem_of_getElem? (i := 1) rfl)) (fun _ h9 => h9) rfl dX8_does_1 ?_
  by_cases h4_0 : y6 = 0
  · refine lv_tableIn (off := 40) (tgt := 44) hx hb dX8_does_4 (by rw [h4_0]; decide) (by rw [h4_0]; decide) (by rw [h4_0]; rfl) (by decide) ?_
    refine lv_aload_n hx hb dX8_does_44 rfl (lv_at hl 0 rfl) ?_
    refine lv_aload_n hx hb dX8_does_45 rfl (lv_at hl 0 rfl) ?_
    refine va_get (D := D) (ci := 6) (v := .ref (a 7)) (C := RX8) (T := TX8) (N := 14) hx hb hts inX8 hown hK0.1 hP 0 rfl rfl 13 (by decide) (hts (.fieldLink RX8 29 "PivotChamberModel" "read" "[I") (List.mem_of_getElem? (i := 2) rfl)) (fun _ h9 => h9) rfl dX8_does_46 ?_
    refine lv_iconst (v := 0) hx hb dX8_does_49 (by decide) ?_
    refine va_iald hx hb hK0.1 hP 7 0 rfl rfl (vp_in_nI (n := 0) (N := 2) (by decide) (by decide)) dX8_does_50 ?_
    refine W.eq (g2 := F0 m 51 ls [.int (y13 0), .ref (a 0)]) rfl ?_
    refine mu_alli (wf := fun (u_1 : Int32 × Int32 × (Nat → Int32) × (Nat → Int32)) => (wModE cy a u_1.1 y1 y2 u_1.2.1 y4 y5 y6 u_1.2.2.1 u_1.2.2.2 y9 y10 y11 y12 y13)) (va_runV (C := RX8) (As := [.int (y13 0)]) (rest := []) S (c_X8_add l D cy g B a y0 y1 y2 y3 y4 y5 y6 y7 y8 y9 y10 y11 y12 y13 (y13 0) hpa0 hpa4 hm8 hm0) (cwV 1 hts gX8_does_X8_add rfl rfl rfl hd_X8_add_V ⟨Nat.le_of_ble_eq_true rfl, Nat.le_of_ble_eq_true rfl⟩) ⟨muP_blind, va_recv hK0.1 hP (ci := 6) (q0 := 0) rfl rfl, my_preA hK0 hS hAB hP hD⟩ rfl rfl hl.1 rfl (lv_room (Nat.le_of_ble_eq_true rfl)) dX8_does_51 ⟨Nat.zero_le _, Nat.zero_le _⟩) hS hD (fun _ => by simp only [List.map_cons, List.map_nil, adrSet, adrSetE, adrPow, adrPowE, adrTxt, adrTxtE, adrSav, adrSavE, adrPCo, adrMod, adrModE]) (fun r_3 u_1 H locs hw_2 hP hD hS => ?_)
    have hP : va_P D vwCl (wModE cy a u_1.1 y1 y2 u_1.2.1 y4 y5 y6 u_1.2.2.1 u_1.2.2.2 y9 y10 y11 y12 y13) H := hP
    have hD : va_D A (wModE cy a u_1.1 y1 y2 u_1.2.1 y4 y5 y6 u_1.2.2.1 u_1.2.2.2 y9 y10 y11 y12 y13) := hD
    exact W.iret hx hb hr (fun t ht hW => ⟨⟨r_3, (u_1.1, u_1.2.1, u_1.2.2.1, u_1.2.2.2), rfl, (show f_X8_does y0 y1 y6 y7 y8 y13 = (r_3, (u_1.1, u_1.2.1, u_1.2.2.1, u_1.2.2.2)) from by rw [f_X8_does, if_pos h4_0, hw_2, my_b_eq]), by show va_P D vwCl _ t.heap; rw [ht]; exact hP⟩, hS.F ht⟩) hS.2.2 dX8_does_54
  · by_cases h4_1 : y6 = 1
    · refine lv_tableIn (off := 51) (tgt := 55) hx hb dX8_does_4 (by rw [h4_1]; decide) (by rw [h4_1]; decide) (by rw [h4_1]; rfl) (by decide) ?_
      refine lv_aload_n hx hb dX8_does_55 rfl (lv_at hl 0 rfl) ?_
      refine lv_aload_n hx hb dX8_does_56 rfl (lv_at hl 0 rfl) ?_
      refine va_get (D := D) (ci := 6) (v := .ref (a 7)) (C := RX8) (T := TX8) (N := 14) hx hb hts inX8 hown hK0.1 hP 0 rfl rfl 13 (by decide) (hts (.fieldLink RX8 29 "PivotChamberModel" "read" "[I") (List.mem_of_getElem? (i := 2) rfl)) (fun _ h9 => h9) rfl dX8_does_57 ?_
      refine lv_iconst (v := 0) hx hb dX8_does_60 (by decide) ?_
      refine va_iald hx hb hK0.1 hP 7 0 rfl rfl (vp_in_nI (n := 0) (N := 2) (by decide) (by decide)) dX8_does_61 ?_
      refine W.eq (g2 := F0 m 62 ls [.int (y13 0), .ref (a 0)]) rfl ?_
      refine lv_aload_n hx hb dX8_does_62 rfl (lv_at hl 0 rfl) ?_
      refine va_get (D := D) (ci := 6) (v := .ref (a 7)) (C := RX8) (T := TX8) (N := 14) hx hb hts inX8 hown hK0.1 hP 0 rfl rfl 13 (by decide) (hts (.fieldLink RX8 29 "PivotChamberModel" "read" "[I") (List.mem_of_getElem? (i := 2) rfl)) (fun _ h9 => h9) rfl dX8_does_63 ?_
      refine lv_iconst (v := 1) hx hb dX8_does_66 (by decide) ?_
      refine va_iald hx hb hK0.1 hP 7 0 rfl rfl (vp_in_nI (n := 1) (N := 2) (by decide) (by decide)) dX8_does_67 ?_
      refine W.eq (g2 := F0 m 68 ls [.int (y13 1), .int (y13 0), .ref (a 0)]) rfl ?_
      refine mu_alli (wf := fun (u_4 : Int32 × Int32 × (Nat → Int32) × (Nat → Int32)) => (wModE cy a u_4.1 y1 y2 u_4.2.1 y4 y5 y6 u_4.2.2.1 u_4.2.2.2 y9 y10 y11 y12 y13)) (va_runV (C := RX8) (As := [.int (y13 0), .int (y13 1)]) (rest := []) S (c_X8_setWeight l D cy g B a y0 y1 y2 y3 y4 y5 y6 y7 y8 y9 y10 y11 y12 y13 (y13 0) (y13 1) hpa0 hpa4 hm8) (cwV 2 hts gX8_does_X8_setWeight rfl rfl rfl hd_X8_setWeight_V ⟨Nat.le_of_ble_eq_true rfl, Nat.le_of_ble_eq_true rfl⟩) ⟨muP_blind, va_recv hK0.1 hP (ci := 6) (q0 := 0) rfl rfl, my_preA hK0 hS hAB hP hD⟩ rfl rfl hl.1 rfl (lv_room (Nat.le_of_ble_eq_true rfl)) dX8_does_68 ⟨Nat.zero_le _, Nat.zero_le _⟩) hS hD (fun _ => by simp only [List.map_cons, List.map_nil, adrSet, adrSetE, adrPow, adrPowE, adrTxt, adrTxtE, adrSav, adrSavE, adrPCo, adrMod, adrModE]) (fun r_6 u_4 H locs hw_5 hP hD hS => ?_)
      have hP : va_P D vwCl (wModE cy a u_4.1 y1 y2 u_4.2.1 y4 y5 y6 u_4.2.2.1 u_4.2.2.2 y9 y10 y11 y12 y13) H := hP
      have hD : va_D A (wModE cy a u_4.1 y1 y2 u_4.2.1 y4 y5 y6 u_4.2.2.1 u_4.2.2.2 y9 y10 y11 y12 y13) := hD
      exact W.iret hx hb hr (fun t ht hW => ⟨⟨r_6, (u_4.1, u_4.2.1, u_4.2.2.1, u_4.2.2.2), rfl, (show f_X8_does y0 y1 y6 y7 y8 y13 = (r_6, (u_4.1, u_4.2.1, u_4.2.2.1, u_4.2.2.2)) from by rw [f_X8_does, if_neg h4_0, if_pos h4_1, hw_5, my_b_eq]), by show va_P D vwCl _ t.heap; rw [ht]; exact hP⟩, hS.F ht⟩) hS.2.2 dX8_does_71
    · by_cases h4_2 : y6 = 2
      · refine lv_tableIn (off := 68) (tgt := 72) hx hb dX8_does_4 (by rw [h4_2]; decide) (by rw [h4_2]; decide) (by rw [h4_2]; rfl) (by decide) ?_
        refine lv_aload_n hx hb dX8_does_72 rfl (lv_at hl 0 rfl) ?_
        refine lv_aload_n hx hb dX8_does_73 rfl (lv_at hl 0 rfl) ?_
        refine va_get (D := D) (ci := 6) (v := .ref (a 7)) (C := RX8) (T := TX8) (N := 14) hx hb hts inX8 hown hK0.1 hP 0 rfl rfl 13 (by decide) (hts (.fieldLink RX8 29 "PivotChamberModel" "read" "[I") (List.mem_of_getElem? (i := 2) rfl)) (fun _ h9 => h9) rfl dX8_does_74 ?_
        refine lv_iconst (v := 0) hx hb dX8_does_77 (by decide) ?_
        refine va_iald hx hb hK0.1 hP 7 0 rfl rfl (vp_in_nI (n := 0) (N := 2) (by decide) (by decide)) dX8_does_78 ?_
        refine W.eq (g2 := F0 m 79 ls [.int (y13 0), .ref (a 0)]) rfl ?_
        refine mu_alli (wf := fun (u_7 : Int32 × Int32 × (Nat → Int32) × (Nat → Int32)) => (wModE cy a u_7.1 y1 y2 u_7.2.1 y4 y5 y6 u_7.2.2.1 u_7.2.2.2 y9 y10 y11 y12 y13)) (va_runV (C := RX8) (As := [.int (y13 0)]) (rest := []) S (c_X8_setQuota l D cy g B a y0 y1 y2 y3 y4 y5 y6 y7 y8 y9 y10 y11 y12 y13 (y13 0) hpa0 hpa4) (cwV 1 hts gX8_does_X8_setQuota rfl rfl rfl hd_X8_setQuota_V ⟨Nat.le_of_ble_eq_true rfl, Nat.le_of_ble_eq_true rfl⟩) ⟨muP_blind, va_recv hK0.1 hP (ci := 6) (q0 := 0) rfl rfl, my_preA hK0 hS hAB hP hD⟩ rfl rfl hl.1 rfl (lv_room (Nat.le_of_ble_eq_true rfl)) dX8_does_79 ⟨Nat.zero_le _, Nat.zero_le _⟩) hS hD (fun _ => by simp only [List.map_cons, List.map_nil, adrSet, adrSetE, adrPow, adrPowE, adrTxt, adrTxtE, adrSav, adrSavE, adrPCo, adrMod, adrModE]) (fun r_9 u_7 H locs hw_8 hP hD hS => ?_)
        have hP : va_P D vwCl (wModE cy a u_7.1 y1 y2 u_7.2.1 y4 y5 y6 u_7.2.2.1 u_7.2.2.2 y9 y10 y11 y12 y13) H := hP
        have hD : va_D A (wModE cy a u_7.1 y1 y2 u_7.2.1 y4 y5 y6 u_7.2.2.1 u_7.2.2.2 y9 y10 y11 y12 y13) := hD
        exact W.iret hx hb hr (fun t ht hW => ⟨⟨r_9, (u_7.1, u_7.2.1, u_7.2.2.1, u_7.2.2.2), rfl, (show f_X8_does y0 y1 y6 y7 y8 y13 = (r_9, (u_7.1, u_7.2.1, u_7.2.2.1, u_7.2.2.2)) from by rw [f_X8_does, if_neg h4_0, if_neg h4_1, if_pos h4_2, hw_8, my_b_eq]), by show va_P D vwCl _ t.heap; rw [ht]; exact hP⟩, hS.F ht⟩) hS.2.2 dX8_does_82
      · by_cases h4_3 : y6 = 3
        · refine lv_tableIn (off := 79) (tgt := 83) hx hb dX8_does_4 (by rw [h4_3]; decide) (by rw [h4_3]; decide) (by rw [h4_3]; rfl) (by decide) ?_
          refine lv_aload_n hx hb dX8_does_83 rfl (lv_at hl 0 rfl) ?_
          refine lv_aload_n hx hb dX8_does_84 rfl (lv_at hl 0 rfl) ?_
          refine va_get (D := D) (ci := 6) (v := .ref (a 7)) (C := RX8) (T := TX8) (N := 14) hx hb hts inX8 hown hK0.1 hP 0 rfl rfl 13 (by decide) (hts (.fieldLink RX8 29 "PivotChamberModel" "read" "[I") (List.mem_of_getElem? (i := 2) rfl)) (fun _ h9 => h9) rfl dX8_does_85 ?_
          refine lv_iconst (v := 0) hx hb dX8_does_88 (by decide) ?_
          refine va_iald hx hb hK0.1 hP 7 0 rfl rfl (vp_in_nI (n := 0) (N := 2) (by decide) (by decide)) dX8_does_89 ?_
          refine W.eq (g2 := F0 m 90 ls [.int (y13 0), .ref (a 0)]) rfl ?_
          refine lv_aload_n hx hb dX8_does_90 rfl (lv_at hl 0 rfl) ?_
          refine va_get (D := D) (ci := 6) (v := .ref (a 7)) (C := RX8) (T := TX8) (N := 14) hx hb hts inX8 hown hK0.1 hP 0 rfl rfl 13 (by decide) (hts (.fieldLink RX8 29 "PivotChamberModel" "read" "[I") (List.mem_of_getElem? (i := 2) rfl)) (fun _ h9 => h9) rfl dX8_does_91 ?_
          refine lv_iconst (v := 1) hx hb dX8_does_94 (by decide) ?_
          refine va_iald hx hb hK0.1 hP 7 0 rfl rfl (vp_in_nI (n := 1) (N := 2) (by decide) (by decide)) dX8_does_95 ?_
          refine W.eq (g2 := F0 m 96 ls [.int (y13 1), .int (y13 0), .ref (a 0)]) rfl ?_
          refine mu_alli (wf := fun (u_10 : Int32 × Int32 × (Nat → Int32) × (Nat → Int32)) => (wModE cy a u_10.1 y1 y2 u_10.2.1 y4 y5 y6 u_10.2.2.1 u_10.2.2.2 y9 y10 y11 y12 y13)) (va_runV (C := RX8) (As := [.int (y13 0), .int (y13 1)]) (rest := []) S (c_X8_follow l D cy g B a y0 y1 y2 y3 y4 y5 y6 y7 y8 y9 y10 y11 y12 y13 (y13 0) (y13 1) hpa0 hpa4 hm8) (cwV 2 hts gX8_does_X8_follow rfl rfl rfl hd_X8_follow_V ⟨Nat.le_of_ble_eq_true rfl, Nat.le_of_ble_eq_true rfl⟩) ⟨muP_blind, va_recv hK0.1 hP (ci := 6) (q0 := 0) rfl rfl, my_preA hK0 hS hAB hP hD⟩ rfl rfl hl.1 rfl (lv_room (Nat.le_of_ble_eq_true rfl)) dX8_does_96 ⟨Nat.zero_le _, Nat.zero_le _⟩) hS hD (fun _ => by simp only [List.map_cons, List.map_nil, adrSet, adrSetE, adrPow, adrPowE, adrTxt, adrTxtE, adrSav, adrSavE, adrPCo, adrMod, adrModE]) (fun r_12 u_10 H locs hw_11 hP hD hS => ?_)
          have hP : va_P D vwCl (wModE cy a u_10.1 y1 y2 u_10.2.1 y4 y5 y6 u_10.2.2.1 u_10.2.2.2 y9 y10 y11 y12 y13) H := hP
          have hD : va_D A (wModE cy a u_10.1 y1 y2 u_10.2.1 y4 y5 y6 u_10.2.2.1 u_10.2.2.2 y9 y10 y11 y12 y13) := hD
          exact W.iret hx hb hr (fun t ht hW => ⟨⟨r_12, (u_10.1, u_10.2.1, u_10.2.2.1, u_10.2.2.2), rfl, (show f_X8_does y0 y1 y6 y7 y8 y13 = (r_12, (u_10.1, u_10.2.1, u_10.2.2.1, u_10.2.2.2)) from by rw [f_X8_does, if_neg h4_0, if_neg h4_1, if_neg h4_2, if_pos h4_3, hw_11, my_b_eq]), by show va_P D vwCl _ t.heap; rw [ht]; exact hP⟩, hS.F ht⟩) hS.2.2 dX8_does_99
        · by_cases h4_4 : y6 = 4
          · refine lv_tableIn (off := 96) (tgt := 100) hx hb dX8_does_4 (by rw [h4_4]; decide) (by rw [h4_4]; decide) (by rw [h4_4]; rfl) (by decide) ?_
            refine lv_aload_n hx hb dX8_does_100 rfl (lv_at hl 0 rfl) ?_
            refine lv_aload_n hx hb dX8_does_101 rfl (lv_at hl 0 rfl) ?_
            refine va_get (D := D) (ci := 6) (v := .ref (a 7)) (C := RX8) (T := TX8) (N := 14) hx hb hts inX8 hown hK0.1 hP 0 rfl rfl 13 (by decide) (hts (.fieldLink RX8 29 "PivotChamberModel" "read" "[I") (List.mem_of_getElem? (i := 2) rfl)) (fun _ h9 => h9) rfl dX8_does_102 ?_
            refine lv_iconst (v := 0) hx hb dX8_does_105 (by decide) ?_
            refine va_iald hx hb hK0.1 hP 7 0 rfl rfl (vp_in_nI (n := 0) (N := 2) (by decide) (by decide)) dX8_does_106 ?_
            refine W.eq (g2 := F0 m 107 ls [.int (y13 0), .ref (a 0)]) rfl ?_
            refine mu_alli (wf := fun (u_13 : Int32 × Int32 × (Nat → Int32) × (Nat → Int32)) => (wModE cy a u_13.1 y1 y2 u_13.2.1 y4 y5 y6 u_13.2.2.1 u_13.2.2.2 y9 y10 y11 y12 y13)) (va_runV (C := RX8) (As := [.int (y13 0)]) (rest := []) S (c_X8_leave l D cy g B a y0 y1 y2 y3 y4 y5 y6 y7 y8 y9 y10 y11 y12 y13 (y13 0) hpa0 hpa4 hm8) (cwV 1 hts gX8_does_X8_leave rfl rfl rfl hd_X8_leave_V ⟨Nat.le_of_ble_eq_true rfl, Nat.le_of_ble_eq_true rfl⟩) ⟨muP_blind, va_recv hK0.1 hP (ci := 6) (q0 := 0) rfl rfl, my_preA hK0 hS hAB hP hD⟩ rfl rfl hl.1 rfl (lv_room (Nat.le_of_ble_eq_true rfl)) dX8_does_107 ⟨Nat.zero_le _, Nat.zero_le _⟩) hS hD (fun _ => by simp only [List.map_cons, List.map_nil, adrSet, adrSetE, adrPow, adrPowE, adrTxt, adrTxtE, adrSav, adrSavE, adrPCo, adrMod, adrModE]) (fun r_15 u_13 H locs hw_14 hP hD hS => ?_)
            have hP : va_P D vwCl (wModE cy a u_13.1 y1 y2 u_13.2.1 y4 y5 y6 u_13.2.2.1 u_13.2.2.2 y9 y10 y11 y12 y13) H := hP
            have hD : va_D A (wModE cy a u_13.1 y1 y2 u_13.2.1 y4 y5 y6 u_13.2.2.1 u_13.2.2.2 y9 y10 y11 y12 y13) := hD
            exact W.iret hx hb hr (fun t ht hW => ⟨⟨r_15, (u_13.1, u_13.2.1, u_13.2.2.1, u_13.2.2.2), rfl, (show f_X8_does y0 y1 y6 y7 y8 y13 = (r_15, (u_13.1, u_13.2.1, u_13.2.2.1, u_13.2.2.2)) from by rw [f_X8_does, if_neg h4_0, if_neg h4_1, if_neg h4_2, if_neg h4_3, if_pos h4_4, hw_14, my_b_eq]), by show va_P D vwCl _ t.heap; rw [ht]; exact hP⟩, hS.F ht⟩) hS.2.2 dX8_does_110
          · by_cases h4_5 : y6 = 5
            · refine lv_tableIn (off := 107) (tgt := 111) hx hb dX8_does_4 (by rw [h4_5]; decide) (by rw [h4_5]; decide) (by rw [h4_5]; rfl) (by decide) ?_
              refine lv_aload_n hx hb dX8_does_111 rfl (lv_at hl 0 rfl) ?_
              refine lv_aload_n hx hb dX8_does_112 rfl (lv_at hl 0 rfl) ?_
              refine va_get (D := D) (ci := 6) (v := .ref (a 7)) (C := RX8) (T := TX8) (N := 14) hx hb hts inX8 hown hK0.1 hP 0 rfl rfl 13 (by decide) (hts (.fieldLink RX8 29 "PivotChamberModel" "read" "[I") (List.mem_of_getElem? (i := 2) rfl)) (fun _ h9 => h9) rfl dX8_does_113 ?_
              refine lv_iconst (v := 0) hx hb dX8_does_116 (by decide) ?_
              refine va_iald hx hb hK0.1 hP 7 0 rfl rfl (vp_in_nI (n := 0) (N := 2) (by decide) (by decide)) dX8_does_117 ?_
              refine W.eq (g2 := F0 m 118 ls [.int (y13 0), .ref (a 0)]) rfl ?_
              refine lv_aload_n hx hb dX8_does_118 rfl (lv_at hl 0 rfl) ?_
              refine va_get (D := D) (ci := 6) (v := .ref (a 7)) (C := RX8) (T := TX8) (N := 14) hx hb hts inX8 hown hK0.1 hP 0 rfl rfl 13 (by decide) (hts (.fieldLink RX8 29 "PivotChamberModel" "read" "[I") (List.mem_of_getElem? (i := 2) rfl)) (fun _ h9 => h9) rfl dX8_does_119 ?_
              refine lv_iconst (v := 1) hx hb dX8_does_122 (by decide) ?_
              refine va_iald hx hb hK0.1 hP 7 0 rfl rfl (vp_in_nI (n := 1) (N := 2) (by decide) (by decide)) dX8_does_123 ?_
              refine W.eq (g2 := F0 m 124 ls [.int (y13 1), .int (y13 0), .ref (a 0)]) rfl ?_
              refine mu_alli (wf := fun (u_16 : Int32 × Int32 × (Nat → Int32) × (Nat → Int32)) => (wModE cy a u_16.1 y1 y2 u_16.2.1 y4 y5 y6 u_16.2.2.1 u_16.2.2.2 y9 y10 y11 y12 y13)) (va_runV (C := RX8) (As := [.int (y13 0), .int (y13 1)]) (rest := []) S (c_X8_addRule l D cy g B a y0 y1 y2 y3 y4 y5 y6 y7 y8 y9 y10 y11 y12 y13 (y13 0) (y13 1) hpa0 hpa4 hR4 hR0) (cwV 2 hts gX8_does_X8_addRule rfl rfl rfl hd_X8_addRule_V ⟨Nat.le_of_ble_eq_true rfl, Nat.le_of_ble_eq_true rfl⟩) ⟨muP_blind, va_recv hK0.1 hP (ci := 6) (q0 := 0) rfl rfl, my_preA hK0 hS hAB hP hD⟩ rfl rfl hl.1 rfl (lv_room (Nat.le_of_ble_eq_true rfl)) dX8_does_124 ⟨Nat.zero_le _, Nat.zero_le _⟩) hS hD (fun _ => by simp only [List.map_cons, List.map_nil, adrSet, adrSetE, adrPow, adrPowE, adrTxt, adrTxtE, adrSav, adrSavE, adrPCo, adrMod, adrModE]) (fun r_18 u_16 H locs hw_17 hP hD hS => ?_)
              have hP : va_P D vwCl (wModE cy a u_16.1 y1 y2 u_16.2.1 y4 y5 y6 u_16.2.2.1 u_16.2.2.2 y9 y10 y11 y12 y13) H := hP
              have hD : va_D A (wModE cy a u_16.1 y1 y2 u_16.2.1 y4 y5 y6 u_16.2.2.1 u_16.2.2.2 y9 y10 y11 y12 y13) := hD
              exact W.iret hx hb hr (fun t ht hW => ⟨⟨r_18, (u_16.1, u_16.2.1, u_16.2.2.1, u_16.2.2.2), rfl, (show f_X8_does y0 y1 y6 y7 y8 y13 = (r_18, (u_16.1, u_16.2.1, u_16.2.2.1, u_16.2.2.2)) from by rw [f_X8_does, if_neg h4_0, if_neg h4_1, if_neg h4_2, if_neg h4_3, if_neg h4_4, if_pos h4_5, hw_17, my_b_eq]), by show va_P D vwCl _ t.heap; rw [ht]; exact hP⟩, hS.F ht⟩) hS.2.2 dX8_does_127
            · refine lv_tableOut (tgt := 128) hx hb dX8_does_4 (by have t0 : y6.toInt ≠ 0 := my_ne h4_0 rfl; have t1 : y6.toInt ≠ 1 := my_ne h4_1 rfl; have t2 : y6.toInt ≠ 2 := my_ne h4_2 rfl; have t3 : y6.toInt ≠ 3 := my_ne h4_3 rfl; have t4 : y6.toInt ≠ 4 := my_ne h4_4 rfl; have t5 : y6.toInt ≠ 5 := my_ne h4_5 rfl; omega) (by decide) ?_
              refine lv_aload_n hx hb dX8_does_128 rfl (lv_at hl 0 rfl) ?_
              refine lv_aload_n hx hb dX8_does_129 rfl (lv_at hl 0 rfl) ?_
              refine va_get (D := D) (ci := 6) (v := .ref (a 7)) (C := RX8) (T := TX8) (N := 14) hx hb hts inX8 hown hK0.1 hP 0 rfl rfl 13 (by decide) (hts (.fieldLink RX8 29 "PivotChamberModel" "read" "[I") (List.mem_of_getElem? (i := 2) rfl)) (fun _ h9 => h9) rfl dX8_does_130 ?_
              refine lv_iconst (v := 0) hx hb dX8_does_133 (by decide) ?_
              refine va_iald hx hb hK0.1 hP 7 0 rfl rfl (vp_in_nI (n := 0) (N := 2) (by decide) (by decide)) dX8_does_134 ?_
              refine W.eq (g2 := F0 m 135 ls [.int (y13 0), .ref (a 0)]) rfl ?_
              refine mu_alli (wf := fun (u_19 : Int32 × Int32 × (Nat → Int32) × (Nat → Int32)) => (wModE cy a u_19.1 y1 y2 u_19.2.1 y4 y5 y6 u_19.2.2.1 u_19.2.2.2 y9 y10 y11 y12 y13)) (va_runV (C := RX8) (As := [.int (y13 0)]) (rest := []) S (c_X8_dropRule l D cy g B a y0 y1 y2 y3 y4 y5 y6 y7 y8 y9 y10 y11 y12 y13 (y13 0) hpa0 hpa4 hR4) (cwV 1 hts gX8_does_X8_dropRule rfl rfl rfl hd_X8_dropRule_V ⟨Nat.le_of_ble_eq_true rfl, Nat.le_of_ble_eq_true rfl⟩) ⟨muP_blind, va_recv hK0.1 hP (ci := 6) (q0 := 0) rfl rfl, my_preA hK0 hS hAB hP hD⟩ rfl rfl hl.1 rfl (lv_room (Nat.le_of_ble_eq_true rfl)) dX8_does_135 ⟨Nat.zero_le _, Nat.zero_le _⟩) hS hD (fun _ => by simp only [List.map_cons, List.map_nil, adrSet, adrSetE, adrPow, adrPowE, adrTxt, adrTxtE, adrSav, adrSavE, adrPCo, adrMod, adrModE]) (fun r_21 u_19 H locs hw_20 hP hD hS => ?_)
              have hP : va_P D vwCl (wModE cy a u_19.1 y1 y2 u_19.2.1 y4 y5 y6 u_19.2.2.1 u_19.2.2.2 y9 y10 y11 y12 y13) H := hP
              have hD : va_D A (wModE cy a u_19.1 y1 y2 u_19.2.1 y4 y5 y6 u_19.2.2.1 u_19.2.2.2 y9 y10 y11 y12 y13) := hD
              exact W.iret hx hb hr (fun t ht hW => ⟨⟨r_21, (u_19.1, u_19.2.1, u_19.2.2.1, u_19.2.2.2), rfl, (show f_X8_does y0 y1 y6 y7 y8 y13 = (r_21, (u_19.1, u_19.2.1, u_19.2.2.1, u_19.2.2.2)) from by rw [f_X8_does, if_neg h4_0, if_neg h4_1, if_neg h4_2, if_neg h4_3, if_neg h4_4, if_neg h4_5, hw_20, my_b_eq]), by show va_P D vwCl _ t.heap; rw [ht]; exact hP⟩, hS.F ht⟩) hS.2.2 dX8_does_138
theorem upd_eq {f : Nat → Int32} {i : Nat} {v : Int32} : upd f i v i = v := by
  simp [upd]
theorem upd_ne {f : Nat → Int32} {i j : Nat} {v : Int32} (h : ¬ j = i) : upd f i v j = f j := by
  simp only [upd]
  split
  · rename_i h1; exact absurd h1 h
  · rfl
theorem clamp_toInt {i : Int32} (h : ¬ i < 0) : (i.toNatClampNeg : Int) = i.toInt := by
  have h1 := nn_toInt h
  show ((i.toInt.toNat : Nat) : Int) = _
  omega
theorem upd_hi {f : Nat → Int32} {c i x : Int32} {j : Nat} (h0 : ¬ i < 0) (h8 : ¬ 8 < i) (hc : (j : Int) < c.toInt ∧ c.toInt ≤ 100) : upd f (c + i).toNatClampNeg x j = f j := by
  have a0 := nn_toInt h0
  have a8 : ¬ (8 : Int32).toInt < i.toInt := fun z => h8 (Int32.lt_iff_toInt_lt.mpr z)
  have e8 := i32_c8
  have e := i32_add (a := c) (b := i) (by omega) (by omega)
  refine upd_ne (fun e2 => ?_)
  have e3 : ((c + i).toNatClampNeg : Int) = (c + i).toInt := by
    show (((c + i).toInt.toNat : Nat) : Int) = _
    omega
  omega
def cnt8 (s : Nat → Int32) : Prop := ¬ 8 < s 0 ∧ ¬ 4 < s 2 ∧ ¬ s 0 < 0 ∧ ¬ s 2 < 0
theorem cnt8_of {s t : Nat → Int32} (h : cnt8 s) (h0 : t 0 = s 0) (h2 : t 2 = s 2) : cnt8 t := by
  unfold cnt8 at h ⊢
  rw [h0, h2]; exact h
def ok8 (z : Int32 × (Int32 × Int32 × (Nat → Int32) × (Nat → Int32))) : Prop := ¬ z.2.1 < 0 ∧ ¬ 4 < z.2.1 ∧ cnt8 z.2.2.2.1
theorem lt_8 {x b K : Int32} (h : x < b) (hK : ¬ K < b) : ¬ K < x := fun h3 => by
  have h1 := Int32.lt_iff_toInt_lt.mp h
  have h2 : ¬ K.toInt < b.toInt := fun z => hK (Int32.lt_iff_toInt_lt.mpr z)
  have h4 := Int32.lt_iff_toInt_lt.mp h3
  omega
theorem sv_ok {p ru : Int32} {s y : Nat → Int32} (h0 : ¬ p < 0) (h4 : ¬ 4 < p) : ¬ (f_X8_saves p ru s y).1 < 0 ∧ ¬ 4 < (f_X8_saves p ru s y).1 := by
  unfold f_X8_saves
  split
  · split
    · rename_i hp
      refine my_t2_inv (fun _ _ => True) (fun z : Int32 × (Nat → Int32) => ¬ z.1 < 0 ∧ ¬ 4 < z.1) trivial ?_
      intro _ _ _
      refine my_t2_inv (fun _ _ => True) (fun z : Int32 × (Nat → Int32) => ¬ z.1 < 0 ∧ ¬ 4 < z.1) trivial ?_
      intro _ _ _
      subst hp
      exact (by decide : ¬ (4 - 1 + 1 : Int32) < 0 ∧ ¬ (4 : Int32) < 4 - 1 + 1)
    · rename_i hp
      refine my_t2_inv (fun _ _ => True) (fun z : Int32 × (Nat → Int32) => ¬ z.1 < 0 ∧ ¬ 4 < z.1) trivial ?_
      intro _ _ _
      have h5 : p < 4 := lt_of_ne h4 hp
      exact ⟨nn_up h0 (Int32.not_le.mpr h5), le_up h5⟩
  · exact ⟨h0, h4⟩
theorem sv_0 {p ru : Int32} {s y : Nat → Int32} {u : Int32 × (Nat → Int32)} (h0 : ¬ p < 0) (h4 : ¬ 4 < p) (h : f_X8_saves p ru s y = u) : ¬ u.1 < 0 := by
  subst h; exact (sv_ok h0 h4).1
theorem sv_1 {p ru : Int32} {s y : Nat → Int32} {u : Int32 × (Nat → Int32)} (h0 : ¬ p < 0) (h4 : ¬ 4 < p) (h : f_X8_saves p ru s y = u) : ¬ 4 < u.1 := by
  subst h; exact (sv_ok h0 h4).2
section OK8
variable {p ru x0 x1 : Int32} {s y : Nat → Int32}
theorem ad_ok (h0 : ¬ p < 0) (h4 : ¬ 4 < p) (hs : cnt8 s) : ok8 (f_X8_add p ru s y x0) := by
  unfold f_X8_add
  split
  · exact ⟨h0, h4, hs⟩
  · split
    · exact ⟨h0, h4, hs⟩
    · rename_i h8
      refine my_l_inv (fun u : Int32 × (Nat → Int32) => ¬ u.1 < 0 ∧ ¬ 4 < u.1) ok8 (sv_ok h0 h4) ?_
      intro u hu
      have h5 : s 0 < 8 := lt_of_ne hs.1 h8
      refine ⟨hu.1, hu.2, ?_, ?_, ?_, ?_⟩
      · show ¬ 8 < s 0 + 1
        exact le_up h5
      · show ¬ 4 < upd (upd (upd s _ _) _ _) 0 (s 0 + 1) 2
        rw [upd_ne (by decide), upd_hi hs.2.2.1 hs.1 (by decide), upd_hi hs.2.2.1 hs.1 (by decide)]; exact hs.2.1
      · show ¬ s 0 + 1 < 0
        exact nn_up hs.2.2.1 (Int32.not_le.mpr h5)
      · show ¬ upd (upd (upd s _ _) _ _) 0 (s 0 + 1) 2 < 0
        rw [upd_ne (by decide), upd_hi hs.2.2.1 hs.1 (by decide), upd_hi hs.2.2.1 hs.1 (by decide)]; exact hs.2.2.2
theorem one_ok {c x v : Int32} (hs : cnt8 s) (hx0 : ¬ x < 0) (hx8 : ¬ 8 < x) (hc : (2 : Int) < c.toInt ∧ c.toInt ≤ 100) : cnt8 (upd s (c + x).toNatClampNeg v) :=
  cnt8_of hs (upd_hi hx0 hx8 ⟨by have := hc.1; omega, hc.2⟩) (upd_hi hx0 hx8 ⟨by have := hc.1; omega, hc.2⟩)
theorem sw_ok (h0 : ¬ p < 0) (h4 : ¬ 4 < p) (hs : cnt8 s) : ok8 (f_X8_setWeight p ru s y x0 x1) := by
  unfold f_X8_setWeight
  split
  · exact ⟨h0, h4, hs⟩
  · rename_i hm
    split
    · exact ⟨h0, h4, hs⟩
    · refine my_l_inv (fun u : Int32 × (Nat → Int32) => ¬ u.1 < 0 ∧ ¬ 4 < u.1) ok8 (sv_ok h0 h4) ?_
      intro u hu
      exact ⟨hu.1, hu.2, one_ok hs (im_0 hm) (lt_8 (im_1 hm) hs.1) (by decide)⟩
theorem sq_ok (h0 : ¬ p < 0) (h4 : ¬ 4 < p) (hs : cnt8 s) : ok8 (f_X8_setQuota p ru s y x0) := by
  unfold f_X8_setQuota
  split
  · exact ⟨h0, h4, hs⟩
  · refine my_l_inv (fun u : Int32 × (Nat → Int32) => ¬ u.1 < 0 ∧ ¬ 4 < u.1) ok8 (sv_ok h0 h4) ?_
    intro u hu
    exact ⟨hu.1, hu.2, cnt8_of (t := upd s 1 x0) hs (upd_ne (by decide)) (upd_ne (by decide))⟩
theorem fo_ok (h0 : ¬ p < 0) (h4 : ¬ 4 < p) (hs : cnt8 s) : ok8 (f_X8_follow p ru s y x0 x1) := by
  unfold f_X8_follow
  split
  · exact ⟨h0, h4, hs⟩
  · rename_i hm
    split
    · exact ⟨h0, h4, hs⟩
    · split
      · exact ⟨h0, h4, hs⟩
      · split
        · exact ⟨h0, h4, hs⟩
        · split
          · exact ⟨h0, h4, hs⟩
          · split
            · exact ⟨h0, h4, hs⟩
            · refine my_l_inv (fun u : Int32 × (Nat → Int32) => ¬ u.1 < 0 ∧ ¬ 4 < u.1) ok8 (sv_ok h0 h4) ?_
              intro u hu
              exact ⟨hu.1, hu.2, one_ok hs (im_0 hm) (lt_8 (im_1 hm) hs.1) (by decide)⟩
theorem le_ok (h0 : ¬ p < 0) (h4 : ¬ 4 < p) (hs : cnt8 s) : ok8 (f_X8_leave p ru s y x0) := by
  unfold f_X8_leave
  split
  · exact ⟨h0, h4, hs⟩
  · rename_i hm
    split
    · refine my_l_inv (fun u : Int32 × (Nat → Int32) => ¬ u.1 < 0 ∧ ¬ 4 < u.1) ok8 (sv_ok h0 h4) ?_
      intro u hu
      exact ⟨hu.1, hu.2, one_ok hs (im_0 hm) (lt_8 (im_1 hm) hs.1) (by decide)⟩
    · exact ⟨h0, h4, hs⟩
theorem ar_ok (h0 : ¬ p < 0) (h4 : ¬ 4 < p) (hs : cnt8 s) : ok8 (f_X8_addRule p ru s y x0 x1) := by
  have h28 : ¬ 8 < s 2 := fun z => hs.2.1 (Int32.lt_iff_toInt_lt.mpr (by have := Int32.lt_iff_toInt_lt.mp z; have e8 := i32_c8; have e4 := i32_c4; omega))
  unfold f_X8_addRule
  split
  · exact ⟨h0, h4, hs⟩
  · split
    · exact ⟨h0, h4, hs⟩
    · split
      · exact ⟨h0, h4, hs⟩
      · rename_i h8
        refine my_l_inv (fun u : Int32 × (Nat → Int32) => ¬ u.1 < 0 ∧ ¬ 4 < u.1) ok8 (sv_ok h0 h4) ?_
        intro u hu
        have h5 : s 2 < 4 := lt_of_ne hs.2.1 h8
        refine ⟨hu.1, hu.2, ?_, ?_, ?_, ?_⟩
        · show ¬ 8 < upd (upd (upd s _ _) _ _) 2 (s 2 + 1) 0
          rw [upd_ne (by decide), upd_hi hs.2.2.2 h28 (by decide), upd_hi hs.2.2.2 h28 (by decide)]; exact hs.1
        · show ¬ 4 < s 2 + 1
          exact le_up h5
        · show ¬ upd (upd (upd s _ _) _ _) 2 (s 2 + 1) 0 < 0
          rw [upd_ne (by decide), upd_hi hs.2.2.2 h28 (by decide), upd_hi hs.2.2.2 h28 (by decide)]; exact hs.2.2.1
        · show ¬ s 2 + 1 < 0
          exact nn_up hs.2.2.2 (Int32.not_le.mpr h5)
theorem dr_ok (h0 : ¬ p < 0) (h4 : ¬ 4 < p) (hs : cnt8 s) : ok8 (f_X8_dropRule p ru s y x0) := by
  unfold f_X8_dropRule
  split
  · exact ⟨h0, h4, hs⟩
  · rename_i hm
    have k0 := ir_0 hm
    have k1 := ir_1 hm
    have a0 := nn_toInt k0
    have a1 := Int32.lt_iff_toInt_lt.mp k1
    have e1 := i32_c1
    have b4 : ¬ (4 : Int32).toInt < (s 2).toInt := fun z => hs.2.1 (Int32.lt_iff_toInt_lt.mpr z)
    have e4 := i32_c4
    have e : (s 2 - 1).toInt = (s 2).toInt - 1 := by
      rw [Int32.toInt_sub, e1]
      show Int.bmod _ 4294967296 = _
      rw [Int.bmod_eq_of_le (by omega) (by omega)]
    refine my_l_inv (fun u : Int32 × (Nat → Int32) => ¬ u.1 < 0 ∧ ¬ 4 < u.1) ok8 (sv_ok h0 h4) ?_
    intro u hu
    refine my_t2_inv (fun _ w => w 0 = s 0 ∧ w 2 = s 2 - 1) ok8 ?_ ?_
    · refine lp_inm (I := fun z : Int32 × (Nat → Int32) => ¬ z.1 < 0 ∧ z.2 0 = s 0 ∧ z.2 2 = s 2 - 1) (Q := fun z : Int32 × (Nat → Int32) => z.2 0 = s 0 ∧ z.2 2 = s 2 - 1) (fun z : Int32 × (Nat → Int32) => ((s 2 - 1).toInt - z.1.toInt).toNat) ?_ _ _ ⟨k0, by show upd s 2 (s 2 - 1) 0 = s 0; exact upd_ne (by decide), by show upd s 2 (s 2 - 1) 2 = s 2 - 1; exact upd_eq⟩ (Nat.lt_succ_self _)
      intro z ⟨g0, g1, g2⟩
      unfold f_X8_dropRule_st
      rw [g2]
      split
      · exact ⟨g1, g2⟩
      · rename_i h
        have j1 : z.1 < s 2 - 1 := Int32.not_le.mp h
        have j2 : ¬ 8 < z.1 := fun z8 => by
          have t1 := Int32.lt_iff_toInt_lt.mp z8
          have t2 := Int32.lt_iff_toInt_lt.mp j1
          have e8 := i32_c8
          omega
        refine ⟨⟨nn_up g0 h, ?_, ?_⟩, mu_up h⟩
        · show upd (upd z.2 _ _) _ _ 0 = s 0
          rw [upd_hi g0 j2 (by decide), upd_hi g0 j2 (by decide)]; exact g1
        · show upd (upd z.2 _ _) _ _ 2 = s 2 - 1
          rw [upd_hi g0 j2 (by decide), upd_hi g0 j2 (by decide)]; exact g2
    · intro a w hw
      refine ⟨hu.1, hu.2, ?_, ?_, ?_, ?_⟩
      · show ¬ 8 < w 0
        rw [hw.1]; exact hs.1
      · show ¬ 4 < w 2
        rw [hw.2]; exact fun z => by have := Int32.lt_iff_toInt_lt.mp z; omega
      · show ¬ w 0 < 0
        rw [hw.1]; exact hs.2.2.1
      · show ¬ w 2 < 0
        rw [hw.2]; exact fun z => by have := Int32.lt_iff_toInt_lt.mp z; have := i32_c0; omega
end OK8
theorem do_all {p ru cm : Int32} {s y rd : Nat → Int32} (h0 : ¬ p < 0) (h4 : ¬ 4 < p) (hs : cnt8 s) : ok8 (f_X8_does p ru cm s y rd) := by
  unfold f_X8_does
  split
  · exact my_b_inv (fun r u => ok8 (r, u)) ok8 (ad_ok h0 h4 hs) (fun _ _ h => h)
  · split
    · exact my_b_inv (fun r u => ok8 (r, u)) ok8 (sw_ok h0 h4 hs) (fun _ _ h => h)
    · split
      · exact my_b_inv (fun r u => ok8 (r, u)) ok8 (sq_ok h0 h4 hs) (fun _ _ h => h)
      · split
        · exact my_b_inv (fun r u => ok8 (r, u)) ok8 (fo_ok h0 h4 hs) (fun _ _ h => h)
        · split
          · exact my_b_inv (fun r u => ok8 (r, u)) ok8 (le_ok h0 h4 hs) (fun _ _ h => h)
          · split
            · exact my_b_inv (fun r u => ok8 (r, u)) ok8 (ar_ok h0 h4 hs) (fun _ _ h => h)
            · exact my_b_inv (fun r u => ok8 (r, u)) ok8 (dr_ok h0 h4 hs) (fun _ _ h => h)
theorem do_ok {p ru cm r : Int32} {s y rd : Nat → Int32} {u : Int32 × Int32 × (Nat → Int32) × (Nat → Int32)} (h0 : ¬ p < 0) (h4 : ¬ 4 < p) (a : ¬ 8 < s 0) (b : ¬ 4 < s 2) (c : ¬ s 0 < 0) (d : ¬ s 2 < 0) (h : f_X8_does p ru cm s y rd = (r, u)) :
    ¬ u.1 < 0 ∧ ¬ 4 < u.1 ∧ ¬ 8 < (u.2.2.1 0) ∧ ¬ 4 < (u.2.2.1 2) ∧ ¬ (u.2.2.1 0) < 0 ∧ ¬ (u.2.2.1 2) < 0 := by
  have h1 := do_all (ru := ru) (cm := cm) (y := y) (rd := rd) h0 h4 (show cnt8 s from ⟨a, b, c, d⟩)
  rw [h] at h1
  exact h1
theorem un_a {p : Int32} (h : ¬ p < 0) (hn : ¬ p = 0) : ¬ (p - 1) < 0 := fun h3 => by
  have a0 := nn_toInt h
  have e1 := i32_c1
  have e0 := i32_c0
  have hi := i32_hi p
  have e : (p - 1).toInt = p.toInt - 1 := by
    rw [Int32.toInt_sub, e1]
    show Int.bmod _ 4294967296 = _
    rw [Int.bmod_eq_of_le (by omega) (by omega)]
  have t := Int32.lt_iff_toInt_lt.mp h3
  exact hn (Int32.toInt_inj.mp (by omega))
theorem un_b {p : Int32} (h : ¬ p < 0) (h4 : ¬ 4 < p) : ¬ 3 < (p - 1) := fun h3 => by
  have a0 := nn_toInt h
  have e1 := i32_c1
  have e4 := i32_c4
  have e3 : (3 : Int32).toInt = 3 := by decide
  have b4 : ¬ (4 : Int32).toInt < p.toInt := fun z => h4 (Int32.lt_iff_toInt_lt.mpr z)
  have e : (p - 1).toInt = p.toInt - 1 := by
    rw [Int32.toInt_sub, e1]
    show Int.bmod _ 4294967296 = _
    rw [Int.bmod_eq_of_le (by omega) (by omega)]
  have t := Int32.lt_iff_toInt_lt.mp h3
  omega
theorem hd_X8_runCommands_S : yX8_runCommands.cls ≠ "java/lang/invoke/MethodHandle" ∧ yX8_runCommands.cls ≠ "java/lang/invoke/VarHandle" ∧ (parseMethodDescriptor yX8_runCommands.desc).map (fun d => d.parameters.length) = some 0 := by decide +kernel
theorem hd_X8_runCommands_V : yX8_runCommands.cls = RX8 ∧ yX8_runCommands.cls ≠ "java/lang/invoke/MethodHandle" ∧ yX8_runCommands.cls ≠ "java/lang/invoke/VarHandle" ∧ (parseMethodDescriptor yX8_runCommands.desc).map (fun d => d.parameters.length) = some 0 := ⟨rfl, hd_X8_runCommands_S⟩
def f_X8_runCommands_st (y2 : Int32) (y9 : (Nat → Int32)) (i2_13 : Int32) (i3_14 : Int32) (w00_15 : Int32) (w03_16 : Int32) (w05_17 : Int32) (w06_18 : Int32) (w07_19 : (Nat → Int32)) (w08_20 : (Nat → Int32)) (w013_21 : (Nat → Int32)) : (Int32 × Int32 × Int32 × Int32 × Int32 × Int32 × (Nat → Int32) × (Nat → Int32) × (Nat → Int32)) ⊕ (Int32 × Int32 × Int32 × Int32 × Int32 × Int32 × (Nat → Int32) × (Nat → Int32) × (Nat → Int32)) := (if i3_14 = 0 then (.inr (i2_13, i3_14, w00_15, w03_16, w05_17, w06_18, w07_19, w08_20, w013_21)) else (if y2 ≤ w05_17 then (.inr (i2_13, i3_14, w00_15, w03_16, w05_17, w06_18, w07_19, w08_20, w013_21)) else (my_b (f_X8_reads y2 w05_17 y9 w013_21) (fun (r_26 : Int32) (u_24 : Int32 × Int32 × (Nat → Int32)) => (if r_26 = 0 then (.inl ((i2_13 + 0), 0, w00_15, w03_16, u_24.1, u_24.2.1, w07_19, w08_20, u_24.2.2)) else (my_b (f_X8_does w00_15 1 u_24.2.1 w07_19 w08_20 u_24.2.2) (fun (r_32 : Int32) (u_30 : Int32 × Int32 × (Nat → Int32) × (Nat → Int32)) => (if r_32 < 0 then (.inl ((i2_13 + 0), 0, u_30.1, u_30.2.1, u_24.1, u_24.2.1, u_30.2.2.1, u_30.2.2.2, u_24.2.2)) else (if u_30.2.1 = 0 then (.inl ((i2_13 + 1), 1, u_30.1, u_30.2.1, u_24.1, u_24.2.1, u_30.2.2.1, u_30.2.2.2, u_24.2.2)) else (.inl ((i2_13 + 0), 0, u_30.1, u_30.2.1, u_24.1, u_24.2.1, u_30.2.2.1, u_30.2.2.2, u_24.2.2)))))))))))
def f_X8_runCommands (y0 : Int32) (y1 : Int32) (y2 : Int32) (y6 : Int32) (y7 : (Nat → Int32)) (y8 : (Nat → Int32)) (y9 : (Nat → Int32)) (y13 : (Nat → Int32)) : Int32 × (Int32 × Int32 × Int32 × Int32 × Int32 × (Nat → Int32) × (Nat → Int32) × (Nat → Int32)) := (my_b (f_X8_fault y2 y6 y9 y13) (fun (r_3 : Int32) (u_1 : Int32 × Int32 × (Nat → Int32)) => (if r_3 = (-1) then (my_l (f_X8_saves y0 y1 y7 y8) (fun (u_5 : Int32 × (Nat → Int32)) => (my_l (f_X8_skips y2 0 y9) (fun (u_9 : Int32) => (my_t9 (lp (fun (x : Int32 × Int32 × Int32 × Int32 × Int32 × Int32 × (Nat → Int32) × (Nat → Int32) × (Nat → Int32)) => f_X8_runCommands_st y2 y9 x.1 x.2.1 x.2.2.1 x.2.2.2.1 x.2.2.2.2.1 x.2.2.2.2.2.1 x.2.2.2.2.2.2.1 x.2.2.2.2.2.2.2.1 x.2.2.2.2.2.2.2.2) default ((ft_mu y2 1 u_9) + 1) (0, 1, u_5.1, 0, u_9, u_1.2.1, y7, u_5.2, u_1.2.2)) (fun (i2_13 : Int32) (i3_14 : Int32) (w00_15 : Int32) (w03_16 : Int32) (w05_17 : Int32) (w06_18 : Int32) (w07_19 : (Nat → Int32)) (w08_20 : (Nat → Int32)) (w013_21 : (Nat → Int32)) => (i2_13, (w00_15, 0, 0, w05_17, w06_18, w07_19, w08_20, w013_21)))))))) else (((-10) - r_3), (y0, y1, 0, u_1.1, u_1.2.1, y7, y8, u_1.2.2)))))
set_option maxHeartbeats 400000 in
set_option maxRecDepth 100000 in
theorem c_X8_runCommands (l : Launch) (D : va_G) (cy : Nat → ClassId) (g : Nat → Nat) (B : Nat) (a : Nat → Nat) (y0 : Int32) (y1 : Int32) (y2 : Int32) (y3 : Int32) (y4 : Int32) (y5 : Int32) (y6 : Int32) (y7 : (Nat → Int32)) (y8 : (Nat → Int32)) (y9 : (Nat → Int32)) (y10 : (Nat → Int32)) (y11 : (Nat → Int32)) (y12 : (Nat → Int32)) (y13 : (Nat → Int32)) (hpa0 : ¬ y0 < 0) (hpa4 : ¬ 4 < y0) (hm8 : ¬ 8 < (y7 0)) (hR4 : ¬ 4 < (y7 2)) (hm0 : ¬ (y7 0) < 0) (hR0 : ¬ (y7 2) < 0) (hty0 : ¬ y2 < 0) (hty : ¬ 150 < y2) : Met l yX8_runCommands wsX8_runCommands ({ frames := 6, cells := 0, slots := 0, locals := 129 }) (muP D cy g B (wModE cy a y0 y1 y2 y3 y4 y5 y6 y7 y8 y9 y10 y11 y12 y13) [.ref (a 0)]) (va_Qi (fun (r : Int32) (u : Int32 × Int32 × Int32 × Int32 × Int32 × (Nat → Int32) × (Nat → Int32) × (Nat → Int32)) => f_X8_runCommands y0 y1 y2 y6 y7 y8 y9 y13 = (r, u)) (fun u t => va_P D vwCl (wModE cy a u.1 u.2.1 y2 u.2.2.1 y4 u.2.2.2.1 u.2.2.2.2.1 u.2.2.2.2.2.1 u.2.2.2.2.2.2.1 y9 y10 y11 y12 u.2.2.2.2.2.2.2) t.heap) (muA (wModE cy a y0 y1 y2 y3 y4 y5 y6 y7 y8 y9 y10 y11 y12 y13))) 0 0 (muA (wModE cy a y0 y1 y2 y3 y4 y5 y6 y7 y8 y9 y10 y11 y12 y13)) := by
  refine Met.ofW (cc := cX8_runCommands) (maxL := 4) (ret := (some .int)) (by decide) rfl ?_
  intro p e s m args below meth c s₁ BB hml hv
  obtain ⟨rfl, hP, hK0, hD0⟩ := hv
  have hx := BB.exec
  have hb := BB.bytes
  have hr := BB.returns
  have hts := atoms_spec (ws := wsX8_runCommands) BB.pre
  have hown : s.vm.findClass RX8 = some m.cls := findClass_of_methodNamed BB.named
  have hlocks := BB.notSynchronized
  have S := my_fix hx hb hml hown hts
  have inX8 : ∀ w ∈ wsX80, w ∈ wsX8_runCommands := fun w h => List.mem_cons_of_mem _ (List.mem_append_right _ h)
  have hAB := muB hD0
  have hD := muD hD0
  generalize hAe : muA (wModE cy a y0 y1 y2 y3 y4 y5 y6 y7 y8 y9 y10 y11 y12 y13) = A at hAB hD ⊢
  have hS : va_S A s.heap s.heap [] := va_S.rf
  have hl := lv_entry ([.ref (a 0)]) (n := 4) (Nat.le_of_ble_eq_true rfl)
  rw [lg_entry_eq]
  generalize (lg_sl ([.ref (a 0)]) ++ List.replicate (4 - (lg_sl ([.ref (a 0)])).length) Slot.unset).toArray = ls at hl ⊢
  have hl : lv_has ls 4 [(0, .ref (a 0))] := hl
  refine lv_aload_n hx hb dX8_runCommands_0 rfl (lv_at hl 0 rfl) ?_
  refine lv_iconst (v := 0) hx hb dX8_runCommands_1 (by decide) ?_
  refine va_put (D := D) (ci := 6) (v := .int 0) (ty := .int) (C := RX8) (T := TX8) (N := 14) hx hb hts inX8 tyX8 tyX8_ok nmX8 hown hK0.1 hP hD hS 0 rfl rfl 6 (by decide) (hts (.fieldLink RX8 32 "PivotChamberModel" "refused" "I") (List.mem_of_getElem? (i := 1) rfl)) (fun _ h9 => h9) rfl (by decide +kernel) rfl rfl (Nat.le_of_ble_eq_true rfl) dX8_runCommands_2 (fun H locs hP hD hS => ?_)
  have hP : va_P D vwCl (wModE cy a y0 y1 y2 0 y4 y5 y6 y7 y8 y9 y10 y11 y12 y13) H := hP
  have hD : va_D A (wModE cy a y0 y1 y2 0 y4 y5 y6 y7 y8 y9 y10 y11 y12 y13) := hD
  refine lv_aload_n hx hb dX8_runCommands_5 rfl (lv_at hl 0 rfl) ?_
  refine mu_alli (wf := fun (u_1 : Int32 × Int32 × (Nat → Int32)) => (wModE cy a y0 y1 y2 0 y4 u_1.1 u_1.2.1 y7 y8 y9 y10 y11 y12 u_1.2.2)) (va_runV (C := RX8) (As := []) (rest := []) S (c_X8_fault l D cy g B a y0 y1 y2 0 y4 y5 y6 y7 y8 y9 y10 y11 y12 y13 hty0 hty) (cwV 0 hts gX8_runCommands_X8_fault rfl rfl rfl hd_X8_fault_V ⟨Nat.le_of_ble_eq_true rfl, Nat.le_of_ble_eq_true rfl⟩) ⟨muP_blind, va_recv hK0.1 hP (ci := 6) (q0 := 0) rfl rfl, my_preA hK0 hS hAB hP hD⟩ rfl rfl hl.1 rfl (lv_room (Nat.le_of_ble_eq_true rfl)) dX8_runCommands_6 ⟨Nat.zero_le _, Nat.zero_le _⟩) hS hD (fun _ => by simp only [List.map_cons, List.map_nil, adrSet, adrSetE, adrPow, adrPowE, adrTxt, adrTxtE, adrSav, adrSavE, adrPCo, adrMod, adrModE]) (fun r_3 u_1 H locs hw_2 hP hD hS => ?_)
  refine lv_istore_n (lv' := [(1, .int r_3), (0, .ref (a 0))]) hx hb dX8_runCommands_9 rfl hl (by decide) rfl (fun ls hl => ?_)
  refine lv_iload_n hx hb dX8_runCommands_10 rfl (lv_at hl 0 rfl) ?_
  refine lv_iconst (v := (-1)) hx hb dX8_runCommands_11 (by decide) ?_
  refine lv_icmp_eq (tgt := 20) hx hb dX8_runCommands_12 (by decide) (fun c_4 => ?_) (fun c_4 => ?_)
  · refine lv_aload_n hx hb dX8_runCommands_20 rfl (lv_at hl 1 rfl) ?_
    refine mu_allv (wf := fun (u_5 : Int32 × (Nat → Int32)) => (wModE cy a u_5.1 y1 y2 0 y4 u_1.1 u_1.2.1 y7 u_5.2 y9 y10 y11 y12 u_1.2.2)) (va_runV (C := RX8) (As := []) (rest := []) S (c_X8_saves l D cy g B a y0 y1 y2 0 y4 u_1.1 u_1.2.1 y7 y8 y9 y10 y11 y12 u_1.2.2 hpa0 hpa4) (cwV 0 hts gX8_runCommands_X8_saves rfl rfl rfl hd_X8_saves_V ⟨Nat.le_of_ble_eq_true rfl, Nat.le_of_ble_eq_true rfl⟩) ⟨muP_blind, va_recv hK0.1 hP (ci := 6) (q0 := 0) rfl rfl, my_preA hK0 hS hAB hP hD⟩ rfl rfl hl.1 rfl (lv_room (Nat.le_of_ble_eq_true rfl)) dX8_runCommands_21 ⟨Nat.zero_le _, Nat.zero_le _⟩) hS hD (fun _ => by simp only [List.map_cons, List.map_nil, adrSet, adrSetE, adrPow, adrPowE, adrTxt, adrTxtE, adrSav, adrSavE, adrPCo, adrMod, adrModE]) (fun u_5 H locs hw_6 hP hD hS => ?_)
    have ha_7 : ¬ u_5.1 < 0 := sv_0 hpa0 hpa4 hw_6
    have ha_8 : ¬ 4 < u_5.1 := sv_1 hpa0 hpa4 hw_6
    refine lv_aload_n hx hb dX8_runCommands_24 rfl (lv_at hl 1 rfl) ?_
    refine lv_iconst (v := 1) hx hb dX8_runCommands_25 (by decide) ?_
    refine va_put (D := D) (ci := 6) (v := .int 1) (ty := .boolean) (C := RX8) (T := TX8) (N := 14) hx hb hts inX8 tyX8 tyX8_ok nmX8 hown hK0.1 hP hD hS 0 rfl rfl 3 (by decide) (hts (.fieldLink RX8 36 "PivotChamberModel" "runs" "Z") (List.mem_of_getElem? (i := 2) rfl)) (fun _ h9 => h9) rfl (by decide +kernel) (by decide) (by decide) (Nat.le_of_ble_eq_true rfl) dX8_runCommands_26 (fun H locs hP hD hS => ?_)
    have hP : va_P D vwCl (wModE cy a u_5.1 1 y2 0 y4 u_1.1 u_1.2.1 y7 u_5.2 y9 y10 y11 y12 u_1.2.2) H := hP
    have hD : va_D A (wModE cy a u_5.1 1 y2 0 y4 u_1.1 u_1.2.1 y7 u_5.2 y9 y10 y11 y12 u_1.2.2) := hD
    refine lv_iconst (v := 0) hx hb dX8_runCommands_29 (by decide) ?_
    refine lv_istore_n (lv' := [(2, .int 0), (1, .int r_3), (0, .ref (a 0))]) hx hb dX8_runCommands_30 rfl hl (by decide) rfl (fun ls hl => ?_)
    refine lv_iconst (v := 1) hx hb dX8_runCommands_31 (by decide) ?_
    refine lv_istore_n (lv' := [(3, .int 1), (2, .int 0), (1, .int r_3), (0, .ref (a 0))]) hx hb dX8_runCommands_32 rfl hl (by decide) rfl (fun ls hl => ?_)
    refine lv_aload_n hx hb dX8_runCommands_33 rfl (lv_at hl 3 rfl) ?_
    refine lv_iconst (v := 0) hx hb dX8_runCommands_34 (by decide) ?_
    refine va_put (D := D) (ci := 6) (v := .int 0) (ty := .int) (C := RX8) (T := TX8) (N := 14) hx hb hts inX8 tyX8 tyX8_ok nmX8 hown hK0.1 hP hD hS 0 rfl rfl 11 (by decide) (hts (.fieldLink RX8 164 "PivotChamberModel" "spot" "I") (List.mem_of_getElem? (i := 3) rfl)) (fun _ h9 => h9) rfl (by decide +kernel) rfl rfl (Nat.le_of_ble_eq_true rfl) dX8_runCommands_35 (fun H locs hP hD hS => ?_)
    have hP : va_P D vwCl (wModE cy a u_5.1 1 y2 0 y4 0 u_1.2.1 y7 u_5.2 y9 y10 y11 y12 u_1.2.2) H := hP
    have hD : va_D A (wModE cy a u_5.1 1 y2 0 y4 0 u_1.2.1 y7 u_5.2 y9 y10 y11 y12 u_1.2.2) := hD
    refine lv_aload_n hx hb dX8_runCommands_38 rfl (lv_at hl 3 rfl) ?_
    refine mu_allv (wf := fun (u_9 : Int32) => (wModE cy a u_5.1 1 y2 0 y4 u_9 u_1.2.1 y7 u_5.2 y9 y10 y11 y12 u_1.2.2)) (va_runV (C := RX8) (As := []) (rest := []) S (c_X8_skips l D cy g B a u_5.1 1 y2 0 y4 0 u_1.2.1 y7 u_5.2 y9 y10 y11 y12 u_1.2.2 (by decide) hty hty0) (cwV 0 hts gX8_runCommands_X8_skips rfl rfl rfl hd_X8_skips_V ⟨Nat.le_of_ble_eq_true rfl, Nat.le_of_ble_eq_true rfl⟩) ⟨muP_blind, va_recv hK0.1 hP (ci := 6) (q0 := 0) rfl rfl, my_preA hK0 hS hAB hP hD⟩ rfl rfl hl.1 rfl (lv_room (Nat.le_of_ble_eq_true rfl)) dX8_runCommands_39 ⟨Nat.zero_le _, Nat.zero_le _⟩) hS hD (fun _ => by simp only [List.map_cons, List.map_nil, adrSet, adrSetE, adrPow, adrPowE, adrTxt, adrTxtE, adrSav, adrSavE, adrPCo, adrMod, adrModE]) (fun u_9 H locs hw_10 hP hD hS => ?_)
    have ha_11 : ¬ u_9 < 0 := sk_0 (by decide) hw_10
    have ha_12 : ¬ y2 < u_9 := sk_1 hty0 hw_10
    have cont0 : ∀ (i2_13 : Int32) (i3_14 : Int32) (w00_15 : Int32) (w03_16 : Int32) (w05_17 : Int32) (w06_18 : Int32) (w07_19 : (Nat → Int32)) (w08_20 : (Nat → Int32)) (w013_21 : (Nat → Int32)), lp (fun (x : Int32 × Int32 × Int32 × Int32 × Int32 × Int32 × (Nat → Int32) × (Nat → Int32) × (Nat → Int32)) => f_X8_runCommands_st y2 y9 x.1 x.2.1 x.2.2.1 x.2.2.2.1 x.2.2.2.2.1 x.2.2.2.2.2.1 x.2.2.2.2.2.2.1 x.2.2.2.2.2.2.2.1 x.2.2.2.2.2.2.2.2) default ((ft_mu y2 1 u_9) + 1) (0, 1, u_5.1, 0, u_9, u_1.2.1, y7, u_5.2, u_1.2.2) = (i2_13, i3_14, w00_15, w03_16, w05_17, w06_18, w07_19, w08_20, w013_21) → ¬ w05_17 < 0 → ¬ y2 < w05_17 → ¬ w00_15 < 0 → ¬ 4 < w00_15 → ¬ 8 < (w07_19 0) → ¬ 4 < (w07_19 2) → ¬ (w07_19 0) < 0 → ¬ (w07_19 2) < 0 → ∀ (H : Heap) (locs : List Loc), va_P D vwCl (wModE cy a w00_15 1 y2 w03_16 y4 w05_17 w06_18 w07_19 w08_20 y9 y10 y11 y12 w013_21) H → va_D A (wModE cy a w00_15 1 y2 w03_16 y4 w05_17 w06_18 w07_19 w08_20 y9 y10 y11 y12 w013_21) → va_S A s.heap H locs → ∀ ls : Array Slot, lv_has ls 4 [(0, .ref (a 0)), (1, .int r_3), (2, .int i2_13), (3, .int i3_14)] → W p l e (headSpec wsX8_runCommands ({ frames := 6, cells := 0, slots := 0, locals := 129 } : Room)).room s m ([.ref (a 0)] : List Value).toArray below meth c H locs 0 0 (MQ below (va_Qi (fun (r : Int32) (u : Int32 × Int32 × Int32 × Int32 × Int32 × (Nat → Int32) × (Nat → Int32) × (Nat → Int32)) => f_X8_runCommands y0 y1 y2 y6 y7 y8 y9 y13 = (r, u)) (fun u t => va_P D vwCl (wModE cy a u.1 u.2.1 y2 u.2.2.1 y4 u.2.2.2.1 u.2.2.2.2.1 u.2.2.2.2.2.1 u.2.2.2.2.2.2.1 y9 y10 y11 y12 u.2.2.2.2.2.2.2) t.heap) A) ([.ref (a 0)] : List Value).toArray s 0 0 A) (F0 m 99 ls []) := by
      intro i2_13 i3_14 w00_15 w03_16 w05_17 w06_18 w07_19 w08_20 w013_21 hE0 hj0_0 hj0_1 hj0_2 hj0_3 hj0_4 hj0_5 hj0_6 hj0_7 H locs hP hD hS ls hl
      refine lv_aload_n hx hb dX8_runCommands_99 rfl (lv_at hl 0 rfl) ?_
      refine lv_iconst (v := 0) hx hb dX8_runCommands_100 (by decide) ?_
      refine va_put (D := D) (ci := 6) (v := .int 0) (ty := .boolean) (C := RX8) (T := TX8) (N := 14) hx hb hts inX8 tyX8 tyX8_ok nmX8 hown hK0.1 hP hD hS 0 rfl rfl 3 (by decide) (hts (.fieldLink RX8 36 "PivotChamberModel" "runs" "Z") (List.mem_of_getElem? (i := 2) rfl)) (fun _ h9 => h9) rfl (by decide +kernel) (by decide) (by decide) (Nat.le_of_ble_eq_true rfl) dX8_runCommands_101 (fun H locs hP hD hS => ?_)
      have hP : va_P D vwCl (wModE cy a w00_15 0 y2 w03_16 y4 w05_17 w06_18 w07_19 w08_20 y9 y10 y11 y12 w013_21) H := hP
      have hD : va_D A (wModE cy a w00_15 0 y2 w03_16 y4 w05_17 w06_18 w07_19 w08_20 y9 y10 y11 y12 w013_21) := hD
      refine lv_aload_n hx hb dX8_runCommands_104 rfl (lv_at hl 0 rfl) ?_
      refine lv_iconst (v := 0) hx hb dX8_runCommands_105 (by decide) ?_
      refine va_put (D := D) (ci := 6) (v := .int 0) (ty := .int) (C := RX8) (T := TX8) (N := 14) hx hb hts inX8 tyX8 tyX8_ok nmX8 hown hK0.1 hP hD hS 0 rfl rfl 6 (by decide) (hts (.fieldLink RX8 32 "PivotChamberModel" "refused" "I") (List.mem_of_getElem? (i := 1) rfl)) (fun _ h9 => h9) rfl (by decide +kernel) rfl rfl (Nat.le_of_ble_eq_true rfl) dX8_runCommands_106 (fun H locs hP hD hS => ?_)
      have hP : va_P D vwCl (wModE cy a w00_15 0 y2 0 y4 w05_17 w06_18 w07_19 w08_20 y9 y10 y11 y12 w013_21) H := hP
      have hD : va_D A (wModE cy a w00_15 0 y2 0 y4 w05_17 w06_18 w07_19 w08_20 y9 y10 y11 y12 w013_21) := hD
      refine lv_iload_n hx hb dX8_runCommands_109 rfl (lv_at hl 2 rfl) ?_
      have hP : va_P D vwCl (wModE cy a w00_15 0 y2 0 y4 w05_17 w06_18 w07_19 w08_20 y9 y10 y11 y12 w013_21) H := hP
      have hD : va_D A (wModE cy a w00_15 0 y2 0 y4 w05_17 w06_18 w07_19 w08_20 y9 y10 y11 y12 w013_21) := hD
      exact W.iret hx hb hr (fun t ht hW => ⟨⟨i2_13, (w00_15, 0, 0, w05_17, w06_18, w07_19, w08_20, w013_21), rfl, (show f_X8_runCommands y0 y1 y2 y6 y7 y8 y9 y13 = (i2_13, (w00_15, 0, 0, w05_17, w06_18, w07_19, w08_20, w013_21)) from by rw [f_X8_runCommands, hw_2, my_b_eq, if_pos c_4, hw_6, my_l_eq, hw_10, my_l_eq, hE0, my_t9_eq]), by show va_P D vwCl _ t.heap; rw [ht]; exact hP⟩, hS.F ht⟩) hS.2.2 dX8_runCommands_110
    have key : ∀ (nf : Nat) (i2_13 : Int32) (i3_14 : Int32) (w00_15 : Int32) (w03_16 : Int32) (w05_17 : Int32) (w06_18 : Int32) (w07_19 : (Nat → Int32)) (w08_20 : (Nat → Int32)) (w013_21 : (Nat → Int32)), (ft_mu y2 i3_14 w05_17) < nf → lp (fun (x : Int32 × Int32 × Int32 × Int32 × Int32 × Int32 × (Nat → Int32) × (Nat → Int32) × (Nat → Int32)) => f_X8_runCommands_st y2 y9 x.1 x.2.1 x.2.2.1 x.2.2.2.1 x.2.2.2.2.1 x.2.2.2.2.2.1 x.2.2.2.2.2.2.1 x.2.2.2.2.2.2.2.1 x.2.2.2.2.2.2.2.2) default nf (i2_13, i3_14, w00_15, w03_16, w05_17, w06_18, w07_19, w08_20, w013_21) = lp (fun (x : Int32 × Int32 × Int32 × Int32 × Int32 × Int32 × (Nat → Int32) × (Nat → Int32) × (Nat → Int32)) => f_X8_runCommands_st y2 y9 x.1 x.2.1 x.2.2.1 x.2.2.2.1 x.2.2.2.2.1 x.2.2.2.2.2.1 x.2.2.2.2.2.2.1 x.2.2.2.2.2.2.2.1 x.2.2.2.2.2.2.2.2) default ((ft_mu y2 1 u_9) + 1) (0, 1, u_5.1, 0, u_9, u_1.2.1, y7, u_5.2, u_1.2.2) → ¬ w05_17 < 0 → ¬ y2 < w05_17 → ¬ w00_15 < 0 → ¬ 4 < w00_15 → ¬ 8 < (w07_19 0) → ¬ 4 < (w07_19 2) → ¬ (w07_19 0) < 0 → ¬ (w07_19 2) < 0 → ∀ (H : Heap) (locs : List Loc), va_P D vwCl (wModE cy a w00_15 1 y2 w03_16 y4 w05_17 w06_18 w07_19 w08_20 y9 y10 y11 y12 w013_21) H → va_D A (wModE cy a w00_15 1 y2 w03_16 y4 w05_17 w06_18 w07_19 w08_20 y9 y10 y11 y12 w013_21) → va_S A s.heap H locs → ∀ ls : Array Slot, lv_has ls 4 [(0, .ref (a 0)), (1, .int r_3), (2, .int i2_13), (3, .int i3_14)] → W p l e (headSpec wsX8_runCommands ({ frames := 6, cells := 0, slots := 0, locals := 129 } : Room)).room s m ([.ref (a 0)] : List Value).toArray below meth c H locs 0 0 (MQ below (va_Qi (fun (r : Int32) (u : Int32 × Int32 × Int32 × Int32 × Int32 × (Nat → Int32) × (Nat → Int32) × (Nat → Int32)) => f_X8_runCommands y0 y1 y2 y6 y7 y8 y9 y13 = (r, u)) (fun u t => va_P D vwCl (wModE cy a u.1 u.2.1 y2 u.2.2.1 y4 u.2.2.2.1 u.2.2.2.2.1 u.2.2.2.2.2.1 u.2.2.2.2.2.2.1 y9 y10 y11 y12 u.2.2.2.2.2.2.2) t.heap) A) ([.ref (a 0)] : List Value).toArray s 0 0 A) (F0 m 42 ls []) := by
      intro n0
      induction n0 with
      | zero => intro i2_13 i3_14 w00_15 w03_16 w05_17 w06_18 w07_19 w08_20 w013_21 hlt; exact absurd hlt (Nat.not_lt_zero _)
      | succ n0 ih0 =>
        intro i2_13 i3_14 w00_15 w03_16 w05_17 w06_18 w07_19 w08_20 w013_21 hlt0 hF0 hi0_0 hi0_1 hi0_2 hi0_3 hi0_4 hi0_5 hi0_6 hi0_7 H locs hP hD hS ls hl
        refine lv_iload_n hx hb dX8_runCommands_42 rfl (lv_at hl 3 rfl) ?_
        refine lv_if_eq (tgt := 99) hx hb dX8_runCommands_43 (by decide) (fun c_22 => ?_) (fun c_22 => ?_)
        · have hst : f_X8_runCommands_st y2 y9 i2_13 i3_14 w00_15 w03_16 w05_17 w06_18 w07_19 w08_20 w013_21 = .inr (i2_13, i3_14, w00_15, w03_16, w05_17, w06_18, w07_19, w08_20, w013_21) := by rw [f_X8_runCommands_st, if_pos c_22]
          exact cont0 i2_13 i3_14 w00_15 w03_16 w05_17 w06_18 w07_19 w08_20 w013_21 (lp_inr hst hF0) hi0_0 hi0_1 hi0_2 hi0_3 hi0_4 hi0_5 hi0_6 hi0_7 _ _ hP hD hS _ (lv_sub hl [0, 1, 2, 3] rfl)
        · refine lv_aload_n hx hb dX8_runCommands_46 rfl (lv_at hl 0 rfl) ?_
          refine va_get (D := D) (ci := 6) (v := .int w05_17) (C := RX8) (T := TX8) (N := 14) hx hb hts inX8 hown hK0.1 hP 0 rfl rfl 11 (by decide) (hts (.fieldLink RX8 164 "PivotChamberModel" "spot" "I") (List.mem_of_getElem? (i := 3) rfl)) (fun _ h9 => h9) rfl dX8_runCommands_47 ?_
          refine lv_aload_n hx hb dX8_runCommands_50 rfl (lv_at hl 0 rfl) ?_
          refine va_get (D := D) (ci := 6) (v := .int y2) (C := RX8) (T := TX8) (N := 14) hx hb hts inX8 hown hK0.1 hP 0 rfl rfl 5 (by decide) (hts (.fieldLink RX8 141 "PivotChamberModel" "typed" "I") (List.mem_of_getElem? (i := 4) rfl)) (fun _ h9 => h9) rfl dX8_runCommands_51 ?_
          refine lv_icmp_ge (tgt := 99) hx hb dX8_runCommands_54 (by decide) (fun c_23 => ?_) (fun c_23 => ?_)
          · have hst : f_X8_runCommands_st y2 y9 i2_13 i3_14 w00_15 w03_16 w05_17 w06_18 w07_19 w08_20 w013_21 = .inr (i2_13, i3_14, w00_15, w03_16, w05_17, w06_18, w07_19, w08_20, w013_21) := by rw [f_X8_runCommands_st, if_neg c_22, if_pos c_23]
            exact cont0 i2_13 i3_14 w00_15 w03_16 w05_17 w06_18 w07_19 w08_20 w013_21 (lp_inr hst hF0) hi0_0 hi0_1 hi0_2 hi0_3 hi0_4 hi0_5 hi0_6 hi0_7 _ _ hP hD hS _ (lv_sub hl [0, 1, 2, 3] rfl)
          · refine lv_aload_n hx hb dX8_runCommands_57 rfl (lv_at hl 0 rfl) ?_
            refine mu_alli (wf := fun (u_24 : Int32 × Int32 × (Nat → Int32)) => (wModE cy a w00_15 1 y2 w03_16 y4 u_24.1 u_24.2.1 w07_19 w08_20 y9 y10 y11 y12 u_24.2.2)) (va_runV (C := RX8) (As := []) (rest := []) S (c_X8_reads l D cy g B a w00_15 1 y2 w03_16 y4 w05_17 w06_18 w07_19 w08_20 y9 y10 y11 y12 w013_21 hi0_0 hty hi0_1) (cwV 0 hts gX8_runCommands_X8_reads rfl rfl rfl hd_X8_reads_V ⟨Nat.le_of_ble_eq_true rfl, Nat.le_of_ble_eq_true rfl⟩) ⟨muP_blind, va_recv hK0.1 hP (ci := 6) (q0 := 0) rfl rfl, my_preA hK0 hS hAB hP hD⟩ rfl rfl hl.1 rfl (lv_room (Nat.le_of_ble_eq_true rfl)) dX8_runCommands_58 ⟨Nat.zero_le _, Nat.zero_le _⟩) hS hD (fun _ => by simp only [List.map_cons, List.map_nil, adrSet, adrSetE, adrPow, adrPowE, adrTxt, adrTxtE, adrSav, adrSavE, adrPCo, adrMod, adrModE]) (fun r_26 u_24 H locs hw_25 hP hD hS => ?_)
            have ha_27 : ¬ u_24.1 < 0 := rd_0 hi0_0 hw_25
            have ha_28 : ¬ y2 < u_24.1 := rd_1 hi0_1 hw_25
            refine lv_if_eq (tgt := 82) hx hb dX8_runCommands_61 (by decide) (fun c_29 => ?_) (fun c_29 => ?_)
            · refine lv_iconst (v := 0) hx hb dX8_runCommands_82 (by decide) ?_
              refine lv_istore_n (lv' := [(3, .int 0), (0, .ref (a 0)), (1, .int r_3), (2, .int i2_13)]) hx hb dX8_runCommands_83 rfl hl (by decide) rfl (fun ls hl => ?_)
              refine lv_iload_n hx hb dX8_runCommands_84 rfl (lv_at hl 3 rfl) ?_
              refine lv_iload_n hx hb dX8_runCommands_85 rfl (lv_at hl 0 rfl) ?_
              refine lv_if_eq (tgt := 93) hx hb dX8_runCommands_86 (by decide) (fun _ => ?_) (fun h => absurd (by decide) h)
              refine lv_iconst (v := 0) hx hb dX8_runCommands_93 (by decide) ?_
              refine lv_iadd hx hb dX8_runCommands_94 ?_
              refine lv_istore_n (lv' := [(2, .int (i2_13 + 0)), (3, .int 0), (0, .ref (a 0)), (1, .int r_3)]) hx hb dX8_runCommands_95 rfl hl (by decide) rfl (fun ls hl => ?_)
              refine lv_goto (tgt := 42) hx hb dX8_runCommands_96 (by decide) ?_
              have hst : f_X8_runCommands_st y2 y9 i2_13 i3_14 w00_15 w03_16 w05_17 w06_18 w07_19 w08_20 w013_21 = .inl ((i2_13 + 0), 0, w00_15, w03_16, u_24.1, u_24.2.1, w07_19, w08_20, u_24.2.2) := by rw [f_X8_runCommands_st, if_neg c_22, if_neg c_23, hw_25, my_b_eq, if_pos c_29]
              have hmu : (ft_mu y2 0 u_24.1) < (ft_mu y2 i3_14 w05_17) := ft_dec c_22 c_23 (fun h => absurd rfl h)
              exact ih0 (i2_13 + 0) 0 w00_15 w03_16 u_24.1 u_24.2.1 w07_19 w08_20 u_24.2.2 (Nat.lt_of_lt_of_le hmu (Nat.le_of_lt_succ hlt0)) (lp_inl hst hF0) ha_27 ha_28 hi0_2 hi0_3 hi0_4 hi0_5 hi0_6 hi0_7 _ _ hP hD hS _ (lv_sub hl [2, 3, 0, 1] rfl)
            · refine lv_aload_n hx hb dX8_runCommands_64 rfl (lv_at hl 0 rfl) ?_
              refine mu_alli (wf := fun (u_30 : Int32 × Int32 × (Nat → Int32) × (Nat → Int32)) => (wModE cy a u_30.1 1 y2 u_30.2.1 y4 u_24.1 u_24.2.1 u_30.2.2.1 u_30.2.2.2 y9 y10 y11 y12 u_24.2.2)) (va_runV (C := RX8) (As := []) (rest := []) S (c_X8_does l D cy g B a w00_15 1 y2 w03_16 y4 u_24.1 u_24.2.1 w07_19 w08_20 y9 y10 y11 y12 u_24.2.2 hi0_2 hi0_3 hi0_4 hi0_5 hi0_6 hi0_7) (cwV 0 hts gX8_runCommands_X8_does rfl rfl rfl hd_X8_does_V ⟨Nat.le_of_ble_eq_true rfl, Nat.le_of_ble_eq_true rfl⟩) ⟨muP_blind, va_recv hK0.1 hP (ci := 6) (q0 := 0) rfl rfl, my_preA hK0 hS hAB hP hD⟩ rfl rfl hl.1 rfl (lv_room (Nat.le_of_ble_eq_true rfl)) dX8_runCommands_65 ⟨Nat.zero_le _, Nat.zero_le _⟩) hS hD (fun _ => by simp only [List.map_cons, List.map_nil, adrSet, adrSetE, adrPow, adrPowE, adrTxt, adrTxtE, adrSav, adrSavE, adrPCo, adrMod, adrModE]) (fun r_32 u_30 H locs hw_31 hP hD hS => ?_)
              have ha_33 : ¬ u_30.1 < 0 := (do_ok hi0_2 hi0_3 hi0_4 hi0_5 hi0_6 hi0_7 hw_31).1
              have ha_34 : ¬ 4 < u_30.1 := (do_ok hi0_2 hi0_3 hi0_4 hi0_5 hi0_6 hi0_7 hw_31).2.1
              have ha_35 : ¬ 8 < (u_30.2.2.1 0) := (do_ok hi0_2 hi0_3 hi0_4 hi0_5 hi0_6 hi0_7 hw_31).2.2.1
              have ha_36 : ¬ 4 < (u_30.2.2.1 2) := (do_ok hi0_2 hi0_3 hi0_4 hi0_5 hi0_6 hi0_7 hw_31).2.2.2.1
              have ha_37 : ¬ (u_30.2.2.1 0) < 0 := (do_ok hi0_2 hi0_3 hi0_4 hi0_5 hi0_6 hi0_7 hw_31).2.2.2.2.1
              have ha_38 : ¬ (u_30.2.2.1 2) < 0 := (do_ok hi0_2 hi0_3 hi0_4 hi0_5 hi0_6 hi0_7 hw_31).2.2.2.2.2
              refine lv_if_lt (tgt := 82) hx hb dX8_runCommands_68 (by decide) (fun c_39 => ?_) (fun c_39 => ?_)
              · refine lv_iconst (v := 0) hx hb dX8_runCommands_82 (by decide) ?_
                refine lv_istore_n (lv' := [(3, .int 0), (0, .ref (a 0)), (1, .int r_3), (2, .int i2_13)]) hx hb dX8_runCommands_83 rfl hl (by decide) rfl (fun ls hl => ?_)
                refine lv_iload_n hx hb dX8_runCommands_84 rfl (lv_at hl 3 rfl) ?_
                refine lv_iload_n hx hb dX8_runCommands_85 rfl (lv_at hl 0 rfl) ?_
                refine lv_if_eq (tgt := 93) hx hb dX8_runCommands_86 (by decide) (fun _ => ?_) (fun h => absurd (by decide) h)
                refine lv_iconst (v := 0) hx hb dX8_runCommands_93 (by decide) ?_
                refine lv_iadd hx hb dX8_runCommands_94 ?_
                refine lv_istore_n (lv' := [(2, .int (i2_13 + 0)), (3, .int 0), (0, .ref (a 0)), (1, .int r_3)]) hx hb dX8_runCommands_95 rfl hl (by decide) rfl (fun ls hl => ?_)
                refine lv_goto (tgt := 42) hx hb dX8_runCommands_96 (by decide) ?_
                have hst : f_X8_runCommands_st y2 y9 i2_13 i3_14 w00_15 w03_16 w05_17 w06_18 w07_19 w08_20 w013_21 = .inl ((i2_13 + 0), 0, u_30.1, u_30.2.1, u_24.1, u_24.2.1, u_30.2.2.1, u_30.2.2.2, u_24.2.2) := by rw [f_X8_runCommands_st, if_neg c_22, if_neg c_23, hw_25, my_b_eq, if_neg c_29, hw_31, my_b_eq, if_pos c_39]
                have hmu : (ft_mu y2 0 u_24.1) < (ft_mu y2 i3_14 w05_17) := ft_dec c_22 c_23 (fun h => absurd rfl h)
                exact ih0 (i2_13 + 0) 0 u_30.1 u_30.2.1 u_24.1 u_24.2.1 u_30.2.2.1 u_30.2.2.2 u_24.2.2 (Nat.lt_of_lt_of_le hmu (Nat.le_of_lt_succ hlt0)) (lp_inl hst hF0) ha_27 ha_28 ha_33 ha_34 ha_35 ha_36 ha_37 ha_38 _ _ hP hD hS _ (lv_sub hl [2, 3, 0, 1] rfl)
              · refine lv_aload_n hx hb dX8_runCommands_71 rfl (lv_at hl 0 rfl) ?_
                refine va_get (D := D) (ci := 6) (v := .int u_30.2.1) (C := RX8) (T := TX8) (N := 14) hx hb hts inX8 hown hK0.1 hP 0 rfl rfl 6 (by decide) (hts (.fieldLink RX8 32 "PivotChamberModel" "refused" "I") (List.mem_of_getElem? (i := 1) rfl)) (fun _ h9 => h9) rfl dX8_runCommands_72 ?_
                refine lv_if_ne (tgt := 82) hx hb dX8_runCommands_75 (by decide) (fun c_40 => ?_) (fun c_40 => ?_)
                · refine lv_iconst (v := 0) hx hb dX8_runCommands_82 (by decide) ?_
                  refine lv_istore_n (lv' := [(3, .int 0), (0, .ref (a 0)), (1, .int r_3), (2, .int i2_13)]) hx hb dX8_runCommands_83 rfl hl (by decide) rfl (fun ls hl => ?_)
                  refine lv_iload_n hx hb dX8_runCommands_84 rfl (lv_at hl 3 rfl) ?_
                  refine lv_iload_n hx hb dX8_runCommands_85 rfl (lv_at hl 0 rfl) ?_
                  refine lv_if_eq (tgt := 93) hx hb dX8_runCommands_86 (by decide) (fun _ => ?_) (fun h => absurd (by decide) h)
                  refine lv_iconst (v := 0) hx hb dX8_runCommands_93 (by decide) ?_
                  refine lv_iadd hx hb dX8_runCommands_94 ?_
                  refine lv_istore_n (lv' := [(2, .int (i2_13 + 0)), (3, .int 0), (0, .ref (a 0)), (1, .int r_3)]) hx hb dX8_runCommands_95 rfl hl (by decide) rfl (fun ls hl => ?_)
                  refine lv_goto (tgt := 42) hx hb dX8_runCommands_96 (by decide) ?_
                  have hst : f_X8_runCommands_st y2 y9 i2_13 i3_14 w00_15 w03_16 w05_17 w06_18 w07_19 w08_20 w013_21 = .inl ((i2_13 + 0), 0, u_30.1, u_30.2.1, u_24.1, u_24.2.1, u_30.2.2.1, u_30.2.2.2, u_24.2.2) := by rw [f_X8_runCommands_st, if_neg c_22, if_neg c_23, hw_25, my_b_eq, if_neg c_29, hw_31, my_b_eq, if_neg c_39, if_neg c_40]
                  have hmu : (ft_mu y2 0 u_24.1) < (ft_mu y2 i3_14 w05_17) := ft_dec c_22 c_23 (fun h => absurd rfl h)
                  exact ih0 (i2_13 + 0) 0 u_30.1 u_30.2.1 u_24.1 u_24.2.1 u_30.2.2.1 u_30.2.2.2 u_24.2.2 (Nat.lt_of_lt_of_le hmu (Nat.le_of_lt_succ hlt0)) (lp_inl hst hF0) ha_27 ha_28 ha_33 ha_34 ha_35 ha_36 ha_37 ha_38 _ _ hP hD hS _ (lv_sub hl [2, 3, 0, 1] rfl)
                · refine lv_iconst (v := 1) hx hb dX8_runCommands_78 (by decide) ?_
                  refine lv_goto (tgt := 83) hx hb dX8_runCommands_79 (by decide) ?_
                  refine lv_istore_n (lv' := [(3, .int 1), (0, .ref (a 0)), (1, .int r_3), (2, .int i2_13)]) hx hb dX8_runCommands_83 rfl hl (by decide) rfl (fun ls hl => ?_)
                  refine lv_iload_n hx hb dX8_runCommands_84 rfl (lv_at hl 3 rfl) ?_
                  refine lv_iload_n hx hb dX8_runCommands_85 rfl (lv_at hl 0 rfl) ?_
                  refine lv_if_eq (tgt := 93) hx hb dX8_runCommands_86 (by decide) (fun h => absurd h (by decide)) (fun _ => ?_)
                  refine lv_iconst (v := 1) hx hb dX8_runCommands_89 (by decide) ?_
                  refine lv_goto (tgt := 94) hx hb dX8_runCommands_90 (by decide) ?_
                  refine lv_iadd hx hb dX8_runCommands_94 ?_
                  refine lv_istore_n (lv' := [(2, .int (i2_13 + 1)), (3, .int 1), (0, .ref (a 0)), (1, .int r_3)]) hx hb dX8_runCommands_95 rfl hl (by decide) rfl (fun ls hl => ?_)
                  refine lv_goto (tgt := 42) hx hb dX8_runCommands_96 (by decide) ?_
                  have hst : f_X8_runCommands_st y2 y9 i2_13 i3_14 w00_15 w03_16 w05_17 w06_18 w07_19 w08_20 w013_21 = .inl ((i2_13 + 1), 1, u_30.1, u_30.2.1, u_24.1, u_24.2.1, u_30.2.2.1, u_30.2.2.2, u_24.2.2) := by rw [f_X8_runCommands_st, if_neg c_22, if_neg c_23, hw_25, my_b_eq, if_neg c_29, hw_31, my_b_eq, if_neg c_39, if_pos c_40]
                  have hmu : (ft_mu y2 1 u_24.1) < (ft_mu y2 i3_14 w05_17) := ft_dec c_22 c_23 (fun _ => rd_lt c_29 hw_25)
                  exact ih0 (i2_13 + 1) 1 u_30.1 u_30.2.1 u_24.1 u_24.2.1 u_30.2.2.1 u_30.2.2.2 u_24.2.2 (Nat.lt_of_lt_of_le hmu (Nat.le_of_lt_succ hlt0)) (lp_inl hst hF0) ha_27 ha_28 ha_33 ha_34 ha_35 ha_36 ha_37 ha_38 _ _ hP hD hS _ (lv_sub hl [2, 3, 0, 1] rfl)
    exact key ((ft_mu y2 1 u_9) + 1) 0 1 u_5.1 0 u_9 u_1.2.1 y7 u_5.2 u_1.2.2 (Nat.lt_succ_self _) rfl ha_11 ha_12 ha_7 ha_8 hm8 hR4 hm0 hR0 _ _ hP hD hS _ (lv_sub hl [3, 2, 1, 0] rfl)
  · refine lv_bipush (v := (-10)) hx hb dX8_runCommands_15 (by decide) ?_
    refine lv_iload_n hx hb dX8_runCommands_17 rfl (lv_at hl 0 rfl) ?_
    refine lv_isub hx hb dX8_runCommands_18 ?_
    have hP : va_P D vwCl (wModE cy a y0 y1 y2 0 y4 u_1.1 u_1.2.1 y7 y8 y9 y10 y11 y12 u_1.2.2) H := hP
    have hD : va_D A (wModE cy a y0 y1 y2 0 y4 u_1.1 u_1.2.1 y7 y8 y9 y10 y11 y12 u_1.2.2) := hD
    exact W.iret hx hb hr (fun t ht hW => ⟨⟨((-10) - r_3), (y0, y1, 0, u_1.1, u_1.2.1, y7, y8, u_1.2.2), rfl, (show f_X8_runCommands y0 y1 y2 y6 y7 y8 y9 y13 = (((-10) - r_3), (y0, y1, 0, u_1.1, u_1.2.1, y7, y8, u_1.2.2)) from by rw [f_X8_runCommands, hw_2, my_b_eq, if_neg c_4]), by show va_P D vwCl _ t.heap; rw [ht]; exact hP⟩, hS.F ht⟩) hS.2.2 dX8_runCommands_19
theorem hd_X8_undo_S : yX8_undo.cls ≠ "java/lang/invoke/MethodHandle" ∧ yX8_undo.cls ≠ "java/lang/invoke/VarHandle" ∧ (parseMethodDescriptor yX8_undo.desc).map (fun d => d.parameters.length) = some 0 := by decide +kernel
theorem hd_X8_undo_V : yX8_undo.cls = RX8 ∧ yX8_undo.cls ≠ "java/lang/invoke/MethodHandle" ∧ yX8_undo.cls ≠ "java/lang/invoke/VarHandle" ∧ (parseMethodDescriptor yX8_undo.desc).map (fun d => d.parameters.length) = some 0 := ⟨rfl, hd_X8_undo_S⟩
def f_X8_undo_st (y0 : Int32) (y8 : (Nat → Int32)) (i1_5 : Int32) (w07_6 : (Nat → Int32)) : (Int32 × (Nat → Int32)) ⊕ (Int32 × (Nat → Int32)) := (if 27 ≤ i1_5 then (.inr (i1_5, w07_6)) else (.inl ((i1_5 + 1), (upd w07_6 i1_5.toNatClampNeg (y8 ((27 * (y0 - 1)) + i1_5).toNatClampNeg)))))
def f_X8_undo (y0 : Int32) (y7 : (Nat → Int32)) (y8 : (Nat → Int32)) : Int32 × (Int32 × Int32 × (Nat → Int32)) := (if y0 = 0 then (0, (y0, 1, y7)) else (my_t2 (lp (fun (x : Int32 × (Nat → Int32)) => f_X8_undo_st y0 y8 x.1 x.2) default (((27 : Int32).toInt - (0 : Int32).toInt).toNat + 1) (0, y7)) (fun (i1_5 : Int32) (w07_6 : (Nat → Int32)) => ((y0 - 1), ((y0 - 1), 0, w07_6)))))
set_option maxHeartbeats 400000 in
set_option maxRecDepth 100000 in
theorem c_X8_undo (l : Launch) (D : va_G) (cy : Nat → ClassId) (g : Nat → Nat) (B : Nat) (a : Nat → Nat) (y0 : Int32) (y1 : Int32) (y2 : Int32) (y3 : Int32) (y4 : Int32) (y5 : Int32) (y6 : Int32) (y7 : (Nat → Int32)) (y8 : (Nat → Int32)) (y9 : (Nat → Int32)) (y10 : (Nat → Int32)) (y11 : (Nat → Int32)) (y12 : (Nat → Int32)) (y13 : (Nat → Int32)) (hpa0 : ¬ y0 < 0) (hpa4 : ¬ 4 < y0) : Met l yX8_undo wsX8_undo ({ frames := 1, cells := 0, slots := 0, locals := 21 }) (muP D cy g B (wModE cy a y0 y1 y2 y3 y4 y5 y6 y7 y8 y9 y10 y11 y12 y13) [.ref (a 0)]) (va_Qi (fun (r : Int32) (u : Int32 × Int32 × (Nat → Int32)) => f_X8_undo y0 y7 y8 = (r, u)) (fun u t => va_P D vwCl (wModE cy a u.1 y1 y2 u.2.1 y4 y5 y6 u.2.2 y8 y9 y10 y11 y12 y13) t.heap) (muA (wModE cy a y0 y1 y2 y3 y4 y5 y6 y7 y8 y9 y10 y11 y12 y13))) 0 0 (muA (wModE cy a y0 y1 y2 y3 y4 y5 y6 y7 y8 y9 y10 y11 y12 y13)) := by
  refine Met.ofW (cc := cX8_undo) (maxL := 2) (ret := (some .int)) (by decide) rfl ?_
  intro p e s m args below meth c s₁ BB hml hv
  obtain ⟨rfl, hP, hK0, hD0⟩ := hv
  have hx := BB.exec
  have hb := BB.bytes
  have hr := BB.returns
  have hts := atoms_spec (ws := wsX8_undo) BB.pre
  have hown : s.vm.findClass RX8 = some m.cls := findClass_of_methodNamed BB.named
  have hlocks := BB.notSynchronized
  have S := my_fix hx hb hml hown hts
  have inX8 : ∀ w ∈ wsX80, w ∈ wsX8_undo := fun w h => List.mem_cons_of_mem _ (List.mem_append_right _ h)
  have hAB := muB hD0
  have hD := muD hD0
  generalize hAe : muA (wModE cy a y0 y1 y2 y3 y4 y5 y6 y7 y8 y9 y10 y11 y12 y13) = A at hAB hD ⊢
  have hS : va_S A s.heap s.heap [] := va_S.rf
  have hl := lv_entry ([.ref (a 0)]) (n := 2) (Nat.le_of_ble_eq_true rfl)
  rw [lg_entry_eq]
  generalize (lg_sl ([.ref (a 0)]) ++ List.replicate (2 - (lg_sl ([.ref (a 0)])).length) Slot.unset).toArray = ls at hl ⊢
  have hl : lv_has ls 2 [(0, .ref (a 0))] := hl
  refine lv_aload_n hx hb dX8_undo_0 rfl (lv_at hl 0 rfl) ?_
  refine lv_aload_n hx hb dX8_undo_1 rfl (lv_at hl 0 rfl) ?_
  refine va_get (D := D) (ci := 6) (v := .int y0) (C := RX8) (T := TX8) (N := 14) hx hb hts inX8 hown hK0.1 hP 0 rfl rfl 2 (by decide) (hts (.fieldLink RX8 40 "PivotChamberModel" "pasts" "I") (List.mem_of_getElem? (i := 1) rfl)) (fun _ h9 => h9) rfl dX8_undo_2 ?_
  refine lv_if_ne (tgt := 12) hx hb dX8_undo_5 (by decide) (fun c_1 => ?_) (fun c_1 => ?_)
  · refine lv_iconst (v := 0) hx hb dX8_undo_12 (by decide) ?_
    refine mu_alli (wf := fun (u_2 : Int32) => (wModE cy a y0 y1 y2 u_2 y4 y5 y6 y7 y8 y9 y10 y11 y12 y13)) (va_runV (C := RX8) (As := [.int 0]) (rest := []) S (c_X8_throwsAt l D cy g B a y0 y1 y2 y3 y4 y5 y6 y7 y8 y9 y10 y11 y12 y13 0) (cwV 1 hts gX8_undo_X8_throwsAt rfl rfl rfl hd_X8_throwsAt_V ⟨Nat.le_of_ble_eq_true rfl, Nat.le_of_ble_eq_true rfl⟩) ⟨muP_blind, va_recv hK0.1 hP (ci := 6) (q0 := 0) rfl rfl, my_preA hK0 hS hAB hP hD⟩ rfl rfl hl.1 rfl (lv_room (Nat.le_of_ble_eq_true rfl)) dX8_undo_13 ⟨Nat.zero_le _, Nat.zero_le _⟩) hS hD (fun _ => by simp only [List.map_cons, List.map_nil, adrSet, adrSetE, adrPow, adrPowE, adrTxt, adrTxtE, adrSav, adrSavE, adrPCo, adrMod, adrModE]) (fun r_4 u_2 H locs hw_3 hP hD hS => ?_)
    obtain ⟨rfl, rfl⟩ : 0 = r_4 ∧ 0 = u_2 := my_thr_lit (k := 0) (by decide) hw_3
    refine lv_if_eq (tgt := 21) hx hb dX8_undo_16 (by decide) (fun _ => ?_) (fun h => absurd (by decide) h)
    refine lv_aload_n hx hb dX8_undo_21 rfl (lv_at hl 0 rfl) ?_
    refine lv_dup hx hb dX8_undo_22 rfl ?_
    refine va_get (D := D) (ci := 6) (v := .int y0) (C := RX8) (T := TX8) (N := 14) hx hb hts inX8 hown hK0.1 hP 0 rfl rfl 2 (by decide) (hts (.fieldLink RX8 40 "PivotChamberModel" "pasts" "I") (List.mem_of_getElem? (i := 1) rfl)) (fun _ h9 => h9) rfl dX8_undo_23 ?_
    refine lv_iconst (v := 1) hx hb dX8_undo_26 (by decide) ?_
    refine lv_isub hx hb dX8_undo_27 ?_
    refine va_put (D := D) (ci := 6) (v := .int (y0 - 1)) (ty := .int) (C := RX8) (T := TX8) (N := 14) hx hb hts inX8 tyX8 tyX8_ok nmX8 hown hK0.1 hP hD hS 0 rfl rfl 2 (by decide) (hts (.fieldLink RX8 40 "PivotChamberModel" "pasts" "I") (List.mem_of_getElem? (i := 1) rfl)) (fun _ h9 => h9) rfl (by decide +kernel) rfl rfl (Nat.le_of_ble_eq_true rfl) dX8_undo_28 (fun H locs hP hD hS => ?_)
    have hP : va_P D vwCl (wModE cy a (y0 - 1) y1 y2 0 y4 y5 y6 y7 y8 y9 y10 y11 y12 y13) H := hP
    have hD : va_D A (wModE cy a (y0 - 1) y1 y2 0 y4 y5 y6 y7 y8 y9 y10 y11 y12 y13) := hD
    refine lv_iconst (v := 0) hx hb dX8_undo_31 (by decide) ?_
    refine lv_istore_n (lv' := [(1, .int 0), (0, .ref (a 0))]) hx hb dX8_undo_32 rfl hl (by decide) rfl (fun ls hl => ?_)
    have cont0 : ∀ (i1_5 : Int32) (w07_6 : (Nat → Int32)), lp (fun (x : Int32 × (Nat → Int32)) => f_X8_undo_st y0 y8 x.1 x.2) default (((27 : Int32).toInt - (0 : Int32).toInt).toNat + 1) (0, y7) = (i1_5, w07_6) → ¬ i1_5 < 0 → ∀ (H : Heap) (locs : List Loc), va_P D vwCl (wModE cy a (y0 - 1) y1 y2 0 y4 y5 y6 w07_6 y8 y9 y10 y11 y12 y13) H → va_D A (wModE cy a (y0 - 1) y1 y2 0 y4 y5 y6 w07_6 y8 y9 y10 y11 y12 y13) → va_S A s.heap H locs → ∀ ls : Array Slot, lv_has ls 2 [(0, .ref (a 0)), (1, .int i1_5)] → W p l e (headSpec wsX8_undo ({ frames := 1, cells := 0, slots := 0, locals := 21 } : Room)).room s m ([.ref (a 0)] : List Value).toArray below meth c H locs 0 0 (MQ below (va_Qi (fun (r : Int32) (u : Int32 × Int32 × (Nat → Int32)) => f_X8_undo y0 y7 y8 = (r, u)) (fun u t => va_P D vwCl (wModE cy a u.1 y1 y2 u.2.1 y4 y5 y6 u.2.2 y8 y9 y10 y11 y12 y13) t.heap) A) ([.ref (a 0)] : List Value).toArray s 0 0 A) (F0 m 65 ls []) := by
      intro i1_5 w07_6 hE0 hj0_0 H locs hP hD hS ls hl
      refine lv_aload_n hx hb dX8_undo_65 rfl (lv_at hl 0 rfl) ?_
      refine va_get (D := D) (ci := 6) (v := .int (y0 - 1)) (C := RX8) (T := TX8) (N := 14) hx hb hts inX8 hown hK0.1 hP 0 rfl rfl 2 (by decide) (hts (.fieldLink RX8 40 "PivotChamberModel" "pasts" "I") (List.mem_of_getElem? (i := 1) rfl)) (fun _ h9 => h9) rfl dX8_undo_66 ?_
      have hP : va_P D vwCl (wModE cy a (y0 - 1) y1 y2 0 y4 y5 y6 w07_6 y8 y9 y10 y11 y12 y13) H := hP
      have hD : va_D A (wModE cy a (y0 - 1) y1 y2 0 y4 y5 y6 w07_6 y8 y9 y10 y11 y12 y13) := hD
      exact W.iret hx hb hr (fun t ht hW => ⟨⟨(y0 - 1), ((y0 - 1), 0, w07_6), rfl, (show f_X8_undo y0 y7 y8 = ((y0 - 1), ((y0 - 1), 0, w07_6)) from by rw [f_X8_undo, if_neg c_1, hE0, my_t2_eq]), by show va_P D vwCl _ t.heap; rw [ht]; exact hP⟩, hS.F ht⟩) hS.2.2 dX8_undo_69
    have key : ∀ (nf : Nat) (i1_5 : Int32) (w07_6 : (Nat → Int32)), ((27 : Int32).toInt - (i1_5 : Int32).toInt).toNat < nf → lp (fun (x : Int32 × (Nat → Int32)) => f_X8_undo_st y0 y8 x.1 x.2) default nf (i1_5, w07_6) = lp (fun (x : Int32 × (Nat → Int32)) => f_X8_undo_st y0 y8 x.1 x.2) default (((27 : Int32).toInt - (0 : Int32).toInt).toNat + 1) (0, y7) → ¬ i1_5 < 0 → ∀ (H : Heap) (locs : List Loc), va_P D vwCl (wModE cy a (y0 - 1) y1 y2 0 y4 y5 y6 w07_6 y8 y9 y10 y11 y12 y13) H → va_D A (wModE cy a (y0 - 1) y1 y2 0 y4 y5 y6 w07_6 y8 y9 y10 y11 y12 y13) → va_S A s.heap H locs → ∀ ls : Array Slot, lv_has ls 2 [(0, .ref (a 0)), (1, .int i1_5)] → W p l e (headSpec wsX8_undo ({ frames := 1, cells := 0, slots := 0, locals := 21 } : Room)).room s m ([.ref (a 0)] : List Value).toArray below meth c H locs 0 0 (MQ below (va_Qi (fun (r : Int32) (u : Int32 × Int32 × (Nat → Int32)) => f_X8_undo y0 y7 y8 = (r, u)) (fun u t => va_P D vwCl (wModE cy a u.1 y1 y2 u.2.1 y4 y5 y6 u.2.2 y8 y9 y10 y11 y12 y13) t.heap) A) ([.ref (a 0)] : List Value).toArray s 0 0 A) (F0 m 33 ls []) := by
      intro n0
      induction n0 with
      | zero => intro i1_5 w07_6 hlt; exact absurd hlt (Nat.not_lt_zero _)
      | succ n0 ih0 =>
        intro i1_5 w07_6 hlt0 hF0 hi0_0 H locs hP hD hS ls hl
        refine lv_iload_n hx hb dX8_undo_33 rfl (lv_at hl 1 rfl) ?_
        refine lv_bipush (v := 27) hx hb dX8_undo_34 (by decide) ?_
        refine lv_icmp_ge (tgt := 65) hx hb dX8_undo_36 (by decide) (fun c_7 => ?_) (fun c_7 => ?_)
        · have hst : f_X8_undo_st y0 y8 i1_5 w07_6 = .inr (i1_5, w07_6) := by rw [f_X8_undo_st, if_pos c_7]
          exact cont0 i1_5 w07_6 (lp_inr hst hF0) hi0_0 _ _ hP hD hS _ (lv_sub hl [0, 1] rfl)
        · refine lv_aload_n hx hb dX8_undo_39 rfl (lv_at hl 0 rfl) ?_
          refine va_get (D := D) (ci := 6) (v := .ref (a 1)) (C := RX8) (T := TX8) (N := 14) hx hb hts inX8 hown hK0.1 hP 0 rfl rfl 0 (by decide) (hts (.fieldLink RX8 7 "PivotChamberModel" "s" "[I") (List.mem_of_getElem? (i := 2) rfl)) (fun _ h9 => h9) rfl dX8_undo_40 ?_
          refine lv_iload_n hx hb dX8_undo_43 rfl (lv_at hl 1 rfl) ?_
          refine lv_aload_n hx hb dX8_undo_44 rfl (lv_at hl 0 rfl) ?_
          refine va_get (D := D) (ci := 6) (v := .ref (a 2)) (C := RX8) (T := TX8) (N := 14) hx hb hts inX8 hown hK0.1 hP 0 rfl rfl 1 (by decide) (hts (.fieldLink RX8 13 "PivotChamberModel" "past" "[I") (List.mem_of_getElem? (i := 3) rfl)) (fun _ h9 => h9) rfl dX8_undo_45 ?_
          refine lv_bipush (v := 27) hx hb dX8_undo_48 (by decide) ?_
          refine lv_aload_n hx hb dX8_undo_50 rfl (lv_at hl 0 rfl) ?_
          refine va_get (D := D) (ci := 6) (v := .int (y0 - 1)) (C := RX8) (T := TX8) (N := 14) hx hb hts inX8 hown hK0.1 hP 0 rfl rfl 2 (by decide) (hts (.fieldLink RX8 40 "PivotChamberModel" "pasts" "I") (List.mem_of_getElem? (i := 1) rfl)) (fun _ h9 => h9) rfl dX8_undo_51 ?_
          refine lv_imul hx hb dX8_undo_54 ?_
          refine lv_iload_n hx hb dX8_undo_55 rfl (lv_at hl 1 rfl) ?_
          refine lv_iadd hx hb dX8_undo_56 ?_
          refine va_iald hx hb hK0.1 hP 2 0 rfl rfl (ix_27 (un_a hpa0 c_1) (un_b hpa0 hpa4) hi0_0 c_7) dX8_undo_57 ?_
          refine va_iast hx hb hK0.1 hP hD hS 1 0 rfl rfl (ix_self (K := 27) (N := 27) hi0_0 c_7 (by decide) (by decide)) dX8_undo_58 (fun H locs hP hD hS => ?_)
          have hP : va_P D vwCl (wModE cy a (y0 - 1) y1 y2 0 y4 y5 y6 (upd w07_6 i1_5.toNatClampNeg (y8 ((27 * (y0 - 1)) + i1_5).toNatClampNeg)) y8 y9 y10 y11 y12 y13) H := hP
          have hD : va_D A (wModE cy a (y0 - 1) y1 y2 0 y4 y5 y6 (upd w07_6 i1_5.toNatClampNeg (y8 ((27 * (y0 - 1)) + i1_5).toNatClampNeg)) y8 y9 y10 y11 y12 y13) := hD
          refine lv_iinc (v := (i1_5 + 1)) (lv' := [(1, .int (i1_5 + 1)), (0, .ref (a 0))]) hx hb dX8_undo_59 hl (k := 1) rfl rfl (by decide) rfl (fun ls hl => ?_)
          refine lv_goto (tgt := 33) hx hb dX8_undo_62 (by decide) ?_
          have hst : f_X8_undo_st y0 y8 i1_5 w07_6 = .inl ((i1_5 + 1), (upd w07_6 i1_5.toNatClampNeg (y8 ((27 * (y0 - 1)) + i1_5).toNatClampNeg))) := by rw [f_X8_undo_st, if_neg c_7]
          have hmu : ((27 : Int32).toInt - ((i1_5 + 1) : Int32).toInt).toNat < ((27 : Int32).toInt - (i1_5 : Int32).toInt).toNat := mu_up c_7
          exact ih0 (i1_5 + 1) (upd w07_6 i1_5.toNatClampNeg (y8 ((27 * (y0 - 1)) + i1_5).toNatClampNeg)) (Nat.lt_of_lt_of_le hmu (Nat.le_of_lt_succ hlt0)) (lp_inl hst hF0) (nn_up hi0_0 c_7) _ _ hP hD hS _ (lv_sub hl [1, 0] rfl)
    exact key (((27 : Int32).toInt - (0 : Int32).toInt).toNat + 1) 0 y7 (Nat.lt_succ_self _) rfl (by decide) _ _ hP hD hS _ (lv_sub hl [1, 0] rfl)
  · refine lv_iconst (v := 1) hx hb dX8_undo_8 (by decide) ?_
    refine lv_goto (tgt := 13) hx hb dX8_undo_9 (by decide) ?_
    refine mu_alli (wf := fun (u_8 : Int32) => (wModE cy a y0 y1 y2 u_8 y4 y5 y6 y7 y8 y9 y10 y11 y12 y13)) (va_runV (C := RX8) (As := [.int 1]) (rest := []) S (c_X8_throwsAt l D cy g B a y0 y1 y2 y3 y4 y5 y6 y7 y8 y9 y10 y11 y12 y13 1) (cwV 1 hts gX8_undo_X8_throwsAt rfl rfl rfl hd_X8_throwsAt_V ⟨Nat.le_of_ble_eq_true rfl, Nat.le_of_ble_eq_true rfl⟩) ⟨muP_blind, va_recv hK0.1 hP (ci := 6) (q0 := 0) rfl rfl, my_preA hK0 hS hAB hP hD⟩ rfl rfl hl.1 rfl (lv_room (Nat.le_of_ble_eq_true rfl)) dX8_undo_13 ⟨Nat.zero_le _, Nat.zero_le _⟩) hS hD (fun _ => by simp only [List.map_cons, List.map_nil, adrSet, adrSetE, adrPow, adrPowE, adrTxt, adrTxtE, adrSav, adrSavE, adrPCo, adrMod, adrModE]) (fun r_10 u_8 H locs hw_9 hP hD hS => ?_)
    obtain ⟨rfl, rfl⟩ : 1 = r_10 ∧ 1 = u_8 := my_thr_lit (k := 1) (by decide) hw_9
    refine lv_if_eq (tgt := 21) hx hb dX8_undo_16 (by decide) (fun h => absurd h (by decide)) (fun _ => ?_)
    refine lv_iconst (v := 0) hx hb dX8_undo_19 (by decide) ?_
    have hP : va_P D vwCl (wModE cy a y0 y1 y2 1 y4 y5 y6 y7 y8 y9 y10 y11 y12 y13) H := hP
    have hD : va_D A (wModE cy a y0 y1 y2 1 y4 y5 y6 y7 y8 y9 y10 y11 y12 y13) := hD
    exact W.iret hx hb hr (fun t ht hW => ⟨⟨0, (y0, 1, y7), rfl, (show f_X8_undo y0 y7 y8 = (0, (y0, 1, y7)) from by rw [f_X8_undo, if_pos c_1]), by show va_P D vwCl _ t.heap; rw [ht]; exact hP⟩, hS.F ht⟩) hS.2.2 dX8_undo_20
