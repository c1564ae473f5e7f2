theorem hd_X8_memberOf_S : yX8_memberOf.cls ≠ "java/lang/invoke/MethodHandle" ∧ yX8_memberOf.cls ≠ "java/lang/invoke/VarHandle" ∧ (parseMethodDescriptor yX8_memberOf.desc).map (fun d => d.parameters.length) = some 2 := by decide +kernel
theorem hd_X8_memberOf_V : yX8_memberOf.cls = RX8 ∧ yX8_memberOf.cls ≠ "java/lang/invoke/MethodHandle" ∧ yX8_memberOf.cls ≠ "java/lang/invoke/VarHandle" ∧ (parseMethodDescriptor yX8_memberOf.desc).map (fun d => d.parameters.length) = some 2 := ⟨rfl, hd_X8_memberOf_S⟩
def f_X8_memberOf (y4 : Int32) (y7 : (Nat → Int32)) (y10 : (Nat → Int32)) (x0 : Int32) (x1 : Int32) : Int32 := (if x1 = 0 then (y7 (3 + x0).toNatClampNeg) else (if x1 = 1 then (y7 (11 + x0).toNatClampNeg) else (if x1 = 2 then (f_X8_followers y7 x0) else (if x1 = 3 then (f_X8_blocOf y7 x0) else (if x1 = 4 then (f_X8_swings y10 x0) else (if x1 = 5 then (f_X8_orders y4 y10 x0) else (if x1 = 6 then (((f_X8_dummies y7 y10) >>> (x0 &&& 31)) &&& 1) else (((f_X8_needed y4 y7 y10) >>> (x0 &&& 31)) &&& 1))))))))
set_option maxHeartbeats 400000 in
set_option maxRecDepth 100000 in
theorem c_X8_memberOf (l : Launch) (D : va_G) (cy : Nat → ClassId) (g : Nat → Nat) (B : Nat) (a : Nat → Nat) (y0 : Int32) (y1 : Int32) (y2 : Int32) (y3 : Int32) (y4 : Int32) (y5 : Int32) (y6 : Int32) (y7 : (Nat → Int32)) (y8 : (Nat → Int32)) (y9 : (Nat → Int32)) (y10 : (Nat → Int32)) (y11 : (Nat → Int32)) (y12 : (Nat → Int32)) (y13 : (Nat → Int32)) (x0 : Int32) (x1 : Int32) (hm8 : ¬ 8 < (y7 0)) (hwin : ∀ j : Nat, y10 j = 0 ∨ y10 j = 1) (hall0 : ¬ y4 < 0) (hall : ¬ 256 ≤ y4) (hx0 : ¬ x0 < 0) (hx1 : x0 < (y7 0)) : Met l yX8_memberOf wsX8_memberOf ({ frames := 3, cells := 0, slots := 0, locals := 66 }) (rdP D cy g B (wModE cy a y0 y1 y2 y3 y4 y5 y6 y7 y8 y9 y10 y11 y12 y13) [.ref (a 0), .int x0, .int x1]) (vp_Si (fun r => r = f_X8_memberOf y4 y7 y10 x0 x1)) 0 0 (fun _ => False) := by
  refine Met.ofW (cc := cX8_memberOf) (maxL := 3) (ret := (some .int)) (by decide) rfl ?_
  intro p e s m args below meth c s₁ BB hml hv
  obtain ⟨rfl, hP, hK0⟩ := hv
  have hx := BB.exec
  have hb := BB.bytes
  have hr := BB.returns
  have hts := atoms_spec (ws := wsX8_memberOf) BB.pre
  have hown : s.vm.findClass RX8 = some m.cls := findClass_of_methodNamed BB.named
  have hlocks := BB.notSynchronized
  have S := my_fix hx hb hml hown hts
  have inX8 : ∀ w ∈ wsX80, w ∈ wsX8_memberOf := fun w h => List.mem_cons_of_mem _ (List.mem_append_right _ h)
  have hS : va_S (fun q => B ≤ q) s.heap s.heap [] := va_S.rf
  have hAB : ∀ q : Nat, (fun q => B ≤ q) q → B ≤ q := fun _ h => h
  have hl := lv_entry ([.ref (a 0), .int x0, .int x1]) (n := 3) (Nat.le_of_ble_eq_true rfl)
  rw [lg_entry_eq]
  generalize (lg_sl ([.ref (a 0), .int x0, .int x1]) ++ List.replicate (3 - (lg_sl ([.ref (a 0), .int x0, .int x1])).length) Slot.unset).toArray = ls at hl ⊢
  have hl : lv_has ls 3 [(0, .ref (a 0)), (1, .int x0), (2, .int x1)] := hl
  refine lv_iload_n hx hb dX8_memberOf_0 rfl (lv_at hl 2 rfl) ?_
  by_cases h1_0 : x1 = 0
  · refine lv_tableIn (off := 43) (tgt := 44) hx hb dX8_memberOf_1 (by rw [h1_0]; decide) (by rw [h1_0]; decide) (by rw [h1_0]; rfl) (by decide) ?_
    refine lv_aload_n hx hb dX8_memberOf_44 rfl (lv_at hl 0 rfl) ?_
    refine va_get (D := D) (ci := 6) (v := .ref (a 1)) (C := RX8) (T := TX8) (N := 14) hx hb hts inX8 hown hK0.1 hP 0 rfl rfl 0 (by decide) (hts (.fieldLink RX8 7 "PivotChamberModel" "s" "[I") (List.mem_of_getElem? (i := 1) rfl)) (fun _ h9 => h9) rfl dX8_memberOf_45 ?_
    refine lv_iconst (v := 3) hx hb dX8_memberOf_48 (by decide) ?_
    refine lv_iload_n hx hb dX8_memberOf_49 rfl (lv_at hl 1 rfl) ?_
    refine lv_iadd hx hb dX8_memberOf_50 ?_
    refine va_iald hx hb hK0.1 hP 1 0 rfl rfl (ix_loop (K := 8) (N := 27) hx0 (Int32.not_le.mpr hx1) hm8 (by decide)) dX8_memberOf_51 ?_
    exact W.iret hx hb hr (fun t ht hW => ⟨(y7 (3 + x0).toNatClampNeg), rfl, (show f_X8_memberOf y4 y7 y10 x0 x1 = (y7 (3 + x0).toNatClampNeg) from by rw [f_X8_memberOf, if_pos h1_0]).symm, ht⟩) (fun q hq => absurd hq List.not_mem_nil) dX8_memberOf_52
  · by_cases h1_1 : x1 = 1
    · refine lv_tableIn (off := 52) (tgt := 53) hx hb dX8_memberOf_1 (by rw [h1_1]; decide) (by rw [h1_1]; decide) (by rw [h1_1]; rfl) (by decide) ?_
      refine lv_aload_n hx hb dX8_memberOf_53 rfl (lv_at hl 0 rfl) ?_
      refine va_get (D := D) (ci := 6) (v := .ref (a 1)) (C := RX8) (T := TX8) (N := 14) hx hb hts inX8 hown hK0.1 hP 0 rfl rfl 0 (by decide) (hts (.fieldLink RX8 7 "PivotChamberModel" "s" "[I") (List.mem_of_getElem? (i := 1) rfl)) (fun _ h9 => h9) rfl dX8_memberOf_54 ?_
      refine lv_bipush (v := 11) hx hb dX8_memberOf_57 (by decide) ?_
      refine lv_iload_n hx hb dX8_memberOf_59 rfl (lv_at hl 1 rfl) ?_
      refine lv_iadd hx hb dX8_memberOf_60 ?_
      refine va_iald hx hb hK0.1 hP 1 0 rfl rfl (ix_loop (K := 8) (N := 27) hx0 (Int32.not_le.mpr hx1) hm8 (by decide)) dX8_memberOf_61 ?_
      exact W.iret hx hb hr (fun t ht hW => ⟨(y7 (11 + x0).toNatClampNeg), rfl, (show f_X8_memberOf y4 y7 y10 x0 x1 = (y7 (11 + x0).toNatClampNeg) from by rw [f_X8_memberOf, if_neg h1_0, if_pos h1_1]).symm, ht⟩) (fun q hq => absurd hq List.not_mem_nil) dX8_memberOf_62
    · by_cases h1_2 : x1 = 2
      · refine lv_tableIn (off := 62) (tgt := 63) hx hb dX8_memberOf_1 (by rw [h1_2]; decide) (by rw [h1_2]; decide) (by rw [h1_2]; rfl) (by decide) ?_
        refine lv_aload_n hx hb dX8_memberOf_63 rfl (lv_at hl 0 rfl) ?_
        refine lv_iload_n hx hb dX8_memberOf_64 rfl (lv_at hl 1 rfl) ?_
        refine rd_goi (va_runV (C := RX8) (As := [.int x0]) (rest := []) S (c_X8_followers l D cy g B a y0 y1 y2 y3 y4 y5 y6 y7 y8 y9 y10 y11 y12 y13 x0 hm8) (cwV 1 hts gX8_memberOf_X8_followers rfl rfl rfl hd_X8_followers_V ⟨Nat.le_of_ble_eq_true rfl, Nat.le_of_ble_eq_true rfl⟩) ⟨rdP_blind, va_recv hK0.1 hP (ci := 6) (q0 := 0) rfl rfl, my_preP hK0 hS hAB hP⟩ rfl rfl hl.1 rfl (lv_room (Nat.le_of_ble_eq_true rfl)) dX8_memberOf_65 ⟨Nat.zero_le _, Nat.zero_le _⟩) ?_
        exact W.iret hx hb hr (fun t ht hW => ⟨(f_X8_followers y7 x0), rfl, (show f_X8_memberOf y4 y7 y10 x0 x1 = (f_X8_followers y7 x0) from by rw [f_X8_memberOf, if_neg h1_0, if_neg h1_1, if_pos h1_2]).symm, ht⟩) (fun q hq => absurd hq List.not_mem_nil) dX8_memberOf_68
      · by_cases h1_3 : x1 = 3
        · refine lv_tableIn (off := 68) (tgt := 69) hx hb dX8_memberOf_1 (by rw [h1_3]; decide) (by rw [h1_3]; decide) (by rw [h1_3]; rfl) (by decide) ?_
          refine lv_aload_n hx hb dX8_memberOf_69 rfl (lv_at hl 0 rfl) ?_
          refine lv_iload_n hx hb dX8_memberOf_70 rfl (lv_at hl 1 rfl) ?_
          refine rd_goi (va_runV (C := RX8) (As := [.int x0]) (rest := []) S (c_X8_blocOf l D cy g B a y0 y1 y2 y3 y4 y5 y6 y7 y8 y9 y10 y11 y12 y13 x0 hm8) (cwV 1 hts gX8_memberOf_X8_blocOf rfl rfl rfl hd_X8_blocOf_V ⟨Nat.le_of_ble_eq_true rfl, Nat.le_of_ble_eq_true rfl⟩) ⟨rdP_blind, va_recv hK0.1 hP (ci := 6) (q0 := 0) rfl rfl, my_preP hK0 hS hAB hP⟩ rfl rfl hl.1 rfl (lv_room (Nat.le_of_ble_eq_true rfl)) dX8_memberOf_71 ⟨Nat.zero_le _, Nat.zero_le _⟩) ?_
          exact W.iret hx hb hr (fun t ht hW => ⟨(f_X8_blocOf y7 x0), rfl, (show f_X8_memberOf y4 y7 y10 x0 x1 = (f_X8_blocOf y7 x0) from by rw [f_X8_memberOf, if_neg h1_0, if_neg h1_1, if_neg h1_2, if_pos h1_3]).symm, ht⟩) (fun q hq => absurd hq List.not_mem_nil) dX8_memberOf_74
        · by_cases h1_4 : x1 = 4
          · refine lv_tableIn (off := 74) (tgt := 75) hx hb dX8_memberOf_1 (by rw [h1_4]; decide) (by rw [h1_4]; decide) (by rw [h1_4]; rfl) (by decide) ?_
            refine lv_aload_n hx hb dX8_memberOf_75 rfl (lv_at hl 0 rfl) ?_
            refine lv_iload_n hx hb dX8_memberOf_76 rfl (lv_at hl 1 rfl) ?_
            refine rd_goi (va_runV (C := RX8) (As := [.int x0]) (rest := []) S (c_X8_swings l D cy g B a y0 y1 y2 y3 y4 y5 y6 y7 y8 y9 y10 y11 y12 y13 x0) (cwV 1 hts gX8_memberOf_X8_swings rfl rfl rfl hd_X8_swings_V ⟨Nat.le_of_ble_eq_true rfl, Nat.le_of_ble_eq_true rfl⟩) ⟨rdP_blind, va_recv hK0.1 hP (ci := 6) (q0 := 0) rfl rfl, my_preP hK0 hS hAB hP⟩ rfl rfl hl.1 rfl (lv_room (Nat.le_of_ble_eq_true rfl)) dX8_memberOf_77 ⟨Nat.zero_le _, Nat.zero_le _⟩) ?_
            exact W.iret hx hb hr (fun t ht hW => ⟨(f_X8_swings y10 x0), rfl, (show f_X8_memberOf y4 y7 y10 x0 x1 = (f_X8_swings y10 x0) from by rw [f_X8_memberOf, if_neg h1_0, if_neg h1_1, if_neg h1_2, if_neg h1_3, if_pos h1_4]).symm, ht⟩) (fun q hq => absurd hq List.not_mem_nil) dX8_memberOf_80
          · by_cases h1_5 : x1 = 5
            · refine lv_tableIn (off := 80) (tgt := 81) hx hb dX8_memberOf_1 (by rw [h1_5]; decide) (by rw [h1_5]; decide) (by rw [h1_5]; rfl) (by decide) ?_
              refine lv_aload_n hx hb dX8_memberOf_81 rfl (lv_at hl 0 rfl) ?_
              refine lv_iload_n hx hb dX8_memberOf_82 rfl (lv_at hl 1 rfl) ?_
              refine rd_goi (va_runV (C := RX8) (As := [.int x0]) (rest := []) S (c_X8_orders l D cy g B a y0 y1 y2 y3 y4 y5 y6 y7 y8 y9 y10 y11 y12 y13 x0) (cwV 1 hts gX8_memberOf_X8_orders rfl rfl rfl hd_X8_orders_V ⟨Nat.le_of_ble_eq_true rfl, Nat.le_of_ble_eq_true rfl⟩) ⟨rdP_blind, va_recv hK0.1 hP (ci := 6) (q0 := 0) rfl rfl, my_preP hK0 hS hAB hP⟩ rfl rfl hl.1 rfl (lv_room (Nat.le_of_ble_eq_true rfl)) dX8_memberOf_83 ⟨Nat.zero_le _, Nat.zero_le _⟩) ?_
              exact W.iret hx hb hr (fun t ht hW => ⟨(f_X8_orders y4 y10 x0), rfl, (show f_X8_memberOf y4 y7 y10 x0 x1 = (f_X8_orders y4 y10 x0) from by rw [f_X8_memberOf, if_neg h1_0, if_neg h1_1, if_neg h1_2, if_neg h1_3, if_neg h1_4, if_pos h1_5]).symm, ht⟩) (fun q hq => absurd hq List.not_mem_nil) dX8_memberOf_86
            · by_cases h1_6 : x1 = 6
              · refine lv_tableIn (off := 86) (tgt := 87) hx hb dX8_memberOf_1 (by rw [h1_6]; decide) (by rw [h1_6]; decide) (by rw [h1_6]; rfl) (by decide) ?_
                refine lv_aload_n hx hb dX8_memberOf_87 rfl (lv_at hl 0 rfl) ?_
                refine rd_goi (va_runV (C := RX8) (As := []) (rest := []) S (c_X8_dummies l D cy g B a y0 y1 y2 y3 y4 y5 y6 y7 y8 y9 y10 y11 y12 y13 hm8) (cwV 0 hts gX8_memberOf_X8_dummies rfl rfl rfl hd_X8_dummies_V ⟨Nat.le_of_ble_eq_true rfl, Nat.le_of_ble_eq_true rfl⟩) ⟨rdP_blind, va_recv hK0.1 hP (ci := 6) (q0 := 0) rfl rfl, my_preP hK0 hS hAB hP⟩ rfl rfl hl.1 rfl (lv_room (Nat.le_of_ble_eq_true rfl)) dX8_memberOf_88 ⟨Nat.zero_le _, Nat.zero_le _⟩) ?_
                refine lv_iload_n hx hb dX8_memberOf_91 rfl (lv_at hl 1 rfl) ?_
                refine lv_ishr hx hb dX8_memberOf_92 ?_
                refine lv_iconst (v := 1) hx hb dX8_memberOf_93 (by decide) ?_
                refine lv_iand hx hb dX8_memberOf_94 ?_
                exact W.iret hx hb hr (fun t ht hW => ⟨(((f_X8_dummies y7 y10) >>> (x0 &&& 31)) &&& 1), rfl, (show f_X8_memberOf y4 y7 y10 x0 x1 = (((f_X8_dummies y7 y10) >>> (x0 &&& 31)) &&& 1) from by rw [f_X8_memberOf, if_neg h1_0, if_neg h1_1, if_neg h1_2, if_neg h1_3, if_neg h1_4, if_neg h1_5, if_pos h1_6]).symm, ht⟩) (fun q hq => absurd hq List.not_mem_nil) dX8_memberOf_95
              · refine lv_tableOut (tgt := 96) hx hb dX8_memberOf_1 (by have t0 : x1.toInt ≠ 0 := my_ne h1_0 rfl; have t1 : x1.toInt ≠ 1 := my_ne h1_1 rfl; have t2 : x1.toInt ≠ 2 := my_ne h1_2 rfl; have t3 : x1.toInt ≠ 3 := my_ne h1_3 rfl; have t4 : x1.toInt ≠ 4 := my_ne h1_4 rfl; have t5 : x1.toInt ≠ 5 := my_ne h1_5 rfl; have t6 : x1.toInt ≠ 6 := my_ne h1_6 rfl; omega) (by decide) ?_
                refine lv_aload_n hx hb dX8_memberOf_96 rfl (lv_at hl 0 rfl) ?_
                refine rd_goi (va_runV (C := RX8) (As := []) (rest := []) S (c_X8_needed l D cy g B a y0 y1 y2 y3 y4 y5 y6 y7 y8 y9 y10 y11 y12 y13 hm8 hwin hall0 hall) (cwV 0 hts gX8_memberOf_X8_needed rfl rfl rfl hd_X8_needed_V ⟨Nat.le_of_ble_eq_true rfl, Nat.le_of_ble_eq_true rfl⟩) ⟨rdP_blind, va_recv hK0.1 hP (ci := 6) (q0 := 0) rfl rfl, my_preP hK0 hS hAB hP⟩ rfl rfl hl.1 rfl (lv_room (Nat.le_of_ble_eq_true rfl)) dX8_memberOf_97 ⟨Nat.zero_le _, Nat.zero_le _⟩) ?_
                refine lv_iload_n hx hb dX8_memberOf_100 rfl (lv_at hl 1 rfl) ?_
                refine lv_ishr hx hb dX8_memberOf_101 ?_
                refine lv_iconst (v := 1) hx hb dX8_memberOf_102 (by decide) ?_
                refine lv_iand hx hb dX8_memberOf_103 ?_
                exact W.iret hx hb hr (fun t ht hW => ⟨(((f_X8_needed y4 y7 y10) >>> (x0 &&& 31)) &&& 1), rfl, (show f_X8_memberOf y4 y7 y10 x0 x1 = (((f_X8_needed y4 y7 y10) >>> (x0 &&& 31)) &&& 1) from by rw [f_X8_memberOf, if_neg h1_0, if_neg h1_1, if_neg h1_2, if_neg h1_3, if_neg h1_4, if_neg h1_5, if_neg h1_6]).symm, ht⟩) (fun q hq => absurd hq List.not_mem_nil) dX8_memberOf_104
theorem hd_X8_wholeOf_S : yX8_wholeOf.cls ≠ "java/lang/invoke/MethodHandle" ∧ yX8_wholeOf.cls ≠ "java/lang/invoke/VarHandle" ∧ (parseMethodDescriptor yX8_wholeOf.desc).map (fun d => d.parameters.length) = some 1 := by decide +kernel
theorem hd_X8_wholeOf_V : yX8_wholeOf.cls = RX8 ∧ yX8_wholeOf.cls ≠ "java/lang/invoke/MethodHandle" ∧ yX8_wholeOf.cls ≠ "java/lang/invoke/VarHandle" ∧ (parseMethodDescriptor yX8_wholeOf.desc).map (fun d => d.parameters.length) = some 1 := ⟨rfl, hd_X8_wholeOf_S⟩
def f_X8_wholeOf (y2 : Int32) (y4 : Int32) (y7 : (Nat → Int32)) (y10 : (Nat → Int32)) (x0 : Int32) : Int32 := (if x0 = 0 then (y7 0) else (if x0 = 1 then (f_X8_ones y4) else (if x0 = 2 then (y7 1) else (if x0 = 3 then (y7 2) else (if x0 = 4 then (f_X8_weightOf y7 255) else (if x0 = 5 then (f_X8_many y10 0) else (if x0 = 6 then (f_X8_many y10 1) else (if x0 = 7 then (f_X8_allSwings y10) else (if x0 = 8 then (f_X8_dummies y7 y10) else (if x0 = 9 then (f_X8_needed y4 y7 y10) else (if x0 = 10 then (f_X8_alikeRules y7) else y2)))))))))))
set_option maxHeartbeats 400000 in
set_option maxRecDepth 100000 in
theorem c_X8_wholeOf (l : Launch) (D : va_G) (cy : Nat → ClassId) (g : Nat → Nat) (B : Nat) (a : Nat → Nat) (y0 : Int32) (y1 : Int32) (y2 : Int32) (y3 : Int32) (y4 : Int32) (y5 : Int32) (y6 : Int32) (y7 : (Nat → Int32)) (y8 : (Nat → Int32)) (y9 : (Nat → Int32)) (y10 : (Nat → Int32)) (y11 : (Nat → Int32)) (y12 : (Nat → Int32)) (y13 : (Nat → Int32)) (x0 : Int32) (hm8 : ¬ 8 < (y7 0)) (hR4 : ¬ 4 < (y7 2)) (hwin : ∀ j : Nat, y10 j = 0 ∨ y10 j = 1) (hall0 : ¬ y4 < 0) (hall : ¬ 256 ≤ y4) : Met l yX8_wholeOf wsX8_wholeOf ({ frames := 3, cells := 0, slots := 0, locals := 67 }) (rdP D cy g B (wModE cy a y0 y1 y2 y3 y4 y5 y6 y7 y8 y9 y10 y11 y12 y13) [.ref (a 0), .int x0]) (vp_Si (fun r => r = f_X8_wholeOf y2 y4 y7 y10 x0)) 0 0 (fun _ => False) := by
  refine Met.ofW (cc := cX8_wholeOf) (maxL := 2) (ret := (some .int)) (by decide) rfl ?_
  intro p e s m args below meth c s₁ BB hml hv
  obtain ⟨rfl, hP, hK0⟩ := hv
  have hx := BB.exec
  have hb := BB.bytes
  have hr := BB.returns
  have hts := atoms_spec (ws := wsX8_wholeOf) BB.pre
  have hown : s.vm.findClass RX8 = some m.cls := findClass_of_methodNamed BB.named
  have hlocks := BB.notSynchronized
  have S := my_fix hx hb hml hown hts
  have inX8 : ∀ w ∈ wsX80, w ∈ wsX8_wholeOf := fun w h => List.mem_cons_of_mem _ (List.mem_append_right _ h)
  have hS : va_S (fun q => B ≤ q) s.heap s.heap [] := va_S.rf
  have hAB : ∀ q : Nat, (fun q => B ≤ q) q → B ≤ q := fun _ h => h
  have hl := lv_entry ([.ref (a 0), .int x0]) (n := 2) (Nat.le_of_ble_eq_true rfl)
  rw [lg_entry_eq]
  generalize (lg_sl ([.ref (a 0), .int x0]) ++ List.replicate (2 - (lg_sl ([.ref (a 0), .int x0])).length) Slot.unset).toArray = ls at hl ⊢
  have hl : lv_has ls 2 [(0, .ref (a 0)), (1, .int x0)] := hl
  refine lv_iload_n hx hb dX8_wholeOf_0 rfl (lv_at hl 1 rfl) ?_
  by_cases h1_0 : x0 = 0
  · refine lv_tableIn (off := 59) (tgt := 60) hx hb dX8_wholeOf_1 (by rw [h1_0]; decide) (by rw [h1_0]; decide) (by rw [h1_0]; rfl) (by decide) ?_
    refine lv_aload_n hx hb dX8_wholeOf_60 rfl (lv_at hl 0 rfl) ?_
    refine va_get (D := D) (ci := 6) (v := .ref (a 1)) (C := RX8) (T := TX8) (N := 14) hx hb hts inX8 hown hK0.1 hP 0 rfl rfl 0 (by decide) (hts (.fieldLink RX8 7 "PivotChamberModel" "s" "[I") (List.mem_of_getElem? (i := 1) rfl)) (fun _ h9 => h9) rfl dX8_wholeOf_61 ?_
    refine lv_iconst (v := 0) hx hb dX8_wholeOf_64 (by decide) ?_
    refine va_iald hx hb hK0.1 hP 1 0 rfl rfl (vp_in_nI (n := 0) (N := 27) (by decide) (by decide)) dX8_wholeOf_65 ?_
    refine W.eq (g2 := F0 m 66 ls [.int (y7 0)]) rfl ?_
    exact W.iret hx hb hr (fun t ht hW => ⟨(y7 0), rfl, (show f_X8_wholeOf y2 y4 y7 y10 x0 = (y7 0) from by rw [f_X8_wholeOf, if_pos h1_0]).symm, ht⟩) (fun q hq => absurd hq List.not_mem_nil) dX8_wholeOf_66
  · by_cases h1_1 : x0 = 1
    · refine lv_tableIn (off := 66) (tgt := 67) hx hb dX8_wholeOf_1 (by rw [h1_1]; decide) (by rw [h1_1]; decide) (by rw [h1_1]; rfl) (by decide) ?_
      refine lv_aload_n hx hb dX8_wholeOf_67 rfl (lv_at hl 0 rfl) ?_
      refine va_get (D := D) (ci := 6) (v := .int y4) (C := RX8) (T := TX8) (N := 14) hx hb hts inX8 hown hK0.1 hP 0 rfl rfl 8 (by decide) (hts (.fieldLink RX8 71 "PivotChamberModel" "all" "I") (List.mem_of_getElem? (i := 2) rfl)) (fun _ h9 => h9) rfl dX8_wholeOf_68 ?_
      refine rd_goi (va_runS (As := [.int y4]) (rest := []) S (c_X8_ones l D cy g B y4) (va_cwS 1 hts gX8_wholeOf_X8_ones rfl rfl rfl hd_X8_ones_S ⟨Nat.le_of_ble_eq_true rfl, Nat.le_of_ble_eq_true rfl⟩) ⟨rdP_blind, my_preV hK0 hS hAB hP [] rfl⟩ rfl rfl hl.1 rfl (lv_room (Nat.le_of_ble_eq_true rfl)) dX8_wholeOf_71 ⟨Nat.zero_le _, Nat.zero_le _⟩) ?_
      exact W.iret hx hb hr (fun t ht hW => ⟨(f_X8_ones y4), rfl, (show f_X8_wholeOf y2 y4 y7 y10 x0 = (f_X8_ones y4) from by rw [f_X8_wholeOf, if_neg h1_0, if_pos h1_1]).symm, ht⟩) (fun q hq => absurd hq List.not_mem_nil) dX8_wholeOf_74
    · by_cases h1_2 : x0 = 2
      · refine lv_tableIn (off := 74) (tgt := 75) hx hb dX8_wholeOf_1 (by rw [h1_2]; decide) (by rw [h1_2]; decide) (by rw [h1_2]; rfl) (by decide) ?_
        refine lv_aload_n hx hb dX8_wholeOf_75 rfl (lv_at hl 0 rfl) ?_
        refine va_get (D := D) (ci := 6) (v := .ref (a 1)) (C := RX8) (T := TX8) (N := 14) hx hb hts inX8 hown hK0.1 hP 0 rfl rfl 0 (by decide) (hts (.fieldLink RX8 7 "PivotChamberModel" "s" "[I") (List.mem_of_getElem? (i := 1) rfl)) (fun _ h9 => h9) rfl dX8_wholeOf_76 ?_
        refine lv_iconst (v := 1) hx hb dX8_wholeOf_79 (by decide) ?_
        refine va_iald hx hb hK0.1 hP 1 0 rfl rfl (vp_in_nI (n := 1) (N := 27) (by decide) (by decide)) dX8_wholeOf_80 ?_
        refine W.eq (g2 := F0 m 81 ls [.int (y7 1)]) rfl ?_
        exact W.iret hx hb hr (fun t ht hW => ⟨(y7 1), rfl, (show f_X8_wholeOf y2 y4 y7 y10 x0 = (y7 1) from by rw [f_X8_wholeOf, if_neg h1_0, if_neg h1_1, if_pos h1_2]).symm, ht⟩) (fun q hq => absurd hq List.not_mem_nil) dX8_wholeOf_81
      · by_cases h1_3 : x0 = 3
        · refine lv_tableIn (off := 81) (tgt := 82) hx hb dX8_wholeOf_1 (by rw [h1_3]; decide) (by rw [h1_3]; decide) (by rw [h1_3]; rfl) (by decide) ?_
          refine lv_aload_n hx hb dX8_wholeOf_82 rfl (lv_at hl 0 rfl) ?_
          refine va_get (D := D) (ci := 6) (v := .ref (a 1)) (C := RX8) (T := TX8) (N := 14) hx hb hts inX8 hown hK0.1 hP 0 rfl rfl 0 (by decide) (hts (.fieldLink RX8 7 "PivotChamberModel" "s" "[I") (List.mem_of_getElem? (i := 1) rfl)) (fun _ h9 => h9) rfl dX8_wholeOf_83 ?_
          refine lv_iconst (v := 2) hx hb dX8_wholeOf_86 (by decide) ?_
          refine va_iald hx hb hK0.1 hP 1 0 rfl rfl (vp_in_nI (n := 2) (N := 27) (by decide) (by decide)) dX8_wholeOf_87 ?_
          refine W.eq (g2 := F0 m 88 ls [.int (y7 2)]) rfl ?_
          exact W.iret hx hb hr (fun t ht hW => ⟨(y7 2), rfl, (show f_X8_wholeOf y2 y4 y7 y10 x0 = (y7 2) from by rw [f_X8_wholeOf, if_neg h1_0, if_neg h1_1, if_neg h1_2, if_pos h1_3]).symm, ht⟩) (fun q hq => absurd hq List.not_mem_nil) dX8_wholeOf_88
        · by_cases h1_4 : x0 = 4
          · refine lv_tableIn (off := 88) (tgt := 89) hx hb dX8_wholeOf_1 (by rw [h1_4]; decide) (by rw [h1_4]; decide) (by rw [h1_4]; rfl) (by decide) ?_
            refine lv_aload_n hx hb dX8_wholeOf_89 rfl (lv_at hl 0 rfl) ?_
            refine lv_sipush (v := 255) hx hb dX8_wholeOf_90 (by decide) ?_
            refine rd_goi (va_runV (C := RX8) (As := [.int 255]) (rest := []) S (c_X8_weightOf l D cy g B a y0 y1 y2 y3 y4 y5 y6 y7 y8 y9 y10 y11 y12 y13 255 hm8) (cwV 1 hts gX8_wholeOf_X8_weightOf rfl rfl rfl hd_X8_weightOf_V ⟨Nat.le_of_ble_eq_true rfl, Nat.le_of_ble_eq_true rfl⟩) ⟨rdP_blind, va_recv hK0.1 hP (ci := 6) (q0 := 0) rfl rfl, my_preP hK0 hS hAB hP⟩ rfl rfl hl.1 rfl (lv_room (Nat.le_of_ble_eq_true rfl)) dX8_wholeOf_93 ⟨Nat.zero_le _, Nat.zero_le _⟩) ?_
            exact W.iret hx hb hr (fun t ht hW => ⟨(f_X8_weightOf y7 255), rfl, (show f_X8_wholeOf y2 y4 y7 y10 x0 = (f_X8_weightOf y7 255) from by rw [f_X8_wholeOf, if_neg h1_0, if_neg h1_1, if_neg h1_2, if_neg h1_3, if_pos h1_4]).symm, ht⟩) (fun q hq => absurd hq List.not_mem_nil) dX8_wholeOf_96
          · by_cases h1_5 : x0 = 5
            · refine lv_tableIn (off := 96) (tgt := 97) hx hb dX8_wholeOf_1 (by rw [h1_5]; decide) (by rw [h1_5]; decide) (by rw [h1_5]; rfl) (by decide) ?_
              refine lv_aload_n hx hb dX8_wholeOf_97 rfl (lv_at hl 0 rfl) ?_
              refine lv_iconst (v := 0) hx hb dX8_wholeOf_98 (by decide) ?_
              refine rd_goi (va_runV (C := RX8) (As := [.int 0]) (rest := []) S (c_X8_many l D cy g B a y0 y1 y2 y3 y4 y5 y6 y7 y8 y9 y10 y11 y12 y13 0 hwin) (cwV 1 hts gX8_wholeOf_X8_many rfl rfl rfl hd_X8_many_V ⟨Nat.le_of_ble_eq_true rfl, Nat.le_of_ble_eq_true rfl⟩) ⟨rdP_blind, va_recv hK0.1 hP (ci := 6) (q0 := 0) rfl rfl, my_preP hK0 hS hAB hP⟩ rfl rfl hl.1 rfl (lv_room (Nat.le_of_ble_eq_true rfl)) dX8_wholeOf_99 ⟨Nat.zero_le _, Nat.zero_le _⟩) ?_
              exact W.iret hx hb hr (fun t ht hW => ⟨(f_X8_many y10 0), rfl, (show f_X8_wholeOf y2 y4 y7 y10 x0 = (f_X8_many y10 0) from by rw [f_X8_wholeOf, if_neg h1_0, if_neg h1_1, if_neg h1_2, if_neg h1_3, if_neg h1_4, if_pos h1_5]).symm, ht⟩) (fun q hq => absurd hq List.not_mem_nil) dX8_wholeOf_102
            · by_cases h1_6 : x0 = 6
              · refine lv_tableIn (off := 102) (tgt := 103) hx hb dX8_wholeOf_1 (by rw [h1_6]; decide) (by rw [h1_6]; decide) (by rw [h1_6]; rfl) (by decide) ?_
                refine lv_aload_n hx hb dX8_wholeOf_103 rfl (lv_at hl 0 rfl) ?_
                refine lv_iconst (v := 1) hx hb dX8_wholeOf_104 (by decide) ?_
                refine rd_goi (va_runV (C := RX8) (As := [.int 1]) (rest := []) S (c_X8_many l D cy g B a y0 y1 y2 y3 y4 y5 y6 y7 y8 y9 y10 y11 y12 y13 1 hwin) (cwV 1 hts gX8_wholeOf_X8_many rfl rfl rfl hd_X8_many_V ⟨Nat.le_of_ble_eq_true rfl, Nat.le_of_ble_eq_true rfl⟩) ⟨rdP_blind, va_recv hK0.1 hP (ci := 6) (q0 := 0) rfl rfl, my_preP hK0 hS hAB hP⟩ rfl rfl hl.1 rfl (lv_room (Nat.le_of_ble_eq_true rfl)) dX8_wholeOf_105 ⟨Nat.zero_le _, Nat.zero_le _⟩) ?_
                exact W.iret hx hb hr (fun t ht hW => ⟨(f_X8_many y10 1), rfl, (show f_X8_wholeOf y2 y4 y7 y10 x0 = (f_X8_many y10 1) from by rw [f_X8_wholeOf, if_neg h1_0, if_neg h1_1, if_neg h1_2, if_neg h1_3, if_neg h1_4, if_neg h1_5, if_pos h1_6]).symm, ht⟩) (fun q hq => absurd hq List.not_mem_nil) dX8_wholeOf_108
              · by_cases h1_7 : x0 = 7
                · refine lv_tableIn (off := 108) (tgt := 109) hx hb dX8_wholeOf_1 (by rw [h1_7]; decide) (by rw [h1_7]; decide) (by rw [h1_7]; rfl) (by decide) ?_
                  refine lv_aload_n hx hb dX8_wholeOf_109 rfl (lv_at hl 0 rfl) ?_
                  refine rd_goi (va_runV (C := RX8) (As := []) (rest := []) S (c_X8_allSwings l D cy g B a y0 y1 y2 y3 y4 y5 y6 y7 y8 y9 y10 y11 y12 y13) (cwV 0 hts gX8_wholeOf_X8_allSwings rfl rfl rfl hd_X8_allSwings_V ⟨Nat.le_of_ble_eq_true rfl, Nat.le_of_ble_eq_true rfl⟩) ⟨rdP_blind, va_recv hK0.1 hP (ci := 6) (q0 := 0) rfl rfl, my_preP hK0 hS hAB hP⟩ rfl rfl hl.1 rfl (lv_room (Nat.le_of_ble_eq_true rfl)) dX8_wholeOf_110 ⟨Nat.zero_le _, Nat.zero_le _⟩) ?_
                  exact W.iret hx hb hr (fun t ht hW => ⟨(f_X8_allSwings y10), rfl, (show f_X8_wholeOf y2 y4 y7 y10 x0 = (f_X8_allSwings y10) from by rw [f_X8_wholeOf, if_neg h1_0, if_neg h1_1, if_neg h1_2, if_neg h1_3, if_neg h1_4, if_neg h1_5, if_neg h1_6, if_pos h1_7]).symm, ht⟩) (fun q hq => absurd hq List.not_mem_nil) dX8_wholeOf_113
                · by_cases h1_8 : x0 = 8
                  · refine lv_tableIn (off := 113) (tgt := 114) hx hb dX8_wholeOf_1 (by rw [h1_8]; decide) (by rw [h1_8]; decide) (by rw [h1_8]; rfl) (by decide) ?_
                    refine lv_aload_n hx hb dX8_wholeOf_114 rfl (lv_at hl 0 rfl) ?_
                    refine rd_goi (va_runV (C := RX8) (As := []) (rest := []) S (c_X8_dummies l D cy g B a y0 y1 y2 y3 y4 y5 y6 y7 y8 y9 y10 y11 y12 y13 hm8) (cwV 0 hts gX8_wholeOf_X8_dummies rfl rfl rfl hd_X8_dummies_V ⟨Nat.le_of_ble_eq_true rfl, Nat.le_of_ble_eq_true rfl⟩) ⟨rdP_blind, va_recv hK0.1 hP (ci := 6) (q0 := 0) rfl rfl, my_preP hK0 hS hAB hP⟩ rfl rfl hl.1 rfl (lv_room (Nat.le_of_ble_eq_true rfl)) dX8_wholeOf_115 ⟨Nat.zero_le _, Nat.zero_le _⟩) ?_
                    exact W.iret hx hb hr (fun t ht hW => ⟨(f_X8_dummies y7 y10), rfl, (show f_X8_wholeOf y2 y4 y7 y10 x0 = (f_X8_dummies y7 y10) from by rw [f_X8_wholeOf, if_neg h1_0, if_neg h1_1, if_neg h1_2, if_neg h1_3, if_neg h1_4, if_neg h1_5, if_neg h1_6, if_neg h1_7, if_pos h1_8]).symm, ht⟩) (fun q hq => absurd hq List.not_mem_nil) dX8_wholeOf_118
                  · by_cases h1_9 : x0 = 9
                    · refine lv_tableIn (off := 118) (tgt := 119) hx hb dX8_wholeOf_1 (by rw [h1_9]; decide) (by rw [h1_9]; decide) (by rw [h1_9]; rfl) (by decide) ?_
                      refine lv_aload_n hx hb dX8_wholeOf_119 rfl (lv_at hl 0 rfl) ?_
                      refine rd_goi (va_runV (C := RX8) (As := []) (rest := []) S (c_X8_needed l D cy g B a y0 y1 y2 y3 y4 y5 y6 y7 y8 y9 y10 y11 y12 y13 hm8 hwin hall0 hall) (cwV 0 hts gX8_wholeOf_X8_needed rfl rfl rfl hd_X8_needed_V ⟨Nat.le_of_ble_eq_true rfl, Nat.le_of_ble_eq_true rfl⟩) ⟨rdP_blind, va_recv hK0.1 hP (ci := 6) (q0 := 0) rfl rfl, my_preP hK0 hS hAB hP⟩ rfl rfl hl.1 rfl (lv_room (Nat.le_of_ble_eq_true rfl)) dX8_wholeOf_120 ⟨Nat.zero_le _, Nat.zero_le _⟩) ?_
                      exact W.iret hx hb hr (fun t ht hW => ⟨(f_X8_needed y4 y7 y10), rfl, (show f_X8_wholeOf y2 y4 y7 y10 x0 = (f_X8_needed y4 y7 y10) from by rw [f_X8_wholeOf, if_neg h1_0, if_neg h1_1, if_neg h1_2, if_neg h1_3, if_neg h1_4, if_neg h1_5, if_neg h1_6, if_neg h1_7, if_neg h1_8, if_pos h1_9]).symm, ht⟩) (fun q hq => absurd hq List.not_mem_nil) dX8_wholeOf_123
                    · by_cases h1_10 : x0 = 10
                      · refine lv_tableIn (off := 123) (tgt := 124) hx hb dX8_wholeOf_1 (by rw [h1_10]; decide) (by rw [h1_10]; decide) (by rw [h1_10]; rfl) (by decide) ?_
                        refine lv_aload_n hx hb dX8_wholeOf_124 rfl (lv_at hl 0 rfl) ?_
                        refine rd_goi (va_runV (C := RX8) (As := []) (rest := []) S (c_X8_alikeRules l D cy g B a y0 y1 y2 y3 y4 y5 y6 y7 y8 y9 y10 y11 y12 y13 hR4) (cwV 0 hts gX8_wholeOf_X8_alikeRules rfl rfl rfl hd_X8_alikeRules_V ⟨Nat.le_of_ble_eq_true rfl, Nat.le_of_ble_eq_true rfl⟩) ⟨rdP_blind, va_recv hK0.1 hP (ci := 6) (q0 := 0) rfl rfl, my_preP hK0 hS hAB hP⟩ rfl rfl hl.1 rfl (lv_room (Nat.le_of_ble_eq_true rfl)) dX8_wholeOf_125 ⟨Nat.zero_le _, Nat.zero_le _⟩) ?_
                        exact W.iret hx hb hr (fun t ht hW => ⟨(f_X8_alikeRules y7), rfl, (show f_X8_wholeOf y2 y4 y7 y10 x0 = (f_X8_alikeRules y7) from by rw [f_X8_wholeOf, if_neg h1_0, if_neg h1_1, if_neg h1_2, if_neg h1_3, if_neg h1_4, if_neg h1_5, if_neg h1_6, if_neg h1_7, if_neg h1_8, if_neg h1_9, if_pos h1_10]).symm, ht⟩) (fun q hq => absurd hq List.not_mem_nil) dX8_wholeOf_128
                      · refine lv_tableOut (tgt := 129) hx hb dX8_wholeOf_1 (by have t0 : x0.toInt ≠ 0 := my_ne h1_0 rfl; have t1 : x0.toInt ≠ 1 := my_ne h1_1 rfl; have t2 : x0.toInt ≠ 2 := my_ne h1_2 rfl; have t3 : x0.toInt ≠ 3 := my_ne h1_3 rfl; have t4 : x0.toInt ≠ 4 := my_ne h1_4 rfl; have t5 : x0.toInt ≠ 5 := my_ne h1_5 rfl; have t6 : x0.toInt ≠ 6 := my_ne h1_6 rfl; have t7 : x0.toInt ≠ 7 := my_ne h1_7 rfl; have t8 : x0.toInt ≠ 8 := my_ne h1_8 rfl; have t9 : x0.toInt ≠ 9 := my_ne h1_9 rfl; have t10 : x0.toInt ≠ 10 := my_ne h1_10 rfl; omega) (by decide) ?_
                        refine lv_aload_n hx hb dX8_wholeOf_129 rfl (lv_at hl 0 rfl) ?_
                        refine va_get (D := D) (ci := 6) (v := .int y2) (C := RX8) (T := TX8) (N := 14) hx hb hts inX8 hown hK0.1 hP 0 rfl rfl 5 (by decide) (hts (.fieldLink RX8 141 "PivotChamberModel" "typed" "I") (List.mem_of_getElem? (i := 3) rfl)) (fun _ h9 => h9) rfl dX8_wholeOf_130 ?_
                        exact W.iret hx hb hr (fun t ht hW => ⟨y2, rfl, (show f_X8_wholeOf y2 y4 y7 y10 x0 = y2 from by rw [f_X8_wholeOf, if_neg h1_0, if_neg h1_1, if_neg h1_2, if_neg h1_3, if_neg h1_4, if_neg h1_5, if_neg h1_6, if_neg h1_7, if_neg h1_8, if_neg h1_9, if_neg h1_10]).symm, ht⟩) (fun q hq => absurd hq List.not_mem_nil) dX8_wholeOf_133
theorem hd_X8_member_S : yX8_member.cls ≠ "java/lang/invoke/MethodHandle" ∧ yX8_member.cls ≠ "java/lang/invoke/VarHandle" ∧ (parseMethodDescriptor yX8_member.desc).map (fun d => d.parameters.length) = some 2 := by decide +kernel
theorem hd_X8_member_V : yX8_member.cls = RX8 ∧ yX8_member.cls ≠ "java/lang/invoke/MethodHandle" ∧ yX8_member.cls ≠ "java/lang/invoke/VarHandle" ∧ (parseMethodDescriptor yX8_member.desc).map (fun d => d.parameters.length) = some 2 := ⟨rfl, hd_X8_member_S⟩
def f_X8_member (y4 : Int32) (y7 : (Nat → Int32)) (y10 : (Nat → Int32)) (x0 : Int32) (x1 : Int32) : Int32 × (Int32 × Int32 × (Nat → Int32)) := (if (f_X8_isMember y7 x0) = 0 then (0, (1, y4, y10)) else (if (f_X8_in x1 0 7) = 0 then (0, (2, y4, y10)) else (my_l (f_X8_lays y7 y10 (y7 1)) (fun (u_9 : Int32 × (Nat → Int32)) => ((f_X8_memberOf u_9.1 y7 u_9.2 x0 x1), (0, u_9.1, u_9.2))))))
set_option maxHeartbeats 400000 in
set_option maxRecDepth 100000 in
theorem c_X8_member (l : Launch) (D : va_G) (cy : Nat → ClassId) (g : Nat → Nat) (B : Nat) (a : Nat → Nat) (y0 : Int32) (y1 : Int32) (y2 : Int32) (y3 : Int32) (y4 : Int32) (y5 : Int32) (y6 : Int32) (y7 : (Nat → Int32)) (y8 : (Nat → Int32)) (y9 : (Nat → Int32)) (y10 : (Nat → Int32)) (y11 : (Nat → Int32)) (y12 : (Nat → Int32)) (y13 : (Nat → Int32)) (x0 : Int32) (x1 : Int32) (hm8 : ¬ 8 < (y7 0)) (hR4 : ¬ 4 < (y7 2)) (hwin : ∀ j : Nat, y10 j = 0 ∨ y10 j = 1) : Met l yX8_member wsX8_member ({ frames := 4, cells := 0, slots := 0, locals := 91 }) (muP D cy g B (wModE cy a y0 y1 y2 y3 y4 y5 y6 y7 y8 y9 y10 y11 y12 y13) [.ref (a 0), .int x0, .int x1]) (va_Qi (fun (r : Int32) (u : Int32 × Int32 × (Nat → Int32)) => f_X8_member y4 y7 y10 x0 x1 = (r, u)) (fun u t => va_P D vwCl (wModE cy a y0 y1 y2 u.1 u.2.1 y5 y6 y7 y8 y9 u.2.2 y11 y12 y13) t.heap) (muA (wModE cy a y0 y1 y2 y3 y4 y5 y6 y7 y8 y9 y10 y11 y12 y13))) 0 0 (muA (wModE cy a y0 y1 y2 y3 y4 y5 y6 y7 y8 y9 y10 y11 y12 y13)) := by
  refine Met.ofW (cc := cX8_member) (maxL := 3) (ret := (some .int)) (by decide) rfl ?_
  intro p e s m args below meth c s₁ BB hml hv
  obtain ⟨rfl, hP, hK0, hD0⟩ := hv
  have hx := BB.exec
  have hb := BB.bytes
  have hr := BB.returns
  have hts := atoms_spec (ws := wsX8_member) BB.pre
  have hown : s.vm.findClass RX8 = some m.cls := findClass_of_methodNamed BB.named
  have hlocks := BB.notSynchronized
  have S := my_fix hx hb hml hown hts
  have inX8 : ∀ w ∈ wsX80, w ∈ wsX8_member := fun w h => List.mem_cons_of_mem _ (List.mem_append_right _ h)
  have hAB := muB hD0
  have hD := muD hD0
  generalize hAe : muA (wModE cy a y0 y1 y2 y3 y4 y5 y6 y7 y8 y9 y10 y11 y12 y13) = A at hAB hD ⊢
  have hS : va_S A s.heap s.heap [] := va_S.rf
  have hl := lv_entry ([.ref (a 0), .int x0, .int x1]) (n := 3) (Nat.le_of_ble_eq_true rfl)
  rw [lg_entry_eq]
  generalize (lg_sl ([.ref (a 0), .int x0, .int x1]) ++ List.replicate (3 - (lg_sl ([.ref (a 0), .int x0, .int x1])).length) Slot.unset).toArray = ls at hl ⊢
  have hl : lv_has ls 3 [(0, .ref (a 0)), (1, .int x0), (2, .int x1)] := hl
  refine lv_aload_n hx hb dX8_member_0 rfl (lv_at hl 0 rfl) ?_
  refine lv_aload_n hx hb dX8_member_1 rfl (lv_at hl 0 rfl) ?_
  refine lv_iload_n hx hb dX8_member_2 rfl (lv_at hl 1 rfl) ?_
  refine rd_goi (va_runV (C := RX8) (As := [.int x0]) (rest := [.ref (a 0)]) S (c_X8_isMember l D cy g B a y0 y1 y2 y3 y4 y5 y6 y7 y8 y9 y10 y11 y12 y13 x0) (cwV 1 hts gX8_member_X8_isMember rfl rfl rfl hd_X8_isMember_V ⟨Nat.le_of_ble_eq_true rfl, Nat.le_of_ble_eq_true rfl⟩) ⟨rdP_blind, va_recv hK0.1 hP (ci := 6) (q0 := 0) rfl rfl, my_preP hK0 hS hAB hP⟩ rfl rfl hl.1 rfl (lv_room (Nat.le_of_ble_eq_true rfl)) dX8_member_3 ⟨Nat.zero_le _, Nat.zero_le _⟩) ?_
  refine lv_if_ne (tgt := 13) hx hb dX8_member_6 (by decide) (fun c_1 => ?_) (fun c_1 => ?_)
  · refine lv_iload_n hx hb dX8_member_13 rfl (lv_at hl 2 rfl) ?_
    refine lv_iconst (v := 0) hx hb dX8_member_14 (by decide) ?_
    refine lv_bipush (v := 7) hx hb dX8_member_15 (by decide) ?_
    refine rd_goi (va_runS (As := [.int x1, .int 0, .int 7]) (rest := [.ref (a 0)]) S (c_X8_in l D cy g B x1 0 7) (va_cwS 3 hts gX8_member_X8_in rfl rfl rfl hd_X8_in_S ⟨Nat.le_of_ble_eq_true rfl, Nat.le_of_ble_eq_true rfl⟩) ⟨rdP_blind, my_preV hK0 hS hAB hP [] rfl⟩ rfl rfl hl.1 rfl (lv_room (Nat.le_of_ble_eq_true rfl)) dX8_member_17 ⟨Nat.zero_le _, Nat.zero_le _⟩) ?_
    refine lv_if_eq (tgt := 27) hx hb dX8_member_20 (by decide) (fun c_2 => ?_) (fun c_2 => ?_)
    · refine lv_iconst (v := 2) hx hb dX8_member_27 (by decide) ?_
      refine mu_alli (wf := fun (u_3 : Int32) => (wModE cy a y0 y1 y2 u_3 y4 y5 y6 y7 y8 y9 y10 y11 y12 y13)) (va_runV (C := RX8) (As := [.int 2]) (rest := []) S (c_X8_throwsAt l D cy g B a y0 y1 y2 y3 y4 y5 y6 y7 y8 y9 y10 y11 y12 y13 2) (cwV 1 hts gX8_member_X8_throwsAt rfl rfl rfl hd_X8_throwsAt_V ⟨Nat.le_of_ble_eq_true rfl, Nat.le_of_ble_eq_true rfl⟩) ⟨muP_blind, va_recv hK0.1 hP (ci := 6) (q0 := 0) rfl rfl, my_preA hK0 hS hAB hP hD⟩ rfl rfl hl.1 rfl (lv_room (Nat.le_of_ble_eq_true rfl)) dX8_member_28 ⟨Nat.zero_le _, Nat.zero_le _⟩) hS hD (fun _ => by simp only [List.map_cons, List.map_nil, adrSet, adrSetE, adrPow, adrPowE, adrTxt, adrTxtE, adrSav, adrSavE, adrPCo, adrMod, adrModE]) (fun r_5 u_3 H locs hw_4 hP hD hS => ?_)
      obtain ⟨rfl, rfl⟩ : 1 = r_5 ∧ 2 = u_3 := my_thr_lit (k := 2) (by decide) hw_4
      refine lv_if_eq (tgt := 36) hx hb dX8_member_31 (by decide) (fun h => absurd h (by decide)) (fun _ => ?_)
      refine lv_iconst (v := 0) hx hb dX8_member_34 (by decide) ?_
      have hP : va_P D vwCl (wModE cy a y0 y1 y2 2 y4 y5 y6 y7 y8 y9 y10 y11 y12 y13) H := hP
      have hD : va_D A (wModE cy a y0 y1 y2 2 y4 y5 y6 y7 y8 y9 y10 y11 y12 y13) := hD
      exact W.iret hx hb hr (fun t ht hW => ⟨⟨0, (2, y4, y10), rfl, (show f_X8_member y4 y7 y10 x0 x1 = (0, (2, y4, y10)) from by rw [f_X8_member, if_neg c_1, if_pos c_2]), by show va_P D vwCl _ t.heap; rw [ht]; exact hP⟩, hS.F ht⟩) hS.2.2 dX8_member_35
    · refine lv_iconst (v := 0) hx hb dX8_member_23 (by decide) ?_
      refine lv_goto (tgt := 28) hx hb dX8_member_24 (by decide) ?_
      refine mu_alli (wf := fun (u_6 : Int32) => (wModE cy a y0 y1 y2 u_6 y4 y5 y6 y7 y8 y9 y10 y11 y12 y13)) (va_runV (C := RX8) (As := [.int 0]) (rest := []) S (c_X8_throwsAt l D cy g B a y0 y1 y2 y3 y4 y5 y6 y7 y8 y9 y10 y11 y12 y13 0) (cwV 1 hts gX8_member_X8_throwsAt rfl rfl rfl hd_X8_throwsAt_V ⟨Nat.le_of_ble_eq_true rfl, Nat.le_of_ble_eq_true rfl⟩) ⟨muP_blind, va_recv hK0.1 hP (ci := 6) (q0 := 0) rfl rfl, my_preA hK0 hS hAB hP hD⟩ rfl rfl hl.1 rfl (lv_room (Nat.le_of_ble_eq_true rfl)) dX8_member_28 ⟨Nat.zero_le _, Nat.zero_le _⟩) hS hD (fun _ => by simp only [List.map_cons, List.map_nil, adrSet, adrSetE, adrPow, adrPowE, adrTxt, adrTxtE, adrSav, adrSavE, adrPCo, adrMod, adrModE]) (fun r_8 u_6 H locs hw_7 hP hD hS => ?_)
      obtain ⟨rfl, rfl⟩ : 0 = r_8 ∧ 0 = u_6 := my_thr_lit (k := 0) (by decide) hw_7
      refine lv_if_eq (tgt := 36) hx hb dX8_member_31 (by decide) (fun _ => ?_) (fun h => absurd (by decide) h)
      refine lv_aload_n hx hb dX8_member_36 rfl (lv_at hl 0 rfl) ?_
      refine lv_aload_n hx hb dX8_member_37 rfl (lv_at hl 0 rfl) ?_
      refine va_get (D := D) (ci := 6) (v := .ref (a 1)) (C := RX8) (T := TX8) (N := 14) hx hb hts inX8 hown hK0.1 hP 0 rfl rfl 0 (by decide) (hts (.fieldLink RX8 7 "PivotChamberModel" "s" "[I") (List.mem_of_getElem? (i := 1) rfl)) (fun _ h9 => h9) rfl dX8_member_38 ?_
      refine lv_iconst (v := 1) hx hb dX8_member_41 (by decide) ?_
      refine va_iald hx hb hK0.1 hP 1 0 rfl rfl (vp_in_nI (n := 1) (N := 27) (by decide) (by decide)) dX8_member_42 ?_
      refine W.eq (g2 := F0 m 43 ls [.int (y7 1), .ref (a 0)]) rfl ?_
      refine mu_allv (wf := fun (u_9 : Int32 × (Nat → Int32)) => (wModE cy a y0 y1 y2 0 u_9.1 y5 y6 y7 y8 y9 u_9.2 y11 y12 y13)) (va_runV (C := RX8) (As := [.int (y7 1)]) (rest := []) S (c_X8_lays l D cy g B a y0 y1 y2 0 y4 y5 y6 y7 y8 y9 y10 y11 y12 y13 (y7 1) hm8 hR4) (cwV 1 hts gX8_member_X8_lays rfl rfl rfl hd_X8_lays_V ⟨Nat.le_of_ble_eq_true rfl, Nat.le_of_ble_eq_true rfl⟩) ⟨muP_blind, va_recv hK0.1 hP (ci := 6) (q0 := 0) rfl rfl, my_preA hK0 hS hAB hP hD⟩ rfl rfl hl.1 rfl (lv_room (Nat.le_of_ble_eq_true rfl)) dX8_member_43 ⟨Nat.zero_le _, Nat.zero_le _⟩) hS hD (fun _ => by simp only [List.map_cons, List.map_nil, adrSet, adrSetE, adrPow, adrPowE, adrTxt, adrTxtE, adrSav, adrSavE, adrPCo, adrMod, adrModE]) (fun u_9 H locs hw_10 hP hD hS => ?_)
      have ha_11 : ¬ u_9.1 < 0 := lays_0 hm8 hw_10
      have ha_12 : ¬ 256 ≤ u_9.1 := lays_256 hm8 hw_10
      have ha_13 : ∀ j : Nat, u_9.2 j = 0 ∨ u_9.2 j = 1 := lays_bool hwin hw_10
      refine lv_aload_n hx hb dX8_member_46 rfl (lv_at hl 0 rfl) ?_
      refine lv_iload_n hx hb dX8_member_47 rfl (lv_at hl 1 rfl) ?_
      refine lv_iload_n hx hb dX8_member_48 rfl (lv_at hl 2 rfl) ?_
      refine rd_goi (va_runV (C := RX8) (As := [.int x0, .int x1]) (rest := []) S (c_X8_memberOf l D cy g B a y0 y1 y2 0 u_9.1 y5 y6 y7 y8 y9 u_9.2 y11 y12 y13 x0 x1 hm8 ha_13 ha_11 ha_12 (im_0 c_1) (im_1 c_1)) (cwV 2 hts gX8_member_X8_memberOf rfl rfl rfl hd_X8_memberOf_V ⟨Nat.le_of_ble_eq_true rfl, Nat.le_of_ble_eq_true rfl⟩) ⟨rdP_blind, va_recv hK0.1 hP (ci := 6) (q0 := 0) rfl rfl, my_preP hK0 hS hAB hP⟩ rfl rfl hl.1 rfl (lv_room (Nat.le_of_ble_eq_true rfl)) dX8_member_49 ⟨Nat.zero_le _, Nat.zero_le _⟩) ?_
      have hP : va_P D vwCl (wModE cy a y0 y1 y2 0 u_9.1 y5 y6 y7 y8 y9 u_9.2 y11 y12 y13) H := hP
      have hD : va_D A (wModE cy a y0 y1 y2 0 u_9.1 y5 y6 y7 y8 y9 u_9.2 y11 y12 y13) := hD
      exact W.iret hx hb hr (fun t ht hW => ⟨⟨(f_X8_memberOf u_9.1 y7 u_9.2 x0 x1), (0, u_9.1, u_9.2), rfl, (show f_X8_member y4 y7 y10 x0 x1 = ((f_X8_memberOf u_9.1 y7 u_9.2 x0 x1), (0, u_9.1, u_9.2)) from by rw [f_X8_member, if_neg c_1, if_neg c_2, hw_10, my_l_eq]), by show va_P D vwCl _ t.heap; rw [ht]; exact hP⟩, hS.F ht⟩) hS.2.2 dX8_member_52
  · refine lv_iconst (v := 1) hx hb dX8_member_9 (by decide) ?_
    refine lv_goto (tgt := 28) hx hb dX8_member_10 (by decide) ?_
    refine mu_alli (wf := fun (u_14 : Int32) => (wModE cy a y0 y1 y2 u_14 y4 y5 y6 y7 y8 y9 y10 y11 y12 y13)) (va_runV (C := RX8) (As := [.int 1]) (rest := []) S (c_X8_throwsAt l D cy g B a y0 y1 y2 y3 y4 y5 y6 y7 y8 y9 y10 y11 y12 y13 1) (cwV 1 hts gX8_member_X8_throwsAt rfl rfl rfl hd_X8_throwsAt_V ⟨Nat.le_of_ble_eq_true rfl, Nat.le_of_ble_eq_true rfl⟩) ⟨muP_blind, va_recv hK0.1 hP (ci := 6) (q0 := 0) rfl rfl, my_preA hK0 hS hAB hP hD⟩ rfl rfl hl.1 rfl (lv_room (Nat.le_of_ble_eq_true rfl)) dX8_member_28 ⟨Nat.zero_le _, Nat.zero_le _⟩) hS hD (fun _ => by simp only [List.map_cons, List.map_nil, adrSet, adrSetE, adrPow, adrPowE, adrTxt, adrTxtE, adrSav, adrSavE, adrPCo, adrMod, adrModE]) (fun r_16 u_14 H locs hw_15 hP hD hS => ?_)
    obtain ⟨rfl, rfl⟩ : 1 = r_16 ∧ 1 = u_14 := my_thr_lit (k := 1) (by decide) hw_15
    refine lv_if_eq (tgt := 36) hx hb dX8_member_31 (by decide) (fun h => absurd h (by decide)) (fun _ => ?_)
    refine lv_iconst (v := 0) hx hb dX8_member_34 (by decide) ?_
    have hP : va_P D vwCl (wModE cy a y0 y1 y2 1 y4 y5 y6 y7 y8 y9 y10 y11 y12 y13) H := hP
    have hD : va_D A (wModE cy a y0 y1 y2 1 y4 y5 y6 y7 y8 y9 y10 y11 y12 y13) := hD
    exact W.iret hx hb hr (fun t ht hW => ⟨⟨0, (1, y4, y10), rfl, (show f_X8_member y4 y7 y10 x0 x1 = (0, (1, y4, y10)) from by rw [f_X8_member, if_pos c_1]), by show va_P D vwCl _ t.heap; rw [ht]; exact hP⟩, hS.F ht⟩) hS.2.2 dX8_member_35
theorem hd_X8_rule_S : yX8_rule.cls ≠ "java/lang/invoke/MethodHandle" ∧ yX8_rule.cls ≠ "java/lang/invoke/VarHandle" ∧ (parseMethodDescriptor yX8_rule.desc).map (fun d => d.parameters.length) = some 2 := by decide +kernel
theorem hd_X8_rule_V : yX8_rule.cls = RX8 ∧ yX8_rule.cls ≠ "java/lang/invoke/MethodHandle" ∧ yX8_rule.cls ≠ "java/lang/invoke/VarHandle" ∧ (parseMethodDescriptor yX8_rule.desc).map (fun d => d.parameters.length) = some 2 := ⟨rfl, hd_X8_rule_S⟩
def f_X8_rule (y7 : (Nat → Int32)) (x0 : Int32) (x1 : Int32) : Int32 × (Int32) := (if (f_X8_isRule y7 x0) = 0 then (0, 1) else (if (f_X8_in x1 0 2) = 0 then (0, 2) else ((f_X8_ruleOf y7 x0 x1), 0)))
set_option maxHeartbeats 400000 in
set_option maxRecDepth 100000 in
theorem c_X8_rule (l : Launch) (D : va_G) (cy : Nat → ClassId) (g : Nat → Nat) (B : Nat) (a : Nat → Nat) (y0 : Int32) (y1 : Int32) (y2 : Int32) (y3 : Int32) (y4 : Int32) (y5 : Int32) (y6 : Int32) (y7 : (Nat → Int32)) (y8 : (Nat → Int32)) (y9 : (Nat → Int32)) (y10 : (Nat → Int32)) (y11 : (Nat → Int32)) (y12 : (Nat → Int32)) (y13 : (Nat → Int32)) (x0 : Int32) (x1 : Int32) (hR4 : ¬ 4 < (y7 2)) : Met l yX8_rule wsX8_rule ({ frames := 3, cells := 0, slots := 0, locals := 67 }) (muP D cy g B (wModE cy a y0 y1 y2 y3 y4 y5 y6 y7 y8 y9 y10 y11 y12 y13) [.ref (a 0), .int x0, .int x1]) (va_Qi (fun (r : Int32) (u : Int32) => f_X8_rule y7 x0 x1 = (r, u)) (fun u t => va_P D vwCl (wModE cy a y0 y1 y2 u y4 y5 y6 y7 y8 y9 y10 y11 y12 y13) t.heap) (muA (wModE cy a y0 y1 y2 y3 y4 y5 y6 y7 y8 y9 y10 y11 y12 y13))) 0 0 (muA (wModE cy a y0 y1 y2 y3 y4 y5 y6 y7 y8 y9 y10 y11 y12 y13)) := by
  refine Met.ofW (cc := cX8_rule) (maxL := 3) (ret := (some .int)) (by decide) rfl ?_
  intro p e s m args below meth c s₁ BB hml hv
  obtain ⟨rfl, hP, hK0, hD0⟩ := hv
  have hx := BB.exec
  have hb := BB.bytes
  have hr := BB.returns
  have hts := atoms_spec (ws := wsX8_rule) BB.pre
  have hown : s.vm.findClass RX8 = some m.cls := findClass_of_methodNamed BB.named
  have hlocks := BB.notSynchronized
  have S := my_fix hx hb hml hown hts
  have hAB := muB hD0
  have hD := muD hD0
  generalize hAe : muA (wModE cy a y0 y1 y2 y3 y4 y5 y6 y7 y8 y9 y10 y11 y12 y13) = A at hAB hD ⊢
  have hS : va_S A s.heap s.heap [] := va_S.rf
  have hl := lv_entry ([.ref (a 0), .int x0, .int x1]) (n := 3) (Nat.le_of_ble_eq_true rfl)
  rw [lg_entry_eq]
  generalize (lg_sl ([.ref (a 0), .int x0, .int x1]) ++ List.replicate (3 - (lg_sl ([.ref (a 0), .int x0, .int x1])).length) Slot.unset).toArray = ls at hl ⊢
  have hl : lv_has ls 3 [(0, .ref (a 0)), (1, .int x0), (2, .int x1)] := hl
  refine lv_aload_n hx hb dX8_rule_0 rfl (lv_at hl 0 rfl) ?_
  refine lv_aload_n hx hb dX8_rule_1 rfl (lv_at hl 0 rfl) ?_
  refine lv_iload_n hx hb dX8_rule_2 rfl (lv_at hl 1 rfl) ?_
  refine rd_goi (va_runV (C := RX8) (As := [.int x0]) (rest := [.ref (a 0)]) S (c_X8_isRule l D cy g B a y0 y1 y2 y3 y4 y5 y6 y7 y8 y9 y10 y11 y12 y13 x0) (cwV 1 hts gX8_rule_X8_isRule rfl rfl rfl hd_X8_isRule_V ⟨Nat.le_of_ble_eq_true rfl, Nat.le_of_ble_eq_true rfl⟩) ⟨rdP_blind, va_recv hK0.1 hP (ci := 6) (q0 := 0) rfl rfl, my_preP hK0 hS hAB hP⟩ rfl rfl hl.1 rfl (lv_room (Nat.le_of_ble_eq_true rfl)) dX8_rule_3 ⟨Nat.zero_le _, Nat.zero_le _⟩) ?_
  refine lv_if_ne (tgt := 13) hx hb dX8_rule_6 (by decide) (fun c_1 => ?_) (fun c_1 => ?_)
  · refine lv_iload_n hx hb dX8_rule_13 rfl (lv_at hl 2 rfl) ?_
    refine lv_iconst (v := 0) hx hb dX8_rule_14 (by decide) ?_
    refine lv_iconst (v := 2) hx hb dX8_rule_15 (by decide) ?_
    refine rd_goi (va_runS (As := [.int x1, .int 0, .int 2]) (rest := [.ref (a 0)]) S (c_X8_in l D cy g B x1 0 2) (va_cwS 3 hts gX8_rule_X8_in rfl rfl rfl hd_X8_in_S ⟨Nat.le_of_ble_eq_true rfl, Nat.le_of_ble_eq_true rfl⟩) ⟨rdP_blind, my_preV hK0 hS hAB hP [] rfl⟩ rfl rfl hl.1 rfl (lv_room (Nat.le_of_ble_eq_true rfl)) dX8_rule_16 ⟨Nat.zero_le _, Nat.zero_le _⟩) ?_
    refine lv_if_eq (tgt := 26) hx hb dX8_rule_19 (by decide) (fun c_2 => ?_) (fun c_2 => ?_)
    · refine lv_iconst (v := 2) hx hb dX8_rule_26 (by decide) ?_
      refine mu_alli (wf := fun (u_3 : Int32) => (wModE cy a y0 y1 y2 u_3 y4 y5 y6 y7 y8 y9 y10 y11 y12 y13)) (va_runV (C := RX8) (As := [.int 2]) (rest := []) S (c_X8_throwsAt l D cy g B a y0 y1 y2 y3 y4 y5 y6 y7 y8 y9 y10 y11 y12 y13 2) (cwV 1 hts gX8_rule_X8_throwsAt rfl rfl rfl hd_X8_throwsAt_V ⟨Nat.le_of_ble_eq_true rfl, Nat.le_of_ble_eq_true rfl⟩) ⟨muP_blind, va_recv hK0.1 hP (ci := 6) (q0 := 0) rfl rfl, my_preA hK0 hS hAB hP hD⟩ rfl rfl hl.1 rfl (lv_room (Nat.le_of_ble_eq_true rfl)) dX8_rule_27 ⟨Nat.zero_le _, Nat.zero_le _⟩) hS hD (fun _ => by simp only [List.map_cons, List.map_nil, adrSet, adrSetE, adrPow, adrPowE, adrTxt, adrTxtE, adrSav, adrSavE, adrPCo, adrMod, adrModE]) (fun r_5 u_3 H locs hw_4 hP hD hS => ?_)
      obtain ⟨rfl, rfl⟩ : 1 = r_5 ∧ 2 = u_3 := my_thr_lit (k := 2) (by decide) hw_4
      refine lv_if_eq (tgt := 37) hx hb dX8_rule_30 (by decide) (fun h => absurd h (by decide)) (fun _ => ?_)
      refine lv_iconst (v := 0) hx hb dX8_rule_33 (by decide) ?_
      refine lv_goto (tgt := 43) hx hb dX8_rule_34 (by decide) ?_
      have hP : va_P D vwCl (wModE cy a y0 y1 y2 2 y4 y5 y6 y7 y8 y9 y10 y11 y12 y13) H := hP
      have hD : va_D A (wModE cy a y0 y1 y2 2 y4 y5 y6 y7 y8 y9 y10 y11 y12 y13) := hD
      exact W.iret hx hb hr (fun t ht hW => ⟨⟨0, 2, rfl, (show f_X8_rule y7 x0 x1 = (0, 2) from by rw [f_X8_rule, if_neg c_1, if_pos c_2]), by show va_P D vwCl _ t.heap; rw [ht]; exact hP⟩, hS.F ht⟩) hS.2.2 dX8_rule_43
    · refine lv_iconst (v := 0) hx hb dX8_rule_22 (by decide) ?_
      refine lv_goto (tgt := 27) hx hb dX8_rule_23 (by decide) ?_
      refine mu_alli (wf := fun (u_6 : Int32) => (wModE cy a y0 y1 y2 u_6 y4 y5 y6 y7 y8 y9 y10 y11 y12 y13)) (va_runV (C := RX8) (As := [.int 0]) (rest := []) S (c_X8_throwsAt l D cy g B a y0 y1 y2 y3 y4 y5 y6 y7 y8 y9 y10 y11 y12 y13 0) (cwV 1 hts gX8_rule_X8_throwsAt rfl rfl rfl hd_X8_throwsAt_V ⟨Nat.le_of_ble_eq_true rfl, Nat.le_of_ble_eq_true rfl⟩) ⟨muP_blind, va_recv hK0.1 hP (ci := 6) (q0 := 0) rfl rfl, my_preA hK0 hS hAB hP hD⟩ rfl rfl hl.1 rfl (lv_room (Nat.le_of_ble_eq_true rfl)) dX8_rule_27 ⟨Nat.zero_le _, Nat.zero_le _⟩) hS hD (fun _ => by simp only [List.map_cons, List.map_nil, adrSet, adrSetE, adrPow, adrPowE, adrTxt, adrTxtE, adrSav, adrSavE, adrPCo, adrMod, adrModE]) (fun r_8 u_6 H locs hw_7 hP hD hS => ?_)
      obtain ⟨rfl, rfl⟩ : 0 = r_8 ∧ 0 = u_6 := my_thr_lit (k := 0) (by decide) hw_7
      refine lv_if_eq (tgt := 37) hx hb dX8_rule_30 (by decide) (fun _ => ?_) (fun h => absurd (by decide) h)
      refine lv_aload_n hx hb dX8_rule_37 rfl (lv_at hl 0 rfl) ?_
      refine lv_iload_n hx hb dX8_rule_38 rfl (lv_at hl 1 rfl) ?_
      refine lv_iload_n hx hb dX8_rule_39 rfl (lv_at hl 2 rfl) ?_
      refine rd_goi (va_runV (C := RX8) (As := [.int x0, .int x1]) (rest := []) S (c_X8_ruleOf l D cy g B a y0 y1 y2 0 y4 y5 y6 y7 y8 y9 y10 y11 y12 y13 x0 x1 hR4 (ir_0 c_1) (Int32.not_le.mpr (ir_1 c_1))) (cwV 2 hts gX8_rule_X8_ruleOf rfl rfl rfl hd_X8_ruleOf_V ⟨Nat.le_of_ble_eq_true rfl, Nat.le_of_ble_eq_true rfl⟩) ⟨rdP_blind, va_recv hK0.1 hP (ci := 6) (q0 := 0) rfl rfl, my_preP hK0 hS hAB hP⟩ rfl rfl hl.1 rfl (lv_room (Nat.le_of_ble_eq_true rfl)) dX8_rule_40 ⟨Nat.zero_le _, Nat.zero_le _⟩) ?_
      have hP : va_P D vwCl (wModE cy a y0 y1 y2 0 y4 y5 y6 y7 y8 y9 y10 y11 y12 y13) H := hP
      have hD : va_D A (wModE cy a y0 y1 y2 0 y4 y5 y6 y7 y8 y9 y10 y11 y12 y13) := hD
      exact W.iret hx hb hr (fun t ht hW => ⟨⟨(f_X8_ruleOf y7 x0 x1), 0, rfl, (show f_X8_rule y7 x0 x1 = ((f_X8_ruleOf y7 x0 x1), 0) from by rw [f_X8_rule, if_neg c_1, if_neg c_2]), by show va_P D vwCl _ t.heap; rw [ht]; exact hP⟩, hS.F ht⟩) hS.2.2 dX8_rule_43
  · refine lv_iconst (v := 1) hx hb dX8_rule_9 (by decide) ?_
    refine lv_goto (tgt := 27) hx hb dX8_rule_10 (by decide) ?_
    refine mu_alli (wf := fun (u_9 : Int32) => (wModE cy a y0 y1 y2 u_9 y4 y5 y6 y7 y8 y9 y10 y11 y12 y13)) (va_runV (C := RX8) (As := [.int 1]) (rest := []) S (c_X8_throwsAt l D cy g B a y0 y1 y2 y3 y4 y5 y6 y7 y8 y9 y10 y11 y12 y13 1) (cwV 1 hts gX8_rule_X8_throwsAt rfl rfl rfl hd_X8_throwsAt_V ⟨Nat.le_of_ble_eq_true rfl, Nat.le_of_ble_eq_true rfl⟩) ⟨muP_blind, va_recv hK0.1 hP (ci := 6) (q0 := 0) rfl rfl, my_preA hK0 hS hAB hP hD⟩ rfl rfl hl.1 rfl (lv_room (Nat.le_of_ble_eq_true rfl)) dX8_rule_27 ⟨Nat.zero_le _, Nat.zero_le _⟩) hS hD (fun _ => by simp only [List.map_cons, List.map_nil, adrSet, adrSetE, adrPow, adrPowE, adrTxt, adrTxtE, adrSav, adrSavE, adrPCo, adrMod, adrModE]) (fun r_11 u_9 H locs hw_10 hP hD hS => ?_)
    obtain ⟨rfl, rfl⟩ : 1 = r_11 ∧ 1 = u_9 := my_thr_lit (k := 1) (by decide) hw_10
    refine lv_if_eq (tgt := 37) hx hb dX8_rule_30 (by decide) (fun h => absurd h (by decide)) (fun _ => ?_)
    refine lv_iconst (v := 0) hx hb dX8_rule_33 (by decide) ?_
    refine lv_goto (tgt := 43) hx hb dX8_rule_34 (by decide) ?_
    have hP : va_P D vwCl (wModE cy a y0 y1 y2 1 y4 y5 y6 y7 y8 y9 y10 y11 y12 y13) H := hP
    have hD : va_D A (wModE cy a y0 y1 y2 1 y4 y5 y6 y7 y8 y9 y10 y11 y12 y13) := hD
    exact W.iret hx hb hr (fun t ht hW => ⟨⟨0, 1, rfl, (show f_X8_rule y7 x0 x1 = (0, 1) from by rw [f_X8_rule, if_pos c_1]), by show va_P D vwCl _ t.heap; rw [ht]; exact hP⟩, hS.F ht⟩) hS.2.2 dX8_rule_43
theorem hd_X8_whole_S : yX8_whole.cls ≠ "java/lang/invoke/MethodHandle" ∧ yX8_whole.cls ≠ "java/lang/invoke/VarHandle" ∧ (parseMethodDescriptor yX8_whole.desc).map (fun d => d.parameters.length) = some 1 := by decide +kernel
theorem hd_X8_whole_V : yX8_whole.cls = RX8 ∧ yX8_whole.cls ≠ "java/lang/invoke/MethodHandle" ∧ yX8_whole.cls ≠ "java/lang/invoke/VarHandle" ∧ (parseMethodDescriptor yX8_whole.desc).map (fun d => d.parameters.length) = some 1 := ⟨rfl, hd_X8_whole_S⟩
def f_X8_whole (y2 : Int32) (y4 : Int32) (y7 : (Nat → Int32)) (y10 : (Nat → Int32)) (x0 : Int32) : Int32 × (Int32 × Int32 × (Nat → Int32)) := (if (f_X8_in x0 0 11) = 0 then (0, (1, y4, y10)) else (my_l (f_X8_lays y7 y10 (y7 1)) (fun (u_8 : Int32 × (Nat → Int32)) => ((f_X8_wholeOf y2 u_8.1 y7 u_8.2 x0), (0, u_8.1, u_8.2)))))
set_option maxHeartbeats 400000 in
set_option maxRecDepth 100000 in
theorem c_X8_whole (l : Launch) (D : va_G) (cy : Nat → ClassId) (g : Nat → Nat) (B : Nat) (a : Nat → Nat) (y0 : Int32) (y1 : Int32) (y2 : Int32) (y3 : Int32) (y4 : Int32) (y5 : Int32) (y6 : Int32) (y7 : (Nat → Int32)) (y8 : (Nat → Int32)) (y9 : (Nat → Int32)) (y10 : (Nat → Int32)) (y11 : (Nat → Int32)) (y12 : (Nat → Int32)) (y13 : (Nat → Int32)) (x0 : Int32) (hm8 : ¬ 8 < (y7 0)) (hR4 : ¬ 4 < (y7 2)) (hwin : ∀ j : Nat, y10 j = 0 ∨ y10 j = 1) : Met l yX8_whole wsX8_whole ({ frames := 4, cells := 0, slots := 0, locals := 91 }) (muP D cy g B (wModE cy a y0 y1 y2 y3 y4 y5 y6 y7 y8 y9 y10 y11 y12 y13) [.ref (a 0), .int x0]) (va_Qi (fun (r : Int32) (u : Int32 × Int32 × (Nat → Int32)) => f_X8_whole y2 y4 y7 y10 x0 = (r, u)) (fun u t => va_P D vwCl (wModE cy a y0 y1 y2 u.1 u.2.1 y5 y6 y7 y8 y9 u.2.2 y11 y12 y13) t.heap) (muA (wModE cy a y0 y1 y2 y3 y4 y5 y6 y7 y8 y9 y10 y11 y12 y13))) 0 0 (muA (wModE cy a y0 y1 y2 y3 y4 y5 y6 y7 y8 y9 y10 y11 y12 y13)) := by
  refine Met.ofW (cc := cX8_whole) (maxL := 2) (ret := (some .int)) (by decide) rfl ?_
  intro p e s m args below meth c s₁ BB hml hv
  obtain ⟨rfl, hP, hK0, hD0⟩ := hv
  have hx := BB.exec
  have hb := BB.bytes
  have hr := BB.returns
  have hts := atoms_spec (ws := wsX8_whole) BB.pre
  have hown : s.vm.findClass RX8 = some m.cls := findClass_of_methodNamed BB.named
  have hlocks := BB.notSynchronized
  have S := my_fix hx hb hml hown hts
  have inX8 : ∀ w ∈ wsX80, w ∈ wsX8_whole := fun w h => List.mem_cons_of_mem _ (List.mem_append_right _ h)
  have hAB := muB hD0
  have hD := muD hD0
  generalize hAe : muA (wModE cy a y0 y1 y2 y3 y4 y5 y6 y7 y8 y9 y10 y11 y12 y13) = A at hAB hD ⊢
  have hS : va_S A s.heap s.heap [] := va_S.rf
  have hl := lv_entry ([.ref (a 0), .int x0]) (n := 2) (Nat.le_of_ble_eq_true rfl)
  rw [lg_entry_eq]
  generalize (lg_sl ([.ref (a 0), .int x0]) ++ List.replicate (2 - (lg_sl ([.ref (a 0), .int x0])).length) Slot.unset).toArray = ls at hl ⊢
  have hl : lv_has ls 2 [(0, .ref (a 0)), (1, .int x0)] := hl
  refine lv_aload_n hx hb dX8_whole_0 rfl (lv_at hl 0 rfl) ?_
  refine lv_iload_n hx hb dX8_whole_1 rfl (lv_at hl 1 rfl) ?_
  refine lv_iconst (v := 0) hx hb dX8_whole_2 (by decide) ?_
  refine lv_bipush (v := 11) hx hb dX8_whole_3 (by decide) ?_
  refine rd_goi (va_runS (As := [.int x0, .int 0, .int 11]) (rest := [.ref (a 0)]) S (c_X8_in l D cy g B x0 0 11) (va_cwS 3 hts gX8_whole_X8_in rfl rfl rfl hd_X8_in_S ⟨Nat.le_of_ble_eq_true rfl, Nat.le_of_ble_eq_true rfl⟩) ⟨rdP_blind, my_preV hK0 hS hAB hP [] rfl⟩ rfl rfl hl.1 rfl (lv_room (Nat.le_of_ble_eq_true rfl)) dX8_whole_5 ⟨Nat.zero_le _, Nat.zero_le _⟩) ?_
  refine lv_if_eq (tgt := 15) hx hb dX8_whole_8 (by decide) (fun c_1 => ?_) (fun c_1 => ?_)
  · refine lv_iconst (v := 1) hx hb dX8_whole_15 (by decide) ?_
    refine mu_alli (wf := fun (u_2 : Int32) => (wModE cy a y0 y1 y2 u_2 y4 y5 y6 y7 y8 y9 y10 y11 y12 y13)) (va_runV (C := RX8) (As := [.int 1]) (rest := []) S (c_X8_throwsAt l D cy g B a y0 y1 y2 y3 y4 y5 y6 y7 y8 y9 y10 y11 y12 y13 1) (cwV 1 hts gX8_whole_X8_throwsAt rfl rfl rfl hd_X8_throwsAt_V ⟨Nat.le_of_ble_eq_true rfl, Nat.le_of_ble_eq_true rfl⟩) ⟨muP_blind, va_recv hK0.1 hP (ci := 6) (q0 := 0) rfl rfl, my_preA hK0 hS hAB hP hD⟩ rfl rfl hl.1 rfl (lv_room (Nat.le_of_ble_eq_true rfl)) dX8_whole_16 ⟨Nat.zero_le _, Nat.zero_le _⟩) hS hD (fun _ => by simp only [List.map_cons, List.map_nil, adrSet, adrSetE, adrPow, adrPowE, adrTxt, adrTxtE, adrSav, adrSavE, adrPCo, adrMod, adrModE]) (fun r_4 u_2 H locs hw_3 hP hD hS => ?_)
    obtain ⟨rfl, rfl⟩ : 1 = r_4 ∧ 1 = u_2 := my_thr_lit (k := 1) (by decide) hw_3
    refine lv_if_eq (tgt := 24) hx hb dX8_whole_19 (by decide) (fun h => absurd h (by decide)) (fun _ => ?_)
    refine lv_iconst (v := 0) hx hb dX8_whole_22 (by decide) ?_
    have hP : va_P D vwCl (wModE cy a y0 y1 y2 1 y4 y5 y6 y7 y8 y9 y10 y11 y12 y13) H := hP
    have hD : va_D A (wModE cy a y0 y1 y2 1 y4 y5 y6 y7 y8 y9 y10 y11 y12 y13) := hD
    exact W.iret hx hb hr (fun t ht hW => ⟨⟨0, (1, y4, y10), rfl, (show f_X8_whole y2 y4 y7 y10 x0 = (0, (1, y4, y10)) from by rw [f_X8_whole, if_pos c_1]), by show va_P D vwCl _ t.heap; rw [ht]; exact hP⟩, hS.F ht⟩) hS.2.2 dX8_whole_23
  · refine lv_iconst (v := 0) hx hb dX8_whole_11 (by decide) ?_
    refine lv_goto (tgt := 16) hx hb dX8_whole_12 (by decide) ?_
    refine mu_alli (wf := fun (u_5 : Int32) => (wModE cy a y0 y1 y2 u_5 y4 y5 y6 y7 y8 y9 y10 y11 y12 y13)) (va_runV (C := RX8) (As := [.int 0]) (rest := []) S (c_X8_throwsAt l D cy g B a y0 y1 y2 y3 y4 y5 y6 y7 y8 y9 y10 y11 y12 y13 0) (cwV 1 hts gX8_whole_X8_throwsAt rfl rfl rfl hd_X8_throwsAt_V ⟨Nat.le_of_ble_eq_true rfl, Nat.le_of_ble_eq_true rfl⟩) ⟨muP_blind, va_recv hK0.1 hP (ci := 6) (q0 := 0) rfl rfl, my_preA hK0 hS hAB hP hD⟩ rfl rfl hl.1 rfl (lv_room (Nat.le_of_ble_eq_true rfl)) dX8_whole_16 ⟨Nat.zero_le _, Nat.zero_le _⟩) hS hD (fun _ => by simp only [List.map_cons, List.map_nil, adrSet, adrSetE, adrPow, adrPowE, adrTxt, adrTxtE, adrSav, adrSavE, adrPCo, adrMod, adrModE]) (fun r_7 u_5 H locs hw_6 hP hD hS => ?_)
    obtain ⟨rfl, rfl⟩ : 0 = r_7 ∧ 0 = u_5 := my_thr_lit (k := 0) (by decide) hw_6
    refine lv_if_eq (tgt := 24) hx hb dX8_whole_19 (by decide) (fun _ => ?_) (fun h => absurd (by decide) h)
    refine lv_aload_n hx hb dX8_whole_24 rfl (lv_at hl 0 rfl) ?_
    refine lv_aload_n hx hb dX8_whole_25 rfl (lv_at hl 0 rfl) ?_
    refine va_get (D := D) (ci := 6) (v := .ref (a 1)) (C := RX8) (T := TX8) (N := 14) hx hb hts inX8 hown hK0.1 hP 0 rfl rfl 0 (by decide) (hts (.fieldLink RX8 7 "PivotChamberModel" "s" "[I") (List.mem_of_getElem? (i := 1) rfl)) (fun _ h9 => h9) rfl dX8_whole_26 ?_
    refine lv_iconst (v := 1) hx hb dX8_whole_29 (by decide) ?_
    refine va_iald hx hb hK0.1 hP 1 0 rfl rfl (vp_in_nI (n := 1) (N := 27) (by decide) (by decide)) dX8_whole_30 ?_
    refine W.eq (g2 := F0 m 31 ls [.int (y7 1), .ref (a 0)]) rfl ?_
    refine mu_allv (wf := fun (u_8 : Int32 × (Nat → Int32)) => (wModE cy a y0 y1 y2 0 u_8.1 y5 y6 y7 y8 y9 u_8.2 y11 y12 y13)) (va_runV (C := RX8) (As := [.int (y7 1)]) (rest := []) S (c_X8_lays l D cy g B a y0 y1 y2 0 y4 y5 y6 y7 y8 y9 y10 y11 y12 y13 (y7 1) hm8 hR4) (cwV 1 hts gX8_whole_X8_lays rfl rfl rfl hd_X8_lays_V ⟨Nat.le_of_ble_eq_true rfl, Nat.le_of_ble_eq_true rfl⟩) ⟨muP_blind, va_recv hK0.1 hP (ci := 6) (q0 := 0) rfl rfl, my_preA hK0 hS hAB hP hD⟩ rfl rfl hl.1 rfl (lv_room (Nat.le_of_ble_eq_true rfl)) dX8_whole_31 ⟨Nat.zero_le _, Nat.zero_le _⟩) hS hD (fun _ => by simp only [List.map_cons, List.map_nil, adrSet, adrSetE, adrPow, adrPowE, adrTxt, adrTxtE, adrSav, adrSavE, adrPCo, adrMod, adrModE]) (fun u_8 H locs hw_9 hP hD hS => ?_)
    have ha_10 : ¬ u_8.1 < 0 := lays_0 hm8 hw_9
    have ha_11 : ¬ 256 ≤ u_8.1 := lays_256 hm8 hw_9
    have ha_12 : ∀ j : Nat, u_8.2 j = 0 ∨ u_8.2 j = 1 := lays_bool hwin hw_9
    refine lv_aload_n hx hb dX8_whole_34 rfl (lv_at hl 0 rfl) ?_
    refine lv_iload_n hx hb dX8_whole_35 rfl (lv_at hl 1 rfl) ?_
    refine rd_goi (va_runV (C := RX8) (As := [.int x0]) (rest := []) S (c_X8_wholeOf l D cy g B a y0 y1 y2 0 u_8.1 y5 y6 y7 y8 y9 u_8.2 y11 y12 y13 x0 hm8 hR4 ha_12 ha_10 ha_11) (cwV 1 hts gX8_whole_X8_wholeOf rfl rfl rfl hd_X8_wholeOf_V ⟨Nat.le_of_ble_eq_true rfl, Nat.le_of_ble_eq_true rfl⟩) ⟨rdP_blind, va_recv hK0.1 hP (ci := 6) (q0 := 0) rfl rfl, my_preP hK0 hS hAB hP⟩ rfl rfl hl.1 rfl (lv_room (Nat.le_of_ble_eq_true rfl)) dX8_whole_36 ⟨Nat.zero_le _, Nat.zero_le _⟩) ?_
    have hP : va_P D vwCl (wModE cy a y0 y1 y2 0 u_8.1 y5 y6 y7 y8 y9 u_8.2 y11 y12 y13) H := hP
    have hD : va_D A (wModE cy a y0 y1 y2 0 u_8.1 y5 y6 y7 y8 y9 u_8.2 y11 y12 y13) := hD
    exact W.iret hx hb hr (fun t ht hW => ⟨⟨(f_X8_wholeOf y2 u_8.1 y7 u_8.2 x0), (0, u_8.1, u_8.2), rfl, (show f_X8_whole y2 y4 y7 y10 x0 = ((f_X8_wholeOf y2 u_8.1 y7 u_8.2 x0), (0, u_8.1, u_8.2)) from by rw [f_X8_whole, if_neg c_1, hw_9, my_l_eq]), by show va_P D vwCl _ t.heap; rw [ht]; exact hP⟩, hS.F ht⟩) hS.2.2 dX8_whole_39
theorem hd_X8_wins_S : yX8_wins.cls ≠ "java/lang/invoke/MethodHandle" ∧ yX8_wins.cls ≠ "java/lang/invoke/VarHandle" ∧ (parseMethodDescriptor yX8_wins.desc).map (fun d => d.parameters.length) = some 1 := by decide +kernel
theorem hd_X8_wins_V : yX8_wins.cls = RX8 ∧ yX8_wins.cls ≠ "java/lang/invoke/MethodHandle" ∧ yX8_wins.cls ≠ "java/lang/invoke/VarHandle" ∧ (parseMethodDescriptor yX8_wins.desc).map (fun d => d.parameters.length) = some 1 := ⟨rfl, hd_X8_wins_S⟩
def f_X8_wins (y7 : (Nat → Int32)) (x0 : Int32) : Int32 × (Int32) := (if (f_X8_isSet y7 x0) = 0 then (0, 1) else (if (f_X8_why y7 x0 (y7 1)) = 0 then (1, 0) else (0, 0)))
set_option maxHeartbeats 400000 in
set_option maxRecDepth 100000 in
theorem c_X8_wins (l : Launch) (D : va_G) (cy : Nat → ClassId) (g : Nat → Nat) (B : Nat) (a : Nat → Nat) (y0 : Int32) (y1 : Int32) (y2 : Int32) (y3 : Int32) (y4 : Int32) (y5 : Int32) (y6 : Int32) (y7 : (Nat → Int32)) (y8 : (Nat → Int32)) (y9 : (Nat → Int32)) (y10 : (Nat → Int32)) (y11 : (Nat → Int32)) (y12 : (Nat → Int32)) (y13 : (Nat → Int32)) (x0 : Int32) (hm8 : ¬ 8 < (y7 0)) (hR4 : ¬ 4 < (y7 2)) : Met l yX8_wins wsX8_wins ({ frames := 3, cells := 0, slots := 0, locals := 69 }) (muP D cy g B (wModE cy a y0 y1 y2 y3 y4 y5 y6 y7 y8 y9 y10 y11 y12 y13) [.ref (a 0), .int x0]) (va_Qi (fun (r : Int32) (u : Int32) => f_X8_wins y7 x0 = (r, u)) (fun u t => va_P D vwCl (wModE cy a y0 y1 y2 u y4 y5 y6 y7 y8 y9 y10 y11 y12 y13) t.heap) (muA (wModE cy a y0 y1 y2 y3 y4 y5 y6 y7 y8 y9 y10 y11 y12 y13))) 0 0 (muA (wModE cy a y0 y1 y2 y3 y4 y5 y6 y7 y8 y9 y10 y11 y12 y13)) := by
  refine Met.ofW (cc := cX8_wins) (maxL := 2) (ret := (some .int)) (by decide) rfl ?_
  intro p e s m args below meth c s₁ BB hml hv
  obtain ⟨rfl, hP, hK0, hD0⟩ := hv
  have hx := BB.exec
  have hb := BB.bytes
  have hr := BB.returns
  have hts := atoms_spec (ws := wsX8_wins) BB.pre
  have hown : s.vm.findClass RX8 = some m.cls := findClass_of_methodNamed BB.named
  have hlocks := BB.notSynchronized
  have S := my_fix hx hb hml hown hts
  have inX8 : ∀ w ∈ wsX80, w ∈ wsX8_wins := fun w h => List.mem_cons_of_mem _ (List.mem_append_right _ h)
  have hAB := muB hD0
  have hD := muD hD0
  generalize hAe : muA (wModE cy a y0 y1 y2 y3 y4 y5 y6 y7 y8 y9 y10 y11 y12 y13) = A at hAB hD ⊢
  have hS : va_S A s.heap s.heap [] := va_S.rf
  have hl := lv_entry ([.ref (a 0), .int x0]) (n := 2) (Nat.le_of_ble_eq_true rfl)
  rw [lg_entry_eq]
  generalize (lg_sl ([.ref (a 0), .int x0]) ++ List.replicate (2 - (lg_sl ([.ref (a 0), .int x0])).length) Slot.unset).toArray = ls at hl ⊢
  have hl : lv_has ls 2 [(0, .ref (a 0)), (1, .int x0)] := hl
  refine lv_aload_n hx hb dX8_wins_0 rfl (lv_at hl 0 rfl) ?_
  refine lv_aload_n hx hb dX8_wins_1 rfl (lv_at hl 0 rfl) ?_
  refine lv_iload_n hx hb dX8_wins_2 rfl (lv_at hl 1 rfl) ?_
  refine rd_goi (va_runV (C := RX8) (As := [.int x0]) (rest := [.ref (a 0)]) S (c_X8_isSet l D cy g B a y0 y1 y2 y3 y4 y5 y6 y7 y8 y9 y10 y11 y12 y13 x0) (cwV 1 hts gX8_wins_X8_isSet rfl rfl rfl hd_X8_isSet_V ⟨Nat.le_of_ble_eq_true rfl, Nat.le_of_ble_eq_true rfl⟩) ⟨rdP_blind, va_recv hK0.1 hP (ci := 6) (q0 := 0) rfl rfl, my_preP hK0 hS hAB hP⟩ rfl rfl hl.1 rfl (lv_room (Nat.le_of_ble_eq_true rfl)) dX8_wins_3 ⟨Nat.zero_le _, Nat.zero_le _⟩) ?_
  refine lv_if_eq (tgt := 13) hx hb dX8_wins_6 (by decide) (fun c_1 => ?_) (fun c_1 => ?_)
  · refine lv_iconst (v := 1) hx hb dX8_wins_13 (by decide) ?_
    refine mu_alli (wf := fun (u_2 : Int32) => (wModE cy a y0 y1 y2 u_2 y4 y5 y6 y7 y8 y9 y10 y11 y12 y13)) (va_runV (C := RX8) (As := [.int 1]) (rest := []) S (c_X8_throwsAt l D cy g B a y0 y1 y2 y3 y4 y5 y6 y7 y8 y9 y10 y11 y12 y13 1) (cwV 1 hts gX8_wins_X8_throwsAt rfl rfl rfl hd_X8_throwsAt_V ⟨Nat.le_of_ble_eq_true rfl, Nat.le_of_ble_eq_true rfl⟩) ⟨muP_blind, va_recv hK0.1 hP (ci := 6) (q0 := 0) rfl rfl, my_preA hK0 hS hAB hP hD⟩ rfl rfl hl.1 rfl (lv_room (Nat.le_of_ble_eq_true rfl)) dX8_wins_14 ⟨Nat.zero_le _, Nat.zero_le _⟩) hS hD (fun _ => by simp only [List.map_cons, List.map_nil, adrSet, adrSetE, adrPow, adrPowE, adrTxt, adrTxtE, adrSav, adrSavE, adrPCo, adrMod, adrModE]) (fun r_4 u_2 H locs hw_3 hP hD hS => ?_)
    obtain ⟨rfl, rfl⟩ : 1 = r_4 ∧ 1 = u_2 := my_thr_lit (k := 1) (by decide) hw_3
    refine lv_if_eq (tgt := 24) hx hb dX8_wins_17 (by decide) (fun h => absurd h (by decide)) (fun _ => ?_)
    refine lv_iconst (v := 0) hx hb dX8_wins_20 (by decide) ?_
    refine lv_goto (tgt := 43) hx hb dX8_wins_21 (by decide) ?_
    have hP : va_P D vwCl (wModE cy a y0 y1 y2 1 y4 y5 y6 y7 y8 y9 y10 y11 y12 y13) H := hP
    have hD : va_D A (wModE cy a y0 y1 y2 1 y4 y5 y6 y7 y8 y9 y10 y11 y12 y13) := hD
    exact W.iret hx hb hr (fun t ht hW => ⟨⟨0, 1, rfl, (show f_X8_wins y7 x0 = (0, 1) from by rw [f_X8_wins, if_pos c_1]), by show va_P D vwCl _ t.heap; rw [ht]; exact hP⟩, hS.F ht⟩) hS.2.2 dX8_wins_43
  · refine lv_iconst (v := 0) hx hb dX8_wins_9 (by decide) ?_
    refine lv_goto (tgt := 14) hx hb dX8_wins_10 (by decide) ?_
    refine mu_alli (wf := fun (u_5 : Int32) => (wModE cy a y0 y1 y2 u_5 y4 y5 y6 y7 y8 y9 y10 y11 y12 y13)) (va_runV (C := RX8) (As := [.int 0]) (rest := []) S (c_X8_throwsAt l D cy g B a y0 y1 y2 y3 y4 y5 y6 y7 y8 y9 y10 y11 y12 y13 0) (cwV 1 hts gX8_wins_X8_throwsAt rfl rfl rfl hd_X8_throwsAt_V ⟨Nat.le_of_ble_eq_true rfl, Nat.le_of_ble_eq_true rfl⟩) ⟨muP_blind, va_recv hK0.1 hP (ci := 6) (q0 := 0) rfl rfl, my_preA hK0 hS hAB hP hD⟩ rfl rfl hl.1 rfl (lv_room (Nat.le_of_ble_eq_true rfl)) dX8_wins_14 ⟨Nat.zero_le _, Nat.zero_le _⟩) hS hD (fun _ => by simp only [List.map_cons, List.map_nil, adrSet, adrSetE, adrPow, adrPowE, adrTxt, adrTxtE, adrSav, adrSavE, adrPCo, adrMod, adrModE]) (fun r_7 u_5 H locs hw_6 hP hD hS => ?_)
    obtain ⟨rfl, rfl⟩ : 0 = r_7 ∧ 0 = u_5 := my_thr_lit (k := 0) (by decide) hw_6
    refine lv_if_eq (tgt := 24) hx hb dX8_wins_17 (by decide) (fun _ => ?_) (fun h => absurd (by decide) h)
    refine lv_aload_n hx hb dX8_wins_24 rfl (lv_at hl 0 rfl) ?_
    refine lv_iload_n hx hb dX8_wins_25 rfl (lv_at hl 1 rfl) ?_
    refine lv_aload_n hx hb dX8_wins_26 rfl (lv_at hl 0 rfl) ?_
    refine va_get (D := D) (ci := 6) (v := .ref (a 1)) (C := RX8) (T := TX8) (N := 14) hx hb hts inX8 hown hK0.1 hP 0 rfl rfl 0 (by decide) (hts (.fieldLink RX8 7 "PivotChamberModel" "s" "[I") (List.mem_of_getElem? (i := 1) rfl)) (fun _ h9 => h9) rfl dX8_wins_27 ?_
    refine lv_iconst (v := 1) hx hb dX8_wins_30 (by decide) ?_
    refine va_iald hx hb hK0.1 hP 1 0 rfl rfl (vp_in_nI (n := 1) (N := 27) (by decide) (by decide)) dX8_wins_31 ?_
    refine W.eq (g2 := F0 m 32 ls [.int (y7 1), .int x0, .ref (a 0)]) rfl ?_
    refine rd_goi (va_runV (C := RX8) (As := [.int x0, .int (y7 1)]) (rest := []) S (c_X8_why l D cy g B a y0 y1 y2 0 y4 y5 y6 y7 y8 y9 y10 y11 y12 y13 x0 (y7 1) hm8 hR4) (cwV 2 hts gX8_wins_X8_why rfl rfl rfl hd_X8_why_V ⟨Nat.le_of_ble_eq_true rfl, Nat.le_of_ble_eq_true rfl⟩) ⟨rdP_blind, va_recv hK0.1 hP (ci := 6) (q0 := 0) rfl rfl, my_preP hK0 hS hAB hP⟩ rfl rfl hl.1 rfl (lv_room (Nat.le_of_ble_eq_true rfl)) dX8_wins_32 ⟨Nat.zero_le _, Nat.zero_le _⟩) ?_
    refine lv_if_ne (tgt := 42) hx hb dX8_wins_35 (by decide) (fun c_8 => ?_) (fun c_8 => ?_)
    · refine lv_iconst (v := 0) hx hb dX8_wins_42 (by decide) ?_
      have hP : va_P D vwCl (wModE cy a y0 y1 y2 0 y4 y5 y6 y7 y8 y9 y10 y11 y12 y13) H := hP
      have hD : va_D A (wModE cy a y0 y1 y2 0 y4 y5 y6 y7 y8 y9 y10 y11 y12 y13) := hD
      exact W.iret hx hb hr (fun t ht hW => ⟨⟨0, 0, rfl, (show f_X8_wins y7 x0 = (0, 0) from by rw [f_X8_wins, if_neg c_1, if_neg c_8]), by show va_P D vwCl _ t.heap; rw [ht]; exact hP⟩, hS.F ht⟩) hS.2.2 dX8_wins_43
    · refine lv_iconst (v := 1) hx hb dX8_wins_38 (by decide) ?_
      refine lv_goto (tgt := 43) hx hb dX8_wins_39 (by decide) ?_
      have hP : va_P D vwCl (wModE cy a y0 y1 y2 0 y4 y5 y6 y7 y8 y9 y10 y11 y12 y13) H := hP
      have hD : va_D A (wModE cy a y0 y1 y2 0 y4 y5 y6 y7 y8 y9 y10 y11 y12 y13) := hD
      exact W.iret hx hb hr (fun t ht hW => ⟨⟨1, 0, rfl, (show f_X8_wins y7 x0 = (1, 0) from by rw [f_X8_wins, if_neg c_1, if_pos c_8]), by show va_P D vwCl _ t.heap; rw [ht]; exact hP⟩, hS.F ht⟩) hS.2.2 dX8_wins_43
theorem hd_X8_share_S : yX8_share.cls ≠ "java/lang/invoke/MethodHandle" ∧ yX8_share.cls ≠ "java/lang/invoke/VarHandle" ∧ (parseMethodDescriptor yX8_share.desc).map (fun d => d.parameters.length) = some 1 := by decide +kernel
theorem hd_X8_share_V : yX8_share.cls = RX8 ∧ yX8_share.cls ≠ "java/lang/invoke/MethodHandle" ∧ yX8_share.cls ≠ "java/lang/invoke/VarHandle" ∧ (parseMethodDescriptor yX8_share.desc).map (fun d => d.parameters.length) = some 1 := ⟨rfl, hd_X8_share_S⟩
def f_X8_share (y4 : Int32) (y7 : (Nat → Int32)) (y10 : (Nat → Int32)) (x0 : Int32) : UInt32 × (Int32 × Int32 × (Nat → Int32)) := (if (f_X8_isMember y7 x0) = 0 then (FP.fconst0, (1, y4, y10)) else (my_l (f_X8_lays y7 y10 (y7 1)) (fun (u_8 : Int32 × (Nat → Int32)) => ((f_X8_shareOf u_8.2 x0), (0, u_8.1, u_8.2)))))
set_option maxHeartbeats 400000 in
set_option maxRecDepth 100000 in
theorem c_X8_share (l : Launch) (D : va_G) (cy : Nat → ClassId) (g : Nat → Nat) (B : Nat) (a : Nat → Nat) (y0 : Int32) (y1 : Int32) (y2 : Int32) (y3 : Int32) (y4 : Int32) (y5 : Int32) (y6 : Int32) (y7 : (Nat → Int32)) (y8 : (Nat → Int32)) (y9 : (Nat → Int32)) (y10 : (Nat → Int32)) (y11 : (Nat → Int32)) (y12 : (Nat → Int32)) (y13 : (Nat → Int32)) (x0 : Int32) (hm8 : ¬ 8 < (y7 0)) (hR4 : ¬ 4 < (y7 2)) (hwin : ∀ j : Nat, y10 j = 0 ∨ y10 j = 1) : Met l yX8_share wsX8_share ({ frames := 4, cells := 0, slots := 0, locals := 91 }) (muP D cy g B (wModE cy a y0 y1 y2 y3 y4 y5 y6 y7 y8 y9 y10 y11 y12 y13) [.ref (a 0), .int x0]) (va_Qf (fun (r : UInt32) (u : Int32 × Int32 × (Nat → Int32)) => f_X8_share y4 y7 y10 x0 = (r, u)) (fun u t => va_P D vwCl (wModE cy a y0 y1 y2 u.1 u.2.1 y5 y6 y7 y8 y9 u.2.2 y11 y12 y13) t.heap) (muA (wModE cy a y0 y1 y2 y3 y4 y5 y6 y7 y8 y9 y10 y11 y12 y13))) 0 0 (muA (wModE cy a y0 y1 y2 y3 y4 y5 y6 y7 y8 y9 y10 y11 y12 y13)) := by
  refine Met.ofW (cc := cX8_share) (maxL := 2) (ret := (some .float)) (by decide) rfl ?_
  intro p e s m args below meth c s₁ BB hml hv
  obtain ⟨rfl, hP, hK0, hD0⟩ := hv
  have hx := BB.exec
  have hb := BB.bytes
  have hr := BB.returns
  have hts := atoms_spec (ws := wsX8_share) BB.pre
  have hown : s.vm.findClass RX8 = some m.cls := findClass_of_methodNamed BB.named
  have hlocks := BB.notSynchronized
  have S := my_fix hx hb hml hown hts
  have inX8 : ∀ w ∈ wsX80, w ∈ wsX8_share := fun w h => List.mem_cons_of_mem _ (List.mem_append_right _ h)
  have hAB := muB hD0
  have hD := muD hD0
  generalize hAe : muA (wModE cy a y0 y1 y2 y3 y4 y5 y6 y7 y8 y9 y10 y11 y12 y13) = A at hAB hD ⊢
  have hS : va_S A s.heap s.heap [] := va_S.rf
  have hl := lv_entry ([.ref (a 0), .int x0]) (n := 2) (Nat.le_of_ble_eq_true rfl)
  rw [lg_entry_eq]
  generalize (lg_sl ([.ref (a 0), .int x0]) ++ List.replicate (2 - (lg_sl ([.ref (a 0), .int x0])).length) Slot.unset).toArray = ls at hl ⊢
  have hl : lv_has ls 2 [(0, .ref (a 0)), (1, .int x0)] := hl
  refine lv_aload_n hx hb dX8_share_0 rfl (lv_at hl 0 rfl) ?_
  refine lv_aload_n hx hb dX8_share_1 rfl (lv_at hl 0 rfl) ?_
  refine lv_iload_n hx hb dX8_share_2 rfl (lv_at hl 1 rfl) ?_
  refine rd_goi (va_runV (C := RX8) (As := [.int x0]) (rest := [.ref (a 0)]) S (c_X8_isMember l D cy g B a y0 y1 y2 y3 y4 y5 y6 y7 y8 y9 y10 y11 y12 y13 x0) (cwV 1 hts gX8_share_X8_isMember rfl rfl rfl hd_X8_isMember_V ⟨Nat.le_of_ble_eq_true rfl, Nat.le_of_ble_eq_true rfl⟩) ⟨rdP_blind, va_recv hK0.1 hP (ci := 6) (q0 := 0) rfl rfl, my_preP hK0 hS hAB hP⟩ rfl rfl hl.1 rfl (lv_room (Nat.le_of_ble_eq_true rfl)) dX8_share_3 ⟨Nat.zero_le _, Nat.zero_le _⟩) ?_
  refine lv_if_eq (tgt := 13) hx hb dX8_share_6 (by decide) (fun c_1 => ?_) (fun c_1 => ?_)
  · refine lv_iconst (v := 1) hx hb dX8_share_13 (by decide) ?_
    refine mu_alli (wf := fun (u_2 : Int32) => (wModE cy a y0 y1 y2 u_2 y4 y5 y6 y7 y8 y9 y10 y11 y12 y13)) (va_runV (C := RX8) (As := [.int 1]) (rest := []) S (c_X8_throwsAt l D cy g B a y0 y1 y2 y3 y4 y5 y6 y7 y8 y9 y10 y11 y12 y13 1) (cwV 1 hts gX8_share_X8_throwsAt rfl rfl rfl hd_X8_throwsAt_V ⟨Nat.le_of_ble_eq_true rfl, Nat.le_of_ble_eq_true rfl⟩) ⟨muP_blind, va_recv hK0.1 hP (ci := 6) (q0 := 0) rfl rfl, my_preA hK0 hS hAB hP hD⟩ rfl rfl hl.1 rfl (lv_room (Nat.le_of_ble_eq_true rfl)) dX8_share_14 ⟨Nat.zero_le _, Nat.zero_le _⟩) hS hD (fun _ => by simp only [List.map_cons, List.map_nil, adrSet, adrSetE, adrPow, adrPowE, adrTxt, adrTxtE, adrSav, adrSavE, adrPCo, adrMod, adrModE]) (fun r_4 u_2 H locs hw_3 hP hD hS => ?_)
    obtain ⟨rfl, rfl⟩ : 1 = r_4 ∧ 1 = u_2 := my_thr_lit (k := 1) (by decide) hw_3
    refine lv_if_eq (tgt := 22) hx hb dX8_share_17 (by decide) (fun h => absurd h (by decide)) (fun _ => ?_)
    refine lv_fconst0 hx hb dX8_share_20 ?_
    have hP : va_P D vwCl (wModE cy a y0 y1 y2 1 y4 y5 y6 y7 y8 y9 y10 y11 y12 y13) H := hP
    have hD : va_D A (wModE cy a y0 y1 y2 1 y4 y5 y6 y7 y8 y9 y10 y11 y12 y13) := hD
    exact W.fret hx hb hr (fun t ht hW => ⟨⟨FP.fconst0, (1, y4, y10), rfl, (show f_X8_share y4 y7 y10 x0 = (FP.fconst0, (1, y4, y10)) from by rw [f_X8_share, if_pos c_1]), by show va_P D vwCl _ t.heap; rw [ht]; exact hP⟩, hS.F ht⟩) hS.2.2 dX8_share_21
  · refine lv_iconst (v := 0) hx hb dX8_share_9 (by decide) ?_
    refine lv_goto (tgt := 14) hx hb dX8_share_10 (by decide) ?_
    refine mu_alli (wf := fun (u_5 : Int32) => (wModE cy a y0 y1 y2 u_5 y4 y5 y6 y7 y8 y9 y10 y11 y12 y13)) (va_runV (C := RX8) (As := [.int 0]) (rest := []) S (c_X8_throwsAt l D cy g B a y0 y1 y2 y3 y4 y5 y6 y7 y8 y9 y10 y11 y12 y13 0) (cwV 1 hts gX8_share_X8_throwsAt rfl rfl rfl hd_X8_throwsAt_V ⟨Nat.le_of_ble_eq_true rfl, Nat.le_of_ble_eq_true rfl⟩) ⟨muP_blind, va_recv hK0.1 hP (ci := 6) (q0 := 0) rfl rfl, my_preA hK0 hS hAB hP hD⟩ rfl rfl hl.1 rfl (lv_room (Nat.le_of_ble_eq_true rfl)) dX8_share_14 ⟨Nat.zero_le _, Nat.zero_le _⟩) hS hD (fun _ => by simp only [List.map_cons, List.map_nil, adrSet, adrSetE, adrPow, adrPowE, adrTxt, adrTxtE, adrSav, adrSavE, adrPCo, adrMod, adrModE]) (fun r_7 u_5 H locs hw_6 hP hD hS => ?_)
    obtain ⟨rfl, rfl⟩ : 0 = r_7 ∧ 0 = u_5 := my_thr_lit (k := 0) (by decide) hw_6
    refine lv_if_eq (tgt := 22) hx hb dX8_share_17 (by decide) (fun _ => ?_) (fun h => absurd (by decide) h)
    refine lv_aload_n hx hb dX8_share_22 rfl (lv_at hl 0 rfl) ?_
    refine lv_aload_n hx hb dX8_share_23 rfl (lv_at hl 0 rfl) ?_
    refine va_get (D := D) (ci := 6) (v := .ref (a 1)) (C := RX8) (T := TX8) (N := 14) hx hb hts inX8 hown hK0.1 hP 0 rfl rfl 0 (by decide) (hts (.fieldLink RX8 7 "PivotChamberModel" "s" "[I") (List.mem_of_getElem? (i := 1) rfl)) (fun _ h9 => h9) rfl dX8_share_24 ?_
    refine lv_iconst (v := 1) hx hb dX8_share_27 (by decide) ?_
    refine va_iald hx hb hK0.1 hP 1 0 rfl rfl (vp_in_nI (n := 1) (N := 27) (by decide) (by decide)) dX8_share_28 ?_
    refine W.eq (g2 := F0 m 29 ls [.int (y7 1), .ref (a 0)]) rfl ?_
    refine mu_allv (wf := fun (u_8 : Int32 × (Nat → Int32)) => (wModE cy a y0 y1 y2 0 u_8.1 y5 y6 y7 y8 y9 u_8.2 y11 y12 y13)) (va_runV (C := RX8) (As := [.int (y7 1)]) (rest := []) S (c_X8_lays l D cy g B a y0 y1 y2 0 y4 y5 y6 y7 y8 y9 y10 y11 y12 y13 (y7 1) hm8 hR4) (cwV 1 hts gX8_share_X8_lays rfl rfl rfl hd_X8_lays_V ⟨Nat.le_of_ble_eq_true rfl, Nat.le_of_ble_eq_true rfl⟩) ⟨muP_blind, va_recv hK0.1 hP (ci := 6) (q0 := 0) rfl rfl, my_preA hK0 hS hAB hP hD⟩ rfl rfl hl.1 rfl (lv_room (Nat.le_of_ble_eq_true rfl)) dX8_share_29 ⟨Nat.zero_le _, Nat.zero_le _⟩) hS hD (fun _ => by simp only [List.map_cons, List.map_nil, adrSet, adrSetE, adrPow, adrPowE, adrTxt, adrTxtE, adrSav, adrSavE, adrPCo, adrMod, adrModE]) (fun u_8 H locs hw_9 hP hD hS => ?_)
    have ha_10 : ¬ u_8.1 < 0 := lays_0 hm8 hw_9
    have ha_11 : ¬ 256 ≤ u_8.1 := lays_256 hm8 hw_9
    have ha_12 : ∀ j : Nat, u_8.2 j = 0 ∨ u_8.2 j = 1 := lays_bool hwin hw_9
    refine lv_aload_n hx hb dX8_share_32 rfl (lv_at hl 0 rfl) ?_
    refine lv_iload_n hx hb dX8_share_33 rfl (lv_at hl 1 rfl) ?_
    refine rd_gof (va_runV (C := RX8) (As := [.int x0]) (rest := []) S (c_X8_shareOf l D cy g B a y0 y1 y2 0 u_8.1 y5 y6 y7 y8 y9 u_8.2 y11 y12 y13 x0) (cwV 1 hts gX8_share_X8_shareOf rfl rfl rfl hd_X8_shareOf_V ⟨Nat.le_of_ble_eq_true rfl, Nat.le_of_ble_eq_true rfl⟩) ⟨rdP_blind, va_recv hK0.1 hP (ci := 6) (q0 := 0) rfl rfl, my_preP hK0 hS hAB hP⟩ rfl rfl hl.1 rfl (lv_room (Nat.le_of_ble_eq_true rfl)) dX8_share_34 ⟨Nat.zero_le _, Nat.zero_le _⟩) ?_
    have hP : va_P D vwCl (wModE cy a y0 y1 y2 0 u_8.1 y5 y6 y7 y8 y9 u_8.2 y11 y12 y13) H := hP
    have hD : va_D A (wModE cy a y0 y1 y2 0 u_8.1 y5 y6 y7 y8 y9 u_8.2 y11 y12 y13) := hD
    exact W.fret hx hb hr (fun t ht hW => ⟨⟨(f_X8_shareOf u_8.2 x0), (0, u_8.1, u_8.2), rfl, (show f_X8_share y4 y7 y10 x0 = ((f_X8_shareOf u_8.2 x0), (0, u_8.1, u_8.2)) from by rw [f_X8_share, if_neg c_1, hw_9, my_l_eq]), by show va_P D vwCl _ t.heap; rw [ht]; exact hP⟩, hS.F ht⟩) hS.2.2 dX8_share_37
theorem hd_X8_part_S : yX8_part.cls ≠ "java/lang/invoke/MethodHandle" ∧ yX8_part.cls ≠ "java/lang/invoke/VarHandle" ∧ (parseMethodDescriptor yX8_part.desc).map (fun d => d.parameters.length) = some 1 := by decide +kernel
theorem hd_X8_part_V : yX8_part.cls = RX8 ∧ yX8_part.cls ≠ "java/lang/invoke/MethodHandle" ∧ yX8_part.cls ≠ "java/lang/invoke/VarHandle" ∧ (parseMethodDescriptor yX8_part.desc).map (fun d => d.parameters.length) = some 1 := ⟨rfl, hd_X8_part_S⟩
def f_X8_part (y4 : Int32) (y7 : (Nat → Int32)) (y10 : (Nat → Int32)) (x0 : Int32) : UInt64 × (Int32 × Int32 × (Nat → Int32)) := (if (f_X8_isMember y7 x0) = 0 then (FP.dconst0, (1, y4, y10)) else (my_l (f_X8_lays y7 y10 (y7 1)) (fun (u_8 : Int32 × (Nat → Int32)) => ((f_X8_partOf u_8.1 y7 u_8.2 x0), (0, u_8.1, u_8.2)))))
set_option maxHeartbeats 400000 in
set_option maxRecDepth 100000 in
theorem c_X8_part (l : Launch) (D : va_G) (cy : Nat → ClassId) (g : Nat → Nat) (B : Nat) (a : Nat → Nat) (y0 : Int32) (y1 : Int32) (y2 : Int32) (y3 : Int32) (y4 : Int32) (y5 : Int32) (y6 : Int32) (y7 : (Nat → Int32)) (y8 : (Nat → Int32)) (y9 : (Nat → Int32)) (y10 : (Nat → Int32)) (y11 : (Nat → Int32)) (y12 : (Nat → Int32)) (y13 : (Nat → Int32)) (x0 : Int32) (hm8 : ¬ 8 < (y7 0)) (hR4 : ¬ 4 < (y7 2)) (hwin : ∀ j : Nat, y10 j = 0 ∨ y10 j = 1) : Met l yX8_part wsX8_part ({ frames := 4, cells := 0, slots := 0, locals := 91 }) (muP D cy g B (wModE cy a y0 y1 y2 y3 y4 y5 y6 y7 y8 y9 y10 y11 y12 y13) [.ref (a 0), .int x0]) (va_Qd (fun (r : UInt64) (u : Int32 × Int32 × (Nat → Int32)) => f_X8_part y4 y7 y10 x0 = (r, u)) (fun u t => va_P D vwCl (wModE cy a y0 y1 y2 u.1 u.2.1 y5 y6 y7 y8 y9 u.2.2 y11 y12 y13) t.heap) (muA (wModE cy a y0 y1 y2 y3 y4 y5 y6 y7 y8 y9 y10 y11 y12 y13))) 0 0 (muA (wModE cy a y0 y1 y2 y3 y4 y5 y6 y7 y8 y9 y10 y11 y12 y13)) := by
  refine Met.ofW (cc := cX8_part) (maxL := 2) (ret := (some .double)) (by decide) rfl ?_
  intro p e s m args below meth c s₁ BB hml hv
  obtain ⟨rfl, hP, hK0, hD0⟩ := hv
  have hx := BB.exec
  have hb := BB.bytes
  have hr := BB.returns
  have hts := atoms_spec (ws := wsX8_part) BB.pre
  have hown : s.vm.findClass RX8 = some m.cls := findClass_of_methodNamed BB.named
  have hlocks := BB.notSynchronized
  have S := my_fix hx hb hml hown hts
  have inX8 : ∀ w ∈ wsX80, w ∈ wsX8_part := fun w h => List.mem_cons_of_mem _ (List.mem_append_right _ h)
  have hAB := muB hD0
  have hD := muD hD0
  generalize hAe : muA (wModE cy a y0 y1 y2 y3 y4 y5 y6 y7 y8 y9 y10 y11 y12 y13) = A at hAB hD ⊢
  have hS : va_S A s.heap s.heap [] := va_S.rf
  have hl := lv_entry ([.ref (a 0), .int x0]) (n := 2) (Nat.le_of_ble_eq_true rfl)
  rw [lg_entry_eq]
  generalize (lg_sl ([.ref (a 0), .int x0]) ++ List.replicate (2 - (lg_sl ([.ref (a 0), .int x0])).length) Slot.unset).toArray = ls at hl ⊢
  have hl : lv_has ls 2 [(0, .ref (a 0)), (1, .int x0)] := hl
  refine lv_aload_n hx hb dX8_part_0 rfl (lv_at hl 0 rfl) ?_
  refine lv_aload_n hx hb dX8_part_1 rfl (lv_at hl 0 rfl) ?_
  refine lv_iload_n hx hb dX8_part_2 rfl (lv_at hl 1 rfl) ?_
  refine rd_goi (va_runV (C := RX8) (As := [.int x0]) (rest := [.ref (a 0)]) S (c_X8_isMember l D cy g B a y0 y1 y2 y3 y4 y5 y6 y7 y8 y9 y10 y11 y12 y13 x0) (cwV 1 hts gX8_part_X8_isMember rfl rfl rfl hd_X8_isMember_V ⟨Nat.le_of_ble_eq_true rfl, Nat.le_of_ble_eq_true rfl⟩) ⟨rdP_blind, va_recv hK0.1 hP (ci := 6) (q0 := 0) rfl rfl, my_preP hK0 hS hAB hP⟩ rfl rfl hl.1 rfl (lv_room (Nat.le_of_ble_eq_true rfl)) dX8_part_3 ⟨Nat.zero_le _, Nat.zero_le _⟩) ?_
  refine lv_if_eq (tgt := 13) hx hb dX8_part_6 (by decide) (fun c_1 => ?_) (fun c_1 => ?_)
  · refine lv_iconst (v := 1) hx hb dX8_part_13 (by decide) ?_
    refine mu_alli (wf := fun (u_2 : Int32) => (wModE cy a y0 y1 y2 u_2 y4 y5 y6 y7 y8 y9 y10 y11 y12 y13)) (va_runV (C := RX8) (As := [.int 1]) (rest := []) S (c_X8_throwsAt l D cy g B a y0 y1 y2 y3 y4 y5 y6 y7 y8 y9 y10 y11 y12 y13 1) (cwV 1 hts gX8_part_X8_throwsAt rfl rfl rfl hd_X8_throwsAt_V ⟨Nat.le_of_ble_eq_true rfl, Nat.le_of_ble_eq_true rfl⟩) ⟨muP_blind, va_recv hK0.1 hP (ci := 6) (q0 := 0) rfl rfl, my_preA hK0 hS hAB hP hD⟩ rfl rfl hl.1 rfl (lv_room (Nat.le_of_ble_eq_true rfl)) dX8_part_14 ⟨Nat.zero_le _, Nat.zero_le _⟩) hS hD (fun _ => by simp only [List.map_cons, List.map_nil, adrSet, adrSetE, adrPow, adrPowE, adrTxt, adrTxtE, adrSav, adrSavE, adrPCo, adrMod, adrModE]) (fun r_4 u_2 H locs hw_3 hP hD hS => ?_)
    obtain ⟨rfl, rfl⟩ : 1 = r_4 ∧ 1 = u_2 := my_thr_lit (k := 1) (by decide) hw_3
    refine lv_if_eq (tgt := 22) hx hb dX8_part_17 (by decide) (fun h => absurd h (by decide)) (fun _ => ?_)
    refine lv_dconst0 hx hb dX8_part_20 ?_
    have hP : va_P D vwCl (wModE cy a y0 y1 y2 1 y4 y5 y6 y7 y8 y9 y10 y11 y12 y13) H := hP
    have hD : va_D A (wModE cy a y0 y1 y2 1 y4 y5 y6 y7 y8 y9 y10 y11 y12 y13) := hD
    exact W.dret hx hb hr (fun t ht hW => ⟨⟨FP.dconst0, (1, y4, y10), rfl, (show f_X8_part y4 y7 y10 x0 = (FP.dconst0, (1, y4, y10)) from by rw [f_X8_part, if_pos c_1]), by show va_P D vwCl _ t.heap; rw [ht]; exact hP⟩, hS.F ht⟩) hS.2.2 dX8_part_21
  · refine lv_iconst (v := 0) hx hb dX8_part_9 (by decide) ?_
    refine lv_goto (tgt := 14) hx hb dX8_part_10 (by decide) ?_
    refine mu_alli (wf := fun (u_5 : Int32) => (wModE cy a y0 y1 y2 u_5 y4 y5 y6 y7 y8 y9 y10 y11 y12 y13)) (va_runV (C := RX8) (As := [.int 0]) (rest := []) S (c_X8_throwsAt l D cy g B a y0 y1 y2 y3 y4 y5 y6 y7 y8 y9 y10 y11 y12 y13 0) (cwV 1 hts gX8_part_X8_throwsAt rfl rfl rfl hd_X8_throwsAt_V ⟨Nat.le_of_ble_eq_true rfl, Nat.le_of_ble_eq_true rfl⟩) ⟨muP_blind, va_recv hK0.1 hP (ci := 6) (q0 := 0) rfl rfl, my_preA hK0 hS hAB hP hD⟩ rfl rfl hl.1 rfl (lv_room (Nat.le_of_ble_eq_true rfl)) dX8_part_14 ⟨Nat.zero_le _, Nat.zero_le _⟩) hS hD (fun _ => by simp only [List.map_cons, List.map_nil, adrSet, adrSetE, adrPow, adrPowE, adrTxt, adrTxtE, adrSav, adrSavE, adrPCo, adrMod, adrModE]) (fun r_7 u_5 H locs hw_6 hP hD hS => ?_)
    obtain ⟨rfl, rfl⟩ : 0 = r_7 ∧ 0 = u_5 := my_thr_lit (k := 0) (by decide) hw_6
    refine lv_if_eq (tgt := 22) hx hb dX8_part_17 (by decide) (fun _ => ?_) (fun h => absurd (by decide) h)
    refine lv_aload_n hx hb dX8_part_22 rfl (lv_at hl 0 rfl) ?_
    refine lv_aload_n hx hb dX8_part_23 rfl (lv_at hl 0 rfl) ?_
    refine va_get (D := D) (ci := 6) (v := .ref (a 1)) (C := RX8) (T := TX8) (N := 14) hx hb hts inX8 hown hK0.1 hP 0 rfl rfl 0 (by decide) (hts (.fieldLink RX8 7 "PivotChamberModel" "s" "[I") (List.mem_of_getElem? (i := 1) rfl)) (fun _ h9 => h9) rfl dX8_part_24 ?_
    refine lv_iconst (v := 1) hx hb dX8_part_27 (by decide) ?_
    refine va_iald hx hb hK0.1 hP 1 0 rfl rfl (vp_in_nI (n := 1) (N := 27) (by decide) (by decide)) dX8_part_28 ?_
    refine W.eq (g2 := F0 m 29 ls [.int (y7 1), .ref (a 0)]) rfl ?_
    refine mu_allv (wf := fun (u_8 : Int32 × (Nat → Int32)) => (wModE cy a y0 y1 y2 0 u_8.1 y5 y6 y7 y8 y9 u_8.2 y11 y12 y13)) (va_runV (C := RX8) (As := [.int (y7 1)]) (rest := []) S (c_X8_lays l D cy g B a y0 y1 y2 0 y4 y5 y6 y7 y8 y9 y10 y11 y12 y13 (y7 1) hm8 hR4) (cwV 1 hts gX8_part_X8_lays rfl rfl rfl hd_X8_lays_V ⟨Nat.le_of_ble_eq_true rfl, Nat.le_of_ble_eq_true rfl⟩) ⟨muP_blind, va_recv hK0.1 hP (ci := 6) (q0 := 0) rfl rfl, my_preA hK0 hS hAB hP hD⟩ rfl rfl hl.1 rfl (lv_room (Nat.le_of_ble_eq_true rfl)) dX8_part_29 ⟨Nat.zero_le _, Nat.zero_le _⟩) hS hD (fun _ => by simp only [List.map_cons, List.map_nil, adrSet, adrSetE, adrPow, adrPowE, adrTxt, adrTxtE, adrSav, adrSavE, adrPCo, adrMod, adrModE]) (fun u_8 H locs hw_9 hP hD hS => ?_)
    have ha_10 : ¬ u_8.1 < 0 := lays_0 hm8 hw_9
    have ha_11 : ¬ 256 ≤ u_8.1 := lays_256 hm8 hw_9
    have ha_12 : ∀ j : Nat, u_8.2 j = 0 ∨ u_8.2 j = 1 := lays_bool hwin hw_9
    refine lv_aload_n hx hb dX8_part_32 rfl (lv_at hl 0 rfl) ?_
    refine lv_iload_n hx hb dX8_part_33 rfl (lv_at hl 1 rfl) ?_
    refine rd_god (va_runV (C := RX8) (As := [.int x0]) (rest := []) S (c_X8_partOf l D cy g B a y0 y1 y2 0 u_8.1 y5 y6 y7 y8 y9 u_8.2 y11 y12 y13 x0 hm8) (cwV 1 hts gX8_part_X8_partOf rfl rfl rfl hd_X8_partOf_V ⟨Nat.le_of_ble_eq_true rfl, Nat.le_of_ble_eq_true rfl⟩) ⟨rdP_blind, va_recv hK0.1 hP (ci := 6) (q0 := 0) rfl rfl, my_preP hK0 hS hAB hP⟩ rfl rfl hl.1 rfl (lv_room (Nat.le_of_ble_eq_true rfl)) dX8_part_34 ⟨Nat.zero_le _, Nat.zero_le _⟩) ?_
    have hP : va_P D vwCl (wModE cy a y0 y1 y2 0 u_8.1 y5 y6 y7 y8 y9 u_8.2 y11 y12 y13) H := hP
    have hD : va_D A (wModE cy a y0 y1 y2 0 u_8.1 y5 y6 y7 y8 y9 u_8.2 y11 y12 y13) := hD
    exact W.dret hx hb hr (fun t ht hW => ⟨⟨(f_X8_partOf u_8.1 y7 u_8.2 x0), (0, u_8.1, u_8.2), rfl, (show f_X8_part y4 y7 y10 x0 = ((f_X8_partOf u_8.1 y7 u_8.2 x0), (0, u_8.1, u_8.2)) from by rw [f_X8_part, if_neg c_1, hw_9, my_l_eq]), by show va_P D vwCl _ t.heap; rw [ht]; exact hP⟩, hS.F ht⟩) hS.2.2 dX8_part_37
theorem hd_X8_reason_S : yX8_reason.cls ≠ "java/lang/invoke/MethodHandle" ∧ yX8_reason.cls ≠ "java/lang/invoke/VarHandle" ∧ (parseMethodDescriptor yX8_reason.desc).map (fun d => d.parameters.length) = some 1 := by decide +kernel
theorem hd_X8_reason_V : yX8_reason.cls = RX8 ∧ yX8_reason.cls ≠ "java/lang/invoke/MethodHandle" ∧ yX8_reason.cls ≠ "java/lang/invoke/VarHandle" ∧ (parseMethodDescriptor yX8_reason.desc).map (fun d => d.parameters.length) = some 1 := ⟨rfl, hd_X8_reason_S⟩
def f_X8_reason (y7 : (Nat → Int32)) (x0 : Int32) : Int32 × (Int32) := (if (f_X8_isSet y7 x0) = 0 then (0, 1) else ((f_X8_why y7 x0 (y7 1)), 0))
set_option maxHeartbeats 400000 in
set_option maxRecDepth 100000 in
theorem c_X8_reason (l : Launch) (D : va_G) (cy : Nat → ClassId) (g : Nat → Nat) (B : Nat) (a : Nat → Nat) (y0 : Int32) (y1 : Int32) (y2 : Int32) (y3 : Int32) (y4 : Int32) (y5 : Int32) (y6 : Int32) (y7 : (Nat → Int32)) (y8 : (Nat → Int32)) (y9 : (Nat → Int32)) (y10 : (Nat → Int32)) (y11 : (Nat → Int32)) (y12 : (Nat → Int32)) (y13 : (Nat → Int32)) (x0 : Int32) (hm8 : ¬ 8 < (y7 0)) (hR4 : ¬ 4 < (y7 2)) : Met l yX8_reason wsX8_reason ({ frames := 3, cells := 0, slots := 0, locals := 69 }) (muP D cy g B (wModE cy a y0 y1 y2 y3 y4 y5 y6 y7 y8 y9 y10 y11 y12 y13) [.ref (a 0), .int x0]) (va_Qi (fun (r : Int32) (u : Int32) => f_X8_reason y7 x0 = (r, u)) (fun u t => va_P D vwCl (wModE cy a y0 y1 y2 u y4 y5 y6 y7 y8 y9 y10 y11 y12 y13) t.heap) (muA (wModE cy a y0 y1 y2 y3 y4 y5 y6 y7 y8 y9 y10 y11 y12 y13))) 0 0 (muA (wModE cy a y0 y1 y2 y3 y4 y5 y6 y7 y8 y9 y10 y11 y12 y13)) := by
  refine Met.ofW (cc := cX8_reason) (maxL := 2) (ret := (some .int)) (by decide) rfl ?_
  intro p e s m args below meth c s₁ BB hml hv
  obtain ⟨rfl, hP, hK0, hD0⟩ := hv
  have hx := BB.exec
  have hb := BB.bytes
  have hr := BB.returns
  have hts := atoms_spec (ws := wsX8_reason) BB.pre
  have hown : s.vm.findClass RX8 = some m.cls := findClass_of_methodNamed BB.named
  have hlocks := BB.notSynchronized
  have S := my_fix hx hb hml hown hts
  have inX8 : ∀ w ∈ wsX80, w ∈ wsX8_reason := fun w h => List.mem_cons_of_mem _ (List.mem_append_right _ h)
  have hAB := muB hD0
  have hD := muD hD0
  generalize hAe : muA (wModE cy a y0 y1 y2 y3 y4 y5 y6 y7 y8 y9 y10 y11 y12 y13) = A at hAB hD ⊢
  have hS : va_S A s.heap s.heap [] := va_S.rf
  have hl := lv_entry ([.ref (a 0), .int x0]) (n := 2) (Nat.le_of_ble_eq_true rfl)
  rw [lg_entry_eq]
  generalize (lg_sl ([.ref (a 0), .int x0]) ++ List.replicate (2 - (lg_sl ([.ref (a 0), .int x0])).length) Slot.unset).toArray = ls at hl ⊢
  have hl : lv_has ls 2 [(0, .ref (a 0)), (1, .int x0)] := hl
  refine lv_aload_n hx hb dX8_reason_0 rfl (lv_at hl 0 rfl) ?_
  refine lv_aload_n hx hb dX8_reason_1 rfl (lv_at hl 0 rfl) ?_
  refine lv_iload_n hx hb dX8_reason_2 rfl (lv_at hl 1 rfl) ?_
  refine rd_goi (va_runV (C := RX8) (As := [.int x0]) (rest := [.ref (a 0)]) S (c_X8_isSet l D cy g B a y0 y1 y2 y3 y4 y5 y6 y7 y8 y9 y10 y11 y12 y13 x0) (cwV 1 hts gX8_reason_X8_isSet rfl rfl rfl hd_X8_isSet_V ⟨Nat.le_of_ble_eq_true rfl, Nat.le_of_ble_eq_true rfl⟩) ⟨rdP_blind, va_recv hK0.1 hP (ci := 6) (q0 := 0) rfl rfl, my_preP hK0 hS hAB hP⟩ rfl rfl hl.1 rfl (lv_room (Nat.le_of_ble_eq_true rfl)) dX8_reason_3 ⟨Nat.zero_le _, Nat.zero_le _⟩) ?_
  refine lv_if_eq (tgt := 13) hx hb dX8_reason_6 (by decide) (fun c_1 => ?_) (fun c_1 => ?_)
  · refine lv_iconst (v := 1) hx hb dX8_reason_13 (by decide) ?_
    refine mu_alli (wf := fun (u_2 : Int32) => (wModE cy a y0 y1 y2 u_2 y4 y5 y6 y7 y8 y9 y10 y11 y12 y13)) (va_runV (C := RX8) (As := [.int 1]) (rest := []) S (c_X8_throwsAt l D cy g B a y0 y1 y2 y3 y4 y5 y6 y7 y8 y9 y10 y11 y12 y13 1) (cwV 1 hts gX8_reason_X8_throwsAt rfl rfl rfl hd_X8_throwsAt_V ⟨Nat.le_of_ble_eq_true rfl, Nat.le_of_ble_eq_true rfl⟩) ⟨muP_blind, va_recv hK0.1 hP (ci := 6) (q0 := 0) rfl rfl, my_preA hK0 hS hAB hP hD⟩ rfl rfl hl.1 rfl (lv_room (Nat.le_of_ble_eq_true rfl)) dX8_reason_14 ⟨Nat.zero_le _, Nat.zero_le _⟩) hS hD (fun _ => by simp only [List.map_cons, List.map_nil, adrSet, adrSetE, adrPow, adrPowE, adrTxt, adrTxtE, adrSav, adrSavE, adrPCo, adrMod, adrModE]) (fun r_4 u_2 H locs hw_3 hP hD hS => ?_)
    obtain ⟨rfl, rfl⟩ : 1 = r_4 ∧ 1 = u_2 := my_thr_lit (k := 1) (by decide) hw_3
    refine lv_if_eq (tgt := 24) hx hb dX8_reason_17 (by decide) (fun h => absurd h (by decide)) (fun _ => ?_)
    refine lv_iconst (v := 0) hx hb dX8_reason_20 (by decide) ?_
    refine lv_goto (tgt := 35) hx hb dX8_reason_21 (by decide) ?_
    have hP : va_P D vwCl (wModE cy a y0 y1 y2 1 y4 y5 y6 y7 y8 y9 y10 y11 y12 y13) H := hP
    have hD : va_D A (wModE cy a y0 y1 y2 1 y4 y5 y6 y7 y8 y9 y10 y11 y12 y13) := hD
    exact W.iret hx hb hr (fun t ht hW => ⟨⟨0, 1, rfl, (show f_X8_reason y7 x0 = (0, 1) from by rw [f_X8_reason, if_pos c_1]), by show va_P D vwCl _ t.heap; rw [ht]; exact hP⟩, hS.F ht⟩) hS.2.2 dX8_reason_35
  · refine lv_iconst (v := 0) hx hb dX8_reason_9 (by decide) ?_
    refine lv_goto (tgt := 14) hx hb dX8_reason_10 (by decide) ?_
    refine mu_alli (wf := fun (u_5 : Int32) => (wModE cy a y0 y1 y2 u_5 y4 y5 y6 y7 y8 y9 y10 y11 y12 y13)) (va_runV (C := RX8) (As := [.int 0]) (rest := []) S (c_X8_throwsAt l D cy g B a y0 y1 y2 y3 y4 y5 y6 y7 y8 y9 y10 y11 y12 y13 0) (cwV 1 hts gX8_reason_X8_throwsAt rfl rfl rfl hd_X8_throwsAt_V ⟨Nat.le_of_ble_eq_true rfl, Nat.le_of_ble_eq_true rfl⟩) ⟨muP_blind, va_recv hK0.1 hP (ci := 6) (q0 := 0) rfl rfl, my_preA hK0 hS hAB hP hD⟩ rfl rfl hl.1 rfl (lv_room (Nat.le_of_ble_eq_true rfl)) dX8_reason_14 ⟨Nat.zero_le _, Nat.zero_le _⟩) hS hD (fun _ => by simp only [List.map_cons, List.map_nil, adrSet, adrSetE, adrPow, adrPowE, adrTxt, adrTxtE, adrSav, adrSavE, adrPCo, adrMod, adrModE]) (fun r_7 u_5 H locs hw_6 hP hD hS => ?_)
    obtain ⟨rfl, rfl⟩ : 0 = r_7 ∧ 0 = u_5 := my_thr_lit (k := 0) (by decide) hw_6
    refine lv_if_eq (tgt := 24) hx hb dX8_reason_17 (by decide) (fun _ => ?_) (fun h => absurd (by decide) h)
    refine lv_aload_n hx hb dX8_reason_24 rfl (lv_at hl 0 rfl) ?_
    refine lv_iload_n hx hb dX8_reason_25 rfl (lv_at hl 1 rfl) ?_
    refine lv_aload_n hx hb dX8_reason_26 rfl (lv_at hl 0 rfl) ?_
    refine va_get (D := D) (ci := 6) (v := .ref (a 1)) (C := RX8) (T := TX8) (N := 14) hx hb hts inX8 hown hK0.1 hP 0 rfl rfl 0 (by decide) (hts (.fieldLink RX8 7 "PivotChamberModel" "s" "[I") (List.mem_of_getElem? (i := 1) rfl)) (fun _ h9 => h9) rfl dX8_reason_27 ?_
    refine lv_iconst (v := 1) hx hb dX8_reason_30 (by decide) ?_
    refine va_iald hx hb hK0.1 hP 1 0 rfl rfl (vp_in_nI (n := 1) (N := 27) (by decide) (by decide)) dX8_reason_31 ?_
    refine W.eq (g2 := F0 m 32 ls [.int (y7 1), .int x0, .ref (a 0)]) rfl ?_
    refine rd_goi (va_runV (C := RX8) (As := [.int x0, .int (y7 1)]) (rest := []) S (c_X8_why l D cy g B a y0 y1 y2 0 y4 y5 y6 y7 y8 y9 y10 y11 y12 y13 x0 (y7 1) hm8 hR4) (cwV 2 hts gX8_reason_X8_why rfl rfl rfl hd_X8_why_V ⟨Nat.le_of_ble_eq_true rfl, Nat.le_of_ble_eq_true rfl⟩) ⟨rdP_blind, va_recv hK0.1 hP (ci := 6) (q0 := 0) rfl rfl, my_preP hK0 hS hAB hP⟩ rfl rfl hl.1 rfl (lv_room (Nat.le_of_ble_eq_true rfl)) dX8_reason_32 ⟨Nat.zero_le _, Nat.zero_le _⟩) ?_
    have hP : va_P D vwCl (wModE cy a y0 y1 y2 0 y4 y5 y6 y7 y8 y9 y10 y11 y12 y13) H := hP
    have hD : va_D A (wModE cy a y0 y1 y2 0 y4 y5 y6 y7 y8 y9 y10 y11 y12 y13) := hD
    exact W.iret hx hb hr (fun t ht hW => ⟨⟨(f_X8_why y7 x0 (y7 1)), 0, rfl, (show f_X8_reason y7 x0 = ((f_X8_why y7 x0 (y7 1)), 0) from by rw [f_X8_reason, if_neg c_1]), by show va_P D vwCl _ t.heap; rw [ht]; exact hP⟩, hS.F ht⟩) hS.2.2 dX8_reason_35
theorem hd_X8_swingsWith_S : yX8_swingsWith.cls ≠ "java/lang/invoke/MethodHandle" ∧ yX8_swingsWith.cls ≠ "java/lang/invoke/VarHandle" ∧ (parseMethodDescriptor yX8_swingsWith.desc).map (fun d => d.parameters.length) = some 2 := by decide +kernel
theorem hd_X8_swingsWith_V : yX8_swingsWith.cls = RX8 ∧ yX8_swingsWith.cls ≠ "java/lang/invoke/MethodHandle" ∧ yX8_swingsWith.cls ≠ "java/lang/invoke/VarHandle" ∧ (parseMethodDescriptor yX8_swingsWith.desc).map (fun d => d.parameters.length) = some 2 := ⟨rfl, hd_X8_swingsWith_S⟩
def f_X8_swingsWith (y4 : Int32) (y7 : (Nat → Int32)) (y10 : (Nat → Int32)) (x0 : Int32) (x1 : Int32) : Int32 × (Int32 × Int32 × (Nat → Int32)) := (if (f_X8_isMember y7 x0) = 0 then (0, (1, y4, y10)) else (if (f_X8_in x1 1 400) = 0 then (0, (2, y4, y10)) else (my_l (f_X8_lays y7 y10 x1) (fun (u_9 : Int32 × (Nat → Int32)) => ((f_X8_swings u_9.2 x0), (0, u_9.1, u_9.2))))))
set_option maxHeartbeats 400000 in
set_option maxRecDepth 100000 in
theorem c_X8_swingsWith (l : Launch) (D : va_G) (cy : Nat → ClassId) (g : Nat → Nat) (B : Nat) (a : Nat → Nat) (y0 : Int32) (y1 : Int32) (y2 : Int32) (y3 : Int32) (y4 : Int32) (y5 : Int32) (y6 : Int32) (y7 : (Nat → Int32)) (y8 : (Nat → Int32)) (y9 : (Nat → Int32)) (y10 : (Nat → Int32)) (y11 : (Nat → Int32)) (y12 : (Nat → Int32)) (y13 : (Nat → Int32)) (x0 : Int32) (x1 : Int32) (hm8 : ¬ 8 < (y7 0)) (hR4 : ¬ 4 < (y7 2)) : Met l yX8_swingsWith wsX8_swingsWith ({ frames := 4, cells := 0, slots := 0, locals := 91 }) (muP D cy g B (wModE cy a y0 y1 y2 y3 y4 y5 y6 y7 y8 y9 y10 y11 y12 y13) [.ref (a 0), .int x0, .int x1]) (va_Qi (fun (r : Int32) (u : Int32 × Int32 × (Nat → Int32)) => f_X8_swingsWith y4 y7 y10 x0 x1 = (r, u)) (fun u t => va_P D vwCl (wModE cy a y0 y1 y2 u.1 u.2.1 y5 y6 y7 y8 y9 u.2.2 y11 y12 y13) t.heap) (muA (wModE cy a y0 y1 y2 y3 y4 y5 y6 y7 y8 y9 y10 y11 y12 y13))) 0 0 (muA (wModE cy a y0 y1 y2 y3 y4 y5 y6 y7 y8 y9 y10 y11 y12 y13)) := by
  refine Met.ofW (cc := cX8_swingsWith) (maxL := 3) (ret := (some .int)) (by decide) rfl ?_
  intro p e s m args below meth c s₁ BB hml hv
  obtain ⟨rfl, hP, hK0, hD0⟩ := hv
  have hx := BB.exec
  have hb := BB.bytes
  have hr := BB.returns
  have hts := atoms_spec (ws := wsX8_swingsWith) BB.pre
  have hown : s.vm.findClass RX8 = some m.cls := findClass_of_methodNamed BB.named
  have hlocks := BB.notSynchronized
  have S := my_fix hx hb hml hown hts
  have hAB := muB hD0
  have hD := muD hD0
  generalize hAe : muA (wModE cy a y0 y1 y2 y3 y4 y5 y6 y7 y8 y9 y10 y11 y12 y13) = A at hAB hD ⊢
  have hS : va_S A s.heap s.heap [] := va_S.rf
  have hl := lv_entry ([.ref (a 0), .int x0, .int x1]) (n := 3) (Nat.le_of_ble_eq_true rfl)
  rw [lg_entry_eq]
  generalize (lg_sl ([.ref (a 0), .int x0, .int x1]) ++ List.replicate (3 - (lg_sl ([.ref (a 0), .int x0, .int x1])).length) Slot.unset).toArray = ls at hl ⊢
  have hl : lv_has ls 3 [(0, .ref (a 0)), (1, .int x0), (2, .int x1)] := hl
  refine lv_aload_n hx hb dX8_swingsWith_0 rfl (lv_at hl 0 rfl) ?_
  refine lv_aload_n hx hb dX8_swingsWith_1 rfl (lv_at hl 0 rfl) ?_
  refine lv_iload_n hx hb dX8_swingsWith_2 rfl (lv_at hl 1 rfl) ?_
  refine rd_goi (va_runV (C := RX8) (As := [.int x0]) (rest := [.ref (a 0)]) S (c_X8_isMember l D cy g B a y0 y1 y2 y3 y4 y5 y6 y7 y8 y9 y10 y11 y12 y13 x0) (cwV 1 hts gX8_swingsWith_X8_isMember rfl rfl rfl hd_X8_isMember_V ⟨Nat.le_of_ble_eq_true rfl, Nat.le_of_ble_eq_true rfl⟩) ⟨rdP_blind, va_recv hK0.1 hP (ci := 6) (q0 := 0) rfl rfl, my_preP hK0 hS hAB hP⟩ rfl rfl hl.1 rfl (lv_room (Nat.le_of_ble_eq_true rfl)) dX8_swingsWith_3 ⟨Nat.zero_le _, Nat.zero_le _⟩) ?_
  refine lv_if_ne (tgt := 13) hx hb dX8_swingsWith_6 (by decide) (fun c_1 => ?_) (fun c_1 => ?_)
  · refine lv_iload_n hx hb dX8_swingsWith_13 rfl (lv_at hl 2 rfl) ?_
    refine lv_iconst (v := 1) hx hb dX8_swingsWith_14 (by decide) ?_
    refine lv_sipush (v := 400) hx hb dX8_swingsWith_15 (by decide) ?_
    refine rd_goi (va_runS (As := [.int x1, .int 1, .int 400]) (rest := [.ref (a 0)]) S (c_X8_in l D cy g B x1 1 400) (va_cwS 3 hts gX8_swingsWith_X8_in rfl rfl rfl hd_X8_in_S ⟨Nat.le_of_ble_eq_true rfl, Nat.le_of_ble_eq_true rfl⟩) ⟨rdP_blind, my_preV hK0 hS hAB hP [] rfl⟩ rfl rfl hl.1 rfl (lv_room (Nat.le_of_ble_eq_true rfl)) dX8_swingsWith_18 ⟨Nat.zero_le _, Nat.zero_le _⟩) ?_
    refine lv_if_eq (tgt := 28) hx hb dX8_swingsWith_21 (by decide) (fun c_2 => ?_) (fun c_2 => ?_)
    · refine lv_iconst (v := 2) hx hb dX8_swingsWith_28 (by decide) ?_
      refine mu_alli (wf := fun (u_3 : Int32) => (wModE cy a y0 y1 y2 u_3 y4 y5 y6 y7 y8 y9 y10 y11 y12 y13)) (va_runV (C := RX8) (As := [.int 2]) (rest := []) S (c_X8_throwsAt l D cy g B a y0 y1 y2 y3 y4 y5 y6 y7 y8 y9 y10 y11 y12 y13 2) (cwV 1 hts gX8_swingsWith_X8_throwsAt rfl rfl rfl hd_X8_throwsAt_V ⟨Nat.le_of_ble_eq_true rfl, Nat.le_of_ble_eq_true rfl⟩) ⟨muP_blind, va_recv hK0.1 hP (ci := 6) (q0 := 0) rfl rfl, my_preA hK0 hS hAB hP hD⟩ rfl rfl hl.1 rfl (lv_room (Nat.le_of_ble_eq_true rfl)) dX8_swingsWith_29 ⟨Nat.zero_le _, Nat.zero_le _⟩) hS hD (fun _ => by simp only [List.map_cons, List.map_nil, adrSet, adrSetE, adrPow, adrPowE, adrTxt, adrTxtE, adrSav, adrSavE, adrPCo, adrMod, adrModE]) (fun r_5 u_3 H locs hw_4 hP hD hS => ?_)
      obtain ⟨rfl, rfl⟩ : 1 = r_5 ∧ 2 = u_3 := my_thr_lit (k := 2) (by decide) hw_4
      refine lv_if_eq (tgt := 37) hx hb dX8_swingsWith_32 (by decide) (fun h => absurd h (by decide)) (fun _ => ?_)
      refine lv_iconst (v := 0) hx hb dX8_swingsWith_35 (by decide) ?_
      have hP : va_P D vwCl (wModE cy a y0 y1 y2 2 y4 y5 y6 y7 y8 y9 y10 y11 y12 y13) H := hP
      have hD : va_D A (wModE cy a y0 y1 y2 2 y4 y5 y6 y7 y8 y9 y10 y11 y12 y13) := hD
      exact W.iret hx hb hr (fun t ht hW => ⟨⟨0, (2, y4, y10), rfl, (show f_X8_swingsWith y4 y7 y10 x0 x1 = (0, (2, y4, y10)) from by rw [f_X8_swingsWith, if_neg c_1, if_pos c_2]), by show va_P D vwCl _ t.heap; rw [ht]; exact hP⟩, hS.F ht⟩) hS.2.2 dX8_swingsWith_36
    · refine lv_iconst (v := 0) hx hb dX8_swingsWith_24 (by decide) ?_
      refine lv_goto (tgt := 29) hx hb dX8_swingsWith_25 (by decide) ?_
      refine mu_alli (wf := fun (u_6 : Int32) => (wModE cy a y0 y1 y2 u_6 y4 y5 y6 y7 y8 y9 y10 y11 y12 y13)) (va_runV (C := RX8) (As := [.int 0]) (rest := []) S (c_X8_throwsAt l D cy g B a y0 y1 y2 y3 y4 y5 y6 y7 y8 y9 y10 y11 y12 y13 0) (cwV 1 hts gX8_swingsWith_X8_throwsAt rfl rfl rfl hd_X8_throwsAt_V ⟨Nat.le_of_ble_eq_true rfl, Nat.le_of_ble_eq_true rfl⟩) ⟨muP_blind, va_recv hK0.1 hP (ci := 6) (q0 := 0) rfl rfl, my_preA hK0 hS hAB hP hD⟩ rfl rfl hl.1 rfl (lv_room (Nat.le_of_ble_eq_true rfl)) dX8_swingsWith_29 ⟨Nat.zero_le _, Nat.zero_le _⟩) hS hD (fun _ => by simp only [List.map_cons, List.map_nil, adrSet, adrSetE, adrPow, adrPowE, adrTxt, adrTxtE, adrSav, adrSavE, adrPCo, adrMod, adrModE]) (fun r_8 u_6 H locs hw_7 hP hD hS => ?_)
      obtain ⟨rfl, rfl⟩ : 0 = r_8 ∧ 0 = u_6 := my_thr_lit (k := 0) (by decide) hw_7
      refine lv_if_eq (tgt := 37) hx hb dX8_swingsWith_32 (by decide) (fun _ => ?_) (fun h => absurd (by decide) h)
      refine lv_aload_n hx hb dX8_swingsWith_37 rfl (lv_at hl 0 rfl) ?_
      refine lv_iload_n hx hb dX8_swingsWith_38 rfl (lv_at hl 2 rfl) ?_
      refine mu_allv (wf := fun (u_9 : Int32 × (Nat → Int32)) => (wModE cy a y0 y1 y2 0 u_9.1 y5 y6 y7 y8 y9 u_9.2 y11 y12 y13)) (va_runV (C := RX8) (As := [.int x1]) (rest := []) S (c_X8_lays l D cy g B a y0 y1 y2 0 y4 y5 y6 y7 y8 y9 y10 y11 y12 y13 x1 hm8 hR4) (cwV 1 hts gX8_swingsWith_X8_lays rfl rfl rfl hd_X8_lays_V ⟨Nat.le_of_ble_eq_true rfl, Nat.le_of_ble_eq_true rfl⟩) ⟨muP_blind, va_recv hK0.1 hP (ci := 6) (q0 := 0) rfl rfl, my_preA hK0 hS hAB hP hD⟩ rfl rfl hl.1 rfl (lv_room (Nat.le_of_ble_eq_true rfl)) dX8_swingsWith_39 ⟨Nat.zero_le _, Nat.zero_le _⟩) hS hD (fun _ => by simp only [List.map_cons, List.map_nil, adrSet, adrSetE, adrPow, adrPowE, adrTxt, adrTxtE, adrSav, adrSavE, adrPCo, adrMod, adrModE]) (fun u_9 H locs hw_10 hP hD hS => ?_)
      have ha_11 : ¬ u_9.1 < 0 := lays_0 hm8 hw_10
      have ha_12 : ¬ 256 ≤ u_9.1 := lays_256 hm8 hw_10
      refine lv_aload_n hx hb dX8_swingsWith_42 rfl (lv_at hl 0 rfl) ?_
      refine lv_iload_n hx hb dX8_swingsWith_43 rfl (lv_at hl 1 rfl) ?_
      refine rd_goi (va_runV (C := RX8) (As := [.int x0]) (rest := []) S (c_X8_swings l D cy g B a y0 y1 y2 0 u_9.1 y5 y6 y7 y8 y9 u_9.2 y11 y12 y13 x0) (cwV 1 hts gX8_swingsWith_X8_swings rfl rfl rfl hd_X8_swings_V ⟨Nat.le_of_ble_eq_true rfl, Nat.le_of_ble_eq_true rfl⟩) ⟨rdP_blind, va_recv hK0.1 hP (ci := 6) (q0 := 0) rfl rfl, my_preP hK0 hS hAB hP⟩ rfl rfl hl.1 rfl (lv_room (Nat.le_of_ble_eq_true rfl)) dX8_swingsWith_44 ⟨Nat.zero_le _, Nat.zero_le _⟩) ?_
      have hP : va_P D vwCl (wModE cy a y0 y1 y2 0 u_9.1 y5 y6 y7 y8 y9 u_9.2 y11 y12 y13) H := hP
      have hD : va_D A (wModE cy a y0 y1 y2 0 u_9.1 y5 y6 y7 y8 y9 u_9.2 y11 y12 y13) := hD
      exact W.iret hx hb hr (fun t ht hW => ⟨⟨(f_X8_swings u_9.2 x0), (0, u_9.1, u_9.2), rfl, (show f_X8_swingsWith y4 y7 y10 x0 x1 = ((f_X8_swings u_9.2 x0), (0, u_9.1, u_9.2)) from by rw [f_X8_swingsWith, if_neg c_1, if_neg c_2, hw_10, my_l_eq]), by show va_P D vwCl _ t.heap; rw [ht]; exact hP⟩, hS.F ht⟩) hS.2.2 dX8_swingsWith_47
  · refine lv_iconst (v := 1) hx hb dX8_swingsWith_9 (by decide) ?_
    refine lv_goto (tgt := 29) hx hb dX8_swingsWith_10 (by decide) ?_
    refine mu_alli (wf := fun (u_13 : Int32) => (wModE cy a y0 y1 y2 u_13 y4 y5 y6 y7 y8 y9 y10 y11 y12 y13)) (va_runV (C := RX8) (As := [.int 1]) (rest := []) S (c_X8_throwsAt l D cy g B a y0 y1 y2 y3 y4 y5 y6 y7 y8 y9 y10 y11 y12 y13 1) (cwV 1 hts gX8_swingsWith_X8_throwsAt rfl rfl rfl hd_X8_throwsAt_V ⟨Nat.le_of_ble_eq_true rfl, Nat.le_of_ble_eq_true rfl⟩) ⟨muP_blind, va_recv hK0.1 hP (ci := 6) (q0 := 0) rfl rfl, my_preA hK0 hS hAB hP hD⟩ rfl rfl hl.1 rfl (lv_room (Nat.le_of_ble_eq_true rfl)) dX8_swingsWith_29 ⟨Nat.zero_le _, Nat.zero_le _⟩) hS hD (fun _ => by simp only [List.map_cons, List.map_nil, adrSet, adrSetE, adrPow, adrPowE, adrTxt, adrTxtE, adrSav, adrSavE, adrPCo, adrMod, adrModE]) (fun r_15 u_13 H locs hw_14 hP hD hS => ?_)
    obtain ⟨rfl, rfl⟩ : 1 = r_15 ∧ 1 = u_13 := my_thr_lit (k := 1) (by decide) hw_14
    refine lv_if_eq (tgt := 37) hx hb dX8_swingsWith_32 (by decide) (fun h => absurd h (by decide)) (fun _ => ?_)
    refine lv_iconst (v := 0) hx hb dX8_swingsWith_35 (by decide) ?_
    have hP : va_P D vwCl (wModE cy a y0 y1 y2 1 y4 y5 y6 y7 y8 y9 y10 y11 y12 y13) H := hP
    have hD : va_D A (wModE cy a y0 y1 y2 1 y4 y5 y6 y7 y8 y9 y10 y11 y12 y13) := hD
    exact W.iret hx hb hr (fun t ht hW => ⟨⟨0, (1, y4, y10), rfl, (show f_X8_swingsWith y4 y7 y10 x0 x1 = (0, (1, y4, y10)) from by rw [f_X8_swingsWith, if_pos c_1]), by show va_P D vwCl _ t.heap; rw [ht]; exact hP⟩, hS.F ht⟩) hS.2.2 dX8_swingsWith_36
theorem hd_X8_dummiesWith_S : yX8_dummiesWith.cls ≠ "java/lang/invoke/MethodHandle" ∧ yX8_dummiesWith.cls ≠ "java/lang/invoke/VarHandle" ∧ (parseMethodDescriptor yX8_dummiesWith.desc).map (fun d => d.parameters.length) = some 1 := by decide +kernel
theorem hd_X8_dummiesWith_V : yX8_dummiesWith.cls = RX8 ∧ yX8_dummiesWith.cls ≠ "java/lang/invoke/MethodHandle" ∧ yX8_dummiesWith.cls ≠ "java/lang/invoke/VarHandle" ∧ (parseMethodDescriptor yX8_dummiesWith.desc).map (fun d => d.parameters.length) = some 1 := ⟨rfl, hd_X8_dummiesWith_S⟩
def f_X8_dummiesWith (y4 : Int32) (y7 : (Nat → Int32)) (y10 : (Nat → Int32)) (x0 : Int32) : Int32 × (Int32 × Int32 × (Nat → Int32)) := (if (f_X8_in x0 1 400) = 0 then (0, (1, y4, y10)) else (my_l (f_X8_lays y7 y10 x0) (fun (u_8 : Int32 × (Nat → Int32)) => ((f_X8_dummies y7 u_8.2), (0, u_8.1, u_8.2)))))
set_option maxHeartbeats 400000 in
set_option maxRecDepth 100000 in
theorem c_X8_dummiesWith (l : Launch) (D : va_G) (cy : Nat → ClassId) (g : Nat → Nat) (B : Nat) (a : Nat → Nat) (y0 : Int32) (y1 : Int32) (y2 : Int32) (y3 : Int32) (y4 : Int32) (y5 : Int32) (y6 : Int32) (y7 : (Nat → Int32)) (y8 : (Nat → Int32)) (y9 : (Nat → Int32)) (y10 : (Nat → Int32)) (y11 : (Nat → Int32)) (y12 : (Nat → Int32)) (y13 : (Nat → Int32)) (x0 : Int32) (hm8 : ¬ 8 < (y7 0)) (hR4 : ¬ 4 < (y7 2)) : Met l yX8_dummiesWith wsX8_dummiesWith ({ frames := 4, cells := 0, slots := 0, locals := 91 }) (muP D cy g B (wModE cy a y0 y1 y2 y3 y4 y5 y6 y7 y8 y9 y10 y11 y12 y13) [.ref (a 0), .int x0]) (va_Qi (fun (r : Int32) (u : Int32 × Int32 × (Nat → Int32)) => f_X8_dummiesWith y4 y7 y10 x0 = (r, u)) (fun u t => va_P D vwCl (wModE cy a y0 y1 y2 u.1 u.2.1 y5 y6 y7 y8 y9 u.2.2 y11 y12 y13) t.heap) (muA (wModE cy a y0 y1 y2 y3 y4 y5 y6 y7 y8 y9 y10 y11 y12 y13))) 0 0 (muA (wModE cy a y0 y1 y2 y3 y4 y5 y6 y7 y8 y9 y10 y11 y12 y13)) := by
  refine Met.ofW (cc := cX8_dummiesWith) (maxL := 2) (ret := (some .int)) (by decide) rfl ?_
  intro p e s m args below meth c s₁ BB hml hv
  obtain ⟨rfl, hP, hK0, hD0⟩ := hv
  have hx := BB.exec
  have hb := BB.bytes
  have hr := BB.returns
  have hts := atoms_spec (ws := wsX8_dummiesWith) BB.pre
  have hown : s.vm.findClass RX8 = some m.cls := findClass_of_methodNamed BB.named
  have hlocks := BB.notSynchronized
  have S := my_fix hx hb hml hown hts
  have hAB := muB hD0
  have hD := muD hD0
  generalize hAe : muA (wModE cy a y0 y1 y2 y3 y4 y5 y6 y7 y8 y9 y10 y11 y12 y13) = A at hAB hD ⊢
  have hS : va_S A s.heap s.heap [] := va_S.rf
  have hl := lv_entry ([.ref (a 0), .int x0]) (n := 2) (Nat.le_of_ble_eq_true rfl)
  rw [lg_entry_eq]
  generalize (lg_sl ([.ref (a 0), .int x0]) ++ List.replicate (2 - (lg_sl ([.ref (a 0), .int x0])).length) Slot.unset).toArray = ls at hl ⊢
  have hl : lv_has ls 2 [(0, .ref (a 0)), (1, .int x0)] := hl
  refine lv_aload_n hx hb dX8_dummiesWith_0 rfl (lv_at hl 0 rfl) ?_
  refine lv_iload_n hx hb dX8_dummiesWith_1 rfl (lv_at hl 1 rfl) ?_
  refine lv_iconst (v := 1) hx hb dX8_dummiesWith_2 (by decide) ?_
  refine lv_sipush (v := 400) hx hb dX8_dummiesWith_3 (by decide) ?_
  refine rd_goi (va_runS (As := [.int x0, .int 1, .int 400]) (rest := [.ref (a 0)]) S (c_X8_in l D cy g B x0 1 400) (va_cwS 3 hts gX8_dummiesWith_X8_in rfl rfl rfl hd_X8_in_S ⟨Nat.le_of_ble_eq_true rfl, Nat.le_of_ble_eq_true rfl⟩) ⟨rdP_blind, my_preV hK0 hS hAB hP [] rfl⟩ rfl rfl hl.1 rfl (lv_room (Nat.le_of_ble_eq_true rfl)) dX8_dummiesWith_6 ⟨Nat.zero_le _, Nat.zero_le _⟩) ?_
  refine lv_if_eq (tgt := 16) hx hb dX8_dummiesWith_9 (by decide) (fun c_1 => ?_) (fun c_1 => ?_)
  · refine lv_iconst (v := 1) hx hb dX8_dummiesWith_16 (by decide) ?_
    refine mu_alli (wf := fun (u_2 : Int32) => (wModE cy a y0 y1 y2 u_2 y4 y5 y6 y7 y8 y9 y10 y11 y12 y13)) (va_runV (C := RX8) (As := [.int 1]) (rest := []) S (c_X8_throwsAt l D cy g B a y0 y1 y2 y3 y4 y5 y6 y7 y8 y9 y10 y11 y12 y13 1) (cwV 1 hts gX8_dummiesWith_X8_throwsAt rfl rfl rfl hd_X8_throwsAt_V ⟨Nat.le_of_ble_eq_true rfl, Nat.le_of_ble_eq_true rfl⟩) ⟨muP_blind, va_recv hK0.1 hP (ci := 6) (q0 := 0) rfl rfl, my_preA hK0 hS hAB hP hD⟩ rfl rfl hl.1 rfl (lv_room (Nat.le_of_ble_eq_true rfl)) dX8_dummiesWith_17 ⟨Nat.zero_le _, Nat.zero_le _⟩) hS hD (fun _ => by simp only [List.map_cons, List.map_nil, adrSet, adrSetE, adrPow, adrPowE, adrTxt, adrTxtE, adrSav, adrSavE, adrPCo, adrMod, adrModE]) (fun r_4 u_2 H locs hw_3 hP hD hS => ?_)
    obtain ⟨rfl, rfl⟩ : 1 = r_4 ∧ 1 = u_2 := my_thr_lit (k := 1) (by decide) hw_3
    refine lv_if_eq (tgt := 25) hx hb dX8_dummiesWith_20 (by decide) (fun h => absurd h (by decide)) (fun _ => ?_)
    refine lv_iconst (v := 0) hx hb dX8_dummiesWith_23 (by decide) ?_
    have hP : va_P D vwCl (wModE cy a y0 y1 y2 1 y4 y5 y6 y7 y8 y9 y10 y11 y12 y13) H := hP
    have hD : va_D A (wModE cy a y0 y1 y2 1 y4 y5 y6 y7 y8 y9 y10 y11 y12 y13) := hD
    exact W.iret hx hb hr (fun t ht hW => ⟨⟨0, (1, y4, y10), rfl, (show f_X8_dummiesWith y4 y7 y10 x0 = (0, (1, y4, y10)) from by rw [f_X8_dummiesWith, if_pos c_1]), by show va_P D vwCl _ t.heap; rw [ht]; exact hP⟩, hS.F ht⟩) hS.2.2 dX8_dummiesWith_24
  · refine lv_iconst (v := 0) hx hb dX8_dummiesWith_12 (by decide) ?_
    refine lv_goto (tgt := 17) hx hb dX8_dummiesWith_13 (by decide) ?_
    refine mu_alli (wf := fun (u_5 : Int32) => (wModE cy a y0 y1 y2 u_5 y4 y5 y6 y7 y8 y9 y10 y11 y12 y13)) (va_runV (C := RX8) (As := [.int 0]) (rest := []) S (c_X8_throwsAt l D cy g B a y0 y1 y2 y3 y4 y5 y6 y7 y8 y9 y10 y11 y12 y13 0) (cwV 1 hts gX8_dummiesWith_X8_throwsAt rfl rfl rfl hd_X8_throwsAt_V ⟨Nat.le_of_ble_eq_true rfl, Nat.le_of_ble_eq_true rfl⟩) ⟨muP_blind, va_recv hK0.1 hP (ci := 6) (q0 := 0) rfl rfl, my_preA hK0 hS hAB hP hD⟩ rfl rfl hl.1 rfl (lv_room (Nat.le_of_ble_eq_true rfl)) dX8_dummiesWith_17 ⟨Nat.zero_le _, Nat.zero_le _⟩) hS hD (fun _ => by simp only [List.map_cons, List.map_nil, adrSet, adrSetE, adrPow, adrPowE, adrTxt, adrTxtE, adrSav, adrSavE, adrPCo, adrMod, adrModE]) (fun r_7 u_5 H locs hw_6 hP hD hS => ?_)
    obtain ⟨rfl, rfl⟩ : 0 = r_7 ∧ 0 = u_5 := my_thr_lit (k := 0) (by decide) hw_6
    refine lv_if_eq (tgt := 25) hx hb dX8_dummiesWith_20 (by decide) (fun _ => ?_) (fun h => absurd (by decide) h)
    refine lv_aload_n hx hb dX8_dummiesWith_25 rfl (lv_at hl 0 rfl) ?_
    refine lv_iload_n hx hb dX8_dummiesWith_26 rfl (lv_at hl 1 rfl) ?_
    refine mu_allv (wf := fun (u_8 : Int32 × (Nat → Int32)) => (wModE cy a y0 y1 y2 0 u_8.1 y5 y6 y7 y8 y9 u_8.2 y11 y12 y13)) (va_runV (C := RX8) (As := [.int x0]) (rest := []) S (c_X8_lays l D cy g B a y0 y1 y2 0 y4 y5 y6 y7 y8 y9 y10 y11 y12 y13 x0 hm8 hR4) (cwV 1 hts gX8_dummiesWith_X8_lays rfl rfl rfl hd_X8_lays_V ⟨Nat.le_of_ble_eq_true rfl, Nat.le_of_ble_eq_true rfl⟩) ⟨muP_blind, va_recv hK0.1 hP (ci := 6) (q0 := 0) rfl rfl, my_preA hK0 hS hAB hP hD⟩ rfl rfl hl.1 rfl (lv_room (Nat.le_of_ble_eq_true rfl)) dX8_dummiesWith_27 ⟨Nat.zero_le _, Nat.zero_le _⟩) hS hD (fun _ => by simp only [List.map_cons, List.map_nil, adrSet, adrSetE, adrPow, adrPowE, adrTxt, adrTxtE, adrSav, adrSavE, adrPCo, adrMod, adrModE]) (fun u_8 H locs hw_9 hP hD hS => ?_)
    have ha_10 : ¬ u_8.1 < 0 := lays_0 hm8 hw_9
    have ha_11 : ¬ 256 ≤ u_8.1 := lays_256 hm8 hw_9
    refine lv_aload_n hx hb dX8_dummiesWith_30 rfl (lv_at hl 0 rfl) ?_
    refine rd_goi (va_runV (C := RX8) (As := []) (rest := []) S (c_X8_dummies l D cy g B a y0 y1 y2 0 u_8.1 y5 y6 y7 y8 y9 u_8.2 y11 y12 y13 hm8) (cwV 0 hts gX8_dummiesWith_X8_dummies rfl rfl rfl hd_X8_dummies_V ⟨Nat.le_of_ble_eq_true rfl, Nat.le_of_ble_eq_true rfl⟩) ⟨rdP_blind, va_recv hK0.1 hP (ci := 6) (q0 := 0) rfl rfl, my_preP hK0 hS hAB hP⟩ rfl rfl hl.1 rfl (lv_room (Nat.le_of_ble_eq_true rfl)) dX8_dummiesWith_31 ⟨Nat.zero_le _, Nat.zero_le _⟩) ?_
    have hP : va_P D vwCl (wModE cy a y0 y1 y2 0 u_8.1 y5 y6 y7 y8 y9 u_8.2 y11 y12 y13) H := hP
    have hD : va_D A (wModE cy a y0 y1 y2 0 u_8.1 y5 y6 y7 y8 y9 u_8.2 y11 y12 y13) := hD
    exact W.iret hx hb hr (fun t ht hW => ⟨⟨(f_X8_dummies y7 u_8.2), (0, u_8.1, u_8.2), rfl, (show f_X8_dummiesWith y4 y7 y10 x0 = ((f_X8_dummies y7 u_8.2), (0, u_8.1, u_8.2)) from by rw [f_X8_dummiesWith, if_neg c_1, hw_9, my_l_eq]), by show va_P D vwCl _ t.heap; rw [ht]; exact hP⟩, hS.F ht⟩) hS.2.2 dX8_dummiesWith_34
theorem hd_X8_type_S : yX8_type.cls ≠ "java/lang/invoke/MethodHandle" ∧ yX8_type.cls ≠ "java/lang/invoke/VarHandle" ∧ (parseMethodDescriptor yX8_type.desc).map (fun d => d.parameters.length) = some 1 := by decide +kernel
theorem hd_X8_type_V : yX8_type.cls = RX8 ∧ yX8_type.cls ≠ "java/lang/invoke/MethodHandle" ∧ yX8_type.cls ≠ "java/lang/invoke/VarHandle" ∧ (parseMethodDescriptor yX8_type.desc).map (fun d => d.parameters.length) = some 1 := ⟨rfl, hd_X8_type_S⟩
def f_X8_type (y2 : Int32) (y9 : (Nat → Int32)) (x0 : Int32) : Int32 × (Int32 × Int32 × (Nat → Int32)) := (if (f_X8_in x0 0 127) = 0 then (0, (y2, 1, y9)) else (if y2 = 150 then (0, (y2, 2, y9)) else ((y2 + 1), ((y2 + 1), 0, (upd y9 y2.toNatClampNeg x0)))))
set_option maxHeartbeats 400000 in
set_option maxRecDepth 100000 in
theorem c_X8_type (l : Launch) (D : va_G) (cy : Nat → ClassId) (g : Nat → Nat) (B : Nat) (a : Nat → Nat) (y0 : Int32) (y1 : Int32) (y2 : Int32) (y3 : Int32) (y4 : Int32) (y5 : Int32) (y6 : Int32) (y7 : (Nat → Int32)) (y8 : (Nat → Int32)) (y9 : (Nat → Int32)) (y10 : (Nat → Int32)) (y11 : (Nat → Int32)) (y12 : (Nat → Int32)) (y13 : (Nat → Int32)) (x0 : Int32) (hty0 : ¬ y2 < 0) (hty : ¬ 150 < y2) : Met l yX8_type wsX8_type ({ frames := 1, cells := 0, slots := 0, locals := 22 }) (muP D cy g B (wModE cy a y0 y1 y2 y3 y4 y5 y6 y7 y8 y9 y10 y11 y12 y13) [.ref (a 0), .int x0]) (va_Qi (fun (r : Int32) (u : Int32 × Int32 × (Nat → Int32)) => f_X8_type y2 y9 x0 = (r, u)) (fun u t => va_P D vwCl (wModE cy a y0 y1 u.1 u.2.1 y4 y5 y6 y7 y8 u.2.2 y10 y11 y12 y13) t.heap) (muA (wModE cy a y0 y1 y2 y3 y4 y5 y6 y7 y8 y9 y10 y11 y12 y13))) 0 0 (muA (wModE cy a y0 y1 y2 y3 y4 y5 y6 y7 y8 y9 y10 y11 y12 y13)) := by
  refine Met.ofW (cc := cX8_type) (maxL := 2) (ret := (some .int)) (by decide) rfl ?_
  intro p e s m args below meth c s₁ BB hml hv
  obtain ⟨rfl, hP, hK0, hD0⟩ := hv
  have hx := BB.exec
  have hb := BB.bytes
  have hr := BB.returns
  have hts := atoms_spec (ws := wsX8_type) BB.pre
  have hown : s.vm.findClass RX8 = some m.cls := findClass_of_methodNamed BB.named
  have hlocks := BB.notSynchronized
  have S := my_fix hx hb hml hown hts
  have inX8 : ∀ w ∈ wsX80, w ∈ wsX8_type := fun w h => List.mem_cons_of_mem _ (List.mem_append_right _ h)
  have hAB := muB hD0
  have hD := muD hD0
  generalize hAe : muA (wModE cy a y0 y1 y2 y3 y4 y5 y6 y7 y8 y9 y10 y11 y12 y13) = A at hAB hD ⊢
  have hS : va_S A s.heap s.heap [] := va_S.rf
  have hl := lv_entry ([.ref (a 0), .int x0]) (n := 2) (Nat.le_of_ble_eq_true rfl)
  rw [lg_entry_eq]
  generalize (lg_sl ([.ref (a 0), .int x0]) ++ List.replicate (2 - (lg_sl ([.ref (a 0), .int x0])).length) Slot.unset).toArray = ls at hl ⊢
  have hl : lv_has ls 2 [(0, .ref (a 0)), (1, .int x0)] := hl
  refine lv_aload_n hx hb dX8_type_0 rfl (lv_at hl 0 rfl) ?_
  refine lv_iload_n hx hb dX8_type_1 rfl (lv_at hl 1 rfl) ?_
  refine lv_iconst (v := 0) hx hb dX8_type_2 (by decide) ?_
  refine lv_bipush (v := 127) hx hb dX8_type_3 (by decide) ?_
  refine rd_goi (va_runS (As := [.int x0, .int 0, .int 127]) (rest := [.ref (a 0)]) S (c_X8_in l D cy g B x0 0 127) (va_cwS 3 hts gX8_type_X8_in rfl rfl rfl hd_X8_in_S ⟨Nat.le_of_ble_eq_true rfl, Nat.le_of_ble_eq_true rfl⟩) ⟨rdP_blind, my_preV hK0 hS hAB hP [] rfl⟩ rfl rfl hl.1 rfl (lv_room (Nat.le_of_ble_eq_true rfl)) dX8_type_5 ⟨Nat.zero_le _, Nat.zero_le _⟩) ?_
  refine lv_if_ne (tgt := 15) hx hb dX8_type_8 (by decide) (fun c_1 => ?_) (fun c_1 => ?_)
  · refine lv_aload_n hx hb dX8_type_15 rfl (lv_at hl 0 rfl) ?_
    refine va_get (D := D) (ci := 6) (v := .int y2) (C := RX8) (T := TX8) (N := 14) hx hb hts inX8 hown hK0.1 hP 0 rfl rfl 5 (by decide) (hts (.fieldLink RX8 141 "PivotChamberModel" "typed" "I") (List.mem_of_getElem? (i := 1) rfl)) (fun _ h9 => h9) rfl dX8_type_16 ?_
    refine lv_sipush (v := 150) hx hb dX8_type_19 (by decide) ?_
    refine lv_icmp_ne (tgt := 29) hx hb dX8_type_22 (by decide) (fun c_2 => ?_) (fun c_2 => ?_)
    · refine lv_iconst (v := 0) hx hb dX8_type_29 (by decide) ?_
      refine mu_alli (wf := fun (u_3 : Int32) => (wModE cy a y0 y1 y2 u_3 y4 y5 y6 y7 y8 y9 y10 y11 y12 y13)) (va_runV (C := RX8) (As := [.int 0]) (rest := []) S (c_X8_throwsAt l D cy g B a y0 y1 y2 y3 y4 y5 y6 y7 y8 y9 y10 y11 y12 y13 0) (cwV 1 hts gX8_type_X8_throwsAt rfl rfl rfl hd_X8_throwsAt_V ⟨Nat.le_of_ble_eq_true rfl, Nat.le_of_ble_eq_true rfl⟩) ⟨muP_blind, va_recv hK0.1 hP (ci := 6) (q0 := 0) rfl rfl, my_preA hK0 hS hAB hP hD⟩ rfl rfl hl.1 rfl (lv_room (Nat.le_of_ble_eq_true rfl)) dX8_type_30 ⟨Nat.zero_le _, Nat.zero_le _⟩) hS hD (fun _ => by simp only [List.map_cons, List.map_nil, adrSet, adrSetE, adrPow, adrPowE, adrTxt, adrTxtE, adrSav, adrSavE, adrPCo, adrMod, adrModE]) (fun r_5 u_3 H locs hw_4 hP hD hS => ?_)
      obtain ⟨rfl, rfl⟩ : 0 = r_5 ∧ 0 = u_3 := my_thr_lit (k := 0) (by decide) hw_4
      refine lv_if_eq (tgt := 38) hx hb dX8_type_33 (by decide) (fun _ => ?_) (fun h => absurd (by decide) h)
      refine lv_aload_n hx hb dX8_type_38 rfl (lv_at hl 0 rfl) ?_
      refine va_get (D := D) (ci := 6) (v := .ref (a 3)) (C := RX8) (T := TX8) (N := 14) hx hb hts inX8 hown hK0.1 hP 0 rfl rfl 4 (by decide) (hts (.fieldLink RX8 16 "PivotChamberModel" "text" "[I") (List.mem_of_getElem? (i := 2) rfl)) (fun _ h9 => h9) rfl dX8_type_39 ?_
      refine lv_aload_n hx hb dX8_type_42 rfl (lv_at hl 0 rfl) ?_
      refine va_get (D := D) (ci := 6) (v := .int y2) (C := RX8) (T := TX8) (N := 14) hx hb hts inX8 hown hK0.1 hP 0 rfl rfl 5 (by decide) (hts (.fieldLink RX8 141 "PivotChamberModel" "typed" "I") (List.mem_of_getElem? (i := 1) rfl)) (fun _ h9 => h9) rfl dX8_type_43 ?_
      refine lv_iload_n hx hb dX8_type_46 rfl (lv_at hl 1 rfl) ?_
      refine va_iast hx hb hK0.1 hP hD hS 3 0 rfl rfl (ix_self (K := 150) (N := 150) hty0 (Int32.not_le.mpr (lt_of_ne hty c_2)) (by decide) (by decide)) dX8_type_47 (fun H locs hP hD hS => ?_)
      have hP : va_P D vwCl (wModE cy a y0 y1 y2 0 y4 y5 y6 y7 y8 (upd y9 y2.toNatClampNeg x0) y10 y11 y12 y13) H := hP
      have hD : va_D A (wModE cy a y0 y1 y2 0 y4 y5 y6 y7 y8 (upd y9 y2.toNatClampNeg x0) y10 y11 y12 y13) := hD
      refine lv_aload_n hx hb dX8_type_48 rfl (lv_at hl 0 rfl) ?_
      refine lv_dup hx hb dX8_type_49 rfl ?_
      refine va_get (D := D) (ci := 6) (v := .int y2) (C := RX8) (T := TX8) (N := 14) hx hb hts inX8 hown hK0.1 hP 0 rfl rfl 5 (by decide) (hts (.fieldLink RX8 141 "PivotChamberModel" "typed" "I") (List.mem_of_getElem? (i := 1) rfl)) (fun _ h9 => h9) rfl dX8_type_50 ?_
      refine lv_iconst (v := 1) hx hb dX8_type_53 (by decide) ?_
      refine lv_iadd hx hb dX8_type_54 ?_
      refine va_put (D := D) (ci := 6) (v := .int (y2 + 1)) (ty := .int) (C := RX8) (T := TX8) (N := 14) hx hb hts inX8 tyX8 tyX8_ok nmX8 hown hK0.1 hP hD hS 0 rfl rfl 5 (by decide) (hts (.fieldLink RX8 141 "PivotChamberModel" "typed" "I") (List.mem_of_getElem? (i := 1) rfl)) (fun _ h9 => h9) rfl (by decide +kernel) rfl rfl (Nat.le_of_ble_eq_true rfl) dX8_type_55 (fun H locs hP hD hS => ?_)
      have hP : va_P D vwCl (wModE cy a y0 y1 (y2 + 1) 0 y4 y5 y6 y7 y8 (upd y9 y2.toNatClampNeg x0) y10 y11 y12 y13) H := hP
      have hD : va_D A (wModE cy a y0 y1 (y2 + 1) 0 y4 y5 y6 y7 y8 (upd y9 y2.toNatClampNeg x0) y10 y11 y12 y13) := hD
      refine lv_aload_n hx hb dX8_type_58 rfl (lv_at hl 0 rfl) ?_
      refine va_get (D := D) (ci := 6) (v := .int (y2 + 1)) (C := RX8) (T := TX8) (N := 14) hx hb hts inX8 hown hK0.1 hP 0 rfl rfl 5 (by decide) (hts (.fieldLink RX8 141 "PivotChamberModel" "typed" "I") (List.mem_of_getElem? (i := 1) rfl)) (fun _ h9 => h9) rfl dX8_type_59 ?_
      have hP : va_P D vwCl (wModE cy a y0 y1 (y2 + 1) 0 y4 y5 y6 y7 y8 (upd y9 y2.toNatClampNeg x0) y10 y11 y12 y13) H := hP
      have hD : va_D A (wModE cy a y0 y1 (y2 + 1) 0 y4 y5 y6 y7 y8 (upd y9 y2.toNatClampNeg x0) y10 y11 y12 y13) := hD
      exact W.iret hx hb hr (fun t ht hW => ⟨⟨(y2 + 1), ((y2 + 1), 0, (upd y9 y2.toNatClampNeg x0)), rfl, (show f_X8_type y2 y9 x0 = ((y2 + 1), ((y2 + 1), 0, (upd y9 y2.toNatClampNeg x0))) from by rw [f_X8_type, if_neg c_1, if_neg c_2]), by show va_P D vwCl _ t.heap; rw [ht]; exact hP⟩, hS.F ht⟩) hS.2.2 dX8_type_62
    · refine lv_iconst (v := 2) hx hb dX8_type_25 (by decide) ?_
      refine lv_goto (tgt := 30) hx hb dX8_type_26 (by decide) ?_
      refine mu_alli (wf := fun (u_6 : Int32) => (wModE cy a y0 y1 y2 u_6 y4 y5 y6 y7 y8 y9 y10 y11 y12 y13)) (va_runV (C := RX8) (As := [.int 2]) (rest := []) S (c_X8_throwsAt l D cy g B a y0 y1 y2 y3 y4 y5 y6 y7 y8 y9 y10 y11 y12 y13 2) (cwV 1 hts gX8_type_X8_throwsAt rfl rfl rfl hd_X8_throwsAt_V ⟨Nat.le_of_ble_eq_true rfl, Nat.le_of_ble_eq_true rfl⟩) ⟨muP_blind, va_recv hK0.1 hP (ci := 6) (q0 := 0) rfl rfl, my_preA hK0 hS hAB hP hD⟩ rfl rfl hl.1 rfl (lv_room (Nat.le_of_ble_eq_true rfl)) dX8_type_30 ⟨Nat.zero_le _, Nat.zero_le _⟩) hS hD (fun _ => by simp only [List.map_cons, List.map_nil, adrSet, adrSetE, adrPow, adrPowE, adrTxt, adrTxtE, adrSav, adrSavE, adrPCo, adrMod, adrModE]) (fun r_8 u_6 H locs hw_7 hP hD hS => ?_)
      obtain ⟨rfl, rfl⟩ : 1 = r_8 ∧ 2 = u_6 := my_thr_lit (k := 2) (by decide) hw_7
      refine lv_if_eq (tgt := 38) hx hb dX8_type_33 (by decide) (fun h => absurd h (by decide)) (fun _ => ?_)
      refine lv_iconst (v := 0) hx hb dX8_type_36 (by decide) ?_
      have hP : va_P D vwCl (wModE cy a y0 y1 y2 2 y4 y5 y6 y7 y8 y9 y10 y11 y12 y13) H := hP
      have hD : va_D A (wModE cy a y0 y1 y2 2 y4 y5 y6 y7 y8 y9 y10 y11 y12 y13) := hD
      exact W.iret hx hb hr (fun t ht hW => ⟨⟨0, (y2, 2, y9), rfl, (show f_X8_type y2 y9 x0 = (0, (y2, 2, y9)) from by rw [f_X8_type, if_neg c_1, if_pos c_2]), by show va_P D vwCl _ t.heap; rw [ht]; exact hP⟩, hS.F ht⟩) hS.2.2 dX8_type_37
  · refine lv_iconst (v := 1) hx hb dX8_type_11 (by decide) ?_
    refine lv_goto (tgt := 30) hx hb dX8_type_12 (by decide) ?_
    refine mu_alli (wf := fun (u_9 : Int32) => (wModE cy a y0 y1 y2 u_9 y4 y5 y6 y7 y8 y9 y10 y11 y12 y13)) (va_runV (C := RX8) (As := [.int 1]) (rest := []) S (c_X8_throwsAt l D cy g B a y0 y1 y2 y3 y4 y5 y6 y7 y8 y9 y10 y11 y12 y13 1) (cwV 1 hts gX8_type_X8_throwsAt rfl rfl rfl hd_X8_throwsAt_V ⟨Nat.le_of_ble_eq_true rfl, Nat.le_of_ble_eq_true rfl⟩) ⟨muP_blind, va_recv hK0.1 hP (ci := 6) (q0 := 0) rfl rfl, my_preA hK0 hS hAB hP hD⟩ rfl rfl hl.1 rfl (lv_room (Nat.le_of_ble_eq_true rfl)) dX8_type_30 ⟨Nat.zero_le _, Nat.zero_le _⟩) hS hD (fun _ => by simp only [List.map_cons, List.map_nil, adrSet, adrSetE, adrPow, adrPowE, adrTxt, adrTxtE, adrSav, adrSavE, adrPCo, adrMod, adrModE]) (fun r_11 u_9 H locs hw_10 hP hD hS => ?_)
    obtain ⟨rfl, rfl⟩ : 1 = r_11 ∧ 1 = u_9 := my_thr_lit (k := 1) (by decide) hw_10
    refine lv_if_eq (tgt := 38) hx hb dX8_type_33 (by decide) (fun h => absurd h (by decide)) (fun _ => ?_)
    refine lv_iconst (v := 0) hx hb dX8_type_36 (by decide) ?_
    have hP : va_P D vwCl (wModE cy a y0 y1 y2 1 y4 y5 y6 y7 y8 y9 y10 y11 y12 y13) H := hP
    have hD : va_D A (wModE cy a y0 y1 y2 1 y4 y5 y6 y7 y8 y9 y10 y11 y12 y13) := hD
    exact W.iret hx hb hr (fun t ht hW => ⟨⟨0, (y2, 1, y9), rfl, (show f_X8_type y2 y9 x0 = (0, (y2, 1, y9)) from by rw [f_X8_type, if_pos c_1]), by show va_P D vwCl _ t.heap; rw [ht]; exact hP⟩, hS.F ht⟩) hS.2.2 dX8_type_37
theorem hd_X8_clearCommands_S : yX8_clearCommands.cls ≠ "java/lang/invoke/MethodHandle" ∧ yX8_clearCommands.cls ≠ "java/lang/invoke/VarHandle" ∧ (parseMethodDescriptor yX8_clearCommands.desc).map (fun d => d.parameters.length) = some 0 := by decide +kernel
theorem hd_X8_clearCommands_V : yX8_clearCommands.cls = RX8 ∧ yX8_clearCommands.cls ≠ "java/lang/invoke/MethodHandle" ∧ yX8_clearCommands.cls ≠ "java/lang/invoke/VarHandle" ∧ (parseMethodDescriptor yX8_clearCommands.desc).map (fun d => d.parameters.length) = some 0 := ⟨rfl, hd_X8_clearCommands_S⟩
def f_X8_clearCommands (y2 : Int32) : Int32 × (Int32 × Int32) := (y2, (0, 0))
set_option maxHeartbeats 400000 in
set_option maxRecDepth 100000 in
theorem c_X8_clearCommands (l : Launch) (D : va_G) (cy : Nat → ClassId) (g : Nat → Nat) (B : Nat) (a : Nat → Nat) (y0 : Int32) (y1 : Int32) (y2 : Int32) (y3 : Int32) (y4 : Int32) (y5 : Int32) (y6 : Int32) (y7 : (Nat → Int32)) (y8 : (Nat → Int32)) (y9 : (Nat → Int32)) (y10 : (Nat → Int32)) (y11 : (Nat → Int32)) (y12 : (Nat → Int32)) (y13 : (Nat → Int32)) : Met l yX8_clearCommands wsX8_clearCommands ({ frames := 0, cells := 0, slots := 0, locals := 0 }) (muP D cy g B (wModE cy a y0 y1 y2 y3 y4 y5 y6 y7 y8 y9 y10 y11 y12 y13) [.ref (a 0)]) (va_Qi (fun (r : Int32) (u : Int32 × Int32) => f_X8_clearCommands y2 = (r, u)) (fun u t => va_P D vwCl (wModE cy a y0 y1 u.1 u.2 y4 y5 y6 y7 y8 y9 y10 y11 y12 y13) t.heap) (muA (wModE cy a y0 y1 y2 y3 y4 y5 y6 y7 y8 y9 y10 y11 y12 y13))) 0 0 (muA (wModE cy a y0 y1 y2 y3 y4 y5 y6 y7 y8 y9 y10 y11 y12 y13)) := by
  refine Met.ofW (cc := cX8_clearCommands) (maxL := 2) (ret := (some .int)) (by decide) rfl ?_
  intro p e s m args below meth c s₁ BB hml hv
  obtain ⟨rfl, hP, hK0, hD0⟩ := hv
  have hx := BB.exec
  have hb := BB.bytes
  have hr := BB.returns
  have hts := atoms_spec (ws := wsX8_clearCommands) BB.pre
  have hown : s.vm.findClass RX8 = some m.cls := findClass_of_methodNamed BB.named
  have hlocks := BB.notSynchronized
  have S := my_fix hx hb hml hown hts
  have inX8 : ∀ w ∈ wsX80, w ∈ wsX8_clearCommands := fun w h => List.mem_cons_of_mem _ (List.mem_append_right _ h)
  have hAB := muB hD0
  have hD := muD hD0
  generalize hAe : muA (wModE cy a y0 y1 y2 y3 y4 y5 y6 y7 y8 y9 y10 y11 y12 y13) = A at hAB hD ⊢
  have hS : va_S A s.heap s.heap [] := va_S.rf
  have hl := lv_entry ([.ref (a 0)]) (n := 2) (Nat.le_of_ble_eq_true rfl)
  rw [lg_entry_eq]
  generalize (lg_sl ([.ref (a 0)]) ++ List.replicate (2 - (lg_sl ([.ref (a 0)])).length) Slot.unset).toArray = ls at hl ⊢
  have hl : lv_has ls 2 [(0, .ref (a 0))] := hl
  refine lv_aload_n hx hb dX8_clearCommands_0 rfl (lv_at hl 0 rfl) ?_
  refine lv_iconst (v := 0) hx hb dX8_clearCommands_1 (by decide) ?_
  refine va_put (D := D) (ci := 6) (v := .int 0) (ty := .int) (C := RX8) (T := TX8) (N := 14) hx hb hts inX8 tyX8 tyX8_ok nmX8 hown hK0.1 hP hD hS 0 rfl rfl 6 (by decide) (hts (.fieldLink RX8 32 "PivotChamberModel" "refused" "I") (List.mem_of_getElem? (i := 1) rfl)) (fun _ h9 => h9) rfl (by decide +kernel) rfl rfl (Nat.le_of_ble_eq_true rfl) dX8_clearCommands_2 (fun H locs hP hD hS => ?_)
  have hP : va_P D vwCl (wModE cy a y0 y1 y2 0 y4 y5 y6 y7 y8 y9 y10 y11 y12 y13) H := hP
  have hD : va_D A (wModE cy a y0 y1 y2 0 y4 y5 y6 y7 y8 y9 y10 y11 y12 y13) := hD
  refine lv_aload_n hx hb dX8_clearCommands_5 rfl (lv_at hl 0 rfl) ?_
  refine va_get (D := D) (ci := 6) (v := .int y2) (C := RX8) (T := TX8) (N := 14) hx hb hts inX8 hown hK0.1 hP 0 rfl rfl 5 (by decide) (hts (.fieldLink RX8 141 "PivotChamberModel" "typed" "I") (List.mem_of_getElem? (i := 2) rfl)) (fun _ h9 => h9) rfl dX8_clearCommands_6 ?_
  refine lv_istore_n (lv' := [(1, .int y2), (0, .ref (a 0))]) hx hb dX8_clearCommands_9 rfl hl (by decide) rfl (fun ls hl => ?_)
  refine lv_aload_n hx hb dX8_clearCommands_10 rfl (lv_at hl 1 rfl) ?_
  refine lv_iconst (v := 0) hx hb dX8_clearCommands_11 (by decide) ?_
  refine va_put (D := D) (ci := 6) (v := .int 0) (ty := .int) (C := RX8) (T := TX8) (N := 14) hx hb hts inX8 tyX8 tyX8_ok nmX8 hown hK0.1 hP hD hS 0 rfl rfl 5 (by decide) (hts (.fieldLink RX8 141 "PivotChamberModel" "typed" "I") (List.mem_of_getElem? (i := 2) rfl)) (fun _ h9 => h9) rfl (by decide +kernel) rfl rfl (Nat.le_of_ble_eq_true rfl) dX8_clearCommands_12 (fun H locs hP hD hS => ?_)
  have hP : va_P D vwCl (wModE cy a y0 y1 0 0 y4 y5 y6 y7 y8 y9 y10 y11 y12 y13) H := hP
  have hD : va_D A (wModE cy a y0 y1 0 0 y4 y5 y6 y7 y8 y9 y10 y11 y12 y13) := hD
  refine lv_iload_n hx hb dX8_clearCommands_15 rfl (lv_at hl 0 rfl) ?_
  have hP : va_P D vwCl (wModE cy a y0 y1 0 0 y4 y5 y6 y7 y8 y9 y10 y11 y12 y13) H := hP
  have hD : va_D A (wModE cy a y0 y1 0 0 y4 y5 y6 y7 y8 y9 y10 y11 y12 y13) := hD
  exact W.iret hx hb hr (fun t ht hW => ⟨⟨y2, (0, 0), rfl, (show f_X8_clearCommands y2 = (y2, (0, 0)) from by rw [f_X8_clearCommands]), by show va_P D vwCl _ t.heap; rw [ht]; exact hP⟩, hS.F ht⟩) hS.2.2 dX8_clearCommands_16
theorem hd_X8_least_S : yX8_least.cls ≠ "java/lang/invoke/MethodHandle" ∧ yX8_least.cls ≠ "java/lang/invoke/VarHandle" ∧ (parseMethodDescriptor yX8_least.desc).map (fun d => d.parameters.length) = some 1 := by decide +kernel
theorem hd_X8_least_V : yX8_least.cls = RX8 ∧ yX8_least.cls ≠ "java/lang/invoke/MethodHandle" ∧ yX8_least.cls ≠ "java/lang/invoke/VarHandle" ∧ (parseMethodDescriptor yX8_least.desc).map (fun d => d.parameters.length) = some 1 := ⟨rfl, hd_X8_least_S⟩
def f_X8_least_st (x0 : Int32) (u_5 : Int32 × (Nat → Int32)) (i2_10 : Int32) (i3_11 : Int32) : (Int32 × Int32) ⊕ (Int32 × (Int32 × Int32 × (Nat → Int32))) := (if 256 ≤ i3_11 then (.inr ((-1), (0, u_5.1, u_5.2))) else (if (f_X8_isLeast u_5.2 i3_11) = 0 then (.inl ((i2_10 + 0), (i3_11 + 1))) else (if i2_10 = x0 then (.inr (i3_11, (0, u_5.1, u_5.2))) else (.inl ((i2_10 + 1), (i3_11 + 1))))))
def f_X8_least (y4 : Int32) (y7 : (Nat → Int32)) (y10 : (Nat → Int32)) (x0 : Int32) : Int32 × (Int32 × Int32 × (Nat → Int32)) := (if 0 ≤ x0 then (my_l (f_X8_lays y7 y10 (y7 1)) (fun (u_5 : Int32 × (Nat → Int32)) => (lp (fun (x : Int32 × Int32) => f_X8_least_st x0 u_5 x.1 x.2) default (((256 : Int32).toInt - (0 : Int32).toInt).toNat + 1) (0, 0)))) else (0, (1, y4, y10)))
set_option maxHeartbeats 400000 in
set_option maxRecDepth 100000 in
theorem c_X8_least (l : Launch) (D : va_G) (cy : Nat → ClassId) (g : Nat → Nat) (B : Nat) (a : Nat → Nat) (y0 : Int32) (y1 : Int32) (y2 : Int32) (y3 : Int32) (y4 : Int32) (y5 : Int32) (y6 : Int32) (y7 : (Nat → Int32)) (y8 : (Nat → Int32)) (y9 : (Nat → Int32)) (y10 : (Nat → Int32)) (y11 : (Nat → Int32)) (y12 : (Nat → Int32)) (y13 : (Nat → Int32)) (x0 : Int32) (hm8 : ¬ 8 < (y7 0)) (hR4 : ¬ 4 < (y7 2)) (hwin : ∀ j : Nat, y10 j = 0 ∨ y10 j = 1) : Met l yX8_least wsX8_least ({ frames := 4, cells := 0, slots := 0, locals := 91 }) (muP D cy g B (wModE cy a y0 y1 y2 y3 y4 y5 y6 y7 y8 y9 y10 y11 y12 y13) [.ref (a 0), .int x0]) (va_Qi (fun (r : Int32) (u : Int32 × Int32 × (Nat → Int32)) => f_X8_least y4 y7 y10 x0 = (r, u)) (fun u t => va_P D vwCl (wModE cy a y0 y1 y2 u.1 u.2.1 y5 y6 y7 y8 y9 u.2.2 y11 y12 y13) t.heap) (muA (wModE cy a y0 y1 y2 y3 y4 y5 y6 y7 y8 y9 y10 y11 y12 y13))) 0 0 (muA (wModE cy a y0 y1 y2 y3 y4 y5 y6 y7 y8 y9 y10 y11 y12 y13)) := by
  refine Met.ofW (cc := cX8_least) (maxL := 5) (ret := (some .int)) (by decide) rfl ?_
  intro p e s m args below meth c s₁ BB hml hv
  obtain ⟨rfl, hP, hK0, hD0⟩ := hv
  have hx := BB.exec
  have hb := BB.bytes
  have hr := BB.returns
  have hts := atoms_spec (ws := wsX8_least) BB.pre
  have hown : s.vm.findClass RX8 = some m.cls := findClass_of_methodNamed BB.named
  have hlocks := BB.notSynchronized
  have S := my_fix hx hb hml hown hts
  have inX8 : ∀ w ∈ wsX80, w ∈ wsX8_least := fun w h => List.mem_cons_of_mem _ (List.mem_append_right _ h)
  have hAB := muB hD0
  have hD := muD hD0
  generalize hAe : muA (wModE cy a y0 y1 y2 y3 y4 y5 y6 y7 y8 y9 y10 y11 y12 y13) = A at hAB hD ⊢
  have hS : va_S A s.heap s.heap [] := va_S.rf
  have hl := lv_entry ([.ref (a 0), .int x0]) (n := 5) (Nat.le_of_ble_eq_true rfl)
  rw [lg_entry_eq]
  generalize (lg_sl ([.ref (a 0), .int x0]) ++ List.replicate (5 - (lg_sl ([.ref (a 0), .int x0])).length) Slot.unset).toArray = ls at hl ⊢
  have hl : lv_has ls 5 [(0, .ref (a 0)), (1, .int x0)] := hl
  refine lv_aload_n hx hb dX8_least_0 rfl (lv_at hl 0 rfl) ?_
  refine lv_iload_n hx hb dX8_least_1 rfl (lv_at hl 1 rfl) ?_
  refine lv_if_ge (tgt := 9) hx hb dX8_least_2 (by decide) (fun c_1 => ?_) (fun c_1 => ?_)
  · refine lv_iconst (v := 0) hx hb dX8_least_9 (by decide) ?_
    refine mu_alli (wf := fun (u_2 : Int32) => (wModE cy a y0 y1 y2 u_2 y4 y5 y6 y7 y8 y9 y10 y11 y12 y13)) (va_runV (C := RX8) (As := [.int 0]) (rest := []) S (c_X8_throwsAt l D cy g B a y0 y1 y2 y3 y4 y5 y6 y7 y8 y9 y10 y11 y12 y13 0) (cwV 1 hts gX8_least_X8_throwsAt rfl rfl rfl hd_X8_throwsAt_V ⟨Nat.le_of_ble_eq_true rfl, Nat.le_of_ble_eq_true rfl⟩) ⟨muP_blind, va_recv hK0.1 hP (ci := 6) (q0 := 0) rfl rfl, my_preA hK0 hS hAB hP hD⟩ rfl rfl hl.1 rfl (lv_room (Nat.le_of_ble_eq_true rfl)) dX8_least_10 ⟨Nat.zero_le _, Nat.zero_le _⟩) hS hD (fun _ => by simp only [List.map_cons, List.map_nil, adrSet, adrSetE, adrPow, adrPowE, adrTxt, adrTxtE, adrSav, adrSavE, adrPCo, adrMod, adrModE]) (fun r_4 u_2 H locs hw_3 hP hD hS => ?_)
    obtain ⟨rfl, rfl⟩ : 0 = r_4 ∧ 0 = u_2 := my_thr_lit (k := 0) (by decide) hw_3
    refine lv_if_eq (tgt := 18) hx hb dX8_least_13 (by decide) (fun _ => ?_) (fun h => absurd (by decide) h)
    refine lv_aload_n hx hb dX8_least_18 rfl (lv_at hl 0 rfl) ?_
    refine lv_aload_n hx hb dX8_least_19 rfl (lv_at hl 0 rfl) ?_
    refine va_get (D := D) (ci := 6) (v := .ref (a 1)) (C := RX8) (T := TX8) (N := 14) hx hb hts inX8 hown hK0.1 hP 0 rfl rfl 0 (by decide) (hts (.fieldLink RX8 7 "PivotChamberModel" "s" "[I") (List.mem_of_getElem? (i := 1) rfl)) (fun _ h9 => h9) rfl dX8_least_20 ?_
    refine lv_iconst (v := 1) hx hb dX8_least_23 (by decide) ?_
    refine va_iald hx hb hK0.1 hP 1 0 rfl rfl (vp_in_nI (n := 1) (N := 27) (by decide) (by decide)) dX8_least_24 ?_
    refine W.eq (g2 := F0 m 25 ls [.int (y7 1), .ref (a 0)]) rfl ?_
    refine mu_allv (wf := fun (u_5 : Int32 × (Nat → Int32)) => (wModE cy a y0 y1 y2 0 u_5.1 y5 y6 y7 y8 y9 u_5.2 y11 y12 y13)) (va_runV (C := RX8) (As := [.int (y7 1)]) (rest := []) S (c_X8_lays l D cy g B a y0 y1 y2 0 y4 y5 y6 y7 y8 y9 y10 y11 y12 y13 (y7 1) hm8 hR4) (cwV 1 hts gX8_least_X8_lays rfl rfl rfl hd_X8_lays_V ⟨Nat.le_of_ble_eq_true rfl, Nat.le_of_ble_eq_true rfl⟩) ⟨muP_blind, va_recv hK0.1 hP (ci := 6) (q0 := 0) rfl rfl, my_preA hK0 hS hAB hP hD⟩ rfl rfl hl.1 rfl (lv_room (Nat.le_of_ble_eq_true rfl)) dX8_least_25 ⟨Nat.zero_le _, Nat.zero_le _⟩) hS hD (fun _ => by simp only [List.map_cons, List.map_nil, adrSet, adrSetE, adrPow, adrPowE, adrTxt, adrTxtE, adrSav, adrSavE, adrPCo, adrMod, adrModE]) (fun u_5 H locs hw_6 hP hD hS => ?_)
    have ha_7 : ¬ u_5.1 < 0 := lays_0 hm8 hw_6
    have ha_8 : ¬ 256 ≤ u_5.1 := lays_256 hm8 hw_6
    have ha_9 : ∀ j : Nat, u_5.2 j = 0 ∨ u_5.2 j = 1 := lays_bool hwin hw_6
    refine lv_iconst (v := 0) hx hb dX8_least_28 (by decide) ?_
    refine lv_istore_n (lv' := [(2, .int 0), (0, .ref (a 0)), (1, .int x0)]) hx hb dX8_least_29 rfl hl (by decide) rfl (fun ls hl => ?_)
    refine lv_iconst (v := 0) hx hb dX8_least_30 (by decide) ?_
    refine lv_istore_n (lv' := [(3, .int 0), (2, .int 0), (0, .ref (a 0)), (1, .int x0)]) hx hb dX8_least_31 rfl hl (by decide) rfl (fun ls hl => ?_)
    have key : ∀ (nf : Nat) (i2_10 : Int32) (i3_11 : Int32), ((256 : Int32).toInt - (i3_11 : Int32).toInt).toNat < nf → lp (fun (x : Int32 × Int32) => f_X8_least_st x0 u_5 x.1 x.2) default nf (i2_10, i3_11) = lp (fun (x : Int32 × Int32) => f_X8_least_st x0 u_5 x.1 x.2) default (((256 : Int32).toInt - (0 : Int32).toInt).toNat + 1) (0, 0) → ¬ i3_11 < 0 → ∀ ls : Array Slot, lv_has ls 5 [(0, .ref (a 0)), (1, .int x0), (2, .int i2_10), (3, .int i3_11)] → W p l e (headSpec wsX8_least ({ frames := 4, cells := 0, slots := 0, locals := 91 } : Room)).room s m ([.ref (a 0), .int x0] : List Value).toArray below meth c H locs 0 0 (MQ below (va_Qi (fun (r : Int32) (u : Int32 × Int32 × (Nat → Int32)) => f_X8_least y4 y7 y10 x0 = (r, u)) (fun u t => va_P D vwCl (wModE cy a y0 y1 y2 u.1 u.2.1 y5 y6 y7 y8 y9 u.2.2 y11 y12 y13) t.heap) A) ([.ref (a 0), .int x0] : List Value).toArray s 0 0 A) (F0 m 32 ls []) := by
      intro n0
      induction n0 with
      | zero => intro i2_10 i3_11 hlt; exact absurd hlt (Nat.not_lt_zero _)
      | succ n0 ih0 =>
        intro i2_10 i3_11 hlt0 hF0 hi0_0 ls hl
        refine lv_iload_n hx hb dX8_least_32 rfl (lv_at hl 3 rfl) ?_
        refine lv_sipush (v := 256) hx hb dX8_least_33 (by decide) ?_
        refine lv_icmp_ge (tgt := 77) hx hb dX8_least_36 (by decide) (fun c_12 => ?_) (fun c_12 => ?_)
        · refine lv_iconst (v := (-1)) hx hb dX8_least_77 (by decide) ?_
          have hP : va_P D vwCl (wModE cy a y0 y1 y2 0 u_5.1 y5 y6 y7 y8 y9 u_5.2 y11 y12 y13) H := hP
          have hD : va_D A (wModE cy a y0 y1 y2 0 u_5.1 y5 y6 y7 y8 y9 u_5.2 y11 y12 y13) := hD
          have hst : f_X8_least_st x0 u_5 i2_10 i3_11 = .inr ((-1), (0, u_5.1, u_5.2)) := by rw [f_X8_least_st, if_pos c_12]
          exact W.iret hx hb hr (fun t ht hW => ⟨⟨(-1), (0, u_5.1, u_5.2), rfl, (show f_X8_least y4 y7 y10 x0 = ((-1), (0, u_5.1, u_5.2)) from by rw [f_X8_least, if_pos c_1, hw_6, my_l_eq]; exact lp_inr hst hF0), by show va_P D vwCl _ t.heap; rw [ht]; exact hP⟩, hS.F ht⟩) hS.2.2 dX8_least_78
        · refine lv_aload_n hx hb dX8_least_39 rfl (lv_at hl 0 rfl) ?_
          refine lv_iload_n hx hb dX8_least_40 rfl (lv_at hl 3 rfl) ?_
          refine rd_goi (va_runV (C := RX8) (As := [.int i3_11]) (rest := []) S (c_X8_isLeast l D cy g B a y0 y1 y2 0 u_5.1 y5 y6 y7 y8 y9 u_5.2 y11 y12 y13 i3_11 ha_9 hi0_0 c_12) (cwV 1 hts gX8_least_X8_isLeast rfl rfl rfl hd_X8_isLeast_V ⟨Nat.le_of_ble_eq_true rfl, Nat.le_of_ble_eq_true rfl⟩) ⟨rdP_blind, va_recv hK0.1 hP (ci := 6) (q0 := 0) rfl rfl, my_preP hK0 hS hAB hP⟩ rfl rfl hl.1 rfl (lv_room (Nat.le_of_ble_eq_true rfl)) dX8_least_41 ⟨Nat.zero_le _, Nat.zero_le _⟩) ?_
          refine lv_istore (lv' := [(4, .int (f_X8_isLeast u_5.2 i3_11)), (0, .ref (a 0)), (1, .int x0), (2, .int i2_10), (3, .int i3_11)]) hx hb dX8_least_44 hl (by decide) rfl (fun ls hl => ?_)
          refine lv_iload hx hb dX8_least_46 (lv_at hl 0 rfl) ?_
          refine lv_if_eq (tgt := 58) hx hb dX8_least_48 (by decide) (fun c_13 => ?_) (fun c_13 => ?_)
          · refine lv_iload_n hx hb dX8_least_58 rfl (lv_at hl 3 rfl) ?_
            refine lv_iload hx hb dX8_least_59 (lv_at hl 0 rfl) ?_
            refine lv_if_eq (tgt := 68) hx hb dX8_least_61 (by decide) (fun _ => ?_) (fun h => absurd c_13 h)
            refine lv_iconst (v := 0) hx hb dX8_least_68 (by decide) ?_
            refine lv_iadd hx hb dX8_least_69 ?_
            refine lv_istore_n (lv' := [(2, .int (i2_10 + 0)), (4, .int (f_X8_isLeast u_5.2 i3_11)), (0, .ref (a 0)), (1, .int x0), (3, .int i3_11)]) hx hb dX8_least_70 rfl hl (by decide) rfl (fun ls hl => ?_)
            refine lv_iinc (v := (i3_11 + 1)) (lv' := [(3, .int (i3_11 + 1)), (2, .int (i2_10 + 0)), (4, .int (f_X8_isLeast u_5.2 i3_11)), (0, .ref (a 0)), (1, .int x0)]) hx hb dX8_least_71 hl (k := 4) rfl rfl (by decide) rfl (fun ls hl => ?_)
            refine lv_goto (tgt := 32) hx hb dX8_least_74 (by decide) ?_
            have hst : f_X8_least_st x0 u_5 i2_10 i3_11 = .inl ((i2_10 + 0), (i3_11 + 1)) := by rw [f_X8_least_st, if_neg c_12, if_pos c_13]
            have hmu : ((256 : Int32).toInt - ((i3_11 + 1) : Int32).toInt).toNat < ((256 : Int32).toInt - (i3_11 : Int32).toInt).toNat := mu_up c_12
            exact ih0 (i2_10 + 0) (i3_11 + 1) (Nat.lt_of_lt_of_le hmu (Nat.le_of_lt_succ hlt0)) (lp_inl hst hF0) (nn_up hi0_0 c_12) _ (lv_sub hl [3, 4, 1, 0] rfl)
          · refine lv_iload_n hx hb dX8_least_51 rfl (lv_at hl 3 rfl) ?_
            refine lv_iload_n hx hb dX8_least_52 rfl (lv_at hl 2 rfl) ?_
            refine lv_icmp_ne (tgt := 58) hx hb dX8_least_53 (by decide) (fun c_14 => ?_) (fun c_14 => ?_)
            · refine lv_iload_n hx hb dX8_least_58 rfl (lv_at hl 3 rfl) ?_
              refine lv_iload hx hb dX8_least_59 (lv_at hl 0 rfl) ?_
              refine lv_if_eq (tgt := 68) hx hb dX8_least_61 (by decide) (fun h => absurd h c_13) (fun _ => ?_)
              refine lv_iconst (v := 1) hx hb dX8_least_64 (by decide) ?_
              refine lv_goto (tgt := 69) hx hb dX8_least_65 (by decide) ?_
              refine lv_iadd hx hb dX8_least_69 ?_
              refine lv_istore_n (lv' := [(2, .int (i2_10 + 1)), (4, .int (f_X8_isLeast u_5.2 i3_11)), (0, .ref (a 0)), (1, .int x0), (3, .int i3_11)]) hx hb dX8_least_70 rfl hl (by decide) rfl (fun ls hl => ?_)
              refine lv_iinc (v := (i3_11 + 1)) (lv' := [(3, .int (i3_11 + 1)), (2, .int (i2_10 + 1)), (4, .int (f_X8_isLeast u_5.2 i3_11)), (0, .ref (a 0)), (1, .int x0)]) hx hb dX8_least_71 hl (k := 4) rfl rfl (by decide) rfl (fun ls hl => ?_)
              refine lv_goto (tgt := 32) hx hb dX8_least_74 (by decide) ?_
              have hst : f_X8_least_st x0 u_5 i2_10 i3_11 = .inl ((i2_10 + 1), (i3_11 + 1)) := by rw [f_X8_least_st, if_neg c_12, if_neg c_13, if_neg c_14]
              have hmu : ((256 : Int32).toInt - ((i3_11 + 1) : Int32).toInt).toNat < ((256 : Int32).toInt - (i3_11 : Int32).toInt).toNat := mu_up c_12
              exact ih0 (i2_10 + 1) (i3_11 + 1) (Nat.lt_of_lt_of_le hmu (Nat.le_of_lt_succ hlt0)) (lp_inl hst hF0) (nn_up hi0_0 c_12) _ (lv_sub hl [3, 4, 1, 0] rfl)
            · refine lv_iload_n hx hb dX8_least_56 rfl (lv_at hl 4 rfl) ?_
              have hP : va_P D vwCl (wModE cy a y0 y1 y2 0 u_5.1 y5 y6 y7 y8 y9 u_5.2 y11 y12 y13) H := hP
              have hD : va_D A (wModE cy a y0 y1 y2 0 u_5.1 y5 y6 y7 y8 y9 u_5.2 y11 y12 y13) := hD
              have hst : f_X8_least_st x0 u_5 i2_10 i3_11 = .inr (i3_11, (0, u_5.1, u_5.2)) := by rw [f_X8_least_st, if_neg c_12, if_neg c_13, if_pos c_14]
              exact W.iret hx hb hr (fun t ht hW => ⟨⟨i3_11, (0, u_5.1, u_5.2), rfl, (show f_X8_least y4 y7 y10 x0 = (i3_11, (0, u_5.1, u_5.2)) from by rw [f_X8_least, if_pos c_1, hw_6, my_l_eq]; exact lp_inr hst hF0), by show va_P D vwCl _ t.heap; rw [ht]; exact hP⟩, hS.F ht⟩) hS.2.2 dX8_least_57
    exact key (((256 : Int32).toInt - (0 : Int32).toInt).toNat + 1) 0 0 (Nat.lt_succ_self _) rfl (by decide) _ (lv_sub hl [2, 3, 1, 0] rfl)
  · refine lv_iconst (v := 1) hx hb dX8_least_5 (by decide) ?_
    refine lv_goto (tgt := 10) hx hb dX8_least_6 (by decide) ?_
    refine mu_alli (wf := fun (u_15 : Int32) => (wModE cy a y0 y1 y2 u_15 y4 y5 y6 y7 y8 y9 y10 y11 y12 y13)) (va_runV (C := RX8) (As := [.int 1]) (rest := []) S (c_X8_throwsAt l D cy g B a y0 y1 y2 y3 y4 y5 y6 y7 y8 y9 y10 y11 y12 y13 1) (cwV 1 hts gX8_least_X8_throwsAt rfl rfl rfl hd_X8_throwsAt_V ⟨Nat.le_of_ble_eq_true rfl, Nat.le_of_ble_eq_true rfl⟩) ⟨muP_blind, va_recv hK0.1 hP (ci := 6) (q0 := 0) rfl rfl, my_preA hK0 hS hAB hP hD⟩ rfl rfl hl.1 rfl (lv_room (Nat.le_of_ble_eq_true rfl)) dX8_least_10 ⟨Nat.zero_le _, Nat.zero_le _⟩) hS hD (fun _ => by simp only [List.map_cons, List.map_nil, adrSet, adrSetE, adrPow, adrPowE, adrTxt, adrTxtE, adrSav, adrSavE, adrPCo, adrMod, adrModE]) (fun r_17 u_15 H locs hw_16 hP hD hS => ?_)
    obtain ⟨rfl, rfl⟩ : 1 = r_17 ∧ 1 = u_15 := my_thr_lit (k := 1) (by decide) hw_16
    refine lv_if_eq (tgt := 18) hx hb dX8_least_13 (by decide) (fun h => absurd h (by decide)) (fun _ => ?_)
    refine lv_iconst (v := 0) hx hb dX8_least_16 (by decide) ?_
    have hP : va_P D vwCl (wModE cy a y0 y1 y2 1 y4 y5 y6 y7 y8 y9 y10 y11 y12 y13) H := hP
    have hD : va_D A (wModE cy a y0 y1 y2 1 y4 y5 y6 y7 y8 y9 y10 y11 y12 y13) := hD
    exact W.iret hx hb hr (fun t ht hW => ⟨⟨0, (1, y4, y10), rfl, (show f_X8_least y4 y7 y10 x0 = (0, (1, y4, y10)) from by rw [f_X8_least, if_neg c_1]), by show va_P D vwCl _ t.heap; rw [ht]; exact hP⟩, hS.F ht⟩) hS.2.2 dX8_least_17
