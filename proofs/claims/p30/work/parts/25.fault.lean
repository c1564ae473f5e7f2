theorem hd_X6_faultOf_S : yX6_faultOf.cls ≠ "java/lang/invoke/MethodHandle" ∧ yX6_faultOf.cls ≠ "java/lang/invoke/VarHandle" ∧ (parseMethodDescriptor yX6_faultOf.desc).map (fun d => d.parameters.length) = some 3 := by decide +kernel
theorem hd_X6_faultOf_V : yX6_faultOf.cls = RX6 ∧ yX6_faultOf.cls ≠ "java/lang/invoke/MethodHandle" ∧ yX6_faultOf.cls ≠ "java/lang/invoke/VarHandle" ∧ (parseMethodDescriptor yX6_faultOf.desc).map (fun d => d.parameters.length) = some 3 := ⟨rfl, hd_X6_faultOf_S⟩
def f_X6_faultOf (v : SetV) (x0 : Nat) (x1 : Int32) (x2 : Int32) : Int32 := (if (nI (x0 + 1)) = 1 then (if v.1 < 8 then (f_X6_worse (f_X7_faultOfRange x1 0 50) 0) else (f_X6_worse (f_X7_faultOfRange x1 0 50) 3)) else (if (nI (x0 + 1)) = 2 then (f_X6_worse (f_X6_faultOfMember v x1) (f_X7_faultOfRange x2 0 50)) else (if (nI (x0 + 1)) = 3 then (f_X7_faultOfRange x1 1 400) else (if (nI (x0 + 1)) = 4 then (if (f_X6_mayFollow v x1 x2) = 0 then (f_X6_worse (f_X6_faultOfTwo v x1 x2) 3) else (f_X6_worse (f_X6_faultOfTwo v x1 x2) 0)) else (if (nI (x0 + 1)) = 5 then (if (f_X6_isPlayer v x1) = 0 then (f_X6_worse (f_X6_faultOfMember v x1) 0) else (f_X6_worse (f_X6_faultOfMember v x1) 3)) else (if (nI (x0 + 1)) = 6 then (if v.2.2.1 < 4 then (f_X6_worse (f_X6_faultOfNewRule v x1 x2) 0) else (f_X6_worse (f_X6_faultOfNewRule v x1 x2) 3)) else (if (nI (x0 + 1)) = 7 then (f_X6_faultOfRule v x1) else 2)))))))
set_option maxHeartbeats 400000 in
set_option maxRecDepth 100000 in
theorem c_X6_faultOf (l : Launch) (D : va_G) (cy : Nat → ClassId) (g : Nat → Nat) (B : Nat) (a : Nat → Nat) (v : SetV) (x0 : Nat) (x1 : Int32) (x2 : Int32) (hx0 : x0 < 7) : Met l yX6_faultOf wsX6_faultOf ({ frames := 4, cells := 0, slots := 0, locals := 87 }) (rdP D cy g B (wSet cy a v) [.ref (a 0), .ref (g (10 + x0)), .int x1, .int x2]) (vp_Si (fun r => r = f_X6_faultOf v x0 x1 x2)) 0 0 (fun _ => False) := by
  refine Met.ofW (cc := cX6_faultOf) (maxL := 4) (ret := (some .int)) (by decide) rfl ?_
  intro p e s m args below meth c s₁ BB hml hv
  obtain ⟨rfl, hP, hK0⟩ := hv
  have hx := BB.exec
  have hb := BB.bytes
  have hr := BB.returns
  have hts := atoms_spec (ws := wsX6_faultOf) BB.pre
  have hown : s.vm.findClass RX6 = some m.cls := findClass_of_methodNamed BB.named
  have hlocks := BB.notSynchronized
  have S := my_fix hx hb hml hown hts
  have inX6 : ∀ w ∈ wsX60, w ∈ wsX6_faultOf := fun w h => List.mem_cons_of_mem _ (List.mem_append_left _ (List.mem_append_right _ h))
  have hS : va_S (fun q => B ≤ q) s.heap s.heap [] := va_S.rf
  have hAB : ∀ q : Nat, (fun q => B ≤ q) q → B ≤ q := fun _ h => h
  have hl := lv_entry ([.ref (a 0), .ref (g (10 + x0)), .int x1, .int x2]) (n := 4) (Nat.le_of_ble_eq_true rfl)
  rw [lg_entry_eq]
  generalize (lg_sl ([.ref (a 0), .ref (g (10 + x0)), .int x1, .int x2]) ++ List.replicate (4 - (lg_sl ([.ref (a 0), .ref (g (10 + x0)), .int x1, .int x2])).length) Slot.unset).toArray = ls at hl ⊢
  have hl : lv_has ls 4 [(0, .ref (a 0)), (1, .ref (g (10 + x0))), (2, .int x1), (3, .int x2)] := hl
  refine lv_aload_n hx hb dX6_faultOf_0 rfl (lv_at hl 1 rfl) ?_
  refine lv_ifnonnull (tgt := 6) hx hb dX6_faultOf_1 (by decide) ?_
  refine va_gets hx hb hK0.2.2.2.1.1 hS hown (hts (.fieldLink RX6 43 "PivotChamber$1" "$SwitchMap$PivotChamber$Command" "[I") (List.mem_of_getElem? (i := 1) rfl)) (fun _ h => h) dX6_faultOf_6 ?_
  refine lv_aload_n hx hb dX6_faultOf_9 rfl (lv_at hl 1 rfl) ?_
  refine rd_goi (va_runU (As := []) (rest := [.ref (g 1)]) S (c_Jx29ce0_ordinal_8abf5 l D cy g B x0 hx0) (va_cwU 0 hts gX6_faultOf_Jx29ce0_ordinal_8abf5_u49X1 rfl rfl rfl rfl ⟨by decide, by decide, by decide +kernel⟩ ⟨Nat.le_of_ble_eq_true rfl, Nat.le_of_ble_eq_true rfl⟩) ⟨rdP_blind, va_recvE hK0.2.2.2.2.2.1 (i := x0) hx0 hS, my_preV hK0 hS hAB hP [] rfl⟩ rfl rfl hl.1 rfl (lv_room (Nat.le_of_ble_eq_true rfl)) dX6_faultOf_10 ⟨Nat.zero_le _, Nat.zero_le _⟩) ?_
  refine va_ti hx hb hK0.2.2.2.1.2 hS (vp_in_nI hx0 (by decide)) (v := .int (nI (x0 + 1))) (by rw [nI_clamp (Nat.lt_trans hx0 (by decide))]) dX6_faultOf_13 ?_
  by_cases h14_0 : (nI (x0 + 1)) = 1
  · refine lv_tableIn (off := 42) (tgt := 56) hx hb dX6_faultOf_14 (by rw [h14_0]; decide) (by rw [h14_0]; decide) (by rw [h14_0]; rfl) (by decide) ?_
    refine lv_iload_n hx hb dX6_faultOf_56 rfl (lv_at hl 2 rfl) ?_
    refine lv_iconst (v := 0) hx hb dX6_faultOf_57 (by decide) ?_
    refine lv_bipush (v := 50) hx hb dX6_faultOf_58 (by decide) ?_
    refine rd_goi (va_runSN (As := [.int x1, .int 0, .int 50]) (rest := []) S (c_X7_faultOfRange l D cy g B x1 0 50) ⟨va_cnB 3 hts gX6_faultOf_X7_faultOfRange_n55 rfl rfl rfl (hK0.2.1.1.m 7 rfl) (hts (.initialized RX7) (List.mem_of_getElem? (i := 12) rfl)) hd_X7_faultOfRange_S ⟨Nat.le_of_ble_eq_true rfl, Nat.le_of_ble_eq_true rfl⟩, (hts (.static yX7_faultOfRange) (List.mem_of_getElem? (i := 11) rfl)), trivial⟩ ⟨rdP_blind, my_preV hK0 hS hAB hP [] rfl⟩ rfl rfl hl.1 rfl (lv_room (Nat.le_of_ble_eq_true rfl)) dX6_faultOf_60 ⟨Nat.zero_le _, Nat.zero_le _⟩) ?_
    refine lv_aload_n hx hb dX6_faultOf_63 rfl (lv_at hl 0 rfl) ?_
    refine va_get (D := D) (ci := 4) (v := .int v.1) (C := RX6) (T := TX6) (N := 7) hx hb hts inX6 hown hK0.1 hP 0 rfl rfl 0 (by decide) (hts (.fieldLink RX6 33 "PivotChamber$Setting" "members" "I") (List.mem_of_getElem? (i := 2) rfl)) (fun _ h9 => h9) rfl dX6_faultOf_64 ?_
    refine lv_bipush (v := 8) hx hb dX6_faultOf_67 (by decide) ?_
    refine lv_icmp_lt (tgt := 76) hx hb dX6_faultOf_69 (by decide) (fun c_1 => ?_) (fun c_1 => ?_)
    · refine lv_iconst (v := 0) hx hb dX6_faultOf_76 (by decide) ?_
      refine rd_goi (va_runS (As := [.int (f_X7_faultOfRange x1 0 50), .int 0]) (rest := []) S (c_X6_worse l D cy g B (f_X7_faultOfRange x1 0 50) 0) (va_cwS 2 hts gX6_faultOf_X6_worse rfl rfl rfl hd_X6_worse_S ⟨Nat.le_of_ble_eq_true rfl, Nat.le_of_ble_eq_true rfl⟩) ⟨rdP_blind, my_preV hK0 hS hAB hP [] rfl⟩ rfl rfl hl.1 rfl (lv_room (Nat.le_of_ble_eq_true rfl)) dX6_faultOf_77 ⟨Nat.zero_le _, Nat.zero_le _⟩) ?_
      exact W.iret hx hb hr (fun t ht hW => ⟨(f_X6_worse (f_X7_faultOfRange x1 0 50) 0), rfl, (show f_X6_faultOf v x0 x1 x2 = (f_X6_worse (f_X7_faultOfRange x1 0 50) 0) from by rw [f_X6_faultOf, if_pos h14_0, if_pos c_1]).symm, ht⟩) (fun q hq => absurd hq List.not_mem_nil) dX6_faultOf_80
    · refine lv_iconst (v := 3) hx hb dX6_faultOf_72 (by decide) ?_
      refine lv_goto (tgt := 77) hx hb dX6_faultOf_73 (by decide) ?_
      refine rd_goi (va_runS (As := [.int (f_X7_faultOfRange x1 0 50), .int 3]) (rest := []) S (c_X6_worse l D cy g B (f_X7_faultOfRange x1 0 50) 3) (va_cwS 2 hts gX6_faultOf_X6_worse rfl rfl rfl hd_X6_worse_S ⟨Nat.le_of_ble_eq_true rfl, Nat.le_of_ble_eq_true rfl⟩) ⟨rdP_blind, my_preV hK0 hS hAB hP [] rfl⟩ rfl rfl hl.1 rfl (lv_room (Nat.le_of_ble_eq_true rfl)) dX6_faultOf_77 ⟨Nat.zero_le _, Nat.zero_le _⟩) ?_
      exact W.iret hx hb hr (fun t ht hW => ⟨(f_X6_worse (f_X7_faultOfRange x1 0 50) 3), rfl, (show f_X6_faultOf v x0 x1 x2 = (f_X6_worse (f_X7_faultOfRange x1 0 50) 3) from by rw [f_X6_faultOf, if_pos h14_0, if_neg c_1]).symm, ht⟩) (fun q hq => absurd hq List.not_mem_nil) dX6_faultOf_80
  · by_cases h14_1 : (nI (x0 + 1)) = 2
    · refine lv_tableIn (off := 67) (tgt := 81) hx hb dX6_faultOf_14 (by rw [h14_1]; decide) (by rw [h14_1]; decide) (by rw [h14_1]; rfl) (by decide) ?_
      refine lv_aload_n hx hb dX6_faultOf_81 rfl (lv_at hl 0 rfl) ?_
      refine lv_iload_n hx hb dX6_faultOf_82 rfl (lv_at hl 2 rfl) ?_
      refine rd_goi (va_runV (C := RX6) (As := [.int x1]) (rest := []) S (c_X6_faultOfMember l D cy g B a v x1) (cwV 1 hts gX6_faultOf_X6_faultOfMember rfl rfl rfl hd_X6_faultOfMember_V ⟨Nat.le_of_ble_eq_true rfl, Nat.le_of_ble_eq_true rfl⟩) ⟨rdP_blind, va_recv hK0.1 hP (ci := 4) (q0 := 0) rfl rfl, my_preP hK0 hS hAB hP⟩ rfl rfl hl.1 rfl (lv_room (Nat.le_of_ble_eq_true rfl)) dX6_faultOf_83 ⟨Nat.zero_le _, Nat.zero_le _⟩) ?_
      refine lv_iload_n hx hb dX6_faultOf_86 rfl (lv_at hl 3 rfl) ?_
      refine lv_iconst (v := 0) hx hb dX6_faultOf_87 (by decide) ?_
      refine lv_bipush (v := 50) hx hb dX6_faultOf_88 (by decide) ?_
      refine rd_goi (va_runSN (As := [.int x2, .int 0, .int 50]) (rest := [.int (f_X6_faultOfMember v x1)]) S (c_X7_faultOfRange l D cy g B x2 0 50) ⟨va_cnB 3 hts gX6_faultOf_X7_faultOfRange_n55 rfl rfl rfl (hK0.2.1.1.m 7 rfl) (hts (.initialized RX7) (List.mem_of_getElem? (i := 12) rfl)) hd_X7_faultOfRange_S ⟨Nat.le_of_ble_eq_true rfl, Nat.le_of_ble_eq_true rfl⟩, (hts (.static yX7_faultOfRange) (List.mem_of_getElem? (i := 11) rfl)), trivial⟩ ⟨rdP_blind, my_preV hK0 hS hAB hP [] rfl⟩ rfl rfl hl.1 rfl (lv_room (Nat.le_of_ble_eq_true rfl)) dX6_faultOf_90 ⟨Nat.zero_le _, Nat.zero_le _⟩) ?_
      refine rd_goi (va_runS (As := [.int (f_X6_faultOfMember v x1), .int (f_X7_faultOfRange x2 0 50)]) (rest := []) S (c_X6_worse l D cy g B (f_X6_faultOfMember v x1) (f_X7_faultOfRange x2 0 50)) (va_cwS 2 hts gX6_faultOf_X6_worse rfl rfl rfl hd_X6_worse_S ⟨Nat.le_of_ble_eq_true rfl, Nat.le_of_ble_eq_true rfl⟩) ⟨rdP_blind, my_preV hK0 hS hAB hP [] rfl⟩ rfl rfl hl.1 rfl (lv_room (Nat.le_of_ble_eq_true rfl)) dX6_faultOf_93 ⟨Nat.zero_le _, Nat.zero_le _⟩) ?_
      exact W.iret hx hb hr (fun t ht hW => ⟨(f_X6_worse (f_X6_faultOfMember v x1) (f_X7_faultOfRange x2 0 50)), rfl, (show f_X6_faultOf v x0 x1 x2 = (f_X6_worse (f_X6_faultOfMember v x1) (f_X7_faultOfRange x2 0 50)) from by rw [f_X6_faultOf, if_neg h14_0, if_pos h14_1]).symm, ht⟩) (fun q hq => absurd hq List.not_mem_nil) dX6_faultOf_96
    · by_cases h14_2 : (nI (x0 + 1)) = 3
      · refine lv_tableIn (off := 83) (tgt := 97) hx hb dX6_faultOf_14 (by rw [h14_2]; decide) (by rw [h14_2]; decide) (by rw [h14_2]; rfl) (by decide) ?_
        refine lv_iload_n hx hb dX6_faultOf_97 rfl (lv_at hl 2 rfl) ?_
        refine lv_iconst (v := 1) hx hb dX6_faultOf_98 (by decide) ?_
        refine lv_sipush (v := 400) hx hb dX6_faultOf_99 (by decide) ?_
        refine rd_goi (va_runSN (As := [.int x1, .int 1, .int 400]) (rest := []) S (c_X7_faultOfRange l D cy g B x1 1 400) ⟨va_cnB 3 hts gX6_faultOf_X7_faultOfRange_n55 rfl rfl rfl (hK0.2.1.1.m 7 rfl) (hts (.initialized RX7) (List.mem_of_getElem? (i := 12) rfl)) hd_X7_faultOfRange_S ⟨Nat.le_of_ble_eq_true rfl, Nat.le_of_ble_eq_true rfl⟩, (hts (.static yX7_faultOfRange) (List.mem_of_getElem? (i := 11) rfl)), trivial⟩ ⟨rdP_blind, my_preV hK0 hS hAB hP [] rfl⟩ rfl rfl hl.1 rfl (lv_room (Nat.le_of_ble_eq_true rfl)) dX6_faultOf_102 ⟨Nat.zero_le _, Nat.zero_le _⟩) ?_
        exact W.iret hx hb hr (fun t ht hW => ⟨(f_X7_faultOfRange x1 1 400), rfl, (show f_X6_faultOf v x0 x1 x2 = (f_X7_faultOfRange x1 1 400) from by rw [f_X6_faultOf, if_neg h14_0, if_neg h14_1, if_pos h14_2]).symm, ht⟩) (fun q hq => absurd hq List.not_mem_nil) dX6_faultOf_105
      · by_cases h14_3 : (nI (x0 + 1)) = 4
        · refine lv_tableIn (off := 92) (tgt := 106) hx hb dX6_faultOf_14 (by rw [h14_3]; decide) (by rw [h14_3]; decide) (by rw [h14_3]; rfl) (by decide) ?_
          refine lv_aload_n hx hb dX6_faultOf_106 rfl (lv_at hl 0 rfl) ?_
          refine lv_iload_n hx hb dX6_faultOf_107 rfl (lv_at hl 2 rfl) ?_
          refine lv_iload_n hx hb dX6_faultOf_108 rfl (lv_at hl 3 rfl) ?_
          refine rd_goi (va_runV (C := RX6) (As := [.int x1, .int x2]) (rest := []) S (c_X6_faultOfTwo l D cy g B a v x1 x2) (cwV 2 hts gX6_faultOf_X6_faultOfTwo rfl rfl rfl hd_X6_faultOfTwo_V ⟨Nat.le_of_ble_eq_true rfl, Nat.le_of_ble_eq_true rfl⟩) ⟨rdP_blind, va_recv hK0.1 hP (ci := 4) (q0 := 0) rfl rfl, my_preP hK0 hS hAB hP⟩ rfl rfl hl.1 rfl (lv_room (Nat.le_of_ble_eq_true rfl)) dX6_faultOf_109 ⟨Nat.zero_le _, Nat.zero_le _⟩) ?_
          refine lv_aload_n hx hb dX6_faultOf_112 rfl (lv_at hl 0 rfl) ?_
          refine lv_iload_n hx hb dX6_faultOf_113 rfl (lv_at hl 2 rfl) ?_
          refine lv_iload_n hx hb dX6_faultOf_114 rfl (lv_at hl 3 rfl) ?_
          refine rd_goi (va_runV (C := RX6) (As := [.int x1, .int x2]) (rest := [.int (f_X6_faultOfTwo v x1 x2)]) S (c_X6_mayFollow l D cy g B a v x1 x2) (cwV 2 hts gX6_faultOf_X6_mayFollow rfl rfl rfl hd_X6_mayFollow_V ⟨Nat.le_of_ble_eq_true rfl, Nat.le_of_ble_eq_true rfl⟩) ⟨rdP_blind, va_recv hK0.1 hP (ci := 4) (q0 := 0) rfl rfl, my_preP hK0 hS hAB hP⟩ rfl rfl hl.1 rfl (lv_room (Nat.le_of_ble_eq_true rfl)) dX6_faultOf_115 ⟨Nat.zero_le _, Nat.zero_le _⟩) ?_
          refine lv_if_eq (tgt := 125) hx hb dX6_faultOf_118 (by decide) (fun c_2 => ?_) (fun c_2 => ?_)
          · refine lv_iconst (v := 3) hx hb dX6_faultOf_125 (by decide) ?_
            refine rd_goi (va_runS (As := [.int (f_X6_faultOfTwo v x1 x2), .int 3]) (rest := []) S (c_X6_worse l D cy g B (f_X6_faultOfTwo v x1 x2) 3) (va_cwS 2 hts gX6_faultOf_X6_worse rfl rfl rfl hd_X6_worse_S ⟨Nat.le_of_ble_eq_true rfl, Nat.le_of_ble_eq_true rfl⟩) ⟨rdP_blind, my_preV hK0 hS hAB hP [] rfl⟩ rfl rfl hl.1 rfl (lv_room (Nat.le_of_ble_eq_true rfl)) dX6_faultOf_126 ⟨Nat.zero_le _, Nat.zero_le _⟩) ?_
            exact W.iret hx hb hr (fun t ht hW => ⟨(f_X6_worse (f_X6_faultOfTwo v x1 x2) 3), rfl, (show f_X6_faultOf v x0 x1 x2 = (f_X6_worse (f_X6_faultOfTwo v x1 x2) 3) from by rw [f_X6_faultOf, if_neg h14_0, if_neg h14_1, if_neg h14_2, if_pos h14_3, if_pos c_2]).symm, ht⟩) (fun q hq => absurd hq List.not_mem_nil) dX6_faultOf_129
          · refine lv_iconst (v := 0) hx hb dX6_faultOf_121 (by decide) ?_
            refine lv_goto (tgt := 126) hx hb dX6_faultOf_122 (by decide) ?_
            refine rd_goi (va_runS (As := [.int (f_X6_faultOfTwo v x1 x2), .int 0]) (rest := []) S (c_X6_worse l D cy g B (f_X6_faultOfTwo v x1 x2) 0) (va_cwS 2 hts gX6_faultOf_X6_worse rfl rfl rfl hd_X6_worse_S ⟨Nat.le_of_ble_eq_true rfl, Nat.le_of_ble_eq_true rfl⟩) ⟨rdP_blind, my_preV hK0 hS hAB hP [] rfl⟩ rfl rfl hl.1 rfl (lv_room (Nat.le_of_ble_eq_true rfl)) dX6_faultOf_126 ⟨Nat.zero_le _, Nat.zero_le _⟩) ?_
            exact W.iret hx hb hr (fun t ht hW => ⟨(f_X6_worse (f_X6_faultOfTwo v x1 x2) 0), rfl, (show f_X6_faultOf v x0 x1 x2 = (f_X6_worse (f_X6_faultOfTwo v x1 x2) 0) from by rw [f_X6_faultOf, if_neg h14_0, if_neg h14_1, if_neg h14_2, if_pos h14_3, if_neg c_2]).symm, ht⟩) (fun q hq => absurd hq List.not_mem_nil) dX6_faultOf_129
        · by_cases h14_4 : (nI (x0 + 1)) = 5
          · refine lv_tableIn (off := 116) (tgt := 130) hx hb dX6_faultOf_14 (by rw [h14_4]; decide) (by rw [h14_4]; decide) (by rw [h14_4]; rfl) (by decide) ?_
            refine lv_aload_n hx hb dX6_faultOf_130 rfl (lv_at hl 0 rfl) ?_
            refine lv_iload_n hx hb dX6_faultOf_131 rfl (lv_at hl 2 rfl) ?_
            refine rd_goi (va_runV (C := RX6) (As := [.int x1]) (rest := []) S (c_X6_faultOfMember l D cy g B a v x1) (cwV 1 hts gX6_faultOf_X6_faultOfMember rfl rfl rfl hd_X6_faultOfMember_V ⟨Nat.le_of_ble_eq_true rfl, Nat.le_of_ble_eq_true rfl⟩) ⟨rdP_blind, va_recv hK0.1 hP (ci := 4) (q0 := 0) rfl rfl, my_preP hK0 hS hAB hP⟩ rfl rfl hl.1 rfl (lv_room (Nat.le_of_ble_eq_true rfl)) dX6_faultOf_132 ⟨Nat.zero_le _, Nat.zero_le _⟩) ?_
            refine lv_aload_n hx hb dX6_faultOf_135 rfl (lv_at hl 0 rfl) ?_
            refine lv_iload_n hx hb dX6_faultOf_136 rfl (lv_at hl 2 rfl) ?_
            refine rd_goi (va_runV (C := RX6) (As := [.int x1]) (rest := [.int (f_X6_faultOfMember v x1)]) S (c_X6_isPlayer l D cy g B a v x1) (cwV 1 hts gX6_faultOf_X6_isPlayer rfl rfl rfl hd_X6_isPlayer_V ⟨Nat.le_of_ble_eq_true rfl, Nat.le_of_ble_eq_true rfl⟩) ⟨rdP_blind, va_recv hK0.1 hP (ci := 4) (q0 := 0) rfl rfl, my_preP hK0 hS hAB hP⟩ rfl rfl hl.1 rfl (lv_room (Nat.le_of_ble_eq_true rfl)) dX6_faultOf_137 ⟨Nat.zero_le _, Nat.zero_le _⟩) ?_
            refine lv_if_eq (tgt := 147) hx hb dX6_faultOf_140 (by decide) (fun c_3 => ?_) (fun c_3 => ?_)
            · refine lv_iconst (v := 0) hx hb dX6_faultOf_147 (by decide) ?_
              refine rd_goi (va_runS (As := [.int (f_X6_faultOfMember v x1), .int 0]) (rest := []) S (c_X6_worse l D cy g B (f_X6_faultOfMember v x1) 0) (va_cwS 2 hts gX6_faultOf_X6_worse rfl rfl rfl hd_X6_worse_S ⟨Nat.le_of_ble_eq_true rfl, Nat.le_of_ble_eq_true rfl⟩) ⟨rdP_blind, my_preV hK0 hS hAB hP [] rfl⟩ rfl rfl hl.1 rfl (lv_room (Nat.le_of_ble_eq_true rfl)) dX6_faultOf_148 ⟨Nat.zero_le _, Nat.zero_le _⟩) ?_
              exact W.iret hx hb hr (fun t ht hW => ⟨(f_X6_worse (f_X6_faultOfMember v x1) 0), rfl, (show f_X6_faultOf v x0 x1 x2 = (f_X6_worse (f_X6_faultOfMember v x1) 0) from by rw [f_X6_faultOf, if_neg h14_0, if_neg h14_1, if_neg h14_2, if_neg h14_3, if_pos h14_4, if_pos c_3]).symm, ht⟩) (fun q hq => absurd hq List.not_mem_nil) dX6_faultOf_151
            · refine lv_iconst (v := 3) hx hb dX6_faultOf_143 (by decide) ?_
              refine lv_goto (tgt := 148) hx hb dX6_faultOf_144 (by decide) ?_
              refine rd_goi (va_runS (As := [.int (f_X6_faultOfMember v x1), .int 3]) (rest := []) S (c_X6_worse l D cy g B (f_X6_faultOfMember v x1) 3) (va_cwS 2 hts gX6_faultOf_X6_worse rfl rfl rfl hd_X6_worse_S ⟨Nat.le_of_ble_eq_true rfl, Nat.le_of_ble_eq_true rfl⟩) ⟨rdP_blind, my_preV hK0 hS hAB hP [] rfl⟩ rfl rfl hl.1 rfl (lv_room (Nat.le_of_ble_eq_true rfl)) dX6_faultOf_148 ⟨Nat.zero_le _, Nat.zero_le _⟩) ?_
              exact W.iret hx hb hr (fun t ht hW => ⟨(f_X6_worse (f_X6_faultOfMember v x1) 3), rfl, (show f_X6_faultOf v x0 x1 x2 = (f_X6_worse (f_X6_faultOfMember v x1) 3) from by rw [f_X6_faultOf, if_neg h14_0, if_neg h14_1, if_neg h14_2, if_neg h14_3, if_pos h14_4, if_neg c_3]).symm, ht⟩) (fun q hq => absurd hq List.not_mem_nil) dX6_faultOf_151
          · by_cases h14_5 : (nI (x0 + 1)) = 6
            · refine lv_tableIn (off := 138) (tgt := 152) hx hb dX6_faultOf_14 (by rw [h14_5]; decide) (by rw [h14_5]; decide) (by rw [h14_5]; rfl) (by decide) ?_
              refine lv_aload_n hx hb dX6_faultOf_152 rfl (lv_at hl 0 rfl) ?_
              refine lv_iload_n hx hb dX6_faultOf_153 rfl (lv_at hl 2 rfl) ?_
              refine lv_iload_n hx hb dX6_faultOf_154 rfl (lv_at hl 3 rfl) ?_
              refine rd_goi (va_runV (C := RX6) (As := [.int x1, .int x2]) (rest := []) S (c_X6_faultOfNewRule l D cy g B a v x1 x2) (cwV 2 hts gX6_faultOf_X6_faultOfNewRule rfl rfl rfl hd_X6_faultOfNewRule_V ⟨Nat.le_of_ble_eq_true rfl, Nat.le_of_ble_eq_true rfl⟩) ⟨rdP_blind, va_recv hK0.1 hP (ci := 4) (q0 := 0) rfl rfl, my_preP hK0 hS hAB hP⟩ rfl rfl hl.1 rfl (lv_room (Nat.le_of_ble_eq_true rfl)) dX6_faultOf_155 ⟨Nat.zero_le _, Nat.zero_le _⟩) ?_
              refine lv_aload_n hx hb dX6_faultOf_158 rfl (lv_at hl 0 rfl) ?_
              refine va_get (D := D) (ci := 4) (v := .int v.2.2.1) (C := RX6) (T := TX6) (N := 7) hx hb hts inX6 hown hK0.1 hP 0 rfl rfl 4 (by decide) (hts (.fieldLink RX6 40 "PivotChamber$Setting" "rules" "I") (List.mem_of_getElem? (i := 3) rfl)) (fun _ h9 => h9) rfl dX6_faultOf_159 ?_
              refine lv_iconst (v := 4) hx hb dX6_faultOf_162 (by decide) ?_
              refine lv_icmp_lt (tgt := 170) hx hb dX6_faultOf_163 (by decide) (fun c_4 => ?_) (fun c_4 => ?_)
              · refine lv_iconst (v := 0) hx hb dX6_faultOf_170 (by decide) ?_
                refine rd_goi (va_runS (As := [.int (f_X6_faultOfNewRule v x1 x2), .int 0]) (rest := []) S (c_X6_worse l D cy g B (f_X6_faultOfNewRule v x1 x2) 0) (va_cwS 2 hts gX6_faultOf_X6_worse rfl rfl rfl hd_X6_worse_S ⟨Nat.le_of_ble_eq_true rfl, Nat.le_of_ble_eq_true rfl⟩) ⟨rdP_blind, my_preV hK0 hS hAB hP [] rfl⟩ rfl rfl hl.1 rfl (lv_room (Nat.le_of_ble_eq_true rfl)) dX6_faultOf_171 ⟨Nat.zero_le _, Nat.zero_le _⟩) ?_
                exact W.iret hx hb hr (fun t ht hW => ⟨(f_X6_worse (f_X6_faultOfNewRule v x1 x2) 0), rfl, (show f_X6_faultOf v x0 x1 x2 = (f_X6_worse (f_X6_faultOfNewRule v x1 x2) 0) from by rw [f_X6_faultOf, if_neg h14_0, if_neg h14_1, if_neg h14_2, if_neg h14_3, if_neg h14_4, if_pos h14_5, if_pos c_4]).symm, ht⟩) (fun q hq => absurd hq List.not_mem_nil) dX6_faultOf_174
              · refine lv_iconst (v := 3) hx hb dX6_faultOf_166 (by decide) ?_
                refine lv_goto (tgt := 171) hx hb dX6_faultOf_167 (by decide) ?_
                refine rd_goi (va_runS (As := [.int (f_X6_faultOfNewRule v x1 x2), .int 3]) (rest := []) S (c_X6_worse l D cy g B (f_X6_faultOfNewRule v x1 x2) 3) (va_cwS 2 hts gX6_faultOf_X6_worse rfl rfl rfl hd_X6_worse_S ⟨Nat.le_of_ble_eq_true rfl, Nat.le_of_ble_eq_true rfl⟩) ⟨rdP_blind, my_preV hK0 hS hAB hP [] rfl⟩ rfl rfl hl.1 rfl (lv_room (Nat.le_of_ble_eq_true rfl)) dX6_faultOf_171 ⟨Nat.zero_le _, Nat.zero_le _⟩) ?_
                exact W.iret hx hb hr (fun t ht hW => ⟨(f_X6_worse (f_X6_faultOfNewRule v x1 x2) 3), rfl, (show f_X6_faultOf v x0 x1 x2 = (f_X6_worse (f_X6_faultOfNewRule v x1 x2) 3) from by rw [f_X6_faultOf, if_neg h14_0, if_neg h14_1, if_neg h14_2, if_neg h14_3, if_neg h14_4, if_pos h14_5, if_neg c_4]).symm, ht⟩) (fun q hq => absurd hq List.not_mem_nil) dX6_faultOf_174
            · by_cases h14_6 : (nI (x0 + 1)) = 7
              · refine lv_tableIn (off := 161) (tgt := 175) hx hb dX6_faultOf_14 (by rw [h14_6]; decide) (by rw [h14_6]; decide) (by rw [h14_6]; rfl) (by decide) ?_
                refine lv_aload_n hx hb dX6_faultOf_175 rfl (lv_at hl 0 rfl) ?_
                refine lv_iload_n hx hb dX6_faultOf_176 rfl (lv_at hl 2 rfl) ?_
                refine rd_goi (va_runV (C := RX6) (As := [.int x1]) (rest := []) S (c_X6_faultOfRule l D cy g B a v x1) (cwV 1 hts gX6_faultOf_X6_faultOfRule rfl rfl rfl hd_X6_faultOfRule_V ⟨Nat.le_of_ble_eq_true rfl, Nat.le_of_ble_eq_true rfl⟩) ⟨rdP_blind, va_recv hK0.1 hP (ci := 4) (q0 := 0) rfl rfl, my_preP hK0 hS hAB hP⟩ rfl rfl hl.1 rfl (lv_room (Nat.le_of_ble_eq_true rfl)) dX6_faultOf_177 ⟨Nat.zero_le _, Nat.zero_le _⟩) ?_
                exact W.iret hx hb hr (fun t ht hW => ⟨(f_X6_faultOfRule v x1), rfl, (show f_X6_faultOf v x0 x1 x2 = (f_X6_faultOfRule v x1) from by rw [f_X6_faultOf, if_neg h14_0, if_neg h14_1, if_neg h14_2, if_neg h14_3, if_neg h14_4, if_neg h14_5, if_pos h14_6]).symm, ht⟩) (fun q hq => absurd hq List.not_mem_nil) dX6_faultOf_180
              · refine lv_tableOut (tgt := 181) hx hb dX6_faultOf_14 (by have t1 : (nI (x0 + 1)).toInt ≠ 1 := my_ne h14_0 rfl; have t2 : (nI (x0 + 1)).toInt ≠ 2 := my_ne h14_1 rfl; have t3 : (nI (x0 + 1)).toInt ≠ 3 := my_ne h14_2 rfl; have t4 : (nI (x0 + 1)).toInt ≠ 4 := my_ne h14_3 rfl; have t5 : (nI (x0 + 1)).toInt ≠ 5 := my_ne h14_4 rfl; have t6 : (nI (x0 + 1)).toInt ≠ 6 := my_ne h14_5 rfl; have t7 : (nI (x0 + 1)).toInt ≠ 7 := my_ne h14_6 rfl; omega) (by decide) ?_
                refine lv_iconst (v := 2) hx hb dX6_faultOf_181 (by decide) ?_
                exact W.iret hx hb hr (fun t ht hW => ⟨2, rfl, (show f_X6_faultOf v x0 x1 x2 = 2 from by rw [f_X6_faultOf, if_neg h14_0, if_neg h14_1, if_neg h14_2, if_neg h14_3, if_neg h14_4, if_neg h14_5, if_neg h14_6]).symm, ht⟩) (fun q hq => absurd hq List.not_mem_nil) dX6_faultOf_182
def f_X6_faultOf_null (v : SetV) (x1 : Int32) (x2 : Int32) : Int32 := 2
set_option maxHeartbeats 400000 in
set_option maxRecDepth 100000 in
theorem c_X6_faultOf_null (l : Launch) (D : va_G) (cy : Nat → ClassId) (g : Nat → Nat) (B : Nat) (a : Nat → Nat) (v : SetV) (x1 : Int32) (x2 : Int32) : Met l yX6_faultOf wsX6_faultOf ({ frames := 0, cells := 0, slots := 0, locals := 0 }) (rdP D cy g B (wSet cy a v) [.ref (a 0), .null, .int x1, .int x2]) (vp_Si (fun r => r = f_X6_faultOf_null v x1 x2)) 0 0 (fun _ => False) := by
  refine Met.ofW (cc := cX6_faultOf) (maxL := 4) (ret := (some .int)) (by decide) rfl ?_
  intro p e s m args below meth c s₁ BB hml hv
  obtain ⟨rfl, hP, hK0⟩ := hv
  have hx := BB.exec
  have hb := BB.bytes
  have hr := BB.returns
  have hts := atoms_spec (ws := wsX6_faultOf) BB.pre
  have hown : s.vm.findClass RX6 = some m.cls := findClass_of_methodNamed BB.named
  have hlocks := BB.notSynchronized
  have S := my_fix hx hb hml hown hts
  have hS : va_S (fun q => B ≤ q) s.heap s.heap [] := va_S.rf
  have hAB : ∀ q : Nat, (fun q => B ≤ q) q → B ≤ q := fun _ h => h
  have hl := lv_entry ([.ref (a 0), .null, .int x1, .int x2]) (n := 4) (Nat.le_of_ble_eq_true rfl)
  rw [lg_entry_eq]
  generalize (lg_sl ([.ref (a 0), .null, .int x1, .int x2]) ++ List.replicate (4 - (lg_sl ([.ref (a 0), .null, .int x1, .int x2])).length) Slot.unset).toArray = ls at hl ⊢
  have hl : lv_has ls 4 [(0, .ref (a 0)), (1, .null), (2, .int x1), (3, .int x2)] := hl
  refine lv_aload_nN hx hb dX6_faultOf_0 rfl (lv_at hl 1 rfl) ?_
  refine lv_ifnonnullN hx hb dX6_faultOf_1 ?_
  refine lv_iconst (v := 2) hx hb dX6_faultOf_4 (by decide) ?_
  exact W.iret hx hb hr (fun t ht hW => ⟨2, rfl, (show f_X6_faultOf_null v x1 x2 = 2 from by rw [f_X6_faultOf_null]).symm, ht⟩) (fun q hq => absurd hq List.not_mem_nil) dX6_faultOf_5
theorem hd_X6_carryOut_S : yX6_carryOut.cls ≠ "java/lang/invoke/MethodHandle" ∧ yX6_carryOut.cls ≠ "java/lang/invoke/VarHandle" ∧ (parseMethodDescriptor yX6_carryOut.desc).map (fun d => d.parameters.length) = some 3 := by decide +kernel
theorem hd_X6_carryOut_V : yX6_carryOut.cls = RX6 ∧ yX6_carryOut.cls ≠ "java/lang/invoke/MethodHandle" ∧ yX6_carryOut.cls ≠ "java/lang/invoke/VarHandle" ∧ (parseMethodDescriptor yX6_carryOut.desc).map (fun d => d.parameters.length) = some 3 := ⟨rfl, hd_X6_carryOut_S⟩
def f_X6_carryOut (v : SetV) (x0 : Nat) (x1 : Int32) (x2 : Int32) : Int32 × SetV := (if (nI (x0 + 1)) = 1 then (my_b (f_X6_enrol v x1) (fun (r_3 : Int32) (u_1 : SetV) => (r_3, u_1))) else (if (nI (x0 + 1)) = 2 then (my_b (f_X6_weigh v x1 x2) (fun (r_6 : Int32) (u_4 : SetV) => (r_6, u_4))) else (if (nI (x0 + 1)) = 3 then (my_b (f_X6_changeQuota v x1) (fun (r_9 : Int32) (u_7 : SetV) => (r_9, u_7))) else (if (nI (x0 + 1)) = 4 then ((f_X6_weightOf (v.1, v.2.1, v.2.2.1, v.2.2.2.1, (rPut 8 v.2.2.2.2.1 x1 x2), v.2.2.2.2.2) (f_X6_blocOf (v.1, v.2.1, v.2.2.1, v.2.2.2.1, (rPut 8 v.2.2.2.2.1 x1 x2), v.2.2.2.2.2) x2)), (v.1, v.2.1, v.2.2.1, v.2.2.2.1, (rPut 8 v.2.2.2.2.1 x1 x2), v.2.2.2.2.2)) else (if (nI (x0 + 1)) = 5 then (my_b (f_X6_release v x1) (fun (r_14 : Int32) (u_12 : SetV) => (r_14, u_12))) else (if (nI (x0 + 1)) = 6 then (my_b (f_X6_appendRule v x1 x2) (fun (r_17 : Int32) (u_15 : SetV) => (r_17, u_15))) else (if (nI (x0 + 1)) = 7 then (my_b (f_X6_removeRule v x1) (fun (r_20 : Int32) (u_18 : SetV) => (r_20, u_18))) else ((-1), v))))))))
set_option maxHeartbeats 400000 in
set_option maxRecDepth 100000 in
theorem c_X6_carryOut (l : Launch) (D : va_G) (cy : Nat → ClassId) (g : Nat → Nat) (B : Nat) (a : Nat → Nat) (v : SetV) (x0 : Nat) (x1 : Int32) (x2 : Int32) (hx0 : x0 < 7) : Met l yX6_carryOut wsX6_carryOut ({ frames := 3, cells := 0, slots := 0, locals := 65 }) (muP D cy g B (wSet cy a v) [.ref (a 0), .ref (g (10 + x0)), .int x1, .int x2]) (va_Qi (fun (r : Int32) (u : SetV) => f_X6_carryOut v x0 x1 x2 = (r, u)) (fun u t => va_P D vwCl (wSet cy a u) t.heap) (muA (wSet cy a v))) 0 0 (muA (wSet cy a v)) := by
  refine Met.ofW (cc := cX6_carryOut) (maxL := 4) (ret := (some .int)) (by decide) rfl ?_
  intro p e s m args below meth c s₁ BB hml hv
  obtain ⟨rfl, hP, hK0, hD0⟩ := hv
  have hx := BB.exec
  have hb := BB.bytes
  have hr := BB.returns
  have hts := atoms_spec (ws := wsX6_carryOut) BB.pre
  have hown : s.vm.findClass RX6 = some m.cls := findClass_of_methodNamed BB.named
  have hlocks := BB.notSynchronized
  have S := my_fix hx hb hml hown hts
  have inX6 : ∀ w ∈ wsX60, w ∈ wsX6_carryOut := fun w h => List.mem_cons_of_mem _ (List.mem_append_left _ (List.mem_append_right _ h))
  have hAB := muB hD0
  have hD := muD hD0
  generalize hAe : muA (wSet cy a v) = A at hAB hD ⊢
  have hS : va_S A s.heap s.heap [] := va_S.rf
  have hl := lv_entry ([.ref (a 0), .ref (g (10 + x0)), .int x1, .int x2]) (n := 4) (Nat.le_of_ble_eq_true rfl)
  rw [lg_entry_eq]
  generalize (lg_sl ([.ref (a 0), .ref (g (10 + x0)), .int x1, .int x2]) ++ List.replicate (4 - (lg_sl ([.ref (a 0), .ref (g (10 + x0)), .int x1, .int x2])).length) Slot.unset).toArray = ls at hl ⊢
  have hl : lv_has ls 4 [(0, .ref (a 0)), (1, .ref (g (10 + x0))), (2, .int x1), (3, .int x2)] := hl
  refine lv_aload_n hx hb dX6_carryOut_0 rfl (lv_at hl 1 rfl) ?_
  refine lv_ifnonnull (tgt := 6) hx hb dX6_carryOut_1 (by decide) ?_
  refine va_gets hx hb (hK0.2.2.narrow hAB).2.1.1 hS hown (hts (.fieldLink RX6 43 "PivotChamber$1" "$SwitchMap$PivotChamber$Command" "[I") (List.mem_of_getElem? (i := 1) rfl)) (fun _ h => h) dX6_carryOut_6 ?_
  refine lv_aload_n hx hb dX6_carryOut_9 rfl (lv_at hl 1 rfl) ?_
  refine rd_goi (va_runU (As := []) (rest := [.ref (g 1)]) S (c_Jx29ce0_ordinal_8abf5 l D cy g B x0 hx0) (va_cwU 0 hts gX6_carryOut_Jx29ce0_ordinal_8abf5_u49X1 rfl rfl rfl rfl ⟨by decide, by decide, by decide +kernel⟩ ⟨Nat.le_of_ble_eq_true rfl, Nat.le_of_ble_eq_true rfl⟩) ⟨rdP_blind, va_recvE (hK0.2.2.narrow hAB).2.2.2.1 (i := x0) hx0 hS, my_preV hK0 hS hAB hP [] rfl⟩ rfl rfl hl.1 rfl (lv_room (Nat.le_of_ble_eq_true rfl)) dX6_carryOut_10 ⟨Nat.zero_le _, Nat.zero_le _⟩) ?_
  refine va_ti hx hb (hK0.2.2.narrow hAB).2.1.2 hS (vp_in_nI hx0 (by decide)) (v := .int (nI (x0 + 1))) (by rw [nI_clamp (Nat.lt_trans hx0 (by decide))]) dX6_carryOut_13 ?_
  by_cases h14_0 : (nI (x0 + 1)) = 1
  · refine lv_tableIn (off := 42) (tgt := 56) hx hb dX6_carryOut_14 (by rw [h14_0]; decide) (by rw [h14_0]; decide) (by rw [h14_0]; rfl) (by decide) ?_
    refine lv_aload_n hx hb dX6_carryOut_56 rfl (lv_at hl 0 rfl) ?_
    refine lv_iload_n hx hb dX6_carryOut_57 rfl (lv_at hl 2 rfl) ?_
    refine mu_alli (wf := fun (u_1 : SetV) => (wSet cy a u_1)) (va_runV (C := RX6) (As := [.int x1]) (rest := []) S (c_X6_enrol l D cy g B a v x1) (cwV 1 hts gX6_carryOut_X6_enrol rfl rfl rfl hd_X6_enrol_V ⟨Nat.le_of_ble_eq_true rfl, Nat.le_of_ble_eq_true rfl⟩) ⟨muP_blind, va_recv hK0.1 hP (ci := 4) (q0 := 0) rfl rfl, my_preA hK0 hS hAB hP hD⟩ rfl rfl hl.1 rfl (lv_room (Nat.le_of_ble_eq_true rfl)) dX6_carryOut_58 ⟨Nat.zero_le _, Nat.zero_le _⟩) hS hD (fun _ => by simp only [List.map_cons, List.map_nil, adrSet, adrSetE, adrPow, adrPowE, adrTxt, adrTxtE, adrSav, adrSavE, adrPCo, adrI, adrL]) (fun r_3 u_1 H locs hw_2 hP hD hS => ?_)
    exact W.iret hx hb hr (fun t ht hW => ⟨⟨r_3, u_1, rfl, (show f_X6_carryOut v x0 x1 x2 = (r_3, u_1) from by rw [f_X6_carryOut, if_pos h14_0, hw_2, my_b_eq]), by show va_P D vwCl _ t.heap; rw [ht]; exact hP⟩, hS.F ht⟩) hS.2.2 dX6_carryOut_61
  · by_cases h14_1 : (nI (x0 + 1)) = 2
    · refine lv_tableIn (off := 48) (tgt := 62) hx hb dX6_carryOut_14 (by rw [h14_1]; decide) (by rw [h14_1]; decide) (by rw [h14_1]; rfl) (by decide) ?_
      refine lv_aload_n hx hb dX6_carryOut_62 rfl (lv_at hl 0 rfl) ?_
      refine lv_iload_n hx hb dX6_carryOut_63 rfl (lv_at hl 2 rfl) ?_
      refine lv_iload_n hx hb dX6_carryOut_64 rfl (lv_at hl 3 rfl) ?_
      refine mu_alli (wf := fun (u_4 : SetV) => (wSet cy a u_4)) (va_runV (C := RX6) (As := [.int x1, .int x2]) (rest := []) S (c_X6_weigh l D cy g B a v x1 x2) (cwV 2 hts gX6_carryOut_X6_weigh rfl rfl rfl hd_X6_weigh_V ⟨Nat.le_of_ble_eq_true rfl, Nat.le_of_ble_eq_true rfl⟩) ⟨muP_blind, va_recv hK0.1 hP (ci := 4) (q0 := 0) rfl rfl, my_preA hK0 hS hAB hP hD⟩ rfl rfl hl.1 rfl (lv_room (Nat.le_of_ble_eq_true rfl)) dX6_carryOut_65 ⟨Nat.zero_le _, Nat.zero_le _⟩) hS hD (fun _ => by simp only [List.map_cons, List.map_nil, adrSet, adrSetE, adrPow, adrPowE, adrTxt, adrTxtE, adrSav, adrSavE, adrPCo, adrI, adrL]) (fun r_6 u_4 H locs hw_5 hP hD hS => ?_)
      exact W.iret hx hb hr (fun t ht hW => ⟨⟨r_6, u_4, rfl, (show f_X6_carryOut v x0 x1 x2 = (r_6, u_4) from by rw [f_X6_carryOut, if_neg h14_0, if_pos h14_1, hw_5, my_b_eq]), by show va_P D vwCl _ t.heap; rw [ht]; exact hP⟩, hS.F ht⟩) hS.2.2 dX6_carryOut_68
    · by_cases h14_2 : (nI (x0 + 1)) = 3
      · refine lv_tableIn (off := 55) (tgt := 69) hx hb dX6_carryOut_14 (by rw [h14_2]; decide) (by rw [h14_2]; decide) (by rw [h14_2]; rfl) (by decide) ?_
        refine lv_aload_n hx hb dX6_carryOut_69 rfl (lv_at hl 0 rfl) ?_
        refine lv_iload_n hx hb dX6_carryOut_70 rfl (lv_at hl 2 rfl) ?_
        refine mu_alli (wf := fun (u_7 : SetV) => (wSet cy a u_7)) (va_runV (C := RX6) (As := [.int x1]) (rest := []) S (c_X6_changeQuota l D cy g B a v x1) (cwV 1 hts gX6_carryOut_X6_changeQuota rfl rfl rfl hd_X6_changeQuota_V ⟨Nat.le_of_ble_eq_true rfl, Nat.le_of_ble_eq_true rfl⟩) ⟨muP_blind, va_recv hK0.1 hP (ci := 4) (q0 := 0) rfl rfl, my_preA hK0 hS hAB hP hD⟩ rfl rfl hl.1 rfl (lv_room (Nat.le_of_ble_eq_true rfl)) dX6_carryOut_71 ⟨Nat.zero_le _, Nat.zero_le _⟩) hS hD (fun _ => by simp only [List.map_cons, List.map_nil, adrSet, adrSetE, adrPow, adrPowE, adrTxt, adrTxtE, adrSav, adrSavE, adrPCo, adrI, adrL]) (fun r_9 u_7 H locs hw_8 hP hD hS => ?_)
        exact W.iret hx hb hr (fun t ht hW => ⟨⟨r_9, u_7, rfl, (show f_X6_carryOut v x0 x1 x2 = (r_9, u_7) from by rw [f_X6_carryOut, if_neg h14_0, if_neg h14_1, if_pos h14_2, hw_8, my_b_eq]), by show va_P D vwCl _ t.heap; rw [ht]; exact hP⟩, hS.F ht⟩) hS.2.2 dX6_carryOut_74
      · by_cases h14_3 : (nI (x0 + 1)) = 4
        · refine lv_tableIn (off := 61) (tgt := 75) hx hb dX6_carryOut_14 (by rw [h14_3]; decide) (by rw [h14_3]; decide) (by rw [h14_3]; rfl) (by decide) ?_
          refine lv_aload_n hx hb dX6_carryOut_75 rfl (lv_at hl 0 rfl) ?_
          refine va_get (D := D) (ci := 4) (v := .ref (a 3)) (C := RX6) (T := TX6) (N := 7) hx hb hts inX6 hown hK0.1 hP 0 rfl rfl 2 (by decide) (hts (.fieldLink RX6 20 "PivotChamber$Setting" "leaders" "LPivotChamber$Row;") (List.mem_of_getElem? (i := 2) rfl)) (fun _ h9 => h9) rfl dX6_carryOut_76 ?_
          refine lv_iload_n hx hb dX6_carryOut_79 rfl (lv_at hl 2 rfl) ?_
          refine lv_iload_n hx hb dX6_carryOut_80 rfl (lv_at hl 3 rfl) ?_
          refine mu_row (va_runV (C := RX4) (As := [.int x1, .int x2]) (rest := []) S (c_X4_put l D cy g B (a 3) (a 4) 8 v.2.2.2.2.1 x1 x2 (by decide)) (cwV 2 hts gX6_carryOut_X4_put rfl rfl rfl hd_X4_put_V ⟨Nat.le_of_ble_eq_true rfl, Nat.le_of_ble_eq_true rfl⟩) ⟨muP_blind, va_recv hK0.1 hP (ci := 2) (q0 := 3) rfl rfl, my_preM hK0 hS hAB hP hD [3, 4] (by decide) rfl⟩ rfl rfl hl.1 rfl (lv_room (Nat.le_of_ble_eq_true rfl)) dX6_carryOut_81 ⟨Nat.zero_le _, Nat.zero_le _⟩) hS hP hD [3, 4] rfl (w2 := (wSetE cy a v.1 v.2.1 v.2.2.1 v.2.2.2.1 (rPut 8 v.2.2.2.2.1 x1 x2) v.2.2.2.2.2.1 v.2.2.2.2.2.2)) rfl (fun H locs hP hD hS => ?_)
          refine lv_aload_n hx hb dX6_carryOut_84 rfl (lv_at hl 0 rfl) ?_
          refine lv_aload_n hx hb dX6_carryOut_85 rfl (lv_at hl 0 rfl) ?_
          refine lv_iload_n hx hb dX6_carryOut_86 rfl (lv_at hl 3 rfl) ?_
          have hP : va_P D vwCl (wSet cy a (v.1, v.2.1, v.2.2.1, v.2.2.2.1, (rPut 8 v.2.2.2.2.1 x1 x2), v.2.2.2.2.2)) H := by rw [wSet_mk]; exact hP
          have hD : va_D A (wSet cy a (v.1, v.2.1, v.2.2.1, v.2.2.2.1, (rPut 8 v.2.2.2.2.1 x1 x2), v.2.2.2.2.2)) := by rw [wSet_mk]; exact hD
          refine rd_goi (va_runV (C := RX6) (As := [.int x2]) (rest := [.ref (a 0)]) S (c_X6_blocOf l D cy g B a (v.1, v.2.1, v.2.2.1, v.2.2.2.1, (rPut 8 v.2.2.2.2.1 x1 x2), v.2.2.2.2.2) x2) (cwV 1 hts gX6_carryOut_X6_blocOf rfl rfl rfl hd_X6_blocOf_V ⟨Nat.le_of_ble_eq_true rfl, Nat.le_of_ble_eq_true rfl⟩) ⟨rdP_blind, va_recv hK0.1 hP (ci := 4) (q0 := 0) rfl rfl, my_preP hK0 hS hAB hP⟩ rfl rfl hl.1 rfl (lv_room (Nat.le_of_ble_eq_true rfl)) dX6_carryOut_87 ⟨Nat.zero_le _, Nat.zero_le _⟩) ?_
          refine rd_goi (va_runV (C := RX6) (As := [.int (f_X6_blocOf (v.1, v.2.1, v.2.2.1, v.2.2.2.1, (rPut 8 v.2.2.2.2.1 x1 x2), v.2.2.2.2.2) x2)]) (rest := []) S (c_X6_weightOf l D cy g B a (v.1, v.2.1, v.2.2.1, v.2.2.2.1, (rPut 8 v.2.2.2.2.1 x1 x2), v.2.2.2.2.2) (f_X6_blocOf (v.1, v.2.1, v.2.2.1, v.2.2.2.1, (rPut 8 v.2.2.2.2.1 x1 x2), v.2.2.2.2.2) x2)) (cwV 1 hts gX6_carryOut_X6_weightOf rfl rfl rfl hd_X6_weightOf_V ⟨Nat.le_of_ble_eq_true rfl, Nat.le_of_ble_eq_true rfl⟩) ⟨rdP_blind, va_recv hK0.1 hP (ci := 4) (q0 := 0) rfl rfl, my_preP hK0 hS hAB hP⟩ rfl rfl hl.1 rfl (lv_room (Nat.le_of_ble_eq_true rfl)) dX6_carryOut_90 ⟨Nat.zero_le _, Nat.zero_le _⟩) ?_
          exact W.iret hx hb hr (fun t ht hW => ⟨⟨(f_X6_weightOf (v.1, v.2.1, v.2.2.1, v.2.2.2.1, (rPut 8 v.2.2.2.2.1 x1 x2), v.2.2.2.2.2) (f_X6_blocOf (v.1, v.2.1, v.2.2.1, v.2.2.2.1, (rPut 8 v.2.2.2.2.1 x1 x2), v.2.2.2.2.2) x2)), (v.1, v.2.1, v.2.2.1, v.2.2.2.1, (rPut 8 v.2.2.2.2.1 x1 x2), v.2.2.2.2.2), rfl, (show f_X6_carryOut v x0 x1 x2 = ((f_X6_weightOf (v.1, v.2.1, v.2.2.1, v.2.2.2.1, (rPut 8 v.2.2.2.2.1 x1 x2), v.2.2.2.2.2) (f_X6_blocOf (v.1, v.2.1, v.2.2.1, v.2.2.2.1, (rPut 8 v.2.2.2.2.1 x1 x2), v.2.2.2.2.2) x2)), (v.1, v.2.1, v.2.2.1, v.2.2.2.1, (rPut 8 v.2.2.2.2.1 x1 x2), v.2.2.2.2.2)) from by rw [f_X6_carryOut, if_neg h14_0, if_neg h14_1, if_neg h14_2, if_pos h14_3]), by show va_P D vwCl _ t.heap; rw [ht]; exact hP⟩, hS.F ht⟩) hS.2.2 dX6_carryOut_93
        · by_cases h14_4 : (nI (x0 + 1)) = 5
          · refine lv_tableIn (off := 80) (tgt := 94) hx hb dX6_carryOut_14 (by rw [h14_4]; decide) (by rw [h14_4]; decide) (by rw [h14_4]; rfl) (by decide) ?_
            refine lv_aload_n hx hb dX6_carryOut_94 rfl (lv_at hl 0 rfl) ?_
            refine lv_iload_n hx hb dX6_carryOut_95 rfl (lv_at hl 2 rfl) ?_
            refine mu_alli (wf := fun (u_12 : SetV) => (wSet cy a u_12)) (va_runV (C := RX6) (As := [.int x1]) (rest := []) S (c_X6_release l D cy g B a v x1) (cwV 1 hts gX6_carryOut_X6_release rfl rfl rfl hd_X6_release_V ⟨Nat.le_of_ble_eq_true rfl, Nat.le_of_ble_eq_true rfl⟩) ⟨muP_blind, va_recv hK0.1 hP (ci := 4) (q0 := 0) rfl rfl, my_preA hK0 hS hAB hP hD⟩ rfl rfl hl.1 rfl (lv_room (Nat.le_of_ble_eq_true rfl)) dX6_carryOut_96 ⟨Nat.zero_le _, Nat.zero_le _⟩) hS hD (fun _ => by simp only [List.map_cons, List.map_nil, adrSet, adrSetE, adrPow, adrPowE, adrTxt, adrTxtE, adrSav, adrSavE, adrPCo, adrI, adrL]) (fun r_14 u_12 H locs hw_13 hP hD hS => ?_)
            exact W.iret hx hb hr (fun t ht hW => ⟨⟨r_14, u_12, rfl, (show f_X6_carryOut v x0 x1 x2 = (r_14, u_12) from by rw [f_X6_carryOut, if_neg h14_0, if_neg h14_1, if_neg h14_2, if_neg h14_3, if_pos h14_4, hw_13, my_b_eq]), by show va_P D vwCl _ t.heap; rw [ht]; exact hP⟩, hS.F ht⟩) hS.2.2 dX6_carryOut_99
          · by_cases h14_5 : (nI (x0 + 1)) = 6
            · refine lv_tableIn (off := 86) (tgt := 100) hx hb dX6_carryOut_14 (by rw [h14_5]; decide) (by rw [h14_5]; decide) (by rw [h14_5]; rfl) (by decide) ?_
              refine lv_aload_n hx hb dX6_carryOut_100 rfl (lv_at hl 0 rfl) ?_
              refine lv_iload_n hx hb dX6_carryOut_101 rfl (lv_at hl 2 rfl) ?_
              refine lv_iload_n hx hb dX6_carryOut_102 rfl (lv_at hl 3 rfl) ?_
              refine mu_alli (wf := fun (u_15 : SetV) => (wSet cy a u_15)) (va_runV (C := RX6) (As := [.int x1, .int x2]) (rest := []) S (c_X6_appendRule l D cy g B a v x1 x2) (cwV 2 hts gX6_carryOut_X6_appendRule rfl rfl rfl hd_X6_appendRule_V ⟨Nat.le_of_ble_eq_true rfl, Nat.le_of_ble_eq_true rfl⟩) ⟨muP_blind, va_recv hK0.1 hP (ci := 4) (q0 := 0) rfl rfl, my_preA hK0 hS hAB hP hD⟩ rfl rfl hl.1 rfl (lv_room (Nat.le_of_ble_eq_true rfl)) dX6_carryOut_103 ⟨Nat.zero_le _, Nat.zero_le _⟩) hS hD (fun _ => by simp only [List.map_cons, List.map_nil, adrSet, adrSetE, adrPow, adrPowE, adrTxt, adrTxtE, adrSav, adrSavE, adrPCo, adrI, adrL]) (fun r_17 u_15 H locs hw_16 hP hD hS => ?_)
              exact W.iret hx hb hr (fun t ht hW => ⟨⟨r_17, u_15, rfl, (show f_X6_carryOut v x0 x1 x2 = (r_17, u_15) from by rw [f_X6_carryOut, if_neg h14_0, if_neg h14_1, if_neg h14_2, if_neg h14_3, if_neg h14_4, if_pos h14_5, hw_16, my_b_eq]), by show va_P D vwCl _ t.heap; rw [ht]; exact hP⟩, hS.F ht⟩) hS.2.2 dX6_carryOut_106
            · by_cases h14_6 : (nI (x0 + 1)) = 7
              · refine lv_tableIn (off := 93) (tgt := 107) hx hb dX6_carryOut_14 (by rw [h14_6]; decide) (by rw [h14_6]; decide) (by rw [h14_6]; rfl) (by decide) ?_
                refine lv_aload_n hx hb dX6_carryOut_107 rfl (lv_at hl 0 rfl) ?_
                refine lv_iload_n hx hb dX6_carryOut_108 rfl (lv_at hl 2 rfl) ?_
                refine mu_alli (wf := fun (u_18 : SetV) => (wSet cy a u_18)) (va_runV (C := RX6) (As := [.int x1]) (rest := []) S (c_X6_removeRule l D cy g B a v x1) (cwV 1 hts gX6_carryOut_X6_removeRule rfl rfl rfl hd_X6_removeRule_V ⟨Nat.le_of_ble_eq_true rfl, Nat.le_of_ble_eq_true rfl⟩) ⟨muP_blind, va_recv hK0.1 hP (ci := 4) (q0 := 0) rfl rfl, my_preA hK0 hS hAB hP hD⟩ rfl rfl hl.1 rfl (lv_room (Nat.le_of_ble_eq_true rfl)) dX6_carryOut_109 ⟨Nat.zero_le _, Nat.zero_le _⟩) hS hD (fun _ => by simp only [List.map_cons, List.map_nil, adrSet, adrSetE, adrPow, adrPowE, adrTxt, adrTxtE, adrSav, adrSavE, adrPCo, adrI, adrL]) (fun r_20 u_18 H locs hw_19 hP hD hS => ?_)
                exact W.iret hx hb hr (fun t ht hW => ⟨⟨r_20, u_18, rfl, (show f_X6_carryOut v x0 x1 x2 = (r_20, u_18) from by rw [f_X6_carryOut, if_neg h14_0, if_neg h14_1, if_neg h14_2, if_neg h14_3, if_neg h14_4, if_neg h14_5, if_pos h14_6, hw_19, my_b_eq]), by show va_P D vwCl _ t.heap; rw [ht]; exact hP⟩, hS.F ht⟩) hS.2.2 dX6_carryOut_112
              · refine lv_tableOut (tgt := 113) hx hb dX6_carryOut_14 (by have t1 : (nI (x0 + 1)).toInt ≠ 1 := my_ne h14_0 rfl; have t2 : (nI (x0 + 1)).toInt ≠ 2 := my_ne h14_1 rfl; have t3 : (nI (x0 + 1)).toInt ≠ 3 := my_ne h14_2 rfl; have t4 : (nI (x0 + 1)).toInt ≠ 4 := my_ne h14_3 rfl; have t5 : (nI (x0 + 1)).toInt ≠ 5 := my_ne h14_4 rfl; have t6 : (nI (x0 + 1)).toInt ≠ 6 := my_ne h14_5 rfl; have t7 : (nI (x0 + 1)).toInt ≠ 7 := my_ne h14_6 rfl; omega) (by decide) ?_
                refine lv_iconst (v := (-1)) hx hb dX6_carryOut_113 (by decide) ?_
                exact W.iret hx hb hr (fun t ht hW => ⟨⟨(-1), v, rfl, (show f_X6_carryOut v x0 x1 x2 = ((-1), v) from by rw [f_X6_carryOut, if_neg h14_0, if_neg h14_1, if_neg h14_2, if_neg h14_3, if_neg h14_4, if_neg h14_5, if_neg h14_6]), by show va_P D vwCl _ t.heap; rw [ht]; exact hP⟩, hS.F ht⟩) hS.2.2 dX6_carryOut_114
def f_X6_carryOut_null (v : SetV) (x1 : Int32) (x2 : Int32) : Int32 × SetV := ((-1), v)
set_option maxHeartbeats 400000 in
set_option maxRecDepth 100000 in
theorem c_X6_carryOut_null (l : Launch) (D : va_G) (cy : Nat → ClassId) (g : Nat → Nat) (B : Nat) (a : Nat → Nat) (v : SetV) (x1 : Int32) (x2 : Int32) : Met l yX6_carryOut wsX6_carryOut ({ frames := 0, cells := 0, slots := 0, locals := 0 }) (muP D cy g B (wSet cy a v) [.ref (a 0), .null, .int x1, .int x2]) (va_Qi (fun (r : Int32) (u : SetV) => f_X6_carryOut_null v x1 x2 = (r, u)) (fun u t => va_P D vwCl (wSet cy a u) t.heap) (muA (wSet cy a v))) 0 0 (muA (wSet cy a v)) := by
  refine Met.ofW (cc := cX6_carryOut) (maxL := 4) (ret := (some .int)) (by decide) rfl ?_
  intro p e s m args below meth c s₁ BB hml hv
  obtain ⟨rfl, hP, hK0, hD0⟩ := hv
  have hx := BB.exec
  have hb := BB.bytes
  have hr := BB.returns
  have hts := atoms_spec (ws := wsX6_carryOut) BB.pre
  have hown : s.vm.findClass RX6 = some m.cls := findClass_of_methodNamed BB.named
  have hlocks := BB.notSynchronized
  have S := my_fix hx hb hml hown hts
  have hAB := muB hD0
  have hD := muD hD0
  generalize hAe : muA (wSet cy a v) = A at hAB hD ⊢
  have hS : va_S A s.heap s.heap [] := va_S.rf
  have hl := lv_entry ([.ref (a 0), .null, .int x1, .int x2]) (n := 4) (Nat.le_of_ble_eq_true rfl)
  rw [lg_entry_eq]
  generalize (lg_sl ([.ref (a 0), .null, .int x1, .int x2]) ++ List.replicate (4 - (lg_sl ([.ref (a 0), .null, .int x1, .int x2])).length) Slot.unset).toArray = ls at hl ⊢
  have hl : lv_has ls 4 [(0, .ref (a 0)), (1, .null), (2, .int x1), (3, .int x2)] := hl
  refine lv_aload_nN hx hb dX6_carryOut_0 rfl (lv_at hl 1 rfl) ?_
  refine lv_ifnonnullN hx hb dX6_carryOut_1 ?_
  refine lv_iconst (v := (-1)) hx hb dX6_carryOut_4 (by decide) ?_
  exact W.iret hx hb hr (fun t ht hW => ⟨⟨(-1), v, rfl, (show f_X6_carryOut_null v x1 x2 = ((-1), v) from by rw [f_X6_carryOut_null]), by show va_P D vwCl _ t.heap; rw [ht]; exact hP⟩, hS.F ht⟩) hS.2.2 dX6_carryOut_5
