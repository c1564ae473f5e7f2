theorem hd_X8_add_S : yX8_add.cls ≠ "java/lang/invoke/MethodHandle" ∧ yX8_add.cls ≠ "java/lang/invoke/VarHandle" ∧ (parseMethodDescriptor yX8_add.desc).map (fun d => d.parameters.length) = some 1 := by decide +kernel
theorem hd_X8_add_V : yX8_add.cls = RX8 ∧ yX8_add.cls ≠ "java/lang/invoke/MethodHandle" ∧ yX8_add.cls ≠ "java/lang/invoke/VarHandle" ∧ (parseMethodDescriptor yX8_add.desc).map (fun d => d.parameters.length) = some 1 := ⟨rfl, hd_X8_add_S⟩
def f_X8_add (y0 : Int32) (y1 : Int32) (y7 : (Nat → Int32)) (y8 : (Nat → Int32)) (x0 : Int32) : Int32 × (Int32 × Int32 × (Nat → Int32) × (Nat → Int32)) := (if (f_X8_in x0 0 50) = 0 then (0, (y0, 1, y7, y8)) else (if (y7 0) = 8 then (0, (y0, 2, y7, y8)) else (my_l (f_X8_saves y0 y1 y7 y8) (fun (u_6 : Int32 × (Nat → Int32)) => ((y7 0), (u_6.1, 0, (upd (upd (upd y7 (3 + (y7 0)).toNatClampNeg x0) (11 + (y7 0)).toNatClampNeg (-1)) 0 ((y7 0) + 1)), u_6.2))))))
set_option maxHeartbeats 400000 in
set_option maxRecDepth 100000 in
theorem c_X8_add (l : Launch) (D : va_G) (cy : Nat → ClassId) (g : Nat → Nat) (B : Nat) (a : Nat → Nat) (y0 : Int32) (y1 : Int32) (y2 : Int32) (y3 : Int32) (y4 : Int32) (y5 : Int32) (y6 : Int32) (y7 : (Nat → Int32)) (y8 : (Nat → Int32)) (y9 : (Nat → Int32)) (y10 : (Nat → Int32)) (y11 : (Nat → Int32)) (y12 : (Nat → Int32)) (y13 : (Nat → Int32)) (x0 : Int32) (hpa0 : ¬ y0 < 0) (hpa4 : ¬ 4 < y0) (hm8 : ¬ 8 < (y7 0)) (hm0 : ¬ (y7 0) < 0) : Met l yX8_add wsX8_add ({ frames := 1, cells := 0, slots := 0, locals := 22 }) (muP D cy g B (wModE cy a y0 y1 y2 y3 y4 y5 y6 y7 y8 y9 y10 y11 y12 y13) [.ref (a 0), .int x0]) (va_Qi (fun (r : Int32) (u : Int32 × Int32 × (Nat → Int32) × (Nat → Int32)) => f_X8_add y0 y1 y7 y8 x0 = (r, u)) (fun u t => va_P D vwCl (wModE cy a u.1 y1 y2 u.2.1 y4 y5 y6 u.2.2.1 u.2.2.2 y9 y10 y11 y12 y13) t.heap) (muA (wModE cy a y0 y1 y2 y3 y4 y5 y6 y7 y8 y9 y10 y11 y12 y13))) 0 0 (muA (wModE cy a y0 y1 y2 y3 y4 y5 y6 y7 y8 y9 y10 y11 y12 y13)) := by
  refine Met.ofW (cc := cX8_add) (maxL := 3) (ret := (some .int)) (by decide) rfl ?_
  intro p e s m args below meth c s₁ BB hml hv
  obtain ⟨rfl, hP, hK0, hD0⟩ := hv
  have hx := BB.exec
  have hb := BB.bytes
  have hr := BB.returns
  have hts := atoms_spec (ws := wsX8_add) BB.pre
  have hown : s.vm.findClass RX8 = some m.cls := findClass_of_methodNamed BB.named
  have hlocks := BB.notSynchronized
  have S := my_fix hx hb hml hown hts
  have inX8 : ∀ w ∈ wsX80, w ∈ wsX8_add := fun w h => List.mem_cons_of_mem _ (List.mem_append_right _ h)
  have hAB := muB hD0
  have hD := muD hD0
  generalize hAe : muA (wModE cy a y0 y1 y2 y3 y4 y5 y6 y7 y8 y9 y10 y11 y12 y13) = A at hAB hD ⊢
  have hS : va_S A s.heap s.heap [] := va_S.rf
  have hl := lv_entry ([.ref (a 0), .int x0]) (n := 3) (Nat.le_of_ble_eq_true rfl)
  rw [lg_entry_eq]
  generalize (lg_sl ([.ref (a 0), .int x0]) ++ List.replicate (3 - (lg_sl ([.ref (a 0), .int x0])).length) Slot.unset).toArray = ls at hl ⊢
  have hl : lv_has ls 3 [(0, .ref (a 0)), (1, .int x0)] := hl
  refine lv_aload_n hx hb dX8_add_0 rfl (lv_at hl 0 rfl) ?_
  refine lv_iload_n hx hb dX8_add_1 rfl (lv_at hl 1 rfl) ?_
  refine lv_iconst (v := 0) hx hb dX8_add_2 (by decide) ?_
  refine lv_bipush (v := 50) hx hb dX8_add_3 (by decide) ?_
  refine rd_goi (va_runS (As := [.int x0, .int 0, .int 50]) (rest := [.ref (a 0)]) S (c_X8_in l D cy g B x0 0 50) (va_cwS 3 hts gX8_add_X8_in rfl rfl rfl hd_X8_in_S ⟨Nat.le_of_ble_eq_true rfl, Nat.le_of_ble_eq_true rfl⟩) ⟨rdP_blind, my_preV hK0 hS hAB hP [] rfl⟩ rfl rfl hl.1 rfl (lv_room (Nat.le_of_ble_eq_true rfl)) dX8_add_5 ⟨Nat.zero_le _, Nat.zero_le _⟩) ?_
  refine lv_if_ne (tgt := 15) hx hb dX8_add_8 (by decide) (fun c_1 => ?_) (fun c_1 => ?_)
  · refine lv_aload_n hx hb dX8_add_15 rfl (lv_at hl 0 rfl) ?_
    refine va_get (D := D) (ci := 6) (v := .ref (a 1)) (C := RX8) (T := TX8) (N := 14) hx hb hts inX8 hown hK0.1 hP 0 rfl rfl 0 (by decide) (hts (.fieldLink RX8 7 "PivotChamberModel" "s" "[I") (List.mem_of_getElem? (i := 1) rfl)) (fun _ h9 => h9) rfl dX8_add_16 ?_
    refine lv_iconst (v := 0) hx hb dX8_add_19 (by decide) ?_
    refine va_iald hx hb hK0.1 hP 1 0 rfl rfl (vp_in_nI (n := 0) (N := 27) (by decide) (by decide)) dX8_add_20 ?_
    refine W.eq (g2 := F0 m 21 ls [.int (y7 0), .ref (a 0)]) rfl ?_
    refine lv_bipush (v := 8) hx hb dX8_add_21 (by decide) ?_
    refine lv_icmp_ne (tgt := 30) hx hb dX8_add_23 (by decide) (fun c_2 => ?_) (fun c_2 => ?_)
    · refine lv_iconst (v := 0) hx hb dX8_add_30 (by decide) ?_
      refine mu_alli (wf := fun (u_3 : Int32) => (wModE cy a y0 y1 y2 u_3 y4 y5 y6 y7 y8 y9 y10 y11 y12 y13)) (va_runV (C := RX8) (As := [.int 0]) (rest := []) S (c_X8_throwsAt l D cy g B a y0 y1 y2 y3 y4 y5 y6 y7 y8 y9 y10 y11 y12 y13 0) (cwV 1 hts gX8_add_X8_throwsAt rfl rfl rfl hd_X8_throwsAt_V ⟨Nat.le_of_ble_eq_true rfl, Nat.le_of_ble_eq_true rfl⟩) ⟨muP_blind, va_recv hK0.1 hP (ci := 6) (q0 := 0) rfl rfl, my_preA hK0 hS hAB hP hD⟩ rfl rfl hl.1 rfl (lv_room (Nat.le_of_ble_eq_true rfl)) dX8_add_31 ⟨Nat.zero_le _, Nat.zero_le _⟩) hS hD (fun _ => by simp only [List.map_cons, List.map_nil, adrSet, adrSetE, adrPow, adrPowE, adrTxt, adrTxtE, adrSav, adrSavE, adrPCo, adrMod, adrModE]) (fun r_5 u_3 H locs hw_4 hP hD hS => ?_)
      obtain ⟨rfl, rfl⟩ : 0 = r_5 ∧ 0 = u_3 := my_thr_lit (k := 0) (by decide) hw_4
      refine lv_if_eq (tgt := 39) hx hb dX8_add_34 (by decide) (fun _ => ?_) (fun h => absurd (by decide) h)
      refine lv_aload_n hx hb dX8_add_39 rfl (lv_at hl 0 rfl) ?_
      refine mu_allv (wf := fun (u_6 : Int32 × (Nat → Int32)) => (wModE cy a u_6.1 y1 y2 0 y4 y5 y6 y7 u_6.2 y9 y10 y11 y12 y13)) (va_runV (C := RX8) (As := []) (rest := []) S (c_X8_saves l D cy g B a y0 y1 y2 0 y4 y5 y6 y7 y8 y9 y10 y11 y12 y13 hpa0 hpa4) (cwV 0 hts gX8_add_X8_saves rfl rfl rfl hd_X8_saves_V ⟨Nat.le_of_ble_eq_true rfl, Nat.le_of_ble_eq_true rfl⟩) ⟨muP_blind, va_recv hK0.1 hP (ci := 6) (q0 := 0) rfl rfl, my_preA hK0 hS hAB hP hD⟩ rfl rfl hl.1 rfl (lv_room (Nat.le_of_ble_eq_true rfl)) dX8_add_40 ⟨Nat.zero_le _, Nat.zero_le _⟩) hS hD (fun _ => by simp only [List.map_cons, List.map_nil, adrSet, adrSetE, adrPow, adrPowE, adrTxt, adrTxtE, adrSav, adrSavE, adrPCo, adrMod, adrModE]) (fun u_6 H locs hw_7 hP hD hS => ?_)
      refine lv_aload_n hx hb dX8_add_43 rfl (lv_at hl 0 rfl) ?_
      refine va_get (D := D) (ci := 6) (v := .ref (a 1)) (C := RX8) (T := TX8) (N := 14) hx hb hts inX8 hown hK0.1 hP 0 rfl rfl 0 (by decide) (hts (.fieldLink RX8 7 "PivotChamberModel" "s" "[I") (List.mem_of_getElem? (i := 1) rfl)) (fun _ h9 => h9) rfl dX8_add_44 ?_
      refine lv_iconst (v := 0) hx hb dX8_add_47 (by decide) ?_
      refine va_iald hx hb hK0.1 hP 1 0 rfl rfl (vp_in_nI (n := 0) (N := 27) (by decide) (by decide)) dX8_add_48 ?_
      refine W.eq (g2 := F0 m 49 ls [.int (y7 0)]) rfl ?_
      refine lv_istore_n (lv' := [(2, .int (y7 0)), (0, .ref (a 0)), (1, .int x0)]) hx hb dX8_add_49 rfl hl (by decide) rfl (fun ls hl => ?_)
      refine lv_aload_n hx hb dX8_add_50 rfl (lv_at hl 1 rfl) ?_
      refine va_get (D := D) (ci := 6) (v := .ref (a 1)) (C := RX8) (T := TX8) (N := 14) hx hb hts inX8 hown hK0.1 hP 0 rfl rfl 0 (by decide) (hts (.fieldLink RX8 7 "PivotChamberModel" "s" "[I") (List.mem_of_getElem? (i := 1) rfl)) (fun _ h9 => h9) rfl dX8_add_51 ?_
      refine lv_iconst (v := 3) hx hb dX8_add_54 (by decide) ?_
      refine lv_iload_n hx hb dX8_add_55 rfl (lv_at hl 0 rfl) ?_
      refine lv_iadd hx hb dX8_add_56 ?_
      refine lv_iload_n hx hb dX8_add_57 rfl (lv_at hl 2 rfl) ?_
      refine va_iast hx hb hK0.1 hP hD hS 1 0 rfl rfl (ix_loop (K := 8) (N := 27) hm0 (Int32.not_le.mpr (lt_of_ne hm8 c_2)) (by decide) (by decide)) dX8_add_58 (fun H locs hP hD hS => ?_)
      have hP : va_P D vwCl (wModE cy a u_6.1 y1 y2 0 y4 y5 y6 (upd y7 (3 + (y7 0)).toNatClampNeg x0) u_6.2 y9 y10 y11 y12 y13) H := hP
      have hD : va_D A (wModE cy a u_6.1 y1 y2 0 y4 y5 y6 (upd y7 (3 + (y7 0)).toNatClampNeg x0) u_6.2 y9 y10 y11 y12 y13) := hD
      refine lv_aload_n hx hb dX8_add_59 rfl (lv_at hl 1 rfl) ?_
      refine va_get (D := D) (ci := 6) (v := .ref (a 1)) (C := RX8) (T := TX8) (N := 14) hx hb hts inX8 hown hK0.1 hP 0 rfl rfl 0 (by decide) (hts (.fieldLink RX8 7 "PivotChamberModel" "s" "[I") (List.mem_of_getElem? (i := 1) rfl)) (fun _ h9 => h9) rfl dX8_add_60 ?_
      refine lv_bipush (v := 11) hx hb dX8_add_63 (by decide) ?_
      refine lv_iload_n hx hb dX8_add_65 rfl (lv_at hl 0 rfl) ?_
      refine lv_iadd hx hb dX8_add_66 ?_
      refine lv_iconst (v := (-1)) hx hb dX8_add_67 (by decide) ?_
      refine va_iast hx hb hK0.1 hP hD hS 1 0 rfl rfl (ix_loop (K := 8) (N := 27) hm0 (Int32.not_le.mpr (lt_of_ne hm8 c_2)) (by decide) (by decide)) dX8_add_68 (fun H locs hP hD hS => ?_)
      have hP : va_P D vwCl (wModE cy a u_6.1 y1 y2 0 y4 y5 y6 (upd (upd y7 (3 + (y7 0)).toNatClampNeg x0) (11 + (y7 0)).toNatClampNeg (-1)) u_6.2 y9 y10 y11 y12 y13) H := hP
      have hD : va_D A (wModE cy a u_6.1 y1 y2 0 y4 y5 y6 (upd (upd y7 (3 + (y7 0)).toNatClampNeg x0) (11 + (y7 0)).toNatClampNeg (-1)) u_6.2 y9 y10 y11 y12 y13) := hD
      refine lv_aload_n hx hb dX8_add_69 rfl (lv_at hl 1 rfl) ?_
      refine va_get (D := D) (ci := 6) (v := .ref (a 1)) (C := RX8) (T := TX8) (N := 14) hx hb hts inX8 hown hK0.1 hP 0 rfl rfl 0 (by decide) (hts (.fieldLink RX8 7 "PivotChamberModel" "s" "[I") (List.mem_of_getElem? (i := 1) rfl)) (fun _ h9 => h9) rfl dX8_add_70 ?_
      refine lv_iconst (v := 0) hx hb dX8_add_73 (by decide) ?_
      refine lv_dup2_11 hx hb dX8_add_74 rfl rfl ?_
      refine va_iald hx hb hK0.1 hP 1 0 rfl rfl (vp_in_nI (n := 0) (N := 27) (by decide) (by decide)) dX8_add_75 ?_
      refine W.eq (g2 := F0 m 76 ls [.int ((upd (upd y7 (3 + (y7 0)).toNatClampNeg x0) (11 + (y7 0)).toNatClampNeg (-1)) 0), .int 0, .ref (a 1)]) rfl ?_
      refine W.eq (g2 := F0 m 76 ls [.int ((upd y7 (3 + (y7 0)).toNatClampNeg x0) 0), .int 0, .ref (a 1)]) (by rw [upd_lo (N := 27) hm0 (ix_loop (K := 8) (N := 27) hm0 (Int32.not_le.mpr (lt_of_ne hm8 c_2)) (by decide) (by decide)) (by decide) (by decide)]) ?_
      refine W.eq (g2 := F0 m 76 ls [.int (y7 0), .int 0, .ref (a 1)]) (by rw [upd_lo (N := 27) hm0 (ix_loop (K := 8) (N := 27) hm0 (Int32.not_le.mpr (lt_of_ne hm8 c_2)) (by decide) (by decide)) (by decide) (by decide)]) ?_
      refine lv_iconst (v := 1) hx hb dX8_add_76 (by decide) ?_
      refine lv_iadd hx hb dX8_add_77 ?_
      refine va_iast hx hb hK0.1 hP hD hS 1 0 rfl rfl (vp_in_nI (n := 0) (N := 27) (by decide) (by decide)) dX8_add_78 (fun H locs hP hD hS => ?_)
      have hP : va_P D vwCl (wModE cy a u_6.1 y1 y2 0 y4 y5 y6 (upd (upd (upd y7 (3 + (y7 0)).toNatClampNeg x0) (11 + (y7 0)).toNatClampNeg (-1)) 0 ((y7 0) + 1)) u_6.2 y9 y10 y11 y12 y13) H := hP
      have hD : va_D A (wModE cy a u_6.1 y1 y2 0 y4 y5 y6 (upd (upd (upd y7 (3 + (y7 0)).toNatClampNeg x0) (11 + (y7 0)).toNatClampNeg (-1)) 0 ((y7 0) + 1)) u_6.2 y9 y10 y11 y12 y13) := hD
      refine lv_iload_n hx hb dX8_add_79 rfl (lv_at hl 0 rfl) ?_
      have hP : va_P D vwCl (wModE cy a u_6.1 y1 y2 0 y4 y5 y6 (upd (upd (upd y7 (3 + (y7 0)).toNatClampNeg x0) (11 + (y7 0)).toNatClampNeg (-1)) 0 ((y7 0) + 1)) u_6.2 y9 y10 y11 y12 y13) H := hP
      have hD : va_D A (wModE cy a u_6.1 y1 y2 0 y4 y5 y6 (upd (upd (upd y7 (3 + (y7 0)).toNatClampNeg x0) (11 + (y7 0)).toNatClampNeg (-1)) 0 ((y7 0) + 1)) u_6.2 y9 y10 y11 y12 y13) := hD
      exact W.iret hx hb hr (fun t ht hW => ⟨⟨(y7 0), (u_6.1, 0, (upd (upd (upd y7 (3 + (y7 0)).toNatClampNeg x0) (11 + (y7 0)).toNatClampNeg (-1)) 0 ((y7 0) + 1)), u_6.2), rfl, (show f_X8_add y0 y1 y7 y8 x0 = ((y7 0), (u_6.1, 0, (upd (upd (upd y7 (3 + (y7 0)).toNatClampNeg x0) (11 + (y7 0)).toNatClampNeg (-1)) 0 ((y7 0) + 1)), u_6.2)) from by rw [f_X8_add, if_neg c_1, if_neg c_2, hw_7, my_l_eq]), by show va_P D vwCl _ t.heap; rw [ht]; exact hP⟩, hS.F ht⟩) hS.2.2 dX8_add_80
    · refine lv_iconst (v := 2) hx hb dX8_add_26 (by decide) ?_
      refine lv_goto (tgt := 31) hx hb dX8_add_27 (by decide) ?_
      refine mu_alli (wf := fun (u_8 : Int32) => (wModE cy a y0 y1 y2 u_8 y4 y5 y6 y7 y8 y9 y10 y11 y12 y13)) (va_runV (C := RX8) (As := [.int 2]) (rest := []) S (c_X8_throwsAt l D cy g B a y0 y1 y2 y3 y4 y5 y6 y7 y8 y9 y10 y11 y12 y13 2) (cwV 1 hts gX8_add_X8_throwsAt rfl rfl rfl hd_X8_throwsAt_V ⟨Nat.le_of_ble_eq_true rfl, Nat.le_of_ble_eq_true rfl⟩) ⟨muP_blind, va_recv hK0.1 hP (ci := 6) (q0 := 0) rfl rfl, my_preA hK0 hS hAB hP hD⟩ rfl rfl hl.1 rfl (lv_room (Nat.le_of_ble_eq_true rfl)) dX8_add_31 ⟨Nat.zero_le _, Nat.zero_le _⟩) hS hD (fun _ => by simp only [List.map_cons, List.map_nil, adrSet, adrSetE, adrPow, adrPowE, adrTxt, adrTxtE, adrSav, adrSavE, adrPCo, adrMod, adrModE]) (fun r_10 u_8 H locs hw_9 hP hD hS => ?_)
      obtain ⟨rfl, rfl⟩ : 1 = r_10 ∧ 2 = u_8 := my_thr_lit (k := 2) (by decide) hw_9
      refine lv_if_eq (tgt := 39) hx hb dX8_add_34 (by decide) (fun h => absurd h (by decide)) (fun _ => ?_)
      refine lv_iconst (v := 0) hx hb dX8_add_37 (by decide) ?_
      have hP : va_P D vwCl (wModE cy a y0 y1 y2 2 y4 y5 y6 y7 y8 y9 y10 y11 y12 y13) H := hP
      have hD : va_D A (wModE cy a y0 y1 y2 2 y4 y5 y6 y7 y8 y9 y10 y11 y12 y13) := hD
      exact W.iret hx hb hr (fun t ht hW => ⟨⟨0, (y0, 2, y7, y8), rfl, (show f_X8_add y0 y1 y7 y8 x0 = (0, (y0, 2, y7, y8)) from by rw [f_X8_add, if_neg c_1, if_pos c_2]), by show va_P D vwCl _ t.heap; rw [ht]; exact hP⟩, hS.F ht⟩) hS.2.2 dX8_add_38
  · refine lv_iconst (v := 1) hx hb dX8_add_11 (by decide) ?_
    refine lv_goto (tgt := 31) hx hb dX8_add_12 (by decide) ?_
    refine mu_alli (wf := fun (u_11 : Int32) => (wModE cy a y0 y1 y2 u_11 y4 y5 y6 y7 y8 y9 y10 y11 y12 y13)) (va_runV (C := RX8) (As := [.int 1]) (rest := []) S (c_X8_throwsAt l D cy g B a y0 y1 y2 y3 y4 y5 y6 y7 y8 y9 y10 y11 y12 y13 1) (cwV 1 hts gX8_add_X8_throwsAt rfl rfl rfl hd_X8_throwsAt_V ⟨Nat.le_of_ble_eq_true rfl, Nat.le_of_ble_eq_true rfl⟩) ⟨muP_blind, va_recv hK0.1 hP (ci := 6) (q0 := 0) rfl rfl, my_preA hK0 hS hAB hP hD⟩ rfl rfl hl.1 rfl (lv_room (Nat.le_of_ble_eq_true rfl)) dX8_add_31 ⟨Nat.zero_le _, Nat.zero_le _⟩) hS hD (fun _ => by simp only [List.map_cons, List.map_nil, adrSet, adrSetE, adrPow, adrPowE, adrTxt, adrTxtE, adrSav, adrSavE, adrPCo, adrMod, adrModE]) (fun r_13 u_11 H locs hw_12 hP hD hS => ?_)
    obtain ⟨rfl, rfl⟩ : 1 = r_13 ∧ 1 = u_11 := my_thr_lit (k := 1) (by decide) hw_12
    refine lv_if_eq (tgt := 39) hx hb dX8_add_34 (by decide) (fun h => absurd h (by decide)) (fun _ => ?_)
    refine lv_iconst (v := 0) hx hb dX8_add_37 (by decide) ?_
    have hP : va_P D vwCl (wModE cy a y0 y1 y2 1 y4 y5 y6 y7 y8 y9 y10 y11 y12 y13) H := hP
    have hD : va_D A (wModE cy a y0 y1 y2 1 y4 y5 y6 y7 y8 y9 y10 y11 y12 y13) := hD
    exact W.iret hx hb hr (fun t ht hW => ⟨⟨0, (y0, 1, y7, y8), rfl, (show f_X8_add y0 y1 y7 y8 x0 = (0, (y0, 1, y7, y8)) from by rw [f_X8_add, if_pos c_1]), by show va_P D vwCl _ t.heap; rw [ht]; exact hP⟩, hS.F ht⟩) hS.2.2 dX8_add_38
theorem hd_X8_setWeight_S : yX8_setWeight.cls ≠ "java/lang/invoke/MethodHandle" ∧ yX8_setWeight.cls ≠ "java/lang/invoke/VarHandle" ∧ (parseMethodDescriptor yX8_setWeight.desc).map (fun d => d.parameters.length) = some 2 := by decide +kernel
theorem hd_X8_setWeight_V : yX8_setWeight.cls = RX8 ∧ yX8_setWeight.cls ≠ "java/lang/invoke/MethodHandle" ∧ yX8_setWeight.cls ≠ "java/lang/invoke/VarHandle" ∧ (parseMethodDescriptor yX8_setWeight.desc).map (fun d => d.parameters.length) = some 2 := ⟨rfl, hd_X8_setWeight_S⟩
def f_X8_setWeight (y0 : Int32) (y1 : Int32) (y7 : (Nat → Int32)) (y8 : (Nat → Int32)) (x0 : Int32) (x1 : Int32) : Int32 × (Int32 × Int32 × (Nat → Int32) × (Nat → Int32)) := (if (f_X8_isMember y7 x0) = 0 then (0, (y0, 1, y7, y8)) else (if (f_X8_in x1 0 50) = 0 then (0, (y0, 2, y7, y8)) else (my_l (f_X8_saves y0 y1 y7 y8) (fun (u_9 : Int32 × (Nat → Int32)) => ((y7 (3 + x0).toNatClampNeg), (u_9.1, 0, (upd y7 (3 + x0).toNatClampNeg x1), u_9.2))))))
set_option maxHeartbeats 400000 in
set_option maxRecDepth 100000 in
theorem c_X8_setWeight (l : Launch) (D : va_G) (cy : Nat → ClassId) (g : Nat → Nat) (B : Nat) (a : Nat → Nat) (y0 : Int32) (y1 : Int32) (y2 : Int32) (y3 : Int32) (y4 : Int32) (y5 : Int32) (y6 : Int32) (y7 : (Nat → Int32)) (y8 : (Nat → Int32)) (y9 : (Nat → Int32)) (y10 : (Nat → Int32)) (y11 : (Nat → Int32)) (y12 : (Nat → Int32)) (y13 : (Nat → Int32)) (x0 : Int32) (x1 : Int32) (hpa0 : ¬ y0 < 0) (hpa4 : ¬ 4 < y0) (hm8 : ¬ 8 < (y7 0)) : Met l yX8_setWeight wsX8_setWeight ({ frames := 1, cells := 0, slots := 0, locals := 22 }) (muP D cy g B (wModE cy a y0 y1 y2 y3 y4 y5 y6 y7 y8 y9 y10 y11 y12 y13) [.ref (a 0), .int x0, .int x1]) (va_Qi (fun (r : Int32) (u : Int32 × Int32 × (Nat → Int32) × (Nat → Int32)) => f_X8_setWeight y0 y1 y7 y8 x0 x1 = (r, u)) (fun u t => va_P D vwCl (wModE cy a u.1 y1 y2 u.2.1 y4 y5 y6 u.2.2.1 u.2.2.2 y9 y10 y11 y12 y13) t.heap) (muA (wModE cy a y0 y1 y2 y3 y4 y5 y6 y7 y8 y9 y10 y11 y12 y13))) 0 0 (muA (wModE cy a y0 y1 y2 y3 y4 y5 y6 y7 y8 y9 y10 y11 y12 y13)) := by
  refine Met.ofW (cc := cX8_setWeight) (maxL := 4) (ret := (some .int)) (by decide) rfl ?_
  intro p e s m args below meth c s₁ BB hml hv
  obtain ⟨rfl, hP, hK0, hD0⟩ := hv
  have hx := BB.exec
  have hb := BB.bytes
  have hr := BB.returns
  have hts := atoms_spec (ws := wsX8_setWeight) BB.pre
  have hown : s.vm.findClass RX8 = some m.cls := findClass_of_methodNamed BB.named
  have hlocks := BB.notSynchronized
  have S := my_fix hx hb hml hown hts
  have inX8 : ∀ w ∈ wsX80, w ∈ wsX8_setWeight := fun w h => List.mem_cons_of_mem _ (List.mem_append_right _ h)
  have hAB := muB hD0
  have hD := muD hD0
  generalize hAe : muA (wModE cy a y0 y1 y2 y3 y4 y5 y6 y7 y8 y9 y10 y11 y12 y13) = A at hAB hD ⊢
  have hS : va_S A s.heap s.heap [] := va_S.rf
  have hl := lv_entry ([.ref (a 0), .int x0, .int x1]) (n := 4) (Nat.le_of_ble_eq_true rfl)
  rw [lg_entry_eq]
  generalize (lg_sl ([.ref (a 0), .int x0, .int x1]) ++ List.replicate (4 - (lg_sl ([.ref (a 0), .int x0, .int x1])).length) Slot.unset).toArray = ls at hl ⊢
  have hl : lv_has ls 4 [(0, .ref (a 0)), (1, .int x0), (2, .int x1)] := hl
  refine lv_aload_n hx hb dX8_setWeight_0 rfl (lv_at hl 0 rfl) ?_
  refine lv_aload_n hx hb dX8_setWeight_1 rfl (lv_at hl 0 rfl) ?_
  refine lv_iload_n hx hb dX8_setWeight_2 rfl (lv_at hl 1 rfl) ?_
  refine rd_goi (va_runV (C := RX8) (As := [.int x0]) (rest := [.ref (a 0)]) S (c_X8_isMember l D cy g B a y0 y1 y2 y3 y4 y5 y6 y7 y8 y9 y10 y11 y12 y13 x0) (cwV 1 hts gX8_setWeight_X8_isMember rfl rfl rfl hd_X8_isMember_V ⟨Nat.le_of_ble_eq_true rfl, Nat.le_of_ble_eq_true rfl⟩) ⟨rdP_blind, va_recv hK0.1 hP (ci := 6) (q0 := 0) rfl rfl, my_preP hK0 hS hAB hP⟩ rfl rfl hl.1 rfl (lv_room (Nat.le_of_ble_eq_true rfl)) dX8_setWeight_3 ⟨Nat.zero_le _, Nat.zero_le _⟩) ?_
  refine lv_if_ne (tgt := 13) hx hb dX8_setWeight_6 (by decide) (fun c_1 => ?_) (fun c_1 => ?_)
  · refine lv_iload_n hx hb dX8_setWeight_13 rfl (lv_at hl 2 rfl) ?_
    refine lv_iconst (v := 0) hx hb dX8_setWeight_14 (by decide) ?_
    refine lv_bipush (v := 50) hx hb dX8_setWeight_15 (by decide) ?_
    refine rd_goi (va_runS (As := [.int x1, .int 0, .int 50]) (rest := [.ref (a 0)]) S (c_X8_in l D cy g B x1 0 50) (va_cwS 3 hts gX8_setWeight_X8_in rfl rfl rfl hd_X8_in_S ⟨Nat.le_of_ble_eq_true rfl, Nat.le_of_ble_eq_true rfl⟩) ⟨rdP_blind, my_preV hK0 hS hAB hP [] rfl⟩ rfl rfl hl.1 rfl (lv_room (Nat.le_of_ble_eq_true rfl)) dX8_setWeight_17 ⟨Nat.zero_le _, Nat.zero_le _⟩) ?_
    refine lv_if_eq (tgt := 27) hx hb dX8_setWeight_20 (by decide) (fun c_2 => ?_) (fun c_2 => ?_)
    · refine lv_iconst (v := 2) hx hb dX8_setWeight_27 (by decide) ?_
      refine mu_alli (wf := fun (u_3 : Int32) => (wModE cy a y0 y1 y2 u_3 y4 y5 y6 y7 y8 y9 y10 y11 y12 y13)) (va_runV (C := RX8) (As := [.int 2]) (rest := []) S (c_X8_throwsAt l D cy g B a y0 y1 y2 y3 y4 y5 y6 y7 y8 y9 y10 y11 y12 y13 2) (cwV 1 hts gX8_setWeight_X8_throwsAt rfl rfl rfl hd_X8_throwsAt_V ⟨Nat.le_of_ble_eq_true rfl, Nat.le_of_ble_eq_true rfl⟩) ⟨muP_blind, va_recv hK0.1 hP (ci := 6) (q0 := 0) rfl rfl, my_preA hK0 hS hAB hP hD⟩ rfl rfl hl.1 rfl (lv_room (Nat.le_of_ble_eq_true rfl)) dX8_setWeight_28 ⟨Nat.zero_le _, Nat.zero_le _⟩) hS hD (fun _ => by simp only [List.map_cons, List.map_nil, adrSet, adrSetE, adrPow, adrPowE, adrTxt, adrTxtE, adrSav, adrSavE, adrPCo, adrMod, adrModE]) (fun r_5 u_3 H locs hw_4 hP hD hS => ?_)
      obtain ⟨rfl, rfl⟩ : 1 = r_5 ∧ 2 = u_3 := my_thr_lit (k := 2) (by decide) hw_4
      refine lv_if_eq (tgt := 36) hx hb dX8_setWeight_31 (by decide) (fun h => absurd h (by decide)) (fun _ => ?_)
      refine lv_iconst (v := 0) hx hb dX8_setWeight_34 (by decide) ?_
      have hP : va_P D vwCl (wModE cy a y0 y1 y2 2 y4 y5 y6 y7 y8 y9 y10 y11 y12 y13) H := hP
      have hD : va_D A (wModE cy a y0 y1 y2 2 y4 y5 y6 y7 y8 y9 y10 y11 y12 y13) := hD
      exact W.iret hx hb hr (fun t ht hW => ⟨⟨0, (y0, 2, y7, y8), rfl, (show f_X8_setWeight y0 y1 y7 y8 x0 x1 = (0, (y0, 2, y7, y8)) from by rw [f_X8_setWeight, if_neg c_1, if_pos c_2]), by show va_P D vwCl _ t.heap; rw [ht]; exact hP⟩, hS.F ht⟩) hS.2.2 dX8_setWeight_35
    · refine lv_iconst (v := 0) hx hb dX8_setWeight_23 (by decide) ?_
      refine lv_goto (tgt := 28) hx hb dX8_setWeight_24 (by decide) ?_
      refine mu_alli (wf := fun (u_6 : Int32) => (wModE cy a y0 y1 y2 u_6 y4 y5 y6 y7 y8 y9 y10 y11 y12 y13)) (va_runV (C := RX8) (As := [.int 0]) (rest := []) S (c_X8_throwsAt l D cy g B a y0 y1 y2 y3 y4 y5 y6 y7 y8 y9 y10 y11 y12 y13 0) (cwV 1 hts gX8_setWeight_X8_throwsAt rfl rfl rfl hd_X8_throwsAt_V ⟨Nat.le_of_ble_eq_true rfl, Nat.le_of_ble_eq_true rfl⟩) ⟨muP_blind, va_recv hK0.1 hP (ci := 6) (q0 := 0) rfl rfl, my_preA hK0 hS hAB hP hD⟩ rfl rfl hl.1 rfl (lv_room (Nat.le_of_ble_eq_true rfl)) dX8_setWeight_28 ⟨Nat.zero_le _, Nat.zero_le _⟩) hS hD (fun _ => by simp only [List.map_cons, List.map_nil, adrSet, adrSetE, adrPow, adrPowE, adrTxt, adrTxtE, adrSav, adrSavE, adrPCo, adrMod, adrModE]) (fun r_8 u_6 H locs hw_7 hP hD hS => ?_)
      obtain ⟨rfl, rfl⟩ : 0 = r_8 ∧ 0 = u_6 := my_thr_lit (k := 0) (by decide) hw_7
      refine lv_if_eq (tgt := 36) hx hb dX8_setWeight_31 (by decide) (fun _ => ?_) (fun h => absurd (by decide) h)
      refine lv_aload_n hx hb dX8_setWeight_36 rfl (lv_at hl 0 rfl) ?_
      refine mu_allv (wf := fun (u_9 : Int32 × (Nat → Int32)) => (wModE cy a u_9.1 y1 y2 0 y4 y5 y6 y7 u_9.2 y9 y10 y11 y12 y13)) (va_runV (C := RX8) (As := []) (rest := []) S (c_X8_saves l D cy g B a y0 y1 y2 0 y4 y5 y6 y7 y8 y9 y10 y11 y12 y13 hpa0 hpa4) (cwV 0 hts gX8_setWeight_X8_saves rfl rfl rfl hd_X8_saves_V ⟨Nat.le_of_ble_eq_true rfl, Nat.le_of_ble_eq_true rfl⟩) ⟨muP_blind, va_recv hK0.1 hP (ci := 6) (q0 := 0) rfl rfl, my_preA hK0 hS hAB hP hD⟩ rfl rfl hl.1 rfl (lv_room (Nat.le_of_ble_eq_true rfl)) dX8_setWeight_37 ⟨Nat.zero_le _, Nat.zero_le _⟩) hS hD (fun _ => by simp only [List.map_cons, List.map_nil, adrSet, adrSetE, adrPow, adrPowE, adrTxt, adrTxtE, adrSav, adrSavE, adrPCo, adrMod, adrModE]) (fun u_9 H locs hw_10 hP hD hS => ?_)
      refine lv_aload_n hx hb dX8_setWeight_40 rfl (lv_at hl 0 rfl) ?_
      refine va_get (D := D) (ci := 6) (v := .ref (a 1)) (C := RX8) (T := TX8) (N := 14) hx hb hts inX8 hown hK0.1 hP 0 rfl rfl 0 (by decide) (hts (.fieldLink RX8 7 "PivotChamberModel" "s" "[I") (List.mem_of_getElem? (i := 1) rfl)) (fun _ h9 => h9) rfl dX8_setWeight_41 ?_
      refine lv_iconst (v := 3) hx hb dX8_setWeight_44 (by decide) ?_
      refine lv_iload_n hx hb dX8_setWeight_45 rfl (lv_at hl 1 rfl) ?_
      refine lv_iadd hx hb dX8_setWeight_46 ?_
      refine va_iald hx hb hK0.1 hP 1 0 rfl rfl (ix_loop (K := 8) (N := 27) (im_0 c_1) (Int32.not_le.mpr (im_1 c_1)) hm8 (by decide)) dX8_setWeight_47 ?_
      refine lv_istore_n (lv' := [(3, .int (y7 (3 + x0).toNatClampNeg)), (0, .ref (a 0)), (1, .int x0), (2, .int x1)]) hx hb dX8_setWeight_48 rfl hl (by decide) rfl (fun ls hl => ?_)
      refine lv_aload_n hx hb dX8_setWeight_49 rfl (lv_at hl 1 rfl) ?_
      refine va_get (D := D) (ci := 6) (v := .ref (a 1)) (C := RX8) (T := TX8) (N := 14) hx hb hts inX8 hown hK0.1 hP 0 rfl rfl 0 (by decide) (hts (.fieldLink RX8 7 "PivotChamberModel" "s" "[I") (List.mem_of_getElem? (i := 1) rfl)) (fun _ h9 => h9) rfl dX8_setWeight_50 ?_
      refine lv_iconst (v := 3) hx hb dX8_setWeight_53 (by decide) ?_
      refine lv_iload_n hx hb dX8_setWeight_54 rfl (lv_at hl 2 rfl) ?_
      refine lv_iadd hx hb dX8_setWeight_55 ?_
      refine lv_iload_n hx hb dX8_setWeight_56 rfl (lv_at hl 3 rfl) ?_
      refine va_iast hx hb hK0.1 hP hD hS 1 0 rfl rfl (ix_loop (K := 8) (N := 27) (im_0 c_1) (Int32.not_le.mpr (im_1 c_1)) hm8 (by decide)) dX8_setWeight_57 (fun H locs hP hD hS => ?_)
      have hP : va_P D vwCl (wModE cy a u_9.1 y1 y2 0 y4 y5 y6 (upd y7 (3 + x0).toNatClampNeg x1) u_9.2 y9 y10 y11 y12 y13) H := hP
      have hD : va_D A (wModE cy a u_9.1 y1 y2 0 y4 y5 y6 (upd y7 (3 + x0).toNatClampNeg x1) u_9.2 y9 y10 y11 y12 y13) := hD
      refine lv_iload_n hx hb dX8_setWeight_58 rfl (lv_at hl 0 rfl) ?_
      have hP : va_P D vwCl (wModE cy a u_9.1 y1 y2 0 y4 y5 y6 (upd y7 (3 + x0).toNatClampNeg x1) u_9.2 y9 y10 y11 y12 y13) H := hP
      have hD : va_D A (wModE cy a u_9.1 y1 y2 0 y4 y5 y6 (upd y7 (3 + x0).toNatClampNeg x1) u_9.2 y9 y10 y11 y12 y13) := hD
      exact W.iret hx hb hr (fun t ht hW => ⟨⟨(y7 (3 + x0).toNatClampNeg), (u_9.1, 0, (upd y7 (3 + x0).toNatClampNeg x1), u_9.2), rfl, (show f_X8_setWeight y0 y1 y7 y8 x0 x1 = ((y7 (3 + x0).toNatClampNeg), (u_9.1, 0, (upd y7 (3 + x0).toNatClampNeg x1), u_9.2)) from by rw [f_X8_setWeight, if_neg c_1, if_neg c_2, hw_10, my_l_eq]), by show va_P D vwCl _ t.heap; rw [ht]; exact hP⟩, hS.F ht⟩) hS.2.2 dX8_setWeight_59
  · refine lv_iconst (v := 1) hx hb dX8_setWeight_9 (by decide) ?_
    refine lv_goto (tgt := 28) hx hb dX8_setWeight_10 (by decide) ?_
    refine mu_alli (wf := fun (u_11 : Int32) => (wModE cy a y0 y1 y2 u_11 y4 y5 y6 y7 y8 y9 y10 y11 y12 y13)) (va_runV (C := RX8) (As := [.int 1]) (rest := []) S (c_X8_throwsAt l D cy g B a y0 y1 y2 y3 y4 y5 y6 y7 y8 y9 y10 y11 y12 y13 1) (cwV 1 hts gX8_setWeight_X8_throwsAt rfl rfl rfl hd_X8_throwsAt_V ⟨Nat.le_of_ble_eq_true rfl, Nat.le_of_ble_eq_true rfl⟩) ⟨muP_blind, va_recv hK0.1 hP (ci := 6) (q0 := 0) rfl rfl, my_preA hK0 hS hAB hP hD⟩ rfl rfl hl.1 rfl (lv_room (Nat.le_of_ble_eq_true rfl)) dX8_setWeight_28 ⟨Nat.zero_le _, Nat.zero_le _⟩) hS hD (fun _ => by simp only [List.map_cons, List.map_nil, adrSet, adrSetE, adrPow, adrPowE, adrTxt, adrTxtE, adrSav, adrSavE, adrPCo, adrMod, adrModE]) (fun r_13 u_11 H locs hw_12 hP hD hS => ?_)
    obtain ⟨rfl, rfl⟩ : 1 = r_13 ∧ 1 = u_11 := my_thr_lit (k := 1) (by decide) hw_12
    refine lv_if_eq (tgt := 36) hx hb dX8_setWeight_31 (by decide) (fun h => absurd h (by decide)) (fun _ => ?_)
    refine lv_iconst (v := 0) hx hb dX8_setWeight_34 (by decide) ?_
    have hP : va_P D vwCl (wModE cy a y0 y1 y2 1 y4 y5 y6 y7 y8 y9 y10 y11 y12 y13) H := hP
    have hD : va_D A (wModE cy a y0 y1 y2 1 y4 y5 y6 y7 y8 y9 y10 y11 y12 y13) := hD
    exact W.iret hx hb hr (fun t ht hW => ⟨⟨0, (y0, 1, y7, y8), rfl, (show f_X8_setWeight y0 y1 y7 y8 x0 x1 = (0, (y0, 1, y7, y8)) from by rw [f_X8_setWeight, if_pos c_1]), by show va_P D vwCl _ t.heap; rw [ht]; exact hP⟩, hS.F ht⟩) hS.2.2 dX8_setWeight_35
theorem hd_X8_setQuota_S : yX8_setQuota.cls ≠ "java/lang/invoke/MethodHandle" ∧ yX8_setQuota.cls ≠ "java/lang/invoke/VarHandle" ∧ (parseMethodDescriptor yX8_setQuota.desc).map (fun d => d.parameters.length) = some 1 := by decide +kernel
theorem hd_X8_setQuota_V : yX8_setQuota.cls = RX8 ∧ yX8_setQuota.cls ≠ "java/lang/invoke/MethodHandle" ∧ yX8_setQuota.cls ≠ "java/lang/invoke/VarHandle" ∧ (parseMethodDescriptor yX8_setQuota.desc).map (fun d => d.parameters.length) = some 1 := ⟨rfl, hd_X8_setQuota_S⟩
def f_X8_setQuota (y0 : Int32) (y1 : Int32) (y7 : (Nat → Int32)) (y8 : (Nat → Int32)) (x0 : Int32) : Int32 × (Int32 × Int32 × (Nat → Int32) × (Nat → Int32)) := (if (f_X8_in x0 1 400) = 0 then (0, (y0, 1, y7, y8)) else (my_l (f_X8_saves y0 y1 y7 y8) (fun (u_8 : Int32 × (Nat → Int32)) => ((y7 1), (u_8.1, 0, (upd y7 1 x0), u_8.2)))))
set_option maxHeartbeats 400000 in
set_option maxRecDepth 100000 in
theorem c_X8_setQuota (l : Launch) (D : va_G) (cy : Nat → ClassId) (g : Nat → Nat) (B : Nat) (a : Nat → Nat) (y0 : Int32) (y1 : Int32) (y2 : Int32) (y3 : Int32) (y4 : Int32) (y5 : Int32) (y6 : Int32) (y7 : (Nat → Int32)) (y8 : (Nat → Int32)) (y9 : (Nat → Int32)) (y10 : (Nat → Int32)) (y11 : (Nat → Int32)) (y12 : (Nat → Int32)) (y13 : (Nat → Int32)) (x0 : Int32) (hpa0 : ¬ y0 < 0) (hpa4 : ¬ 4 < y0) : Met l yX8_setQuota wsX8_setQuota ({ frames := 1, cells := 0, slots := 0, locals := 22 }) (muP D cy g B (wModE cy a y0 y1 y2 y3 y4 y5 y6 y7 y8 y9 y10 y11 y12 y13) [.ref (a 0), .int x0]) (va_Qi (fun (r : Int32) (u : Int32 × Int32 × (Nat → Int32) × (Nat → Int32)) => f_X8_setQuota y0 y1 y7 y8 x0 = (r, u)) (fun u t => va_P D vwCl (wModE cy a u.1 y1 y2 u.2.1 y4 y5 y6 u.2.2.1 u.2.2.2 y9 y10 y11 y12 y13) t.heap) (muA (wModE cy a y0 y1 y2 y3 y4 y5 y6 y7 y8 y9 y10 y11 y12 y13))) 0 0 (muA (wModE cy a y0 y1 y2 y3 y4 y5 y6 y7 y8 y9 y10 y11 y12 y13)) := by
  refine Met.ofW (cc := cX8_setQuota) (maxL := 3) (ret := (some .int)) (by decide) rfl ?_
  intro p e s m args below meth c s₁ BB hml hv
  obtain ⟨rfl, hP, hK0, hD0⟩ := hv
  have hx := BB.exec
  have hb := BB.bytes
  have hr := BB.returns
  have hts := atoms_spec (ws := wsX8_setQuota) BB.pre
  have hown : s.vm.findClass RX8 = some m.cls := findClass_of_methodNamed BB.named
  have hlocks := BB.notSynchronized
  have S := my_fix hx hb hml hown hts
  have inX8 : ∀ w ∈ wsX80, w ∈ wsX8_setQuota := fun w h => List.mem_cons_of_mem _ (List.mem_append_right _ h)
  have hAB := muB hD0
  have hD := muD hD0
  generalize hAe : muA (wModE cy a y0 y1 y2 y3 y4 y5 y6 y7 y8 y9 y10 y11 y12 y13) = A at hAB hD ⊢
  have hS : va_S A s.heap s.heap [] := va_S.rf
  have hl := lv_entry ([.ref (a 0), .int x0]) (n := 3) (Nat.le_of_ble_eq_true rfl)
  rw [lg_entry_eq]
  generalize (lg_sl ([.ref (a 0), .int x0]) ++ List.replicate (3 - (lg_sl ([.ref (a 0), .int x0])).length) Slot.unset).toArray = ls at hl ⊢
  have hl : lv_has ls 3 [(0, .ref (a 0)), (1, .int x0)] := hl
  refine lv_aload_n hx hb dX8_setQuota_0 rfl (lv_at hl 0 rfl) ?_
  refine lv_iload_n hx hb dX8_setQuota_1 rfl (lv_at hl 1 rfl) ?_
  refine lv_iconst (v := 1) hx hb dX8_setQuota_2 (by decide) ?_
  refine lv_sipush (v := 400) hx hb dX8_setQuota_3 (by decide) ?_
  refine rd_goi (va_runS (As := [.int x0, .int 1, .int 400]) (rest := [.ref (a 0)]) S (c_X8_in l D cy g B x0 1 400) (va_cwS 3 hts gX8_setQuota_X8_in rfl rfl rfl hd_X8_in_S ⟨Nat.le_of_ble_eq_true rfl, Nat.le_of_ble_eq_true rfl⟩) ⟨rdP_blind, my_preV hK0 hS hAB hP [] rfl⟩ rfl rfl hl.1 rfl (lv_room (Nat.le_of_ble_eq_true rfl)) dX8_setQuota_6 ⟨Nat.zero_le _, Nat.zero_le _⟩) ?_
  refine lv_if_eq (tgt := 16) hx hb dX8_setQuota_9 (by decide) (fun c_1 => ?_) (fun c_1 => ?_)
  · refine lv_iconst (v := 1) hx hb dX8_setQuota_16 (by decide) ?_
    refine mu_alli (wf := fun (u_2 : Int32) => (wModE cy a y0 y1 y2 u_2 y4 y5 y6 y7 y8 y9 y10 y11 y12 y13)) (va_runV (C := RX8) (As := [.int 1]) (rest := []) S (c_X8_throwsAt l D cy g B a y0 y1 y2 y3 y4 y5 y6 y7 y8 y9 y10 y11 y12 y13 1) (cwV 1 hts gX8_setQuota_X8_throwsAt rfl rfl rfl hd_X8_throwsAt_V ⟨Nat.le_of_ble_eq_true rfl, Nat.le_of_ble_eq_true rfl⟩) ⟨muP_blind, va_recv hK0.1 hP (ci := 6) (q0 := 0) rfl rfl, my_preA hK0 hS hAB hP hD⟩ rfl rfl hl.1 rfl (lv_room (Nat.le_of_ble_eq_true rfl)) dX8_setQuota_17 ⟨Nat.zero_le _, Nat.zero_le _⟩) hS hD (fun _ => by simp only [List.map_cons, List.map_nil, adrSet, adrSetE, adrPow, adrPowE, adrTxt, adrTxtE, adrSav, adrSavE, adrPCo, adrMod, adrModE]) (fun r_4 u_2 H locs hw_3 hP hD hS => ?_)
    obtain ⟨rfl, rfl⟩ : 1 = r_4 ∧ 1 = u_2 := my_thr_lit (k := 1) (by decide) hw_3
    refine lv_if_eq (tgt := 25) hx hb dX8_setQuota_20 (by decide) (fun h => absurd h (by decide)) (fun _ => ?_)
    refine lv_iconst (v := 0) hx hb dX8_setQuota_23 (by decide) ?_
    have hP : va_P D vwCl (wModE cy a y0 y1 y2 1 y4 y5 y6 y7 y8 y9 y10 y11 y12 y13) H := hP
    have hD : va_D A (wModE cy a y0 y1 y2 1 y4 y5 y6 y7 y8 y9 y10 y11 y12 y13) := hD
    exact W.iret hx hb hr (fun t ht hW => ⟨⟨0, (y0, 1, y7, y8), rfl, (show f_X8_setQuota y0 y1 y7 y8 x0 = (0, (y0, 1, y7, y8)) from by rw [f_X8_setQuota, if_pos c_1]), by show va_P D vwCl _ t.heap; rw [ht]; exact hP⟩, hS.F ht⟩) hS.2.2 dX8_setQuota_24
  · refine lv_iconst (v := 0) hx hb dX8_setQuota_12 (by decide) ?_
    refine lv_goto (tgt := 17) hx hb dX8_setQuota_13 (by decide) ?_
    refine mu_alli (wf := fun (u_5 : Int32) => (wModE cy a y0 y1 y2 u_5 y4 y5 y6 y7 y8 y9 y10 y11 y12 y13)) (va_runV (C := RX8) (As := [.int 0]) (rest := []) S (c_X8_throwsAt l D cy g B a y0 y1 y2 y3 y4 y5 y6 y7 y8 y9 y10 y11 y12 y13 0) (cwV 1 hts gX8_setQuota_X8_throwsAt rfl rfl rfl hd_X8_throwsAt_V ⟨Nat.le_of_ble_eq_true rfl, Nat.le_of_ble_eq_true rfl⟩) ⟨muP_blind, va_recv hK0.1 hP (ci := 6) (q0 := 0) rfl rfl, my_preA hK0 hS hAB hP hD⟩ rfl rfl hl.1 rfl (lv_room (Nat.le_of_ble_eq_true rfl)) dX8_setQuota_17 ⟨Nat.zero_le _, Nat.zero_le _⟩) hS hD (fun _ => by simp only [List.map_cons, List.map_nil, adrSet, adrSetE, adrPow, adrPowE, adrTxt, adrTxtE, adrSav, adrSavE, adrPCo, adrMod, adrModE]) (fun r_7 u_5 H locs hw_6 hP hD hS => ?_)
    obtain ⟨rfl, rfl⟩ : 0 = r_7 ∧ 0 = u_5 := my_thr_lit (k := 0) (by decide) hw_6
    refine lv_if_eq (tgt := 25) hx hb dX8_setQuota_20 (by decide) (fun _ => ?_) (fun h => absurd (by decide) h)
    refine lv_aload_n hx hb dX8_setQuota_25 rfl (lv_at hl 0 rfl) ?_
    refine mu_allv (wf := fun (u_8 : Int32 × (Nat → Int32)) => (wModE cy a u_8.1 y1 y2 0 y4 y5 y6 y7 u_8.2 y9 y10 y11 y12 y13)) (va_runV (C := RX8) (As := []) (rest := []) S (c_X8_saves l D cy g B a y0 y1 y2 0 y4 y5 y6 y7 y8 y9 y10 y11 y12 y13 hpa0 hpa4) (cwV 0 hts gX8_setQuota_X8_saves rfl rfl rfl hd_X8_saves_V ⟨Nat.le_of_ble_eq_true rfl, Nat.le_of_ble_eq_true rfl⟩) ⟨muP_blind, va_recv hK0.1 hP (ci := 6) (q0 := 0) rfl rfl, my_preA hK0 hS hAB hP hD⟩ rfl rfl hl.1 rfl (lv_room (Nat.le_of_ble_eq_true rfl)) dX8_setQuota_26 ⟨Nat.zero_le _, Nat.zero_le _⟩) hS hD (fun _ => by simp only [List.map_cons, List.map_nil, adrSet, adrSetE, adrPow, adrPowE, adrTxt, adrTxtE, adrSav, adrSavE, adrPCo, adrMod, adrModE]) (fun u_8 H locs hw_9 hP hD hS => ?_)
    refine lv_aload_n hx hb dX8_setQuota_29 rfl (lv_at hl 0 rfl) ?_
    refine va_get (D := D) (ci := 6) (v := .ref (a 1)) (C := RX8) (T := TX8) (N := 14) hx hb hts inX8 hown hK0.1 hP 0 rfl rfl 0 (by decide) (hts (.fieldLink RX8 7 "PivotChamberModel" "s" "[I") (List.mem_of_getElem? (i := 1) rfl)) (fun _ h9 => h9) rfl dX8_setQuota_30 ?_
    refine lv_iconst (v := 1) hx hb dX8_setQuota_33 (by decide) ?_
    refine va_iald hx hb hK0.1 hP 1 0 rfl rfl (vp_in_nI (n := 1) (N := 27) (by decide) (by decide)) dX8_setQuota_34 ?_
    refine W.eq (g2 := F0 m 35 ls [.int (y7 1)]) rfl ?_
    refine lv_istore_n (lv' := [(2, .int (y7 1)), (0, .ref (a 0)), (1, .int x0)]) hx hb dX8_setQuota_35 rfl hl (by decide) rfl (fun ls hl => ?_)
    refine lv_aload_n hx hb dX8_setQuota_36 rfl (lv_at hl 1 rfl) ?_
    refine va_get (D := D) (ci := 6) (v := .ref (a 1)) (C := RX8) (T := TX8) (N := 14) hx hb hts inX8 hown hK0.1 hP 0 rfl rfl 0 (by decide) (hts (.fieldLink RX8 7 "PivotChamberModel" "s" "[I") (List.mem_of_getElem? (i := 1) rfl)) (fun _ h9 => h9) rfl dX8_setQuota_37 ?_
    refine lv_iconst (v := 1) hx hb dX8_setQuota_40 (by decide) ?_
    refine lv_iload_n hx hb dX8_setQuota_41 rfl (lv_at hl 2 rfl) ?_
    refine va_iast hx hb hK0.1 hP hD hS 1 0 rfl rfl (vp_in_nI (n := 1) (N := 27) (by decide) (by decide)) dX8_setQuota_42 (fun H locs hP hD hS => ?_)
    have hP : va_P D vwCl (wModE cy a u_8.1 y1 y2 0 y4 y5 y6 (upd y7 1 x0) u_8.2 y9 y10 y11 y12 y13) H := hP
    have hD : va_D A (wModE cy a u_8.1 y1 y2 0 y4 y5 y6 (upd y7 1 x0) u_8.2 y9 y10 y11 y12 y13) := hD
    refine lv_iload_n hx hb dX8_setQuota_43 rfl (lv_at hl 0 rfl) ?_
    have hP : va_P D vwCl (wModE cy a u_8.1 y1 y2 0 y4 y5 y6 (upd y7 1 x0) u_8.2 y9 y10 y11 y12 y13) H := hP
    have hD : va_D A (wModE cy a u_8.1 y1 y2 0 y4 y5 y6 (upd y7 1 x0) u_8.2 y9 y10 y11 y12 y13) := hD
    exact W.iret hx hb hr (fun t ht hW => ⟨⟨(y7 1), (u_8.1, 0, (upd y7 1 x0), u_8.2), rfl, (show f_X8_setQuota y0 y1 y7 y8 x0 = ((y7 1), (u_8.1, 0, (upd y7 1 x0), u_8.2)) from by rw [f_X8_setQuota, if_neg c_1, hw_9, my_l_eq]), by show va_P D vwCl _ t.heap; rw [ht]; exact hP⟩, hS.F ht⟩) hS.2.2 dX8_setQuota_44
theorem hd_X8_follow_S : yX8_follow.cls ≠ "java/lang/invoke/MethodHandle" ∧ yX8_follow.cls ≠ "java/lang/invoke/VarHandle" ∧ (parseMethodDescriptor yX8_follow.desc).map (fun d => d.parameters.length) = some 2 := by decide +kernel
theorem hd_X8_follow_V : yX8_follow.cls = RX8 ∧ yX8_follow.cls ≠ "java/lang/invoke/MethodHandle" ∧ yX8_follow.cls ≠ "java/lang/invoke/VarHandle" ∧ (parseMethodDescriptor yX8_follow.desc).map (fun d => d.parameters.length) = some 2 := ⟨rfl, hd_X8_follow_S⟩
def f_X8_follow (y0 : Int32) (y1 : Int32) (y7 : (Nat → Int32)) (y8 : (Nat → Int32)) (x0 : Int32) (x1 : Int32) : Int32 × (Int32 × Int32 × (Nat → Int32) × (Nat → Int32)) := (if (f_X8_isMember y7 x0) = 0 then (0, (y0, 1, y7, y8)) else (if (f_X8_isMember y7 x1) = 0 then (0, (y0, 1, y7, y8)) else (if x0 = x1 then (0, (y0, 2, y7, y8)) else (if (f_X8_isPlayer y7 x0) = 0 then (0, (y0, 3, y7, y8)) else (if 0 < (f_X8_followers y7 x0) then (0, (y0, 3, y7, y8)) else (if (f_X8_isPlayer y7 x1) = 0 then (0, (y0, 3, y7, y8)) else (my_l (f_X8_saves y0 y1 y7 y8) (fun (u_22 : Int32 × (Nat → Int32)) => ((f_X8_blocOf (upd y7 (11 + x0).toNatClampNeg x1) x1), (u_22.1, 0, (upd y7 (11 + x0).toNatClampNeg x1), u_22.2))))))))))
set_option maxHeartbeats 400000 in
set_option maxRecDepth 100000 in
theorem c_X8_follow (l : Launch) (D : va_G) (cy : Nat → ClassId) (g : Nat → Nat) (B : Nat) (a : Nat → Nat) (y0 : Int32) (y1 : Int32) (y2 : Int32) (y3 : Int32) (y4 : Int32) (y5 : Int32) (y6 : Int32) (y7 : (Nat → Int32)) (y8 : (Nat → Int32)) (y9 : (Nat → Int32)) (y10 : (Nat → Int32)) (y11 : (Nat → Int32)) (y12 : (Nat → Int32)) (y13 : (Nat → Int32)) (x0 : Int32) (x1 : Int32) (hpa0 : ¬ y0 < 0) (hpa4 : ¬ 4 < y0) (hm8 : ¬ 8 < (y7 0)) : Met l yX8_follow wsX8_follow ({ frames := 3, cells := 0, slots := 0, locals := 66 }) (muP D cy g B (wModE cy a y0 y1 y2 y3 y4 y5 y6 y7 y8 y9 y10 y11 y12 y13) [.ref (a 0), .int x0, .int x1]) (va_Qi (fun (r : Int32) (u : Int32 × Int32 × (Nat → Int32) × (Nat → Int32)) => f_X8_follow y0 y1 y7 y8 x0 x1 = (r, u)) (fun u t => va_P D vwCl (wModE cy a u.1 y1 y2 u.2.1 y4 y5 y6 u.2.2.1 u.2.2.2 y9 y10 y11 y12 y13) t.heap) (muA (wModE cy a y0 y1 y2 y3 y4 y5 y6 y7 y8 y9 y10 y11 y12 y13))) 0 0 (muA (wModE cy a y0 y1 y2 y3 y4 y5 y6 y7 y8 y9 y10 y11 y12 y13)) := by
  refine Met.ofW (cc := cX8_follow) (maxL := 4) (ret := (some .int)) (by decide) rfl ?_
  intro p e s m args below meth c s₁ BB hml hv
  obtain ⟨rfl, hP, hK0, hD0⟩ := hv
  have hx := BB.exec
  have hb := BB.bytes
  have hr := BB.returns
  have hts := atoms_spec (ws := wsX8_follow) BB.pre
  have hown : s.vm.findClass RX8 = some m.cls := findClass_of_methodNamed BB.named
  have hlocks := BB.notSynchronized
  have S := my_fix hx hb hml hown hts
  have inX8 : ∀ w ∈ wsX80, w ∈ wsX8_follow := fun w h => List.mem_cons_of_mem _ (List.mem_append_right _ h)
  have hAB := muB hD0
  have hD := muD hD0
  generalize hAe : muA (wModE cy a y0 y1 y2 y3 y4 y5 y6 y7 y8 y9 y10 y11 y12 y13) = A at hAB hD ⊢
  have hS : va_S A s.heap s.heap [] := va_S.rf
  have hl := lv_entry ([.ref (a 0), .int x0, .int x1]) (n := 4) (Nat.le_of_ble_eq_true rfl)
  rw [lg_entry_eq]
  generalize (lg_sl ([.ref (a 0), .int x0, .int x1]) ++ List.replicate (4 - (lg_sl ([.ref (a 0), .int x0, .int x1])).length) Slot.unset).toArray = ls at hl ⊢
  have hl : lv_has ls 4 [(0, .ref (a 0)), (1, .int x0), (2, .int x1)] := hl
  refine lv_aload_n hx hb dX8_follow_0 rfl (lv_at hl 0 rfl) ?_
  refine lv_iload_n hx hb dX8_follow_1 rfl (lv_at hl 1 rfl) ?_
  refine rd_goi (va_runV (C := RX8) (As := [.int x0]) (rest := []) S (c_X8_isMember l D cy g B a y0 y1 y2 y3 y4 y5 y6 y7 y8 y9 y10 y11 y12 y13 x0) (cwV 1 hts gX8_follow_X8_isMember rfl rfl rfl hd_X8_isMember_V ⟨Nat.le_of_ble_eq_true rfl, Nat.le_of_ble_eq_true rfl⟩) ⟨rdP_blind, va_recv hK0.1 hP (ci := 6) (q0 := 0) rfl rfl, my_preP hK0 hS hAB hP⟩ rfl rfl hl.1 rfl (lv_room (Nat.le_of_ble_eq_true rfl)) dX8_follow_2 ⟨Nat.zero_le _, Nat.zero_le _⟩) ?_
  refine lv_if_eq (tgt := 20) hx hb dX8_follow_5 (by decide) (fun c_1 => ?_) (fun c_1 => ?_)
  · refine lv_iconst (v := 0) hx hb dX8_follow_20 (by decide) ?_
    refine lv_istore_n (lv' := [(3, .int 0), (0, .ref (a 0)), (1, .int x0), (2, .int x1)]) hx hb dX8_follow_21 rfl hl (by decide) rfl (fun ls hl => ?_)
    refine lv_aload_n hx hb dX8_follow_22 rfl (lv_at hl 1 rfl) ?_
    refine lv_iload_n hx hb dX8_follow_23 rfl (lv_at hl 0 rfl) ?_
    refine lv_if_ne (tgt := 31) hx hb dX8_follow_24 (by decide) (fun h => absurd (by decide) h) (fun _ => ?_)
    refine lv_iconst (v := 1) hx hb dX8_follow_27 (by decide) ?_
    refine lv_goto (tgt := 69) hx hb dX8_follow_28 (by decide) ?_
    refine mu_alli (wf := fun (u_2 : Int32) => (wModE cy a y0 y1 y2 u_2 y4 y5 y6 y7 y8 y9 y10 y11 y12 y13)) (va_runV (C := RX8) (As := [.int 1]) (rest := []) S (c_X8_throwsAt l D cy g B a y0 y1 y2 y3 y4 y5 y6 y7 y8 y9 y10 y11 y12 y13 1) (cwV 1 hts gX8_follow_X8_throwsAt rfl rfl rfl hd_X8_throwsAt_V ⟨Nat.le_of_ble_eq_true rfl, Nat.le_of_ble_eq_true rfl⟩) ⟨muP_blind, va_recv hK0.1 hP (ci := 6) (q0 := 0) rfl rfl, my_preA hK0 hS hAB hP hD⟩ rfl rfl hl.1 rfl (lv_room (Nat.le_of_ble_eq_true rfl)) dX8_follow_69 ⟨Nat.zero_le _, Nat.zero_le _⟩) hS hD (fun _ => by simp only [List.map_cons, List.map_nil, adrSet, adrSetE, adrPow, adrPowE, adrTxt, adrTxtE, adrSav, adrSavE, adrPCo, adrMod, adrModE]) (fun r_4 u_2 H locs hw_3 hP hD hS => ?_)
    obtain ⟨rfl, rfl⟩ : 1 = r_4 ∧ 1 = u_2 := my_thr_lit (k := 1) (by decide) hw_3
    refine lv_if_eq (tgt := 77) hx hb dX8_follow_72 (by decide) (fun h => absurd h (by decide)) (fun _ => ?_)
    refine lv_iconst (v := 0) hx hb dX8_follow_75 (by decide) ?_
    have hP : va_P D vwCl (wModE cy a y0 y1 y2 1 y4 y5 y6 y7 y8 y9 y10 y11 y12 y13) H := hP
    have hD : va_D A (wModE cy a y0 y1 y2 1 y4 y5 y6 y7 y8 y9 y10 y11 y12 y13) := hD
    exact W.iret hx hb hr (fun t ht hW => ⟨⟨0, (y0, 1, y7, y8), rfl, (show f_X8_follow y0 y1 y7 y8 x0 x1 = (0, (y0, 1, y7, y8)) from by rw [f_X8_follow, if_pos c_1]), by show va_P D vwCl _ t.heap; rw [ht]; exact hP⟩, hS.F ht⟩) hS.2.2 dX8_follow_76
  · refine lv_aload_n hx hb dX8_follow_8 rfl (lv_at hl 0 rfl) ?_
    refine lv_iload_n hx hb dX8_follow_9 rfl (lv_at hl 2 rfl) ?_
    refine rd_goi (va_runV (C := RX8) (As := [.int x1]) (rest := []) S (c_X8_isMember l D cy g B a y0 y1 y2 y3 y4 y5 y6 y7 y8 y9 y10 y11 y12 y13 x1) (cwV 1 hts gX8_follow_X8_isMember rfl rfl rfl hd_X8_isMember_V ⟨Nat.le_of_ble_eq_true rfl, Nat.le_of_ble_eq_true rfl⟩) ⟨rdP_blind, va_recv hK0.1 hP (ci := 6) (q0 := 0) rfl rfl, my_preP hK0 hS hAB hP⟩ rfl rfl hl.1 rfl (lv_room (Nat.le_of_ble_eq_true rfl)) dX8_follow_10 ⟨Nat.zero_le _, Nat.zero_le _⟩) ?_
    refine lv_if_eq (tgt := 20) hx hb dX8_follow_13 (by decide) (fun c_5 => ?_) (fun c_5 => ?_)
    · refine lv_iconst (v := 0) hx hb dX8_follow_20 (by decide) ?_
      refine lv_istore_n (lv' := [(3, .int 0), (0, .ref (a 0)), (1, .int x0), (2, .int x1)]) hx hb dX8_follow_21 rfl hl (by decide) rfl (fun ls hl => ?_)
      refine lv_aload_n hx hb dX8_follow_22 rfl (lv_at hl 1 rfl) ?_
      refine lv_iload_n hx hb dX8_follow_23 rfl (lv_at hl 0 rfl) ?_
      refine lv_if_ne (tgt := 31) hx hb dX8_follow_24 (by decide) (fun h => absurd (by decide) h) (fun _ => ?_)
      refine lv_iconst (v := 1) hx hb dX8_follow_27 (by decide) ?_
      refine lv_goto (tgt := 69) hx hb dX8_follow_28 (by decide) ?_
      refine mu_alli (wf := fun (u_6 : Int32) => (wModE cy a y0 y1 y2 u_6 y4 y5 y6 y7 y8 y9 y10 y11 y12 y13)) (va_runV (C := RX8) (As := [.int 1]) (rest := []) S (c_X8_throwsAt l D cy g B a y0 y1 y2 y3 y4 y5 y6 y7 y8 y9 y10 y11 y12 y13 1) (cwV 1 hts gX8_follow_X8_throwsAt rfl rfl rfl hd_X8_throwsAt_V ⟨Nat.le_of_ble_eq_true rfl, Nat.le_of_ble_eq_true rfl⟩) ⟨muP_blind, va_recv hK0.1 hP (ci := 6) (q0 := 0) rfl rfl, my_preA hK0 hS hAB hP hD⟩ rfl rfl hl.1 rfl (lv_room (Nat.le_of_ble_eq_true rfl)) dX8_follow_69 ⟨Nat.zero_le _, Nat.zero_le _⟩) hS hD (fun _ => by simp only [List.map_cons, List.map_nil, adrSet, adrSetE, adrPow, adrPowE, adrTxt, adrTxtE, adrSav, adrSavE, adrPCo, adrMod, adrModE]) (fun r_8 u_6 H locs hw_7 hP hD hS => ?_)
      obtain ⟨rfl, rfl⟩ : 1 = r_8 ∧ 1 = u_6 := my_thr_lit (k := 1) (by decide) hw_7
      refine lv_if_eq (tgt := 77) hx hb dX8_follow_72 (by decide) (fun h => absurd h (by decide)) (fun _ => ?_)
      refine lv_iconst (v := 0) hx hb dX8_follow_75 (by decide) ?_
      have hP : va_P D vwCl (wModE cy a y0 y1 y2 1 y4 y5 y6 y7 y8 y9 y10 y11 y12 y13) H := hP
      have hD : va_D A (wModE cy a y0 y1 y2 1 y4 y5 y6 y7 y8 y9 y10 y11 y12 y13) := hD
      exact W.iret hx hb hr (fun t ht hW => ⟨⟨0, (y0, 1, y7, y8), rfl, (show f_X8_follow y0 y1 y7 y8 x0 x1 = (0, (y0, 1, y7, y8)) from by rw [f_X8_follow, if_neg c_1, if_pos c_5]), by show va_P D vwCl _ t.heap; rw [ht]; exact hP⟩, hS.F ht⟩) hS.2.2 dX8_follow_76
    · refine lv_iconst (v := 1) hx hb dX8_follow_16 (by decide) ?_
      refine lv_goto (tgt := 21) hx hb dX8_follow_17 (by decide) ?_
      refine lv_istore_n (lv' := [(3, .int 1), (0, .ref (a 0)), (1, .int x0), (2, .int x1)]) hx hb dX8_follow_21 rfl hl (by decide) rfl (fun ls hl => ?_)
      refine lv_aload_n hx hb dX8_follow_22 rfl (lv_at hl 1 rfl) ?_
      refine lv_iload_n hx hb dX8_follow_23 rfl (lv_at hl 0 rfl) ?_
      refine lv_if_ne (tgt := 31) hx hb dX8_follow_24 (by decide) (fun _ => ?_) (fun h => absurd h (by decide))
      refine lv_iload_n hx hb dX8_follow_31 rfl (lv_at hl 2 rfl) ?_
      refine lv_iload_n hx hb dX8_follow_32 rfl (lv_at hl 3 rfl) ?_
      refine lv_icmp_ne (tgt := 40) hx hb dX8_follow_33 (by decide) (fun c_9 => ?_) (fun c_9 => ?_)
      · refine lv_aload_n hx hb dX8_follow_40 rfl (lv_at hl 1 rfl) ?_
        refine lv_iload_n hx hb dX8_follow_41 rfl (lv_at hl 2 rfl) ?_
        refine rd_goi (va_runV (C := RX8) (As := [.int x0]) (rest := [.ref (a 0)]) S (c_X8_isPlayer l D cy g B a y0 y1 y2 y3 y4 y5 y6 y7 y8 y9 y10 y11 y12 y13 x0 hm8) (cwV 1 hts gX8_follow_X8_isPlayer rfl rfl rfl hd_X8_isPlayer_V ⟨Nat.le_of_ble_eq_true rfl, Nat.le_of_ble_eq_true rfl⟩) ⟨rdP_blind, va_recv hK0.1 hP (ci := 6) (q0 := 0) rfl rfl, my_preP hK0 hS hAB hP⟩ rfl rfl hl.1 rfl (lv_room (Nat.le_of_ble_eq_true rfl)) dX8_follow_42 ⟨Nat.zero_le _, Nat.zero_le _⟩) ?_
        refine lv_if_eq (tgt := 64) hx hb dX8_follow_45 (by decide) (fun c_10 => ?_) (fun c_10 => ?_)
        · refine lv_iconst (v := 3) hx hb dX8_follow_64 (by decide) ?_
          refine lv_goto (tgt := 69) hx hb dX8_follow_65 (by decide) ?_
          refine mu_alli (wf := fun (u_11 : Int32) => (wModE cy a y0 y1 y2 u_11 y4 y5 y6 y7 y8 y9 y10 y11 y12 y13)) (va_runV (C := RX8) (As := [.int 3]) (rest := []) S (c_X8_throwsAt l D cy g B a y0 y1 y2 y3 y4 y5 y6 y7 y8 y9 y10 y11 y12 y13 3) (cwV 1 hts gX8_follow_X8_throwsAt rfl rfl rfl hd_X8_throwsAt_V ⟨Nat.le_of_ble_eq_true rfl, Nat.le_of_ble_eq_true rfl⟩) ⟨muP_blind, va_recv hK0.1 hP (ci := 6) (q0 := 0) rfl rfl, my_preA hK0 hS hAB hP hD⟩ rfl rfl hl.1 rfl (lv_room (Nat.le_of_ble_eq_true rfl)) dX8_follow_69 ⟨Nat.zero_le _, Nat.zero_le _⟩) hS hD (fun _ => by simp only [List.map_cons, List.map_nil, adrSet, adrSetE, adrPow, adrPowE, adrTxt, adrTxtE, adrSav, adrSavE, adrPCo, adrMod, adrModE]) (fun r_13 u_11 H locs hw_12 hP hD hS => ?_)
          obtain ⟨rfl, rfl⟩ : 1 = r_13 ∧ 3 = u_11 := my_thr_lit (k := 3) (by decide) hw_12
          refine lv_if_eq (tgt := 77) hx hb dX8_follow_72 (by decide) (fun h => absurd h (by decide)) (fun _ => ?_)
          refine lv_iconst (v := 0) hx hb dX8_follow_75 (by decide) ?_
          have hP : va_P D vwCl (wModE cy a y0 y1 y2 3 y4 y5 y6 y7 y8 y9 y10 y11 y12 y13) H := hP
          have hD : va_D A (wModE cy a y0 y1 y2 3 y4 y5 y6 y7 y8 y9 y10 y11 y12 y13) := hD
          exact W.iret hx hb hr (fun t ht hW => ⟨⟨0, (y0, 3, y7, y8), rfl, (show f_X8_follow y0 y1 y7 y8 x0 x1 = (0, (y0, 3, y7, y8)) from by rw [f_X8_follow, if_neg c_1, if_neg c_5, if_neg c_9, if_pos c_10]), by show va_P D vwCl _ t.heap; rw [ht]; exact hP⟩, hS.F ht⟩) hS.2.2 dX8_follow_76
        · refine lv_aload_n hx hb dX8_follow_48 rfl (lv_at hl 1 rfl) ?_
          refine lv_iload_n hx hb dX8_follow_49 rfl (lv_at hl 2 rfl) ?_
          refine rd_goi (va_runV (C := RX8) (As := [.int x0]) (rest := [.ref (a 0)]) S (c_X8_followers l D cy g B a y0 y1 y2 y3 y4 y5 y6 y7 y8 y9 y10 y11 y12 y13 x0 hm8) (cwV 1 hts gX8_follow_X8_followers rfl rfl rfl hd_X8_followers_V ⟨Nat.le_of_ble_eq_true rfl, Nat.le_of_ble_eq_true rfl⟩) ⟨rdP_blind, va_recv hK0.1 hP (ci := 6) (q0 := 0) rfl rfl, my_preP hK0 hS hAB hP⟩ rfl rfl hl.1 rfl (lv_room (Nat.le_of_ble_eq_true rfl)) dX8_follow_50 ⟨Nat.zero_le _, Nat.zero_le _⟩) ?_
          refine lv_if_gt (tgt := 64) hx hb dX8_follow_53 (by decide) (fun c_14 => ?_) (fun c_14 => ?_)
          · refine lv_iconst (v := 3) hx hb dX8_follow_64 (by decide) ?_
            refine lv_goto (tgt := 69) hx hb dX8_follow_65 (by decide) ?_
            refine mu_alli (wf := fun (u_15 : Int32) => (wModE cy a y0 y1 y2 u_15 y4 y5 y6 y7 y8 y9 y10 y11 y12 y13)) (va_runV (C := RX8) (As := [.int 3]) (rest := []) S (c_X8_throwsAt l D cy g B a y0 y1 y2 y3 y4 y5 y6 y7 y8 y9 y10 y11 y12 y13 3) (cwV 1 hts gX8_follow_X8_throwsAt rfl rfl rfl hd_X8_throwsAt_V ⟨Nat.le_of_ble_eq_true rfl, Nat.le_of_ble_eq_true rfl⟩) ⟨muP_blind, va_recv hK0.1 hP (ci := 6) (q0 := 0) rfl rfl, my_preA hK0 hS hAB hP hD⟩ rfl rfl hl.1 rfl (lv_room (Nat.le_of_ble_eq_true rfl)) dX8_follow_69 ⟨Nat.zero_le _, Nat.zero_le _⟩) hS hD (fun _ => by simp only [List.map_cons, List.map_nil, adrSet, adrSetE, adrPow, adrPowE, adrTxt, adrTxtE, adrSav, adrSavE, adrPCo, adrMod, adrModE]) (fun r_17 u_15 H locs hw_16 hP hD hS => ?_)
            obtain ⟨rfl, rfl⟩ : 1 = r_17 ∧ 3 = u_15 := my_thr_lit (k := 3) (by decide) hw_16
            refine lv_if_eq (tgt := 77) hx hb dX8_follow_72 (by decide) (fun h => absurd h (by decide)) (fun _ => ?_)
            refine lv_iconst (v := 0) hx hb dX8_follow_75 (by decide) ?_
            have hP : va_P D vwCl (wModE cy a y0 y1 y2 3 y4 y5 y6 y7 y8 y9 y10 y11 y12 y13) H := hP
            have hD : va_D A (wModE cy a y0 y1 y2 3 y4 y5 y6 y7 y8 y9 y10 y11 y12 y13) := hD
            exact W.iret hx hb hr (fun t ht hW => ⟨⟨0, (y0, 3, y7, y8), rfl, (show f_X8_follow y0 y1 y7 y8 x0 x1 = (0, (y0, 3, y7, y8)) from by rw [f_X8_follow, if_neg c_1, if_neg c_5, if_neg c_9, if_neg c_10, if_pos c_14]), by show va_P D vwCl _ t.heap; rw [ht]; exact hP⟩, hS.F ht⟩) hS.2.2 dX8_follow_76
          · refine lv_aload_n hx hb dX8_follow_56 rfl (lv_at hl 1 rfl) ?_
            refine lv_iload_n hx hb dX8_follow_57 rfl (lv_at hl 3 rfl) ?_
            refine rd_goi (va_runV (C := RX8) (As := [.int x1]) (rest := [.ref (a 0)]) S (c_X8_isPlayer l D cy g B a y0 y1 y2 y3 y4 y5 y6 y7 y8 y9 y10 y11 y12 y13 x1 hm8) (cwV 1 hts gX8_follow_X8_isPlayer rfl rfl rfl hd_X8_isPlayer_V ⟨Nat.le_of_ble_eq_true rfl, Nat.le_of_ble_eq_true rfl⟩) ⟨rdP_blind, va_recv hK0.1 hP (ci := 6) (q0 := 0) rfl rfl, my_preP hK0 hS hAB hP⟩ rfl rfl hl.1 rfl (lv_room (Nat.le_of_ble_eq_true rfl)) dX8_follow_58 ⟨Nat.zero_le _, Nat.zero_le _⟩) ?_
            refine lv_if_ne (tgt := 68) hx hb dX8_follow_61 (by decide) (fun c_18 => ?_) (fun c_18 => ?_)
            · refine lv_iconst (v := 0) hx hb dX8_follow_68 (by decide) ?_
              refine mu_alli (wf := fun (u_19 : Int32) => (wModE cy a y0 y1 y2 u_19 y4 y5 y6 y7 y8 y9 y10 y11 y12 y13)) (va_runV (C := RX8) (As := [.int 0]) (rest := []) S (c_X8_throwsAt l D cy g B a y0 y1 y2 y3 y4 y5 y6 y7 y8 y9 y10 y11 y12 y13 0) (cwV 1 hts gX8_follow_X8_throwsAt rfl rfl rfl hd_X8_throwsAt_V ⟨Nat.le_of_ble_eq_true rfl, Nat.le_of_ble_eq_true rfl⟩) ⟨muP_blind, va_recv hK0.1 hP (ci := 6) (q0 := 0) rfl rfl, my_preA hK0 hS hAB hP hD⟩ rfl rfl hl.1 rfl (lv_room (Nat.le_of_ble_eq_true rfl)) dX8_follow_69 ⟨Nat.zero_le _, Nat.zero_le _⟩) hS hD (fun _ => by simp only [List.map_cons, List.map_nil, adrSet, adrSetE, adrPow, adrPowE, adrTxt, adrTxtE, adrSav, adrSavE, adrPCo, adrMod, adrModE]) (fun r_21 u_19 H locs hw_20 hP hD hS => ?_)
              obtain ⟨rfl, rfl⟩ : 0 = r_21 ∧ 0 = u_19 := my_thr_lit (k := 0) (by decide) hw_20
              refine lv_if_eq (tgt := 77) hx hb dX8_follow_72 (by decide) (fun _ => ?_) (fun h => absurd (by decide) h)
              refine lv_aload_n hx hb dX8_follow_77 rfl (lv_at hl 1 rfl) ?_
              refine mu_allv (wf := fun (u_22 : Int32 × (Nat → Int32)) => (wModE cy a u_22.1 y1 y2 0 y4 y5 y6 y7 u_22.2 y9 y10 y11 y12 y13)) (va_runV (C := RX8) (As := []) (rest := []) S (c_X8_saves l D cy g B a y0 y1 y2 0 y4 y5 y6 y7 y8 y9 y10 y11 y12 y13 hpa0 hpa4) (cwV 0 hts gX8_follow_X8_saves rfl rfl rfl hd_X8_saves_V ⟨Nat.le_of_ble_eq_true rfl, Nat.le_of_ble_eq_true rfl⟩) ⟨muP_blind, va_recv hK0.1 hP (ci := 6) (q0 := 0) rfl rfl, my_preA hK0 hS hAB hP hD⟩ rfl rfl hl.1 rfl (lv_room (Nat.le_of_ble_eq_true rfl)) dX8_follow_78 ⟨Nat.zero_le _, Nat.zero_le _⟩) hS hD (fun _ => by simp only [List.map_cons, List.map_nil, adrSet, adrSetE, adrPow, adrPowE, adrTxt, adrTxtE, adrSav, adrSavE, adrPCo, adrMod, adrModE]) (fun u_22 H locs hw_23 hP hD hS => ?_)
              refine lv_aload_n hx hb dX8_follow_81 rfl (lv_at hl 1 rfl) ?_
              refine va_get (D := D) (ci := 6) (v := .ref (a 1)) (C := RX8) (T := TX8) (N := 14) hx hb hts inX8 hown hK0.1 hP 0 rfl rfl 0 (by decide) (hts (.fieldLink RX8 7 "PivotChamberModel" "s" "[I") (List.mem_of_getElem? (i := 1) rfl)) (fun _ h9 => h9) rfl dX8_follow_82 ?_
              refine lv_bipush (v := 11) hx hb dX8_follow_85 (by decide) ?_
              refine lv_iload_n hx hb dX8_follow_87 rfl (lv_at hl 2 rfl) ?_
              refine lv_iadd hx hb dX8_follow_88 ?_
              refine lv_iload_n hx hb dX8_follow_89 rfl (lv_at hl 3 rfl) ?_
              refine va_iast hx hb hK0.1 hP hD hS 1 0 rfl rfl (ix_loop (K := 8) (N := 27) (ip_0 c_10) (Int32.not_le.mpr (ip_1 c_10)) hm8 (by decide)) dX8_follow_90 (fun H locs hP hD hS => ?_)
              have hP : va_P D vwCl (wModE cy a u_22.1 y1 y2 0 y4 y5 y6 (upd y7 (11 + x0).toNatClampNeg x1) u_22.2 y9 y10 y11 y12 y13) H := hP
              have hD : va_D A (wModE cy a u_22.1 y1 y2 0 y4 y5 y6 (upd y7 (11 + x0).toNatClampNeg x1) u_22.2 y9 y10 y11 y12 y13) := hD
              refine lv_aload_n hx hb dX8_follow_91 rfl (lv_at hl 1 rfl) ?_
              refine lv_iload_n hx hb dX8_follow_92 rfl (lv_at hl 3 rfl) ?_
              refine rd_goi (va_runV (C := RX8) (As := [.int x1]) (rest := []) S (c_X8_blocOf l D cy g B a u_22.1 y1 y2 0 y4 y5 y6 (upd y7 (11 + x0).toNatClampNeg x1) u_22.2 y9 y10 y11 y12 y13 x1 (by rw [upd_lo (N := 27) (ip_0 c_10) (ix_loop (K := 8) (N := 27) (ip_0 c_10) (Int32.not_le.mpr (ip_1 c_10)) hm8 (by decide)) (by decide) (by decide)]; exact hm8)) (cwV 1 hts gX8_follow_X8_blocOf rfl rfl rfl hd_X8_blocOf_V ⟨Nat.le_of_ble_eq_true rfl, Nat.le_of_ble_eq_true rfl⟩) ⟨rdP_blind, va_recv hK0.1 hP (ci := 6) (q0 := 0) rfl rfl, my_preP hK0 hS hAB hP⟩ rfl rfl hl.1 rfl (lv_room (Nat.le_of_ble_eq_true rfl)) dX8_follow_93 ⟨Nat.zero_le _, Nat.zero_le _⟩) ?_
              have hP : va_P D vwCl (wModE cy a u_22.1 y1 y2 0 y4 y5 y6 (upd y7 (11 + x0).toNatClampNeg x1) u_22.2 y9 y10 y11 y12 y13) H := hP
              have hD : va_D A (wModE cy a u_22.1 y1 y2 0 y4 y5 y6 (upd y7 (11 + x0).toNatClampNeg x1) u_22.2 y9 y10 y11 y12 y13) := hD
              exact W.iret hx hb hr (fun t ht hW => ⟨⟨(f_X8_blocOf (upd y7 (11 + x0).toNatClampNeg x1) x1), (u_22.1, 0, (upd y7 (11 + x0).toNatClampNeg x1), u_22.2), rfl, (show f_X8_follow y0 y1 y7 y8 x0 x1 = ((f_X8_blocOf (upd y7 (11 + x0).toNatClampNeg x1) x1), (u_22.1, 0, (upd y7 (11 + x0).toNatClampNeg x1), u_22.2)) from by rw [f_X8_follow, if_neg c_1, if_neg c_5, if_neg c_9, if_neg c_10, if_neg c_14, if_neg c_18, hw_23, my_l_eq]), by show va_P D vwCl _ t.heap; rw [ht]; exact hP⟩, hS.F ht⟩) hS.2.2 dX8_follow_96
            · refine lv_iconst (v := 3) hx hb dX8_follow_64 (by decide) ?_
              refine lv_goto (tgt := 69) hx hb dX8_follow_65 (by decide) ?_
              refine mu_alli (wf := fun (u_24 : Int32) => (wModE cy a y0 y1 y2 u_24 y4 y5 y6 y7 y8 y9 y10 y11 y12 y13)) (va_runV (C := RX8) (As := [.int 3]) (rest := []) S (c_X8_throwsAt l D cy g B a y0 y1 y2 y3 y4 y5 y6 y7 y8 y9 y10 y11 y12 y13 3) (cwV 1 hts gX8_follow_X8_throwsAt rfl rfl rfl hd_X8_throwsAt_V ⟨Nat.le_of_ble_eq_true rfl, Nat.le_of_ble_eq_true rfl⟩) ⟨muP_blind, va_recv hK0.1 hP (ci := 6) (q0 := 0) rfl rfl, my_preA hK0 hS hAB hP hD⟩ rfl rfl hl.1 rfl (lv_room (Nat.le_of_ble_eq_true rfl)) dX8_follow_69 ⟨Nat.zero_le _, Nat.zero_le _⟩) hS hD (fun _ => by simp only [List.map_cons, List.map_nil, adrSet, adrSetE, adrPow, adrPowE, adrTxt, adrTxtE, adrSav, adrSavE, adrPCo, adrMod, adrModE]) (fun r_26 u_24 H locs hw_25 hP hD hS => ?_)
              obtain ⟨rfl, rfl⟩ : 1 = r_26 ∧ 3 = u_24 := my_thr_lit (k := 3) (by decide) hw_25
              refine lv_if_eq (tgt := 77) hx hb dX8_follow_72 (by decide) (fun h => absurd h (by decide)) (fun _ => ?_)
              refine lv_iconst (v := 0) hx hb dX8_follow_75 (by decide) ?_
              have hP : va_P D vwCl (wModE cy a y0 y1 y2 3 y4 y5 y6 y7 y8 y9 y10 y11 y12 y13) H := hP
              have hD : va_D A (wModE cy a y0 y1 y2 3 y4 y5 y6 y7 y8 y9 y10 y11 y12 y13) := hD
              exact W.iret hx hb hr (fun t ht hW => ⟨⟨0, (y0, 3, y7, y8), rfl, (show f_X8_follow y0 y1 y7 y8 x0 x1 = (0, (y0, 3, y7, y8)) from by rw [f_X8_follow, if_neg c_1, if_neg c_5, if_neg c_9, if_neg c_10, if_neg c_14, if_pos c_18]), by show va_P D vwCl _ t.heap; rw [ht]; exact hP⟩, hS.F ht⟩) hS.2.2 dX8_follow_76
      · refine lv_iconst (v := 2) hx hb dX8_follow_36 (by decide) ?_
        refine lv_goto (tgt := 69) hx hb dX8_follow_37 (by decide) ?_
        refine mu_alli (wf := fun (u_27 : Int32) => (wModE cy a y0 y1 y2 u_27 y4 y5 y6 y7 y8 y9 y10 y11 y12 y13)) (va_runV (C := RX8) (As := [.int 2]) (rest := []) S (c_X8_throwsAt l D cy g B a y0 y1 y2 y3 y4 y5 y6 y7 y8 y9 y10 y11 y12 y13 2) (cwV 1 hts gX8_follow_X8_throwsAt rfl rfl rfl hd_X8_throwsAt_V ⟨Nat.le_of_ble_eq_true rfl, Nat.le_of_ble_eq_true rfl⟩) ⟨muP_blind, va_recv hK0.1 hP (ci := 6) (q0 := 0) rfl rfl, my_preA hK0 hS hAB hP hD⟩ rfl rfl hl.1 rfl (lv_room (Nat.le_of_ble_eq_true rfl)) dX8_follow_69 ⟨Nat.zero_le _, Nat.zero_le _⟩) hS hD (fun _ => by simp only [List.map_cons, List.map_nil, adrSet, adrSetE, adrPow, adrPowE, adrTxt, adrTxtE, adrSav, adrSavE, adrPCo, adrMod, adrModE]) (fun r_29 u_27 H locs hw_28 hP hD hS => ?_)
        obtain ⟨rfl, rfl⟩ : 1 = r_29 ∧ 2 = u_27 := my_thr_lit (k := 2) (by decide) hw_28
        refine lv_if_eq (tgt := 77) hx hb dX8_follow_72 (by decide) (fun h => absurd h (by decide)) (fun _ => ?_)
        refine lv_iconst (v := 0) hx hb dX8_follow_75 (by decide) ?_
        have hP : va_P D vwCl (wModE cy a y0 y1 y2 2 y4 y5 y6 y7 y8 y9 y10 y11 y12 y13) H := hP
        have hD : va_D A (wModE cy a y0 y1 y2 2 y4 y5 y6 y7 y8 y9 y10 y11 y12 y13) := hD
        exact W.iret hx hb hr (fun t ht hW => ⟨⟨0, (y0, 2, y7, y8), rfl, (show f_X8_follow y0 y1 y7 y8 x0 x1 = (0, (y0, 2, y7, y8)) from by rw [f_X8_follow, if_neg c_1, if_neg c_5, if_pos c_9]), by show va_P D vwCl _ t.heap; rw [ht]; exact hP⟩, hS.F ht⟩) hS.2.2 dX8_follow_76
theorem hd_X8_leave_S : yX8_leave.cls ≠ "java/lang/invoke/MethodHandle" ∧ yX8_leave.cls ≠ "java/lang/invoke/VarHandle" ∧ (parseMethodDescriptor yX8_leave.desc).map (fun d => d.parameters.length) = some 1 := by decide +kernel
theorem hd_X8_leave_V : yX8_leave.cls = RX8 ∧ yX8_leave.cls ≠ "java/lang/invoke/MethodHandle" ∧ yX8_leave.cls ≠ "java/lang/invoke/VarHandle" ∧ (parseMethodDescriptor yX8_leave.desc).map (fun d => d.parameters.length) = some 1 := ⟨rfl, hd_X8_leave_S⟩
def f_X8_leave (y0 : Int32) (y1 : Int32) (y7 : (Nat → Int32)) (y8 : (Nat → Int32)) (x0 : Int32) : Int32 × (Int32 × Int32 × (Nat → Int32) × (Nat → Int32)) := (if (f_X8_isMember y7 x0) = 0 then (0, (y0, 1, y7, y8)) else (if (f_X8_isPlayer y7 x0) = 0 then (my_l (f_X8_saves y0 y1 y7 y8) (fun (u_6 : Int32 × (Nat → Int32)) => ((y7 (11 + x0).toNatClampNeg), (u_6.1, 0, (upd y7 (11 + x0).toNatClampNeg (-1)), u_6.2)))) else (0, (y0, 2, y7, y8))))
set_option maxHeartbeats 400000 in
set_option maxRecDepth 100000 in
theorem c_X8_leave (l : Launch) (D : va_G) (cy : Nat → ClassId) (g : Nat → Nat) (B : Nat) (a : Nat → Nat) (y0 : Int32) (y1 : Int32) (y2 : Int32) (y3 : Int32) (y4 : Int32) (y5 : Int32) (y6 : Int32) (y7 : (Nat → Int32)) (y8 : (Nat → Int32)) (y9 : (Nat → Int32)) (y10 : (Nat → Int32)) (y11 : (Nat → Int32)) (y12 : (Nat → Int32)) (y13 : (Nat → Int32)) (x0 : Int32) (hpa0 : ¬ y0 < 0) (hpa4 : ¬ 4 < y0) (hm8 : ¬ 8 < (y7 0)) : Met l yX8_leave wsX8_leave ({ frames := 2, cells := 0, slots := 0, locals := 42 }) (muP D cy g B (wModE cy a y0 y1 y2 y3 y4 y5 y6 y7 y8 y9 y10 y11 y12 y13) [.ref (a 0), .int x0]) (va_Qi (fun (r : Int32) (u : Int32 × Int32 × (Nat → Int32) × (Nat → Int32)) => f_X8_leave y0 y1 y7 y8 x0 = (r, u)) (fun u t => va_P D vwCl (wModE cy a u.1 y1 y2 u.2.1 y4 y5 y6 u.2.2.1 u.2.2.2 y9 y10 y11 y12 y13) t.heap) (muA (wModE cy a y0 y1 y2 y3 y4 y5 y6 y7 y8 y9 y10 y11 y12 y13))) 0 0 (muA (wModE cy a y0 y1 y2 y3 y4 y5 y6 y7 y8 y9 y10 y11 y12 y13)) := by
  refine Met.ofW (cc := cX8_leave) (maxL := 3) (ret := (some .int)) (by decide) rfl ?_
  intro p e s m args below meth c s₁ BB hml hv
  obtain ⟨rfl, hP, hK0, hD0⟩ := hv
  have hx := BB.exec
  have hb := BB.bytes
  have hr := BB.returns
  have hts := atoms_spec (ws := wsX8_leave) BB.pre
  have hown : s.vm.findClass RX8 = some m.cls := findClass_of_methodNamed BB.named
  have hlocks := BB.notSynchronized
  have S := my_fix hx hb hml hown hts
  have inX8 : ∀ w ∈ wsX80, w ∈ wsX8_leave := fun w h => List.mem_cons_of_mem _ (List.mem_append_right _ h)
  have hAB := muB hD0
  have hD := muD hD0
  generalize hAe : muA (wModE cy a y0 y1 y2 y3 y4 y5 y6 y7 y8 y9 y10 y11 y12 y13) = A at hAB hD ⊢
  have hS : va_S A s.heap s.heap [] := va_S.rf
  have hl := lv_entry ([.ref (a 0), .int x0]) (n := 3) (Nat.le_of_ble_eq_true rfl)
  rw [lg_entry_eq]
  generalize (lg_sl ([.ref (a 0), .int x0]) ++ List.replicate (3 - (lg_sl ([.ref (a 0), .int x0])).length) Slot.unset).toArray = ls at hl ⊢
  have hl : lv_has ls 3 [(0, .ref (a 0)), (1, .int x0)] := hl
  refine lv_aload_n hx hb dX8_leave_0 rfl (lv_at hl 0 rfl) ?_
  refine lv_aload_n hx hb dX8_leave_1 rfl (lv_at hl 0 rfl) ?_
  refine lv_iload_n hx hb dX8_leave_2 rfl (lv_at hl 1 rfl) ?_
  refine rd_goi (va_runV (C := RX8) (As := [.int x0]) (rest := [.ref (a 0)]) S (c_X8_isMember l D cy g B a y0 y1 y2 y3 y4 y5 y6 y7 y8 y9 y10 y11 y12 y13 x0) (cwV 1 hts gX8_leave_X8_isMember rfl rfl rfl hd_X8_isMember_V ⟨Nat.le_of_ble_eq_true rfl, Nat.le_of_ble_eq_true rfl⟩) ⟨rdP_blind, va_recv hK0.1 hP (ci := 6) (q0 := 0) rfl rfl, my_preP hK0 hS hAB hP⟩ rfl rfl hl.1 rfl (lv_room (Nat.le_of_ble_eq_true rfl)) dX8_leave_3 ⟨Nat.zero_le _, Nat.zero_le _⟩) ?_
  refine lv_if_ne (tgt := 13) hx hb dX8_leave_6 (by decide) (fun c_1 => ?_) (fun c_1 => ?_)
  · refine lv_aload_n hx hb dX8_leave_13 rfl (lv_at hl 0 rfl) ?_
    refine lv_iload_n hx hb dX8_leave_14 rfl (lv_at hl 1 rfl) ?_
    refine rd_goi (va_runV (C := RX8) (As := [.int x0]) (rest := [.ref (a 0)]) S (c_X8_isPlayer l D cy g B a y0 y1 y2 y3 y4 y5 y6 y7 y8 y9 y10 y11 y12 y13 x0 hm8) (cwV 1 hts gX8_leave_X8_isPlayer rfl rfl rfl hd_X8_isPlayer_V ⟨Nat.le_of_ble_eq_true rfl, Nat.le_of_ble_eq_true rfl⟩) ⟨rdP_blind, va_recv hK0.1 hP (ci := 6) (q0 := 0) rfl rfl, my_preP hK0 hS hAB hP⟩ rfl rfl hl.1 rfl (lv_room (Nat.le_of_ble_eq_true rfl)) dX8_leave_15 ⟨Nat.zero_le _, Nat.zero_le _⟩) ?_
    refine lv_if_eq (tgt := 25) hx hb dX8_leave_18 (by decide) (fun c_2 => ?_) (fun c_2 => ?_)
    · refine lv_iconst (v := 0) hx hb dX8_leave_25 (by decide) ?_
      refine mu_alli (wf := fun (u_3 : Int32) => (wModE cy a y0 y1 y2 u_3 y4 y5 y6 y7 y8 y9 y10 y11 y12 y13)) (va_runV (C := RX8) (As := [.int 0]) (rest := []) S (c_X8_throwsAt l D cy g B a y0 y1 y2 y3 y4 y5 y6 y7 y8 y9 y10 y11 y12 y13 0) (cwV 1 hts gX8_leave_X8_throwsAt rfl rfl rfl hd_X8_throwsAt_V ⟨Nat.le_of_ble_eq_true rfl, Nat.le_of_ble_eq_true rfl⟩) ⟨muP_blind, va_recv hK0.1 hP (ci := 6) (q0 := 0) rfl rfl, my_preA hK0 hS hAB hP hD⟩ rfl rfl hl.1 rfl (lv_room (Nat.le_of_ble_eq_true rfl)) dX8_leave_26 ⟨Nat.zero_le _, Nat.zero_le _⟩) hS hD (fun _ => by simp only [List.map_cons, List.map_nil, adrSet, adrSetE, adrPow, adrPowE, adrTxt, adrTxtE, adrSav, adrSavE, adrPCo, adrMod, adrModE]) (fun r_5 u_3 H locs hw_4 hP hD hS => ?_)
      obtain ⟨rfl, rfl⟩ : 0 = r_5 ∧ 0 = u_3 := my_thr_lit (k := 0) (by decide) hw_4
      refine lv_if_eq (tgt := 34) hx hb dX8_leave_29 (by decide) (fun _ => ?_) (fun h => absurd (by decide) h)
      refine lv_aload_n hx hb dX8_leave_34 rfl (lv_at hl 0 rfl) ?_
      refine mu_allv (wf := fun (u_6 : Int32 × (Nat → Int32)) => (wModE cy a u_6.1 y1 y2 0 y4 y5 y6 y7 u_6.2 y9 y10 y11 y12 y13)) (va_runV (C := RX8) (As := []) (rest := []) S (c_X8_saves l D cy g B a y0 y1 y2 0 y4 y5 y6 y7 y8 y9 y10 y11 y12 y13 hpa0 hpa4) (cwV 0 hts gX8_leave_X8_saves rfl rfl rfl hd_X8_saves_V ⟨Nat.le_of_ble_eq_true rfl, Nat.le_of_ble_eq_true rfl⟩) ⟨muP_blind, va_recv hK0.1 hP (ci := 6) (q0 := 0) rfl rfl, my_preA hK0 hS hAB hP hD⟩ rfl rfl hl.1 rfl (lv_room (Nat.le_of_ble_eq_true rfl)) dX8_leave_35 ⟨Nat.zero_le _, Nat.zero_le _⟩) hS hD (fun _ => by simp only [List.map_cons, List.map_nil, adrSet, adrSetE, adrPow, adrPowE, adrTxt, adrTxtE, adrSav, adrSavE, adrPCo, adrMod, adrModE]) (fun u_6 H locs hw_7 hP hD hS => ?_)
      refine lv_aload_n hx hb dX8_leave_38 rfl (lv_at hl 0 rfl) ?_
      refine va_get (D := D) (ci := 6) (v := .ref (a 1)) (C := RX8) (T := TX8) (N := 14) hx hb hts inX8 hown hK0.1 hP 0 rfl rfl 0 (by decide) (hts (.fieldLink RX8 7 "PivotChamberModel" "s" "[I") (List.mem_of_getElem? (i := 1) rfl)) (fun _ h9 => h9) rfl dX8_leave_39 ?_
      refine lv_bipush (v := 11) hx hb dX8_leave_42 (by decide) ?_
      refine lv_iload_n hx hb dX8_leave_44 rfl (lv_at hl 1 rfl) ?_
      refine lv_iadd hx hb dX8_leave_45 ?_
      refine va_iald hx hb hK0.1 hP 1 0 rfl rfl (ix_loop (K := 8) (N := 27) (im_0 c_1) (Int32.not_le.mpr (im_1 c_1)) hm8 (by decide)) dX8_leave_46 ?_
      refine lv_istore_n (lv' := [(2, .int (y7 (11 + x0).toNatClampNeg)), (0, .ref (a 0)), (1, .int x0)]) hx hb dX8_leave_47 rfl hl (by decide) rfl (fun ls hl => ?_)
      refine lv_aload_n hx hb dX8_leave_48 rfl (lv_at hl 1 rfl) ?_
      refine va_get (D := D) (ci := 6) (v := .ref (a 1)) (C := RX8) (T := TX8) (N := 14) hx hb hts inX8 hown hK0.1 hP 0 rfl rfl 0 (by decide) (hts (.fieldLink RX8 7 "PivotChamberModel" "s" "[I") (List.mem_of_getElem? (i := 1) rfl)) (fun _ h9 => h9) rfl dX8_leave_49 ?_
      refine lv_bipush (v := 11) hx hb dX8_leave_52 (by decide) ?_
      refine lv_iload_n hx hb dX8_leave_54 rfl (lv_at hl 2 rfl) ?_
      refine lv_iadd hx hb dX8_leave_55 ?_
      refine lv_iconst (v := (-1)) hx hb dX8_leave_56 (by decide) ?_
      refine va_iast hx hb hK0.1 hP hD hS 1 0 rfl rfl (ix_loop (K := 8) (N := 27) (im_0 c_1) (Int32.not_le.mpr (im_1 c_1)) hm8 (by decide)) dX8_leave_57 (fun H locs hP hD hS => ?_)
      have hP : va_P D vwCl (wModE cy a u_6.1 y1 y2 0 y4 y5 y6 (upd y7 (11 + x0).toNatClampNeg (-1)) u_6.2 y9 y10 y11 y12 y13) H := hP
      have hD : va_D A (wModE cy a u_6.1 y1 y2 0 y4 y5 y6 (upd y7 (11 + x0).toNatClampNeg (-1)) u_6.2 y9 y10 y11 y12 y13) := hD
      refine lv_iload_n hx hb dX8_leave_58 rfl (lv_at hl 0 rfl) ?_
      have hP : va_P D vwCl (wModE cy a u_6.1 y1 y2 0 y4 y5 y6 (upd y7 (11 + x0).toNatClampNeg (-1)) u_6.2 y9 y10 y11 y12 y13) H := hP
      have hD : va_D A (wModE cy a u_6.1 y1 y2 0 y4 y5 y6 (upd y7 (11 + x0).toNatClampNeg (-1)) u_6.2 y9 y10 y11 y12 y13) := hD
      exact W.iret hx hb hr (fun t ht hW => ⟨⟨(y7 (11 + x0).toNatClampNeg), (u_6.1, 0, (upd y7 (11 + x0).toNatClampNeg (-1)), u_6.2), rfl, (show f_X8_leave y0 y1 y7 y8 x0 = ((y7 (11 + x0).toNatClampNeg), (u_6.1, 0, (upd y7 (11 + x0).toNatClampNeg (-1)), u_6.2)) from by rw [f_X8_leave, if_neg c_1, if_pos c_2, hw_7, my_l_eq]), by show va_P D vwCl _ t.heap; rw [ht]; exact hP⟩, hS.F ht⟩) hS.2.2 dX8_leave_59
    · refine lv_iconst (v := 2) hx hb dX8_leave_21 (by decide) ?_
      refine lv_goto (tgt := 26) hx hb dX8_leave_22 (by decide) ?_
      refine mu_alli (wf := fun (u_8 : Int32) => (wModE cy a y0 y1 y2 u_8 y4 y5 y6 y7 y8 y9 y10 y11 y12 y13)) (va_runV (C := RX8) (As := [.int 2]) (rest := []) S (c_X8_throwsAt l D cy g B a y0 y1 y2 y3 y4 y5 y6 y7 y8 y9 y10 y11 y12 y13 2) (cwV 1 hts gX8_leave_X8_throwsAt rfl rfl rfl hd_X8_throwsAt_V ⟨Nat.le_of_ble_eq_true rfl, Nat.le_of_ble_eq_true rfl⟩) ⟨muP_blind, va_recv hK0.1 hP (ci := 6) (q0 := 0) rfl rfl, my_preA hK0 hS hAB hP hD⟩ rfl rfl hl.1 rfl (lv_room (Nat.le_of_ble_eq_true rfl)) dX8_leave_26 ⟨Nat.zero_le _, Nat.zero_le _⟩) hS hD (fun _ => by simp only [List.map_cons, List.map_nil, adrSet, adrSetE, adrPow, adrPowE, adrTxt, adrTxtE, adrSav, adrSavE, adrPCo, adrMod, adrModE]) (fun r_10 u_8 H locs hw_9 hP hD hS => ?_)
      obtain ⟨rfl, rfl⟩ : 1 = r_10 ∧ 2 = u_8 := my_thr_lit (k := 2) (by decide) hw_9
      refine lv_if_eq (tgt := 34) hx hb dX8_leave_29 (by decide) (fun h => absurd h (by decide)) (fun _ => ?_)
      refine lv_iconst (v := 0) hx hb dX8_leave_32 (by decide) ?_
      have hP : va_P D vwCl (wModE cy a y0 y1 y2 2 y4 y5 y6 y7 y8 y9 y10 y11 y12 y13) H := hP
      have hD : va_D A (wModE cy a y0 y1 y2 2 y4 y5 y6 y7 y8 y9 y10 y11 y12 y13) := hD
      exact W.iret hx hb hr (fun t ht hW => ⟨⟨0, (y0, 2, y7, y8), rfl, (show f_X8_leave y0 y1 y7 y8 x0 = (0, (y0, 2, y7, y8)) from by rw [f_X8_leave, if_neg c_1, if_neg c_2]), by show va_P D vwCl _ t.heap; rw [ht]; exact hP⟩, hS.F ht⟩) hS.2.2 dX8_leave_33
  · refine lv_iconst (v := 1) hx hb dX8_leave_9 (by decide) ?_
    refine lv_goto (tgt := 26) hx hb dX8_leave_10 (by decide) ?_
    refine mu_alli (wf := fun (u_11 : Int32) => (wModE cy a y0 y1 y2 u_11 y4 y5 y6 y7 y8 y9 y10 y11 y12 y13)) (va_runV (C := RX8) (As := [.int 1]) (rest := []) S (c_X8_throwsAt l D cy g B a y0 y1 y2 y3 y4 y5 y6 y7 y8 y9 y10 y11 y12 y13 1) (cwV 1 hts gX8_leave_X8_throwsAt rfl rfl rfl hd_X8_throwsAt_V ⟨Nat.le_of_ble_eq_true rfl, Nat.le_of_ble_eq_true rfl⟩) ⟨muP_blind, va_recv hK0.1 hP (ci := 6) (q0 := 0) rfl rfl, my_preA hK0 hS hAB hP hD⟩ rfl rfl hl.1 rfl (lv_room (Nat.le_of_ble_eq_true rfl)) dX8_leave_26 ⟨Nat.zero_le _, Nat.zero_le _⟩) hS hD (fun _ => by simp only [List.map_cons, List.map_nil, adrSet, adrSetE, adrPow, adrPowE, adrTxt, adrTxtE, adrSav, adrSavE, adrPCo, adrMod, adrModE]) (fun r_13 u_11 H locs hw_12 hP hD hS => ?_)
    obtain ⟨rfl, rfl⟩ : 1 = r_13 ∧ 1 = u_11 := my_thr_lit (k := 1) (by decide) hw_12
    refine lv_if_eq (tgt := 34) hx hb dX8_leave_29 (by decide) (fun h => absurd h (by decide)) (fun _ => ?_)
    refine lv_iconst (v := 0) hx hb dX8_leave_32 (by decide) ?_
    have hP : va_P D vwCl (wModE cy a y0 y1 y2 1 y4 y5 y6 y7 y8 y9 y10 y11 y12 y13) H := hP
    have hD : va_D A (wModE cy a y0 y1 y2 1 y4 y5 y6 y7 y8 y9 y10 y11 y12 y13) := hD
    exact W.iret hx hb hr (fun t ht hW => ⟨⟨0, (y0, 1, y7, y8), rfl, (show f_X8_leave y0 y1 y7 y8 x0 = (0, (y0, 1, y7, y8)) from by rw [f_X8_leave, if_pos c_1]), by show va_P D vwCl _ t.heap; rw [ht]; exact hP⟩, hS.F ht⟩) hS.2.2 dX8_leave_33
theorem hd_X8_addRule_S : yX8_addRule.cls ≠ "java/lang/invoke/MethodHandle" ∧ yX8_addRule.cls ≠ "java/lang/invoke/VarHandle" ∧ (parseMethodDescriptor yX8_addRule.desc).map (fun d => d.parameters.length) = some 2 := by decide +kernel
theorem hd_X8_addRule_V : yX8_addRule.cls = RX8 ∧ yX8_addRule.cls ≠ "java/lang/invoke/MethodHandle" ∧ yX8_addRule.cls ≠ "java/lang/invoke/VarHandle" ∧ (parseMethodDescriptor yX8_addRule.desc).map (fun d => d.parameters.length) = some 2 := ⟨rfl, hd_X8_addRule_S⟩
def f_X8_addRule (y0 : Int32) (y1 : Int32) (y7 : (Nat → Int32)) (y8 : (Nat → Int32)) (x0 : Int32) (x1 : Int32) : Int32 × (Int32 × Int32 × (Nat → Int32) × (Nat → Int32)) := (if (f_X8_in x0 0 2) = 0 then (0, (y0, 1, y7, y8)) else (if (f_X8_isValue x0 x1) = 0 then (0, (y0, 1, y7, y8)) else (if (y7 2) = 4 then (0, (y0, 2, y7, y8)) else (my_l (f_X8_saves y0 y1 y7 y8) (fun (u_10 : Int32 × (Nat → Int32)) => ((((y7 2) + 1) - 1), (u_10.1, 0, (upd (upd (upd y7 (19 + (y7 2)).toNatClampNeg x0) (23 + (y7 2)).toNatClampNeg x1) 2 ((y7 2) + 1)), u_10.2)))))))
set_option maxHeartbeats 400000 in
set_option maxRecDepth 100000 in
theorem c_X8_addRule (l : Launch) (D : va_G) (cy : Nat → ClassId) (g : Nat → Nat) (B : Nat) (a : Nat → Nat) (y0 : Int32) (y1 : Int32) (y2 : Int32) (y3 : Int32) (y4 : Int32) (y5 : Int32) (y6 : Int32) (y7 : (Nat → Int32)) (y8 : (Nat → Int32)) (y9 : (Nat → Int32)) (y10 : (Nat → Int32)) (y11 : (Nat → Int32)) (y12 : (Nat → Int32)) (y13 : (Nat → Int32)) (x0 : Int32) (x1 : Int32) (hpa0 : ¬ y0 < 0) (hpa4 : ¬ 4 < y0) (hR4 : ¬ 4 < (y7 2)) (hR0 : ¬ (y7 2) < 0) : Met l yX8_addRule wsX8_addRule ({ frames := 2, cells := 0, slots := 0, locals := 43 }) (muP D cy g B (wModE cy a y0 y1 y2 y3 y4 y5 y6 y7 y8 y9 y10 y11 y12 y13) [.ref (a 0), .int x0, .int x1]) (va_Qi (fun (r : Int32) (u : Int32 × Int32 × (Nat → Int32) × (Nat → Int32)) => f_X8_addRule y0 y1 y7 y8 x0 x1 = (r, u)) (fun u t => va_P D vwCl (wModE cy a u.1 y1 y2 u.2.1 y4 y5 y6 u.2.2.1 u.2.2.2 y9 y10 y11 y12 y13) t.heap) (muA (wModE cy a y0 y1 y2 y3 y4 y5 y6 y7 y8 y9 y10 y11 y12 y13))) 0 0 (muA (wModE cy a y0 y1 y2 y3 y4 y5 y6 y7 y8 y9 y10 y11 y12 y13)) := by
  refine Met.ofW (cc := cX8_addRule) (maxL := 3) (ret := (some .int)) (by decide) rfl ?_
  intro p e s m args below meth c s₁ BB hml hv
  obtain ⟨rfl, hP, hK0, hD0⟩ := hv
  have hx := BB.exec
  have hb := BB.bytes
  have hr := BB.returns
  have hts := atoms_spec (ws := wsX8_addRule) BB.pre
  have hown : s.vm.findClass RX8 = some m.cls := findClass_of_methodNamed BB.named
  have hlocks := BB.notSynchronized
  have S := my_fix hx hb hml hown hts
  have inX8 : ∀ w ∈ wsX80, w ∈ wsX8_addRule := fun w h => List.mem_cons_of_mem _ (List.mem_append_right _ h)
  have hAB := muB hD0
  have hD := muD hD0
  generalize hAe : muA (wModE cy a y0 y1 y2 y3 y4 y5 y6 y7 y8 y9 y10 y11 y12 y13) = A at hAB hD ⊢
  have hS : va_S A s.heap s.heap [] := va_S.rf
  have hl := lv_entry ([.ref (a 0), .int x0, .int x1]) (n := 3) (Nat.le_of_ble_eq_true rfl)
  rw [lg_entry_eq]
  generalize (lg_sl ([.ref (a 0), .int x0, .int x1]) ++ List.replicate (3 - (lg_sl ([.ref (a 0), .int x0, .int x1])).length) Slot.unset).toArray = ls at hl ⊢
  have hl : lv_has ls 3 [(0, .ref (a 0)), (1, .int x0), (2, .int x1)] := hl
  refine lv_aload_n hx hb dX8_addRule_0 rfl (lv_at hl 0 rfl) ?_
  refine lv_iload_n hx hb dX8_addRule_1 rfl (lv_at hl 1 rfl) ?_
  refine lv_iconst (v := 0) hx hb dX8_addRule_2 (by decide) ?_
  refine lv_iconst (v := 2) hx hb dX8_addRule_3 (by decide) ?_
  refine rd_goi (va_runS (As := [.int x0, .int 0, .int 2]) (rest := [.ref (a 0)]) S (c_X8_in l D cy g B x0 0 2) (va_cwS 3 hts gX8_addRule_X8_in rfl rfl rfl hd_X8_in_S ⟨Nat.le_of_ble_eq_true rfl, Nat.le_of_ble_eq_true rfl⟩) ⟨rdP_blind, my_preV hK0 hS hAB hP [] rfl⟩ rfl rfl hl.1 rfl (lv_room (Nat.le_of_ble_eq_true rfl)) dX8_addRule_4 ⟨Nat.zero_le _, Nat.zero_le _⟩) ?_
  refine lv_if_eq (tgt := 18) hx hb dX8_addRule_7 (by decide) (fun c_1 => ?_) (fun c_1 => ?_)
  · refine lv_iconst (v := 1) hx hb dX8_addRule_18 (by decide) ?_
    refine lv_goto (tgt := 37) hx hb dX8_addRule_19 (by decide) ?_
    refine mu_alli (wf := fun (u_2 : Int32) => (wModE cy a y0 y1 y2 u_2 y4 y5 y6 y7 y8 y9 y10 y11 y12 y13)) (va_runV (C := RX8) (As := [.int 1]) (rest := []) S (c_X8_throwsAt l D cy g B a y0 y1 y2 y3 y4 y5 y6 y7 y8 y9 y10 y11 y12 y13 1) (cwV 1 hts gX8_addRule_X8_throwsAt rfl rfl rfl hd_X8_throwsAt_V ⟨Nat.le_of_ble_eq_true rfl, Nat.le_of_ble_eq_true rfl⟩) ⟨muP_blind, va_recv hK0.1 hP (ci := 6) (q0 := 0) rfl rfl, my_preA hK0 hS hAB hP hD⟩ rfl rfl hl.1 rfl (lv_room (Nat.le_of_ble_eq_true rfl)) dX8_addRule_37 ⟨Nat.zero_le _, Nat.zero_le _⟩) hS hD (fun _ => by simp only [List.map_cons, List.map_nil, adrSet, adrSetE, adrPow, adrPowE, adrTxt, adrTxtE, adrSav, adrSavE, adrPCo, adrMod, adrModE]) (fun r_4 u_2 H locs hw_3 hP hD hS => ?_)
    obtain ⟨rfl, rfl⟩ : 1 = r_4 ∧ 1 = u_2 := my_thr_lit (k := 1) (by decide) hw_3
    refine lv_if_eq (tgt := 45) hx hb dX8_addRule_40 (by decide) (fun h => absurd h (by decide)) (fun _ => ?_)
    refine lv_iconst (v := 0) hx hb dX8_addRule_43 (by decide) ?_
    have hP : va_P D vwCl (wModE cy a y0 y1 y2 1 y4 y5 y6 y7 y8 y9 y10 y11 y12 y13) H := hP
    have hD : va_D A (wModE cy a y0 y1 y2 1 y4 y5 y6 y7 y8 y9 y10 y11 y12 y13) := hD
    exact W.iret hx hb hr (fun t ht hW => ⟨⟨0, (y0, 1, y7, y8), rfl, (show f_X8_addRule y0 y1 y7 y8 x0 x1 = (0, (y0, 1, y7, y8)) from by rw [f_X8_addRule, if_pos c_1]), by show va_P D vwCl _ t.heap; rw [ht]; exact hP⟩, hS.F ht⟩) hS.2.2 dX8_addRule_44
  · refine lv_iload_n hx hb dX8_addRule_10 rfl (lv_at hl 1 rfl) ?_
    refine lv_iload_n hx hb dX8_addRule_11 rfl (lv_at hl 2 rfl) ?_
    refine rd_goi (va_runS (As := [.int x0, .int x1]) (rest := [.ref (a 0)]) S (c_X8_isValue l D cy g B x0 x1) (va_cwS 2 hts gX8_addRule_X8_isValue rfl rfl rfl hd_X8_isValue_S ⟨Nat.le_of_ble_eq_true rfl, Nat.le_of_ble_eq_true rfl⟩) ⟨rdP_blind, my_preV hK0 hS hAB hP [] rfl⟩ rfl rfl hl.1 rfl (lv_room (Nat.le_of_ble_eq_true rfl)) dX8_addRule_12 ⟨Nat.zero_le _, Nat.zero_le _⟩) ?_
    refine lv_if_ne (tgt := 22) hx hb dX8_addRule_15 (by decide) (fun c_5 => ?_) (fun c_5 => ?_)
    · refine lv_aload_n hx hb dX8_addRule_22 rfl (lv_at hl 0 rfl) ?_
      refine va_get (D := D) (ci := 6) (v := .ref (a 1)) (C := RX8) (T := TX8) (N := 14) hx hb hts inX8 hown hK0.1 hP 0 rfl rfl 0 (by decide) (hts (.fieldLink RX8 7 "PivotChamberModel" "s" "[I") (List.mem_of_getElem? (i := 1) rfl)) (fun _ h9 => h9) rfl dX8_addRule_23 ?_
      refine lv_iconst (v := 2) hx hb dX8_addRule_26 (by decide) ?_
      refine va_iald hx hb hK0.1 hP 1 0 rfl rfl (vp_in_nI (n := 2) (N := 27) (by decide) (by decide)) dX8_addRule_27 ?_
      refine W.eq (g2 := F0 m 28 ls [.int (y7 2), .ref (a 0)]) rfl ?_
      refine lv_iconst (v := 4) hx hb dX8_addRule_28 (by decide) ?_
      refine lv_icmp_ne (tgt := 36) hx hb dX8_addRule_29 (by decide) (fun c_6 => ?_) (fun c_6 => ?_)
      · refine lv_iconst (v := 0) hx hb dX8_addRule_36 (by decide) ?_
        refine mu_alli (wf := fun (u_7 : Int32) => (wModE cy a y0 y1 y2 u_7 y4 y5 y6 y7 y8 y9 y10 y11 y12 y13)) (va_runV (C := RX8) (As := [.int 0]) (rest := []) S (c_X8_throwsAt l D cy g B a y0 y1 y2 y3 y4 y5 y6 y7 y8 y9 y10 y11 y12 y13 0) (cwV 1 hts gX8_addRule_X8_throwsAt rfl rfl rfl hd_X8_throwsAt_V ⟨Nat.le_of_ble_eq_true rfl, Nat.le_of_ble_eq_true rfl⟩) ⟨muP_blind, va_recv hK0.1 hP (ci := 6) (q0 := 0) rfl rfl, my_preA hK0 hS hAB hP hD⟩ rfl rfl hl.1 rfl (lv_room (Nat.le_of_ble_eq_true rfl)) dX8_addRule_37 ⟨Nat.zero_le _, Nat.zero_le _⟩) hS hD (fun _ => by simp only [List.map_cons, List.map_nil, adrSet, adrSetE, adrPow, adrPowE, adrTxt, adrTxtE, adrSav, adrSavE, adrPCo, adrMod, adrModE]) (fun r_9 u_7 H locs hw_8 hP hD hS => ?_)
        obtain ⟨rfl, rfl⟩ : 0 = r_9 ∧ 0 = u_7 := my_thr_lit (k := 0) (by decide) hw_8
        refine lv_if_eq (tgt := 45) hx hb dX8_addRule_40 (by decide) (fun _ => ?_) (fun h => absurd (by decide) h)
        refine lv_aload_n hx hb dX8_addRule_45 rfl (lv_at hl 0 rfl) ?_
        refine mu_allv (wf := fun (u_10 : Int32 × (Nat → Int32)) => (wModE cy a u_10.1 y1 y2 0 y4 y5 y6 y7 u_10.2 y9 y10 y11 y12 y13)) (va_runV (C := RX8) (As := []) (rest := []) S (c_X8_saves l D cy g B a y0 y1 y2 0 y4 y5 y6 y7 y8 y9 y10 y11 y12 y13 hpa0 hpa4) (cwV 0 hts gX8_addRule_X8_saves rfl rfl rfl hd_X8_saves_V ⟨Nat.le_of_ble_eq_true rfl, Nat.le_of_ble_eq_true rfl⟩) ⟨muP_blind, va_recv hK0.1 hP (ci := 6) (q0 := 0) rfl rfl, my_preA hK0 hS hAB hP hD⟩ rfl rfl hl.1 rfl (lv_room (Nat.le_of_ble_eq_true rfl)) dX8_addRule_46 ⟨Nat.zero_le _, Nat.zero_le _⟩) hS hD (fun _ => by simp only [List.map_cons, List.map_nil, adrSet, adrSetE, adrPow, adrPowE, adrTxt, adrTxtE, adrSav, adrSavE, adrPCo, adrMod, adrModE]) (fun u_10 H locs hw_11 hP hD hS => ?_)
        refine lv_aload_n hx hb dX8_addRule_49 rfl (lv_at hl 0 rfl) ?_
        refine va_get (D := D) (ci := 6) (v := .ref (a 1)) (C := RX8) (T := TX8) (N := 14) hx hb hts inX8 hown hK0.1 hP 0 rfl rfl 0 (by decide) (hts (.fieldLink RX8 7 "PivotChamberModel" "s" "[I") (List.mem_of_getElem? (i := 1) rfl)) (fun _ h9 => h9) rfl dX8_addRule_50 ?_
        refine lv_bipush (v := 19) hx hb dX8_addRule_53 (by decide) ?_
        refine lv_aload_n hx hb dX8_addRule_55 rfl (lv_at hl 0 rfl) ?_
        refine va_get (D := D) (ci := 6) (v := .ref (a 1)) (C := RX8) (T := TX8) (N := 14) hx hb hts inX8 hown hK0.1 hP 0 rfl rfl 0 (by decide) (hts (.fieldLink RX8 7 "PivotChamberModel" "s" "[I") (List.mem_of_getElem? (i := 1) rfl)) (fun _ h9 => h9) rfl dX8_addRule_56 ?_
        refine lv_iconst (v := 2) hx hb dX8_addRule_59 (by decide) ?_
        refine va_iald hx hb hK0.1 hP 1 0 rfl rfl (vp_in_nI (n := 2) (N := 27) (by decide) (by decide)) dX8_addRule_60 ?_
        refine W.eq (g2 := F0 m 61 ls [.int (y7 2), .int 19, .ref (a 1)]) rfl ?_
        refine lv_iadd hx hb dX8_addRule_61 ?_
        refine lv_iload_n hx hb dX8_addRule_62 rfl (lv_at hl 1 rfl) ?_
        refine va_iast hx hb hK0.1 hP hD hS 1 0 rfl rfl (ix_loop (K := 4) (N := 27) hR0 (Int32.not_le.mpr (lt_of_ne hR4 c_6)) (by decide) (by decide)) dX8_addRule_63 (fun H locs hP hD hS => ?_)
        have hP : va_P D vwCl (wModE cy a u_10.1 y1 y2 0 y4 y5 y6 (upd y7 (19 + (y7 2)).toNatClampNeg x0) u_10.2 y9 y10 y11 y12 y13) H := hP
        have hD : va_D A (wModE cy a u_10.1 y1 y2 0 y4 y5 y6 (upd y7 (19 + (y7 2)).toNatClampNeg x0) u_10.2 y9 y10 y11 y12 y13) := hD
        refine lv_aload_n hx hb dX8_addRule_64 rfl (lv_at hl 0 rfl) ?_
        refine va_get (D := D) (ci := 6) (v := .ref (a 1)) (C := RX8) (T := TX8) (N := 14) hx hb hts inX8 hown hK0.1 hP 0 rfl rfl 0 (by decide) (hts (.fieldLink RX8 7 "PivotChamberModel" "s" "[I") (List.mem_of_getElem? (i := 1) rfl)) (fun _ h9 => h9) rfl dX8_addRule_65 ?_
        refine lv_bipush (v := 23) hx hb dX8_addRule_68 (by decide) ?_
        refine lv_aload_n hx hb dX8_addRule_70 rfl (lv_at hl 0 rfl) ?_
        refine va_get (D := D) (ci := 6) (v := .ref (a 1)) (C := RX8) (T := TX8) (N := 14) hx hb hts inX8 hown hK0.1 hP 0 rfl rfl 0 (by decide) (hts (.fieldLink RX8 7 "PivotChamberModel" "s" "[I") (List.mem_of_getElem? (i := 1) rfl)) (fun _ h9 => h9) rfl dX8_addRule_71 ?_
        refine lv_iconst (v := 2) hx hb dX8_addRule_74 (by decide) ?_
        refine va_iald hx hb hK0.1 hP 1 0 rfl rfl (vp_in_nI (n := 2) (N := 27) (by decide) (by decide)) dX8_addRule_75 ?_
        refine W.eq (g2 := F0 m 76 ls [.int ((upd y7 (19 + (y7 2)).toNatClampNeg x0) 2), .int 23, .ref (a 1)]) rfl ?_
        refine W.eq (g2 := F0 m 76 ls [.int (y7 2), .int 23, .ref (a 1)]) (by rw [upd_lo (N := 27) hR0 (ix_loop (K := 4) (N := 27) hR0 (Int32.not_le.mpr (lt_of_ne hR4 c_6)) (by decide) (by decide)) (by decide) (by decide)]) ?_
        refine lv_iadd hx hb dX8_addRule_76 ?_
        refine lv_iload_n hx hb dX8_addRule_77 rfl (lv_at hl 2 rfl) ?_
        refine va_iast hx hb hK0.1 hP hD hS 1 0 rfl rfl (ix_loop (K := 4) (N := 27) hR0 (Int32.not_le.mpr (lt_of_ne hR4 c_6)) (by decide) (by decide)) dX8_addRule_78 (fun H locs hP hD hS => ?_)
        have hP : va_P D vwCl (wModE cy a u_10.1 y1 y2 0 y4 y5 y6 (upd (upd y7 (19 + (y7 2)).toNatClampNeg x0) (23 + (y7 2)).toNatClampNeg x1) u_10.2 y9 y10 y11 y12 y13) H := hP
        have hD : va_D A (wModE cy a u_10.1 y1 y2 0 y4 y5 y6 (upd (upd y7 (19 + (y7 2)).toNatClampNeg x0) (23 + (y7 2)).toNatClampNeg x1) u_10.2 y9 y10 y11 y12 y13) := hD
        refine lv_aload_n hx hb dX8_addRule_79 rfl (lv_at hl 0 rfl) ?_
        refine va_get (D := D) (ci := 6) (v := .ref (a 1)) (C := RX8) (T := TX8) (N := 14) hx hb hts inX8 hown hK0.1 hP 0 rfl rfl 0 (by decide) (hts (.fieldLink RX8 7 "PivotChamberModel" "s" "[I") (List.mem_of_getElem? (i := 1) rfl)) (fun _ h9 => h9) rfl dX8_addRule_80 ?_
        refine lv_iconst (v := 2) hx hb dX8_addRule_83 (by decide) ?_
        refine lv_dup2_11 hx hb dX8_addRule_84 rfl rfl ?_
        refine va_iald hx hb hK0.1 hP 1 0 rfl rfl (vp_in_nI (n := 2) (N := 27) (by decide) (by decide)) dX8_addRule_85 ?_
        refine W.eq (g2 := F0 m 86 ls [.int ((upd (upd y7 (19 + (y7 2)).toNatClampNeg x0) (23 + (y7 2)).toNatClampNeg x1) 2), .int 2, .ref (a 1)]) rfl ?_
        refine W.eq (g2 := F0 m 86 ls [.int ((upd y7 (19 + (y7 2)).toNatClampNeg x0) 2), .int 2, .ref (a 1)]) (by rw [upd_lo (N := 27) hR0 (ix_loop (K := 4) (N := 27) hR0 (Int32.not_le.mpr (lt_of_ne hR4 c_6)) (by decide) (by decide)) (by decide) (by decide)]) ?_
        refine W.eq (g2 := F0 m 86 ls [.int (y7 2), .int 2, .ref (a 1)]) (by rw [upd_lo (N := 27) hR0 (ix_loop (K := 4) (N := 27) hR0 (Int32.not_le.mpr (lt_of_ne hR4 c_6)) (by decide) (by decide)) (by decide) (by decide)]) ?_
        refine lv_iconst (v := 1) hx hb dX8_addRule_86 (by decide) ?_
        refine lv_iadd hx hb dX8_addRule_87 ?_
        refine va_iast hx hb hK0.1 hP hD hS 1 0 rfl rfl (vp_in_nI (n := 2) (N := 27) (by decide) (by decide)) dX8_addRule_88 (fun H locs hP hD hS => ?_)
        have hP : va_P D vwCl (wModE cy a u_10.1 y1 y2 0 y4 y5 y6 (upd (upd (upd y7 (19 + (y7 2)).toNatClampNeg x0) (23 + (y7 2)).toNatClampNeg x1) 2 ((y7 2) + 1)) u_10.2 y9 y10 y11 y12 y13) H := hP
        have hD : va_D A (wModE cy a u_10.1 y1 y2 0 y4 y5 y6 (upd (upd (upd y7 (19 + (y7 2)).toNatClampNeg x0) (23 + (y7 2)).toNatClampNeg x1) 2 ((y7 2) + 1)) u_10.2 y9 y10 y11 y12 y13) := hD
        refine lv_aload_n hx hb dX8_addRule_89 rfl (lv_at hl 0 rfl) ?_
        refine va_get (D := D) (ci := 6) (v := .ref (a 1)) (C := RX8) (T := TX8) (N := 14) hx hb hts inX8 hown hK0.1 hP 0 rfl rfl 0 (by decide) (hts (.fieldLink RX8 7 "PivotChamberModel" "s" "[I") (List.mem_of_getElem? (i := 1) rfl)) (fun _ h9 => h9) rfl dX8_addRule_90 ?_
        refine lv_iconst (v := 2) hx hb dX8_addRule_93 (by decide) ?_
        refine va_iald hx hb hK0.1 hP 1 0 rfl rfl (vp_in_nI (n := 2) (N := 27) (by decide) (by decide)) dX8_addRule_94 ?_
        refine W.eq (g2 := F0 m 95 ls [.int ((upd (upd (upd y7 (19 + (y7 2)).toNatClampNeg x0) (23 + (y7 2)).toNatClampNeg x1) 2 ((y7 2) + 1)) 2)]) rfl ?_
        refine W.eq (g2 := F0 m 95 ls [.int ((y7 2) + 1)]) rfl ?_
        refine lv_iconst (v := 1) hx hb dX8_addRule_95 (by decide) ?_
        refine lv_isub hx hb dX8_addRule_96 ?_
        have hP : va_P D vwCl (wModE cy a u_10.1 y1 y2 0 y4 y5 y6 (upd (upd (upd y7 (19 + (y7 2)).toNatClampNeg x0) (23 + (y7 2)).toNatClampNeg x1) 2 ((y7 2) + 1)) u_10.2 y9 y10 y11 y12 y13) H := hP
        have hD : va_D A (wModE cy a u_10.1 y1 y2 0 y4 y5 y6 (upd (upd (upd y7 (19 + (y7 2)).toNatClampNeg x0) (23 + (y7 2)).toNatClampNeg x1) 2 ((y7 2) + 1)) u_10.2 y9 y10 y11 y12 y13) := hD
        exact W.iret hx hb hr (fun t ht hW => ⟨⟨(((y7 2) + 1) - 1), (u_10.1, 0, (upd (upd (upd y7 (19 + (y7 2)).toNatClampNeg x0) (23 + (y7 2)).toNatClampNeg x1) 2 ((y7 2) + 1)), u_10.2), rfl, (show f_X8_addRule y0 y1 y7 y8 x0 x1 = ((((y7 2) + 1) - 1), (u_10.1, 0, (upd (upd (upd y7 (19 + (y7 2)).toNatClampNeg x0) (23 + (y7 2)).toNatClampNeg x1) 2 ((y7 2) + 1)), u_10.2)) from by rw [f_X8_addRule, if_neg c_1, if_neg c_5, if_neg c_6, hw_11, my_l_eq]), by show va_P D vwCl _ t.heap; rw [ht]; exact hP⟩, hS.F ht⟩) hS.2.2 dX8_addRule_97
      · refine lv_iconst (v := 2) hx hb dX8_addRule_32 (by decide) ?_
        refine lv_goto (tgt := 37) hx hb dX8_addRule_33 (by decide) ?_
        refine mu_alli (wf := fun (u_12 : Int32) => (wModE cy a y0 y1 y2 u_12 y4 y5 y6 y7 y8 y9 y10 y11 y12 y13)) (va_runV (C := RX8) (As := [.int 2]) (rest := []) S (c_X8_throwsAt l D cy g B a y0 y1 y2 y3 y4 y5 y6 y7 y8 y9 y10 y11 y12 y13 2) (cwV 1 hts gX8_addRule_X8_throwsAt rfl rfl rfl hd_X8_throwsAt_V ⟨Nat.le_of_ble_eq_true rfl, Nat.le_of_ble_eq_true rfl⟩) ⟨muP_blind, va_recv hK0.1 hP (ci := 6) (q0 := 0) rfl rfl, my_preA hK0 hS hAB hP hD⟩ rfl rfl hl.1 rfl (lv_room (Nat.le_of_ble_eq_true rfl)) dX8_addRule_37 ⟨Nat.zero_le _, Nat.zero_le _⟩) hS hD (fun _ => by simp only [List.map_cons, List.map_nil, adrSet, adrSetE, adrPow, adrPowE, adrTxt, adrTxtE, adrSav, adrSavE, adrPCo, adrMod, adrModE]) (fun r_14 u_12 H locs hw_13 hP hD hS => ?_)
        obtain ⟨rfl, rfl⟩ : 1 = r_14 ∧ 2 = u_12 := my_thr_lit (k := 2) (by decide) hw_13
        refine lv_if_eq (tgt := 45) hx hb dX8_addRule_40 (by decide) (fun h => absurd h (by decide)) (fun _ => ?_)
        refine lv_iconst (v := 0) hx hb dX8_addRule_43 (by decide) ?_
        have hP : va_P D vwCl (wModE cy a y0 y1 y2 2 y4 y5 y6 y7 y8 y9 y10 y11 y12 y13) H := hP
        have hD : va_D A (wModE cy a y0 y1 y2 2 y4 y5 y6 y7 y8 y9 y10 y11 y12 y13) := hD
        exact W.iret hx hb hr (fun t ht hW => ⟨⟨0, (y0, 2, y7, y8), rfl, (show f_X8_addRule y0 y1 y7 y8 x0 x1 = (0, (y0, 2, y7, y8)) from by rw [f_X8_addRule, if_neg c_1, if_neg c_5, if_pos c_6]), by show va_P D vwCl _ t.heap; rw [ht]; exact hP⟩, hS.F ht⟩) hS.2.2 dX8_addRule_44
    · refine lv_iconst (v := 1) hx hb dX8_addRule_18 (by decide) ?_
      refine lv_goto (tgt := 37) hx hb dX8_addRule_19 (by decide) ?_
      refine mu_alli (wf := fun (u_15 : Int32) => (wModE cy a y0 y1 y2 u_15 y4 y5 y6 y7 y8 y9 y10 y11 y12 y13)) (va_runV (C := RX8) (As := [.int 1]) (rest := []) S (c_X8_throwsAt l D cy g B a y0 y1 y2 y3 y4 y5 y6 y7 y8 y9 y10 y11 y12 y13 1) (cwV 1 hts gX8_addRule_X8_throwsAt rfl rfl rfl hd_X8_throwsAt_V ⟨Nat.le_of_ble_eq_true rfl, Nat.le_of_ble_eq_true rfl⟩) ⟨muP_blind, va_recv hK0.1 hP (ci := 6) (q0 := 0) rfl rfl, my_preA hK0 hS hAB hP hD⟩ rfl rfl hl.1 rfl (lv_room (Nat.le_of_ble_eq_true rfl)) dX8_addRule_37 ⟨Nat.zero_le _, Nat.zero_le _⟩) hS hD (fun _ => by simp only [List.map_cons, List.map_nil, adrSet, adrSetE, adrPow, adrPowE, adrTxt, adrTxtE, adrSav, adrSavE, adrPCo, adrMod, adrModE]) (fun r_17 u_15 H locs hw_16 hP hD hS => ?_)
      obtain ⟨rfl, rfl⟩ : 1 = r_17 ∧ 1 = u_15 := my_thr_lit (k := 1) (by decide) hw_16
      refine lv_if_eq (tgt := 45) hx hb dX8_addRule_40 (by decide) (fun h => absurd h (by decide)) (fun _ => ?_)
      refine lv_iconst (v := 0) hx hb dX8_addRule_43 (by decide) ?_
      have hP : va_P D vwCl (wModE cy a y0 y1 y2 1 y4 y5 y6 y7 y8 y9 y10 y11 y12 y13) H := hP
      have hD : va_D A (wModE cy a y0 y1 y2 1 y4 y5 y6 y7 y8 y9 y10 y11 y12 y13) := hD
      exact W.iret hx hb hr (fun t ht hW => ⟨⟨0, (y0, 1, y7, y8), rfl, (show f_X8_addRule y0 y1 y7 y8 x0 x1 = (0, (y0, 1, y7, y8)) from by rw [f_X8_addRule, if_neg c_1, if_pos c_5]), by show va_P D vwCl _ t.heap; rw [ht]; exact hP⟩, hS.F ht⟩) hS.2.2 dX8_addRule_44
