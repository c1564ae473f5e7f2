theorem hd_X8_reads_S : yX8_reads.cls ≠ "java/lang/invoke/MethodHandle" ∧ yX8_reads.cls ≠ "java/lang/invoke/VarHandle" ∧ (parseMethodDescriptor yX8_reads.desc).map (fun d => d.parameters.length) = some 0 := by decide +kernel
theorem hd_X8_reads_V : yX8_reads.cls = RX8 ∧ yX8_reads.cls ≠ "java/lang/invoke/MethodHandle" ∧ yX8_reads.cls ≠ "java/lang/invoke/VarHandle" ∧ (parseMethodDescriptor yX8_reads.desc).map (fun d => d.parameters.length) = some 0 := ⟨rfl, hd_X8_reads_S⟩
def f_X8_reads_st (y2 : Int32) (y9 : (Nat → Int32)) (w05_1 : Int32) : (Int32) ⊕ (Int32) := (if (f_X8_isAt y2 w05_1 y9 97 122) = 0 then (.inr w05_1) else (.inl (w05_1 + 1)))
def f_X8_reads (y2 : Int32) (y5 : Int32) (y9 : (Nat → Int32)) (y13 : (Nat → Int32)) : Int32 × (Int32 × Int32 × (Nat → Int32)) := (my_l (lp (fun (x : Int32) => f_X8_reads_st y2 y9 x) default (((y2 : Int32).toInt - (y5 : Int32).toInt).toNat + 1) y5) (fun (w05_1 : Int32) => (if (f_X8_commandOf (f_X8_wordOf y9 y5 w05_1)) = (-1) then (0, (y5, (f_X8_commandOf (f_X8_wordOf y9 y5 w05_1)), y13)) else (if (f_X8_commandOf (f_X8_wordOf y9 y5 w05_1)) = 1 then (my_b (f_X8_number y2 w05_1 y9 y13 0) (fun (r_6 : Int32) (u_4 : Int32 × (Nat → Int32)) => (if r_6 = 0 then (0, (u_4.1, (f_X8_commandOf (f_X8_wordOf y9 y5 w05_1)), u_4.2)) else (my_b (f_X8_number y2 u_4.1 y9 u_4.2 1) (fun (r_12 : Int32) (u_10 : Int32 × (Nat → Int32)) => (if r_12 = 0 then (0, (u_10.1, (f_X8_commandOf (f_X8_wordOf y9 y5 w05_1)), u_10.2)) else (my_l (f_X8_skips y2 u_10.1 y9) (fun (u_16 : Int32) => (if (f_X8_isAt y2 u_16 y9 59 59) = 0 then (0, (u_16, (f_X8_commandOf (f_X8_wordOf y9 y5 w05_1)), u_10.2)) else (my_l (f_X8_skips y2 (u_16 + 1) y9) (fun (u_21 : Int32) => (1, (u_21, (f_X8_commandOf (f_X8_wordOf y9 y5 w05_1)), u_10.2))))))))))))) else (if (f_X8_commandOf (f_X8_wordOf y9 y5 w05_1)) = 3 then (my_b (f_X8_number y2 w05_1 y9 y13 0) (fun (r_28 : Int32) (u_26 : Int32 × (Nat → Int32)) => (if r_28 = 0 then (0, (u_26.1, (f_X8_commandOf (f_X8_wordOf y9 y5 w05_1)), u_26.2)) else (my_b (f_X8_number y2 u_26.1 y9 u_26.2 1) (fun (r_34 : Int32) (u_32 : Int32 × (Nat → Int32)) => (if r_34 = 0 then (0, (u_32.1, (f_X8_commandOf (f_X8_wordOf y9 y5 w05_1)), u_32.2)) else (my_l (f_X8_skips y2 u_32.1 y9) (fun (u_38 : Int32) => (if (f_X8_isAt y2 u_38 y9 59 59) = 0 then (0, (u_38, (f_X8_commandOf (f_X8_wordOf y9 y5 w05_1)), u_32.2)) else (my_l (f_X8_skips y2 (u_38 + 1) y9) (fun (u_43 : Int32) => (1, (u_43, (f_X8_commandOf (f_X8_wordOf y9 y5 w05_1)), u_32.2))))))))))))) else (if (f_X8_commandOf (f_X8_wordOf y9 y5 w05_1)) = 5 then (my_b (f_X8_number y2 w05_1 y9 y13 0) (fun (r_65 : Int32) (u_63 : Int32 × (Nat → Int32)) => (if r_65 = 0 then (0, (u_63.1, (f_X8_commandOf (f_X8_wordOf y9 y5 w05_1)), u_63.2)) else (my_b (f_X8_number y2 u_63.1 y9 u_63.2 1) (fun (r_71 : Int32) (u_69 : Int32 × (Nat → Int32)) => (if r_71 = 0 then (0, (u_69.1, (f_X8_commandOf (f_X8_wordOf y9 y5 w05_1)), u_69.2)) else (my_l (f_X8_skips y2 u_69.1 y9) (fun (u_75 : Int32) => (if (f_X8_isAt y2 u_75 y9 59 59) = 0 then (0, (u_75, (f_X8_commandOf (f_X8_wordOf y9 y5 w05_1)), u_69.2)) else (my_l (f_X8_skips y2 (u_75 + 1) y9) (fun (u_80 : Int32) => (1, (u_80, (f_X8_commandOf (f_X8_wordOf y9 y5 w05_1)), u_69.2))))))))))))) else (my_b (f_X8_number y2 w05_1 y9 y13 0) (fun (r_50 : Int32) (u_48 : Int32 × (Nat → Int32)) => (if r_50 = 0 then (0, (u_48.1, (f_X8_commandOf (f_X8_wordOf y9 y5 w05_1)), u_48.2)) else (my_l (f_X8_skips y2 u_48.1 y9) (fun (u_54 : Int32) => (if (f_X8_isAt y2 u_54 y9 59 59) = 0 then (0, (u_54, (f_X8_commandOf (f_X8_wordOf y9 y5 w05_1)), u_48.2)) else (my_l (f_X8_skips y2 (u_54 + 1) y9) (fun (u_59 : Int32) => (1, (u_59, (f_X8_commandOf (f_X8_wordOf y9 y5 w05_1)), u_48.2))))))))))))))))
set_option maxHeartbeats 400000 in
set_option maxRecDepth 100000 in
theorem c_X8_reads (l : Launch) (D : va_G) (cy : Nat → ClassId) (g : Nat → Nat) (B : Nat) (a : Nat → Nat) (y0 : Int32) (y1 : Int32) (y2 : Int32) (y3 : Int32) (y4 : Int32) (y5 : Int32) (y6 : Int32) (y7 : (Nat → Int32)) (y8 : (Nat → Int32)) (y9 : (Nat → Int32)) (y10 : (Nat → Int32)) (y11 : (Nat → Int32)) (y12 : (Nat → Int32)) (y13 : (Nat → Int32)) (hsp0 : ¬ y5 < 0) (hty : ¬ 150 < y2) (hsl : ¬ y2 < y5) : Met l yX8_reads wsX8_reads ({ frames := 4, cells := 0, slots := 0, locals := 86 }) (muP D cy g B (wModE cy a y0 y1 y2 y3 y4 y5 y6 y7 y8 y9 y10 y11 y12 y13) [.ref (a 0)]) (va_Qi (fun (r : Int32) (u : Int32 × Int32 × (Nat → Int32)) => f_X8_reads y2 y5 y9 y13 = (r, u)) (fun u t => va_P D vwCl (wModE cy a y0 y1 y2 y3 y4 u.1 u.2.1 y7 y8 y9 y10 y11 y12 u.2.2) t.heap) (muA (wModE cy a y0 y1 y2 y3 y4 y5 y6 y7 y8 y9 y10 y11 y12 y13))) 0 0 (muA (wModE cy a y0 y1 y2 y3 y4 y5 y6 y7 y8 y9 y10 y11 y12 y13)) := by
  refine Met.ofW (cc := cX8_reads) (maxL := 3) (ret := (some .boolean)) (by decide) rfl ?_
  intro p e s m args below meth c s₁ BB hml hv
  obtain ⟨rfl, hP, hK0, hD0⟩ := hv
  have hx := BB.exec
  have hb := BB.bytes
  have hr := BB.returns
  have hts := atoms_spec (ws := wsX8_reads) BB.pre
  have hown : s.vm.findClass RX8 = some m.cls := findClass_of_methodNamed BB.named
  have hlocks := BB.notSynchronized
  have S := my_fix hx hb hml hown hts
  have inX8 : ∀ w ∈ wsX80, w ∈ wsX8_reads := fun w h => List.mem_cons_of_mem _ (List.mem_append_right _ h)
  have hAB := muB hD0
  have hD := muD hD0
  generalize hAe : muA (wModE cy a y0 y1 y2 y3 y4 y5 y6 y7 y8 y9 y10 y11 y12 y13) = A at hAB hD ⊢
  have hS : va_S A s.heap s.heap [] := va_S.rf
  have hl := lv_entry ([.ref (a 0)]) (n := 3) (Nat.le_of_ble_eq_true rfl)
  rw [lg_entry_eq]
  generalize (lg_sl ([.ref (a 0)]) ++ List.replicate (3 - (lg_sl ([.ref (a 0)])).length) Slot.unset).toArray = ls at hl ⊢
  have hl : lv_has ls 3 [(0, .ref (a 0))] := hl
  refine lv_aload_n hx hb dX8_reads_0 rfl (lv_at hl 0 rfl) ?_
  refine va_get (D := D) (ci := 6) (v := .int y5) (C := RX8) (T := TX8) (N := 14) hx hb hts inX8 hown hK0.1 hP 0 rfl rfl 11 (by decide) (hts (.fieldLink RX8 164 "PivotChamberModel" "spot" "I") (List.mem_of_getElem? (i := 1) rfl)) (fun _ h9 => h9) rfl dX8_reads_1 ?_
  refine lv_istore_n (lv' := [(1, .int y5), (0, .ref (a 0))]) hx hb dX8_reads_4 rfl hl (by decide) rfl (fun ls hl => ?_)
  have cont0 : ∀ (w05_1 : Int32), lp (fun (x : Int32) => f_X8_reads_st y2 y9 x) default (((y2 : Int32).toInt - (y5 : Int32).toInt).toNat + 1) y5 = w05_1 → ¬ w05_1 < 0 → ¬ y2 < w05_1 → ∀ (H : Heap) (locs : List Loc), va_P D vwCl (wModE cy a y0 y1 y2 y3 y4 w05_1 y6 y7 y8 y9 y10 y11 y12 y13) H → va_D A (wModE cy a y0 y1 y2 y3 y4 w05_1 y6 y7 y8 y9 y10 y11 y12 y13) → va_S A s.heap H locs → ∀ ls : Array Slot, lv_has ls 3 [(0, .ref (a 0)), (1, .int y5)] → W p l e (headSpec wsX8_reads ({ frames := 4, cells := 0, slots := 0, locals := 86 } : Room)).room s m ([.ref (a 0)] : List Value).toArray below meth c H locs 0 0 (MQ below (va_Qi (fun (r : Int32) (u : Int32 × Int32 × (Nat → Int32)) => f_X8_reads y2 y5 y9 y13 = (r, u)) (fun u t => va_P D vwCl (wModE cy a y0 y1 y2 y3 y4 u.1 u.2.1 y7 y8 y9 y10 y11 y12 u.2.2) t.heap) A) ([.ref (a 0)] : List Value).toArray s 0 0 A) (F0 m 29 ls []) := by
    intro w05_1 hE0 hj0_0 hj0_1 H locs hP hD hS ls hl
    refine lv_aload_n hx hb dX8_reads_29 rfl (lv_at hl 0 rfl) ?_
    refine lv_aload_n hx hb dX8_reads_30 rfl (lv_at hl 0 rfl) ?_
    refine lv_iload_n hx hb dX8_reads_31 rfl (lv_at hl 1 rfl) ?_
    refine lv_aload_n hx hb dX8_reads_32 rfl (lv_at hl 0 rfl) ?_
    refine va_get (D := D) (ci := 6) (v := .int w05_1) (C := RX8) (T := TX8) (N := 14) hx hb hts inX8 hown hK0.1 hP 0 rfl rfl 11 (by decide) (hts (.fieldLink RX8 164 "PivotChamberModel" "spot" "I") (List.mem_of_getElem? (i := 1) rfl)) (fun _ h9 => h9) rfl dX8_reads_33 ?_
    refine rd_gol (va_runV (C := RX8) (As := [.int y5, .int w05_1]) (rest := [.ref (a 0)]) S (c_X8_wordOf l D cy g B a y0 y1 y2 y3 y4 w05_1 y6 y7 y8 y9 y10 y11 y12 y13 y5 w05_1 hsp0 (le_tr hj0_1 hty)) (cwV 2 hts gX8_reads_X8_wordOf rfl rfl rfl hd_X8_wordOf_V ⟨Nat.le_of_ble_eq_true rfl, Nat.le_of_ble_eq_true rfl⟩) ⟨rdP_blind, va_recv hK0.1 hP (ci := 6) (q0 := 0) rfl rfl, my_preP hK0 hS hAB hP⟩ rfl rfl hl.1 rfl (lv_room (Nat.le_of_ble_eq_true rfl)) dX8_reads_36 ⟨Nat.zero_le _, Nat.zero_le _⟩) ?_
    refine rd_goi (va_runS (As := [.long (f_X8_wordOf y9 y5 w05_1)]) (rest := [.ref (a 0)]) S (c_X8_commandOf l D cy g B (f_X8_wordOf y9 y5 w05_1)) (va_cwS 1 hts gX8_reads_X8_commandOf rfl rfl rfl hd_X8_commandOf_S ⟨Nat.le_of_ble_eq_true rfl, Nat.le_of_ble_eq_true rfl⟩) ⟨rdP_blind, my_preV hK0 hS hAB hP [] rfl⟩ rfl rfl hl.1 rfl (lv_room (Nat.le_of_ble_eq_true rfl)) dX8_reads_39 ⟨Nat.zero_le _, Nat.zero_le _⟩) ?_
    refine va_put (D := D) (ci := 6) (v := .int (f_X8_commandOf (f_X8_wordOf y9 y5 w05_1))) (ty := .int) (C := RX8) (T := TX8) (N := 14) hx hb hts inX8 tyX8 tyX8_ok nmX8 hown hK0.1 hP hD hS 0 rfl rfl 12 (by decide) (hts (.fieldLink RX8 189 "PivotChamberModel" "command" "I") (List.mem_of_getElem? (i := 2) rfl)) (fun _ h9 => h9) rfl (by decide +kernel) rfl rfl (Nat.le_of_ble_eq_true rfl) dX8_reads_42 (fun H locs hP hD hS => ?_)
    have hP : va_P D vwCl (wModE cy a y0 y1 y2 y3 y4 w05_1 (f_X8_commandOf (f_X8_wordOf y9 y5 w05_1)) y7 y8 y9 y10 y11 y12 y13) H := hP
    have hD : va_D A (wModE cy a y0 y1 y2 y3 y4 w05_1 (f_X8_commandOf (f_X8_wordOf y9 y5 w05_1)) y7 y8 y9 y10 y11 y12 y13) := hD
    refine lv_aload_n hx hb dX8_reads_45 rfl (lv_at hl 0 rfl) ?_
    refine va_get (D := D) (ci := 6) (v := .int (f_X8_commandOf (f_X8_wordOf y9 y5 w05_1))) (C := RX8) (T := TX8) (N := 14) hx hb hts inX8 hown hK0.1 hP 0 rfl rfl 12 (by decide) (hts (.fieldLink RX8 189 "PivotChamberModel" "command" "I") (List.mem_of_getElem? (i := 2) rfl)) (fun _ h9 => h9) rfl dX8_reads_46 ?_
    refine lv_iconst (v := (-1)) hx hb dX8_reads_49 (by decide) ?_
    refine lv_icmp_ne (tgt := 60) hx hb dX8_reads_50 (by decide) (fun c_2 => ?_) (fun c_2 => ?_)
    · refine lv_aload_n hx hb dX8_reads_60 rfl (lv_at hl 0 rfl) ?_
      refine va_get (D := D) (ci := 6) (v := .int (f_X8_commandOf (f_X8_wordOf y9 y5 w05_1))) (C := RX8) (T := TX8) (N := 14) hx hb hts inX8 hown hK0.1 hP 0 rfl rfl 12 (by decide) (hts (.fieldLink RX8 189 "PivotChamberModel" "command" "I") (List.mem_of_getElem? (i := 2) rfl)) (fun _ h9 => h9) rfl dX8_reads_61 ?_
      refine lv_iconst (v := 1) hx hb dX8_reads_64 (by decide) ?_
      refine lv_icmp_eq (tgt := 84) hx hb dX8_reads_65 (by decide) (fun c_3 => ?_) (fun c_3 => ?_)
      · refine lv_iconst (v := 1) hx hb dX8_reads_84 (by decide) ?_
        refine lv_goto (tgt := 89) hx hb dX8_reads_85 (by decide) ?_
        refine lv_istore_n (lv' := [(2, .int 1), (0, .ref (a 0)), (1, .int y5)]) hx hb dX8_reads_89 rfl hl (by decide) rfl (fun ls hl => ?_)
        refine lv_aload_n hx hb dX8_reads_90 rfl (lv_at hl 1 rfl) ?_
        refine lv_iconst (v := 0) hx hb dX8_reads_91 (by decide) ?_
        refine mu_alli (wf := fun (u_4 : Int32 × (Nat → Int32)) => (wModE cy a y0 y1 y2 y3 y4 u_4.1 (f_X8_commandOf (f_X8_wordOf y9 y5 w05_1)) y7 y8 y9 y10 y11 y12 u_4.2)) (va_runV (C := RX8) (As := [.int 0]) (rest := []) S (c_X8_number l D cy g B a y0 y1 y2 y3 y4 w05_1 (f_X8_commandOf (f_X8_wordOf y9 y5 w05_1)) y7 y8 y9 y10 y11 y12 y13 0 hj0_0 hty hj0_1 (by decide) (by decide)) (cwV 1 hts gX8_reads_X8_number rfl rfl rfl hd_X8_number_V ⟨Nat.le_of_ble_eq_true rfl, Nat.le_of_ble_eq_true rfl⟩) ⟨muP_blind, va_recv hK0.1 hP (ci := 6) (q0 := 0) rfl rfl, my_preA hK0 hS hAB hP hD⟩ rfl rfl hl.1 rfl (lv_room (Nat.le_of_ble_eq_true rfl)) dX8_reads_92 ⟨Nat.zero_le _, Nat.zero_le _⟩) hS hD (fun _ => by simp only [List.map_cons, List.map_nil, adrSet, adrSetE, adrPow, adrPowE, adrTxt, adrTxtE, adrSav, adrSavE, adrPCo, adrMod, adrModE]) (fun r_6 u_4 H locs hw_5 hP hD hS => ?_)
        have ha_7 : ¬ u_4.1 < 0 := nu_0 hj0_0 hw_5
        have ha_8 : ¬ y2 < u_4.1 := nu_1 hj0_1 hw_5
        refine lv_if_eq (tgt := 110) hx hb dX8_reads_95 (by decide) (fun c_9 => ?_) (fun c_9 => ?_)
        · refine lv_iconst (v := 0) hx hb dX8_reads_110 (by decide) ?_
          have hP : va_P D vwCl (wModE cy a y0 y1 y2 y3 y4 u_4.1 (f_X8_commandOf (f_X8_wordOf y9 y5 w05_1)) y7 y8 y9 y10 y11 y12 u_4.2) H := hP
          have hD : va_D A (wModE cy a y0 y1 y2 y3 y4 u_4.1 (f_X8_commandOf (f_X8_wordOf y9 y5 w05_1)) y7 y8 y9 y10 y11 y12 u_4.2) := hD
          exact W.zret (ty := .boolean) (v := 0) hx hb hr (my_nz (by decide)) (fun t ht hW => ⟨⟨0, (u_4.1, (f_X8_commandOf (f_X8_wordOf y9 y5 w05_1)), u_4.2), rfl, (show f_X8_reads y2 y5 y9 y13 = (0, (u_4.1, (f_X8_commandOf (f_X8_wordOf y9 y5 w05_1)), u_4.2)) from by rw [f_X8_reads, hE0, my_l_eq, if_neg c_2, if_pos c_3, hw_5, my_b_eq, if_pos c_9]), by show va_P D vwCl _ t.heap; rw [ht]; exact hP⟩, hS.F ht⟩) hS.2.2 dX8_reads_111
        · refine lv_iload_n hx hb dX8_reads_98 rfl (lv_at hl 0 rfl) ?_
          refine lv_if_eq (tgt := 112) hx hb dX8_reads_99 (by decide) (fun h => absurd h (by decide)) (fun _ => ?_)
          refine lv_aload_n hx hb dX8_reads_102 rfl (lv_at hl 1 rfl) ?_
          refine lv_iconst (v := 1) hx hb dX8_reads_103 (by decide) ?_
          refine mu_alli (wf := fun (u_10 : Int32 × (Nat → Int32)) => (wModE cy a y0 y1 y2 y3 y4 u_10.1 (f_X8_commandOf (f_X8_wordOf y9 y5 w05_1)) y7 y8 y9 y10 y11 y12 u_10.2)) (va_runV (C := RX8) (As := [.int 1]) (rest := []) S (c_X8_number l D cy g B a y0 y1 y2 y3 y4 u_4.1 (f_X8_commandOf (f_X8_wordOf y9 y5 w05_1)) y7 y8 y9 y10 y11 y12 u_4.2 1 ha_7 hty ha_8 (by decide) (by decide)) (cwV 1 hts gX8_reads_X8_number rfl rfl rfl hd_X8_number_V ⟨Nat.le_of_ble_eq_true rfl, Nat.le_of_ble_eq_true rfl⟩) ⟨muP_blind, va_recv hK0.1 hP (ci := 6) (q0 := 0) rfl rfl, my_preA hK0 hS hAB hP hD⟩ rfl rfl hl.1 rfl (lv_room (Nat.le_of_ble_eq_true rfl)) dX8_reads_104 ⟨Nat.zero_le _, Nat.zero_le _⟩) hS hD (fun _ => by simp only [List.map_cons, List.map_nil, adrSet, adrSetE, adrPow, adrPowE, adrTxt, adrTxtE, adrSav, adrSavE, adrPCo, adrMod, adrModE]) (fun r_12 u_10 H locs hw_11 hP hD hS => ?_)
          have ha_13 : ¬ u_10.1 < 0 := nu_0 ha_7 hw_11
          have ha_14 : ¬ y2 < u_10.1 := nu_1 ha_8 hw_11
          refine lv_if_ne (tgt := 112) hx hb dX8_reads_107 (by decide) (fun c_15 => ?_) (fun c_15 => ?_)
          · refine lv_aload_n hx hb dX8_reads_112 rfl (lv_at hl 1 rfl) ?_
            refine mu_allv (wf := fun (u_16 : Int32) => (wModE cy a y0 y1 y2 y3 y4 u_16 (f_X8_commandOf (f_X8_wordOf y9 y5 w05_1)) y7 y8 y9 y10 y11 y12 u_10.2)) (va_runV (C := RX8) (As := []) (rest := []) S (c_X8_skips l D cy g B a y0 y1 y2 y3 y4 u_10.1 (f_X8_commandOf (f_X8_wordOf y9 y5 w05_1)) y7 y8 y9 y10 y11 y12 u_10.2 ha_13 hty ha_14) (cwV 0 hts gX8_reads_X8_skips rfl rfl rfl hd_X8_skips_V ⟨Nat.le_of_ble_eq_true rfl, Nat.le_of_ble_eq_true rfl⟩) ⟨muP_blind, va_recv hK0.1 hP (ci := 6) (q0 := 0) rfl rfl, my_preA hK0 hS hAB hP hD⟩ rfl rfl hl.1 rfl (lv_room (Nat.le_of_ble_eq_true rfl)) dX8_reads_113 ⟨Nat.zero_le _, Nat.zero_le _⟩) hS hD (fun _ => by simp only [List.map_cons, List.map_nil, adrSet, adrSetE, adrPow, adrPowE, adrTxt, adrTxtE, adrSav, adrSavE, adrPCo, adrMod, adrModE]) (fun u_16 H locs hw_17 hP hD hS => ?_)
            have ha_18 : ¬ u_16 < 0 := sk_0 ha_13 hw_17
            have ha_19 : ¬ y2 < u_16 := sk_1 ha_14 hw_17
            refine lv_aload_n hx hb dX8_reads_116 rfl (lv_at hl 1 rfl) ?_
            refine lv_bipush (v := 59) hx hb dX8_reads_117 (by decide) ?_
            refine lv_bipush (v := 59) hx hb dX8_reads_119 (by decide) ?_
            refine rd_goi (va_runV (C := RX8) (As := [.int 59, .int 59]) (rest := []) S (c_X8_isAt l D cy g B a y0 y1 y2 y3 y4 u_16 (f_X8_commandOf (f_X8_wordOf y9 y5 w05_1)) y7 y8 y9 y10 y11 y12 u_10.2 59 59 ha_18 hty) (cwV 2 hts gX8_reads_X8_isAt rfl rfl rfl hd_X8_isAt_V ⟨Nat.le_of_ble_eq_true rfl, Nat.le_of_ble_eq_true rfl⟩) ⟨rdP_blind, va_recv hK0.1 hP (ci := 6) (q0 := 0) rfl rfl, my_preP hK0 hS hAB hP⟩ rfl rfl hl.1 rfl (lv_room (Nat.le_of_ble_eq_true rfl)) dX8_reads_121 ⟨Nat.zero_le _, Nat.zero_le _⟩) ?_
            refine lv_if_ne (tgt := 129) hx hb dX8_reads_124 (by decide) (fun c_20 => ?_) (fun c_20 => ?_)
            · refine lv_aload_n hx hb dX8_reads_129 rfl (lv_at hl 1 rfl) ?_
              refine lv_dup hx hb dX8_reads_130 rfl ?_
              refine va_get (D := D) (ci := 6) (v := .int u_16) (C := RX8) (T := TX8) (N := 14) hx hb hts inX8 hown hK0.1 hP 0 rfl rfl 11 (by decide) (hts (.fieldLink RX8 164 "PivotChamberModel" "spot" "I") (List.mem_of_getElem? (i := 1) rfl)) (fun _ h9 => h9) rfl dX8_reads_131 ?_
              refine lv_iconst (v := 1) hx hb dX8_reads_134 (by decide) ?_
              refine lv_iadd hx hb dX8_reads_135 ?_
              refine va_put (D := D) (ci := 6) (v := .int (u_16 + 1)) (ty := .int) (C := RX8) (T := TX8) (N := 14) hx hb hts inX8 tyX8 tyX8_ok nmX8 hown hK0.1 hP hD hS 0 rfl rfl 11 (by decide) (hts (.fieldLink RX8 164 "PivotChamberModel" "spot" "I") (List.mem_of_getElem? (i := 1) rfl)) (fun _ h9 => h9) rfl (by decide +kernel) rfl rfl (Nat.le_of_ble_eq_true rfl) dX8_reads_136 (fun H locs hP hD hS => ?_)
              have hP : va_P D vwCl (wModE cy a y0 y1 y2 y3 y4 (u_16 + 1) (f_X8_commandOf (f_X8_wordOf y9 y5 w05_1)) y7 y8 y9 y10 y11 y12 u_10.2) H := hP
              have hD : va_D A (wModE cy a y0 y1 y2 y3 y4 (u_16 + 1) (f_X8_commandOf (f_X8_wordOf y9 y5 w05_1)) y7 y8 y9 y10 y11 y12 u_10.2) := hD
              refine lv_aload_n hx hb dX8_reads_139 rfl (lv_at hl 1 rfl) ?_
              refine mu_allv (wf := fun (u_21 : Int32) => (wModE cy a y0 y1 y2 y3 y4 u_21 (f_X8_commandOf (f_X8_wordOf y9 y5 w05_1)) y7 y8 y9 y10 y11 y12 u_10.2)) (va_runV (C := RX8) (As := []) (rest := []) S (c_X8_skips l D cy g B a y0 y1 y2 y3 y4 (u_16 + 1) (f_X8_commandOf (f_X8_wordOf y9 y5 w05_1)) y7 y8 y9 y10 y11 y12 u_10.2 (nn_up ha_18 (Int32.not_le.mpr (ia_1 c_20))) hty (le_up (ia_1 c_20))) (cwV 0 hts gX8_reads_X8_skips rfl rfl rfl hd_X8_skips_V ⟨Nat.le_of_ble_eq_true rfl, Nat.le_of_ble_eq_true rfl⟩) ⟨muP_blind, va_recv hK0.1 hP (ci := 6) (q0 := 0) rfl rfl, my_preA hK0 hS hAB hP hD⟩ rfl rfl hl.1 rfl (lv_room (Nat.le_of_ble_eq_true rfl)) dX8_reads_140 ⟨Nat.zero_le _, Nat.zero_le _⟩) hS hD (fun _ => by simp only [List.map_cons, List.map_nil, adrSet, adrSetE, adrPow, adrPowE, adrTxt, adrTxtE, adrSav, adrSavE, adrPCo, adrMod, adrModE]) (fun u_21 H locs hw_22 hP hD hS => ?_)
              have ha_23 : ¬ u_21 < 0 := sk_0 (nn_up ha_18 (Int32.not_le.mpr (ia_1 c_20))) hw_22
              have ha_24 : ¬ y2 < u_21 := sk_1 (le_up (ia_1 c_20)) hw_22
              refine lv_iconst (v := 1) hx hb dX8_reads_143 (by decide) ?_
              have hP : va_P D vwCl (wModE cy a y0 y1 y2 y3 y4 u_21 (f_X8_commandOf (f_X8_wordOf y9 y5 w05_1)) y7 y8 y9 y10 y11 y12 u_10.2) H := hP
              have hD : va_D A (wModE cy a y0 y1 y2 y3 y4 u_21 (f_X8_commandOf (f_X8_wordOf y9 y5 w05_1)) y7 y8 y9 y10 y11 y12 u_10.2) := hD
              exact W.zret (ty := .boolean) (v := 1) hx hb hr (my_nz (by decide)) (fun t ht hW => ⟨⟨1, (u_21, (f_X8_commandOf (f_X8_wordOf y9 y5 w05_1)), u_10.2), rfl, (show f_X8_reads y2 y5 y9 y13 = (1, (u_21, (f_X8_commandOf (f_X8_wordOf y9 y5 w05_1)), u_10.2)) from by rw [f_X8_reads, hE0, my_l_eq, if_neg c_2, if_pos c_3, hw_5, my_b_eq, if_neg c_9, hw_11, my_b_eq, if_neg c_15, hw_17, my_l_eq, if_neg c_20, hw_22, my_l_eq]), by show va_P D vwCl _ t.heap; rw [ht]; exact hP⟩, hS.F ht⟩) hS.2.2 dX8_reads_144
            · refine lv_iconst (v := 0) hx hb dX8_reads_127 (by decide) ?_
              have hP : va_P D vwCl (wModE cy a y0 y1 y2 y3 y4 u_16 (f_X8_commandOf (f_X8_wordOf y9 y5 w05_1)) y7 y8 y9 y10 y11 y12 u_10.2) H := hP
              have hD : va_D A (wModE cy a y0 y1 y2 y3 y4 u_16 (f_X8_commandOf (f_X8_wordOf y9 y5 w05_1)) y7 y8 y9 y10 y11 y12 u_10.2) := hD
              exact W.zret (ty := .boolean) (v := 0) hx hb hr (my_nz (by decide)) (fun t ht hW => ⟨⟨0, (u_16, (f_X8_commandOf (f_X8_wordOf y9 y5 w05_1)), u_10.2), rfl, (show f_X8_reads y2 y5 y9 y13 = (0, (u_16, (f_X8_commandOf (f_X8_wordOf y9 y5 w05_1)), u_10.2)) from by rw [f_X8_reads, hE0, my_l_eq, if_neg c_2, if_pos c_3, hw_5, my_b_eq, if_neg c_9, hw_11, my_b_eq, if_neg c_15, hw_17, my_l_eq, if_pos c_20]), by show va_P D vwCl _ t.heap; rw [ht]; exact hP⟩, hS.F ht⟩) hS.2.2 dX8_reads_128
          · refine lv_iconst (v := 0) hx hb dX8_reads_110 (by decide) ?_
            have hP : va_P D vwCl (wModE cy a y0 y1 y2 y3 y4 u_10.1 (f_X8_commandOf (f_X8_wordOf y9 y5 w05_1)) y7 y8 y9 y10 y11 y12 u_10.2) H := hP
            have hD : va_D A (wModE cy a y0 y1 y2 y3 y4 u_10.1 (f_X8_commandOf (f_X8_wordOf y9 y5 w05_1)) y7 y8 y9 y10 y11 y12 u_10.2) := hD
            exact W.zret (ty := .boolean) (v := 0) hx hb hr (my_nz (by decide)) (fun t ht hW => ⟨⟨0, (u_10.1, (f_X8_commandOf (f_X8_wordOf y9 y5 w05_1)), u_10.2), rfl, (show f_X8_reads y2 y5 y9 y13 = (0, (u_10.1, (f_X8_commandOf (f_X8_wordOf y9 y5 w05_1)), u_10.2)) from by rw [f_X8_reads, hE0, my_l_eq, if_neg c_2, if_pos c_3, hw_5, my_b_eq, if_neg c_9, hw_11, my_b_eq, if_pos c_15]), by show va_P D vwCl _ t.heap; rw [ht]; exact hP⟩, hS.F ht⟩) hS.2.2 dX8_reads_111
      · refine lv_aload_n hx hb dX8_reads_68 rfl (lv_at hl 0 rfl) ?_
        refine va_get (D := D) (ci := 6) (v := .int (f_X8_commandOf (f_X8_wordOf y9 y5 w05_1))) (C := RX8) (T := TX8) (N := 14) hx hb hts inX8 hown hK0.1 hP 0 rfl rfl 12 (by decide) (hts (.fieldLink RX8 189 "PivotChamberModel" "command" "I") (List.mem_of_getElem? (i := 2) rfl)) (fun _ h9 => h9) rfl dX8_reads_69 ?_
        refine lv_iconst (v := 3) hx hb dX8_reads_72 (by decide) ?_
        refine lv_icmp_eq (tgt := 84) hx hb dX8_reads_73 (by decide) (fun c_25 => ?_) (fun c_25 => ?_)
        · refine lv_iconst (v := 1) hx hb dX8_reads_84 (by decide) ?_
          refine lv_goto (tgt := 89) hx hb dX8_reads_85 (by decide) ?_
          refine lv_istore_n (lv' := [(2, .int 1), (0, .ref (a 0)), (1, .int y5)]) hx hb dX8_reads_89 rfl hl (by decide) rfl (fun ls hl => ?_)
          refine lv_aload_n hx hb dX8_reads_90 rfl (lv_at hl 1 rfl) ?_
          refine lv_iconst (v := 0) hx hb dX8_reads_91 (by decide) ?_
          refine mu_alli (wf := fun (u_26 : Int32 × (Nat → Int32)) => (wModE cy a y0 y1 y2 y3 y4 u_26.1 (f_X8_commandOf (f_X8_wordOf y9 y5 w05_1)) y7 y8 y9 y10 y11 y12 u_26.2)) (va_runV (C := RX8) (As := [.int 0]) (rest := []) S (c_X8_number l D cy g B a y0 y1 y2 y3 y4 w05_1 (f_X8_commandOf (f_X8_wordOf y9 y5 w05_1)) y7 y8 y9 y10 y11 y12 y13 0 hj0_0 hty hj0_1 (by decide) (by decide)) (cwV 1 hts gX8_reads_X8_number rfl rfl rfl hd_X8_number_V ⟨Nat.le_of_ble_eq_true rfl, Nat.le_of_ble_eq_true rfl⟩) ⟨muP_blind, va_recv hK0.1 hP (ci := 6) (q0 := 0) rfl rfl, my_preA hK0 hS hAB hP hD⟩ rfl rfl hl.1 rfl (lv_room (Nat.le_of_ble_eq_true rfl)) dX8_reads_92 ⟨Nat.zero_le _, Nat.zero_le _⟩) hS hD (fun _ => by simp only [List.map_cons, List.map_nil, adrSet, adrSetE, adrPow, adrPowE, adrTxt, adrTxtE, adrSav, adrSavE, adrPCo, adrMod, adrModE]) (fun r_28 u_26 H locs hw_27 hP hD hS => ?_)
          have ha_29 : ¬ u_26.1 < 0 := nu_0 hj0_0 hw_27
          have ha_30 : ¬ y2 < u_26.1 := nu_1 hj0_1 hw_27
          refine lv_if_eq (tgt := 110) hx hb dX8_reads_95 (by decide) (fun c_31 => ?_) (fun c_31 => ?_)
          · refine lv_iconst (v := 0) hx hb dX8_reads_110 (by decide) ?_
            have hP : va_P D vwCl (wModE cy a y0 y1 y2 y3 y4 u_26.1 (f_X8_commandOf (f_X8_wordOf y9 y5 w05_1)) y7 y8 y9 y10 y11 y12 u_26.2) H := hP
            have hD : va_D A (wModE cy a y0 y1 y2 y3 y4 u_26.1 (f_X8_commandOf (f_X8_wordOf y9 y5 w05_1)) y7 y8 y9 y10 y11 y12 u_26.2) := hD
            exact W.zret (ty := .boolean) (v := 0) hx hb hr (my_nz (by decide)) (fun t ht hW => ⟨⟨0, (u_26.1, (f_X8_commandOf (f_X8_wordOf y9 y5 w05_1)), u_26.2), rfl, (show f_X8_reads y2 y5 y9 y13 = (0, (u_26.1, (f_X8_commandOf (f_X8_wordOf y9 y5 w05_1)), u_26.2)) from by rw [f_X8_reads, hE0, my_l_eq, if_neg c_2, if_neg c_3, if_pos c_25, hw_27, my_b_eq, if_pos c_31]), by show va_P D vwCl _ t.heap; rw [ht]; exact hP⟩, hS.F ht⟩) hS.2.2 dX8_reads_111
          · refine lv_iload_n hx hb dX8_reads_98 rfl (lv_at hl 0 rfl) ?_
            refine lv_if_eq (tgt := 112) hx hb dX8_reads_99 (by decide) (fun h => absurd h (by decide)) (fun _ => ?_)
            refine lv_aload_n hx hb dX8_reads_102 rfl (lv_at hl 1 rfl) ?_
            refine lv_iconst (v := 1) hx hb dX8_reads_103 (by decide) ?_
            refine mu_alli (wf := fun (u_32 : Int32 × (Nat → Int32)) => (wModE cy a y0 y1 y2 y3 y4 u_32.1 (f_X8_commandOf (f_X8_wordOf y9 y5 w05_1)) y7 y8 y9 y10 y11 y12 u_32.2)) (va_runV (C := RX8) (As := [.int 1]) (rest := []) S (c_X8_number l D cy g B a y0 y1 y2 y3 y4 u_26.1 (f_X8_commandOf (f_X8_wordOf y9 y5 w05_1)) y7 y8 y9 y10 y11 y12 u_26.2 1 ha_29 hty ha_30 (by decide) (by decide)) (cwV 1 hts gX8_reads_X8_number rfl rfl rfl hd_X8_number_V ⟨Nat.le_of_ble_eq_true rfl, Nat.le_of_ble_eq_true rfl⟩) ⟨muP_blind, va_recv hK0.1 hP (ci := 6) (q0 := 0) rfl rfl, my_preA hK0 hS hAB hP hD⟩ rfl rfl hl.1 rfl (lv_room (Nat.le_of_ble_eq_true rfl)) dX8_reads_104 ⟨Nat.zero_le _, Nat.zero_le _⟩) hS hD (fun _ => by simp only [List.map_cons, List.map_nil, adrSet, adrSetE, adrPow, adrPowE, adrTxt, adrTxtE, adrSav, adrSavE, adrPCo, adrMod, adrModE]) (fun r_34 u_32 H locs hw_33 hP hD hS => ?_)
            have ha_35 : ¬ u_32.1 < 0 := nu_0 ha_29 hw_33
            have ha_36 : ¬ y2 < u_32.1 := nu_1 ha_30 hw_33
            refine lv_if_ne (tgt := 112) hx hb dX8_reads_107 (by decide) (fun c_37 => ?_) (fun c_37 => ?_)
            · refine lv_aload_n hx hb dX8_reads_112 rfl (lv_at hl 1 rfl) ?_
              refine mu_allv (wf := fun (u_38 : Int32) => (wModE cy a y0 y1 y2 y3 y4 u_38 (f_X8_commandOf (f_X8_wordOf y9 y5 w05_1)) y7 y8 y9 y10 y11 y12 u_32.2)) (va_runV (C := RX8) (As := []) (rest := []) S (c_X8_skips l D cy g B a y0 y1 y2 y3 y4 u_32.1 (f_X8_commandOf (f_X8_wordOf y9 y5 w05_1)) y7 y8 y9 y10 y11 y12 u_32.2 ha_35 hty ha_36) (cwV 0 hts gX8_reads_X8_skips rfl rfl rfl hd_X8_skips_V ⟨Nat.le_of_ble_eq_true rfl, Nat.le_of_ble_eq_true rfl⟩) ⟨muP_blind, va_recv hK0.1 hP (ci := 6) (q0 := 0) rfl rfl, my_preA hK0 hS hAB hP hD⟩ rfl rfl hl.1 rfl (lv_room (Nat.le_of_ble_eq_true rfl)) dX8_reads_113 ⟨Nat.zero_le _, Nat.zero_le _⟩) hS hD (fun _ => by simp only [List.map_cons, List.map_nil, adrSet, adrSetE, adrPow, adrPowE, adrTxt, adrTxtE, adrSav, adrSavE, adrPCo, adrMod, adrModE]) (fun u_38 H locs hw_39 hP hD hS => ?_)
              have ha_40 : ¬ u_38 < 0 := sk_0 ha_35 hw_39
              have ha_41 : ¬ y2 < u_38 := sk_1 ha_36 hw_39
              refine lv_aload_n hx hb dX8_reads_116 rfl (lv_at hl 1 rfl) ?_
              refine lv_bipush (v := 59) hx hb dX8_reads_117 (by decide) ?_
              refine lv_bipush (v := 59) hx hb dX8_reads_119 (by decide) ?_
              refine rd_goi (va_runV (C := RX8) (As := [.int 59, .int 59]) (rest := []) S (c_X8_isAt l D cy g B a y0 y1 y2 y3 y4 u_38 (f_X8_commandOf (f_X8_wordOf y9 y5 w05_1)) y7 y8 y9 y10 y11 y12 u_32.2 59 59 ha_40 hty) (cwV 2 hts gX8_reads_X8_isAt rfl rfl rfl hd_X8_isAt_V ⟨Nat.le_of_ble_eq_true rfl, Nat.le_of_ble_eq_true rfl⟩) ⟨rdP_blind, va_recv hK0.1 hP (ci := 6) (q0 := 0) rfl rfl, my_preP hK0 hS hAB hP⟩ rfl rfl hl.1 rfl (lv_room (Nat.le_of_ble_eq_true rfl)) dX8_reads_121 ⟨Nat.zero_le _, Nat.zero_le _⟩) ?_
              refine lv_if_ne (tgt := 129) hx hb dX8_reads_124 (by decide) (fun c_42 => ?_) (fun c_42 => ?_)
              · refine lv_aload_n hx hb dX8_reads_129 rfl (lv_at hl 1 rfl) ?_
                refine lv_dup hx hb dX8_reads_130 rfl ?_
                refine va_get (D := D) (ci := 6) (v := .int u_38) (C := RX8) (T := TX8) (N := 14) hx hb hts inX8 hown hK0.1 hP 0 rfl rfl 11 (by decide) (hts (.fieldLink RX8 164 "PivotChamberModel" "spot" "I") (List.mem_of_getElem? (i := 1) rfl)) (fun _ h9 => h9) rfl dX8_reads_131 ?_
                refine lv_iconst (v := 1) hx hb dX8_reads_134 (by decide) ?_
                refine lv_iadd hx hb dX8_reads_135 ?_
                refine va_put (D := D) (ci := 6) (v := .int (u_38 + 1)) (ty := .int) (C := RX8) (T := TX8) (N := 14) hx hb hts inX8 tyX8 tyX8_ok nmX8 hown hK0.1 hP hD hS 0 rfl rfl 11 (by decide) (hts (.fieldLink RX8 164 "PivotChamberModel" "spot" "I") (List.mem_of_getElem? (i := 1) rfl)) (fun _ h9 => h9) rfl (by decide +kernel) rfl rfl (Nat.le_of_ble_eq_true rfl) dX8_reads_136 (fun H locs hP hD hS => ?_)
                have hP : va_P D vwCl (wModE cy a y0 y1 y2 y3 y4 (u_38 + 1) (f_X8_commandOf (f_X8_wordOf y9 y5 w05_1)) y7 y8 y9 y10 y11 y12 u_32.2) H := hP
                have hD : va_D A (wModE cy a y0 y1 y2 y3 y4 (u_38 + 1) (f_X8_commandOf (f_X8_wordOf y9 y5 w05_1)) y7 y8 y9 y10 y11 y12 u_32.2) := hD
                refine lv_aload_n hx hb dX8_reads_139 rfl (lv_at hl 1 rfl) ?_
                refine mu_allv (wf := fun (u_43 : Int32) => (wModE cy a y0 y1 y2 y3 y4 u_43 (f_X8_commandOf (f_X8_wordOf y9 y5 w05_1)) y7 y8 y9 y10 y11 y12 u_32.2)) (va_runV (C := RX8) (As := []) (rest := []) S (c_X8_skips l D cy g B a y0 y1 y2 y3 y4 (u_38 + 1) (f_X8_commandOf (f_X8_wordOf y9 y5 w05_1)) y7 y8 y9 y10 y11 y12 u_32.2 (nn_up ha_40 (Int32.not_le.mpr (ia_1 c_42))) hty (le_up (ia_1 c_42))) (cwV 0 hts gX8_reads_X8_skips rfl rfl rfl hd_X8_skips_V ⟨Nat.le_of_ble_eq_true rfl, Nat.le_of_ble_eq_true rfl⟩) ⟨muP_blind, va_recv hK0.1 hP (ci := 6) (q0 := 0) rfl rfl, my_preA hK0 hS hAB hP hD⟩ rfl rfl hl.1 rfl (lv_room (Nat.le_of_ble_eq_true rfl)) dX8_reads_140 ⟨Nat.zero_le _, Nat.zero_le _⟩) hS hD (fun _ => by simp only [List.map_cons, List.map_nil, adrSet, adrSetE, adrPow, adrPowE, adrTxt, adrTxtE, adrSav, adrSavE, adrPCo, adrMod, adrModE]) (fun u_43 H locs hw_44 hP hD hS => ?_)
                have ha_45 : ¬ u_43 < 0 := sk_0 (nn_up ha_40 (Int32.not_le.mpr (ia_1 c_42))) hw_44
                have ha_46 : ¬ y2 < u_43 := sk_1 (le_up (ia_1 c_42)) hw_44
                refine lv_iconst (v := 1) hx hb dX8_reads_143 (by decide) ?_
                have hP : va_P D vwCl (wModE cy a y0 y1 y2 y3 y4 u_43 (f_X8_commandOf (f_X8_wordOf y9 y5 w05_1)) y7 y8 y9 y10 y11 y12 u_32.2) H := hP
                have hD : va_D A (wModE cy a y0 y1 y2 y3 y4 u_43 (f_X8_commandOf (f_X8_wordOf y9 y5 w05_1)) y7 y8 y9 y10 y11 y12 u_32.2) := hD
                exact W.zret (ty := .boolean) (v := 1) hx hb hr (my_nz (by decide)) (fun t ht hW => ⟨⟨1, (u_43, (f_X8_commandOf (f_X8_wordOf y9 y5 w05_1)), u_32.2), rfl, (show f_X8_reads y2 y5 y9 y13 = (1, (u_43, (f_X8_commandOf (f_X8_wordOf y9 y5 w05_1)), u_32.2)) from by rw [f_X8_reads, hE0, my_l_eq, if_neg c_2, if_neg c_3, if_pos c_25, hw_27, my_b_eq, if_neg c_31, hw_33, my_b_eq, if_neg c_37, hw_39, my_l_eq, if_neg c_42, hw_44, my_l_eq]), by show va_P D vwCl _ t.heap; rw [ht]; exact hP⟩, hS.F ht⟩) hS.2.2 dX8_reads_144
              · refine lv_iconst (v := 0) hx hb dX8_reads_127 (by decide) ?_
                have hP : va_P D vwCl (wModE cy a y0 y1 y2 y3 y4 u_38 (f_X8_commandOf (f_X8_wordOf y9 y5 w05_1)) y7 y8 y9 y10 y11 y12 u_32.2) H := hP
                have hD : va_D A (wModE cy a y0 y1 y2 y3 y4 u_38 (f_X8_commandOf (f_X8_wordOf y9 y5 w05_1)) y7 y8 y9 y10 y11 y12 u_32.2) := hD
                exact W.zret (ty := .boolean) (v := 0) hx hb hr (my_nz (by decide)) (fun t ht hW => ⟨⟨0, (u_38, (f_X8_commandOf (f_X8_wordOf y9 y5 w05_1)), u_32.2), rfl, (show f_X8_reads y2 y5 y9 y13 = (0, (u_38, (f_X8_commandOf (f_X8_wordOf y9 y5 w05_1)), u_32.2)) from by rw [f_X8_reads, hE0, my_l_eq, if_neg c_2, if_neg c_3, if_pos c_25, hw_27, my_b_eq, if_neg c_31, hw_33, my_b_eq, if_neg c_37, hw_39, my_l_eq, if_pos c_42]), by show va_P D vwCl _ t.heap; rw [ht]; exact hP⟩, hS.F ht⟩) hS.2.2 dX8_reads_128
            · refine lv_iconst (v := 0) hx hb dX8_reads_110 (by decide) ?_
              have hP : va_P D vwCl (wModE cy a y0 y1 y2 y3 y4 u_32.1 (f_X8_commandOf (f_X8_wordOf y9 y5 w05_1)) y7 y8 y9 y10 y11 y12 u_32.2) H := hP
              have hD : va_D A (wModE cy a y0 y1 y2 y3 y4 u_32.1 (f_X8_commandOf (f_X8_wordOf y9 y5 w05_1)) y7 y8 y9 y10 y11 y12 u_32.2) := hD
              exact W.zret (ty := .boolean) (v := 0) hx hb hr (my_nz (by decide)) (fun t ht hW => ⟨⟨0, (u_32.1, (f_X8_commandOf (f_X8_wordOf y9 y5 w05_1)), u_32.2), rfl, (show f_X8_reads y2 y5 y9 y13 = (0, (u_32.1, (f_X8_commandOf (f_X8_wordOf y9 y5 w05_1)), u_32.2)) from by rw [f_X8_reads, hE0, my_l_eq, if_neg c_2, if_neg c_3, if_pos c_25, hw_27, my_b_eq, if_neg c_31, hw_33, my_b_eq, if_pos c_37]), by show va_P D vwCl _ t.heap; rw [ht]; exact hP⟩, hS.F ht⟩) hS.2.2 dX8_reads_111
        · refine lv_aload_n hx hb dX8_reads_76 rfl (lv_at hl 0 rfl) ?_
          refine va_get (D := D) (ci := 6) (v := .int (f_X8_commandOf (f_X8_wordOf y9 y5 w05_1))) (C := RX8) (T := TX8) (N := 14) hx hb hts inX8 hown hK0.1 hP 0 rfl rfl 12 (by decide) (hts (.fieldLink RX8 189 "PivotChamberModel" "command" "I") (List.mem_of_getElem? (i := 2) rfl)) (fun _ h9 => h9) rfl dX8_reads_77 ?_
          refine lv_iconst (v := 5) hx hb dX8_reads_80 (by decide) ?_
          refine lv_icmp_ne (tgt := 88) hx hb dX8_reads_81 (by decide) (fun c_47 => ?_) (fun c_47 => ?_)
          · refine lv_iconst (v := 0) hx hb dX8_reads_88 (by decide) ?_
            refine lv_istore_n (lv' := [(2, .int 0), (0, .ref (a 0)), (1, .int y5)]) hx hb dX8_reads_89 rfl hl (by decide) rfl (fun ls hl => ?_)
            refine lv_aload_n hx hb dX8_reads_90 rfl (lv_at hl 1 rfl) ?_
            refine lv_iconst (v := 0) hx hb dX8_reads_91 (by decide) ?_
            refine mu_alli (wf := fun (u_48 : Int32 × (Nat → Int32)) => (wModE cy a y0 y1 y2 y3 y4 u_48.1 (f_X8_commandOf (f_X8_wordOf y9 y5 w05_1)) y7 y8 y9 y10 y11 y12 u_48.2)) (va_runV (C := RX8) (As := [.int 0]) (rest := []) S (c_X8_number l D cy g B a y0 y1 y2 y3 y4 w05_1 (f_X8_commandOf (f_X8_wordOf y9 y5 w05_1)) y7 y8 y9 y10 y11 y12 y13 0 hj0_0 hty hj0_1 (by decide) (by decide)) (cwV 1 hts gX8_reads_X8_number rfl rfl rfl hd_X8_number_V ⟨Nat.le_of_ble_eq_true rfl, Nat.le_of_ble_eq_true rfl⟩) ⟨muP_blind, va_recv hK0.1 hP (ci := 6) (q0 := 0) rfl rfl, my_preA hK0 hS hAB hP hD⟩ rfl rfl hl.1 rfl (lv_room (Nat.le_of_ble_eq_true rfl)) dX8_reads_92 ⟨Nat.zero_le _, Nat.zero_le _⟩) hS hD (fun _ => by simp only [List.map_cons, List.map_nil, adrSet, adrSetE, adrPow, adrPowE, adrTxt, adrTxtE, adrSav, adrSavE, adrPCo, adrMod, adrModE]) (fun r_50 u_48 H locs hw_49 hP hD hS => ?_)
            have ha_51 : ¬ u_48.1 < 0 := nu_0 hj0_0 hw_49
            have ha_52 : ¬ y2 < u_48.1 := nu_1 hj0_1 hw_49
            refine lv_if_eq (tgt := 110) hx hb dX8_reads_95 (by decide) (fun c_53 => ?_) (fun c_53 => ?_)
            · refine lv_iconst (v := 0) hx hb dX8_reads_110 (by decide) ?_
              have hP : va_P D vwCl (wModE cy a y0 y1 y2 y3 y4 u_48.1 (f_X8_commandOf (f_X8_wordOf y9 y5 w05_1)) y7 y8 y9 y10 y11 y12 u_48.2) H := hP
              have hD : va_D A (wModE cy a y0 y1 y2 y3 y4 u_48.1 (f_X8_commandOf (f_X8_wordOf y9 y5 w05_1)) y7 y8 y9 y10 y11 y12 u_48.2) := hD
              exact W.zret (ty := .boolean) (v := 0) hx hb hr (my_nz (by decide)) (fun t ht hW => ⟨⟨0, (u_48.1, (f_X8_commandOf (f_X8_wordOf y9 y5 w05_1)), u_48.2), rfl, (show f_X8_reads y2 y5 y9 y13 = (0, (u_48.1, (f_X8_commandOf (f_X8_wordOf y9 y5 w05_1)), u_48.2)) from by rw [f_X8_reads, hE0, my_l_eq, if_neg c_2, if_neg c_3, if_neg c_25, if_neg c_47, hw_49, my_b_eq, if_pos c_53]), by show va_P D vwCl _ t.heap; rw [ht]; exact hP⟩, hS.F ht⟩) hS.2.2 dX8_reads_111
            · refine lv_iload_n hx hb dX8_reads_98 rfl (lv_at hl 0 rfl) ?_
              refine lv_if_eq (tgt := 112) hx hb dX8_reads_99 (by decide) (fun _ => ?_) (fun h => absurd (by decide) h)
              refine lv_aload_n hx hb dX8_reads_112 rfl (lv_at hl 1 rfl) ?_
              refine mu_allv (wf := fun (u_54 : Int32) => (wModE cy a y0 y1 y2 y3 y4 u_54 (f_X8_commandOf (f_X8_wordOf y9 y5 w05_1)) y7 y8 y9 y10 y11 y12 u_48.2)) (va_runV (C := RX8) (As := []) (rest := []) S (c_X8_skips l D cy g B a y0 y1 y2 y3 y4 u_48.1 (f_X8_commandOf (f_X8_wordOf y9 y5 w05_1)) y7 y8 y9 y10 y11 y12 u_48.2 ha_51 hty ha_52) (cwV 0 hts gX8_reads_X8_skips rfl rfl rfl hd_X8_skips_V ⟨Nat.le_of_ble_eq_true rfl, Nat.le_of_ble_eq_true rfl⟩) ⟨muP_blind, va_recv hK0.1 hP (ci := 6) (q0 := 0) rfl rfl, my_preA hK0 hS hAB hP hD⟩ rfl rfl hl.1 rfl (lv_room (Nat.le_of_ble_eq_true rfl)) dX8_reads_113 ⟨Nat.zero_le _, Nat.zero_le _⟩) hS hD (fun _ => by simp only [List.map_cons, List.map_nil, adrSet, adrSetE, adrPow, adrPowE, adrTxt, adrTxtE, adrSav, adrSavE, adrPCo, adrMod, adrModE]) (fun u_54 H locs hw_55 hP hD hS => ?_)
              have ha_56 : ¬ u_54 < 0 := sk_0 ha_51 hw_55
              have ha_57 : ¬ y2 < u_54 := sk_1 ha_52 hw_55
              refine lv_aload_n hx hb dX8_reads_116 rfl (lv_at hl 1 rfl) ?_
              refine lv_bipush (v := 59) hx hb dX8_reads_117 (by decide) ?_
              refine lv_bipush (v := 59) hx hb dX8_reads_119 (by decide) ?_
              refine rd_goi (va_runV (C := RX8) (As := [.int 59, .int 59]) (rest := []) S (c_X8_isAt l D cy g B a y0 y1 y2 y3 y4 u_54 (f_X8_commandOf (f_X8_wordOf y9 y5 w05_1)) y7 y8 y9 y10 y11 y12 u_48.2 59 59 ha_56 hty) (cwV 2 hts gX8_reads_X8_isAt rfl rfl rfl hd_X8_isAt_V ⟨Nat.le_of_ble_eq_true rfl, Nat.le_of_ble_eq_true rfl⟩) ⟨rdP_blind, va_recv hK0.1 hP (ci := 6) (q0 := 0) rfl rfl, my_preP hK0 hS hAB hP⟩ rfl rfl hl.1 rfl (lv_room (Nat.le_of_ble_eq_true rfl)) dX8_reads_121 ⟨Nat.zero_le _, Nat.zero_le _⟩) ?_
              refine lv_if_ne (tgt := 129) hx hb dX8_reads_124 (by decide) (fun c_58 => ?_) (fun c_58 => ?_)
              · refine lv_aload_n hx hb dX8_reads_129 rfl (lv_at hl 1 rfl) ?_
                refine lv_dup hx hb dX8_reads_130 rfl ?_
                refine va_get (D := D) (ci := 6) (v := .int u_54) (C := RX8) (T := TX8) (N := 14) hx hb hts inX8 hown hK0.1 hP 0 rfl rfl 11 (by decide) (hts (.fieldLink RX8 164 "PivotChamberModel" "spot" "I") (List.mem_of_getElem? (i := 1) rfl)) (fun _ h9 => h9) rfl dX8_reads_131 ?_
                refine lv_iconst (v := 1) hx hb dX8_reads_134 (by decide) ?_
                refine lv_iadd hx hb dX8_reads_135 ?_
                refine va_put (D := D) (ci := 6) (v := .int (u_54 + 1)) (ty := .int) (C := RX8) (T := TX8) (N := 14) hx hb hts inX8 tyX8 tyX8_ok nmX8 hown hK0.1 hP hD hS 0 rfl rfl 11 (by decide) (hts (.fieldLink RX8 164 "PivotChamberModel" "spot" "I") (List.mem_of_getElem? (i := 1) rfl)) (fun _ h9 => h9) rfl (by decide +kernel) rfl rfl (Nat.le_of_ble_eq_true rfl) dX8_reads_136 (fun H locs hP hD hS => ?_)
                have hP : va_P D vwCl (wModE cy a y0 y1 y2 y3 y4 (u_54 + 1) (f_X8_commandOf (f_X8_wordOf y9 y5 w05_1)) y7 y8 y9 y10 y11 y12 u_48.2) H := hP
                have hD : va_D A (wModE cy a y0 y1 y2 y3 y4 (u_54 + 1) (f_X8_commandOf (f_X8_wordOf y9 y5 w05_1)) y7 y8 y9 y10 y11 y12 u_48.2) := hD
                refine lv_aload_n hx hb dX8_reads_139 rfl (lv_at hl 1 rfl) ?_
                refine mu_allv (wf := fun (u_59 : Int32) => (wModE cy a y0 y1 y2 y3 y4 u_59 (f_X8_commandOf (f_X8_wordOf y9 y5 w05_1)) y7 y8 y9 y10 y11 y12 u_48.2)) (va_runV (C := RX8) (As := []) (rest := []) S (c_X8_skips l D cy g B a y0 y1 y2 y3 y4 (u_54 + 1) (f_X8_commandOf (f_X8_wordOf y9 y5 w05_1)) y7 y8 y9 y10 y11 y12 u_48.2 (nn_up ha_56 (Int32.not_le.mpr (ia_1 c_58))) hty (le_up (ia_1 c_58))) (cwV 0 hts gX8_reads_X8_skips rfl rfl rfl hd_X8_skips_V ⟨Nat.le_of_ble_eq_true rfl, Nat.le_of_ble_eq_true rfl⟩) ⟨muP_blind, va_recv hK0.1 hP (ci := 6) (q0 := 0) rfl rfl, my_preA hK0 hS hAB hP hD⟩ rfl rfl hl.1 rfl (lv_room (Nat.le_of_ble_eq_true rfl)) dX8_reads_140 ⟨Nat.zero_le _, Nat.zero_le _⟩) hS hD (fun _ => by simp only [List.map_cons, List.map_nil, adrSet, adrSetE, adrPow, adrPowE, adrTxt, adrTxtE, adrSav, adrSavE, adrPCo, adrMod, adrModE]) (fun u_59 H locs hw_60 hP hD hS => ?_)
                have ha_61 : ¬ u_59 < 0 := sk_0 (nn_up ha_56 (Int32.not_le.mpr (ia_1 c_58))) hw_60
                have ha_62 : ¬ y2 < u_59 := sk_1 (le_up (ia_1 c_58)) hw_60
                refine lv_iconst (v := 1) hx hb dX8_reads_143 (by decide) ?_
                have hP : va_P D vwCl (wModE cy a y0 y1 y2 y3 y4 u_59 (f_X8_commandOf (f_X8_wordOf y9 y5 w05_1)) y7 y8 y9 y10 y11 y12 u_48.2) H := hP
                have hD : va_D A (wModE cy a y0 y1 y2 y3 y4 u_59 (f_X8_commandOf (f_X8_wordOf y9 y5 w05_1)) y7 y8 y9 y10 y11 y12 u_48.2) := hD
                exact W.zret (ty := .boolean) (v := 1) hx hb hr (my_nz (by decide)) (fun t ht hW => ⟨⟨1, (u_59, (f_X8_commandOf (f_X8_wordOf y9 y5 w05_1)), u_48.2), rfl, (show f_X8_reads y2 y5 y9 y13 = (1, (u_59, (f_X8_commandOf (f_X8_wordOf y9 y5 w05_1)), u_48.2)) from by rw [f_X8_reads, hE0, my_l_eq, if_neg c_2, if_neg c_3, if_neg c_25, if_neg c_47, hw_49, my_b_eq, if_neg c_53, hw_55, my_l_eq, if_neg c_58, hw_60, my_l_eq]), by show va_P D vwCl _ t.heap; rw [ht]; exact hP⟩, hS.F ht⟩) hS.2.2 dX8_reads_144
              · refine lv_iconst (v := 0) hx hb dX8_reads_127 (by decide) ?_
                have hP : va_P D vwCl (wModE cy a y0 y1 y2 y3 y4 u_54 (f_X8_commandOf (f_X8_wordOf y9 y5 w05_1)) y7 y8 y9 y10 y11 y12 u_48.2) H := hP
                have hD : va_D A (wModE cy a y0 y1 y2 y3 y4 u_54 (f_X8_commandOf (f_X8_wordOf y9 y5 w05_1)) y7 y8 y9 y10 y11 y12 u_48.2) := hD
                exact W.zret (ty := .boolean) (v := 0) hx hb hr (my_nz (by decide)) (fun t ht hW => ⟨⟨0, (u_54, (f_X8_commandOf (f_X8_wordOf y9 y5 w05_1)), u_48.2), rfl, (show f_X8_reads y2 y5 y9 y13 = (0, (u_54, (f_X8_commandOf (f_X8_wordOf y9 y5 w05_1)), u_48.2)) from by rw [f_X8_reads, hE0, my_l_eq, if_neg c_2, if_neg c_3, if_neg c_25, if_neg c_47, hw_49, my_b_eq, if_neg c_53, hw_55, my_l_eq, if_pos c_58]), by show va_P D vwCl _ t.heap; rw [ht]; exact hP⟩, hS.F ht⟩) hS.2.2 dX8_reads_128
          · refine lv_iconst (v := 1) hx hb dX8_reads_84 (by decide) ?_
            refine lv_goto (tgt := 89) hx hb dX8_reads_85 (by decide) ?_
            refine lv_istore_n (lv' := [(2, .int 1), (0, .ref (a 0)), (1, .int y5)]) hx hb dX8_reads_89 rfl hl (by decide) rfl (fun ls hl => ?_)
            refine lv_aload_n hx hb dX8_reads_90 rfl (lv_at hl 1 rfl) ?_
            refine lv_iconst (v := 0) hx hb dX8_reads_91 (by decide) ?_
            refine mu_alli (wf := fun (u_63 : Int32 × (Nat → Int32)) => (wModE cy a y0 y1 y2 y3 y4 u_63.1 (f_X8_commandOf (f_X8_wordOf y9 y5 w05_1)) y7 y8 y9 y10 y11 y12 u_63.2)) (va_runV (C := RX8) (As := [.int 0]) (rest := []) S (c_X8_number l D cy g B a y0 y1 y2 y3 y4 w05_1 (f_X8_commandOf (f_X8_wordOf y9 y5 w05_1)) y7 y8 y9 y10 y11 y12 y13 0 hj0_0 hty hj0_1 (by decide) (by decide)) (cwV 1 hts gX8_reads_X8_number rfl rfl rfl hd_X8_number_V ⟨Nat.le_of_ble_eq_true rfl, Nat.le_of_ble_eq_true rfl⟩) ⟨muP_blind, va_recv hK0.1 hP (ci := 6) (q0 := 0) rfl rfl, my_preA hK0 hS hAB hP hD⟩ rfl rfl hl.1 rfl (lv_room (Nat.le_of_ble_eq_true rfl)) dX8_reads_92 ⟨Nat.zero_le _, Nat.zero_le _⟩) hS hD (fun _ => by simp only [List.map_cons, List.map_nil, adrSet, adrSetE, adrPow, adrPowE, adrTxt, adrTxtE, adrSav, adrSavE, adrPCo, adrMod, adrModE]) (fun r_65 u_63 H locs hw_64 hP hD hS => ?_)
            have ha_66 : ¬ u_63.1 < 0 := nu_0 hj0_0 hw_64
            have ha_67 : ¬ y2 < u_63.1 := nu_1 hj0_1 hw_64
            refine lv_if_eq (tgt := 110) hx hb dX8_reads_95 (by decide) (fun c_68 => ?_) (fun c_68 => ?_)
            · refine lv_iconst (v := 0) hx hb dX8_reads_110 (by decide) ?_
              have hP : va_P D vwCl (wModE cy a y0 y1 y2 y3 y4 u_63.1 (f_X8_commandOf (f_X8_wordOf y9 y5 w05_1)) y7 y8 y9 y10 y11 y12 u_63.2) H := hP
              have hD : va_D A (wModE cy a y0 y1 y2 y3 y4 u_63.1 (f_X8_commandOf (f_X8_wordOf y9 y5 w05_1)) y7 y8 y9 y10 y11 y12 u_63.2) := hD
              exact W.zret (ty := .boolean) (v := 0) hx hb hr (my_nz (by decide)) (fun t ht hW => ⟨⟨0, (u_63.1, (f_X8_commandOf (f_X8_wordOf y9 y5 w05_1)), u_63.2), rfl, (show f_X8_reads y2 y5 y9 y13 = (0, (u_63.1, (f_X8_commandOf (f_X8_wordOf y9 y5 w05_1)), u_63.2)) from by rw [f_X8_reads, hE0, my_l_eq, if_neg c_2, if_neg c_3, if_neg c_25, if_pos c_47, hw_64, my_b_eq, if_pos c_68]), by show va_P D vwCl _ t.heap; rw [ht]; exact hP⟩, hS.F ht⟩) hS.2.2 dX8_reads_111
            · refine lv_iload_n hx hb dX8_reads_98 rfl (lv_at hl 0 rfl) ?_
              refine lv_if_eq (tgt := 112) hx hb dX8_reads_99 (by decide) (fun h => absurd h (by decide)) (fun _ => ?_)
              refine lv_aload_n hx hb dX8_reads_102 rfl (lv_at hl 1 rfl) ?_
              refine lv_iconst (v := 1) hx hb dX8_reads_103 (by decide) ?_
              refine mu_alli (wf := fun (u_69 : Int32 × (Nat → Int32)) => (wModE cy a y0 y1 y2 y3 y4 u_69.1 (f_X8_commandOf (f_X8_wordOf y9 y5 w05_1)) y7 y8 y9 y10 y11 y12 u_69.2)) (va_runV (C := RX8) (As := [.int 1]) (rest := []) S (c_X8_number l D cy g B a y0 y1 y2 y3 y4 u_63.1 (f_X8_commandOf (f_X8_wordOf y9 y5 w05_1)) y7 y8 y9 y10 y11 y12 u_63.2 1 ha_66 hty ha_67 (by decide) (by decide)) (cwV 1 hts gX8_reads_X8_number rfl rfl rfl hd_X8_number_V ⟨Nat.le_of_ble_eq_true rfl, Nat.le_of_ble_eq_true rfl⟩) ⟨muP_blind, va_recv hK0.1 hP (ci := 6) (q0 := 0) rfl rfl, my_preA hK0 hS hAB hP hD⟩ rfl rfl hl.1 rfl (lv_room (Nat.le_of_ble_eq_true rfl)) dX8_reads_104 ⟨Nat.zero_le _, Nat.zero_le _⟩) hS hD (fun _ => by simp only [List.map_cons, List.map_nil, adrSet, adrSetE, adrPow, adrPowE, adrTxt, adrTxtE, adrSav, adrSavE, adrPCo, adrMod, adrModE]) (fun r_71 u_69 H locs hw_70 hP hD hS => ?_)
              have ha_72 : ¬ u_69.1 < 0 := nu_0 ha_66 hw_70
              have ha_73 : ¬ y2 < u_69.1 := nu_1 ha_67 hw_70
              refine lv_if_ne (tgt := 112) hx hb dX8_reads_107 (by decide) (fun c_74 => ?_) (fun c_74 => ?_)
              · refine lv_aload_n hx hb dX8_reads_112 rfl (lv_at hl 1 rfl) ?_
                refine mu_allv (wf := fun (u_75 : Int32) => (wModE cy a y0 y1 y2 y3 y4 u_75 (f_X8_commandOf (f_X8_wordOf y9 y5 w05_1)) y7 y8 y9 y10 y11 y12 u_69.2)) (va_runV (C := RX8) (As := []) (rest := []) S (c_X8_skips l D cy g B a y0 y1 y2 y3 y4 u_69.1 (f_X8_commandOf (f_X8_wordOf y9 y5 w05_1)) y7 y8 y9 y10 y11 y12 u_69.2 ha_72 hty ha_73) (cwV 0 hts gX8_reads_X8_skips rfl rfl rfl hd_X8_skips_V ⟨Nat.le_of_ble_eq_true rfl, Nat.le_of_ble_eq_true rfl⟩) ⟨muP_blind, va_recv hK0.1 hP (ci := 6) (q0 := 0) rfl rfl, my_preA hK0 hS hAB hP hD⟩ rfl rfl hl.1 rfl (lv_room (Nat.le_of_ble_eq_true rfl)) dX8_reads_113 ⟨Nat.zero_le _, Nat.zero_le _⟩) hS hD (fun _ => by simp only [List.map_cons, List.map_nil, adrSet, adrSetE, adrPow, adrPowE, adrTxt, adrTxtE, adrSav, adrSavE, adrPCo, adrMod, adrModE]) (fun u_75 H locs hw_76 hP hD hS => ?_)
                have ha_77 : ¬ u_75 < 0 := sk_0 ha_72 hw_76
                have ha_78 : ¬ y2 < u_75 := sk_1 ha_73 hw_76
                refine lv_aload_n hx hb dX8_reads_116 rfl (lv_at hl 1 rfl) ?_
                refine lv_bipush (v := 59) hx hb dX8_reads_117 (by decide) ?_
                refine lv_bipush (v := 59) hx hb dX8_reads_119 (by decide) ?_
                refine rd_goi (va_runV (C := RX8) (As := [.int 59, .int 59]) (rest := []) S (c_X8_isAt l D cy g B a y0 y1 y2 y3 y4 u_75 (f_X8_commandOf (f_X8_wordOf y9 y5 w05_1)) y7 y8 y9 y10 y11 y12 u_69.2 59 59 ha_77 hty) (cwV 2 hts gX8_reads_X8_isAt rfl rfl rfl hd_X8_isAt_V ⟨Nat.le_of_ble_eq_true rfl, Nat.le_of_ble_eq_true rfl⟩) ⟨rdP_blind, va_recv hK0.1 hP (ci := 6) (q0 := 0) rfl rfl, my_preP hK0 hS hAB hP⟩ rfl rfl hl.1 rfl (lv_room (Nat.le_of_ble_eq_true rfl)) dX8_reads_121 ⟨Nat.zero_le _, Nat.zero_le _⟩) ?_
                refine lv_if_ne (tgt := 129) hx hb dX8_reads_124 (by decide) (fun c_79 => ?_) (fun c_79 => ?_)
                · refine lv_aload_n hx hb dX8_reads_129 rfl (lv_at hl 1 rfl) ?_
                  refine lv_dup hx hb dX8_reads_130 rfl ?_
                  refine va_get (D := D) (ci := 6) (v := .int u_75) (C := RX8) (T := TX8) (N := 14) hx hb hts inX8 hown hK0.1 hP 0 rfl rfl 11 (by decide) (hts (.fieldLink RX8 164 "PivotChamberModel" "spot" "I") (List.mem_of_getElem? (i := 1) rfl)) (fun _ h9 => h9) rfl dX8_reads_131 ?_
                  refine lv_iconst (v := 1) hx hb dX8_reads_134 (by decide) ?_
                  refine lv_iadd hx hb dX8_reads_135 ?_
                  refine va_put (D := D) (ci := 6) (v := .int (u_75 + 1)) (ty := .int) (C := RX8) (T := TX8) (N := 14) hx hb hts inX8 tyX8 tyX8_ok nmX8 hown hK0.1 hP hD hS 0 rfl rfl 11 (by decide) (hts (.fieldLink RX8 164 "PivotChamberModel" "spot" "I") (List.mem_of_getElem? (i := 1) rfl)) (fun _ h9 => h9) rfl (by decide +kernel) rfl rfl (Nat.le_of_ble_eq_true rfl) dX8_reads_136 (fun H locs hP hD hS => ?_)
                  have hP : va_P D vwCl (wModE cy a y0 y1 y2 y3 y4 (u_75 + 1) (f_X8_commandOf (f_X8_wordOf y9 y5 w05_1)) y7 y8 y9 y10 y11 y12 u_69.2) H := hP
                  have hD : va_D A (wModE cy a y0 y1 y2 y3 y4 (u_75 + 1) (f_X8_commandOf (f_X8_wordOf y9 y5 w05_1)) y7 y8 y9 y10 y11 y12 u_69.2) := hD
                  refine lv_aload_n hx hb dX8_reads_139 rfl (lv_at hl 1 rfl) ?_
                  refine mu_allv (wf := fun (u_80 : Int32) => (wModE cy a y0 y1 y2 y3 y4 u_80 (f_X8_commandOf (f_X8_wordOf y9 y5 w05_1)) y7 y8 y9 y10 y11 y12 u_69.2)) (va_runV (C := RX8) (As := []) (rest := []) S (c_X8_skips l D cy g B a y0 y1 y2 y3 y4 (u_75 + 1) (f_X8_commandOf (f_X8_wordOf y9 y5 w05_1)) y7 y8 y9 y10 y11 y12 u_69.2 (nn_up ha_77 (Int32.not_le.mpr (ia_1 c_79))) hty (le_up (ia_1 c_79))) (cwV 0 hts gX8_reads_X8_skips rfl rfl rfl hd_X8_skips_V ⟨Nat.le_of_ble_eq_true rfl, Nat.le_of_ble_eq_true rfl⟩) ⟨muP_blind, va_recv hK0.1 hP (ci := 6) (q0 := 0) rfl rfl, my_preA hK0 hS hAB hP hD⟩ rfl rfl hl.1 rfl (lv_room (Nat.le_of_ble_eq_true rfl)) dX8_reads_140 ⟨Nat.zero_le _, Nat.zero_le _⟩) hS hD (fun _ => by simp only [List.map_cons, List.map_nil, adrSet, adrSetE, adrPow, adrPowE, adrTxt, adrTxtE, adrSav, adrSavE, adrPCo, adrMod, adrModE]) (fun u_80 H locs hw_81 hP hD hS => ?_)
                  have ha_82 : ¬ u_80 < 0 := sk_0 (nn_up ha_77 (Int32.not_le.mpr (ia_1 c_79))) hw_81
                  have ha_83 : ¬ y2 < u_80 := sk_1 (le_up (ia_1 c_79)) hw_81
                  refine lv_iconst (v := 1) hx hb dX8_reads_143 (by decide) ?_
                  have hP : va_P D vwCl (wModE cy a y0 y1 y2 y3 y4 u_80 (f_X8_commandOf (f_X8_wordOf y9 y5 w05_1)) y7 y8 y9 y10 y11 y12 u_69.2) H := hP
                  have hD : va_D A (wModE cy a y0 y1 y2 y3 y4 u_80 (f_X8_commandOf (f_X8_wordOf y9 y5 w05_1)) y7 y8 y9 y10 y11 y12 u_69.2) := hD
                  exact W.zret (ty := .boolean) (v := 1) hx hb hr (my_nz (by decide)) (fun t ht hW => ⟨⟨1, (u_80, (f_X8_commandOf (f_X8_wordOf y9 y5 w05_1)), u_69.2), rfl, (show f_X8_reads y2 y5 y9 y13 = (1, (u_80, (f_X8_commandOf (f_X8_wordOf y9 y5 w05_1)), u_69.2)) from by rw [f_X8_reads, hE0, my_l_eq, if_neg c_2, if_neg c_3, if_neg c_25, if_pos c_47, hw_64, my_b_eq, if_neg c_68, hw_70, my_b_eq, if_neg c_74, hw_76, my_l_eq, if_neg c_79, hw_81, my_l_eq]), by show va_P D vwCl _ t.heap; rw [ht]; exact hP⟩, hS.F ht⟩) hS.2.2 dX8_reads_144
                · refine lv_iconst (v := 0) hx hb dX8_reads_127 (by decide) ?_
                  have hP : va_P D vwCl (wModE cy a y0 y1 y2 y3 y4 u_75 (f_X8_commandOf (f_X8_wordOf y9 y5 w05_1)) y7 y8 y9 y10 y11 y12 u_69.2) H := hP
                  have hD : va_D A (wModE cy a y0 y1 y2 y3 y4 u_75 (f_X8_commandOf (f_X8_wordOf y9 y5 w05_1)) y7 y8 y9 y10 y11 y12 u_69.2) := hD
                  exact W.zret (ty := .boolean) (v := 0) hx hb hr (my_nz (by decide)) (fun t ht hW => ⟨⟨0, (u_75, (f_X8_commandOf (f_X8_wordOf y9 y5 w05_1)), u_69.2), rfl, (show f_X8_reads y2 y5 y9 y13 = (0, (u_75, (f_X8_commandOf (f_X8_wordOf y9 y5 w05_1)), u_69.2)) from by rw [f_X8_reads, hE0, my_l_eq, if_neg c_2, if_neg c_3, if_neg c_25, if_pos c_47, hw_64, my_b_eq, if_neg c_68, hw_70, my_b_eq, if_neg c_74, hw_76, my_l_eq, if_pos c_79]), by show va_P D vwCl _ t.heap; rw [ht]; exact hP⟩, hS.F ht⟩) hS.2.2 dX8_reads_128
              · refine lv_iconst (v := 0) hx hb dX8_reads_110 (by decide) ?_
                have hP : va_P D vwCl (wModE cy a y0 y1 y2 y3 y4 u_69.1 (f_X8_commandOf (f_X8_wordOf y9 y5 w05_1)) y7 y8 y9 y10 y11 y12 u_69.2) H := hP
                have hD : va_D A (wModE cy a y0 y1 y2 y3 y4 u_69.1 (f_X8_commandOf (f_X8_wordOf y9 y5 w05_1)) y7 y8 y9 y10 y11 y12 u_69.2) := hD
                exact W.zret (ty := .boolean) (v := 0) hx hb hr (my_nz (by decide)) (fun t ht hW => ⟨⟨0, (u_69.1, (f_X8_commandOf (f_X8_wordOf y9 y5 w05_1)), u_69.2), rfl, (show f_X8_reads y2 y5 y9 y13 = (0, (u_69.1, (f_X8_commandOf (f_X8_wordOf y9 y5 w05_1)), u_69.2)) from by rw [f_X8_reads, hE0, my_l_eq, if_neg c_2, if_neg c_3, if_neg c_25, if_pos c_47, hw_64, my_b_eq, if_neg c_68, hw_70, my_b_eq, if_pos c_74]), by show va_P D vwCl _ t.heap; rw [ht]; exact hP⟩, hS.F ht⟩) hS.2.2 dX8_reads_111
    · refine lv_aload_n hx hb dX8_reads_53 rfl (lv_at hl 0 rfl) ?_
      refine lv_iload_n hx hb dX8_reads_54 rfl (lv_at hl 1 rfl) ?_
      refine va_put (D := D) (ci := 6) (v := .int y5) (ty := .int) (C := RX8) (T := TX8) (N := 14) hx hb hts inX8 tyX8 tyX8_ok nmX8 hown hK0.1 hP hD hS 0 rfl rfl 11 (by decide) (hts (.fieldLink RX8 164 "PivotChamberModel" "spot" "I") (List.mem_of_getElem? (i := 1) rfl)) (fun _ h9 => h9) rfl (by decide +kernel) rfl rfl (Nat.le_of_ble_eq_true rfl) dX8_reads_55 (fun H locs hP hD hS => ?_)
      have hP : va_P D vwCl (wModE cy a y0 y1 y2 y3 y4 y5 (f_X8_commandOf (f_X8_wordOf y9 y5 w05_1)) y7 y8 y9 y10 y11 y12 y13) H := hP
      have hD : va_D A (wModE cy a y0 y1 y2 y3 y4 y5 (f_X8_commandOf (f_X8_wordOf y9 y5 w05_1)) y7 y8 y9 y10 y11 y12 y13) := hD
      refine lv_iconst (v := 0) hx hb dX8_reads_58 (by decide) ?_
      have hP : va_P D vwCl (wModE cy a y0 y1 y2 y3 y4 y5 (f_X8_commandOf (f_X8_wordOf y9 y5 w05_1)) y7 y8 y9 y10 y11 y12 y13) H := hP
      have hD : va_D A (wModE cy a y0 y1 y2 y3 y4 y5 (f_X8_commandOf (f_X8_wordOf y9 y5 w05_1)) y7 y8 y9 y10 y11 y12 y13) := hD
      exact W.zret (ty := .boolean) (v := 0) hx hb hr (my_nz (by decide)) (fun t ht hW => ⟨⟨0, (y5, (f_X8_commandOf (f_X8_wordOf y9 y5 w05_1)), y13), rfl, (show f_X8_reads y2 y5 y9 y13 = (0, (y5, (f_X8_commandOf (f_X8_wordOf y9 y5 w05_1)), y13)) from by rw [f_X8_reads, hE0, my_l_eq, if_pos c_2]), by show va_P D vwCl _ t.heap; rw [ht]; exact hP⟩, hS.F ht⟩) hS.2.2 dX8_reads_59
  have key : ∀ (nf : Nat) (w05_1 : Int32), ((y2 : Int32).toInt - (w05_1 : Int32).toInt).toNat < nf → lp (fun (x : Int32) => f_X8_reads_st y2 y9 x) default nf w05_1 = lp (fun (x : Int32) => f_X8_reads_st y2 y9 x) default (((y2 : Int32).toInt - (y5 : Int32).toInt).toNat + 1) y5 → ¬ w05_1 < 0 → ¬ y2 < w05_1 → ∀ (H : Heap) (locs : List Loc), va_P D vwCl (wModE cy a y0 y1 y2 y3 y4 w05_1 y6 y7 y8 y9 y10 y11 y12 y13) H → va_D A (wModE cy a y0 y1 y2 y3 y4 w05_1 y6 y7 y8 y9 y10 y11 y12 y13) → va_S A s.heap H locs → ∀ ls : Array Slot, lv_has ls 3 [(0, .ref (a 0)), (1, .int y5)] → W p l e (headSpec wsX8_reads ({ frames := 4, cells := 0, slots := 0, locals := 86 } : Room)).room s m ([.ref (a 0)] : List Value).toArray below meth c H locs 0 0 (MQ below (va_Qi (fun (r : Int32) (u : Int32 × Int32 × (Nat → Int32)) => f_X8_reads y2 y5 y9 y13 = (r, u)) (fun u t => va_P D vwCl (wModE cy a y0 y1 y2 y3 y4 u.1 u.2.1 y7 y8 y9 y10 y11 y12 u.2.2) t.heap) A) ([.ref (a 0)] : List Value).toArray s 0 0 A) (F0 m 5 ls []) := by
    intro n0
    induction n0 with
    | zero => intro w05_1 hlt; exact absurd hlt (Nat.not_lt_zero _)
    | succ n0 ih0 =>
      intro w05_1 hlt0 hF0 hi0_0 hi0_1 H locs hP hD hS ls hl
      refine lv_aload_n hx hb dX8_reads_5 rfl (lv_at hl 0 rfl) ?_
      refine lv_bipush (v := 97) hx hb dX8_reads_6 (by decide) ?_
      refine lv_bipush (v := 122) hx hb dX8_reads_8 (by decide) ?_
      refine rd_goi (va_runV (C := RX8) (As := [.int 97, .int 122]) (rest := []) S (c_X8_isAt l D cy g B a y0 y1 y2 y3 y4 w05_1 y6 y7 y8 y9 y10 y11 y12 y13 97 122 hi0_0 hty) (cwV 2 hts gX8_reads_X8_isAt rfl rfl rfl hd_X8_isAt_V ⟨Nat.le_of_ble_eq_true rfl, Nat.le_of_ble_eq_true rfl⟩) ⟨rdP_blind, va_recv hK0.1 hP (ci := 6) (q0 := 0) rfl rfl, my_preP hK0 hS hAB hP⟩ rfl rfl hl.1 rfl (lv_room (Nat.le_of_ble_eq_true rfl)) dX8_reads_10 ⟨Nat.zero_le _, Nat.zero_le _⟩) ?_
      refine lv_if_eq (tgt := 29) hx hb dX8_reads_13 (by decide) (fun c_84 => ?_) (fun c_84 => ?_)
      · have hst : f_X8_reads_st y2 y9 w05_1 = .inr w05_1 := by rw [f_X8_reads_st, if_pos c_84]
        exact cont0 w05_1 (lp_inr hst hF0) hi0_0 hi0_1 _ _ hP hD hS _ (lv_sub hl [0, 1] rfl)
      · refine lv_aload_n hx hb dX8_reads_16 rfl (lv_at hl 0 rfl) ?_
        refine lv_dup hx hb dX8_reads_17 rfl ?_
        refine va_get (D := D) (ci := 6) (v := .int w05_1) (C := RX8) (T := TX8) (N := 14) hx hb hts inX8 hown hK0.1 hP 0 rfl rfl 11 (by decide) (hts (.fieldLink RX8 164 "PivotChamberModel" "spot" "I") (List.mem_of_getElem? (i := 1) rfl)) (fun _ h9 => h9) rfl dX8_reads_18 ?_
        refine lv_iconst (v := 1) hx hb dX8_reads_21 (by decide) ?_
        refine lv_iadd hx hb dX8_reads_22 ?_
        refine va_put (D := D) (ci := 6) (v := .int (w05_1 + 1)) (ty := .int) (C := RX8) (T := TX8) (N := 14) hx hb hts inX8 tyX8 tyX8_ok nmX8 hown hK0.1 hP hD hS 0 rfl rfl 11 (by decide) (hts (.fieldLink RX8 164 "PivotChamberModel" "spot" "I") (List.mem_of_getElem? (i := 1) rfl)) (fun _ h9 => h9) rfl (by decide +kernel) rfl rfl (Nat.le_of_ble_eq_true rfl) dX8_reads_23 (fun H locs hP hD hS => ?_)
        have hP : va_P D vwCl (wModE cy a y0 y1 y2 y3 y4 (w05_1 + 1) y6 y7 y8 y9 y10 y11 y12 y13) H := hP
        have hD : va_D A (wModE cy a y0 y1 y2 y3 y4 (w05_1 + 1) y6 y7 y8 y9 y10 y11 y12 y13) := hD
        refine lv_goto (tgt := 5) hx hb dX8_reads_26 (by decide) ?_
        have hst : f_X8_reads_st y2 y9 w05_1 = .inl (w05_1 + 1) := by rw [f_X8_reads_st, if_neg c_84]
        have hmu : ((y2 : Int32).toInt - ((w05_1 + 1) : Int32).toInt).toNat < ((y2 : Int32).toInt - (w05_1 : Int32).toInt).toNat := mu_up (Int32.not_le.mpr (ia_1 c_84))
        exact ih0 (w05_1 + 1) (Nat.lt_of_lt_of_le hmu (Nat.le_of_lt_succ hlt0)) (lp_inl hst hF0) (nn_up hi0_0 (Int32.not_le.mpr (ia_1 c_84))) (le_up (ia_1 c_84)) _ _ hP hD hS _ (lv_sub hl [0, 1] rfl)
  exact key (((y2 : Int32).toInt - (y5 : Int32).toInt).toNat + 1) y5 (Nat.lt_succ_self _) rfl hsp0 hsl _ _ hP hD hS _ (lv_sub hl [1, 0] rfl)
theorem rd_inv {I J : Int32 → Prop} {t s : Int32} {x y : Nat → Int32} (hs : I s) (hst : ∀ w, w < t → I w → I (w + 1)) (hj : ∀ w, w < t → I w → J (w + 1)) (hjj : ∀ w, w < t → J w → J (w + 1)) (hji : ∀ w, J w → I w) : I (f_X8_reads t s x y).2.1 ∧ (¬ (f_X8_reads t s x y).1 = 0 → J (f_X8_reads t s x y).2.1) := by
  unfold f_X8_reads
  refine my_l_inv I (fun z : Int32 × (Int32 × Int32 × (Nat → Int32)) => I z.2.1 ∧ (¬ z.1 = 0 → J z.2.1)) ?_ ?_
  · refine lp_inm (I := I) (Q := I) (fun w : Int32 => (t.toInt - w.toInt).toNat) ?_ _ _ hs (Nat.lt_succ_self _)
    intro w hw
    unfold f_X8_reads_st
    split
    · exact hw
    · rename_i h
      have h1 := ia_1 h
      exact ⟨hst w h1 hw, mu_up (Int32.not_le.mpr h1)⟩
  · intro w hw
    try dsimp only
    split
    · exact ⟨hs, fun h => absurd rfl h⟩
    · split
      · refine my_b_inv (fun _ u => I u.1) (fun z : Int32 × (Int32 × Int32 × (Nat → Int32)) => I z.2.1 ∧ (¬ z.1 = 0 → J z.2.1)) (nu_inv hw hst) ?_
        intro r1 u1 hu1
        try dsimp only
        split
        · exact ⟨hu1, fun h => absurd rfl h⟩
        · refine my_b_inv (fun _ u => I u.1) (fun z : Int32 × (Int32 × Int32 × (Nat → Int32)) => I z.2.1 ∧ (¬ z.1 = 0 → J z.2.1)) (nu_inv hu1 hst) ?_
          intro r2 u2 hu2
          try dsimp only
          split
          · exact ⟨hu2, fun h => absurd rfl h⟩
          · refine my_l_inv I (fun z : Int32 × (Int32 × Int32 × (Nat → Int32)) => I z.2.1 ∧ (¬ z.1 = 0 → J z.2.1)) (sk_inv hu2 hst) ?_
            intro a ha
            try dsimp only
            split
            · exact ⟨ha, fun h => absurd rfl h⟩
            · rename_i hc
              refine my_l_inv J (fun z : Int32 × (Int32 × Int32 × (Nat → Int32)) => I z.2.1 ∧ (¬ z.1 = 0 → J z.2.1)) (sk_inv (I := J) (hj _ (ia_1 hc) ha) hjj) ?_
              intro b hb
              exact ⟨hji _ hb, fun _ => hb⟩
      · split
        · refine my_b_inv (fun _ u => I u.1) (fun z : Int32 × (Int32 × Int32 × (Nat → Int32)) => I z.2.1 ∧ (¬ z.1 = 0 → J z.2.1)) (nu_inv hw hst) ?_
          intro r1 u1 hu1
          try dsimp only
          split
          · exact ⟨hu1, fun h => absurd rfl h⟩
          · refine my_b_inv (fun _ u => I u.1) (fun z : Int32 × (Int32 × Int32 × (Nat → Int32)) => I z.2.1 ∧ (¬ z.1 = 0 → J z.2.1)) (nu_inv hu1 hst) ?_
            intro r2 u2 hu2
            try dsimp only
            split
            · exact ⟨hu2, fun h => absurd rfl h⟩
            · refine my_l_inv I (fun z : Int32 × (Int32 × Int32 × (Nat → Int32)) => I z.2.1 ∧ (¬ z.1 = 0 → J z.2.1)) (sk_inv hu2 hst) ?_
              intro a ha
              try dsimp only
              split
              · exact ⟨ha, fun h => absurd rfl h⟩
              · rename_i hc
                refine my_l_inv J (fun z : Int32 × (Int32 × Int32 × (Nat → Int32)) => I z.2.1 ∧ (¬ z.1 = 0 → J z.2.1)) (sk_inv (I := J) (hj _ (ia_1 hc) ha) hjj) ?_
                intro b hb
                exact ⟨hji _ hb, fun _ => hb⟩
        · split
          · refine my_b_inv (fun _ u => I u.1) (fun z : Int32 × (Int32 × Int32 × (Nat → Int32)) => I z.2.1 ∧ (¬ z.1 = 0 → J z.2.1)) (nu_inv hw hst) ?_
            intro r1 u1 hu1
            try dsimp only
            split
            · exact ⟨hu1, fun h => absurd rfl h⟩
            · refine my_b_inv (fun _ u => I u.1) (fun z : Int32 × (Int32 × Int32 × (Nat → Int32)) => I z.2.1 ∧ (¬ z.1 = 0 → J z.2.1)) (nu_inv hu1 hst) ?_
              intro r2 u2 hu2
              try dsimp only
              split
              · exact ⟨hu2, fun h => absurd rfl h⟩
              · refine my_l_inv I (fun z : Int32 × (Int32 × Int32 × (Nat → Int32)) => I z.2.1 ∧ (¬ z.1 = 0 → J z.2.1)) (sk_inv hu2 hst) ?_
                intro a ha
                try dsimp only
                split
                · exact ⟨ha, fun h => absurd rfl h⟩
                · rename_i hc
                  refine my_l_inv J (fun z : Int32 × (Int32 × Int32 × (Nat → Int32)) => I z.2.1 ∧ (¬ z.1 = 0 → J z.2.1)) (sk_inv (I := J) (hj _ (ia_1 hc) ha) hjj) ?_
                  intro b hb
                  exact ⟨hji _ hb, fun _ => hb⟩
          · refine my_b_inv (fun _ u => I u.1) (fun z : Int32 × (Int32 × Int32 × (Nat → Int32)) => I z.2.1 ∧ (¬ z.1 = 0 → J z.2.1)) (nu_inv hw hst) ?_
            intro r1 u1 hu1
            try dsimp only
            split
            · exact ⟨hu1, fun h => absurd rfl h⟩
            · refine my_l_inv I (fun z : Int32 × (Int32 × Int32 × (Nat → Int32)) => I z.2.1 ∧ (¬ z.1 = 0 → J z.2.1)) (sk_inv hu1 hst) ?_
              intro a ha
              try dsimp only
              split
              · exact ⟨ha, fun h => absurd rfl h⟩
              · rename_i hc
                refine my_l_inv J (fun z : Int32 × (Int32 × Int32 × (Nat → Int32)) => I z.2.1 ∧ (¬ z.1 = 0 → J z.2.1)) (sk_inv (I := J) (hj _ (ia_1 hc) ha) hjj) ?_
                intro b hb
                exact ⟨hji _ hb, fun _ => hb⟩
theorem rd_0 {t s r : Int32} {x y : Nat → Int32} {u : Int32 × Int32 × (Nat → Int32)} (h0 : ¬ s < 0) (h : f_X8_reads t s x y = (r, u)) : ¬ u.1 < 0 := by
  have h1 := (rd_inv (I := fun w => ¬ w < 0) (J := fun w => ¬ w < 0) (t := t) (s := s) (x := x) (y := y) h0 (sp_0 t) (sp_0 t) (sp_0 t) (fun _ z => z)).1
  rw [h] at h1; exact h1
theorem rd_1 {t s r : Int32} {x y : Nat → Int32} {u : Int32 × Int32 × (Nat → Int32)} (h0 : ¬ t < s) (h : f_X8_reads t s x y = (r, u)) : ¬ t < u.1 := by
  have h1 := (rd_inv (I := fun w => ¬ t < w) (J := fun w => ¬ t < w) (t := t) (s := s) (x := x) (y := y) h0 (sp_1 t) (sp_1 t) (sp_1 t) (fun _ z => z)).1
  rw [h] at h1; exact h1
theorem rd_lt {t s r : Int32} {x y : Nat → Int32} {u : Int32 × Int32 × (Nat → Int32)} (hr : ¬ r = 0) (h : f_X8_reads t s x y = (r, u)) : s < u.1 := by
  have h1 := (rd_inv (I := fun w => s.toInt ≤ w.toInt) (J := fun w => s.toInt < w.toInt) (t := t) (s := s) (x := x) (y := y) (Int.le_refl _)
    (fun w h1 h2 => by rw [inc_toInt h1]; omega) (fun w h1 h2 => by rw [inc_toInt h1]; omega) (fun w h1 h2 => by rw [inc_toInt h1]; omega) (fun _ z => Int.le_of_lt z)).2
  rw [h] at h1
  exact Int32.lt_iff_toInt_lt.mpr (h1 hr)
theorem hd_X8_fault_S : yX8_fault.cls ≠ "java/lang/invoke/MethodHandle" ∧ yX8_fault.cls ≠ "java/lang/invoke/VarHandle" ∧ (parseMethodDescriptor yX8_fault.desc).map (fun d => d.parameters.length) = some 0 := by decide +kernel
theorem hd_X8_fault_V : yX8_fault.cls = RX8 ∧ yX8_fault.cls ≠ "java/lang/invoke/MethodHandle" ∧ yX8_fault.cls ≠ "java/lang/invoke/VarHandle" ∧ (parseMethodDescriptor yX8_fault.desc).map (fun d => d.parameters.length) = some 0 := ⟨rfl, hd_X8_fault_S⟩
def f_X8_fault_st (y2 : Int32) (y9 : (Nat → Int32)) (i1_5 : Int32) (w05_6 : Int32) (w06_7 : Int32) (w013_8 : (Nat → Int32)) : (Int32 × Int32 × Int32 × (Nat → Int32)) ⊕ (Int32 × Int32 × Int32 × (Nat → Int32)) := (if i1_5 = 0 then (.inr (i1_5, w05_6, w06_7, w013_8)) else (if y2 ≤ w05_6 then (.inr (i1_5, w05_6, w06_7, w013_8)) else (my_b (f_X8_reads y2 w05_6 y9 w013_8) (fun (r_14 : Int32) (u_12 : Int32 × Int32 × (Nat → Int32)) => (.inl (r_14, u_12.1, u_12.2.1, u_12.2.2))))))
def f_X8_fault (y2 : Int32) (y6 : Int32) (y9 : (Nat → Int32)) (y13 : (Nat → Int32)) : Int32 × (Int32 × Int32 × (Nat → Int32)) := (my_l (f_X8_skips y2 0 y9) (fun (u_1 : Int32) => (my_t4 (lp (fun (x : Int32 × Int32 × Int32 × (Nat → Int32)) => f_X8_fault_st y2 y9 x.1 x.2.1 x.2.2.1 x.2.2.2) default ((ft_mu y2 1 u_1) + 1) (1, u_1, y6, y13)) (fun (i1_5 : Int32) (w05_6 : Int32) (w06_7 : Int32) (w013_8 : (Nat → Int32)) => (if i1_5 = 0 then (w05_6, (w05_6, w06_7, w013_8)) else ((-1), (w05_6, w06_7, w013_8)))))))
set_option maxHeartbeats 400000 in
set_option maxRecDepth 100000 in
theorem c_X8_fault (l : Launch) (D : va_G) (cy : Nat → ClassId) (g : Nat → Nat) (B : Nat) (a : Nat → Nat) (y0 : Int32) (y1 : Int32) (y2 : Int32) (y3 : Int32) (y4 : Int32) (y5 : Int32) (y6 : Int32) (y7 : (Nat → Int32)) (y8 : (Nat → Int32)) (y9 : (Nat → Int32)) (y10 : (Nat → Int32)) (y11 : (Nat → Int32)) (y12 : (Nat → Int32)) (y13 : (Nat → Int32)) (hty0 : ¬ y2 < 0) (hty : ¬ 150 < y2) : Met l yX8_fault wsX8_fault ({ frames := 5, cells := 0, slots := 0, locals := 108 }) (muP D cy g B (wModE cy a y0 y1 y2 y3 y4 y5 y6 y7 y8 y9 y10 y11 y12 y13) [.ref (a 0)]) (va_Qi (fun (r : Int32) (u : Int32 × Int32 × (Nat → Int32)) => f_X8_fault y2 y6 y9 y13 = (r, u)) (fun u t => va_P D vwCl (wModE cy a y0 y1 y2 y3 y4 u.1 u.2.1 y7 y8 y9 y10 y11 y12 u.2.2) t.heap) (muA (wModE cy a y0 y1 y2 y3 y4 y5 y6 y7 y8 y9 y10 y11 y12 y13))) 0 0 (muA (wModE cy a y0 y1 y2 y3 y4 y5 y6 y7 y8 y9 y10 y11 y12 y13)) := by
  refine Met.ofW (cc := cX8_fault) (maxL := 2) (ret := (some .int)) (by decide) rfl ?_
  intro p e s m args below meth c s₁ BB hml hv
  obtain ⟨rfl, hP, hK0, hD0⟩ := hv
  have hx := BB.exec
  have hb := BB.bytes
  have hr := BB.returns
  have hts := atoms_spec (ws := wsX8_fault) BB.pre
  have hown : s.vm.findClass RX8 = some m.cls := findClass_of_methodNamed BB.named
  have hlocks := BB.notSynchronized
  have S := my_fix hx hb hml hown hts
  have inX8 : ∀ w ∈ wsX80, w ∈ wsX8_fault := fun w h => List.mem_cons_of_mem _ (List.mem_append_right _ h)
  have hAB := muB hD0
  have hD := muD hD0
  generalize hAe : muA (wModE cy a y0 y1 y2 y3 y4 y5 y6 y7 y8 y9 y10 y11 y12 y13) = A at hAB hD ⊢
  have hS : va_S A s.heap s.heap [] := va_S.rf
  have hl := lv_entry ([.ref (a 0)]) (n := 2) (Nat.le_of_ble_eq_true rfl)
  rw [lg_entry_eq]
  generalize (lg_sl ([.ref (a 0)]) ++ List.replicate (2 - (lg_sl ([.ref (a 0)])).length) Slot.unset).toArray = ls at hl ⊢
  have hl : lv_has ls 2 [(0, .ref (a 0))] := hl
  refine lv_aload_n hx hb dX8_fault_0 rfl (lv_at hl 0 rfl) ?_
  refine lv_iconst (v := 0) hx hb dX8_fault_1 (by decide) ?_
  refine va_put (D := D) (ci := 6) (v := .int 0) (ty := .int) (C := RX8) (T := TX8) (N := 14) hx hb hts inX8 tyX8 tyX8_ok nmX8 hown hK0.1 hP hD hS 0 rfl rfl 11 (by decide) (hts (.fieldLink RX8 164 "PivotChamberModel" "spot" "I") (List.mem_of_getElem? (i := 1) rfl)) (fun _ h9 => h9) rfl (by decide +kernel) rfl rfl (Nat.le_of_ble_eq_true rfl) dX8_fault_2 (fun H locs hP hD hS => ?_)
  have hP : va_P D vwCl (wModE cy a y0 y1 y2 y3 y4 0 y6 y7 y8 y9 y10 y11 y12 y13) H := hP
  have hD : va_D A (wModE cy a y0 y1 y2 y3 y4 0 y6 y7 y8 y9 y10 y11 y12 y13) := hD
  refine lv_aload_n hx hb dX8_fault_5 rfl (lv_at hl 0 rfl) ?_
  refine mu_allv (wf := fun (u_1 : Int32) => (wModE cy a y0 y1 y2 y3 y4 u_1 y6 y7 y8 y9 y10 y11 y12 y13)) (va_runV (C := RX8) (As := []) (rest := []) S (c_X8_skips l D cy g B a y0 y1 y2 y3 y4 0 y6 y7 y8 y9 y10 y11 y12 y13 (by decide) hty hty0) (cwV 0 hts gX8_fault_X8_skips rfl rfl rfl hd_X8_skips_V ⟨Nat.le_of_ble_eq_true rfl, Nat.le_of_ble_eq_true rfl⟩) ⟨muP_blind, va_recv hK0.1 hP (ci := 6) (q0 := 0) rfl rfl, my_preA hK0 hS hAB hP hD⟩ rfl rfl hl.1 rfl (lv_room (Nat.le_of_ble_eq_true rfl)) dX8_fault_6 ⟨Nat.zero_le _, Nat.zero_le _⟩) hS hD (fun _ => by simp only [List.map_cons, List.map_nil, adrSet, adrSetE, adrPow, adrPowE, adrTxt, adrTxtE, adrSav, adrSavE, adrPCo, adrMod, adrModE]) (fun u_1 H locs hw_2 hP hD hS => ?_)
  have ha_3 : ¬ u_1 < 0 := sk_0 (by decide) hw_2
  have ha_4 : ¬ y2 < u_1 := sk_1 hty0 hw_2
  refine lv_iconst (v := 1) hx hb dX8_fault_9 (by decide) ?_
  refine lv_istore_n (lv' := [(1, .int 1), (0, .ref (a 0))]) hx hb dX8_fault_10 rfl hl (by decide) rfl (fun ls hl => ?_)
  have cont0 : ∀ (i1_5 : Int32) (w05_6 : Int32) (w06_7 : Int32) (w013_8 : (Nat → Int32)), lp (fun (x : Int32 × Int32 × Int32 × (Nat → Int32)) => f_X8_fault_st y2 y9 x.1 x.2.1 x.2.2.1 x.2.2.2) default ((ft_mu y2 1 u_1) + 1) (1, u_1, y6, y13) = (i1_5, w05_6, w06_7, w013_8) → ¬ w05_6 < 0 → ¬ y2 < w05_6 → ∀ (H : Heap) (locs : List Loc), va_P D vwCl (wModE cy a y0 y1 y2 y3 y4 w05_6 w06_7 y7 y8 y9 y10 y11 y12 w013_8) H → va_D A (wModE cy a y0 y1 y2 y3 y4 w05_6 w06_7 y7 y8 y9 y10 y11 y12 w013_8) → va_S A s.heap H locs → ∀ ls : Array Slot, lv_has ls 2 [(0, .ref (a 0)), (1, .int i1_5)] → W p l e (headSpec wsX8_fault ({ frames := 5, cells := 0, slots := 0, locals := 108 } : Room)).room s m ([.ref (a 0)] : List Value).toArray below meth c H locs 0 0 (MQ below (va_Qi (fun (r : Int32) (u : Int32 × Int32 × (Nat → Int32)) => f_X8_fault y2 y6 y9 y13 = (r, u)) (fun u t => va_P D vwCl (wModE cy a y0 y1 y2 y3 y4 u.1 u.2.1 y7 y8 y9 y10 y11 y12 u.2.2) t.heap) A) ([.ref (a 0)] : List Value).toArray s 0 0 A) (F0 m 34 ls []) := by
    intro i1_5 w05_6 w06_7 w013_8 hE0 hj0_0 hj0_1 H locs hP hD hS ls hl
    refine lv_iload_n hx hb dX8_fault_34 rfl (lv_at hl 1 rfl) ?_
    refine lv_if_eq (tgt := 42) hx hb dX8_fault_35 (by decide) (fun c_9 => ?_) (fun c_9 => ?_)
    · refine lv_aload_n hx hb dX8_fault_42 rfl (lv_at hl 0 rfl) ?_
      refine va_get (D := D) (ci := 6) (v := .int w05_6) (C := RX8) (T := TX8) (N := 14) hx hb hts inX8 hown hK0.1 hP 0 rfl rfl 11 (by decide) (hts (.fieldLink RX8 164 "PivotChamberModel" "spot" "I") (List.mem_of_getElem? (i := 1) rfl)) (fun _ h9 => h9) rfl dX8_fault_43 ?_
      have hP : va_P D vwCl (wModE cy a y0 y1 y2 y3 y4 w05_6 w06_7 y7 y8 y9 y10 y11 y12 w013_8) H := hP
      have hD : va_D A (wModE cy a y0 y1 y2 y3 y4 w05_6 w06_7 y7 y8 y9 y10 y11 y12 w013_8) := hD
      exact W.iret hx hb hr (fun t ht hW => ⟨⟨w05_6, (w05_6, w06_7, w013_8), rfl, (show f_X8_fault y2 y6 y9 y13 = (w05_6, (w05_6, w06_7, w013_8)) from by rw [f_X8_fault, hw_2, my_l_eq, hE0, my_t4_eq, if_pos c_9]), by show va_P D vwCl _ t.heap; rw [ht]; exact hP⟩, hS.F ht⟩) hS.2.2 dX8_fault_46
    · refine lv_iconst (v := (-1)) hx hb dX8_fault_38 (by decide) ?_
      refine lv_goto (tgt := 46) hx hb dX8_fault_39 (by decide) ?_
      have hP : va_P D vwCl (wModE cy a y0 y1 y2 y3 y4 w05_6 w06_7 y7 y8 y9 y10 y11 y12 w013_8) H := hP
      have hD : va_D A (wModE cy a y0 y1 y2 y3 y4 w05_6 w06_7 y7 y8 y9 y10 y11 y12 w013_8) := hD
      exact W.iret hx hb hr (fun t ht hW => ⟨⟨(-1), (w05_6, w06_7, w013_8), rfl, (show f_X8_fault y2 y6 y9 y13 = ((-1), (w05_6, w06_7, w013_8)) from by rw [f_X8_fault, hw_2, my_l_eq, hE0, my_t4_eq, if_neg c_9]), by show va_P D vwCl _ t.heap; rw [ht]; exact hP⟩, hS.F ht⟩) hS.2.2 dX8_fault_46
  have key : ∀ (nf : Nat) (i1_5 : Int32) (w05_6 : Int32) (w06_7 : Int32) (w013_8 : (Nat → Int32)), (ft_mu y2 i1_5 w05_6) < nf → lp (fun (x : Int32 × Int32 × Int32 × (Nat → Int32)) => f_X8_fault_st y2 y9 x.1 x.2.1 x.2.2.1 x.2.2.2) default nf (i1_5, w05_6, w06_7, w013_8) = lp (fun (x : Int32 × Int32 × Int32 × (Nat → Int32)) => f_X8_fault_st y2 y9 x.1 x.2.1 x.2.2.1 x.2.2.2) default ((ft_mu y2 1 u_1) + 1) (1, u_1, y6, y13) → ¬ w05_6 < 0 → ¬ y2 < w05_6 → ∀ (H : Heap) (locs : List Loc), va_P D vwCl (wModE cy a y0 y1 y2 y3 y4 w05_6 w06_7 y7 y8 y9 y10 y11 y12 w013_8) H → va_D A (wModE cy a y0 y1 y2 y3 y4 w05_6 w06_7 y7 y8 y9 y10 y11 y12 w013_8) → va_S A s.heap H locs → ∀ ls : Array Slot, lv_has ls 2 [(0, .ref (a 0)), (1, .int i1_5)] → W p l e (headSpec wsX8_fault ({ frames := 5, cells := 0, slots := 0, locals := 108 } : Room)).room s m ([.ref (a 0)] : List Value).toArray below meth c H locs 0 0 (MQ below (va_Qi (fun (r : Int32) (u : Int32 × Int32 × (Nat → Int32)) => f_X8_fault y2 y6 y9 y13 = (r, u)) (fun u t => va_P D vwCl (wModE cy a y0 y1 y2 y3 y4 u.1 u.2.1 y7 y8 y9 y10 y11 y12 u.2.2) t.heap) A) ([.ref (a 0)] : List Value).toArray s 0 0 A) (F0 m 11 ls []) := by
    intro n0
    induction n0 with
    | zero => intro i1_5 w05_6 w06_7 w013_8 hlt; exact absurd hlt (Nat.not_lt_zero _)
    | succ n0 ih0 =>
      intro i1_5 w05_6 w06_7 w013_8 hlt0 hF0 hi0_0 hi0_1 H locs hP hD hS ls hl
      refine lv_iload_n hx hb dX8_fault_11 rfl (lv_at hl 1 rfl) ?_
      refine lv_if_eq (tgt := 34) hx hb dX8_fault_12 (by decide) (fun c_10 => ?_) (fun c_10 => ?_)
      · have hst : f_X8_fault_st y2 y9 i1_5 w05_6 w06_7 w013_8 = .inr (i1_5, w05_6, w06_7, w013_8) := by rw [f_X8_fault_st, if_pos c_10]
        exact cont0 i1_5 w05_6 w06_7 w013_8 (lp_inr hst hF0) hi0_0 hi0_1 _ _ hP hD hS _ (lv_sub hl [0, 1] rfl)
      · refine lv_aload_n hx hb dX8_fault_15 rfl (lv_at hl 0 rfl) ?_
        refine va_get (D := D) (ci := 6) (v := .int w05_6) (C := RX8) (T := TX8) (N := 14) hx hb hts inX8 hown hK0.1 hP 0 rfl rfl 11 (by decide) (hts (.fieldLink RX8 164 "PivotChamberModel" "spot" "I") (List.mem_of_getElem? (i := 1) rfl)) (fun _ h9 => h9) rfl dX8_fault_16 ?_
        refine lv_aload_n hx hb dX8_fault_19 rfl (lv_at hl 0 rfl) ?_
        refine va_get (D := D) (ci := 6) (v := .int y2) (C := RX8) (T := TX8) (N := 14) hx hb hts inX8 hown hK0.1 hP 0 rfl rfl 5 (by decide) (hts (.fieldLink RX8 141 "PivotChamberModel" "typed" "I") (List.mem_of_getElem? (i := 2) rfl)) (fun _ h9 => h9) rfl dX8_fault_20 ?_
        refine lv_icmp_ge (tgt := 34) hx hb dX8_fault_23 (by decide) (fun c_11 => ?_) (fun c_11 => ?_)
        · have hst : f_X8_fault_st y2 y9 i1_5 w05_6 w06_7 w013_8 = .inr (i1_5, w05_6, w06_7, w013_8) := by rw [f_X8_fault_st, if_neg c_10, if_pos c_11]
          exact cont0 i1_5 w05_6 w06_7 w013_8 (lp_inr hst hF0) hi0_0 hi0_1 _ _ hP hD hS _ (lv_sub hl [0, 1] rfl)
        · refine lv_aload_n hx hb dX8_fault_26 rfl (lv_at hl 0 rfl) ?_
          refine mu_alli (wf := fun (u_12 : Int32 × Int32 × (Nat → Int32)) => (wModE cy a y0 y1 y2 y3 y4 u_12.1 u_12.2.1 y7 y8 y9 y10 y11 y12 u_12.2.2)) (va_runV (C := RX8) (As := []) (rest := []) S (c_X8_reads l D cy g B a y0 y1 y2 y3 y4 w05_6 w06_7 y7 y8 y9 y10 y11 y12 w013_8 hi0_0 hty hi0_1) (cwV 0 hts gX8_fault_X8_reads rfl rfl rfl hd_X8_reads_V ⟨Nat.le_of_ble_eq_true rfl, Nat.le_of_ble_eq_true rfl⟩) ⟨muP_blind, va_recv hK0.1 hP (ci := 6) (q0 := 0) rfl rfl, my_preA hK0 hS hAB hP hD⟩ rfl rfl hl.1 rfl (lv_room (Nat.le_of_ble_eq_true rfl)) dX8_fault_27 ⟨Nat.zero_le _, Nat.zero_le _⟩) hS hD (fun _ => by simp only [List.map_cons, List.map_nil, adrSet, adrSetE, adrPow, adrPowE, adrTxt, adrTxtE, adrSav, adrSavE, adrPCo, adrMod, adrModE]) (fun r_14 u_12 H locs hw_13 hP hD hS => ?_)
          have ha_15 : ¬ u_12.1 < 0 := rd_0 hi0_0 hw_13
          have ha_16 : ¬ y2 < u_12.1 := rd_1 hi0_1 hw_13
          refine lv_istore_n (lv' := [(1, .int r_14), (0, .ref (a 0))]) hx hb dX8_fault_30 rfl hl (by decide) rfl (fun ls hl => ?_)
          refine lv_goto (tgt := 11) hx hb dX8_fault_31 (by decide) ?_
          have hst : f_X8_fault_st y2 y9 i1_5 w05_6 w06_7 w013_8 = .inl (r_14, u_12.1, u_12.2.1, u_12.2.2) := by rw [f_X8_fault_st, if_neg c_10, if_neg c_11, hw_13, my_b_eq]
          have hmu : (ft_mu y2 r_14 u_12.1) < (ft_mu y2 i1_5 w05_6) := ft_dec c_10 c_11 (fun h => rd_lt h hw_13)
          exact ih0 r_14 u_12.1 u_12.2.1 u_12.2.2 (Nat.lt_of_lt_of_le hmu (Nat.le_of_lt_succ hlt0)) (lp_inl hst hF0) ha_15 ha_16 _ _ hP hD hS _ (lv_sub hl [1, 0] rfl)
  exact key ((ft_mu y2 1 u_1) + 1) 1 u_1 y6 y13 (Nat.lt_succ_self _) rfl ha_3 ha_4 _ _ hP hD hS _ (lv_sub hl [1, 0] rfl)
