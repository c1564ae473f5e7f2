theorem hd_X8_compare_S : yX8_compare.cls ≠ "java/lang/invoke/MethodHandle" ∧ yX8_compare.cls ≠ "java/lang/invoke/VarHandle" ∧ (parseMethodDescriptor yX8_compare.desc).map (fun d => d.parameters.length) = some 2 := by decide +kernel
theorem hd_X8_compare_V : yX8_compare.cls = RX8 ∧ yX8_compare.cls ≠ "java/lang/invoke/MethodHandle" ∧ yX8_compare.cls ≠ "java/lang/invoke/VarHandle" ∧ (parseMethodDescriptor yX8_compare.desc).map (fun d => d.parameters.length) = some 2 := ⟨rfl, hd_X8_compare_S⟩
def f_X8_compare_st (x0 : Int32) (x1 : Int32) (u_5 : Int32 × (Nat → Int32)) (i3_10 : Int32) (i4_11 : Int32) (i5_12 : Int32) : (Int32 × Int32 × Int32) ⊕ (Int32 × Int32 × Int32) := (if 256 ≤ i5_12 then (.inr (i3_10, i4_11, i5_12)) else (if (f_X8_has i5_12 x0) = 0 then (if (f_X8_has i5_12 x1) = 0 then (if i3_10 = 0 then (if (u_5.2 (i5_12 ||| (1 <<< (x0 &&& 31))).toNatClampNeg) = 0 then (if i4_11 = 0 then (if (u_5.2 (i5_12 ||| (1 <<< (x1 &&& 31))).toNatClampNeg) = 0 then (.inl (0, 0, (i5_12 + 1))) else (.inl (0, 1, (i5_12 + 1)))) else (.inl (0, 1, (i5_12 + 1)))) else (if (u_5.2 (i5_12 ||| (1 <<< (x1 &&& 31))).toNatClampNeg) = 0 then (if i4_11 = 0 then (.inl (1, 0, (i5_12 + 1))) else (.inl (1, 1, (i5_12 + 1)))) else (if i4_11 = 0 then (.inl (0, 0, (i5_12 + 1))) else (.inl (0, 1, (i5_12 + 1)))))) else (if i4_11 = 0 then (if (u_5.2 (i5_12 ||| (1 <<< (x1 &&& 31))).toNatClampNeg) = 0 then (.inl (1, 0, (i5_12 + 1))) else (if (u_5.2 (i5_12 ||| (1 <<< (x0 &&& 31))).toNatClampNeg) = 0 then (.inl (1, 1, (i5_12 + 1))) else (.inl (1, 0, (i5_12 + 1))))) else (.inl (1, 1, (i5_12 + 1))))) else (.inl (i3_10, i4_11, (i5_12 + 1)))) else (.inl (i3_10, i4_11, (i5_12 + 1)))))
def f_X8_compare (y4 : Int32) (y7 : (Nat → Int32)) (y10 : (Nat → Int32)) (x0 : Int32) (x1 : Int32) : Int32 × (Int32 × Int32 × (Nat → Int32)) := (if (f_X8_wrongTwo y7 x0 x1) = 0 then (my_l (f_X8_lays y7 y10 (y7 1)) (fun (u_5 : Int32 × (Nat → Int32)) => (my_t3 (lp (fun (x : Int32 × Int32 × Int32) => f_X8_compare_st x0 x1 u_5 x.1 x.2.1 x.2.2) default (((256 : Int32).toInt - (0 : Int32).toInt).toNat + 1) (0, 0, 0)) (fun (i3_10 : Int32) (i4_11 : Int32) (i5_12 : Int32) => (if i3_10 = 0 then (if i4_11 = 0 then (0, (0, u_5.1, u_5.2)) else ((-1), (0, u_5.1, u_5.2))) else (if i4_11 = 0 then (1, (0, u_5.1, u_5.2)) else (2, (0, u_5.1, u_5.2)))))))) else (0, ((f_X8_wrongTwo y7 x0 x1), y4, y10)))
set_option maxHeartbeats 3200000 in
set_option maxRecDepth 100000 in
theorem c_X8_compare (l : Launch) (D : va_G) (cy : Nat → ClassId) (g : Nat → Nat) (B : Nat) (a : Nat → Nat) (y0 : Int32) (y1 : Int32) (y2 : Int32) (y3 : Int32) (y4 : Int32) (y5 : Int32) (y6 : Int32) (y7 : (Nat → Int32)) (y8 : (Nat → Int32)) (y9 : (Nat → Int32)) (y10 : (Nat → Int32)) (y11 : (Nat → Int32)) (y12 : (Nat → Int32)) (y13 : (Nat → Int32)) (x0 : Int32) (x1 : Int32) (hm8 : ¬ 8 < (y7 0)) (hR4 : ¬ 4 < (y7 2)) (hwin : ∀ j : Nat, y10 j = 0 ∨ y10 j = 1) : Met l yX8_compare wsX8_compare ({ frames := 4, cells := 0, slots := 0, locals := 91 }) (muP D cy g B (wModE cy a y0 y1 y2 y3 y4 y5 y6 y7 y8 y9 y10 y11 y12 y13) [.ref (a 0), .int x0, .int x1]) (va_Qi (fun (r : Int32) (u : Int32 × Int32 × (Nat → Int32)) => f_X8_compare y4 y7 y10 x0 x1 = (r, u)) (fun u t => va_P D vwCl (wModE cy a y0 y1 y2 u.1 u.2.1 y5 y6 y7 y8 y9 u.2.2 y11 y12 y13) t.heap) (muA (wModE cy a y0 y1 y2 y3 y4 y5 y6 y7 y8 y9 y10 y11 y12 y13))) 0 0 (muA (wModE cy a y0 y1 y2 y3 y4 y5 y6 y7 y8 y9 y10 y11 y12 y13)) := by
  refine Met.ofW (cc := cX8_compare) (maxL := 8) (ret := (some .int)) (by decide) rfl ?_
  intro p e s m args below meth c s₁ BB hml hv
  obtain ⟨rfl, hP, hK0, hD0⟩ := hv
  have hx := BB.exec
  have hb := BB.bytes
  have hr := BB.returns
  have hts := atoms_spec (ws := wsX8_compare) BB.pre
  have hown : s.vm.findClass RX8 = some m.cls := findClass_of_methodNamed BB.named
  have hlocks := BB.notSynchronized
  have S := my_fix hx hb hml hown hts
  have inX8 : ∀ w ∈ wsX80, w ∈ wsX8_compare := fun w h => List.mem_cons_of_mem _ (List.mem_append_right _ h)
  have hAB := muB hD0
  have hD := muD hD0
  generalize hAe : muA (wModE cy a y0 y1 y2 y3 y4 y5 y6 y7 y8 y9 y10 y11 y12 y13) = A at hAB hD ⊢
  have hS : va_S A s.heap s.heap [] := va_S.rf
  have hl := lv_entry ([.ref (a 0), .int x0, .int x1]) (n := 8) (Nat.le_of_ble_eq_true rfl)
  rw [lg_entry_eq]
  generalize (lg_sl ([.ref (a 0), .int x0, .int x1]) ++ List.replicate (8 - (lg_sl ([.ref (a 0), .int x0, .int x1])).length) Slot.unset).toArray = ls at hl ⊢
  have hl : lv_has ls 8 [(0, .ref (a 0)), (1, .int x0), (2, .int x1)] := hl
  refine lv_aload_n hx hb dX8_compare_0 rfl (lv_at hl 0 rfl) ?_
  refine lv_aload_n hx hb dX8_compare_1 rfl (lv_at hl 0 rfl) ?_
  refine lv_iload_n hx hb dX8_compare_2 rfl (lv_at hl 1 rfl) ?_
  refine lv_iload_n hx hb dX8_compare_3 rfl (lv_at hl 2 rfl) ?_
  refine rd_goi (va_runV (C := RX8) (As := [.int x0, .int x1]) (rest := [.ref (a 0)]) S (c_X8_wrongTwo l D cy g B a y0 y1 y2 y3 y4 y5 y6 y7 y8 y9 y10 y11 y12 y13 x0 x1 hm8) (cwV 2 hts gX8_compare_X8_wrongTwo rfl rfl rfl hd_X8_wrongTwo_V ⟨Nat.le_of_ble_eq_true rfl, Nat.le_of_ble_eq_true rfl⟩) ⟨rdP_blind, va_recv hK0.1 hP (ci := 6) (q0 := 0) rfl rfl, my_preP hK0 hS hAB hP⟩ rfl rfl hl.1 rfl (lv_room (Nat.le_of_ble_eq_true rfl)) dX8_compare_4 ⟨Nat.zero_le _, Nat.zero_le _⟩) ?_
  by_cases c_1 : (f_X8_wrongTwo y7 x0 x1) = 0
  · refine W.eq (g2 := F0 m 7 ls [.int 0, .ref (a 0)]) (by rw [c_1]) ?_
    refine mu_alli (wf := fun (u_2 : Int32) => (wModE cy a y0 y1 y2 u_2 y4 y5 y6 y7 y8 y9 y10 y11 y12 y13)) (va_runV (C := RX8) (As := [.int 0]) (rest := []) S (c_X8_throwsAt l D cy g B a y0 y1 y2 y3 y4 y5 y6 y7 y8 y9 y10 y11 y12 y13 0) (cwV 1 hts gX8_compare_X8_throwsAt rfl rfl rfl hd_X8_throwsAt_V ⟨Nat.le_of_ble_eq_true rfl, Nat.le_of_ble_eq_true rfl⟩) ⟨muP_blind, va_recv hK0.1 hP (ci := 6) (q0 := 0) rfl rfl, my_preA hK0 hS hAB hP hD⟩ rfl rfl hl.1 rfl (lv_room (Nat.le_of_ble_eq_true rfl)) dX8_compare_7 ⟨Nat.zero_le _, Nat.zero_le _⟩) hS hD (fun _ => by simp only [List.map_cons, List.map_nil, adrSet, adrSetE, adrPow, adrPowE, adrTxt, adrTxtE, adrSav, adrSavE, adrPCo, adrMod, adrModE]) (fun r_4 u_2 H locs hw_3 hP hD hS => ?_)
    obtain ⟨rfl, rfl⟩ : 0 = r_4 ∧ 0 = u_2 := my_thr_lit (k := 0) (by decide) hw_3
    refine lv_if_eq (tgt := 15) hx hb dX8_compare_10 (by decide) (fun _ => ?_) (fun h => absurd (by decide) h)
    refine lv_aload_n hx hb dX8_compare_15 rfl (lv_at hl 0 rfl) ?_
    refine lv_aload_n hx hb dX8_compare_16 rfl (lv_at hl 0 rfl) ?_
    refine va_get (D := D) (ci := 6) (v := .ref (a 1)) (C := RX8) (T := TX8) (N := 14) hx hb hts inX8 hown hK0.1 hP 0 rfl rfl 0 (by decide) (hts (.fieldLink RX8 7 "PivotChamberModel" "s" "[I") (List.mem_of_getElem? (i := 1) rfl)) (fun _ h9 => h9) rfl dX8_compare_17 ?_
    refine lv_iconst (v := 1) hx hb dX8_compare_20 (by decide) ?_
    refine va_iald hx hb hK0.1 hP 1 0 rfl rfl (vp_in_nI (n := 1) (N := 27) (by decide) (by decide)) dX8_compare_21 ?_
    refine W.eq (g2 := F0 m 22 ls [.int (y7 1), .ref (a 0)]) rfl ?_
    refine mu_allv (wf := fun (u_5 : Int32 × (Nat → Int32)) => (wModE cy a y0 y1 y2 0 u_5.1 y5 y6 y7 y8 y9 u_5.2 y11 y12 y13)) (va_runV (C := RX8) (As := [.int (y7 1)]) (rest := []) S (c_X8_lays l D cy g B a y0 y1 y2 0 y4 y5 y6 y7 y8 y9 y10 y11 y12 y13 (y7 1) hm8 hR4) (cwV 1 hts gX8_compare_X8_lays rfl rfl rfl hd_X8_lays_V ⟨Nat.le_of_ble_eq_true rfl, Nat.le_of_ble_eq_true rfl⟩) ⟨muP_blind, va_recv hK0.1 hP (ci := 6) (q0 := 0) rfl rfl, my_preA hK0 hS hAB hP hD⟩ rfl rfl hl.1 rfl (lv_room (Nat.le_of_ble_eq_true rfl)) dX8_compare_22 ⟨Nat.zero_le _, Nat.zero_le _⟩) hS hD (fun _ => by simp only [List.map_cons, List.map_nil, adrSet, adrSetE, adrPow, adrPowE, adrTxt, adrTxtE, adrSav, adrSavE, adrPCo, adrMod, adrModE]) (fun u_5 H locs hw_6 hP hD hS => ?_)
    have ha_7 : ¬ u_5.1 < 0 := lays_0 hm8 hw_6
    have ha_8 : ¬ 256 ≤ u_5.1 := lays_256 hm8 hw_6
    have ha_9 : ∀ j : Nat, u_5.2 j = 0 ∨ u_5.2 j = 1 := lays_bool hwin hw_6
    refine lv_iconst (v := 0) hx hb dX8_compare_25 (by decide) ?_
    refine lv_istore_n (lv' := [(3, .int 0), (0, .ref (a 0)), (1, .int x0), (2, .int x1)]) hx hb dX8_compare_26 rfl hl (by decide) rfl (fun ls hl => ?_)
    refine lv_iconst (v := 0) hx hb dX8_compare_27 (by decide) ?_
    refine lv_istore (lv' := [(4, .int 0), (3, .int 0), (0, .ref (a 0)), (1, .int x0), (2, .int x1)]) hx hb dX8_compare_28 hl (by decide) rfl (fun ls hl => ?_)
    refine lv_iconst (v := 0) hx hb dX8_compare_30 (by decide) ?_
    refine lv_istore (lv' := [(5, .int 0), (4, .int 0), (3, .int 0), (0, .ref (a 0)), (1, .int x0), (2, .int x1)]) hx hb dX8_compare_31 hl (by decide) rfl (fun ls hl => ?_)
    have cont0 : ∀ (i3_10 : Int32) (i4_11 : Int32) (i5_12 : Int32), lp (fun (x : Int32 × Int32 × Int32) => f_X8_compare_st x0 x1 u_5 x.1 x.2.1 x.2.2) default (((256 : Int32).toInt - (0 : Int32).toInt).toNat + 1) (0, 0, 0) = (i3_10, i4_11, i5_12) → ¬ i5_12 < 0 → ∀ ls : Array Slot, lv_has ls 8 [(0, .ref (a 0)), (1, .int x0), (2, .int x1), (3, .int i3_10), (4, .int i4_11), (5, .int i5_12)] → W p l e (headSpec wsX8_compare ({ frames := 4, cells := 0, slots := 0, locals := 91 } : Room)).room s m ([.ref (a 0), .int x0, .int x1] : List Value).toArray below meth c H locs 0 0 (MQ below (va_Qi (fun (r : Int32) (u : Int32 × Int32 × (Nat → Int32)) => f_X8_compare y4 y7 y10 x0 x1 = (r, u)) (fun u t => va_P D vwCl (wModE cy a y0 y1 y2 u.1 u.2.1 y5 y6 y7 y8 y9 u.2.2 y11 y12 y13) t.heap) A) ([.ref (a 0), .int x0, .int x1] : List Value).toArray s 0 0 A) (F0 m 133 ls []) := by
      intro i3_10 i4_11 i5_12 hE0 hj0_0 ls hl
      refine lv_iload_n hx hb dX8_compare_133 rfl (lv_at hl 3 rfl) ?_
      refine lv_if_eq (tgt := 146) hx hb dX8_compare_134 (by decide) (fun c_13 => ?_) (fun c_13 => ?_)
      · refine lv_iload_n hx hb dX8_compare_146 rfl (lv_at hl 3 rfl) ?_
        refine lv_if_eq (tgt := 154) hx hb dX8_compare_147 (by decide) (fun _ => ?_) (fun h => absurd c_13 h)
        refine lv_iload hx hb dX8_compare_154 (lv_at hl 4 rfl) ?_
        refine lv_if_eq (tgt := 163) hx hb dX8_compare_156 (by decide) (fun c_14 => ?_) (fun c_14 => ?_)
        · refine lv_iconst (v := 0) hx hb dX8_compare_163 (by decide) ?_
          have hP : va_P D vwCl (wModE cy a y0 y1 y2 0 u_5.1 y5 y6 y7 y8 y9 u_5.2 y11 y12 y13) H := hP
          have hD : va_D A (wModE cy a y0 y1 y2 0 u_5.1 y5 y6 y7 y8 y9 u_5.2 y11 y12 y13) := hD
          exact W.iret hx hb hr (fun t ht hW => ⟨⟨0, (0, u_5.1, u_5.2), rfl, (show f_X8_compare y4 y7 y10 x0 x1 = (0, (0, u_5.1, u_5.2)) from by rw [f_X8_compare, if_pos c_1, hw_6, my_l_eq, hE0, my_t3_eq, if_pos c_13, if_pos c_14]), by show va_P D vwCl _ t.heap; rw [ht]; exact hP⟩, hS.F ht⟩) hS.2.2 dX8_compare_164
        · refine lv_iconst (v := (-1)) hx hb dX8_compare_159 (by decide) ?_
          refine lv_goto (tgt := 164) hx hb dX8_compare_160 (by decide) ?_
          have hP : va_P D vwCl (wModE cy a y0 y1 y2 0 u_5.1 y5 y6 y7 y8 y9 u_5.2 y11 y12 y13) H := hP
          have hD : va_D A (wModE cy a y0 y1 y2 0 u_5.1 y5 y6 y7 y8 y9 u_5.2 y11 y12 y13) := hD
          exact W.iret hx hb hr (fun t ht hW => ⟨⟨(-1), (0, u_5.1, u_5.2), rfl, (show f_X8_compare y4 y7 y10 x0 x1 = ((-1), (0, u_5.1, u_5.2)) from by rw [f_X8_compare, if_pos c_1, hw_6, my_l_eq, hE0, my_t3_eq, if_pos c_13, if_neg c_14]), by show va_P D vwCl _ t.heap; rw [ht]; exact hP⟩, hS.F ht⟩) hS.2.2 dX8_compare_164
      · refine lv_iload hx hb dX8_compare_137 (lv_at hl 4 rfl) ?_
        refine lv_if_eq (tgt := 146) hx hb dX8_compare_139 (by decide) (fun c_15 => ?_) (fun c_15 => ?_)
        · refine lv_iload_n hx hb dX8_compare_146 rfl (lv_at hl 3 rfl) ?_
          refine lv_if_eq (tgt := 154) hx hb dX8_compare_147 (by decide) (fun h => absurd h c_13) (fun _ => ?_)
          refine lv_iconst (v := 1) hx hb dX8_compare_150 (by decide) ?_
          refine lv_goto (tgt := 164) hx hb dX8_compare_151 (by decide) ?_
          have hP : va_P D vwCl (wModE cy a y0 y1 y2 0 u_5.1 y5 y6 y7 y8 y9 u_5.2 y11 y12 y13) H := hP
          have hD : va_D A (wModE cy a y0 y1 y2 0 u_5.1 y5 y6 y7 y8 y9 u_5.2 y11 y12 y13) := hD
          exact W.iret hx hb hr (fun t ht hW => ⟨⟨1, (0, u_5.1, u_5.2), rfl, (show f_X8_compare y4 y7 y10 x0 x1 = (1, (0, u_5.1, u_5.2)) from by rw [f_X8_compare, if_pos c_1, hw_6, my_l_eq, hE0, my_t3_eq, if_neg c_13, if_pos c_15]), by show va_P D vwCl _ t.heap; rw [ht]; exact hP⟩, hS.F ht⟩) hS.2.2 dX8_compare_164
        · refine lv_iconst (v := 2) hx hb dX8_compare_142 (by decide) ?_
          refine lv_goto (tgt := 164) hx hb dX8_compare_143 (by decide) ?_
          have hP : va_P D vwCl (wModE cy a y0 y1 y2 0 u_5.1 y5 y6 y7 y8 y9 u_5.2 y11 y12 y13) H := hP
          have hD : va_D A (wModE cy a y0 y1 y2 0 u_5.1 y5 y6 y7 y8 y9 u_5.2 y11 y12 y13) := hD
          exact W.iret hx hb hr (fun t ht hW => ⟨⟨2, (0, u_5.1, u_5.2), rfl, (show f_X8_compare y4 y7 y10 x0 x1 = (2, (0, u_5.1, u_5.2)) from by rw [f_X8_compare, if_pos c_1, hw_6, my_l_eq, hE0, my_t3_eq, if_neg c_13, if_neg c_15]), by show va_P D vwCl _ t.heap; rw [ht]; exact hP⟩, hS.F ht⟩) hS.2.2 dX8_compare_164
    have key : ∀ (nf : Nat) (i3_10 : Int32) (i4_11 : Int32) (i5_12 : Int32), ((256 : Int32).toInt - (i5_12 : Int32).toInt).toNat < nf → lp (fun (x : Int32 × Int32 × Int32) => f_X8_compare_st x0 x1 u_5 x.1 x.2.1 x.2.2) default nf (i3_10, i4_11, i5_12) = lp (fun (x : Int32 × Int32 × Int32) => f_X8_compare_st x0 x1 u_5 x.1 x.2.1 x.2.2) default (((256 : Int32).toInt - (0 : Int32).toInt).toNat + 1) (0, 0, 0) → ¬ i5_12 < 0 → ∀ ls : Array Slot, lv_has ls 8 [(0, .ref (a 0)), (1, .int x0), (2, .int x1), (3, .int i3_10), (4, .int i4_11), (5, .int i5_12)] → W p l e (headSpec wsX8_compare ({ frames := 4, cells := 0, slots := 0, locals := 91 } : Room)).room s m ([.ref (a 0), .int x0, .int x1] : List Value).toArray below meth c H locs 0 0 (MQ below (va_Qi (fun (r : Int32) (u : Int32 × Int32 × (Nat → Int32)) => f_X8_compare y4 y7 y10 x0 x1 = (r, u)) (fun u t => va_P D vwCl (wModE cy a y0 y1 y2 u.1 u.2.1 y5 y6 y7 y8 y9 u.2.2 y11 y12 y13) t.heap) A) ([.ref (a 0), .int x0, .int x1] : List Value).toArray s 0 0 A) (F0 m 33 ls []) := by
      intro n0
      induction n0 with
      | zero => intro i3_10 i4_11 i5_12 hlt; exact absurd hlt (Nat.not_lt_zero _)
      | succ n0 ih0 =>
        intro i3_10 i4_11 i5_12 hlt0 hF0 hi0_0 ls hl
        refine lv_iload hx hb dX8_compare_33 (lv_at hl 5 rfl) ?_
        refine lv_sipush (v := 256) hx hb dX8_compare_35 (by decide) ?_
        refine lv_icmp_ge (tgt := 133) hx hb dX8_compare_38 (by decide) (fun c_16 => ?_) (fun c_16 => ?_)
        · have hst : f_X8_compare_st x0 x1 u_5 i3_10 i4_11 i5_12 = .inr (i3_10, i4_11, i5_12) := by rw [f_X8_compare_st, if_pos c_16]
          exact cont0 i3_10 i4_11 i5_12 (lp_inr hst hF0) hi0_0 _ (lv_sub hl [0, 1, 2, 3, 4, 5] rfl)
        · refine lv_iload hx hb dX8_compare_41 (lv_at hl 5 rfl) ?_
          refine lv_iload_n hx hb dX8_compare_43 rfl (lv_at hl 1 rfl) ?_
          refine rd_goi (va_runS (As := [.int i5_12, .int x0]) (rest := []) S (c_X8_has l D cy g B i5_12 x0) (va_cwS 2 hts gX8_compare_X8_has rfl rfl rfl hd_X8_has_S ⟨Nat.le_of_ble_eq_true rfl, Nat.le_of_ble_eq_true rfl⟩) ⟨rdP_blind, my_preV hK0 hS hAB hP [] rfl⟩ rfl rfl hl.1 rfl (lv_room (Nat.le_of_ble_eq_true rfl)) dX8_compare_44 ⟨Nat.zero_le _, Nat.zero_le _⟩) ?_
          refine lv_if_ne (tgt := 127) hx hb dX8_compare_47 (by decide) (fun c_17 => ?_) (fun c_17 => ?_)
          · refine lv_iinc (v := (i5_12 + 1)) (lv' := [(5, .int (i5_12 + 1)), (0, .ref (a 0)), (1, .int x0), (2, .int x1), (3, .int i3_10), (4, .int i4_11)]) hx hb dX8_compare_127 hl (k := 5) rfl rfl (by decide) rfl (fun ls hl => ?_)
            refine lv_goto (tgt := 33) hx hb dX8_compare_130 (by decide) ?_
            have hst : f_X8_compare_st x0 x1 u_5 i3_10 i4_11 i5_12 = .inl (i3_10, i4_11, (i5_12 + 1)) := by rw [f_X8_compare_st, if_neg c_16, if_neg c_17]
            have hmu : ((256 : Int32).toInt - ((i5_12 + 1) : Int32).toInt).toNat < ((256 : Int32).toInt - (i5_12 : Int32).toInt).toNat := mu_up c_16
            exact ih0 i3_10 i4_11 (i5_12 + 1) (Nat.lt_of_lt_of_le hmu (Nat.le_of_lt_succ hlt0)) (lp_inl hst hF0) (nn_up hi0_0 c_16) _ (lv_sub hl [1, 2, 3, 4, 5, 0] rfl)
          · refine lv_iload hx hb dX8_compare_50 (lv_at hl 5 rfl) ?_
            refine lv_iload_n hx hb dX8_compare_52 rfl (lv_at hl 2 rfl) ?_
            refine rd_goi (va_runS (As := [.int i5_12, .int x1]) (rest := []) S (c_X8_has l D cy g B i5_12 x1) (va_cwS 2 hts gX8_compare_X8_has rfl rfl rfl hd_X8_has_S ⟨Nat.le_of_ble_eq_true rfl, Nat.le_of_ble_eq_true rfl⟩) ⟨rdP_blind, my_preV hK0 hS hAB hP [] rfl⟩ rfl rfl hl.1 rfl (lv_room (Nat.le_of_ble_eq_true rfl)) dX8_compare_53 ⟨Nat.zero_le _, Nat.zero_le _⟩) ?_
            refine lv_if_ne (tgt := 127) hx hb dX8_compare_56 (by decide) (fun c_18 => ?_) (fun c_18 => ?_)
            · refine lv_iinc (v := (i5_12 + 1)) (lv' := [(5, .int (i5_12 + 1)), (0, .ref (a 0)), (1, .int x0), (2, .int x1), (3, .int i3_10), (4, .int i4_11)]) hx hb dX8_compare_127 hl (k := 5) rfl rfl (by decide) rfl (fun ls hl => ?_)
              refine lv_goto (tgt := 33) hx hb dX8_compare_130 (by decide) ?_
              have hst : f_X8_compare_st x0 x1 u_5 i3_10 i4_11 i5_12 = .inl (i3_10, i4_11, (i5_12 + 1)) := by rw [f_X8_compare_st, if_neg c_16, if_pos c_17, if_neg c_18]
              have hmu : ((256 : Int32).toInt - ((i5_12 + 1) : Int32).toInt).toNat < ((256 : Int32).toInt - (i5_12 : Int32).toInt).toNat := mu_up c_16
              exact ih0 i3_10 i4_11 (i5_12 + 1) (Nat.lt_of_lt_of_le hmu (Nat.le_of_lt_succ hlt0)) (lp_inl hst hF0) (nn_up hi0_0 c_16) _ (lv_sub hl [1, 2, 3, 4, 5, 0] rfl)
            · refine lv_aload_n hx hb dX8_compare_59 rfl (lv_at hl 0 rfl) ?_
              refine va_get (D := D) (ci := 6) (v := .ref (a 4)) (C := RX8) (T := TX8) (N := 14) hx hb hts inX8 hown hK0.1 hP 0 rfl rfl 7 (by decide) (hts (.fieldLink RX8 19 "PivotChamberModel" "win" "[Z") (List.mem_of_getElem? (i := 2) rfl)) (fun _ h9 => h9) rfl dX8_compare_60 ?_
              refine lv_iload hx hb dX8_compare_63 (lv_at hl 5 rfl) ?_
              refine lv_iconst (v := 1) hx hb dX8_compare_65 (by decide) ?_
              refine lv_iload_n hx hb dX8_compare_66 rfl (lv_at hl 1 rfl) ?_
              refine lv_ishl hx hb dX8_compare_67 ?_
              refine lv_ior hx hb dX8_compare_68 ?_
              refine va_zald hx hb hK0.1 hP 4 1 rfl rfl (ix_or (ix_self (K := 256) (N := 256) hi0_0 c_16 (by decide) (by decide)) (K := 8) (wt_0 c_1) (Int32.not_le.mpr (wt_1 c_1)) hm8 (by decide)) dX8_compare_69 ?_
              refine lv_istore (lv' := [(6, .int (u_5.2 (i5_12 ||| (1 <<< (x0 &&& 31))).toNatClampNeg)), (0, .ref (a 0)), (1, .int x0), (2, .int x1), (3, .int i3_10), (4, .int i4_11), (5, .int i5_12)]) hx hb dX8_compare_70 hl (by decide) rfl (fun ls hl => ?_)
              refine lv_aload_n hx hb dX8_compare_72 rfl (lv_at hl 1 rfl) ?_
              refine va_get (D := D) (ci := 6) (v := .ref (a 4)) (C := RX8) (T := TX8) (N := 14) hx hb hts inX8 hown hK0.1 hP 0 rfl rfl 7 (by decide) (hts (.fieldLink RX8 19 "PivotChamberModel" "win" "[Z") (List.mem_of_getElem? (i := 2) rfl)) (fun _ h9 => h9) rfl dX8_compare_73 ?_
              refine lv_iload hx hb dX8_compare_76 (lv_at hl 6 rfl) ?_
              refine lv_iconst (v := 1) hx hb dX8_compare_78 (by decide) ?_
              refine lv_iload_n hx hb dX8_compare_79 rfl (lv_at hl 3 rfl) ?_
              refine lv_ishl hx hb dX8_compare_80 ?_
              refine lv_ior hx hb dX8_compare_81 ?_
              refine va_zald hx hb hK0.1 hP 4 1 rfl rfl (ix_or (ix_self (K := 256) (N := 256) hi0_0 c_16 (by decide) (by decide)) (K := 8) (wt_2 c_1) (Int32.not_le.mpr (wt_3 c_1)) hm8 (by decide)) dX8_compare_82 ?_
              refine lv_istore (lv' := [(7, .int (u_5.2 (i5_12 ||| (1 <<< (x1 &&& 31))).toNatClampNeg)), (6, .int (u_5.2 (i5_12 ||| (1 <<< (x0 &&& 31))).toNatClampNeg)), (0, .ref (a 0)), (1, .int x0), (2, .int x1), (3, .int i3_10), (4, .int i4_11), (5, .int i5_12)]) hx hb dX8_compare_83 hl (by decide) rfl (fun ls hl => ?_)
              refine lv_iload_n hx hb dX8_compare_85 rfl (lv_at hl 5 rfl) ?_
              refine lv_if_ne (tgt := 99) hx hb dX8_compare_86 (by decide) (fun c_19 => ?_) (fun c_19 => ?_)
              · refine lv_iconst (v := 1) hx hb dX8_compare_99 (by decide) ?_
                refine lv_goto (tgt := 104) hx hb dX8_compare_100 (by decide) ?_
                refine lv_istore_n (lv' := [(3, .int 1), (7, .int (u_5.2 (i5_12 ||| (1 <<< (x1 &&& 31))).toNatClampNeg)), (6, .int (u_5.2 (i5_12 ||| (1 <<< (x0 &&& 31))).toNatClampNeg)), (0, .ref (a 0)), (1, .int x0), (2, .int x1), (4, .int i4_11), (5, .int i5_12)]) hx hb dX8_compare_104 rfl hl (by decide) rfl (fun ls hl => ?_)
                refine lv_iload hx hb dX8_compare_105 (lv_at hl 6 rfl) ?_
                refine lv_if_ne (tgt := 120) hx hb dX8_compare_107 (by decide) (fun c_20 => ?_) (fun c_20 => ?_)
                · refine lv_iconst (v := 1) hx hb dX8_compare_120 (by decide) ?_
                  refine lv_goto (tgt := 125) hx hb dX8_compare_121 (by decide) ?_
                  refine lv_istore (lv' := [(4, .int 1), (3, .int 1), (7, .int (u_5.2 (i5_12 ||| (1 <<< (x1 &&& 31))).toNatClampNeg)), (6, .int (u_5.2 (i5_12 ||| (1 <<< (x0 &&& 31))).toNatClampNeg)), (0, .ref (a 0)), (1, .int x0), (2, .int x1), (5, .int i5_12)]) hx hb dX8_compare_125 hl (by decide) rfl (fun ls hl => ?_)
                  refine lv_iinc (v := (i5_12 + 1)) (lv' := [(5, .int (i5_12 + 1)), (4, .int 1), (3, .int 1), (7, .int (u_5.2 (i5_12 ||| (1 <<< (x1 &&& 31))).toNatClampNeg)), (6, .int (u_5.2 (i5_12 ||| (1 <<< (x0 &&& 31))).toNatClampNeg)), (0, .ref (a 0)), (1, .int x0), (2, .int x1)]) hx hb dX8_compare_127 hl (k := 7) rfl rfl (by decide) rfl (fun ls hl => ?_)
                  refine lv_goto (tgt := 33) hx hb dX8_compare_130 (by decide) ?_
                  have hst : f_X8_compare_st x0 x1 u_5 i3_10 i4_11 i5_12 = .inl (1, 1, (i5_12 + 1)) := by rw [f_X8_compare_st, if_neg c_16, if_pos c_17, if_pos c_18, if_neg c_19, if_neg c_20]
                  have hmu : ((256 : Int32).toInt - ((i5_12 + 1) : Int32).toInt).toNat < ((256 : Int32).toInt - (i5_12 : Int32).toInt).toNat := mu_up c_16
                  exact ih0 1 1 (i5_12 + 1) (Nat.lt_of_lt_of_le hmu (Nat.le_of_lt_succ hlt0)) (lp_inl hst hF0) (nn_up hi0_0 c_16) _ (lv_sub hl [5, 6, 7, 2, 1, 0] rfl)
                · refine lv_iload hx hb dX8_compare_110 (lv_at hl 1 rfl) ?_
                  refine lv_if_eq (tgt := 124) hx hb dX8_compare_112 (by decide) (fun c_21 => ?_) (fun c_21 => ?_)
                  · refine lv_iconst (v := 0) hx hb dX8_compare_124 (by decide) ?_
                    refine lv_istore (lv' := [(4, .int 0), (3, .int 1), (7, .int (u_5.2 (i5_12 ||| (1 <<< (x1 &&& 31))).toNatClampNeg)), (6, .int (u_5.2 (i5_12 ||| (1 <<< (x0 &&& 31))).toNatClampNeg)), (0, .ref (a 0)), (1, .int x0), (2, .int x1), (5, .int i5_12)]) hx hb dX8_compare_125 hl (by decide) rfl (fun ls hl => ?_)
                    refine lv_iinc (v := (i5_12 + 1)) (lv' := [(5, .int (i5_12 + 1)), (4, .int 0), (3, .int 1), (7, .int (u_5.2 (i5_12 ||| (1 <<< (x1 &&& 31))).toNatClampNeg)), (6, .int (u_5.2 (i5_12 ||| (1 <<< (x0 &&& 31))).toNatClampNeg)), (0, .ref (a 0)), (1, .int x0), (2, .int x1)]) hx hb dX8_compare_127 hl (k := 7) rfl rfl (by decide) rfl (fun ls hl => ?_)
                    refine lv_goto (tgt := 33) hx hb dX8_compare_130 (by decide) ?_
                    have hst : f_X8_compare_st x0 x1 u_5 i3_10 i4_11 i5_12 = .inl (1, 0, (i5_12 + 1)) := by rw [f_X8_compare_st, if_neg c_16, if_pos c_17, if_pos c_18, if_neg c_19, if_pos c_20, if_pos c_21]
                    have hmu : ((256 : Int32).toInt - ((i5_12 + 1) : Int32).toInt).toNat < ((256 : Int32).toInt - (i5_12 : Int32).toInt).toNat := mu_up c_16
                    exact ih0 1 0 (i5_12 + 1) (Nat.lt_of_lt_of_le hmu (Nat.le_of_lt_succ hlt0)) (lp_inl hst hF0) (nn_up hi0_0 c_16) _ (lv_sub hl [5, 6, 7, 2, 1, 0] rfl)
                  · refine lv_iload hx hb dX8_compare_115 (lv_at hl 2 rfl) ?_
                    refine lv_if_ne (tgt := 124) hx hb dX8_compare_117 (by decide) (fun c_22 => ?_) (fun c_22 => ?_)
                    · refine lv_iconst (v := 0) hx hb dX8_compare_124 (by decide) ?_
                      refine lv_istore (lv' := [(4, .int 0), (3, .int 1), (7, .int (u_5.2 (i5_12 ||| (1 <<< (x1 &&& 31))).toNatClampNeg)), (6, .int (u_5.2 (i5_12 ||| (1 <<< (x0 &&& 31))).toNatClampNeg)), (0, .ref (a 0)), (1, .int x0), (2, .int x1), (5, .int i5_12)]) hx hb dX8_compare_125 hl (by decide) rfl (fun ls hl => ?_)
                      refine lv_iinc (v := (i5_12 + 1)) (lv' := [(5, .int (i5_12 + 1)), (4, .int 0), (3, .int 1), (7, .int (u_5.2 (i5_12 ||| (1 <<< (x1 &&& 31))).toNatClampNeg)), (6, .int (u_5.2 (i5_12 ||| (1 <<< (x0 &&& 31))).toNatClampNeg)), (0, .ref (a 0)), (1, .int x0), (2, .int x1)]) hx hb dX8_compare_127 hl (k := 7) rfl rfl (by decide) rfl (fun ls hl => ?_)
                      refine lv_goto (tgt := 33) hx hb dX8_compare_130 (by decide) ?_
                      have hst : f_X8_compare_st x0 x1 u_5 i3_10 i4_11 i5_12 = .inl (1, 0, (i5_12 + 1)) := by rw [f_X8_compare_st, if_neg c_16, if_pos c_17, if_pos c_18, if_neg c_19, if_pos c_20, if_neg c_21, if_neg c_22]
                      have hmu : ((256 : Int32).toInt - ((i5_12 + 1) : Int32).toInt).toNat < ((256 : Int32).toInt - (i5_12 : Int32).toInt).toNat := mu_up c_16
                      exact ih0 1 0 (i5_12 + 1) (Nat.lt_of_lt_of_le hmu (Nat.le_of_lt_succ hlt0)) (lp_inl hst hF0) (nn_up hi0_0 c_16) _ (lv_sub hl [5, 6, 7, 2, 1, 0] rfl)
                    · refine lv_iconst (v := 1) hx hb dX8_compare_120 (by decide) ?_
                      refine lv_goto (tgt := 125) hx hb dX8_compare_121 (by decide) ?_
                      refine lv_istore (lv' := [(4, .int 1), (3, .int 1), (7, .int (u_5.2 (i5_12 ||| (1 <<< (x1 &&& 31))).toNatClampNeg)), (6, .int (u_5.2 (i5_12 ||| (1 <<< (x0 &&& 31))).toNatClampNeg)), (0, .ref (a 0)), (1, .int x0), (2, .int x1), (5, .int i5_12)]) hx hb dX8_compare_125 hl (by decide) rfl (fun ls hl => ?_)
                      refine lv_iinc (v := (i5_12 + 1)) (lv' := [(5, .int (i5_12 + 1)), (4, .int 1), (3, .int 1), (7, .int (u_5.2 (i5_12 ||| (1 <<< (x1 &&& 31))).toNatClampNeg)), (6, .int (u_5.2 (i5_12 ||| (1 <<< (x0 &&& 31))).toNatClampNeg)), (0, .ref (a 0)), (1, .int x0), (2, .int x1)]) hx hb dX8_compare_127 hl (k := 7) rfl rfl (by decide) rfl (fun ls hl => ?_)
                      refine lv_goto (tgt := 33) hx hb dX8_compare_130 (by decide) ?_
                      have hst : f_X8_compare_st x0 x1 u_5 i3_10 i4_11 i5_12 = .inl (1, 1, (i5_12 + 1)) := by rw [f_X8_compare_st, if_neg c_16, if_pos c_17, if_pos c_18, if_neg c_19, if_pos c_20, if_neg c_21, if_pos c_22]
                      have hmu : ((256 : Int32).toInt - ((i5_12 + 1) : Int32).toInt).toNat < ((256 : Int32).toInt - (i5_12 : Int32).toInt).toNat := mu_up c_16
                      exact ih0 1 1 (i5_12 + 1) (Nat.lt_of_lt_of_le hmu (Nat.le_of_lt_succ hlt0)) (lp_inl hst hF0) (nn_up hi0_0 c_16) _ (lv_sub hl [5, 6, 7, 2, 1, 0] rfl)
              · refine lv_iload hx hb dX8_compare_89 (lv_at hl 1 rfl) ?_
                refine lv_if_eq (tgt := 103) hx hb dX8_compare_91 (by decide) (fun c_23 => ?_) (fun c_23 => ?_)
                · refine lv_iconst (v := 0) hx hb dX8_compare_103 (by decide) ?_
                  refine lv_istore_n (lv' := [(3, .int 0), (7, .int (u_5.2 (i5_12 ||| (1 <<< (x1 &&& 31))).toNatClampNeg)), (6, .int (u_5.2 (i5_12 ||| (1 <<< (x0 &&& 31))).toNatClampNeg)), (0, .ref (a 0)), (1, .int x0), (2, .int x1), (4, .int i4_11), (5, .int i5_12)]) hx hb dX8_compare_104 rfl hl (by decide) rfl (fun ls hl => ?_)
                  refine lv_iload hx hb dX8_compare_105 (lv_at hl 6 rfl) ?_
                  refine lv_if_ne (tgt := 120) hx hb dX8_compare_107 (by decide) (fun c_24 => ?_) (fun c_24 => ?_)
                  · refine lv_iconst (v := 1) hx hb dX8_compare_120 (by decide) ?_
                    refine lv_goto (tgt := 125) hx hb dX8_compare_121 (by decide) ?_
                    refine lv_istore (lv' := [(4, .int 1), (3, .int 0), (7, .int (u_5.2 (i5_12 ||| (1 <<< (x1 &&& 31))).toNatClampNeg)), (6, .int (u_5.2 (i5_12 ||| (1 <<< (x0 &&& 31))).toNatClampNeg)), (0, .ref (a 0)), (1, .int x0), (2, .int x1), (5, .int i5_12)]) hx hb dX8_compare_125 hl (by decide) rfl (fun ls hl => ?_)
                    refine lv_iinc (v := (i5_12 + 1)) (lv' := [(5, .int (i5_12 + 1)), (4, .int 1), (3, .int 0), (7, .int (u_5.2 (i5_12 ||| (1 <<< (x1 &&& 31))).toNatClampNeg)), (6, .int (u_5.2 (i5_12 ||| (1 <<< (x0 &&& 31))).toNatClampNeg)), (0, .ref (a 0)), (1, .int x0), (2, .int x1)]) hx hb dX8_compare_127 hl (k := 7) rfl rfl (by decide) rfl (fun ls hl => ?_)
                    refine lv_goto (tgt := 33) hx hb dX8_compare_130 (by decide) ?_
                    have hst : f_X8_compare_st x0 x1 u_5 i3_10 i4_11 i5_12 = .inl (0, 1, (i5_12 + 1)) := by rw [f_X8_compare_st, if_neg c_16, if_pos c_17, if_pos c_18, if_pos c_19, if_pos c_23, if_neg c_24]
                    have hmu : ((256 : Int32).toInt - ((i5_12 + 1) : Int32).toInt).toNat < ((256 : Int32).toInt - (i5_12 : Int32).toInt).toNat := mu_up c_16
                    exact ih0 0 1 (i5_12 + 1) (Nat.lt_of_lt_of_le hmu (Nat.le_of_lt_succ hlt0)) (lp_inl hst hF0) (nn_up hi0_0 c_16) _ (lv_sub hl [5, 6, 7, 2, 1, 0] rfl)
                  · refine lv_iload hx hb dX8_compare_110 (lv_at hl 1 rfl) ?_
                    refine lv_if_eq (tgt := 124) hx hb dX8_compare_112 (by decide) (fun c_25 => ?_) (fun c_25 => ?_)
                    · refine lv_iconst (v := 0) hx hb dX8_compare_124 (by decide) ?_
                      refine lv_istore (lv' := [(4, .int 0), (3, .int 0), (7, .int (u_5.2 (i5_12 ||| (1 <<< (x1 &&& 31))).toNatClampNeg)), (6, .int (u_5.2 (i5_12 ||| (1 <<< (x0 &&& 31))).toNatClampNeg)), (0, .ref (a 0)), (1, .int x0), (2, .int x1), (5, .int i5_12)]) hx hb dX8_compare_125 hl (by decide) rfl (fun ls hl => ?_)
                      refine lv_iinc (v := (i5_12 + 1)) (lv' := [(5, .int (i5_12 + 1)), (4, .int 0), (3, .int 0), (7, .int (u_5.2 (i5_12 ||| (1 <<< (x1 &&& 31))).toNatClampNeg)), (6, .int (u_5.2 (i5_12 ||| (1 <<< (x0 &&& 31))).toNatClampNeg)), (0, .ref (a 0)), (1, .int x0), (2, .int x1)]) hx hb dX8_compare_127 hl (k := 7) rfl rfl (by decide) rfl (fun ls hl => ?_)
                      refine lv_goto (tgt := 33) hx hb dX8_compare_130 (by decide) ?_
                      have hst : f_X8_compare_st x0 x1 u_5 i3_10 i4_11 i5_12 = .inl (0, 0, (i5_12 + 1)) := by rw [f_X8_compare_st, if_neg c_16, if_pos c_17, if_pos c_18, if_pos c_19, if_pos c_23, if_pos c_24, if_pos c_25]
                      have hmu : ((256 : Int32).toInt - ((i5_12 + 1) : Int32).toInt).toNat < ((256 : Int32).toInt - (i5_12 : Int32).toInt).toNat := mu_up c_16
                      exact ih0 0 0 (i5_12 + 1) (Nat.lt_of_lt_of_le hmu (Nat.le_of_lt_succ hlt0)) (lp_inl hst hF0) (nn_up hi0_0 c_16) _ (lv_sub hl [5, 6, 7, 2, 1, 0] rfl)
                    · refine lv_iload hx hb dX8_compare_115 (lv_at hl 2 rfl) ?_
                      refine lv_if_ne (tgt := 124) hx hb dX8_compare_117 (by decide) (fun h => absurd c_23 h) (fun _ => ?_)
                      refine lv_iconst (v := 1) hx hb dX8_compare_120 (by decide) ?_
                      refine lv_goto (tgt := 125) hx hb dX8_compare_121 (by decide) ?_
                      refine lv_istore (lv' := [(4, .int 1), (3, .int 0), (7, .int (u_5.2 (i5_12 ||| (1 <<< (x1 &&& 31))).toNatClampNeg)), (6, .int (u_5.2 (i5_12 ||| (1 <<< (x0 &&& 31))).toNatClampNeg)), (0, .ref (a 0)), (1, .int x0), (2, .int x1), (5, .int i5_12)]) hx hb dX8_compare_125 hl (by decide) rfl (fun ls hl => ?_)
                      refine lv_iinc (v := (i5_12 + 1)) (lv' := [(5, .int (i5_12 + 1)), (4, .int 1), (3, .int 0), (7, .int (u_5.2 (i5_12 ||| (1 <<< (x1 &&& 31))).toNatClampNeg)), (6, .int (u_5.2 (i5_12 ||| (1 <<< (x0 &&& 31))).toNatClampNeg)), (0, .ref (a 0)), (1, .int x0), (2, .int x1)]) hx hb dX8_compare_127 hl (k := 7) rfl rfl (by decide) rfl (fun ls hl => ?_)
                      refine lv_goto (tgt := 33) hx hb dX8_compare_130 (by decide) ?_
                      have hst : f_X8_compare_st x0 x1 u_5 i3_10 i4_11 i5_12 = .inl (0, 1, (i5_12 + 1)) := by rw [f_X8_compare_st, if_neg c_16, if_pos c_17, if_pos c_18, if_pos c_19, if_pos c_23, if_pos c_24, if_neg c_25]
                      have hmu : ((256 : Int32).toInt - ((i5_12 + 1) : Int32).toInt).toNat < ((256 : Int32).toInt - (i5_12 : Int32).toInt).toNat := mu_up c_16
                      exact ih0 0 1 (i5_12 + 1) (Nat.lt_of_lt_of_le hmu (Nat.le_of_lt_succ hlt0)) (lp_inl hst hF0) (nn_up hi0_0 c_16) _ (lv_sub hl [5, 6, 7, 2, 1, 0] rfl)
                · refine lv_iload hx hb dX8_compare_94 (lv_at hl 0 rfl) ?_
                  refine lv_if_ne (tgt := 103) hx hb dX8_compare_96 (by decide) (fun c_26 => ?_) (fun c_26 => ?_)
                  · refine lv_iconst (v := 0) hx hb dX8_compare_103 (by decide) ?_
                    refine lv_istore_n (lv' := [(3, .int 0), (7, .int (u_5.2 (i5_12 ||| (1 <<< (x1 &&& 31))).toNatClampNeg)), (6, .int (u_5.2 (i5_12 ||| (1 <<< (x0 &&& 31))).toNatClampNeg)), (0, .ref (a 0)), (1, .int x0), (2, .int x1), (4, .int i4_11), (5, .int i5_12)]) hx hb dX8_compare_104 rfl hl (by decide) rfl (fun ls hl => ?_)
                    refine lv_iload hx hb dX8_compare_105 (lv_at hl 6 rfl) ?_
                    refine lv_if_ne (tgt := 120) hx hb dX8_compare_107 (by decide) (fun c_27 => ?_) (fun c_27 => ?_)
                    · refine lv_iconst (v := 1) hx hb dX8_compare_120 (by decide) ?_
                      refine lv_goto (tgt := 125) hx hb dX8_compare_121 (by decide) ?_
                      refine lv_istore (lv' := [(4, .int 1), (3, .int 0), (7, .int (u_5.2 (i5_12 ||| (1 <<< (x1 &&& 31))).toNatClampNeg)), (6, .int (u_5.2 (i5_12 ||| (1 <<< (x0 &&& 31))).toNatClampNeg)), (0, .ref (a 0)), (1, .int x0), (2, .int x1), (5, .int i5_12)]) hx hb dX8_compare_125 hl (by decide) rfl (fun ls hl => ?_)
                      refine lv_iinc (v := (i5_12 + 1)) (lv' := [(5, .int (i5_12 + 1)), (4, .int 1), (3, .int 0), (7, .int (u_5.2 (i5_12 ||| (1 <<< (x1 &&& 31))).toNatClampNeg)), (6, .int (u_5.2 (i5_12 ||| (1 <<< (x0 &&& 31))).toNatClampNeg)), (0, .ref (a 0)), (1, .int x0), (2, .int x1)]) hx hb dX8_compare_127 hl (k := 7) rfl rfl (by decide) rfl (fun ls hl => ?_)
                      refine lv_goto (tgt := 33) hx hb dX8_compare_130 (by decide) ?_
                      have hst : f_X8_compare_st x0 x1 u_5 i3_10 i4_11 i5_12 = .inl (0, 1, (i5_12 + 1)) := by rw [f_X8_compare_st, if_neg c_16, if_pos c_17, if_pos c_18, if_pos c_19, if_neg c_23, if_neg c_26, if_neg c_27]
                      have hmu : ((256 : Int32).toInt - ((i5_12 + 1) : Int32).toInt).toNat < ((256 : Int32).toInt - (i5_12 : Int32).toInt).toNat := mu_up c_16
                      exact ih0 0 1 (i5_12 + 1) (Nat.lt_of_lt_of_le hmu (Nat.le_of_lt_succ hlt0)) (lp_inl hst hF0) (nn_up hi0_0 c_16) _ (lv_sub hl [5, 6, 7, 2, 1, 0] rfl)
                    · refine lv_iload hx hb dX8_compare_110 (lv_at hl 1 rfl) ?_
                      refine lv_if_eq (tgt := 124) hx hb dX8_compare_112 (by decide) (fun h => absurd h c_26) (fun _ => ?_)
                      refine lv_iload hx hb dX8_compare_115 (lv_at hl 2 rfl) ?_
                      refine lv_if_ne (tgt := 124) hx hb dX8_compare_117 (by decide) (fun _ => ?_) (fun h => absurd h c_23)
                      refine lv_iconst (v := 0) hx hb dX8_compare_124 (by decide) ?_
                      refine lv_istore (lv' := [(4, .int 0), (3, .int 0), (7, .int (u_5.2 (i5_12 ||| (1 <<< (x1 &&& 31))).toNatClampNeg)), (6, .int (u_5.2 (i5_12 ||| (1 <<< (x0 &&& 31))).toNatClampNeg)), (0, .ref (a 0)), (1, .int x0), (2, .int x1), (5, .int i5_12)]) hx hb dX8_compare_125 hl (by decide) rfl (fun ls hl => ?_)
                      refine lv_iinc (v := (i5_12 + 1)) (lv' := [(5, .int (i5_12 + 1)), (4, .int 0), (3, .int 0), (7, .int (u_5.2 (i5_12 ||| (1 <<< (x1 &&& 31))).toNatClampNeg)), (6, .int (u_5.2 (i5_12 ||| (1 <<< (x0 &&& 31))).toNatClampNeg)), (0, .ref (a 0)), (1, .int x0), (2, .int x1)]) hx hb dX8_compare_127 hl (k := 7) rfl rfl (by decide) rfl (fun ls hl => ?_)
                      refine lv_goto (tgt := 33) hx hb dX8_compare_130 (by decide) ?_
                      have hst : f_X8_compare_st x0 x1 u_5 i3_10 i4_11 i5_12 = .inl (0, 0, (i5_12 + 1)) := by rw [f_X8_compare_st, if_neg c_16, if_pos c_17, if_pos c_18, if_pos c_19, if_neg c_23, if_neg c_26, if_pos c_27]
                      have hmu : ((256 : Int32).toInt - ((i5_12 + 1) : Int32).toInt).toNat < ((256 : Int32).toInt - (i5_12 : Int32).toInt).toNat := mu_up c_16
                      exact ih0 0 0 (i5_12 + 1) (Nat.lt_of_lt_of_le hmu (Nat.le_of_lt_succ hlt0)) (lp_inl hst hF0) (nn_up hi0_0 c_16) _ (lv_sub hl [5, 6, 7, 2, 1, 0] rfl)
                  · refine lv_iconst (v := 1) hx hb dX8_compare_99 (by decide) ?_
                    refine lv_goto (tgt := 104) hx hb dX8_compare_100 (by decide) ?_
                    refine lv_istore_n (lv' := [(3, .int 1), (7, .int (u_5.2 (i5_12 ||| (1 <<< (x1 &&& 31))).toNatClampNeg)), (6, .int (u_5.2 (i5_12 ||| (1 <<< (x0 &&& 31))).toNatClampNeg)), (0, .ref (a 0)), (1, .int x0), (2, .int x1), (4, .int i4_11), (5, .int i5_12)]) hx hb dX8_compare_104 rfl hl (by decide) rfl (fun ls hl => ?_)
                    refine lv_iload hx hb dX8_compare_105 (lv_at hl 6 rfl) ?_
                    refine lv_if_ne (tgt := 120) hx hb dX8_compare_107 (by decide) (fun c_28 => ?_) (fun c_28 => ?_)
                    · refine lv_iconst (v := 1) hx hb dX8_compare_120 (by decide) ?_
                      refine lv_goto (tgt := 125) hx hb dX8_compare_121 (by decide) ?_
                      refine lv_istore (lv' := [(4, .int 1), (3, .int 1), (7, .int (u_5.2 (i5_12 ||| (1 <<< (x1 &&& 31))).toNatClampNeg)), (6, .int (u_5.2 (i5_12 ||| (1 <<< (x0 &&& 31))).toNatClampNeg)), (0, .ref (a 0)), (1, .int x0), (2, .int x1), (5, .int i5_12)]) hx hb dX8_compare_125 hl (by decide) rfl (fun ls hl => ?_)
                      refine lv_iinc (v := (i5_12 + 1)) (lv' := [(5, .int (i5_12 + 1)), (4, .int 1), (3, .int 1), (7, .int (u_5.2 (i5_12 ||| (1 <<< (x1 &&& 31))).toNatClampNeg)), (6, .int (u_5.2 (i5_12 ||| (1 <<< (x0 &&& 31))).toNatClampNeg)), (0, .ref (a 0)), (1, .int x0), (2, .int x1)]) hx hb dX8_compare_127 hl (k := 7) rfl rfl (by decide) rfl (fun ls hl => ?_)
                      refine lv_goto (tgt := 33) hx hb dX8_compare_130 (by decide) ?_
                      have hst : f_X8_compare_st x0 x1 u_5 i3_10 i4_11 i5_12 = .inl (1, 1, (i5_12 + 1)) := by rw [f_X8_compare_st, if_neg c_16, if_pos c_17, if_pos c_18, if_pos c_19, if_neg c_23, if_pos c_26, if_neg c_28]
                      have hmu : ((256 : Int32).toInt - ((i5_12 + 1) : Int32).toInt).toNat < ((256 : Int32).toInt - (i5_12 : Int32).toInt).toNat := mu_up c_16
                      exact ih0 1 1 (i5_12 + 1) (Nat.lt_of_lt_of_le hmu (Nat.le_of_lt_succ hlt0)) (lp_inl hst hF0) (nn_up hi0_0 c_16) _ (lv_sub hl [5, 6, 7, 2, 1, 0] rfl)
                    · refine lv_iload hx hb dX8_compare_110 (lv_at hl 1 rfl) ?_
                      refine lv_if_eq (tgt := 124) hx hb dX8_compare_112 (by decide) (fun _ => ?_) (fun h => absurd c_26 h)
                      refine lv_iconst (v := 0) hx hb dX8_compare_124 (by decide) ?_
                      refine lv_istore (lv' := [(4, .int 0), (3, .int 1), (7, .int (u_5.2 (i5_12 ||| (1 <<< (x1 &&& 31))).toNatClampNeg)), (6, .int (u_5.2 (i5_12 ||| (1 <<< (x0 &&& 31))).toNatClampNeg)), (0, .ref (a 0)), (1, .int x0), (2, .int x1), (5, .int i5_12)]) hx hb dX8_compare_125 hl (by decide) rfl (fun ls hl => ?_)
                      refine lv_iinc (v := (i5_12 + 1)) (lv' := [(5, .int (i5_12 + 1)), (4, .int 0), (3, .int 1), (7, .int (u_5.2 (i5_12 ||| (1 <<< (x1 &&& 31))).toNatClampNeg)), (6, .int (u_5.2 (i5_12 ||| (1 <<< (x0 &&& 31))).toNatClampNeg)), (0, .ref (a 0)), (1, .int x0), (2, .int x1)]) hx hb dX8_compare_127 hl (k := 7) rfl rfl (by decide) rfl (fun ls hl => ?_)
                      refine lv_goto (tgt := 33) hx hb dX8_compare_130 (by decide) ?_
                      have hst : f_X8_compare_st x0 x1 u_5 i3_10 i4_11 i5_12 = .inl (1, 0, (i5_12 + 1)) := by rw [f_X8_compare_st, if_neg c_16, if_pos c_17, if_pos c_18, if_pos c_19, if_neg c_23, if_pos c_26, if_pos c_28]
                      have hmu : ((256 : Int32).toInt - ((i5_12 + 1) : Int32).toInt).toNat < ((256 : Int32).toInt - (i5_12 : Int32).toInt).toNat := mu_up c_16
                      exact ih0 1 0 (i5_12 + 1) (Nat.lt_of_lt_of_le hmu (Nat.le_of_lt_succ hlt0)) (lp_inl hst hF0) (nn_up hi0_0 c_16) _ (lv_sub hl [5, 6, 7, 2, 1, 0] rfl)
    exact key (((256 : Int32).toInt - (0 : Int32).toInt).toNat + 1) 0 0 0 (Nat.lt_succ_self _) rfl (by decide) _ (lv_sub hl [3, 4, 5, 2, 1, 0] rfl)
  · refine W.eq (g2 := F0 m 7 ls [.int (f_X8_wrongTwo y7 x0 x1), .ref (a 0)]) (by rfl) ?_
    refine mu_alli (wf := fun (u_29 : Int32) => (wModE cy a y0 y1 y2 u_29 y4 y5 y6 y7 y8 y9 y10 y11 y12 y13)) (va_runV (C := RX8) (As := [.int (f_X8_wrongTwo y7 x0 x1)]) (rest := []) S (c_X8_throwsAt l D cy g B a y0 y1 y2 y3 y4 y5 y6 y7 y8 y9 y10 y11 y12 y13 (f_X8_wrongTwo y7 x0 x1)) (cwV 1 hts gX8_compare_X8_throwsAt rfl rfl rfl hd_X8_throwsAt_V ⟨Nat.le_of_ble_eq_true rfl, Nat.le_of_ble_eq_true rfl⟩) ⟨muP_blind, va_recv hK0.1 hP (ci := 6) (q0 := 0) rfl rfl, my_preA hK0 hS hAB hP hD⟩ rfl rfl hl.1 rfl (lv_room (Nat.le_of_ble_eq_true rfl)) dX8_compare_7 ⟨Nat.zero_le _, Nat.zero_le _⟩) hS hD (fun _ => by simp only [List.map_cons, List.map_nil, adrSet, adrSetE, adrPow, adrPowE, adrTxt, adrTxtE, adrSav, adrSavE, adrPCo, adrMod, adrModE]) (fun r_31 u_29 H locs hw_30 hP hD hS => ?_)
    obtain ⟨rfl, rfl⟩ : 1 = r_31 ∧ (f_X8_wrongTwo y7 x0 x1) = u_29 := my_thr_lit (thr_pos (wt_pos c_1)) hw_30
    refine lv_if_eq (tgt := 15) hx hb dX8_compare_10 (by decide) (fun h => absurd h (by decide)) (fun _ => ?_)
    refine lv_iconst (v := 0) hx hb dX8_compare_13 (by decide) ?_
    have hP : va_P D vwCl (wModE cy a y0 y1 y2 (f_X8_wrongTwo y7 x0 x1) y4 y5 y6 y7 y8 y9 y10 y11 y12 y13) H := hP
    have hD : va_D A (wModE cy a y0 y1 y2 (f_X8_wrongTwo y7 x0 x1) y4 y5 y6 y7 y8 y9 y10 y11 y12 y13) := hD
    exact W.iret hx hb hr (fun t ht hW => ⟨⟨0, ((f_X8_wrongTwo y7 x0 x1), y4, y10), rfl, (show f_X8_compare y4 y7 y10 x0 x1 = (0, ((f_X8_wrongTwo y7 x0 x1), y4, y10)) from by rw [f_X8_compare, if_neg c_1]), by show va_P D vwCl _ t.heap; rw [ht]; exact hP⟩, hS.F ht⟩) hS.2.2 dX8_compare_14
theorem hd_X8_bestQuota_S : yX8_bestQuota.cls ≠ "java/lang/invoke/MethodHandle" ∧ yX8_bestQuota.cls ≠ "java/lang/invoke/VarHandle" ∧ (parseMethodDescriptor yX8_bestQuota.desc).map (fun d => d.parameters.length) = some 1 := by decide +kernel
theorem hd_X8_bestQuota_V : yX8_bestQuota.cls = RX8 ∧ yX8_bestQuota.cls ≠ "java/lang/invoke/MethodHandle" ∧ yX8_bestQuota.cls ≠ "java/lang/invoke/VarHandle" ∧ (parseMethodDescriptor yX8_bestQuota.desc).map (fun d => d.parameters.length) = some 1 := ⟨rfl, hd_X8_bestQuota_S⟩
def f_X8_bestQuota_st (y7 : (Nat → Int32)) (x0 : Int32) (i2_8 : Int32) (i3_9 : Int32) (i4_10 : Int32) (i6_11 : Int32) (w04_12 : Int32) (w010_13 : (Nat → Int32)) : (Int32 × Int32 × Int32 × Int32 × Int32 × (Nat → Int32)) ⊕ (Int32 × Int32 × Int32 × Int32 × Int32 × (Nat → Int32)) := (if (f_X8_weightOf y7 255) < i6_11 then (.inr (i2_8, i3_9, i4_10, i6_11, w04_12, w010_13)) else (my_l (f_X8_lays y7 w010_13 i6_11) (fun (u_15 : Int32 × (Nat → Int32)) => (if ((f_X8_swings u_15.2 x0) * i4_10) ≤ (i3_9 * (f_X8_allSwings u_15.2)) then (.inl (i2_8, i3_9, i4_10, (i6_11 + 1), u_15.1, u_15.2)) else (.inl (i6_11, (f_X8_swings u_15.2 x0), (f_X8_allSwings u_15.2), (i6_11 + 1), u_15.1, u_15.2))))))
def f_X8_bestQuota (y4 : Int32) (y7 : (Nat → Int32)) (y10 : (Nat → Int32)) (x0 : Int32) : Int32 × (Int32 × Int32 × (Nat → Int32)) := (if (f_X8_isMember y7 x0) = 0 then (0, (1, y4, y10)) else (my_t6 (lp (fun (x : Int32 × Int32 × Int32 × Int32 × Int32 × (Nat → Int32)) => f_X8_bestQuota_st y7 x0 x.1 x.2.1 x.2.2.1 x.2.2.2.1 x.2.2.2.2.1 x.2.2.2.2.2) default ((((f_X8_weightOf y7 255) : Int32).toInt + 1 - (1 : Int32).toInt).toNat + 1) ((-1), 0, 1, 1, y4, y10)) (fun (i2_8 : Int32) (i3_9 : Int32) (i4_10 : Int32) (i6_11 : Int32) (w04_12 : Int32) (w010_13 : (Nat → Int32)) => (i2_8, (0, w04_12, w010_13)))))
set_option maxHeartbeats 1600000 in
set_option maxRecDepth 100000 in
theorem c_X8_bestQuota (l : Launch) (D : va_G) (cy : Nat → ClassId) (g : Nat → Nat) (B : Nat) (a : Nat → Nat) (y0 : Int32) (y1 : Int32) (y2 : Int32) (y3 : Int32) (y4 : Int32) (y5 : Int32) (y6 : Int32) (y7 : (Nat → Int32)) (y8 : (Nat → Int32)) (y9 : (Nat → Int32)) (y10 : (Nat → Int32)) (y11 : (Nat → Int32)) (y12 : (Nat → Int32)) (y13 : (Nat → Int32)) (x0 : Int32) (hm8 : ¬ 8 < (y7 0)) (hR4 : ¬ 4 < (y7 2)) (hsum : (f_X8_weightOf y7 255) < 2147483647) : Met l yX8_bestQuota wsX8_bestQuota ({ frames := 4, cells := 0, slots := 0, locals := 91 }) (muP D cy g B (wModE cy a y0 y1 y2 y3 y4 y5 y6 y7 y8 y9 y10 y11 y12 y13) [.ref (a 0), .int x0]) (va_Qi (fun (r : Int32) (u : Int32 × Int32 × (Nat → Int32)) => f_X8_bestQuota y4 y7 y10 x0 = (r, u)) (fun u t => va_P D vwCl (wModE cy a y0 y1 y2 u.1 u.2.1 y5 y6 y7 y8 y9 u.2.2 y11 y12 y13) t.heap) (muA (wModE cy a y0 y1 y2 y3 y4 y5 y6 y7 y8 y9 y10 y11 y12 y13))) 0 0 (muA (wModE cy a y0 y1 y2 y3 y4 y5 y6 y7 y8 y9 y10 y11 y12 y13)) := by
  refine Met.ofW (cc := cX8_bestQuota) (maxL := 10) (ret := (some .int)) (by decide) rfl ?_
  intro p e s m args below meth c s₁ BB hml hv
  obtain ⟨rfl, hP, hK0, hD0⟩ := hv
  have hx := BB.exec
  have hb := BB.bytes
  have hr := BB.returns
  have hts := atoms_spec (ws := wsX8_bestQuota) BB.pre
  have hown : s.vm.findClass RX8 = some m.cls := findClass_of_methodNamed BB.named
  have hlocks := BB.notSynchronized
  have S := my_fix hx hb hml hown hts
  have hAB := muB hD0
  have hD := muD hD0
  generalize hAe : muA (wModE cy a y0 y1 y2 y3 y4 y5 y6 y7 y8 y9 y10 y11 y12 y13) = A at hAB hD ⊢
  have hS : va_S A s.heap s.heap [] := va_S.rf
  have hl := lv_entry ([.ref (a 0), .int x0]) (n := 10) (Nat.le_of_ble_eq_true rfl)
  rw [lg_entry_eq]
  generalize (lg_sl ([.ref (a 0), .int x0]) ++ List.replicate (10 - (lg_sl ([.ref (a 0), .int x0])).length) Slot.unset).toArray = ls at hl ⊢
  have hl : lv_has ls 10 [(0, .ref (a 0)), (1, .int x0)] := hl
  refine lv_aload_n hx hb dX8_bestQuota_0 rfl (lv_at hl 0 rfl) ?_
  refine lv_aload_n hx hb dX8_bestQuota_1 rfl (lv_at hl 0 rfl) ?_
  refine lv_iload_n hx hb dX8_bestQuota_2 rfl (lv_at hl 1 rfl) ?_
  refine rd_goi (va_runV (C := RX8) (As := [.int x0]) (rest := [.ref (a 0)]) S (c_X8_isMember l D cy g B a y0 y1 y2 y3 y4 y5 y6 y7 y8 y9 y10 y11 y12 y13 x0) (cwV 1 hts gX8_bestQuota_X8_isMember rfl rfl rfl hd_X8_isMember_V ⟨Nat.le_of_ble_eq_true rfl, Nat.le_of_ble_eq_true rfl⟩) ⟨rdP_blind, va_recv hK0.1 hP (ci := 6) (q0 := 0) rfl rfl, my_preP hK0 hS hAB hP⟩ rfl rfl hl.1 rfl (lv_room (Nat.le_of_ble_eq_true rfl)) dX8_bestQuota_3 ⟨Nat.zero_le _, Nat.zero_le _⟩) ?_
  refine lv_if_eq (tgt := 13) hx hb dX8_bestQuota_6 (by decide) (fun c_1 => ?_) (fun c_1 => ?_)
  · refine lv_iconst (v := 1) hx hb dX8_bestQuota_13 (by decide) ?_
    refine mu_alli (wf := fun (u_2 : Int32) => (wModE cy a y0 y1 y2 u_2 y4 y5 y6 y7 y8 y9 y10 y11 y12 y13)) (va_runV (C := RX8) (As := [.int 1]) (rest := []) S (c_X8_throwsAt l D cy g B a y0 y1 y2 y3 y4 y5 y6 y7 y8 y9 y10 y11 y12 y13 1) (cwV 1 hts gX8_bestQuota_X8_throwsAt rfl rfl rfl hd_X8_throwsAt_V ⟨Nat.le_of_ble_eq_true rfl, Nat.le_of_ble_eq_true rfl⟩) ⟨muP_blind, va_recv hK0.1 hP (ci := 6) (q0 := 0) rfl rfl, my_preA hK0 hS hAB hP hD⟩ rfl rfl hl.1 rfl (lv_room (Nat.le_of_ble_eq_true rfl)) dX8_bestQuota_14 ⟨Nat.zero_le _, Nat.zero_le _⟩) hS hD (fun _ => by simp only [List.map_cons, List.map_nil, adrSet, adrSetE, adrPow, adrPowE, adrTxt, adrTxtE, adrSav, adrSavE, adrPCo, adrMod, adrModE]) (fun r_4 u_2 H locs hw_3 hP hD hS => ?_)
    obtain ⟨rfl, rfl⟩ : 1 = r_4 ∧ 1 = u_2 := my_thr_lit (k := 1) (by decide) hw_3
    refine lv_if_eq (tgt := 22) hx hb dX8_bestQuota_17 (by decide) (fun h => absurd h (by decide)) (fun _ => ?_)
    refine lv_iconst (v := 0) hx hb dX8_bestQuota_20 (by decide) ?_
    have hP : va_P D vwCl (wModE cy a y0 y1 y2 1 y4 y5 y6 y7 y8 y9 y10 y11 y12 y13) H := hP
    have hD : va_D A (wModE cy a y0 y1 y2 1 y4 y5 y6 y7 y8 y9 y10 y11 y12 y13) := hD
    exact W.iret hx hb hr (fun t ht hW => ⟨⟨0, (1, y4, y10), rfl, (show f_X8_bestQuota y4 y7 y10 x0 = (0, (1, y4, y10)) from by rw [f_X8_bestQuota, if_pos c_1]), by show va_P D vwCl _ t.heap; rw [ht]; exact hP⟩, hS.F ht⟩) hS.2.2 dX8_bestQuota_21
  · refine lv_iconst (v := 0) hx hb dX8_bestQuota_9 (by decide) ?_
    refine lv_goto (tgt := 14) hx hb dX8_bestQuota_10 (by decide) ?_
    refine mu_alli (wf := fun (u_5 : Int32) => (wModE cy a y0 y1 y2 u_5 y4 y5 y6 y7 y8 y9 y10 y11 y12 y13)) (va_runV (C := RX8) (As := [.int 0]) (rest := []) S (c_X8_throwsAt l D cy g B a y0 y1 y2 y3 y4 y5 y6 y7 y8 y9 y10 y11 y12 y13 0) (cwV 1 hts gX8_bestQuota_X8_throwsAt rfl rfl rfl hd_X8_throwsAt_V ⟨Nat.le_of_ble_eq_true rfl, Nat.le_of_ble_eq_true rfl⟩) ⟨muP_blind, va_recv hK0.1 hP (ci := 6) (q0 := 0) rfl rfl, my_preA hK0 hS hAB hP hD⟩ rfl rfl hl.1 rfl (lv_room (Nat.le_of_ble_eq_true rfl)) dX8_bestQuota_14 ⟨Nat.zero_le _, Nat.zero_le _⟩) hS hD (fun _ => by simp only [List.map_cons, List.map_nil, adrSet, adrSetE, adrPow, adrPowE, adrTxt, adrTxtE, adrSav, adrSavE, adrPCo, adrMod, adrModE]) (fun r_7 u_5 H locs hw_6 hP hD hS => ?_)
    obtain ⟨rfl, rfl⟩ : 0 = r_7 ∧ 0 = u_5 := my_thr_lit (k := 0) (by decide) hw_6
    refine lv_if_eq (tgt := 22) hx hb dX8_bestQuota_17 (by decide) (fun _ => ?_) (fun h => absurd (by decide) h)
    refine lv_iconst (v := (-1)) hx hb dX8_bestQuota_22 (by decide) ?_
    refine lv_istore_n (lv' := [(2, .int (-1)), (0, .ref (a 0)), (1, .int x0)]) hx hb dX8_bestQuota_23 rfl hl (by decide) rfl (fun ls hl => ?_)
    refine lv_iconst (v := 0) hx hb dX8_bestQuota_24 (by decide) ?_
    refine lv_istore_n (lv' := [(3, .int 0), (2, .int (-1)), (0, .ref (a 0)), (1, .int x0)]) hx hb dX8_bestQuota_25 rfl hl (by decide) rfl (fun ls hl => ?_)
    refine lv_iconst (v := 1) hx hb dX8_bestQuota_26 (by decide) ?_
    refine lv_istore (lv' := [(4, .int 1), (3, .int 0), (2, .int (-1)), (0, .ref (a 0)), (1, .int x0)]) hx hb dX8_bestQuota_27 hl (by decide) rfl (fun ls hl => ?_)
    refine lv_aload_n hx hb dX8_bestQuota_29 rfl (lv_at hl 3 rfl) ?_
    refine lv_sipush (v := 255) hx hb dX8_bestQuota_30 (by decide) ?_
    refine rd_goi (va_runV (C := RX8) (As := [.int 255]) (rest := []) S (c_X8_weightOf l D cy g B a y0 y1 y2 0 y4 y5 y6 y7 y8 y9 y10 y11 y12 y13 255 hm8) (cwV 1 hts gX8_bestQuota_X8_weightOf rfl rfl rfl hd_X8_weightOf_V ⟨Nat.le_of_ble_eq_true rfl, Nat.le_of_ble_eq_true rfl⟩) ⟨rdP_blind, va_recv hK0.1 hP (ci := 6) (q0 := 0) rfl rfl, my_preP hK0 hS hAB hP⟩ rfl rfl hl.1 rfl (lv_room (Nat.le_of_ble_eq_true rfl)) dX8_bestQuota_33 ⟨Nat.zero_le _, Nat.zero_le _⟩) ?_
    refine lv_istore (lv' := [(5, .int (f_X8_weightOf y7 255)), (4, .int 1), (3, .int 0), (2, .int (-1)), (0, .ref (a 0)), (1, .int x0)]) hx hb dX8_bestQuota_36 hl (by decide) rfl (fun ls hl => ?_)
    refine lv_iconst (v := 1) hx hb dX8_bestQuota_38 (by decide) ?_
    refine lv_istore (lv' := [(6, .int 1), (5, .int (f_X8_weightOf y7 255)), (4, .int 1), (3, .int 0), (2, .int (-1)), (0, .ref (a 0)), (1, .int x0)]) hx hb dX8_bestQuota_39 hl (by decide) rfl (fun ls hl => ?_)
    have cont0 : ∀ (i2_8 : Int32) (i3_9 : Int32) (i4_10 : Int32) (i6_11 : Int32) (w04_12 : Int32) (w010_13 : (Nat → Int32)), lp (fun (x : Int32 × Int32 × Int32 × Int32 × Int32 × (Nat → Int32)) => f_X8_bestQuota_st y7 x0 x.1 x.2.1 x.2.2.1 x.2.2.2.1 x.2.2.2.2.1 x.2.2.2.2.2) default ((((f_X8_weightOf y7 255) : Int32).toInt + 1 - (1 : Int32).toInt).toNat + 1) ((-1), 0, 1, 1, y4, y10) = (i2_8, i3_9, i4_10, i6_11, w04_12, w010_13) → ∀ (H : Heap) (locs : List Loc), va_P D vwCl (wModE cy a y0 y1 y2 0 w04_12 y5 y6 y7 y8 y9 w010_13 y11 y12 y13) H → va_D A (wModE cy a y0 y1 y2 0 w04_12 y5 y6 y7 y8 y9 w010_13 y11 y12 y13) → va_S A s.heap H locs → ∀ ls : Array Slot, lv_has ls 10 [(0, .ref (a 0)), (1, .int x0), (2, .int i2_8), (3, .int i3_9), (4, .int i4_10), (5, .int (f_X8_weightOf y7 255)), (6, .int i6_11)] → W p l e (headSpec wsX8_bestQuota ({ frames := 4, cells := 0, slots := 0, locals := 91 } : Room)).room s m ([.ref (a 0), .int x0] : List Value).toArray below meth c H locs 0 0 (MQ below (va_Qi (fun (r : Int32) (u : Int32 × Int32 × (Nat → Int32)) => f_X8_bestQuota y4 y7 y10 x0 = (r, u)) (fun u t => va_P D vwCl (wModE cy a y0 y1 y2 u.1 u.2.1 y5 y6 y7 y8 y9 u.2.2 y11 y12 y13) t.heap) A) ([.ref (a 0), .int x0] : List Value).toArray s 0 0 A) (F0 m 130 ls []) := by
      intro i2_8 i3_9 i4_10 i6_11 w04_12 w010_13 hE0 H locs hP hD hS ls hl
      refine lv_iload_n hx hb dX8_bestQuota_130 rfl (lv_at hl 2 rfl) ?_
      have hP : va_P D vwCl (wModE cy a y0 y1 y2 0 w04_12 y5 y6 y7 y8 y9 w010_13 y11 y12 y13) H := hP
      have hD : va_D A (wModE cy a y0 y1 y2 0 w04_12 y5 y6 y7 y8 y9 w010_13 y11 y12 y13) := hD
      exact W.iret hx hb hr (fun t ht hW => ⟨⟨i2_8, (0, w04_12, w010_13), rfl, (show f_X8_bestQuota y4 y7 y10 x0 = (i2_8, (0, w04_12, w010_13)) from by rw [f_X8_bestQuota, if_neg c_1, hE0, my_t6_eq]), by show va_P D vwCl _ t.heap; rw [ht]; exact hP⟩, hS.F ht⟩) hS.2.2 dX8_bestQuota_131
    have key : ∀ (nf : Nat) (i2_8 : Int32) (i3_9 : Int32) (i4_10 : Int32) (i6_11 : Int32) (w04_12 : Int32) (w010_13 : (Nat → Int32)), (((f_X8_weightOf y7 255) : Int32).toInt + 1 - (i6_11 : Int32).toInt).toNat < nf → lp (fun (x : Int32 × Int32 × Int32 × Int32 × Int32 × (Nat → Int32)) => f_X8_bestQuota_st y7 x0 x.1 x.2.1 x.2.2.1 x.2.2.2.1 x.2.2.2.2.1 x.2.2.2.2.2) default nf (i2_8, i3_9, i4_10, i6_11, w04_12, w010_13) = lp (fun (x : Int32 × Int32 × Int32 × Int32 × Int32 × (Nat → Int32)) => f_X8_bestQuota_st y7 x0 x.1 x.2.1 x.2.2.1 x.2.2.2.1 x.2.2.2.2.1 x.2.2.2.2.2) default ((((f_X8_weightOf y7 255) : Int32).toInt + 1 - (1 : Int32).toInt).toNat + 1) ((-1), 0, 1, 1, y4, y10) → ∀ (H : Heap) (locs : List Loc), va_P D vwCl (wModE cy a y0 y1 y2 0 w04_12 y5 y6 y7 y8 y9 w010_13 y11 y12 y13) H → va_D A (wModE cy a y0 y1 y2 0 w04_12 y5 y6 y7 y8 y9 w010_13 y11 y12 y13) → va_S A s.heap H locs → ∀ ls : Array Slot, lv_has ls 10 [(0, .ref (a 0)), (1, .int x0), (2, .int i2_8), (3, .int i3_9), (4, .int i4_10), (5, .int (f_X8_weightOf y7 255)), (6, .int i6_11)] → W p l e (headSpec wsX8_bestQuota ({ frames := 4, cells := 0, slots := 0, locals := 91 } : Room)).room s m ([.ref (a 0), .int x0] : List Value).toArray below meth c H locs 0 0 (MQ below (va_Qi (fun (r : Int32) (u : Int32 × Int32 × (Nat → Int32)) => f_X8_bestQuota y4 y7 y10 x0 = (r, u)) (fun u t => va_P D vwCl (wModE cy a y0 y1 y2 u.1 u.2.1 y5 y6 y7 y8 y9 u.2.2 y11 y12 y13) t.heap) A) ([.ref (a 0), .int x0] : List Value).toArray s 0 0 A) (F0 m 41 ls []) := by
      intro n0
      induction n0 with
      | zero => intro i2_8 i3_9 i4_10 i6_11 w04_12 w010_13 hlt; exact absurd hlt (Nat.not_lt_zero _)
      | succ n0 ih0 =>
        intro i2_8 i3_9 i4_10 i6_11 w04_12 w010_13 hlt0 hF0 H locs hP hD hS ls hl
        refine lv_iload hx hb dX8_bestQuota_41 (lv_at hl 6 rfl) ?_
        refine lv_iload hx hb dX8_bestQuota_43 (lv_at hl 5 rfl) ?_
        refine lv_icmp_gt (tgt := 130) hx hb dX8_bestQuota_45 (by decide) (fun c_14 => ?_) (fun c_14 => ?_)
        · have hst : f_X8_bestQuota_st y7 x0 i2_8 i3_9 i4_10 i6_11 w04_12 w010_13 = .inr (i2_8, i3_9, i4_10, i6_11, w04_12, w010_13) := by rw [f_X8_bestQuota_st, if_pos c_14]
          exact cont0 i2_8 i3_9 i4_10 i6_11 w04_12 w010_13 (lp_inr hst hF0) _ _ hP hD hS _ (lv_sub hl [0, 1, 2, 3, 4, 5, 6] rfl)
        · refine lv_aload_n hx hb dX8_bestQuota_48 rfl (lv_at hl 0 rfl) ?_
          refine lv_iload hx hb dX8_bestQuota_49 (lv_at hl 6 rfl) ?_
          refine mu_allv (wf := fun (u_15 : Int32 × (Nat → Int32)) => (wModE cy a y0 y1 y2 0 u_15.1 y5 y6 y7 y8 y9 u_15.2 y11 y12 y13)) (va_runV (C := RX8) (As := [.int i6_11]) (rest := []) S (c_X8_lays l D cy g B a y0 y1 y2 0 w04_12 y5 y6 y7 y8 y9 w010_13 y11 y12 y13 i6_11 hm8 hR4) (cwV 1 hts gX8_bestQuota_X8_lays rfl rfl rfl hd_X8_lays_V ⟨Nat.le_of_ble_eq_true rfl, Nat.le_of_ble_eq_true rfl⟩) ⟨muP_blind, va_recv hK0.1 hP (ci := 6) (q0 := 0) rfl rfl, my_preA hK0 hS hAB hP hD⟩ rfl rfl hl.1 rfl (lv_room (Nat.le_of_ble_eq_true rfl)) dX8_bestQuota_51 ⟨Nat.zero_le _, Nat.zero_le _⟩) hS hD (fun _ => by simp only [List.map_cons, List.map_nil, adrSet, adrSetE, adrPow, adrPowE, adrTxt, adrTxtE, adrSav, adrSavE, adrPCo, adrMod, adrModE]) (fun u_15 H locs hw_16 hP hD hS => ?_)
          have ha_17 : ¬ u_15.1 < 0 := lays_0 hm8 hw_16
          have ha_18 : ¬ 256 ≤ u_15.1 := lays_256 hm8 hw_16
          refine lv_aload_n hx hb dX8_bestQuota_54 rfl (lv_at hl 0 rfl) ?_
          refine lv_iload_n hx hb dX8_bestQuota_55 rfl (lv_at hl 1 rfl) ?_
          refine rd_goi (va_runV (C := RX8) (As := [.int x0]) (rest := []) S (c_X8_swings l D cy g B a y0 y1 y2 0 u_15.1 y5 y6 y7 y8 y9 u_15.2 y11 y12 y13 x0) (cwV 1 hts gX8_bestQuota_X8_swings rfl rfl rfl hd_X8_swings_V ⟨Nat.le_of_ble_eq_true rfl, Nat.le_of_ble_eq_true rfl⟩) ⟨rdP_blind, va_recv hK0.1 hP (ci := 6) (q0 := 0) rfl rfl, my_preP hK0 hS hAB hP⟩ rfl rfl hl.1 rfl (lv_room (Nat.le_of_ble_eq_true rfl)) dX8_bestQuota_56 ⟨Nat.zero_le _, Nat.zero_le _⟩) ?_
          refine lv_istore (lv' := [(7, .int (f_X8_swings u_15.2 x0)), (0, .ref (a 0)), (1, .int x0), (2, .int i2_8), (3, .int i3_9), (4, .int i4_10), (5, .int (f_X8_weightOf y7 255)), (6, .int i6_11)]) hx hb dX8_bestQuota_59 hl (by decide) rfl (fun ls hl => ?_)
          refine lv_aload_n hx hb dX8_bestQuota_61 rfl (lv_at hl 1 rfl) ?_
          refine rd_goi (va_runV (C := RX8) (As := []) (rest := []) S (c_X8_allSwings l D cy g B a y0 y1 y2 0 u_15.1 y5 y6 y7 y8 y9 u_15.2 y11 y12 y13) (cwV 0 hts gX8_bestQuota_X8_allSwings rfl rfl rfl hd_X8_allSwings_V ⟨Nat.le_of_ble_eq_true rfl, Nat.le_of_ble_eq_true rfl⟩) ⟨rdP_blind, va_recv hK0.1 hP (ci := 6) (q0 := 0) rfl rfl, my_preP hK0 hS hAB hP⟩ rfl rfl hl.1 rfl (lv_room (Nat.le_of_ble_eq_true rfl)) dX8_bestQuota_62 ⟨Nat.zero_le _, Nat.zero_le _⟩) ?_
          refine lv_istore (lv' := [(8, .int (f_X8_allSwings u_15.2)), (7, .int (f_X8_swings u_15.2 x0)), (0, .ref (a 0)), (1, .int x0), (2, .int i2_8), (3, .int i3_9), (4, .int i4_10), (5, .int (f_X8_weightOf y7 255)), (6, .int i6_11)]) hx hb dX8_bestQuota_65 hl (by decide) rfl (fun ls hl => ?_)
          refine lv_iload hx hb dX8_bestQuota_67 (lv_at hl 1 rfl) ?_
          refine lv_iload hx hb dX8_bestQuota_69 (lv_at hl 6 rfl) ?_
          refine lv_imul hx hb dX8_bestQuota_71 ?_
          refine lv_iload_n hx hb dX8_bestQuota_72 rfl (lv_at hl 5 rfl) ?_
          refine lv_iload hx hb dX8_bestQuota_73 (lv_at hl 0 rfl) ?_
          refine lv_imul hx hb dX8_bestQuota_75 ?_
          refine lv_icmp_le (tgt := 83) hx hb dX8_bestQuota_76 (by decide) (fun c_19 => ?_) (fun c_19 => ?_)
          · refine lv_iconst (v := 0) hx hb dX8_bestQuota_83 (by decide) ?_
            refine lv_istore (lv' := [(9, .int 0), (8, .int (f_X8_allSwings u_15.2)), (7, .int (f_X8_swings u_15.2 x0)), (0, .ref (a 0)), (1, .int x0), (2, .int i2_8), (3, .int i3_9), (4, .int i4_10), (5, .int (f_X8_weightOf y7 255)), (6, .int i6_11)]) hx hb dX8_bestQuota_84 hl (by decide) rfl (fun ls hl => ?_)
            refine lv_iload hx hb dX8_bestQuota_86 (lv_at hl 0 rfl) ?_
            refine lv_if_eq (tgt := 96) hx hb dX8_bestQuota_88 (by decide) (fun _ => ?_) (fun h => absurd (by decide) h)
            refine lv_iload_n hx hb dX8_bestQuota_96 rfl (lv_at hl 5 rfl) ?_
            refine lv_istore_n (lv' := [(2, .int i2_8), (9, .int 0), (8, .int (f_X8_allSwings u_15.2)), (7, .int (f_X8_swings u_15.2 x0)), (0, .ref (a 0)), (1, .int x0), (3, .int i3_9), (4, .int i4_10), (5, .int (f_X8_weightOf y7 255)), (6, .int i6_11)]) hx hb dX8_bestQuota_97 rfl hl (by decide) rfl (fun ls hl => ?_)
            refine lv_iload hx hb dX8_bestQuota_98 (lv_at hl 1 rfl) ?_
            refine lv_if_eq (tgt := 108) hx hb dX8_bestQuota_100 (by decide) (fun _ => ?_) (fun h => absurd (by decide) h)
            refine lv_iload_n hx hb dX8_bestQuota_108 rfl (lv_at hl 6 rfl) ?_
            refine lv_istore_n (lv' := [(3, .int i3_9), (2, .int i2_8), (9, .int 0), (8, .int (f_X8_allSwings u_15.2)), (7, .int (f_X8_swings u_15.2 x0)), (0, .ref (a 0)), (1, .int x0), (4, .int i4_10), (5, .int (f_X8_weightOf y7 255)), (6, .int i6_11)]) hx hb dX8_bestQuota_109 rfl hl (by decide) rfl (fun ls hl => ?_)
            refine lv_iload hx hb dX8_bestQuota_110 (lv_at hl 2 rfl) ?_
            refine lv_if_eq (tgt := 120) hx hb dX8_bestQuota_112 (by decide) (fun _ => ?_) (fun h => absurd (by decide) h)
            refine lv_iload hx hb dX8_bestQuota_120 (lv_at hl 7 rfl) ?_
            refine lv_istore (lv' := [(4, .int i4_10), (3, .int i3_9), (2, .int i2_8), (9, .int 0), (8, .int (f_X8_allSwings u_15.2)), (7, .int (f_X8_swings u_15.2 x0)), (0, .ref (a 0)), (1, .int x0), (5, .int (f_X8_weightOf y7 255)), (6, .int i6_11)]) hx hb dX8_bestQuota_122 hl (by decide) rfl (fun ls hl => ?_)
            refine lv_iinc (v := (i6_11 + 1)) (lv' := [(6, .int (i6_11 + 1)), (4, .int i4_10), (3, .int i3_9), (2, .int i2_8), (9, .int 0), (8, .int (f_X8_allSwings u_15.2)), (7, .int (f_X8_swings u_15.2 x0)), (0, .ref (a 0)), (1, .int x0), (5, .int (f_X8_weightOf y7 255))]) hx hb dX8_bestQuota_124 hl (k := 9) rfl rfl (by decide) rfl (fun ls hl => ?_)
            refine lv_goto (tgt := 41) hx hb dX8_bestQuota_127 (by decide) ?_
            have hst : f_X8_bestQuota_st y7 x0 i2_8 i3_9 i4_10 i6_11 w04_12 w010_13 = .inl (i2_8, i3_9, i4_10, (i6_11 + 1), u_15.1, u_15.2) := by rw [f_X8_bestQuota_st, if_neg c_14, hw_16, my_l_eq, if_pos c_19]
            have hmu : (((f_X8_weightOf y7 255) : Int32).toInt + 1 - ((i6_11 + 1) : Int32).toInt).toNat < (((f_X8_weightOf y7 255) : Int32).toInt + 1 - (i6_11 : Int32).toInt).toNat := mu_le c_14 hsum
            exact ih0 i2_8 i3_9 i4_10 (i6_11 + 1) u_15.1 u_15.2 (Nat.lt_of_lt_of_le hmu (Nat.le_of_lt_succ hlt0)) (lp_inl hst hF0) _ _ hP hD hS _ (lv_sub hl [7, 8, 3, 2, 1, 9, 0] rfl)
          · refine lv_iconst (v := 1) hx hb dX8_bestQuota_79 (by decide) ?_
            refine lv_goto (tgt := 84) hx hb dX8_bestQuota_80 (by decide) ?_
            refine lv_istore (lv' := [(9, .int 1), (8, .int (f_X8_allSwings u_15.2)), (7, .int (f_X8_swings u_15.2 x0)), (0, .ref (a 0)), (1, .int x0), (2, .int i2_8), (3, .int i3_9), (4, .int i4_10), (5, .int (f_X8_weightOf y7 255)), (6, .int i6_11)]) hx hb dX8_bestQuota_84 hl (by decide) rfl (fun ls hl => ?_)
            refine lv_iload hx hb dX8_bestQuota_86 (lv_at hl 0 rfl) ?_
            refine lv_if_eq (tgt := 96) hx hb dX8_bestQuota_88 (by decide) (fun h => absurd h (by decide)) (fun _ => ?_)
            refine lv_iload hx hb dX8_bestQuota_91 (lv_at hl 9 rfl) ?_
            refine lv_goto (tgt := 97) hx hb dX8_bestQuota_93 (by decide) ?_
            refine lv_istore_n (lv' := [(2, .int i6_11), (9, .int 1), (8, .int (f_X8_allSwings u_15.2)), (7, .int (f_X8_swings u_15.2 x0)), (0, .ref (a 0)), (1, .int x0), (3, .int i3_9), (4, .int i4_10), (5, .int (f_X8_weightOf y7 255)), (6, .int i6_11)]) hx hb dX8_bestQuota_97 rfl hl (by decide) rfl (fun ls hl => ?_)
            refine lv_iload hx hb dX8_bestQuota_98 (lv_at hl 1 rfl) ?_
            refine lv_if_eq (tgt := 108) hx hb dX8_bestQuota_100 (by decide) (fun h => absurd h (by decide)) (fun _ => ?_)
            refine lv_iload hx hb dX8_bestQuota_103 (lv_at hl 3 rfl) ?_
            refine lv_goto (tgt := 109) hx hb dX8_bestQuota_105 (by decide) ?_
            refine lv_istore_n (lv' := [(3, .int (f_X8_swings u_15.2 x0)), (2, .int i6_11), (9, .int 1), (8, .int (f_X8_allSwings u_15.2)), (7, .int (f_X8_swings u_15.2 x0)), (0, .ref (a 0)), (1, .int x0), (4, .int i4_10), (5, .int (f_X8_weightOf y7 255)), (6, .int i6_11)]) hx hb dX8_bestQuota_109 rfl hl (by decide) rfl (fun ls hl => ?_)
            refine lv_iload hx hb dX8_bestQuota_110 (lv_at hl 2 rfl) ?_
            refine lv_if_eq (tgt := 120) hx hb dX8_bestQuota_112 (by decide) (fun h => absurd h (by decide)) (fun _ => ?_)
            refine lv_iload hx hb dX8_bestQuota_115 (lv_at hl 3 rfl) ?_
            refine lv_goto (tgt := 122) hx hb dX8_bestQuota_117 (by decide) ?_
            refine lv_istore (lv' := [(4, .int (f_X8_allSwings u_15.2)), (3, .int (f_X8_swings u_15.2 x0)), (2, .int i6_11), (9, .int 1), (8, .int (f_X8_allSwings u_15.2)), (7, .int (f_X8_swings u_15.2 x0)), (0, .ref (a 0)), (1, .int x0), (5, .int (f_X8_weightOf y7 255)), (6, .int i6_11)]) hx hb dX8_bestQuota_122 hl (by decide) rfl (fun ls hl => ?_)
            refine lv_iinc (v := (i6_11 + 1)) (lv' := [(6, .int (i6_11 + 1)), (4, .int (f_X8_allSwings u_15.2)), (3, .int (f_X8_swings u_15.2 x0)), (2, .int i6_11), (9, .int 1), (8, .int (f_X8_allSwings u_15.2)), (7, .int (f_X8_swings u_15.2 x0)), (0, .ref (a 0)), (1, .int x0), (5, .int (f_X8_weightOf y7 255))]) hx hb dX8_bestQuota_124 hl (k := 9) rfl rfl (by decide) rfl (fun ls hl => ?_)
            refine lv_goto (tgt := 41) hx hb dX8_bestQuota_127 (by decide) ?_
            have hst : f_X8_bestQuota_st y7 x0 i2_8 i3_9 i4_10 i6_11 w04_12 w010_13 = .inl (i6_11, (f_X8_swings u_15.2 x0), (f_X8_allSwings u_15.2), (i6_11 + 1), u_15.1, u_15.2) := by rw [f_X8_bestQuota_st, if_neg c_14, hw_16, my_l_eq, if_neg c_19]
            have hmu : (((f_X8_weightOf y7 255) : Int32).toInt + 1 - ((i6_11 + 1) : Int32).toInt).toNat < (((f_X8_weightOf y7 255) : Int32).toInt + 1 - (i6_11 : Int32).toInt).toNat := mu_le c_14 hsum
            exact ih0 i6_11 (f_X8_swings u_15.2 x0) (f_X8_allSwings u_15.2) (i6_11 + 1) u_15.1 u_15.2 (Nat.lt_of_lt_of_le hmu (Nat.le_of_lt_succ hlt0)) (lp_inl hst hF0) _ _ hP hD hS _ (lv_sub hl [7, 8, 3, 2, 1, 9, 0] rfl)
    exact key ((((f_X8_weightOf y7 255) : Int32).toInt + 1 - (1 : Int32).toInt).toNat + 1) (-1) 0 1 1 y4 y10 (Nat.lt_succ_self _) rfl _ _ hP hD hS _ (lv_sub hl [5, 6, 4, 3, 2, 1, 0] rfl)
theorem hd_X8_leastWeight_S : yX8_leastWeight.cls ≠ "java/lang/invoke/MethodHandle" ∧ yX8_leastWeight.cls ≠ "java/lang/invoke/VarHandle" ∧ (parseMethodDescriptor yX8_leastWeight.desc).map (fun d => d.parameters.length) = some 1 := by decide +kernel
theorem hd_X8_leastWeight_V : yX8_leastWeight.cls = RX8 ∧ yX8_leastWeight.cls ≠ "java/lang/invoke/MethodHandle" ∧ yX8_leastWeight.cls ≠ "java/lang/invoke/VarHandle" ∧ (parseMethodDescriptor yX8_leastWeight.desc).map (fun d => d.parameters.length) = some 1 := ⟨rfl, hd_X8_leastWeight_S⟩
def f_X8_leastWeight_st (x0 : Int32) (i3_8 : Int32) (i4_9 : Int32) (w04_10 : Int32) (w07_11 : (Nat → Int32)) (w010_12 : (Nat → Int32)) : (Int32 × Int32 × Int32 × (Nat → Int32) × (Nat → Int32)) ⊕ (Int32 × Int32 × Int32 × (Nat → Int32) × (Nat → Int32)) := (if 50 < i4_9 then (.inr (i3_8, i4_9, w04_10, w07_11, w010_12)) else (if i3_8 = (-1) then (if (f_X8_isPlayer w07_11 x0) = 0 then (.inr (i3_8, i4_9, w04_10, w07_11, w010_12)) else (my_l (f_X8_lays (upd w07_11 (3 + x0).toNatClampNeg i4_9) w010_12 (w07_11 1)) (fun (u_16 : Int32 × (Nat → Int32)) => (if (f_X8_swings u_16.2 x0) ≤ 0 then (.inl ((-1), (i4_9 + 1), u_16.1, (upd w07_11 (3 + x0).toNatClampNeg i4_9), u_16.2)) else (.inl (i4_9, (i4_9 + 1), u_16.1, (upd w07_11 (3 + x0).toNatClampNeg i4_9), u_16.2)))))) else (.inr (i3_8, i4_9, w04_10, w07_11, w010_12))))
def f_X8_leastWeight (y4 : Int32) (y7 : (Nat → Int32)) (y10 : (Nat → Int32)) (x0 : Int32) : Int32 × (Int32 × Int32 × (Nat → Int32) × (Nat → Int32)) := (if (f_X8_isMember y7 x0) = 0 then (0, (1, y4, y7, y10)) else (my_t5 (lp (fun (x : Int32 × Int32 × Int32 × (Nat → Int32) × (Nat → Int32)) => f_X8_leastWeight_st x0 x.1 x.2.1 x.2.2.1 x.2.2.2.1 x.2.2.2.2) default (((50 : Int32).toInt + 1 - (0 : Int32).toInt).toNat + 1) ((-1), 0, y4, y7, y10)) (fun (i3_8 : Int32) (i4_9 : Int32) (w04_10 : Int32) (w07_11 : (Nat → Int32)) (w010_12 : (Nat → Int32)) => (i3_8, (0, w04_10, (upd w07_11 (3 + x0).toNatClampNeg (y7 (3 + x0).toNatClampNeg)), w010_12)))))
set_option maxHeartbeats 1600000 in
set_option maxRecDepth 100000 in
theorem c_X8_leastWeight (l : Launch) (D : va_G) (cy : Nat → ClassId) (g : Nat → Nat) (B : Nat) (a : Nat → Nat) (y0 : Int32) (y1 : Int32) (y2 : Int32) (y3 : Int32) (y4 : Int32) (y5 : Int32) (y6 : Int32) (y7 : (Nat → Int32)) (y8 : (Nat → Int32)) (y9 : (Nat → Int32)) (y10 : (Nat → Int32)) (y11 : (Nat → Int32)) (y12 : (Nat → Int32)) (y13 : (Nat → Int32)) (x0 : Int32) (hm8 : ¬ 8 < (y7 0)) (hR4 : ¬ 4 < (y7 2)) : Met l yX8_leastWeight wsX8_leastWeight ({ frames := 4, cells := 0, slots := 0, locals := 91 }) (muP D cy g B (wModE cy a y0 y1 y2 y3 y4 y5 y6 y7 y8 y9 y10 y11 y12 y13) [.ref (a 0), .int x0]) (va_Qi (fun (r : Int32) (u : Int32 × Int32 × (Nat → Int32) × (Nat → Int32)) => f_X8_leastWeight y4 y7 y10 x0 = (r, u)) (fun u t => va_P D vwCl (wModE cy a y0 y1 y2 u.1 u.2.1 y5 y6 u.2.2.1 y8 y9 u.2.2.2 y11 y12 y13) t.heap) (muA (wModE cy a y0 y1 y2 y3 y4 y5 y6 y7 y8 y9 y10 y11 y12 y13))) 0 0 (muA (wModE cy a y0 y1 y2 y3 y4 y5 y6 y7 y8 y9 y10 y11 y12 y13)) := by
  refine Met.ofW (cc := cX8_leastWeight) (maxL := 5) (ret := (some .int)) (by decide) rfl ?_
  intro p e s m args below meth c s₁ BB hml hv
  obtain ⟨rfl, hP, hK0, hD0⟩ := hv
  have hx := BB.exec
  have hb := BB.bytes
  have hr := BB.returns
  have hts := atoms_spec (ws := wsX8_leastWeight) BB.pre
  have hown : s.vm.findClass RX8 = some m.cls := findClass_of_methodNamed BB.named
  have hlocks := BB.notSynchronized
  have S := my_fix hx hb hml hown hts
  have inX8 : ∀ w ∈ wsX80, w ∈ wsX8_leastWeight := fun w h => List.mem_cons_of_mem _ (List.mem_append_right _ h)
  have hAB := muB hD0
  have hD := muD hD0
  generalize hAe : muA (wModE cy a y0 y1 y2 y3 y4 y5 y6 y7 y8 y9 y10 y11 y12 y13) = A at hAB hD ⊢
  have hS : va_S A s.heap s.heap [] := va_S.rf
  have hl := lv_entry ([.ref (a 0), .int x0]) (n := 5) (Nat.le_of_ble_eq_true rfl)
  rw [lg_entry_eq]
  generalize (lg_sl ([.ref (a 0), .int x0]) ++ List.replicate (5 - (lg_sl ([.ref (a 0), .int x0])).length) Slot.unset).toArray = ls at hl ⊢
  have hl : lv_has ls 5 [(0, .ref (a 0)), (1, .int x0)] := hl
  refine lv_aload_n hx hb dX8_leastWeight_0 rfl (lv_at hl 0 rfl) ?_
  refine lv_aload_n hx hb dX8_leastWeight_1 rfl (lv_at hl 0 rfl) ?_
  refine lv_iload_n hx hb dX8_leastWeight_2 rfl (lv_at hl 1 rfl) ?_
  refine rd_goi (va_runV (C := RX8) (As := [.int x0]) (rest := [.ref (a 0)]) S (c_X8_isMember l D cy g B a y0 y1 y2 y3 y4 y5 y6 y7 y8 y9 y10 y11 y12 y13 x0) (cwV 1 hts gX8_leastWeight_X8_isMember rfl rfl rfl hd_X8_isMember_V ⟨Nat.le_of_ble_eq_true rfl, Nat.le_of_ble_eq_true rfl⟩) ⟨rdP_blind, va_recv hK0.1 hP (ci := 6) (q0 := 0) rfl rfl, my_preP hK0 hS hAB hP⟩ rfl rfl hl.1 rfl (lv_room (Nat.le_of_ble_eq_true rfl)) dX8_leastWeight_3 ⟨Nat.zero_le _, Nat.zero_le _⟩) ?_
  refine lv_if_eq (tgt := 13) hx hb dX8_leastWeight_6 (by decide) (fun c_1 => ?_) (fun c_1 => ?_)
  · refine lv_iconst (v := 1) hx hb dX8_leastWeight_13 (by decide) ?_
    refine mu_alli (wf := fun (u_2 : Int32) => (wModE cy a y0 y1 y2 u_2 y4 y5 y6 y7 y8 y9 y10 y11 y12 y13)) (va_runV (C := RX8) (As := [.int 1]) (rest := []) S (c_X8_throwsAt l D cy g B a y0 y1 y2 y3 y4 y5 y6 y7 y8 y9 y10 y11 y12 y13 1) (cwV 1 hts gX8_leastWeight_X8_throwsAt rfl rfl rfl hd_X8_throwsAt_V ⟨Nat.le_of_ble_eq_true rfl, Nat.le_of_ble_eq_true rfl⟩) ⟨muP_blind, va_recv hK0.1 hP (ci := 6) (q0 := 0) rfl rfl, my_preA hK0 hS hAB hP hD⟩ rfl rfl hl.1 rfl (lv_room (Nat.le_of_ble_eq_true rfl)) dX8_leastWeight_14 ⟨Nat.zero_le _, Nat.zero_le _⟩) hS hD (fun _ => by simp only [List.map_cons, List.map_nil, adrSet, adrSetE, adrPow, adrPowE, adrTxt, adrTxtE, adrSav, adrSavE, adrPCo, adrMod, adrModE]) (fun r_4 u_2 H locs hw_3 hP hD hS => ?_)
    obtain ⟨rfl, rfl⟩ : 1 = r_4 ∧ 1 = u_2 := my_thr_lit (k := 1) (by decide) hw_3
    refine lv_if_eq (tgt := 22) hx hb dX8_leastWeight_17 (by decide) (fun h => absurd h (by decide)) (fun _ => ?_)
    refine lv_iconst (v := 0) hx hb dX8_leastWeight_20 (by decide) ?_
    have hP : va_P D vwCl (wModE cy a y0 y1 y2 1 y4 y5 y6 y7 y8 y9 y10 y11 y12 y13) H := hP
    have hD : va_D A (wModE cy a y0 y1 y2 1 y4 y5 y6 y7 y8 y9 y10 y11 y12 y13) := hD
    exact W.iret hx hb hr (fun t ht hW => ⟨⟨0, (1, y4, y7, y10), rfl, (show f_X8_leastWeight y4 y7 y10 x0 = (0, (1, y4, y7, y10)) from by rw [f_X8_leastWeight, if_pos c_1]), by show va_P D vwCl _ t.heap; rw [ht]; exact hP⟩, hS.F ht⟩) hS.2.2 dX8_leastWeight_21
  · refine lv_iconst (v := 0) hx hb dX8_leastWeight_9 (by decide) ?_
    refine lv_goto (tgt := 14) hx hb dX8_leastWeight_10 (by decide) ?_
    refine mu_alli (wf := fun (u_5 : Int32) => (wModE cy a y0 y1 y2 u_5 y4 y5 y6 y7 y8 y9 y10 y11 y12 y13)) (va_runV (C := RX8) (As := [.int 0]) (rest := []) S (c_X8_throwsAt l D cy g B a y0 y1 y2 y3 y4 y5 y6 y7 y8 y9 y10 y11 y12 y13 0) (cwV 1 hts gX8_leastWeight_X8_throwsAt rfl rfl rfl hd_X8_throwsAt_V ⟨Nat.le_of_ble_eq_true rfl, Nat.le_of_ble_eq_true rfl⟩) ⟨muP_blind, va_recv hK0.1 hP (ci := 6) (q0 := 0) rfl rfl, my_preA hK0 hS hAB hP hD⟩ rfl rfl hl.1 rfl (lv_room (Nat.le_of_ble_eq_true rfl)) dX8_leastWeight_14 ⟨Nat.zero_le _, Nat.zero_le _⟩) hS hD (fun _ => by simp only [List.map_cons, List.map_nil, adrSet, adrSetE, adrPow, adrPowE, adrTxt, adrTxtE, adrSav, adrSavE, adrPCo, adrMod, adrModE]) (fun r_7 u_5 H locs hw_6 hP hD hS => ?_)
    obtain ⟨rfl, rfl⟩ : 0 = r_7 ∧ 0 = u_5 := my_thr_lit (k := 0) (by decide) hw_6
    refine lv_if_eq (tgt := 22) hx hb dX8_leastWeight_17 (by decide) (fun _ => ?_) (fun h => absurd (by decide) h)
    refine lv_aload_n hx hb dX8_leastWeight_22 rfl (lv_at hl 0 rfl) ?_
    refine va_get (D := D) (ci := 6) (v := .ref (a 1)) (C := RX8) (T := TX8) (N := 14) hx hb hts inX8 hown hK0.1 hP 0 rfl rfl 0 (by decide) (hts (.fieldLink RX8 7 "PivotChamberModel" "s" "[I") (List.mem_of_getElem? (i := 1) rfl)) (fun _ h9 => h9) rfl dX8_leastWeight_23 ?_
    refine lv_iconst (v := 3) hx hb dX8_leastWeight_26 (by decide) ?_
    refine lv_iload_n hx hb dX8_leastWeight_27 rfl (lv_at hl 1 rfl) ?_
    refine lv_iadd hx hb dX8_leastWeight_28 ?_
    refine va_iald hx hb hK0.1 hP 1 0 rfl rfl (ix_loop (K := 8) (N := 27) (im_0 c_1) (Int32.not_le.mpr (im_1 c_1)) hm8 (by decide)) dX8_leastWeight_29 ?_
    refine lv_istore_n (lv' := [(2, .int (y7 (3 + x0).toNatClampNeg)), (0, .ref (a 0)), (1, .int x0)]) hx hb dX8_leastWeight_30 rfl hl (by decide) rfl (fun ls hl => ?_)
    refine lv_iconst (v := (-1)) hx hb dX8_leastWeight_31 (by decide) ?_
    refine lv_istore_n (lv' := [(3, .int (-1)), (2, .int (y7 (3 + x0).toNatClampNeg)), (0, .ref (a 0)), (1, .int x0)]) hx hb dX8_leastWeight_32 rfl hl (by decide) rfl (fun ls hl => ?_)
    refine lv_iconst (v := 0) hx hb dX8_leastWeight_33 (by decide) ?_
    refine lv_istore (lv' := [(4, .int 0), (3, .int (-1)), (2, .int (y7 (3 + x0).toNatClampNeg)), (0, .ref (a 0)), (1, .int x0)]) hx hb dX8_leastWeight_34 hl (by decide) rfl (fun ls hl => ?_)
    have cont0 : ∀ (i3_8 : Int32) (i4_9 : Int32) (w04_10 : Int32) (w07_11 : (Nat → Int32)) (w010_12 : (Nat → Int32)), lp (fun (x : Int32 × Int32 × Int32 × (Nat → Int32) × (Nat → Int32)) => f_X8_leastWeight_st x0 x.1 x.2.1 x.2.2.1 x.2.2.2.1 x.2.2.2.2) default (((50 : Int32).toInt + 1 - (0 : Int32).toInt).toNat + 1) ((-1), 0, y4, y7, y10) = (i3_8, i4_9, w04_10, w07_11, w010_12) → ¬ 8 < (w07_11 0) → ¬ 4 < (w07_11 2) → ∀ (H : Heap) (locs : List Loc), va_P D vwCl (wModE cy a y0 y1 y2 0 w04_10 y5 y6 w07_11 y8 y9 w010_12 y11 y12 y13) H → va_D A (wModE cy a y0 y1 y2 0 w04_10 y5 y6 w07_11 y8 y9 w010_12 y11 y12 y13) → va_S A s.heap H locs → ∀ ls : Array Slot, lv_has ls 5 [(0, .ref (a 0)), (1, .int x0), (2, .int (y7 (3 + x0).toNatClampNeg)), (3, .int i3_8), (4, .int i4_9)] → W p l e (headSpec wsX8_leastWeight ({ frames := 4, cells := 0, slots := 0, locals := 91 } : Room)).room s m ([.ref (a 0), .int x0] : List Value).toArray below meth c H locs 0 0 (MQ below (va_Qi (fun (r : Int32) (u : Int32 × Int32 × (Nat → Int32) × (Nat → Int32)) => f_X8_leastWeight y4 y7 y10 x0 = (r, u)) (fun u t => va_P D vwCl (wModE cy a y0 y1 y2 u.1 u.2.1 y5 y6 u.2.2.1 y8 y9 u.2.2.2 y11 y12 y13) t.heap) A) ([.ref (a 0), .int x0] : List Value).toArray s 0 0 A) (F0 m 97 ls []) := by
      intro i3_8 i4_9 w04_10 w07_11 w010_12 hE0 hj0_0 hj0_1 H locs hP hD hS ls hl
      refine lv_aload_n hx hb dX8_leastWeight_97 rfl (lv_at hl 0 rfl) ?_
      refine va_get (D := D) (ci := 6) (v := .ref (a 1)) (C := RX8) (T := TX8) (N := 14) hx hb hts inX8 hown hK0.1 hP 0 rfl rfl 0 (by decide) (hts (.fieldLink RX8 7 "PivotChamberModel" "s" "[I") (List.mem_of_getElem? (i := 1) rfl)) (fun _ h9 => h9) rfl dX8_leastWeight_98 ?_
      refine lv_iconst (v := 3) hx hb dX8_leastWeight_101 (by decide) ?_
      refine lv_iload_n hx hb dX8_leastWeight_102 rfl (lv_at hl 1 rfl) ?_
      refine lv_iadd hx hb dX8_leastWeight_103 ?_
      refine lv_iload_n hx hb dX8_leastWeight_104 rfl (lv_at hl 2 rfl) ?_
      refine va_iast hx hb hK0.1 hP hD hS 1 0 rfl rfl (ix_loop (K := 8) (N := 27) (im_0 c_1) (Int32.not_le.mpr (im_1 c_1)) hm8 (by decide)) dX8_leastWeight_105 (fun H locs hP hD hS => ?_)
      have hP : va_P D vwCl (wModE cy a y0 y1 y2 0 w04_10 y5 y6 (upd w07_11 (3 + x0).toNatClampNeg (y7 (3 + x0).toNatClampNeg)) y8 y9 w010_12 y11 y12 y13) H := hP
      have hD : va_D A (wModE cy a y0 y1 y2 0 w04_10 y5 y6 (upd w07_11 (3 + x0).toNatClampNeg (y7 (3 + x0).toNatClampNeg)) y8 y9 w010_12 y11 y12 y13) := hD
      refine lv_iload_n hx hb dX8_leastWeight_106 rfl (lv_at hl 3 rfl) ?_
      have hP : va_P D vwCl (wModE cy a y0 y1 y2 0 w04_10 y5 y6 (upd w07_11 (3 + x0).toNatClampNeg (y7 (3 + x0).toNatClampNeg)) y8 y9 w010_12 y11 y12 y13) H := hP
      have hD : va_D A (wModE cy a y0 y1 y2 0 w04_10 y5 y6 (upd w07_11 (3 + x0).toNatClampNeg (y7 (3 + x0).toNatClampNeg)) y8 y9 w010_12 y11 y12 y13) := hD
      exact W.iret hx hb hr (fun t ht hW => ⟨⟨i3_8, (0, w04_10, (upd w07_11 (3 + x0).toNatClampNeg (y7 (3 + x0).toNatClampNeg)), w010_12), rfl, (show f_X8_leastWeight y4 y7 y10 x0 = (i3_8, (0, w04_10, (upd w07_11 (3 + x0).toNatClampNeg (y7 (3 + x0).toNatClampNeg)), w010_12)) from by rw [f_X8_leastWeight, if_neg c_1, hE0, my_t5_eq]), by show va_P D vwCl _ t.heap; rw [ht]; exact hP⟩, hS.F ht⟩) hS.2.2 dX8_leastWeight_107
    have key : ∀ (nf : Nat) (i3_8 : Int32) (i4_9 : Int32) (w04_10 : Int32) (w07_11 : (Nat → Int32)) (w010_12 : (Nat → Int32)), ((50 : Int32).toInt + 1 - (i4_9 : Int32).toInt).toNat < nf → lp (fun (x : Int32 × Int32 × Int32 × (Nat → Int32) × (Nat → Int32)) => f_X8_leastWeight_st x0 x.1 x.2.1 x.2.2.1 x.2.2.2.1 x.2.2.2.2) default nf (i3_8, i4_9, w04_10, w07_11, w010_12) = lp (fun (x : Int32 × Int32 × Int32 × (Nat → Int32) × (Nat → Int32)) => f_X8_leastWeight_st x0 x.1 x.2.1 x.2.2.1 x.2.2.2.1 x.2.2.2.2) default (((50 : Int32).toInt + 1 - (0 : Int32).toInt).toNat + 1) ((-1), 0, y4, y7, y10) → ¬ 8 < (w07_11 0) → ¬ 4 < (w07_11 2) → ∀ (H : Heap) (locs : List Loc), va_P D vwCl (wModE cy a y0 y1 y2 0 w04_10 y5 y6 w07_11 y8 y9 w010_12 y11 y12 y13) H → va_D A (wModE cy a y0 y1 y2 0 w04_10 y5 y6 w07_11 y8 y9 w010_12 y11 y12 y13) → va_S A s.heap H locs → ∀ ls : Array Slot, lv_has ls 5 [(0, .ref (a 0)), (1, .int x0), (2, .int (y7 (3 + x0).toNatClampNeg)), (3, .int i3_8), (4, .int i4_9)] → W p l e (headSpec wsX8_leastWeight ({ frames := 4, cells := 0, slots := 0, locals := 91 } : Room)).room s m ([.ref (a 0), .int x0] : List Value).toArray below meth c H locs 0 0 (MQ below (va_Qi (fun (r : Int32) (u : Int32 × Int32 × (Nat → Int32) × (Nat → Int32)) => f_X8_leastWeight y4 y7 y10 x0 = (r, u)) (fun u t => va_P D vwCl (wModE cy a y0 y1 y2 u.1 u.2.1 y5 y6 u.2.2.1 y8 y9 u.2.2.2 y11 y12 y13) t.heap) A) ([.ref (a 0), .int x0] : List Value).toArray s 0 0 A) (F0 m 36 ls []) := by
      intro n0
      induction n0 with
      | zero => intro i3_8 i4_9 w04_10 w07_11 w010_12 hlt; exact absurd hlt (Nat.not_lt_zero _)
      | succ n0 ih0 =>
        intro i3_8 i4_9 w04_10 w07_11 w010_12 hlt0 hF0 hi0_0 hi0_1 H locs hP hD hS ls hl
        refine lv_iload hx hb dX8_leastWeight_36 (lv_at hl 4 rfl) ?_
        refine lv_bipush (v := 50) hx hb dX8_leastWeight_38 (by decide) ?_
        refine lv_icmp_gt (tgt := 97) hx hb dX8_leastWeight_40 (by decide) (fun c_13 => ?_) (fun c_13 => ?_)
        · have hst : f_X8_leastWeight_st x0 i3_8 i4_9 w04_10 w07_11 w010_12 = .inr (i3_8, i4_9, w04_10, w07_11, w010_12) := by rw [f_X8_leastWeight_st, if_pos c_13]
          exact cont0 i3_8 i4_9 w04_10 w07_11 w010_12 (lp_inr hst hF0) hi0_0 hi0_1 _ _ hP hD hS _ (lv_sub hl [0, 1, 2, 3, 4] rfl)
        · refine lv_iload_n hx hb dX8_leastWeight_43 rfl (lv_at hl 3 rfl) ?_
          refine lv_iconst (v := (-1)) hx hb dX8_leastWeight_44 (by decide) ?_
          refine lv_icmp_ne (tgt := 97) hx hb dX8_leastWeight_45 (by decide) (fun c_14 => ?_) (fun c_14 => ?_)
          · have hst : f_X8_leastWeight_st x0 i3_8 i4_9 w04_10 w07_11 w010_12 = .inr (i3_8, i4_9, w04_10, w07_11, w010_12) := by rw [f_X8_leastWeight_st, if_neg c_13, if_neg c_14]
            exact cont0 i3_8 i4_9 w04_10 w07_11 w010_12 (lp_inr hst hF0) hi0_0 hi0_1 _ _ hP hD hS _ (lv_sub hl [0, 1, 2, 3, 4] rfl)
          · refine lv_aload_n hx hb dX8_leastWeight_48 rfl (lv_at hl 0 rfl) ?_
            refine lv_iload_n hx hb dX8_leastWeight_49 rfl (lv_at hl 1 rfl) ?_
            refine rd_goi (va_runV (C := RX8) (As := [.int x0]) (rest := []) S (c_X8_isPlayer l D cy g B a y0 y1 y2 0 w04_10 y5 y6 w07_11 y8 y9 w010_12 y11 y12 y13 x0 hi0_0) (cwV 1 hts gX8_leastWeight_X8_isPlayer rfl rfl rfl hd_X8_isPlayer_V ⟨Nat.le_of_ble_eq_true rfl, Nat.le_of_ble_eq_true rfl⟩) ⟨rdP_blind, va_recv hK0.1 hP (ci := 6) (q0 := 0) rfl rfl, my_preP hK0 hS hAB hP⟩ rfl rfl hl.1 rfl (lv_room (Nat.le_of_ble_eq_true rfl)) dX8_leastWeight_50 ⟨Nat.zero_le _, Nat.zero_le _⟩) ?_
            refine lv_if_eq (tgt := 97) hx hb dX8_leastWeight_53 (by decide) (fun c_15 => ?_) (fun c_15 => ?_)
            · have hst : f_X8_leastWeight_st x0 i3_8 i4_9 w04_10 w07_11 w010_12 = .inr (i3_8, i4_9, w04_10, w07_11, w010_12) := by rw [f_X8_leastWeight_st, if_neg c_13, if_pos c_14, if_pos c_15]
              exact cont0 i3_8 i4_9 w04_10 w07_11 w010_12 (lp_inr hst hF0) hi0_0 hi0_1 _ _ hP hD hS _ (lv_sub hl [0, 1, 2, 3, 4] rfl)
            · refine lv_aload_n hx hb dX8_leastWeight_56 rfl (lv_at hl 0 rfl) ?_
              refine va_get (D := D) (ci := 6) (v := .ref (a 1)) (C := RX8) (T := TX8) (N := 14) hx hb hts inX8 hown hK0.1 hP 0 rfl rfl 0 (by decide) (hts (.fieldLink RX8 7 "PivotChamberModel" "s" "[I") (List.mem_of_getElem? (i := 1) rfl)) (fun _ h9 => h9) rfl dX8_leastWeight_57 ?_
              refine lv_iconst (v := 3) hx hb dX8_leastWeight_60 (by decide) ?_
              refine lv_iload_n hx hb dX8_leastWeight_61 rfl (lv_at hl 1 rfl) ?_
              refine lv_iadd hx hb dX8_leastWeight_62 ?_
              refine lv_iload hx hb dX8_leastWeight_63 (lv_at hl 4 rfl) ?_
              refine va_iast hx hb hK0.1 hP hD hS 1 0 rfl rfl (ix_loop (K := 8) (N := 27) (ip_0 c_15) (Int32.not_le.mpr (im_1 c_1)) hm8 (by decide)) dX8_leastWeight_65 (fun H locs hP hD hS => ?_)
              have hP : va_P D vwCl (wModE cy a y0 y1 y2 0 w04_10 y5 y6 (upd w07_11 (3 + x0).toNatClampNeg i4_9) y8 y9 w010_12 y11 y12 y13) H := hP
              have hD : va_D A (wModE cy a y0 y1 y2 0 w04_10 y5 y6 (upd w07_11 (3 + x0).toNatClampNeg i4_9) y8 y9 w010_12 y11 y12 y13) := hD
              refine lv_aload_n hx hb dX8_leastWeight_66 rfl (lv_at hl 0 rfl) ?_
              refine lv_aload_n hx hb dX8_leastWeight_67 rfl (lv_at hl 0 rfl) ?_
              refine va_get (D := D) (ci := 6) (v := .ref (a 1)) (C := RX8) (T := TX8) (N := 14) hx hb hts inX8 hown hK0.1 hP 0 rfl rfl 0 (by decide) (hts (.fieldLink RX8 7 "PivotChamberModel" "s" "[I") (List.mem_of_getElem? (i := 1) rfl)) (fun _ h9 => h9) rfl dX8_leastWeight_68 ?_
              refine lv_iconst (v := 1) hx hb dX8_leastWeight_71 (by decide) ?_
              refine va_iald hx hb hK0.1 hP 1 0 rfl rfl (vp_in_nI (n := 1) (N := 27) (by decide) (by decide)) dX8_leastWeight_72 ?_
              refine W.eq (g2 := F0 m 73 ls [.int ((upd w07_11 (3 + x0).toNatClampNeg i4_9) 1), .ref (a 0)]) rfl ?_
              refine W.eq (g2 := F0 m 73 ls [.int (w07_11 1), .ref (a 0)]) (by rw [upd_lo (N := 27) (ip_0 c_15) (ix_loop (K := 8) (N := 27) (ip_0 c_15) (Int32.not_le.mpr (im_1 c_1)) hm8 (by decide)) (by decide) (by decide)]) ?_
              refine mu_allv (wf := fun (u_16 : Int32 × (Nat → Int32)) => (wModE cy a y0 y1 y2 0 u_16.1 y5 y6 (upd w07_11 (3 + x0).toNatClampNeg i4_9) y8 y9 u_16.2 y11 y12 y13)) (va_runV (C := RX8) (As := [.int (w07_11 1)]) (rest := []) S (c_X8_lays l D cy g B a y0 y1 y2 0 w04_10 y5 y6 (upd w07_11 (3 + x0).toNatClampNeg i4_9) y8 y9 w010_12 y11 y12 y13 (w07_11 1) (by rw [upd_lo (N := 27) (ip_0 c_15) (ix_loop (K := 8) (N := 27) (ip_0 c_15) (Int32.not_le.mpr (im_1 c_1)) hm8 (by decide)) (by decide) (by decide)]; exact hi0_0) (by rw [upd_lo (N := 27) (ip_0 c_15) (ix_loop (K := 8) (N := 27) (ip_0 c_15) (Int32.not_le.mpr (im_1 c_1)) hm8 (by decide)) (by decide) (by decide)]; exact hi0_1)) (cwV 1 hts gX8_leastWeight_X8_lays rfl rfl rfl hd_X8_lays_V ⟨Nat.le_of_ble_eq_true rfl, Nat.le_of_ble_eq_true rfl⟩) ⟨muP_blind, va_recv hK0.1 hP (ci := 6) (q0 := 0) rfl rfl, my_preA hK0 hS hAB hP hD⟩ rfl rfl hl.1 rfl (lv_room (Nat.le_of_ble_eq_true rfl)) dX8_leastWeight_73 ⟨Nat.zero_le _, Nat.zero_le _⟩) hS hD (fun _ => by simp only [List.map_cons, List.map_nil, adrSet, adrSetE, adrPow, adrPowE, adrTxt, adrTxtE, adrSav, adrSavE, adrPCo, adrMod, adrModE]) (fun u_16 H locs hw_17 hP hD hS => ?_)
              have ha_18 : ¬ u_16.1 < 0 := lays_0 (by rw [upd_lo (N := 27) (ip_0 c_15) (ix_loop (K := 8) (N := 27) (ip_0 c_15) (Int32.not_le.mpr (im_1 c_1)) hm8 (by decide)) (by decide) (by decide)]; exact hi0_0) hw_17
              have ha_19 : ¬ 256 ≤ u_16.1 := lays_256 (by rw [upd_lo (N := 27) (ip_0 c_15) (ix_loop (K := 8) (N := 27) (ip_0 c_15) (Int32.not_le.mpr (im_1 c_1)) hm8 (by decide)) (by decide) (by decide)]; exact hi0_0) hw_17
              refine lv_aload_n hx hb dX8_leastWeight_76 rfl (lv_at hl 0 rfl) ?_
              refine lv_iload_n hx hb dX8_leastWeight_77 rfl (lv_at hl 1 rfl) ?_
              refine rd_goi (va_runV (C := RX8) (As := [.int x0]) (rest := []) S (c_X8_swings l D cy g B a y0 y1 y2 0 u_16.1 y5 y6 (upd w07_11 (3 + x0).toNatClampNeg i4_9) y8 y9 u_16.2 y11 y12 y13 x0) (cwV 1 hts gX8_leastWeight_X8_swings rfl rfl rfl hd_X8_swings_V ⟨Nat.le_of_ble_eq_true rfl, Nat.le_of_ble_eq_true rfl⟩) ⟨rdP_blind, va_recv hK0.1 hP (ci := 6) (q0 := 0) rfl rfl, my_preP hK0 hS hAB hP⟩ rfl rfl hl.1 rfl (lv_room (Nat.le_of_ble_eq_true rfl)) dX8_leastWeight_78 ⟨Nat.zero_le _, Nat.zero_le _⟩) ?_
              refine lv_if_le (tgt := 89) hx hb dX8_leastWeight_81 (by decide) (fun c_20 => ?_) (fun c_20 => ?_)
              · refine lv_iconst (v := (-1)) hx hb dX8_leastWeight_89 (by decide) ?_
                refine lv_istore_n (lv' := [(3, .int (-1)), (0, .ref (a 0)), (1, .int x0), (2, .int (y7 (3 + x0).toNatClampNeg)), (4, .int i4_9)]) hx hb dX8_leastWeight_90 rfl hl (by decide) rfl (fun ls hl => ?_)
                refine lv_iinc (v := (i4_9 + 1)) (lv' := [(4, .int (i4_9 + 1)), (3, .int (-1)), (0, .ref (a 0)), (1, .int x0), (2, .int (y7 (3 + x0).toNatClampNeg))]) hx hb dX8_leastWeight_91 hl (k := 4) rfl rfl (by decide) rfl (fun ls hl => ?_)
                refine lv_goto (tgt := 36) hx hb dX8_leastWeight_94 (by decide) ?_
                have hst : f_X8_leastWeight_st x0 i3_8 i4_9 w04_10 w07_11 w010_12 = .inl ((-1), (i4_9 + 1), u_16.1, (upd w07_11 (3 + x0).toNatClampNeg i4_9), u_16.2) := by rw [f_X8_leastWeight_st, if_neg c_13, if_pos c_14, if_neg c_15, hw_17, my_l_eq, if_pos c_20]
                have hmu : ((50 : Int32).toInt + 1 - ((i4_9 + 1) : Int32).toInt).toNat < ((50 : Int32).toInt + 1 - (i4_9 : Int32).toInt).toNat := mu_le c_13 (by decide)
                exact ih0 (-1) (i4_9 + 1) u_16.1 (upd w07_11 (3 + x0).toNatClampNeg i4_9) u_16.2 (Nat.lt_of_lt_of_le hmu (Nat.le_of_lt_succ hlt0)) (lp_inl hst hF0) (by rw [upd_lo (N := 27) (ip_0 c_15) (ix_loop (K := 8) (N := 27) (ip_0 c_15) (Int32.not_le.mpr (im_1 c_1)) hm8 (by decide)) (by decide) (by decide)]; exact hi0_0) (by rw [upd_lo (N := 27) (ip_0 c_15) (ix_loop (K := 8) (N := 27) (ip_0 c_15) (Int32.not_le.mpr (im_1 c_1)) hm8 (by decide)) (by decide) (by decide)]; exact hi0_1) _ _ hP hD hS _ (lv_sub hl [2, 3, 4, 1, 0] rfl)
              · refine lv_iload hx hb dX8_leastWeight_84 (lv_at hl 4 rfl) ?_
                refine lv_goto (tgt := 90) hx hb dX8_leastWeight_86 (by decide) ?_
                refine lv_istore_n (lv' := [(3, .int i4_9), (0, .ref (a 0)), (1, .int x0), (2, .int (y7 (3 + x0).toNatClampNeg)), (4, .int i4_9)]) hx hb dX8_leastWeight_90 rfl hl (by decide) rfl (fun ls hl => ?_)
                refine lv_iinc (v := (i4_9 + 1)) (lv' := [(4, .int (i4_9 + 1)), (3, .int i4_9), (0, .ref (a 0)), (1, .int x0), (2, .int (y7 (3 + x0).toNatClampNeg))]) hx hb dX8_leastWeight_91 hl (k := 4) rfl rfl (by decide) rfl (fun ls hl => ?_)
                refine lv_goto (tgt := 36) hx hb dX8_leastWeight_94 (by decide) ?_
                have hst : f_X8_leastWeight_st x0 i3_8 i4_9 w04_10 w07_11 w010_12 = .inl (i4_9, (i4_9 + 1), u_16.1, (upd w07_11 (3 + x0).toNatClampNeg i4_9), u_16.2) := by rw [f_X8_leastWeight_st, if_neg c_13, if_pos c_14, if_neg c_15, hw_17, my_l_eq, if_neg c_20]
                have hmu : ((50 : Int32).toInt + 1 - ((i4_9 + 1) : Int32).toInt).toNat < ((50 : Int32).toInt + 1 - (i4_9 : Int32).toInt).toNat := mu_le c_13 (by decide)
                exact ih0 i4_9 (i4_9 + 1) u_16.1 (upd w07_11 (3 + x0).toNatClampNeg i4_9) u_16.2 (Nat.lt_of_lt_of_le hmu (Nat.le_of_lt_succ hlt0)) (lp_inl hst hF0) (by rw [upd_lo (N := 27) (ip_0 c_15) (ix_loop (K := 8) (N := 27) (ip_0 c_15) (Int32.not_le.mpr (im_1 c_1)) hm8 (by decide)) (by decide) (by decide)]; exact hi0_0) (by rw [upd_lo (N := 27) (ip_0 c_15) (ix_loop (K := 8) (N := 27) (ip_0 c_15) (Int32.not_le.mpr (im_1 c_1)) hm8 (by decide)) (by decide) (by decide)]; exact hi0_1) _ _ hP hD hS _ (lv_sub hl [2, 3, 4, 1, 0] rfl)
    exact key (((50 : Int32).toInt + 1 - (0 : Int32).toInt).toNat + 1) (-1) 0 y4 y7 y10 (Nat.lt_succ_self _) rfl hm8 hR4 _ _ hP hD hS _ (lv_sub hl [3, 4, 2, 1, 0] rfl)
theorem hd_X8_unionGain_S : yX8_unionGain.cls ≠ "java/lang/invoke/MethodHandle" ∧ yX8_unionGain.cls ≠ "java/lang/invoke/VarHandle" ∧ (parseMethodDescriptor yX8_unionGain.desc).map (fun d => d.parameters.length) = some 2 := by decide +kernel
theorem hd_X8_unionGain_V : yX8_unionGain.cls = RX8 ∧ yX8_unionGain.cls ≠ "java/lang/invoke/MethodHandle" ∧ yX8_unionGain.cls ≠ "java/lang/invoke/VarHandle" ∧ (parseMethodDescriptor yX8_unionGain.desc).map (fun d => d.parameters.length) = some 2 := ⟨rfl, hd_X8_unionGain_S⟩
def f_X8_unionGain_st2 (w012_10 : (Nat → Int32)) (i7_17 : Int32) (w07_18 : (Nat → Int32)) : (Int32 × (Nat → Int32)) ⊕ (Int32 × (Nat → Int32)) := (if 8 ≤ i7_17 then (.inr (i7_17, w07_18)) else (.inl ((i7_17 + 1), (upd w07_18 (11 + i7_17).toNatClampNeg (w012_10 i7_17.toNatClampNeg)))))
def f_X8_unionGain_st1 (x0 : Int32) (x1 : Int32) (w012_10 : (Nat → Int32)) (i5_11 : Int32) (w07_12 : (Nat → Int32)) : (Int32 × (Nat → Int32)) ⊕ (Int32 × (Nat → Int32)) := (if (w07_12 0) ≤ i5_11 then (.inr (i5_11, w07_12)) else (if i5_11 = x1 then (.inl ((i5_11 + 1), (upd w07_12 (11 + i5_11).toNatClampNeg x0))) else (if (w012_10 i5_11.toNatClampNeg) = x1 then (.inl ((i5_11 + 1), (upd w07_12 (11 + i5_11).toNatClampNeg x0))) else (.inl ((i5_11 + 1), (upd w07_12 (11 + i5_11).toNatClampNeg (w012_10 i5_11.toNatClampNeg)))))))
def f_X8_unionGain_st (y7 : (Nat → Int32)) (i5_9 : Int32) (w012_10 : (Nat → Int32)) : (Int32 × (Nat → Int32)) ⊕ (Int32 × (Nat → Int32)) := (if 8 ≤ i5_9 then (.inr (i5_9, w012_10)) else (.inl ((i5_9 + 1), (upd w012_10 i5_9.toNatClampNeg (y7 (11 + i5_9).toNatClampNeg)))))
def f_X8_unionGain (y4 : Int32) (y7 : (Nat → Int32)) (y10 : (Nat → Int32)) (y12 : (Nat → Int32)) (x0 : Int32) (x1 : Int32) : UInt64 × (Int32 × Int32 × (Nat → Int32) × (Nat → Int32) × (Nat → Int32)) := (if (f_X8_wrongTwo y7 x0 x1) = 0 then (my_l (f_X8_lays y7 y10 (y7 1)) (fun (u_5 : Int32 × (Nat → Int32)) => (my_t2 (lp (fun (x : Int32 × (Nat → Int32)) => f_X8_unionGain_st y7 x.1 x.2) default (((8 : Int32).toInt - (0 : Int32).toInt).toNat + 1) (0, y12)) (fun (i5_9 : Int32) (w012_10 : (Nat → Int32)) => (my_t2 (lp (fun (x : Int32 × (Nat → Int32)) => f_X8_unionGain_st1 x0 x1 w012_10 x.1 x.2) default ((((y7 0) : Int32).toInt - (0 : Int32).toInt).toNat + 1) (0, y7)) (fun (i5_11 : Int32) (w07_12 : (Nat → Int32)) => (my_l (f_X8_lays w07_12 u_5.2 (w07_12 1)) (fun (u_13 : Int32 × (Nat → Int32)) => (my_t2 (lp (fun (x : Int32 × (Nat → Int32)) => f_X8_unionGain_st2 w012_10 x.1 x.2) default (((8 : Int32).toInt - (0 : Int32).toInt).toNat + 1) (0, w07_12)) (fun (i7_17 : Int32) (w07_18 : (Nat → Int32)) => ((FP.dsub (f_X8_partOf u_13.1 w07_12 u_13.2 x0) (FP.dadd (f_X8_partOf u_5.1 y7 u_5.2 x0) (f_X8_partOf u_5.1 y7 u_5.2 x1))), (0, u_13.1, w07_18, u_13.2, w012_10)))))))))))) else (FP.dconst0, ((f_X8_wrongTwo y7 x0 x1), y4, y7, y10, y12)))
set_option maxHeartbeats 1600000 in
set_option maxRecDepth 100000 in
theorem c_X8_unionGain (l : Launch) (D : va_G) (cy : Nat → ClassId) (g : Nat → Nat) (B : Nat) (a : Nat → Nat) (y0 : Int32) (y1 : Int32) (y2 : Int32) (y3 : Int32) (y4 : Int32) (y5 : Int32) (y6 : Int32) (y7 : (Nat → Int32)) (y8 : (Nat → Int32)) (y9 : (Nat → Int32)) (y10 : (Nat → Int32)) (y11 : (Nat → Int32)) (y12 : (Nat → Int32)) (y13 : (Nat → Int32)) (x0 : Int32) (x1 : Int32) (hm8 : ¬ 8 < (y7 0)) (hR4 : ¬ 4 < (y7 2)) : Met l yX8_unionGain wsX8_unionGain ({ frames := 4, cells := 0, slots := 0, locals := 91 }) (muP D cy g B (wModE cy a y0 y1 y2 y3 y4 y5 y6 y7 y8 y9 y10 y11 y12 y13) [.ref (a 0), .int x0, .int x1]) (va_Qd (fun (r : UInt64) (u : Int32 × Int32 × (Nat → Int32) × (Nat → Int32) × (Nat → Int32)) => f_X8_unionGain y4 y7 y10 y12 x0 x1 = (r, u)) (fun u t => va_P D vwCl (wModE cy a y0 y1 y2 u.1 u.2.1 y5 y6 u.2.2.1 y8 y9 u.2.2.2.1 y11 u.2.2.2.2 y13) t.heap) (muA (wModE cy a y0 y1 y2 y3 y4 y5 y6 y7 y8 y9 y10 y11 y12 y13))) 0 0 (muA (wModE cy a y0 y1 y2 y3 y4 y5 y6 y7 y8 y9 y10 y11 y12 y13)) := by
  refine Met.ofW (cc := cX8_unionGain) (maxL := 8) (ret := (some .double)) (by decide) rfl ?_
  intro p e s m args below meth c s₁ BB hml hv
  obtain ⟨rfl, hP, hK0, hD0⟩ := hv
  have hx := BB.exec
  have hb := BB.bytes
  have hr := BB.returns
  have hts := atoms_spec (ws := wsX8_unionGain) BB.pre
  have hown : s.vm.findClass RX8 = some m.cls := findClass_of_methodNamed BB.named
  have hlocks := BB.notSynchronized
  have S := my_fix hx hb hml hown hts
  have inX8 : ∀ w ∈ wsX80, w ∈ wsX8_unionGain := fun w h => List.mem_cons_of_mem _ (List.mem_append_right _ h)
  have hAB := muB hD0
  have hD := muD hD0
  generalize hAe : muA (wModE cy a y0 y1 y2 y3 y4 y5 y6 y7 y8 y9 y10 y11 y12 y13) = A at hAB hD ⊢
  have hS : va_S A s.heap s.heap [] := va_S.rf
  have hl := lv_entry ([.ref (a 0), .int x0, .int x1]) (n := 8) (Nat.le_of_ble_eq_true rfl)
  rw [lg_entry_eq]
  generalize (lg_sl ([.ref (a 0), .int x0, .int x1]) ++ List.replicate (8 - (lg_sl ([.ref (a 0), .int x0, .int x1])).length) Slot.unset).toArray = ls at hl ⊢
  have hl : lv_has ls 8 [(0, .ref (a 0)), (1, .int x0), (2, .int x1)] := hl
  refine lv_aload_n hx hb dX8_unionGain_0 rfl (lv_at hl 0 rfl) ?_
  refine lv_aload_n hx hb dX8_unionGain_1 rfl (lv_at hl 0 rfl) ?_
  refine lv_iload_n hx hb dX8_unionGain_2 rfl (lv_at hl 1 rfl) ?_
  refine lv_iload_n hx hb dX8_unionGain_3 rfl (lv_at hl 2 rfl) ?_
  refine rd_goi (va_runV (C := RX8) (As := [.int x0, .int x1]) (rest := [.ref (a 0)]) S (c_X8_wrongTwo l D cy g B a y0 y1 y2 y3 y4 y5 y6 y7 y8 y9 y10 y11 y12 y13 x0 x1 hm8) (cwV 2 hts gX8_unionGain_X8_wrongTwo rfl rfl rfl hd_X8_wrongTwo_V ⟨Nat.le_of_ble_eq_true rfl, Nat.le_of_ble_eq_true rfl⟩) ⟨rdP_blind, va_recv hK0.1 hP (ci := 6) (q0 := 0) rfl rfl, my_preP hK0 hS hAB hP⟩ rfl rfl hl.1 rfl (lv_room (Nat.le_of_ble_eq_true rfl)) dX8_unionGain_4 ⟨Nat.zero_le _, Nat.zero_le _⟩) ?_
  by_cases c_1 : (f_X8_wrongTwo y7 x0 x1) = 0
  · refine W.eq (g2 := F0 m 7 ls [.int 0, .ref (a 0)]) (by rw [c_1]) ?_
    refine mu_alli (wf := fun (u_2 : Int32) => (wModE cy a y0 y1 y2 u_2 y4 y5 y6 y7 y8 y9 y10 y11 y12 y13)) (va_runV (C := RX8) (As := [.int 0]) (rest := []) S (c_X8_throwsAt l D cy g B a y0 y1 y2 y3 y4 y5 y6 y7 y8 y9 y10 y11 y12 y13 0) (cwV 1 hts gX8_unionGain_X8_throwsAt rfl rfl rfl hd_X8_throwsAt_V ⟨Nat.le_of_ble_eq_true rfl, Nat.le_of_ble_eq_true rfl⟩) ⟨muP_blind, va_recv hK0.1 hP (ci := 6) (q0 := 0) rfl rfl, my_preA hK0 hS hAB hP hD⟩ rfl rfl hl.1 rfl (lv_room (Nat.le_of_ble_eq_true rfl)) dX8_unionGain_7 ⟨Nat.zero_le _, Nat.zero_le _⟩) hS hD (fun _ => by simp only [List.map_cons, List.map_nil, adrSet, adrSetE, adrPow, adrPowE, adrTxt, adrTxtE, adrSav, adrSavE, adrPCo, adrMod, adrModE]) (fun r_4 u_2 H locs hw_3 hP hD hS => ?_)
    obtain ⟨rfl, rfl⟩ : 0 = r_4 ∧ 0 = u_2 := my_thr_lit (k := 0) (by decide) hw_3
    refine lv_if_eq (tgt := 15) hx hb dX8_unionGain_10 (by decide) (fun _ => ?_) (fun h => absurd (by decide) h)
    refine lv_aload_n hx hb dX8_unionGain_15 rfl (lv_at hl 0 rfl) ?_
    refine lv_aload_n hx hb dX8_unionGain_16 rfl (lv_at hl 0 rfl) ?_
    refine va_get (D := D) (ci := 6) (v := .ref (a 1)) (C := RX8) (T := TX8) (N := 14) hx hb hts inX8 hown hK0.1 hP 0 rfl rfl 0 (by decide) (hts (.fieldLink RX8 7 "PivotChamberModel" "s" "[I") (List.mem_of_getElem? (i := 1) rfl)) (fun _ h9 => h9) rfl dX8_unionGain_17 ?_
    refine lv_iconst (v := 1) hx hb dX8_unionGain_20 (by decide) ?_
    refine va_iald hx hb hK0.1 hP 1 0 rfl rfl (vp_in_nI (n := 1) (N := 27) (by decide) (by decide)) dX8_unionGain_21 ?_
    refine W.eq (g2 := F0 m 22 ls [.int (y7 1), .ref (a 0)]) rfl ?_
    refine mu_allv (wf := fun (u_5 : Int32 × (Nat → Int32)) => (wModE cy a y0 y1 y2 0 u_5.1 y5 y6 y7 y8 y9 u_5.2 y11 y12 y13)) (va_runV (C := RX8) (As := [.int (y7 1)]) (rest := []) S (c_X8_lays l D cy g B a y0 y1 y2 0 y4 y5 y6 y7 y8 y9 y10 y11 y12 y13 (y7 1) hm8 hR4) (cwV 1 hts gX8_unionGain_X8_lays rfl rfl rfl hd_X8_lays_V ⟨Nat.le_of_ble_eq_true rfl, Nat.le_of_ble_eq_true rfl⟩) ⟨muP_blind, va_recv hK0.1 hP (ci := 6) (q0 := 0) rfl rfl, my_preA hK0 hS hAB hP hD⟩ rfl rfl hl.1 rfl (lv_room (Nat.le_of_ble_eq_true rfl)) dX8_unionGain_22 ⟨Nat.zero_le _, Nat.zero_le _⟩) hS hD (fun _ => by simp only [List.map_cons, List.map_nil, adrSet, adrSetE, adrPow, adrPowE, adrTxt, adrTxtE, adrSav, adrSavE, adrPCo, adrMod, adrModE]) (fun u_5 H locs hw_6 hP hD hS => ?_)
    have ha_7 : ¬ u_5.1 < 0 := lays_0 hm8 hw_6
    have ha_8 : ¬ 256 ≤ u_5.1 := lays_256 hm8 hw_6
    refine lv_aload_n hx hb dX8_unionGain_25 rfl (lv_at hl 0 rfl) ?_
    refine lv_iload_n hx hb dX8_unionGain_26 rfl (lv_at hl 1 rfl) ?_
    refine rd_god (va_runV (C := RX8) (As := [.int x0]) (rest := []) S (c_X8_partOf l D cy g B a y0 y1 y2 0 u_5.1 y5 y6 y7 y8 y9 u_5.2 y11 y12 y13 x0 hm8) (cwV 1 hts gX8_unionGain_X8_partOf rfl rfl rfl hd_X8_partOf_V ⟨Nat.le_of_ble_eq_true rfl, Nat.le_of_ble_eq_true rfl⟩) ⟨rdP_blind, va_recv hK0.1 hP (ci := 6) (q0 := 0) rfl rfl, my_preP hK0 hS hAB hP⟩ rfl rfl hl.1 rfl (lv_room (Nat.le_of_ble_eq_true rfl)) dX8_unionGain_27 ⟨Nat.zero_le _, Nat.zero_le _⟩) ?_
    refine lv_aload_n hx hb dX8_unionGain_30 rfl (lv_at hl 0 rfl) ?_
    refine lv_iload_n hx hb dX8_unionGain_31 rfl (lv_at hl 2 rfl) ?_
    refine rd_god (va_runV (C := RX8) (As := [.int x1]) (rest := [.double (f_X8_partOf u_5.1 y7 u_5.2 x0)]) S (c_X8_partOf l D cy g B a y0 y1 y2 0 u_5.1 y5 y6 y7 y8 y9 u_5.2 y11 y12 y13 x1 hm8) (cwV 1 hts gX8_unionGain_X8_partOf rfl rfl rfl hd_X8_partOf_V ⟨Nat.le_of_ble_eq_true rfl, Nat.le_of_ble_eq_true rfl⟩) ⟨rdP_blind, va_recv hK0.1 hP (ci := 6) (q0 := 0) rfl rfl, my_preP hK0 hS hAB hP⟩ rfl rfl hl.1 rfl (lv_room (Nat.le_of_ble_eq_true rfl)) dX8_unionGain_32 ⟨Nat.zero_le _, Nat.zero_le _⟩) ?_
    refine lv_dadd hx hb dX8_unionGain_35 (my_n64 (my_add_nn (fin_X8_partOf u_5.1 y7 u_5.2 x0) (fin_X8_partOf u_5.1 y7 u_5.2 x1))) ?_
    refine lv_dstore_n (lv' := [(3, .double (FP.dadd (f_X8_partOf u_5.1 y7 u_5.2 x0) (f_X8_partOf u_5.1 y7 u_5.2 x1))), (0, .ref (a 0)), (1, .int x0), (2, .int x1)]) hx hb dX8_unionGain_36 rfl hl (by decide) rfl (fun ls hl => ?_)
    refine lv_iconst (v := 0) hx hb dX8_unionGain_37 (by decide) ?_
    refine lv_istore (lv' := [(5, .int 0), (3, .double (FP.dadd (f_X8_partOf u_5.1 y7 u_5.2 x0) (f_X8_partOf u_5.1 y7 u_5.2 x1))), (0, .ref (a 0)), (1, .int x0), (2, .int x1)]) hx hb dX8_unionGain_38 hl (by decide) rfl (fun ls hl => ?_)
    have cont0 : ∀ (i5_9 : Int32) (w012_10 : (Nat → Int32)), lp (fun (x : Int32 × (Nat → Int32)) => f_X8_unionGain_st y7 x.1 x.2) default (((8 : Int32).toInt - (0 : Int32).toInt).toNat + 1) (0, y12) = (i5_9, w012_10) → ¬ i5_9 < 0 → ∀ (H : Heap) (locs : List Loc), va_P D vwCl (wModE cy a y0 y1 y2 0 u_5.1 y5 y6 y7 y8 y9 u_5.2 y11 w012_10 y13) H → va_D A (wModE cy a y0 y1 y2 0 u_5.1 y5 y6 y7 y8 y9 u_5.2 y11 w012_10 y13) → va_S A s.heap H locs → ∀ ls : Array Slot, lv_has ls 8 [(0, .ref (a 0)), (1, .int x0), (2, .int x1), (3, .double (FP.dadd (f_X8_partOf u_5.1 y7 u_5.2 x0) (f_X8_partOf u_5.1 y7 u_5.2 x1))), (5, .int i5_9)] → W p l e (headSpec wsX8_unionGain ({ frames := 4, cells := 0, slots := 0, locals := 91 } : Room)).room s m ([.ref (a 0), .int x0, .int x1] : List Value).toArray below meth c H locs 0 0 (MQ below (va_Qd (fun (r : UInt64) (u : Int32 × Int32 × (Nat → Int32) × (Nat → Int32) × (Nat → Int32)) => f_X8_unionGain y4 y7 y10 y12 x0 x1 = (r, u)) (fun u t => va_P D vwCl (wModE cy a y0 y1 y2 u.1 u.2.1 y5 y6 u.2.2.1 y8 y9 u.2.2.2.1 y11 u.2.2.2.2 y13) t.heap) A) ([.ref (a 0), .int x0, .int x1] : List Value).toArray s 0 0 A) (F0 m 70 ls []) := by
      intro i5_9 w012_10 hE0 hj0_0 H locs hP hD hS ls hl
      refine lv_iconst (v := 0) hx hb dX8_unionGain_70 (by decide) ?_
      refine lv_istore (lv' := [(5, .int 0), (0, .ref (a 0)), (1, .int x0), (2, .int x1), (3, .double (FP.dadd (f_X8_partOf u_5.1 y7 u_5.2 x0) (f_X8_partOf u_5.1 y7 u_5.2 x1)))]) hx hb dX8_unionGain_71 hl (by decide) rfl (fun ls hl => ?_)
      have cont1 : ∀ (i5_11 : Int32) (w07_12 : (Nat → Int32)), lp (fun (x : Int32 × (Nat → Int32)) => f_X8_unionGain_st1 x0 x1 w012_10 x.1 x.2) default ((((y7 0) : Int32).toInt - (0 : Int32).toInt).toNat + 1) (0, y7) = (i5_11, w07_12) → (w07_12 0) = (y7 0) → (w07_12 2) = (y7 2) → ¬ i5_11 < 0 → ∀ (H : Heap) (locs : List Loc), va_P D vwCl (wModE cy a y0 y1 y2 0 u_5.1 y5 y6 w07_12 y8 y9 u_5.2 y11 w012_10 y13) H → va_D A (wModE cy a y0 y1 y2 0 u_5.1 y5 y6 w07_12 y8 y9 u_5.2 y11 w012_10 y13) → va_S A s.heap H locs → ∀ ls : Array Slot, lv_has ls 8 [(0, .ref (a 0)), (1, .int x0), (2, .int x1), (3, .double (FP.dadd (f_X8_partOf u_5.1 y7 u_5.2 x0) (f_X8_partOf u_5.1 y7 u_5.2 x1))), (5, .int i5_11)] → W p l e (headSpec wsX8_unionGain ({ frames := 4, cells := 0, slots := 0, locals := 91 } : Room)).room s m ([.ref (a 0), .int x0, .int x1] : List Value).toArray below meth c H locs 0 0 (MQ below (va_Qd (fun (r : UInt64) (u : Int32 × Int32 × (Nat → Int32) × (Nat → Int32) × (Nat → Int32)) => f_X8_unionGain y4 y7 y10 y12 x0 x1 = (r, u)) (fun u t => va_P D vwCl (wModE cy a y0 y1 y2 u.1 u.2.1 y5 y6 u.2.2.1 y8 y9 u.2.2.2.1 y11 u.2.2.2.2 y13) t.heap) A) ([.ref (a 0), .int x0, .int x1] : List Value).toArray s 0 0 A) (F0 m 128 ls []) := by
        intro i5_11 w07_12 hE1 hj1_0 hj1_1 hj1_2 H locs hP hD hS ls hl
        refine lv_aload_n hx hb dX8_unionGain_128 rfl (lv_at hl 0 rfl) ?_
        refine lv_aload_n hx hb dX8_unionGain_129 rfl (lv_at hl 0 rfl) ?_
        refine va_get (D := D) (ci := 6) (v := .ref (a 1)) (C := RX8) (T := TX8) (N := 14) hx hb hts inX8 hown hK0.1 hP 0 rfl rfl 0 (by decide) (hts (.fieldLink RX8 7 "PivotChamberModel" "s" "[I") (List.mem_of_getElem? (i := 1) rfl)) (fun _ h9 => h9) rfl dX8_unionGain_130 ?_
        refine lv_iconst (v := 1) hx hb dX8_unionGain_133 (by decide) ?_
        refine va_iald hx hb hK0.1 hP 1 0 rfl rfl (vp_in_nI (n := 1) (N := 27) (by decide) (by decide)) dX8_unionGain_134 ?_
        refine W.eq (g2 := F0 m 135 ls [.int (w07_12 1), .ref (a 0)]) rfl ?_
        refine mu_allv (wf := fun (u_13 : Int32 × (Nat → Int32)) => (wModE cy a y0 y1 y2 0 u_13.1 y5 y6 w07_12 y8 y9 u_13.2 y11 w012_10 y13)) (va_runV (C := RX8) (As := [.int (w07_12 1)]) (rest := []) S (c_X8_lays l D cy g B a y0 y1 y2 0 u_5.1 y5 y6 w07_12 y8 y9 u_5.2 y11 w012_10 y13 (w07_12 1) (by rw [hj1_0]; exact hm8) (by rw [hj1_1]; exact hR4)) (cwV 1 hts gX8_unionGain_X8_lays rfl rfl rfl hd_X8_lays_V ⟨Nat.le_of_ble_eq_true rfl, Nat.le_of_ble_eq_true rfl⟩) ⟨muP_blind, va_recv hK0.1 hP (ci := 6) (q0 := 0) rfl rfl, my_preA hK0 hS hAB hP hD⟩ rfl rfl hl.1 rfl (lv_room (Nat.le_of_ble_eq_true rfl)) dX8_unionGain_135 ⟨Nat.zero_le _, Nat.zero_le _⟩) hS hD (fun _ => by simp only [List.map_cons, List.map_nil, adrSet, adrSetE, adrPow, adrPowE, adrTxt, adrTxtE, adrSav, adrSavE, adrPCo, adrMod, adrModE]) (fun u_13 H locs hw_14 hP hD hS => ?_)
        have ha_15 : ¬ u_13.1 < 0 := lays_0 (by rw [hj1_0]; exact hm8) hw_14
        have ha_16 : ¬ 256 ≤ u_13.1 := lays_256 (by rw [hj1_0]; exact hm8) hw_14
        refine lv_aload_n hx hb dX8_unionGain_138 rfl (lv_at hl 0 rfl) ?_
        refine lv_iload_n hx hb dX8_unionGain_139 rfl (lv_at hl 1 rfl) ?_
        refine rd_god (va_runV (C := RX8) (As := [.int x0]) (rest := []) S (c_X8_partOf l D cy g B a y0 y1 y2 0 u_13.1 y5 y6 w07_12 y8 y9 u_13.2 y11 w012_10 y13 x0 (by rw [hj1_0]; exact hm8)) (cwV 1 hts gX8_unionGain_X8_partOf rfl rfl rfl hd_X8_partOf_V ⟨Nat.le_of_ble_eq_true rfl, Nat.le_of_ble_eq_true rfl⟩) ⟨rdP_blind, va_recv hK0.1 hP (ci := 6) (q0 := 0) rfl rfl, my_preP hK0 hS hAB hP⟩ rfl rfl hl.1 rfl (lv_room (Nat.le_of_ble_eq_true rfl)) dX8_unionGain_140 ⟨Nat.zero_le _, Nat.zero_le _⟩) ?_
        refine lv_dstore (lv' := [(5, .double (f_X8_partOf u_13.1 w07_12 u_13.2 x0)), (0, .ref (a 0)), (1, .int x0), (2, .int x1), (3, .double (FP.dadd (f_X8_partOf u_5.1 y7 u_5.2 x0) (f_X8_partOf u_5.1 y7 u_5.2 x1)))]) hx hb dX8_unionGain_143 hl (by decide) rfl (fun ls hl => ?_)
        refine lv_iconst (v := 0) hx hb dX8_unionGain_145 (by decide) ?_
        refine lv_istore (lv' := [(7, .int 0), (5, .double (f_X8_partOf u_13.1 w07_12 u_13.2 x0)), (0, .ref (a 0)), (1, .int x0), (2, .int x1), (3, .double (FP.dadd (f_X8_partOf u_5.1 y7 u_5.2 x0) (f_X8_partOf u_5.1 y7 u_5.2 x1)))]) hx hb dX8_unionGain_146 hl (by decide) rfl (fun ls hl => ?_)
        have cont2 : ∀ (i7_17 : Int32) (w07_18 : (Nat → Int32)), lp (fun (x : Int32 × (Nat → Int32)) => f_X8_unionGain_st2 w012_10 x.1 x.2) default (((8 : Int32).toInt - (0 : Int32).toInt).toNat + 1) (0, w07_12) = (i7_17, w07_18) → ¬ i7_17 < 0 → ∀ (H : Heap) (locs : List Loc), va_P D vwCl (wModE cy a y0 y1 y2 0 u_13.1 y5 y6 w07_18 y8 y9 u_13.2 y11 w012_10 y13) H → va_D A (wModE cy a y0 y1 y2 0 u_13.1 y5 y6 w07_18 y8 y9 u_13.2 y11 w012_10 y13) → va_S A s.heap H locs → ∀ ls : Array Slot, lv_has ls 8 [(0, .ref (a 0)), (1, .int x0), (2, .int x1), (3, .double (FP.dadd (f_X8_partOf u_5.1 y7 u_5.2 x0) (f_X8_partOf u_5.1 y7 u_5.2 x1))), (5, .double (f_X8_partOf u_13.1 w07_12 u_13.2 x0)), (7, .int i7_17)] → W p l e (headSpec wsX8_unionGain ({ frames := 4, cells := 0, slots := 0, locals := 91 } : Room)).room s m ([.ref (a 0), .int x0, .int x1] : List Value).toArray below meth c H locs 0 0 (MQ below (va_Qd (fun (r : UInt64) (u : Int32 × Int32 × (Nat → Int32) × (Nat → Int32) × (Nat → Int32)) => f_X8_unionGain y4 y7 y10 y12 x0 x1 = (r, u)) (fun u t => va_P D vwCl (wModE cy a y0 y1 y2 u.1 u.2.1 y5 y6 u.2.2.1 y8 y9 u.2.2.2.1 y11 u.2.2.2.2 y13) t.heap) A) ([.ref (a 0), .int x0, .int x1] : List Value).toArray s 0 0 A) (F0 m 178 ls []) := by
          intro i7_17 w07_18 hE2 hj2_0 H locs hP hD hS ls hl
          refine lv_dload hx hb dX8_unionGain_178 (lv_at hl 4 rfl) ?_
          refine lv_dload_n hx hb dX8_unionGain_180 rfl (lv_at hl 3 rfl) ?_
          refine lv_dsub hx hb dX8_unionGain_181 (my_n64 (my_sub_nn (fin_X8_partOf u_13.1 w07_12 u_13.2 x0) (my_add_nn (fin_X8_partOf u_5.1 y7 u_5.2 x0) (fin_X8_partOf u_5.1 y7 u_5.2 x1)))) ?_
          have hP : va_P D vwCl (wModE cy a y0 y1 y2 0 u_13.1 y5 y6 w07_18 y8 y9 u_13.2 y11 w012_10 y13) H := hP
          have hD : va_D A (wModE cy a y0 y1 y2 0 u_13.1 y5 y6 w07_18 y8 y9 u_13.2 y11 w012_10 y13) := hD
          exact W.dret hx hb hr (fun t ht hW => ⟨⟨(FP.dsub (f_X8_partOf u_13.1 w07_12 u_13.2 x0) (FP.dadd (f_X8_partOf u_5.1 y7 u_5.2 x0) (f_X8_partOf u_5.1 y7 u_5.2 x1))), (0, u_13.1, w07_18, u_13.2, w012_10), rfl, (show f_X8_unionGain y4 y7 y10 y12 x0 x1 = ((FP.dsub (f_X8_partOf u_13.1 w07_12 u_13.2 x0) (FP.dadd (f_X8_partOf u_5.1 y7 u_5.2 x0) (f_X8_partOf u_5.1 y7 u_5.2 x1))), (0, u_13.1, w07_18, u_13.2, w012_10)) from by rw [f_X8_unionGain, if_pos c_1, hw_6, my_l_eq, hE0, my_t2_eq, hE1, my_t2_eq, hw_14, my_l_eq, hE2, my_t2_eq]), by show va_P D vwCl _ t.heap; rw [ht]; exact hP⟩, hS.F ht⟩) hS.2.2 dX8_unionGain_182
        have key : ∀ (nf : Nat) (i7_17 : Int32) (w07_18 : (Nat → Int32)), ((8 : Int32).toInt - (i7_17 : Int32).toInt).toNat < nf → lp (fun (x : Int32 × (Nat → Int32)) => f_X8_unionGain_st2 w012_10 x.1 x.2) default nf (i7_17, w07_18) = lp (fun (x : Int32 × (Nat → Int32)) => f_X8_unionGain_st2 w012_10 x.1 x.2) default (((8 : Int32).toInt - (0 : Int32).toInt).toNat + 1) (0, w07_12) → ¬ i7_17 < 0 → ∀ (H : Heap) (locs : List Loc), va_P D vwCl (wModE cy a y0 y1 y2 0 u_13.1 y5 y6 w07_18 y8 y9 u_13.2 y11 w012_10 y13) H → va_D A (wModE cy a y0 y1 y2 0 u_13.1 y5 y6 w07_18 y8 y9 u_13.2 y11 w012_10 y13) → va_S A s.heap H locs → ∀ ls : Array Slot, lv_has ls 8 [(0, .ref (a 0)), (1, .int x0), (2, .int x1), (3, .double (FP.dadd (f_X8_partOf u_5.1 y7 u_5.2 x0) (f_X8_partOf u_5.1 y7 u_5.2 x1))), (5, .double (f_X8_partOf u_13.1 w07_12 u_13.2 x0)), (7, .int i7_17)] → W p l e (headSpec wsX8_unionGain ({ frames := 4, cells := 0, slots := 0, locals := 91 } : Room)).room s m ([.ref (a 0), .int x0, .int x1] : List Value).toArray below meth c H locs 0 0 (MQ below (va_Qd (fun (r : UInt64) (u : Int32 × Int32 × (Nat → Int32) × (Nat → Int32) × (Nat → Int32)) => f_X8_unionGain y4 y7 y10 y12 x0 x1 = (r, u)) (fun u t => va_P D vwCl (wModE cy a y0 y1 y2 u.1 u.2.1 y5 y6 u.2.2.1 y8 y9 u.2.2.2.1 y11 u.2.2.2.2 y13) t.heap) A) ([.ref (a 0), .int x0, .int x1] : List Value).toArray s 0 0 A) (F0 m 148 ls []) := by
          intro n2
          induction n2 with
          | zero => intro i7_17 w07_18 hlt; exact absurd hlt (Nat.not_lt_zero _)
          | succ n2 ih2 =>
            intro i7_17 w07_18 hlt2 hF2 hi2_0 H locs hP hD hS ls hl
            refine lv_iload hx hb dX8_unionGain_148 (lv_at hl 5 rfl) ?_
            refine lv_bipush (v := 8) hx hb dX8_unionGain_150 (by decide) ?_
            refine lv_icmp_ge (tgt := 178) hx hb dX8_unionGain_152 (by decide) (fun c_19 => ?_) (fun c_19 => ?_)
            · have hst : f_X8_unionGain_st2 w012_10 i7_17 w07_18 = .inr (i7_17, w07_18) := by rw [f_X8_unionGain_st2, if_pos c_19]
              exact cont2 i7_17 w07_18 (lp_inr hst hF2) hi2_0 _ _ hP hD hS _ (lv_sub hl [0, 1, 2, 3, 4, 5] rfl)
            · refine lv_aload_n hx hb dX8_unionGain_155 rfl (lv_at hl 0 rfl) ?_
              refine va_get (D := D) (ci := 6) (v := .ref (a 1)) (C := RX8) (T := TX8) (N := 14) hx hb hts inX8 hown hK0.1 hP 0 rfl rfl 0 (by decide) (hts (.fieldLink RX8 7 "PivotChamberModel" "s" "[I") (List.mem_of_getElem? (i := 1) rfl)) (fun _ h9 => h9) rfl dX8_unionGain_156 ?_
              refine lv_bipush (v := 11) hx hb dX8_unionGain_159 (by decide) ?_
              refine lv_iload hx hb dX8_unionGain_161 (lv_at hl 5 rfl) ?_
              refine lv_iadd hx hb dX8_unionGain_163 ?_
              refine lv_aload_n hx hb dX8_unionGain_164 rfl (lv_at hl 0 rfl) ?_
              refine va_get (D := D) (ci := 6) (v := .ref (a 6)) (C := RX8) (T := TX8) (N := 14) hx hb hts inX8 hown hK0.1 hP 0 rfl rfl 10 (by decide) (hts (.fieldLink RX8 26 "PivotChamberModel" "held" "[I") (List.mem_of_getElem? (i := 2) rfl)) (fun _ h9 => h9) rfl dX8_unionGain_165 ?_
              refine lv_iload hx hb dX8_unionGain_168 (lv_at hl 5 rfl) ?_
              refine va_iald hx hb hK0.1 hP 6 0 rfl rfl (ix_self (K := 8) (N := 8) hi2_0 c_19 (by decide) (by decide)) dX8_unionGain_170 ?_
              refine va_iast hx hb hK0.1 hP hD hS 1 0 rfl rfl (ix_loop (K := 8) (N := 27) hi2_0 c_19 (by decide) (by decide)) dX8_unionGain_171 (fun H locs hP hD hS => ?_)
              have hP : va_P D vwCl (wModE cy a y0 y1 y2 0 u_13.1 y5 y6 (upd w07_18 (11 + i7_17).toNatClampNeg (w012_10 i7_17.toNatClampNeg)) y8 y9 u_13.2 y11 w012_10 y13) H := hP
              have hD : va_D A (wModE cy a y0 y1 y2 0 u_13.1 y5 y6 (upd w07_18 (11 + i7_17).toNatClampNeg (w012_10 i7_17.toNatClampNeg)) y8 y9 u_13.2 y11 w012_10 y13) := hD
              refine lv_iinc (v := (i7_17 + 1)) (lv' := [(7, .int (i7_17 + 1)), (0, .ref (a 0)), (1, .int x0), (2, .int x1), (3, .double (FP.dadd (f_X8_partOf u_5.1 y7 u_5.2 x0) (f_X8_partOf u_5.1 y7 u_5.2 x1))), (5, .double (f_X8_partOf u_13.1 w07_12 u_13.2 x0))]) hx hb dX8_unionGain_172 hl (k := 5) rfl rfl (by decide) rfl (fun ls hl => ?_)
              refine lv_goto (tgt := 148) hx hb dX8_unionGain_175 (by decide) ?_
              have hst : f_X8_unionGain_st2 w012_10 i7_17 w07_18 = .inl ((i7_17 + 1), (upd w07_18 (11 + i7_17).toNatClampNeg (w012_10 i7_17.toNatClampNeg))) := by rw [f_X8_unionGain_st2, if_neg c_19]
              have hmu : ((8 : Int32).toInt - ((i7_17 + 1) : Int32).toInt).toNat < ((8 : Int32).toInt - (i7_17 : Int32).toInt).toNat := mu_up c_19
              exact ih2 (i7_17 + 1) (upd w07_18 (11 + i7_17).toNatClampNeg (w012_10 i7_17.toNatClampNeg)) (Nat.lt_of_lt_of_le hmu (Nat.le_of_lt_succ hlt2)) (lp_inl hst hF2) (nn_up hi2_0 c_19) _ _ hP hD hS _ (lv_sub hl [1, 2, 3, 4, 5, 0] rfl)
        exact key (((8 : Int32).toInt - (0 : Int32).toInt).toNat + 1) 0 w07_12 (Nat.lt_succ_self _) rfl (by decide) _ _ hP hD hS _ (lv_sub hl [2, 3, 4, 5, 1, 0] rfl)
      have key : ∀ (nf : Nat) (i5_11 : Int32) (w07_12 : (Nat → Int32)), (((y7 0) : Int32).toInt - (i5_11 : Int32).toInt).toNat < nf → lp (fun (x : Int32 × (Nat → Int32)) => f_X8_unionGain_st1 x0 x1 w012_10 x.1 x.2) default nf (i5_11, w07_12) = lp (fun (x : Int32 × (Nat → Int32)) => f_X8_unionGain_st1 x0 x1 w012_10 x.1 x.2) default ((((y7 0) : Int32).toInt - (0 : Int32).toInt).toNat + 1) (0, y7) → (w07_12 0) = (y7 0) → (w07_12 2) = (y7 2) → ¬ i5_11 < 0 → ∀ (H : Heap) (locs : List Loc), va_P D vwCl (wModE cy a y0 y1 y2 0 u_5.1 y5 y6 w07_12 y8 y9 u_5.2 y11 w012_10 y13) H → va_D A (wModE cy a y0 y1 y2 0 u_5.1 y5 y6 w07_12 y8 y9 u_5.2 y11 w012_10 y13) → va_S A s.heap H locs → ∀ ls : Array Slot, lv_has ls 8 [(0, .ref (a 0)), (1, .int x0), (2, .int x1), (3, .double (FP.dadd (f_X8_partOf u_5.1 y7 u_5.2 x0) (f_X8_partOf u_5.1 y7 u_5.2 x1))), (5, .int i5_11)] → W p l e (headSpec wsX8_unionGain ({ frames := 4, cells := 0, slots := 0, locals := 91 } : Room)).room s m ([.ref (a 0), .int x0, .int x1] : List Value).toArray below meth c H locs 0 0 (MQ below (va_Qd (fun (r : UInt64) (u : Int32 × Int32 × (Nat → Int32) × (Nat → Int32) × (Nat → Int32)) => f_X8_unionGain y4 y7 y10 y12 x0 x1 = (r, u)) (fun u t => va_P D vwCl (wModE cy a y0 y1 y2 u.1 u.2.1 y5 y6 u.2.2.1 y8 y9 u.2.2.2.1 y11 u.2.2.2.2 y13) t.heap) A) ([.ref (a 0), .int x0, .int x1] : List Value).toArray s 0 0 A) (F0 m 73 ls []) := by
        intro n1
        induction n1 with
        | zero => intro i5_11 w07_12 hlt; exact absurd hlt (Nat.not_lt_zero _)
        | succ n1 ih1 =>
          intro i5_11 w07_12 hlt1 hF1 hi1_0 hi1_1 hi1_2 H locs hP hD hS ls hl
          refine lv_iload hx hb dX8_unionGain_73 (lv_at hl 4 rfl) ?_
          refine lv_aload_n hx hb dX8_unionGain_75 rfl (lv_at hl 0 rfl) ?_
          refine va_get (D := D) (ci := 6) (v := .ref (a 1)) (C := RX8) (T := TX8) (N := 14) hx hb hts inX8 hown hK0.1 hP 0 rfl rfl 0 (by decide) (hts (.fieldLink RX8 7 "PivotChamberModel" "s" "[I") (List.mem_of_getElem? (i := 1) rfl)) (fun _ h9 => h9) rfl dX8_unionGain_76 ?_
          refine lv_iconst (v := 0) hx hb dX8_unionGain_79 (by decide) ?_
          refine va_iald hx hb hK0.1 hP 1 0 rfl rfl (vp_in_nI (n := 0) (N := 27) (by decide) (by decide)) dX8_unionGain_80 ?_
          refine W.eq (g2 := F0 m 81 ls [.int (w07_12 0), .int i5_11]) rfl ?_
          refine lv_icmp_ge (tgt := 128) hx hb dX8_unionGain_81 (by decide) (fun c_20 => ?_) (fun c_20 => ?_)
          · have hst : f_X8_unionGain_st1 x0 x1 w012_10 i5_11 w07_12 = .inr (i5_11, w07_12) := by rw [f_X8_unionGain_st1, if_pos c_20]
            exact cont1 i5_11 w07_12 (lp_inr hst hF1) hi1_0 hi1_1 hi1_2 _ _ hP hD hS _ (lv_sub hl [0, 1, 2, 3, 4] rfl)
          · refine lv_aload_n hx hb dX8_unionGain_84 rfl (lv_at hl 0 rfl) ?_
            refine va_get (D := D) (ci := 6) (v := .ref (a 1)) (C := RX8) (T := TX8) (N := 14) hx hb hts inX8 hown hK0.1 hP 0 rfl rfl 0 (by decide) (hts (.fieldLink RX8 7 "PivotChamberModel" "s" "[I") (List.mem_of_getElem? (i := 1) rfl)) (fun _ h9 => h9) rfl dX8_unionGain_85 ?_
            refine lv_bipush (v := 11) hx hb dX8_unionGain_88 (by decide) ?_
            refine lv_iload hx hb dX8_unionGain_90 (lv_at hl 4 rfl) ?_
            refine lv_iadd hx hb dX8_unionGain_92 ?_
            refine lv_iload hx hb dX8_unionGain_93 (lv_at hl 4 rfl) ?_
            refine lv_iload_n hx hb dX8_unionGain_95 rfl (lv_at hl 2 rfl) ?_
            refine lv_icmp_eq (tgt := 110) hx hb dX8_unionGain_96 (by decide) (fun c_21 => ?_) (fun c_21 => ?_)
            · refine lv_iload_n hx hb dX8_unionGain_110 rfl (lv_at hl 1 rfl) ?_
              refine lv_goto (tgt := 121) hx hb dX8_unionGain_111 (by decide) ?_
              refine va_iast hx hb hK0.1 hP hD hS 1 0 rfl rfl (ix_loop (K := 8) (N := 27) hi1_2 c_20 (by rw [hi1_0]; exact hm8) (by decide)) dX8_unionGain_121 (fun H locs hP hD hS => ?_)
              have hP : va_P D vwCl (wModE cy a y0 y1 y2 0 u_5.1 y5 y6 (upd w07_12 (11 + i5_11).toNatClampNeg x0) y8 y9 u_5.2 y11 w012_10 y13) H := hP
              have hD : va_D A (wModE cy a y0 y1 y2 0 u_5.1 y5 y6 (upd w07_12 (11 + i5_11).toNatClampNeg x0) y8 y9 u_5.2 y11 w012_10 y13) := hD
              refine lv_iinc (v := (i5_11 + 1)) (lv' := [(5, .int (i5_11 + 1)), (0, .ref (a 0)), (1, .int x0), (2, .int x1), (3, .double (FP.dadd (f_X8_partOf u_5.1 y7 u_5.2 x0) (f_X8_partOf u_5.1 y7 u_5.2 x1)))]) hx hb dX8_unionGain_122 hl (k := 4) rfl rfl (by decide) rfl (fun ls hl => ?_)
              refine lv_goto (tgt := 73) hx hb dX8_unionGain_125 (by decide) ?_
              have hst : f_X8_unionGain_st1 x0 x1 w012_10 i5_11 w07_12 = .inl ((i5_11 + 1), (upd w07_12 (11 + i5_11).toNatClampNeg x0)) := by rw [f_X8_unionGain_st1, if_neg c_20, if_pos c_21]
              have hmu : (((y7 0) : Int32).toInt - ((i5_11 + 1) : Int32).toInt).toNat < (((y7 0) : Int32).toInt - (i5_11 : Int32).toInt).toNat := mu_up (by rw [← hi1_0]; exact c_20)
              exact ih1 (i5_11 + 1) (upd w07_12 (11 + i5_11).toNatClampNeg x0) (Nat.lt_of_lt_of_le hmu (Nat.le_of_lt_succ hlt1)) (lp_inl hst hF1) (by rw [upd_lo (N := 27) hi1_2 (ix_loop (K := 8) (N := 27) hi1_2 c_20 (by rw [hi1_0]; exact hm8) (by decide)) (by decide) (by decide)]; exact hi1_0) (by rw [upd_lo (N := 27) hi1_2 (ix_loop (K := 8) (N := 27) hi1_2 c_20 (by rw [hi1_0]; exact hm8) (by decide)) (by decide) (by decide)]; exact hi1_1) (nn_up hi1_2 c_20) _ _ hP hD hS _ (lv_sub hl [1, 2, 3, 4, 0] rfl)
            · refine lv_aload_n hx hb dX8_unionGain_99 rfl (lv_at hl 0 rfl) ?_
              refine va_get (D := D) (ci := 6) (v := .ref (a 6)) (C := RX8) (T := TX8) (N := 14) hx hb hts inX8 hown hK0.1 hP 0 rfl rfl 10 (by decide) (hts (.fieldLink RX8 26 "PivotChamberModel" "held" "[I") (List.mem_of_getElem? (i := 2) rfl)) (fun _ h9 => h9) rfl dX8_unionGain_100 ?_
              refine lv_iload hx hb dX8_unionGain_103 (lv_at hl 4 rfl) ?_
              refine va_iald hx hb hK0.1 hP 6 0 rfl rfl (ix_self (K := 8) (N := 8) hi1_2 c_20 (by rw [hi1_0]; exact hm8) (by decide)) dX8_unionGain_105 ?_
              refine lv_iload_n hx hb dX8_unionGain_106 rfl (lv_at hl 2 rfl) ?_
              refine lv_icmp_ne (tgt := 114) hx hb dX8_unionGain_107 (by decide) (fun c_22 => ?_) (fun c_22 => ?_)
              · refine lv_aload_n hx hb dX8_unionGain_114 rfl (lv_at hl 0 rfl) ?_
                refine va_get (D := D) (ci := 6) (v := .ref (a 6)) (C := RX8) (T := TX8) (N := 14) hx hb hts inX8 hown hK0.1 hP 0 rfl rfl 10 (by decide) (hts (.fieldLink RX8 26 "PivotChamberModel" "held" "[I") (List.mem_of_getElem? (i := 2) rfl)) (fun _ h9 => h9) rfl dX8_unionGain_115 ?_
                refine lv_iload hx hb dX8_unionGain_118 (lv_at hl 4 rfl) ?_
                refine va_iald hx hb hK0.1 hP 6 0 rfl rfl (ix_self (K := 8) (N := 8) hi1_2 c_20 (by rw [hi1_0]; exact hm8) (by decide)) dX8_unionGain_120 ?_
                refine va_iast hx hb hK0.1 hP hD hS 1 0 rfl rfl (ix_loop (K := 8) (N := 27) hi1_2 c_20 (by rw [hi1_0]; exact hm8) (by decide)) dX8_unionGain_121 (fun H locs hP hD hS => ?_)
                have hP : va_P D vwCl (wModE cy a y0 y1 y2 0 u_5.1 y5 y6 (upd w07_12 (11 + i5_11).toNatClampNeg (w012_10 i5_11.toNatClampNeg)) y8 y9 u_5.2 y11 w012_10 y13) H := hP
                have hD : va_D A (wModE cy a y0 y1 y2 0 u_5.1 y5 y6 (upd w07_12 (11 + i5_11).toNatClampNeg (w012_10 i5_11.toNatClampNeg)) y8 y9 u_5.2 y11 w012_10 y13) := hD
                refine lv_iinc (v := (i5_11 + 1)) (lv' := [(5, .int (i5_11 + 1)), (0, .ref (a 0)), (1, .int x0), (2, .int x1), (3, .double (FP.dadd (f_X8_partOf u_5.1 y7 u_5.2 x0) (f_X8_partOf u_5.1 y7 u_5.2 x1)))]) hx hb dX8_unionGain_122 hl (k := 4) rfl rfl (by decide) rfl (fun ls hl => ?_)
                refine lv_goto (tgt := 73) hx hb dX8_unionGain_125 (by decide) ?_
                have hst : f_X8_unionGain_st1 x0 x1 w012_10 i5_11 w07_12 = .inl ((i5_11 + 1), (upd w07_12 (11 + i5_11).toNatClampNeg (w012_10 i5_11.toNatClampNeg))) := by rw [f_X8_unionGain_st1, if_neg c_20, if_neg c_21, if_neg c_22]
                have hmu : (((y7 0) : Int32).toInt - ((i5_11 + 1) : Int32).toInt).toNat < (((y7 0) : Int32).toInt - (i5_11 : Int32).toInt).toNat := mu_up (by rw [← hi1_0]; exact c_20)
                exact ih1 (i5_11 + 1) (upd w07_12 (11 + i5_11).toNatClampNeg (w012_10 i5_11.toNatClampNeg)) (Nat.lt_of_lt_of_le hmu (Nat.le_of_lt_succ hlt1)) (lp_inl hst hF1) (by rw [upd_lo (N := 27) hi1_2 (ix_loop (K := 8) (N := 27) hi1_2 c_20 (by rw [hi1_0]; exact hm8) (by decide)) (by decide) (by decide)]; exact hi1_0) (by rw [upd_lo (N := 27) hi1_2 (ix_loop (K := 8) (N := 27) hi1_2 c_20 (by rw [hi1_0]; exact hm8) (by decide)) (by decide) (by decide)]; exact hi1_1) (nn_up hi1_2 c_20) _ _ hP hD hS _ (lv_sub hl [1, 2, 3, 4, 0] rfl)
              · refine lv_iload_n hx hb dX8_unionGain_110 rfl (lv_at hl 1 rfl) ?_
                refine lv_goto (tgt := 121) hx hb dX8_unionGain_111 (by decide) ?_
                refine va_iast hx hb hK0.1 hP hD hS 1 0 rfl rfl (ix_loop (K := 8) (N := 27) hi1_2 c_20 (by rw [hi1_0]; exact hm8) (by decide)) dX8_unionGain_121 (fun H locs hP hD hS => ?_)
                have hP : va_P D vwCl (wModE cy a y0 y1 y2 0 u_5.1 y5 y6 (upd w07_12 (11 + i5_11).toNatClampNeg x0) y8 y9 u_5.2 y11 w012_10 y13) H := hP
                have hD : va_D A (wModE cy a y0 y1 y2 0 u_5.1 y5 y6 (upd w07_12 (11 + i5_11).toNatClampNeg x0) y8 y9 u_5.2 y11 w012_10 y13) := hD
                refine lv_iinc (v := (i5_11 + 1)) (lv' := [(5, .int (i5_11 + 1)), (0, .ref (a 0)), (1, .int x0), (2, .int x1), (3, .double (FP.dadd (f_X8_partOf u_5.1 y7 u_5.2 x0) (f_X8_partOf u_5.1 y7 u_5.2 x1)))]) hx hb dX8_unionGain_122 hl (k := 4) rfl rfl (by decide) rfl (fun ls hl => ?_)
                refine lv_goto (tgt := 73) hx hb dX8_unionGain_125 (by decide) ?_
                have hst : f_X8_unionGain_st1 x0 x1 w012_10 i5_11 w07_12 = .inl ((i5_11 + 1), (upd w07_12 (11 + i5_11).toNatClampNeg x0)) := by rw [f_X8_unionGain_st1, if_neg c_20, if_neg c_21, if_pos c_22]
                have hmu : (((y7 0) : Int32).toInt - ((i5_11 + 1) : Int32).toInt).toNat < (((y7 0) : Int32).toInt - (i5_11 : Int32).toInt).toNat := mu_up (by rw [← hi1_0]; exact c_20)
                exact ih1 (i5_11 + 1) (upd w07_12 (11 + i5_11).toNatClampNeg x0) (Nat.lt_of_lt_of_le hmu (Nat.le_of_lt_succ hlt1)) (lp_inl hst hF1) (by rw [upd_lo (N := 27) hi1_2 (ix_loop (K := 8) (N := 27) hi1_2 c_20 (by rw [hi1_0]; exact hm8) (by decide)) (by decide) (by decide)]; exact hi1_0) (by rw [upd_lo (N := 27) hi1_2 (ix_loop (K := 8) (N := 27) hi1_2 c_20 (by rw [hi1_0]; exact hm8) (by decide)) (by decide) (by decide)]; exact hi1_1) (nn_up hi1_2 c_20) _ _ hP hD hS _ (lv_sub hl [1, 2, 3, 4, 0] rfl)
      exact key ((((y7 0) : Int32).toInt - (0 : Int32).toInt).toNat + 1) 0 y7 (Nat.lt_succ_self _) rfl (Eq.refl _) (Eq.refl _) (by decide) _ _ hP hD hS _ (lv_sub hl [1, 2, 3, 4, 0] rfl)
    have key : ∀ (nf : Nat) (i5_9 : Int32) (w012_10 : (Nat → Int32)), ((8 : Int32).toInt - (i5_9 : Int32).toInt).toNat < nf → lp (fun (x : Int32 × (Nat → Int32)) => f_X8_unionGain_st y7 x.1 x.2) default nf (i5_9, w012_10) = lp (fun (x : Int32 × (Nat → Int32)) => f_X8_unionGain_st y7 x.1 x.2) default (((8 : Int32).toInt - (0 : Int32).toInt).toNat + 1) (0, y12) → ¬ i5_9 < 0 → ∀ (H : Heap) (locs : List Loc), va_P D vwCl (wModE cy a y0 y1 y2 0 u_5.1 y5 y6 y7 y8 y9 u_5.2 y11 w012_10 y13) H → va_D A (wModE cy a y0 y1 y2 0 u_5.1 y5 y6 y7 y8 y9 u_5.2 y11 w012_10 y13) → va_S A s.heap H locs → ∀ ls : Array Slot, lv_has ls 8 [(0, .ref (a 0)), (1, .int x0), (2, .int x1), (3, .double (FP.dadd (f_X8_partOf u_5.1 y7 u_5.2 x0) (f_X8_partOf u_5.1 y7 u_5.2 x1))), (5, .int i5_9)] → W p l e (headSpec wsX8_unionGain ({ frames := 4, cells := 0, slots := 0, locals := 91 } : Room)).room s m ([.ref (a 0), .int x0, .int x1] : List Value).toArray below meth c H locs 0 0 (MQ below (va_Qd (fun (r : UInt64) (u : Int32 × Int32 × (Nat → Int32) × (Nat → Int32) × (Nat → Int32)) => f_X8_unionGain y4 y7 y10 y12 x0 x1 = (r, u)) (fun u t => va_P D vwCl (wModE cy a y0 y1 y2 u.1 u.2.1 y5 y6 u.2.2.1 y8 y9 u.2.2.2.1 y11 u.2.2.2.2 y13) t.heap) A) ([.ref (a 0), .int x0, .int x1] : List Value).toArray s 0 0 A) (F0 m 40 ls []) := by
      intro n0
      induction n0 with
      | zero => intro i5_9 w012_10 hlt; exact absurd hlt (Nat.not_lt_zero _)
      | succ n0 ih0 =>
        intro i5_9 w012_10 hlt0 hF0 hi0_0 H locs hP hD hS ls hl
        refine lv_iload hx hb dX8_unionGain_40 (lv_at hl 4 rfl) ?_
        refine lv_bipush (v := 8) hx hb dX8_unionGain_42 (by decide) ?_
        refine lv_icmp_ge (tgt := 70) hx hb dX8_unionGain_44 (by decide) (fun c_23 => ?_) (fun c_23 => ?_)
        · have hst : f_X8_unionGain_st y7 i5_9 w012_10 = .inr (i5_9, w012_10) := by rw [f_X8_unionGain_st, if_pos c_23]
          exact cont0 i5_9 w012_10 (lp_inr hst hF0) hi0_0 _ _ hP hD hS _ (lv_sub hl [0, 1, 2, 3, 4] rfl)
        · refine lv_aload_n hx hb dX8_unionGain_47 rfl (lv_at hl 0 rfl) ?_
          refine va_get (D := D) (ci := 6) (v := .ref (a 6)) (C := RX8) (T := TX8) (N := 14) hx hb hts inX8 hown hK0.1 hP 0 rfl rfl 10 (by decide) (hts (.fieldLink RX8 26 "PivotChamberModel" "held" "[I") (List.mem_of_getElem? (i := 2) rfl)) (fun _ h9 => h9) rfl dX8_unionGain_48 ?_
          refine lv_iload hx hb dX8_unionGain_51 (lv_at hl 4 rfl) ?_
          refine lv_aload_n hx hb dX8_unionGain_53 rfl (lv_at hl 0 rfl) ?_
          refine va_get (D := D) (ci := 6) (v := .ref (a 1)) (C := RX8) (T := TX8) (N := 14) hx hb hts inX8 hown hK0.1 hP 0 rfl rfl 0 (by decide) (hts (.fieldLink RX8 7 "PivotChamberModel" "s" "[I") (List.mem_of_getElem? (i := 1) rfl)) (fun _ h9 => h9) rfl dX8_unionGain_54 ?_
          refine lv_bipush (v := 11) hx hb dX8_unionGain_57 (by decide) ?_
          refine lv_iload hx hb dX8_unionGain_59 (lv_at hl 4 rfl) ?_
          refine lv_iadd hx hb dX8_unionGain_61 ?_
          refine va_iald hx hb hK0.1 hP 1 0 rfl rfl (ix_loop (K := 8) (N := 27) hi0_0 c_23 (by decide) (by decide)) dX8_unionGain_62 ?_
          refine va_iast hx hb hK0.1 hP hD hS 6 0 rfl rfl (ix_self (K := 8) (N := 8) hi0_0 c_23 (by decide) (by decide)) dX8_unionGain_63 (fun H locs hP hD hS => ?_)
          have hP : va_P D vwCl (wModE cy a y0 y1 y2 0 u_5.1 y5 y6 y7 y8 y9 u_5.2 y11 (upd w012_10 i5_9.toNatClampNeg (y7 (11 + i5_9).toNatClampNeg)) y13) H := hP
          have hD : va_D A (wModE cy a y0 y1 y2 0 u_5.1 y5 y6 y7 y8 y9 u_5.2 y11 (upd w012_10 i5_9.toNatClampNeg (y7 (11 + i5_9).toNatClampNeg)) y13) := hD
          refine lv_iinc (v := (i5_9 + 1)) (lv' := [(5, .int (i5_9 + 1)), (0, .ref (a 0)), (1, .int x0), (2, .int x1), (3, .double (FP.dadd (f_X8_partOf u_5.1 y7 u_5.2 x0) (f_X8_partOf u_5.1 y7 u_5.2 x1)))]) hx hb dX8_unionGain_64 hl (k := 4) rfl rfl (by decide) rfl (fun ls hl => ?_)
          refine lv_goto (tgt := 40) hx hb dX8_unionGain_67 (by decide) ?_
          have hst : f_X8_unionGain_st y7 i5_9 w012_10 = .inl ((i5_9 + 1), (upd w012_10 i5_9.toNatClampNeg (y7 (11 + i5_9).toNatClampNeg))) := by rw [f_X8_unionGain_st, if_neg c_23]
          have hmu : ((8 : Int32).toInt - ((i5_9 + 1) : Int32).toInt).toNat < ((8 : Int32).toInt - (i5_9 : Int32).toInt).toNat := mu_up c_23
          exact ih0 (i5_9 + 1) (upd w012_10 i5_9.toNatClampNeg (y7 (11 + i5_9).toNatClampNeg)) (Nat.lt_of_lt_of_le hmu (Nat.le_of_lt_succ hlt0)) (lp_inl hst hF0) (nn_up hi0_0 c_23) _ _ hP hD hS _ (lv_sub hl [1, 2, 3, 4, 0] rfl)
    exact key (((8 : Int32).toInt - (0 : Int32).toInt).toNat + 1) 0 y12 (Nat.lt_succ_self _) rfl (by decide) _ _ hP hD hS _ (lv_sub hl [2, 3, 4, 1, 0] rfl)
  · refine W.eq (g2 := F0 m 7 ls [.int (f_X8_wrongTwo y7 x0 x1), .ref (a 0)]) (by rfl) ?_
    refine mu_alli (wf := fun (u_24 : Int32) => (wModE cy a y0 y1 y2 u_24 y4 y5 y6 y7 y8 y9 y10 y11 y12 y13)) (va_runV (C := RX8) (As := [.int (f_X8_wrongTwo y7 x0 x1)]) (rest := []) S (c_X8_throwsAt l D cy g B a y0 y1 y2 y3 y4 y5 y6 y7 y8 y9 y10 y11 y12 y13 (f_X8_wrongTwo y7 x0 x1)) (cwV 1 hts gX8_unionGain_X8_throwsAt rfl rfl rfl hd_X8_throwsAt_V ⟨Nat.le_of_ble_eq_true rfl, Nat.le_of_ble_eq_true rfl⟩) ⟨muP_blind, va_recv hK0.1 hP (ci := 6) (q0 := 0) rfl rfl, my_preA hK0 hS hAB hP hD⟩ rfl rfl hl.1 rfl (lv_room (Nat.le_of_ble_eq_true rfl)) dX8_unionGain_7 ⟨Nat.zero_le _, Nat.zero_le _⟩) hS hD (fun _ => by simp only [List.map_cons, List.map_nil, adrSet, adrSetE, adrPow, adrPowE, adrTxt, adrTxtE, adrSav, adrSavE, adrPCo, adrMod, adrModE]) (fun r_26 u_24 H locs hw_25 hP hD hS => ?_)
    obtain ⟨rfl, rfl⟩ : 1 = r_26 ∧ (f_X8_wrongTwo y7 x0 x1) = u_24 := my_thr_lit (thr_pos (wt_pos c_1)) hw_25
    refine lv_if_eq (tgt := 15) hx hb dX8_unionGain_10 (by decide) (fun h => absurd h (by decide)) (fun _ => ?_)
    refine lv_dconst0 hx hb dX8_unionGain_13 ?_
    have hP : va_P D vwCl (wModE cy a y0 y1 y2 (f_X8_wrongTwo y7 x0 x1) y4 y5 y6 y7 y8 y9 y10 y11 y12 y13) H := hP
    have hD : va_D A (wModE cy a y0 y1 y2 (f_X8_wrongTwo y7 x0 x1) y4 y5 y6 y7 y8 y9 y10 y11 y12 y13) := hD
    exact W.dret hx hb hr (fun t ht hW => ⟨⟨FP.dconst0, ((f_X8_wrongTwo y7 x0 x1), y4, y7, y10, y12), rfl, (show f_X8_unionGain y4 y7 y10 y12 x0 x1 = (FP.dconst0, ((f_X8_wrongTwo y7 x0 x1), y4, y7, y10, y12)) from by rw [f_X8_unionGain, if_neg c_1]), by show va_P D vwCl _ t.heap; rw [ht]; exact hP⟩, hS.F ht⟩) hS.2.2 dX8_unionGain_14
