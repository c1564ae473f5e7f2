theorem hd_X8_dropRule_S : yX8_dropRule.cls ≠ "java/lang/invoke/MethodHandle" ∧ yX8_dropRule.cls ≠ "java/lang/invoke/VarHandle" ∧ (parseMethodDescriptor yX8_dropRule.desc).map (fun d => d.parameters.length) = some 1 := by decide +kernel
theorem hd_X8_dropRule_V : yX8_dropRule.cls = RX8 ∧ yX8_dropRule.cls ≠ "java/lang/invoke/MethodHandle" ∧ yX8_dropRule.cls ≠ "java/lang/invoke/VarHandle" ∧ (parseMethodDescriptor yX8_dropRule.desc).map (fun d => d.parameters.length) = some 1 := ⟨rfl, hd_X8_dropRule_S⟩
def f_X8_dropRule_st  (i2_10 : Int32) (w07_11 : (Nat → Int32)) : (Int32 × (Nat → Int32)) ⊕ (Int32 × (Nat → Int32)) := (if (w07_11 2) ≤ i2_10 then (.inr (i2_10, w07_11)) else (.inl ((i2_10 + 1), (upd (upd w07_11 (19 + i2_10).toNatClampNeg (w07_11 ((19 + i2_10) + 1).toNatClampNeg)) (23 + i2_10).toNatClampNeg ((upd w07_11 (19 + i2_10).toNatClampNeg (w07_11 ((19 + i2_10) + 1).toNatClampNeg)) ((23 + i2_10) + 1).toNatClampNeg)))))
def f_X8_dropRule (y0 : Int32) (y1 : Int32) (y7 : (Nat → Int32)) (y8 : (Nat → Int32)) (x0 : Int32) : Int32 × (Int32 × Int32 × (Nat → Int32) × (Nat → Int32)) := (if (f_X8_isRule y7 x0) = 0 then (0, (y0, 1, y7, y8)) else (my_l (f_X8_saves y0 y1 y7 y8) (fun (u_8 : Int32 × (Nat → Int32)) => (my_t2 (lp (fun (x : Int32 × (Nat → Int32)) => f_X8_dropRule_st x.1 x.2) default (((((y7 2) - 1) : Int32).toInt - (x0 : Int32).toInt).toNat + 1) (x0, (upd y7 2 ((y7 2) - 1)))) (fun (i2_10 : Int32) (w07_11 : (Nat → Int32)) => ((w07_11 2), (u_8.1, 0, w07_11, u_8.2)))))))
set_option maxHeartbeats 400000 in
set_option maxRecDepth 100000 in
theorem c_X8_dropRule (l : Launch) (D : va_G) (cy : Nat → ClassId) (g : Nat → Nat) (B : Nat) (a : Nat → Nat) (y0 : Int32) (y1 : Int32) (y2 : Int32) (y3 : Int32) (y4 : Int32) (y5 : Int32) (y6 : Int32) (y7 : (Nat → Int32)) (y8 : (Nat → Int32)) (y9 : (Nat → Int32)) (y10 : (Nat → Int32)) (y11 : (Nat → Int32)) (y12 : (Nat → Int32)) (y13 : (Nat → Int32)) (x0 : Int32) (hpa0 : ¬ y0 < 0) (hpa4 : ¬ 4 < y0) (hR4 : ¬ 4 < (y7 2)) : Met l yX8_dropRule wsX8_dropRule ({ frames := 1, cells := 0, slots := 0, locals := 21 }) (muP D cy g B (wModE cy a y0 y1 y2 y3 y4 y5 y6 y7 y8 y9 y10 y11 y12 y13) [.ref (a 0), .int x0]) (va_Qi (fun (r : Int32) (u : Int32 × Int32 × (Nat → Int32) × (Nat → Int32)) => f_X8_dropRule y0 y1 y7 y8 x0 = (r, u)) (fun u t => va_P D vwCl (wModE cy a u.1 y1 y2 u.2.1 y4 y5 y6 u.2.2.1 u.2.2.2 y9 y10 y11 y12 y13) t.heap) (muA (wModE cy a y0 y1 y2 y3 y4 y5 y6 y7 y8 y9 y10 y11 y12 y13))) 0 0 (muA (wModE cy a y0 y1 y2 y3 y4 y5 y6 y7 y8 y9 y10 y11 y12 y13)) := by
  refine Met.ofW (cc := cX8_dropRule) (maxL := 3) (ret := (some .int)) (by decide) rfl ?_
  intro p e s m args below meth c s₁ BB hml hv
  obtain ⟨rfl, hP, hK0, hD0⟩ := hv
  have hx := BB.exec
  have hb := BB.bytes
  have hr := BB.returns
  have hts := atoms_spec (ws := wsX8_dropRule) BB.pre
  have hown : s.vm.findClass RX8 = some m.cls := findClass_of_methodNamed BB.named
  have hlocks := BB.notSynchronized
  have S := my_fix hx hb hml hown hts
  have inX8 : ∀ w ∈ wsX80, w ∈ wsX8_dropRule := fun w h => List.mem_cons_of_mem _ (List.mem_append_right _ h)
  have hAB := muB hD0
  have hD := muD hD0
  generalize hAe : muA (wModE cy a y0 y1 y2 y3 y4 y5 y6 y7 y8 y9 y10 y11 y12 y13) = A at hAB hD ⊢
  have hS : va_S A s.heap s.heap [] := va_S.rf
  have hl := lv_entry ([.ref (a 0), .int x0]) (n := 3) (Nat.le_of_ble_eq_true rfl)
  rw [lg_entry_eq]
  generalize (lg_sl ([.ref (a 0), .int x0]) ++ List.replicate (3 - (lg_sl ([.ref (a 0), .int x0])).length) Slot.unset).toArray = ls at hl ⊢
  have hl : lv_has ls 3 [(0, .ref (a 0)), (1, .int x0)] := hl
  refine lv_aload_n hx hb dX8_dropRule_0 rfl (lv_at hl 0 rfl) ?_
  refine lv_aload_n hx hb dX8_dropRule_1 rfl (lv_at hl 0 rfl) ?_
  refine lv_iload_n hx hb dX8_dropRule_2 rfl (lv_at hl 1 rfl) ?_
  refine rd_goi (va_runV (C := RX8) (As := [.int x0]) (rest := [.ref (a 0)]) S (c_X8_isRule l D cy g B a y0 y1 y2 y3 y4 y5 y6 y7 y8 y9 y10 y11 y12 y13 x0) (cwV 1 hts gX8_dropRule_X8_isRule rfl rfl rfl hd_X8_isRule_V ⟨Nat.le_of_ble_eq_true rfl, Nat.le_of_ble_eq_true rfl⟩) ⟨rdP_blind, va_recv hK0.1 hP (ci := 6) (q0 := 0) rfl rfl, my_preP hK0 hS hAB hP⟩ rfl rfl hl.1 rfl (lv_room (Nat.le_of_ble_eq_true rfl)) dX8_dropRule_3 ⟨Nat.zero_le _, Nat.zero_le _⟩) ?_
  refine lv_if_eq (tgt := 13) hx hb dX8_dropRule_6 (by decide) (fun c_1 => ?_) (fun c_1 => ?_)
  · refine lv_iconst (v := 1) hx hb dX8_dropRule_13 (by decide) ?_
    refine mu_alli (wf := fun (u_2 : Int32) => (wModE cy a y0 y1 y2 u_2 y4 y5 y6 y7 y8 y9 y10 y11 y12 y13)) (va_runV (C := RX8) (As := [.int 1]) (rest := []) S (c_X8_throwsAt l D cy g B a y0 y1 y2 y3 y4 y5 y6 y7 y8 y9 y10 y11 y12 y13 1) (cwV 1 hts gX8_dropRule_X8_throwsAt rfl rfl rfl hd_X8_throwsAt_V ⟨Nat.le_of_ble_eq_true rfl, Nat.le_of_ble_eq_true rfl⟩) ⟨muP_blind, va_recv hK0.1 hP (ci := 6) (q0 := 0) rfl rfl, my_preA hK0 hS hAB hP hD⟩ rfl rfl hl.1 rfl (lv_room (Nat.le_of_ble_eq_true rfl)) dX8_dropRule_14 ⟨Nat.zero_le _, Nat.zero_le _⟩) hS hD (fun _ => by simp only [List.map_cons, List.map_nil, adrSet, adrSetE, adrPow, adrPowE, adrTxt, adrTxtE, adrSav, adrSavE, adrPCo, adrMod, adrModE]) (fun r_4 u_2 H locs hw_3 hP hD hS => ?_)
    obtain ⟨rfl, rfl⟩ : 1 = r_4 ∧ 1 = u_2 := my_thr_lit (k := 1) (by decide) hw_3
    refine lv_if_eq (tgt := 22) hx hb dX8_dropRule_17 (by decide) (fun h => absurd h (by decide)) (fun _ => ?_)
    refine lv_iconst (v := 0) hx hb dX8_dropRule_20 (by decide) ?_
    have hP : va_P D vwCl (wModE cy a y0 y1 y2 1 y4 y5 y6 y7 y8 y9 y10 y11 y12 y13) H := hP
    have hD : va_D A (wModE cy a y0 y1 y2 1 y4 y5 y6 y7 y8 y9 y10 y11 y12 y13) := hD
    exact W.iret hx hb hr (fun t ht hW => ⟨⟨0, (y0, 1, y7, y8), rfl, (show f_X8_dropRule y0 y1 y7 y8 x0 = (0, (y0, 1, y7, y8)) from by rw [f_X8_dropRule, if_pos c_1]), by show va_P D vwCl _ t.heap; rw [ht]; exact hP⟩, hS.F ht⟩) hS.2.2 dX8_dropRule_21
  · refine lv_iconst (v := 0) hx hb dX8_dropRule_9 (by decide) ?_
    refine lv_goto (tgt := 14) hx hb dX8_dropRule_10 (by decide) ?_
    refine mu_alli (wf := fun (u_5 : Int32) => (wModE cy a y0 y1 y2 u_5 y4 y5 y6 y7 y8 y9 y10 y11 y12 y13)) (va_runV (C := RX8) (As := [.int 0]) (rest := []) S (c_X8_throwsAt l D cy g B a y0 y1 y2 y3 y4 y5 y6 y7 y8 y9 y10 y11 y12 y13 0) (cwV 1 hts gX8_dropRule_X8_throwsAt rfl rfl rfl hd_X8_throwsAt_V ⟨Nat.le_of_ble_eq_true rfl, Nat.le_of_ble_eq_true rfl⟩) ⟨muP_blind, va_recv hK0.1 hP (ci := 6) (q0 := 0) rfl rfl, my_preA hK0 hS hAB hP hD⟩ rfl rfl hl.1 rfl (lv_room (Nat.le_of_ble_eq_true rfl)) dX8_dropRule_14 ⟨Nat.zero_le _, Nat.zero_le _⟩) hS hD (fun _ => by simp only [List.map_cons, List.map_nil, adrSet, adrSetE, adrPow, adrPowE, adrTxt, adrTxtE, adrSav, adrSavE, adrPCo, adrMod, adrModE]) (fun r_7 u_5 H locs hw_6 hP hD hS => ?_)
    obtain ⟨rfl, rfl⟩ : 0 = r_7 ∧ 0 = u_5 := my_thr_lit (k := 0) (by decide) hw_6
    refine lv_if_eq (tgt := 22) hx hb dX8_dropRule_17 (by decide) (fun _ => ?_) (fun h => absurd (by decide) h)
    refine lv_aload_n hx hb dX8_dropRule_22 rfl (lv_at hl 0 rfl) ?_
    refine mu_allv (wf := fun (u_8 : Int32 × (Nat → Int32)) => (wModE cy a u_8.1 y1 y2 0 y4 y5 y6 y7 u_8.2 y9 y10 y11 y12 y13)) (va_runV (C := RX8) (As := []) (rest := []) S (c_X8_saves l D cy g B a y0 y1 y2 0 y4 y5 y6 y7 y8 y9 y10 y11 y12 y13 hpa0 hpa4) (cwV 0 hts gX8_dropRule_X8_saves rfl rfl rfl hd_X8_saves_V ⟨Nat.le_of_ble_eq_true rfl, Nat.le_of_ble_eq_true rfl⟩) ⟨muP_blind, va_recv hK0.1 hP (ci := 6) (q0 := 0) rfl rfl, my_preA hK0 hS hAB hP hD⟩ rfl rfl hl.1 rfl (lv_room (Nat.le_of_ble_eq_true rfl)) dX8_dropRule_23 ⟨Nat.zero_le _, Nat.zero_le _⟩) hS hD (fun _ => by simp only [List.map_cons, List.map_nil, adrSet, adrSetE, adrPow, adrPowE, adrTxt, adrTxtE, adrSav, adrSavE, adrPCo, adrMod, adrModE]) (fun u_8 H locs hw_9 hP hD hS => ?_)
    refine lv_aload_n hx hb dX8_dropRule_26 rfl (lv_at hl 0 rfl) ?_
    refine va_get (D := D) (ci := 6) (v := .ref (a 1)) (C := RX8) (T := TX8) (N := 14) hx hb hts inX8 hown hK0.1 hP 0 rfl rfl 0 (by decide) (hts (.fieldLink RX8 7 "PivotChamberModel" "s" "[I") (List.mem_of_getElem? (i := 1) rfl)) (fun _ h9 => h9) rfl dX8_dropRule_27 ?_
    refine lv_iconst (v := 2) hx hb dX8_dropRule_30 (by decide) ?_
    refine lv_dup2_11 hx hb dX8_dropRule_31 rfl rfl ?_
    refine va_iald hx hb hK0.1 hP 1 0 rfl rfl (vp_in_nI (n := 2) (N := 27) (by decide) (by decide)) dX8_dropRule_32 ?_
    refine W.eq (g2 := F0 m 33 ls [.int (y7 2), .int 2, .ref (a 1)]) rfl ?_
    refine lv_iconst (v := 1) hx hb dX8_dropRule_33 (by decide) ?_
    refine lv_isub hx hb dX8_dropRule_34 ?_
    refine va_iast hx hb hK0.1 hP hD hS 1 0 rfl rfl (vp_in_nI (n := 2) (N := 27) (by decide) (by decide)) dX8_dropRule_35 (fun H locs hP hD hS => ?_)
    have hP : va_P D vwCl (wModE cy a u_8.1 y1 y2 0 y4 y5 y6 (upd y7 2 ((y7 2) - 1)) u_8.2 y9 y10 y11 y12 y13) H := hP
    have hD : va_D A (wModE cy a u_8.1 y1 y2 0 y4 y5 y6 (upd y7 2 ((y7 2) - 1)) u_8.2 y9 y10 y11 y12 y13) := hD
    refine lv_iload_n hx hb dX8_dropRule_36 rfl (lv_at hl 1 rfl) ?_
    refine lv_istore_n (lv' := [(2, .int x0), (0, .ref (a 0)), (1, .int x0)]) hx hb dX8_dropRule_37 rfl hl (by decide) rfl (fun ls hl => ?_)
    have cont0 : ∀ (i2_10 : Int32) (w07_11 : (Nat → Int32)), lp (fun (x : Int32 × (Nat → Int32)) => f_X8_dropRule_st x.1 x.2) default (((((y7 2) - 1) : Int32).toInt - (x0 : Int32).toInt).toNat + 1) (x0, (upd y7 2 ((y7 2) - 1))) = (i2_10, w07_11) → (w07_11 2) = ((y7 2) - 1) → ¬ i2_10 < 0 → ∀ (H : Heap) (locs : List Loc), va_P D vwCl (wModE cy a u_8.1 y1 y2 0 y4 y5 y6 w07_11 u_8.2 y9 y10 y11 y12 y13) H → va_D A (wModE cy a u_8.1 y1 y2 0 y4 y5 y6 w07_11 u_8.2 y9 y10 y11 y12 y13) → va_S A s.heap H locs → ∀ ls : Array Slot, lv_has ls 3 [(0, .ref (a 0)), (1, .int x0), (2, .int i2_10)] → W p l e (headSpec wsX8_dropRule ({ frames := 1, cells := 0, slots := 0, locals := 21 } : Room)).room s m ([.ref (a 0), .int x0] : List Value).toArray below meth c H locs 0 0 (MQ below (va_Qi (fun (r : Int32) (u : Int32 × Int32 × (Nat → Int32) × (Nat → Int32)) => f_X8_dropRule y0 y1 y7 y8 x0 = (r, u)) (fun u t => va_P D vwCl (wModE cy a u.1 y1 y2 u.2.1 y4 y5 y6 u.2.2.1 u.2.2.2 y9 y10 y11 y12 y13) t.heap) A) ([.ref (a 0), .int x0] : List Value).toArray s 0 0 A) (F0 m 94 ls []) := by
      intro i2_10 w07_11 hE0 hj0_0 hj0_1 H locs hP hD hS ls hl
      refine lv_aload_n hx hb dX8_dropRule_94 rfl (lv_at hl 0 rfl) ?_
      refine va_get (D := D) (ci := 6) (v := .ref (a 1)) (C := RX8) (T := TX8) (N := 14) hx hb hts inX8 hown hK0.1 hP 0 rfl rfl 0 (by decide) (hts (.fieldLink RX8 7 "PivotChamberModel" "s" "[I") (List.mem_of_getElem? (i := 1) rfl)) (fun _ h9 => h9) rfl dX8_dropRule_95 ?_
      refine lv_iconst (v := 2) hx hb dX8_dropRule_98 (by decide) ?_
      refine va_iald hx hb hK0.1 hP 1 0 rfl rfl (vp_in_nI (n := 2) (N := 27) (by decide) (by decide)) dX8_dropRule_99 ?_
      refine W.eq (g2 := F0 m 100 ls [.int (w07_11 2)]) rfl ?_
      have hP : va_P D vwCl (wModE cy a u_8.1 y1 y2 0 y4 y5 y6 w07_11 u_8.2 y9 y10 y11 y12 y13) H := hP
      have hD : va_D A (wModE cy a u_8.1 y1 y2 0 y4 y5 y6 w07_11 u_8.2 y9 y10 y11 y12 y13) := hD
      exact W.iret hx hb hr (fun t ht hW => ⟨⟨(w07_11 2), (u_8.1, 0, w07_11, u_8.2), rfl, (show f_X8_dropRule y0 y1 y7 y8 x0 = ((w07_11 2), (u_8.1, 0, w07_11, u_8.2)) from by rw [f_X8_dropRule, if_neg c_1, hw_9, my_l_eq, hE0, my_t2_eq]), by show va_P D vwCl _ t.heap; rw [ht]; exact hP⟩, hS.F ht⟩) hS.2.2 dX8_dropRule_100
    have key : ∀ (nf : Nat) (i2_10 : Int32) (w07_11 : (Nat → Int32)), ((((y7 2) - 1) : Int32).toInt - (i2_10 : Int32).toInt).toNat < nf → lp (fun (x : Int32 × (Nat → Int32)) => f_X8_dropRule_st x.1 x.2) default nf (i2_10, w07_11) = lp (fun (x : Int32 × (Nat → Int32)) => f_X8_dropRule_st x.1 x.2) default (((((y7 2) - 1) : Int32).toInt - (x0 : Int32).toInt).toNat + 1) (x0, (upd y7 2 ((y7 2) - 1))) → (w07_11 2) = ((y7 2) - 1) → ¬ i2_10 < 0 → ∀ (H : Heap) (locs : List Loc), va_P D vwCl (wModE cy a u_8.1 y1 y2 0 y4 y5 y6 w07_11 u_8.2 y9 y10 y11 y12 y13) H → va_D A (wModE cy a u_8.1 y1 y2 0 y4 y5 y6 w07_11 u_8.2 y9 y10 y11 y12 y13) → va_S A s.heap H locs → ∀ ls : Array Slot, lv_has ls 3 [(0, .ref (a 0)), (1, .int x0), (2, .int i2_10)] → W p l e (headSpec wsX8_dropRule ({ frames := 1, cells := 0, slots := 0, locals := 21 } : Room)).room s m ([.ref (a 0), .int x0] : List Value).toArray below meth c H locs 0 0 (MQ below (va_Qi (fun (r : Int32) (u : Int32 × Int32 × (Nat → Int32) × (Nat → Int32)) => f_X8_dropRule y0 y1 y7 y8 x0 = (r, u)) (fun u t => va_P D vwCl (wModE cy a u.1 y1 y2 u.2.1 y4 y5 y6 u.2.2.1 u.2.2.2 y9 y10 y11 y12 y13) t.heap) A) ([.ref (a 0), .int x0] : List Value).toArray s 0 0 A) (F0 m 38 ls []) := by
      intro n0
      induction n0 with
      | zero => intro i2_10 w07_11 hlt; exact absurd hlt (Nat.not_lt_zero _)
      | succ n0 ih0 =>
        intro i2_10 w07_11 hlt0 hF0 hi0_0 hi0_1 H locs hP hD hS ls hl
        refine lv_iload_n hx hb dX8_dropRule_38 rfl (lv_at hl 2 rfl) ?_
        refine lv_aload_n hx hb dX8_dropRule_39 rfl (lv_at hl 0 rfl) ?_
        refine va_get (D := D) (ci := 6) (v := .ref (a 1)) (C := RX8) (T := TX8) (N := 14) hx hb hts inX8 hown hK0.1 hP 0 rfl rfl 0 (by decide) (hts (.fieldLink RX8 7 "PivotChamberModel" "s" "[I") (List.mem_of_getElem? (i := 1) rfl)) (fun _ h9 => h9) rfl dX8_dropRule_40 ?_
        refine lv_iconst (v := 2) hx hb dX8_dropRule_43 (by decide) ?_
        refine va_iald hx hb hK0.1 hP 1 0 rfl rfl (vp_in_nI (n := 2) (N := 27) (by decide) (by decide)) dX8_dropRule_44 ?_
        refine W.eq (g2 := F0 m 45 ls [.int (w07_11 2), .int i2_10]) rfl ?_
        refine lv_icmp_ge (tgt := 94) hx hb dX8_dropRule_45 (by decide) (fun c_12 => ?_) (fun c_12 => ?_)
        · have hst : f_X8_dropRule_st i2_10 w07_11 = .inr (i2_10, w07_11) := by rw [f_X8_dropRule_st, if_pos c_12]
          exact cont0 i2_10 w07_11 (lp_inr hst hF0) hi0_0 hi0_1 _ _ hP hD hS _ (lv_sub hl [0, 1, 2] rfl)
        · refine lv_aload_n hx hb dX8_dropRule_48 rfl (lv_at hl 0 rfl) ?_
          refine va_get (D := D) (ci := 6) (v := .ref (a 1)) (C := RX8) (T := TX8) (N := 14) hx hb hts inX8 hown hK0.1 hP 0 rfl rfl 0 (by decide) (hts (.fieldLink RX8 7 "PivotChamberModel" "s" "[I") (List.mem_of_getElem? (i := 1) rfl)) (fun _ h9 => h9) rfl dX8_dropRule_49 ?_
          refine lv_bipush (v := 19) hx hb dX8_dropRule_52 (by decide) ?_
          refine lv_iload_n hx hb dX8_dropRule_54 rfl (lv_at hl 2 rfl) ?_
          refine lv_iadd hx hb dX8_dropRule_55 ?_
          refine lv_aload_n hx hb dX8_dropRule_56 rfl (lv_at hl 0 rfl) ?_
          refine va_get (D := D) (ci := 6) (v := .ref (a 1)) (C := RX8) (T := TX8) (N := 14) hx hb hts inX8 hown hK0.1 hP 0 rfl rfl 0 (by decide) (hts (.fieldLink RX8 7 "PivotChamberModel" "s" "[I") (List.mem_of_getElem? (i := 1) rfl)) (fun _ h9 => h9) rfl dX8_dropRule_57 ?_
          refine lv_bipush (v := 19) hx hb dX8_dropRule_60 (by decide) ?_
          refine lv_iload_n hx hb dX8_dropRule_62 rfl (lv_at hl 2 rfl) ?_
          refine lv_iadd hx hb dX8_dropRule_63 ?_
          refine lv_iconst (v := 1) hx hb dX8_dropRule_64 (by decide) ?_
          refine lv_iadd hx hb dX8_dropRule_65 ?_
          refine va_iald hx hb hK0.1 hP 1 0 rfl rfl (ix_loop2 (K := 3) (N := 27) hi0_1 c_12 (by rw [hi0_0]; exact dr_3 hR4 (ir_0 c_1) (ir_1 c_1)) (by decide)) dX8_dropRule_66 ?_
          refine va_iast hx hb hK0.1 hP hD hS 1 0 rfl rfl (ix_loop (K := 3) (N := 27) hi0_1 c_12 (by rw [hi0_0]; exact dr_3 hR4 (ir_0 c_1) (ir_1 c_1)) (by decide)) dX8_dropRule_67 (fun H locs hP hD hS => ?_)
          have hP : va_P D vwCl (wModE cy a u_8.1 y1 y2 0 y4 y5 y6 (upd w07_11 (19 + i2_10).toNatClampNeg (w07_11 ((19 + i2_10) + 1).toNatClampNeg)) u_8.2 y9 y10 y11 y12 y13) H := hP
          have hD : va_D A (wModE cy a u_8.1 y1 y2 0 y4 y5 y6 (upd w07_11 (19 + i2_10).toNatClampNeg (w07_11 ((19 + i2_10) + 1).toNatClampNeg)) u_8.2 y9 y10 y11 y12 y13) := hD
          refine lv_aload_n hx hb dX8_dropRule_68 rfl (lv_at hl 0 rfl) ?_
          refine va_get (D := D) (ci := 6) (v := .ref (a 1)) (C := RX8) (T := TX8) (N := 14) hx hb hts inX8 hown hK0.1 hP 0 rfl rfl 0 (by decide) (hts (.fieldLink RX8 7 "PivotChamberModel" "s" "[I") (List.mem_of_getElem? (i := 1) rfl)) (fun _ h9 => h9) rfl dX8_dropRule_69 ?_
          refine lv_bipush (v := 23) hx hb dX8_dropRule_72 (by decide) ?_
          refine lv_iload_n hx hb dX8_dropRule_74 rfl (lv_at hl 2 rfl) ?_
          refine lv_iadd hx hb dX8_dropRule_75 ?_
          refine lv_aload_n hx hb dX8_dropRule_76 rfl (lv_at hl 0 rfl) ?_
          refine va_get (D := D) (ci := 6) (v := .ref (a 1)) (C := RX8) (T := TX8) (N := 14) hx hb hts inX8 hown hK0.1 hP 0 rfl rfl 0 (by decide) (hts (.fieldLink RX8 7 "PivotChamberModel" "s" "[I") (List.mem_of_getElem? (i := 1) rfl)) (fun _ h9 => h9) rfl dX8_dropRule_77 ?_
          refine lv_bipush (v := 23) hx hb dX8_dropRule_80 (by decide) ?_
          refine lv_iload_n hx hb dX8_dropRule_82 rfl (lv_at hl 2 rfl) ?_
          refine lv_iadd hx hb dX8_dropRule_83 ?_
          refine lv_iconst (v := 1) hx hb dX8_dropRule_84 (by decide) ?_
          refine lv_iadd hx hb dX8_dropRule_85 ?_
          refine va_iald hx hb hK0.1 hP 1 0 rfl rfl (ix_loop2 (K := 3) (N := 27) hi0_1 c_12 (by rw [hi0_0]; exact dr_3 hR4 (ir_0 c_1) (ir_1 c_1)) (by decide)) dX8_dropRule_86 ?_
          refine va_iast hx hb hK0.1 hP hD hS 1 0 rfl rfl (ix_loop (K := 3) (N := 27) hi0_1 c_12 (by rw [hi0_0]; exact dr_3 hR4 (ir_0 c_1) (ir_1 c_1)) (by decide)) dX8_dropRule_87 (fun H locs hP hD hS => ?_)
          have hP : va_P D vwCl (wModE cy a u_8.1 y1 y2 0 y4 y5 y6 (upd (upd w07_11 (19 + i2_10).toNatClampNeg (w07_11 ((19 + i2_10) + 1).toNatClampNeg)) (23 + i2_10).toNatClampNeg ((upd w07_11 (19 + i2_10).toNatClampNeg (w07_11 ((19 + i2_10) + 1).toNatClampNeg)) ((23 + i2_10) + 1).toNatClampNeg)) u_8.2 y9 y10 y11 y12 y13) H := hP
          have hD : va_D A (wModE cy a u_8.1 y1 y2 0 y4 y5 y6 (upd (upd w07_11 (19 + i2_10).toNatClampNeg (w07_11 ((19 + i2_10) + 1).toNatClampNeg)) (23 + i2_10).toNatClampNeg ((upd w07_11 (19 + i2_10).toNatClampNeg (w07_11 ((19 + i2_10) + 1).toNatClampNeg)) ((23 + i2_10) + 1).toNatClampNeg)) u_8.2 y9 y10 y11 y12 y13) := hD
          refine lv_iinc (v := (i2_10 + 1)) (lv' := [(2, .int (i2_10 + 1)), (0, .ref (a 0)), (1, .int x0)]) hx hb dX8_dropRule_88 hl (k := 2) rfl rfl (by decide) rfl (fun ls hl => ?_)
          refine lv_goto (tgt := 38) hx hb dX8_dropRule_91 (by decide) ?_
          have hst : f_X8_dropRule_st i2_10 w07_11 = .inl ((i2_10 + 1), (upd (upd w07_11 (19 + i2_10).toNatClampNeg (w07_11 ((19 + i2_10) + 1).toNatClampNeg)) (23 + i2_10).toNatClampNeg ((upd w07_11 (19 + i2_10).toNatClampNeg (w07_11 ((19 + i2_10) + 1).toNatClampNeg)) ((23 + i2_10) + 1).toNatClampNeg))) := by rw [f_X8_dropRule_st, if_neg c_12]
          have hmu : ((((y7 2) - 1) : Int32).toInt - ((i2_10 + 1) : Int32).toInt).toNat < ((((y7 2) - 1) : Int32).toInt - (i2_10 : Int32).toInt).toNat := mu_up (by rw [← hi0_0]; exact c_12)
          exact ih0 (i2_10 + 1) (upd (upd w07_11 (19 + i2_10).toNatClampNeg (w07_11 ((19 + i2_10) + 1).toNatClampNeg)) (23 + i2_10).toNatClampNeg ((upd w07_11 (19 + i2_10).toNatClampNeg (w07_11 ((19 + i2_10) + 1).toNatClampNeg)) ((23 + i2_10) + 1).toNatClampNeg)) (Nat.lt_of_lt_of_le hmu (Nat.le_of_lt_succ hlt0)) (lp_inl hst hF0) (by rw [upd_lo (N := 27) hi0_1 (ix_loop (K := 3) (N := 27) hi0_1 c_12 (by rw [hi0_0]; exact dr_3 hR4 (ir_0 c_1) (ir_1 c_1)) (by decide)) (by decide) (by decide)]; exact (by rw [upd_lo (N := 27) hi0_1 (ix_loop (K := 3) (N := 27) hi0_1 c_12 (by rw [hi0_0]; exact dr_3 hR4 (ir_0 c_1) (ir_1 c_1)) (by decide)) (by decide) (by decide)]; exact hi0_0)) (nn_up hi0_1 c_12) _ _ hP hD hS _ (lv_sub hl [1, 2, 0] rfl)
    exact key (((((y7 2) - 1) : Int32).toInt - (x0 : Int32).toInt).toNat + 1) x0 (upd y7 2 ((y7 2) - 1)) (Nat.lt_succ_self _) rfl (show ((upd y7 2 ((y7 2) - 1)) 2) = ((y7 2) - 1) from rfl) (ir_0 c_1) _ _ hP hD hS _ (lv_sub hl [1, 2, 0] rfl)
