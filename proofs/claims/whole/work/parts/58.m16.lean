theorem dn_toInt {i : Int32} (h : ¬ i < 0) : (i + (-1)).toInt = i.toInt - 1 := by
  have a0 := nn_toInt h
  have hi := i32_hi i
  have e1 : (-1 : Int32).toInt = -1 := by decide
  have e := i32_add (a := i) (b := -1) (by omega) (by omega)
  omega
theorem mu_dn {i : Int32} (h : ¬ i < 0) : ((i + (-1)).toInt + 1).toNat < (i.toInt + 1).toNat := by
  have a0 := nn_toInt h
  have e := dn_toInt h
  omega
theorem dn_8 {i : Int32} (h : ¬ i < 0) (h8 : ¬ 8 ≤ i) : ¬ 8 ≤ (i + (-1)) := fun h3 => by
  have e := dn_toInt h
  have t := Int32.le_iff_toInt_le.mp h3
  exact h8 (Int32.le_iff_toInt_le.mpr (by omega))
theorem ones_8 (x : Int32) : ¬ 8 < f_X8_ones x := fun h => by
  have h1 := ones_le x
  have e8 := i32_c8
  have t := Int32.lt_iff_toInt_lt.mp h
  omega
theorem ones_s1 (x : Int32) : ((f_X8_ones x) - 1).toInt = (f_X8_ones x).toInt - 1 := by
  have h1 := ones_le x
  have e1 := i32_c1
  rw [Int32.toInt_sub, e1]
  show Int.bmod _ 4294967296 = _
  rw [Int.bmod_eq_of_le (by omega) (by omega)]
theorem ones_lt8 (x : Int32) : ¬ 8 ≤ ((f_X8_ones x) - 1) := fun h => by
  have h1 := ones_le x
  have e8 := i32_c8
  have e := ones_s1 x
  have t := Int32.le_iff_toInt_le.mp h
  omega
theorem hd_X8_isOrder_S : yX8_isOrder.cls ≠ "java/lang/invoke/MethodHandle" ∧ yX8_isOrder.cls ≠ "java/lang/invoke/VarHandle" ∧ (parseMethodDescriptor yX8_isOrder.desc).map (fun d => d.parameters.length) = some 1 := by decide +kernel
theorem hd_X8_isOrder_V : yX8_isOrder.cls = RX8 ∧ yX8_isOrder.cls ≠ "java/lang/invoke/MethodHandle" ∧ yX8_isOrder.cls ≠ "java/lang/invoke/VarHandle" ∧ (parseMethodDescriptor yX8_isOrder.desc).map (fun d => d.parameters.length) = some 1 := ⟨rfl, hd_X8_isOrder_S⟩
def f_X8_isOrder_st  (i2_1 : Int32) (i3_2 : Int32) (i4_3 : Int32) (w011_4 : (Nat → Int32)) : (Int32 × Int32 × Int32 × (Nat → Int32)) ⊕ (Int32 × Int32 × Int32 × (Nat → Int32)) := (if i4_3 < 0 then (.inr (i2_1, i3_2, i4_3, w011_4)) else (if ((upd w011_4 i4_3.toNatClampNeg ((i2_1 - i2_1 / 10 * 10) - 1)) i4_3.toNatClampNeg) < 0 then (.inl ((i2_1 / 10), (i3_2 ||| 0), (i4_3 + (-1)), (upd w011_4 i4_3.toNatClampNeg ((i2_1 - i2_1 / 10 * 10) - 1)))) else (if 8 ≤ ((upd w011_4 i4_3.toNatClampNeg ((i2_1 - i2_1 / 10 * 10) - 1)) i4_3.toNatClampNeg) then (.inl ((i2_1 / 10), (i3_2 ||| 0), (i4_3 + (-1)), (upd w011_4 i4_3.toNatClampNeg ((i2_1 - i2_1 / 10 * 10) - 1)))) else (.inl ((i2_1 / 10), (i3_2 ||| (1 <<< (((upd w011_4 i4_3.toNatClampNeg ((i2_1 - i2_1 / 10 * 10) - 1)) i4_3.toNatClampNeg) &&& 31))), (i4_3 + (-1)), (upd w011_4 i4_3.toNatClampNeg ((i2_1 - i2_1 / 10 * 10) - 1)))))))
def f_X8_isOrder (y4 : Int32) (y11 : (Nat → Int32)) (x0 : Int32) : Int32 × ((Nat → Int32)) := (my_t4 (lp (fun (x : Int32 × Int32 × Int32 × (Nat → Int32)) => f_X8_isOrder_st x.1 x.2.1 x.2.2.1 x.2.2.2) default ((((f_X8_ones y4) - 1).toInt + 1).toNat + 1) (x0, 0, ((f_X8_ones y4) - 1), y11)) (fun (i2_1 : Int32) (i3_2 : Int32) (i4_3 : Int32) (w011_4 : (Nat → Int32)) => (if x0 < 0 then (0, w011_4) else (if i2_1 = 0 then (if i3_2 = y4 then (1, w011_4) else (0, w011_4)) else (0, w011_4)))))
set_option maxHeartbeats 400000 in
set_option maxRecDepth 100000 in
theorem c_X8_isOrder (l : Launch) (D : va_G) (cy : Nat → ClassId) (g : Nat → Nat) (B : Nat) (a : Nat → Nat) (y0 : Int32) (y1 : Int32) (y2 : Int32) (y3 : Int32) (y4 : Int32) (y5 : Int32) (y6 : Int32) (y7 : (Nat → Int32)) (y8 : (Nat → Int32)) (y9 : (Nat → Int32)) (y10 : (Nat → Int32)) (y11 : (Nat → Int32)) (y12 : (Nat → Int32)) (y13 : (Nat → Int32)) (x0 : Int32) : Met l yX8_isOrder wsX8_isOrder ({ frames := 1, cells := 0, slots := 0, locals := 22 }) (muP D cy g B (wModE cy a y0 y1 y2 y3 y4 y5 y6 y7 y8 y9 y10 y11 y12 y13) [.ref (a 0), .int x0]) (va_Qi (fun (r : Int32) (u : (Nat → Int32)) => f_X8_isOrder y4 y11 x0 = (r, u)) (fun u t => va_P D vwCl (wModE cy a y0 y1 y2 y3 y4 y5 y6 y7 y8 y9 y10 u y12 y13) t.heap) (muA (wModE cy a y0 y1 y2 y3 y4 y5 y6 y7 y8 y9 y10 y11 y12 y13))) 0 0 (muA (wModE cy a y0 y1 y2 y3 y4 y5 y6 y7 y8 y9 y10 y11 y12 y13)) := by
  refine Met.ofW (cc := cX8_isOrder) (maxL := 5) (ret := (some .boolean)) (by decide) rfl ?_
  intro p e s m args below meth c s₁ BB hml hv
  obtain ⟨rfl, hP, hK0, hD0⟩ := hv
  have hx := BB.exec
  have hb := BB.bytes
  have hr := BB.returns
  have hts := atoms_spec (ws := wsX8_isOrder) BB.pre
  have hown : s.vm.findClass RX8 = some m.cls := findClass_of_methodNamed BB.named
  have hlocks := BB.notSynchronized
  have S := my_fix hx hb hml hown hts
  have inX8 : ∀ w ∈ wsX80, w ∈ wsX8_isOrder := fun w h => List.mem_cons_of_mem _ (List.mem_append_right _ h)
  have hAB := muB hD0
  have hD := muD hD0
  generalize hAe : muA (wModE cy a y0 y1 y2 y3 y4 y5 y6 y7 y8 y9 y10 y11 y12 y13) = A at hAB hD ⊢
  have hS : va_S A s.heap s.heap [] := va_S.rf
  have hl := lv_entry ([.ref (a 0), .int x0]) (n := 5) (Nat.le_of_ble_eq_true rfl)
  rw [lg_entry_eq]
  generalize (lg_sl ([.ref (a 0), .int x0]) ++ List.replicate (5 - (lg_sl ([.ref (a 0), .int x0])).length) Slot.unset).toArray = ls at hl ⊢
  have hl : lv_has ls 5 [(0, .ref (a 0)), (1, .int x0)] := hl
  refine lv_iload_n hx hb dX8_isOrder_0 rfl (lv_at hl 1 rfl) ?_
  refine lv_istore_n (lv' := [(2, .int x0), (0, .ref (a 0)), (1, .int x0)]) hx hb dX8_isOrder_1 rfl hl (by decide) rfl (fun ls hl => ?_)
  refine lv_iconst (v := 0) hx hb dX8_isOrder_2 (by decide) ?_
  refine lv_istore_n (lv' := [(3, .int 0), (2, .int x0), (0, .ref (a 0)), (1, .int x0)]) hx hb dX8_isOrder_3 rfl hl (by decide) rfl (fun ls hl => ?_)
  refine lv_aload_n hx hb dX8_isOrder_4 rfl (lv_at hl 2 rfl) ?_
  refine va_get (D := D) (ci := 6) (v := .int y4) (C := RX8) (T := TX8) (N := 14) hx hb hts inX8 hown hK0.1 hP 0 rfl rfl 8 (by decide) (hts (.fieldLink RX8 71 "PivotChamberModel" "all" "I") (List.mem_of_getElem? (i := 1) rfl)) (fun _ h9 => h9) rfl dX8_isOrder_5 ?_
  refine rd_goi (va_runS (As := [.int y4]) (rest := []) S (c_X8_ones l D cy g B y4) (va_cwS 1 hts gX8_isOrder_X8_ones rfl rfl rfl hd_X8_ones_S ⟨Nat.le_of_ble_eq_true rfl, Nat.le_of_ble_eq_true rfl⟩) ⟨rdP_blind, my_preV hK0 hS hAB hP [] rfl⟩ rfl rfl hl.1 rfl (lv_room (Nat.le_of_ble_eq_true rfl)) dX8_isOrder_8 ⟨Nat.zero_le _, Nat.zero_le _⟩) ?_
  refine lv_iconst (v := 1) hx hb dX8_isOrder_11 (by decide) ?_
  refine lv_isub hx hb dX8_isOrder_12 ?_
  refine lv_istore (lv' := [(4, .int ((f_X8_ones y4) - 1)), (3, .int 0), (2, .int x0), (0, .ref (a 0)), (1, .int x0)]) hx hb dX8_isOrder_13 hl (by decide) rfl (fun ls hl => ?_)
  have cont0 : ∀ (i2_1 : Int32) (i3_2 : Int32) (i4_3 : Int32) (w011_4 : (Nat → Int32)), lp (fun (x : Int32 × Int32 × Int32 × (Nat → Int32)) => f_X8_isOrder_st x.1 x.2.1 x.2.2.1 x.2.2.2) default ((((f_X8_ones y4) - 1).toInt + 1).toNat + 1) (x0, 0, ((f_X8_ones y4) - 1), y11) = (i2_1, i3_2, i4_3, w011_4) → ¬ 8 ≤ i4_3 → ∀ (H : Heap) (locs : List Loc), va_P D vwCl (wModE cy a y0 y1 y2 y3 y4 y5 y6 y7 y8 y9 y10 w011_4 y12 y13) H → va_D A (wModE cy a y0 y1 y2 y3 y4 y5 y6 y7 y8 y9 y10 w011_4 y12 y13) → va_S A s.heap H locs → ∀ ls : Array Slot, lv_has ls 5 [(0, .ref (a 0)), (1, .int x0), (2, .int i2_1), (3, .int i3_2), (4, .int i4_3)] → W p l e (headSpec wsX8_isOrder ({ frames := 1, cells := 0, slots := 0, locals := 22 } : Room)).room s m ([.ref (a 0), .int x0] : List Value).toArray below meth c H locs 0 0 (MQ below (va_Qi (fun (r : Int32) (u : (Nat → Int32)) => f_X8_isOrder y4 y11 x0 = (r, u)) (fun u t => va_P D vwCl (wModE cy a y0 y1 y2 y3 y4 y5 y6 y7 y8 y9 y10 u y12 y13) t.heap) A) ([.ref (a 0), .int x0] : List Value).toArray s 0 0 A) (F0 m 82 ls []) := by
    intro i2_1 i3_2 i4_3 w011_4 hE0 hj0_0 H locs hP hD hS ls hl
    refine lv_iload_n hx hb dX8_isOrder_82 rfl (lv_at hl 1 rfl) ?_
    refine lv_if_lt (tgt := 102) hx hb dX8_isOrder_83 (by decide) (fun c_5 => ?_) (fun c_5 => ?_)
    · refine lv_iconst (v := 0) hx hb dX8_isOrder_102 (by decide) ?_
      have hP : va_P D vwCl (wModE cy a y0 y1 y2 y3 y4 y5 y6 y7 y8 y9 y10 w011_4 y12 y13) H := hP
      have hD : va_D A (wModE cy a y0 y1 y2 y3 y4 y5 y6 y7 y8 y9 y10 w011_4 y12 y13) := hD
      exact W.zret (ty := .boolean) (v := 0) hx hb hr (my_nz (by decide)) (fun t ht hW => ⟨⟨0, w011_4, rfl, (show f_X8_isOrder y4 y11 x0 = (0, w011_4) from by rw [f_X8_isOrder, hE0, my_t4_eq, if_pos c_5]), by show va_P D vwCl _ t.heap; rw [ht]; exact hP⟩, hS.F ht⟩) hS.2.2 dX8_isOrder_103
    · refine lv_iload_n hx hb dX8_isOrder_86 rfl (lv_at hl 2 rfl) ?_
      refine lv_if_ne (tgt := 102) hx hb dX8_isOrder_87 (by decide) (fun c_6 => ?_) (fun c_6 => ?_)
      · refine lv_iconst (v := 0) hx hb dX8_isOrder_102 (by decide) ?_
        have hP : va_P D vwCl (wModE cy a y0 y1 y2 y3 y4 y5 y6 y7 y8 y9 y10 w011_4 y12 y13) H := hP
        have hD : va_D A (wModE cy a y0 y1 y2 y3 y4 y5 y6 y7 y8 y9 y10 w011_4 y12 y13) := hD
        exact W.zret (ty := .boolean) (v := 0) hx hb hr (my_nz (by decide)) (fun t ht hW => ⟨⟨0, w011_4, rfl, (show f_X8_isOrder y4 y11 x0 = (0, w011_4) from by rw [f_X8_isOrder, hE0, my_t4_eq, if_neg c_5, if_neg c_6]), by show va_P D vwCl _ t.heap; rw [ht]; exact hP⟩, hS.F ht⟩) hS.2.2 dX8_isOrder_103
      · refine lv_iload_n hx hb dX8_isOrder_90 rfl (lv_at hl 3 rfl) ?_
        refine lv_aload_n hx hb dX8_isOrder_91 rfl (lv_at hl 0 rfl) ?_
        refine va_get (D := D) (ci := 6) (v := .int y4) (C := RX8) (T := TX8) (N := 14) hx hb hts inX8 hown hK0.1 hP 0 rfl rfl 8 (by decide) (hts (.fieldLink RX8 71 "PivotChamberModel" "all" "I") (List.mem_of_getElem? (i := 1) rfl)) (fun _ h9 => h9) rfl dX8_isOrder_92 ?_
        refine lv_icmp_ne (tgt := 102) hx hb dX8_isOrder_95 (by decide) (fun c_7 => ?_) (fun c_7 => ?_)
        · refine lv_iconst (v := 0) hx hb dX8_isOrder_102 (by decide) ?_
          have hP : va_P D vwCl (wModE cy a y0 y1 y2 y3 y4 y5 y6 y7 y8 y9 y10 w011_4 y12 y13) H := hP
          have hD : va_D A (wModE cy a y0 y1 y2 y3 y4 y5 y6 y7 y8 y9 y10 w011_4 y12 y13) := hD
          exact W.zret (ty := .boolean) (v := 0) hx hb hr (my_nz (by decide)) (fun t ht hW => ⟨⟨0, w011_4, rfl, (show f_X8_isOrder y4 y11 x0 = (0, w011_4) from by rw [f_X8_isOrder, hE0, my_t4_eq, if_neg c_5, if_pos c_6, if_neg c_7]), by show va_P D vwCl _ t.heap; rw [ht]; exact hP⟩, hS.F ht⟩) hS.2.2 dX8_isOrder_103
        · refine lv_iconst (v := 1) hx hb dX8_isOrder_98 (by decide) ?_
          refine lv_goto (tgt := 103) hx hb dX8_isOrder_99 (by decide) ?_
          have hP : va_P D vwCl (wModE cy a y0 y1 y2 y3 y4 y5 y6 y7 y8 y9 y10 w011_4 y12 y13) H := hP
          have hD : va_D A (wModE cy a y0 y1 y2 y3 y4 y5 y6 y7 y8 y9 y10 w011_4 y12 y13) := hD
          exact W.zret (ty := .boolean) (v := 1) hx hb hr (my_nz (by decide)) (fun t ht hW => ⟨⟨1, w011_4, rfl, (show f_X8_isOrder y4 y11 x0 = (1, w011_4) from by rw [f_X8_isOrder, hE0, my_t4_eq, if_neg c_5, if_pos c_6, if_pos c_7]), by show va_P D vwCl _ t.heap; rw [ht]; exact hP⟩, hS.F ht⟩) hS.2.2 dX8_isOrder_103
  have key : ∀ (nf : Nat) (i2_1 : Int32) (i3_2 : Int32) (i4_3 : Int32) (w011_4 : (Nat → Int32)), (i4_3.toInt + 1).toNat < nf → lp (fun (x : Int32 × Int32 × Int32 × (Nat → Int32)) => f_X8_isOrder_st x.1 x.2.1 x.2.2.1 x.2.2.2) default nf (i2_1, i3_2, i4_3, w011_4) = lp (fun (x : Int32 × Int32 × Int32 × (Nat → Int32)) => f_X8_isOrder_st x.1 x.2.1 x.2.2.1 x.2.2.2) default ((((f_X8_ones y4) - 1).toInt + 1).toNat + 1) (x0, 0, ((f_X8_ones y4) - 1), y11) → ¬ 8 ≤ i4_3 → ∀ (H : Heap) (locs : List Loc), va_P D vwCl (wModE cy a y0 y1 y2 y3 y4 y5 y6 y7 y8 y9 y10 w011_4 y12 y13) H → va_D A (wModE cy a y0 y1 y2 y3 y4 y5 y6 y7 y8 y9 y10 w011_4 y12 y13) → va_S A s.heap H locs → ∀ ls : Array Slot, lv_has ls 5 [(0, .ref (a 0)), (1, .int x0), (2, .int i2_1), (3, .int i3_2), (4, .int i4_3)] → W p l e (headSpec wsX8_isOrder ({ frames := 1, cells := 0, slots := 0, locals := 22 } : Room)).room s m ([.ref (a 0), .int x0] : List Value).toArray below meth c H locs 0 0 (MQ below (va_Qi (fun (r : Int32) (u : (Nat → Int32)) => f_X8_isOrder y4 y11 x0 = (r, u)) (fun u t => va_P D vwCl (wModE cy a y0 y1 y2 y3 y4 y5 y6 y7 y8 y9 y10 u y12 y13) t.heap) A) ([.ref (a 0), .int x0] : List Value).toArray s 0 0 A) (F0 m 15 ls []) := by
    intro n0
    induction n0 with
    | zero => intro i2_1 i3_2 i4_3 w011_4 hlt; exact absurd hlt (Nat.not_lt_zero _)
    | succ n0 ih0 =>
      intro i2_1 i3_2 i4_3 w011_4 hlt0 hF0 hi0_0 H locs hP hD hS ls hl
      refine lv_iload hx hb dX8_isOrder_15 (lv_at hl 4 rfl) ?_
      refine lv_if_lt (tgt := 82) hx hb dX8_isOrder_17 (by decide) (fun c_8 => ?_) (fun c_8 => ?_)
      · have hst : f_X8_isOrder_st i2_1 i3_2 i4_3 w011_4 = .inr (i2_1, i3_2, i4_3, w011_4) := by rw [f_X8_isOrder_st, if_pos c_8]
        exact cont0 i2_1 i3_2 i4_3 w011_4 (lp_inr hst hF0) hi0_0 _ _ hP hD hS _ (lv_sub hl [0, 1, 2, 3, 4] rfl)
      · refine lv_aload_n hx hb dX8_isOrder_20 rfl (lv_at hl 0 rfl) ?_
        refine va_get (D := D) (ci := 6) (v := .ref (a 5)) (C := RX8) (T := TX8) (N := 14) hx hb hts inX8 hown hK0.1 hP 0 rfl rfl 9 (by decide) (hts (.fieldLink RX8 23 "PivotChamberModel" "row" "[I") (List.mem_of_getElem? (i := 2) rfl)) (fun _ h9 => h9) rfl dX8_isOrder_21 ?_
        refine lv_iload hx hb dX8_isOrder_24 (lv_at hl 4 rfl) ?_
        refine lv_iload_n hx hb dX8_isOrder_26 rfl (lv_at hl 2 rfl) ?_
        refine lv_bipush (v := 10) hx hb dX8_isOrder_27 (by decide) ?_
        refine lv_irem hx hb dX8_isOrder_29 (by decide) ?_
        refine lv_iconst (v := 1) hx hb dX8_isOrder_30 (by decide) ?_
        refine lv_isub hx hb dX8_isOrder_31 ?_
        refine va_iast hx hb hK0.1 hP hD hS 5 0 rfl rfl (ix_self (K := 8) (N := 8) c_8 hi0_0 (by decide) (by decide)) dX8_isOrder_32 (fun H locs hP hD hS => ?_)
        have hP : va_P D vwCl (wModE cy a y0 y1 y2 y3 y4 y5 y6 y7 y8 y9 y10 (upd w011_4 i4_3.toNatClampNeg ((i2_1 - i2_1 / 10 * 10) - 1)) y12 y13) H := hP
        have hD : va_D A (wModE cy a y0 y1 y2 y3 y4 y5 y6 y7 y8 y9 y10 (upd w011_4 i4_3.toNatClampNeg ((i2_1 - i2_1 / 10 * 10) - 1)) y12 y13) := hD
        refine lv_iload_n hx hb dX8_isOrder_33 rfl (lv_at hl 2 rfl) ?_
        refine lv_bipush (v := 10) hx hb dX8_isOrder_34 (by decide) ?_
        refine lv_idiv hx hb dX8_isOrder_36 (by decide) ?_
        refine lv_istore_n (lv' := [(2, .int (i2_1 / 10)), (0, .ref (a 0)), (1, .int x0), (3, .int i3_2), (4, .int i4_3)]) hx hb dX8_isOrder_37 rfl hl (by decide) rfl (fun ls hl => ?_)
        refine lv_iload_n hx hb dX8_isOrder_38 rfl (lv_at hl 3 rfl) ?_
        refine lv_aload_n hx hb dX8_isOrder_39 rfl (lv_at hl 1 rfl) ?_
        refine va_get (D := D) (ci := 6) (v := .ref (a 5)) (C := RX8) (T := TX8) (N := 14) hx hb hts inX8 hown hK0.1 hP 0 rfl rfl 9 (by decide) (hts (.fieldLink RX8 23 "PivotChamberModel" "row" "[I") (List.mem_of_getElem? (i := 2) rfl)) (fun _ h9 => h9) rfl dX8_isOrder_40 ?_
        refine lv_iload hx hb dX8_isOrder_43 (lv_at hl 4 rfl) ?_
        refine va_iald hx hb hK0.1 hP 5 0 rfl rfl (ix_self (K := 8) (N := 8) c_8 hi0_0 (by decide) (by decide)) dX8_isOrder_45 ?_
        refine lv_if_lt (tgt := 73) hx hb dX8_isOrder_46 (by decide) (fun c_9 => ?_) (fun c_9 => ?_)
        · refine lv_iconst (v := 0) hx hb dX8_isOrder_73 (by decide) ?_
          refine lv_ior hx hb dX8_isOrder_74 ?_
          refine lv_istore_n (lv' := [(3, .int (i3_2 ||| 0)), (2, .int (i2_1 / 10)), (0, .ref (a 0)), (1, .int x0), (4, .int i4_3)]) hx hb dX8_isOrder_75 rfl hl (by decide) rfl (fun ls hl => ?_)
          refine lv_iinc (v := (i4_3 + (-1))) (lv' := [(4, .int (i4_3 + (-1))), (3, .int (i3_2 ||| 0)), (2, .int (i2_1 / 10)), (0, .ref (a 0)), (1, .int x0)]) hx hb dX8_isOrder_76 hl (k := 4) rfl rfl (by decide) rfl (fun ls hl => ?_)
          refine lv_goto (tgt := 15) hx hb dX8_isOrder_79 (by decide) ?_
          have hst : f_X8_isOrder_st i2_1 i3_2 i4_3 w011_4 = .inl ((i2_1 / 10), (i3_2 ||| 0), (i4_3 + (-1)), (upd w011_4 i4_3.toNatClampNeg ((i2_1 - i2_1 / 10 * 10) - 1))) := by rw [f_X8_isOrder_st, if_neg c_8, if_pos c_9]
          have hmu : ((i4_3 + (-1)).toInt + 1).toNat < (i4_3.toInt + 1).toNat := mu_dn c_8
          exact ih0 (i2_1 / 10) (i3_2 ||| 0) (i4_3 + (-1)) (upd w011_4 i4_3.toNatClampNeg ((i2_1 - i2_1 / 10 * 10) - 1)) (Nat.lt_of_lt_of_le hmu (Nat.le_of_lt_succ hlt0)) (lp_inl (x := (i2_1, i3_2, i4_3, w011_4)) hst hF0) (dn_8 c_8 hi0_0) _ _ hP hD hS _ (lv_sub hl [3, 4, 2, 1, 0] rfl)
        · refine lv_aload_n hx hb dX8_isOrder_49 rfl (lv_at hl 1 rfl) ?_
          refine va_get (D := D) (ci := 6) (v := .ref (a 5)) (C := RX8) (T := TX8) (N := 14) hx hb hts inX8 hown hK0.1 hP 0 rfl rfl 9 (by decide) (hts (.fieldLink RX8 23 "PivotChamberModel" "row" "[I") (List.mem_of_getElem? (i := 2) rfl)) (fun _ h9 => h9) rfl dX8_isOrder_50 ?_
          refine lv_iload hx hb dX8_isOrder_53 (lv_at hl 4 rfl) ?_
          refine va_iald hx hb hK0.1 hP 5 0 rfl rfl (ix_self (K := 8) (N := 8) c_8 hi0_0 (by decide) (by decide)) dX8_isOrder_55 ?_
          refine lv_bipush (v := 8) hx hb dX8_isOrder_56 (by decide) ?_
          refine lv_icmp_ge (tgt := 73) hx hb dX8_isOrder_58 (by decide) (fun c_10 => ?_) (fun c_10 => ?_)
          · refine lv_iconst (v := 0) hx hb dX8_isOrder_73 (by decide) ?_
            refine lv_ior hx hb dX8_isOrder_74 ?_
            refine lv_istore_n (lv' := [(3, .int (i3_2 ||| 0)), (2, .int (i2_1 / 10)), (0, .ref (a 0)), (1, .int x0), (4, .int i4_3)]) hx hb dX8_isOrder_75 rfl hl (by decide) rfl (fun ls hl => ?_)
            refine lv_iinc (v := (i4_3 + (-1))) (lv' := [(4, .int (i4_3 + (-1))), (3, .int (i3_2 ||| 0)), (2, .int (i2_1 / 10)), (0, .ref (a 0)), (1, .int x0)]) hx hb dX8_isOrder_76 hl (k := 4) rfl rfl (by decide) rfl (fun ls hl => ?_)
            refine lv_goto (tgt := 15) hx hb dX8_isOrder_79 (by decide) ?_
            have hst : f_X8_isOrder_st i2_1 i3_2 i4_3 w011_4 = .inl ((i2_1 / 10), (i3_2 ||| 0), (i4_3 + (-1)), (upd w011_4 i4_3.toNatClampNeg ((i2_1 - i2_1 / 10 * 10) - 1))) := by rw [f_X8_isOrder_st, if_neg c_8, if_neg c_9, if_pos c_10]
            have hmu : ((i4_3 + (-1)).toInt + 1).toNat < (i4_3.toInt + 1).toNat := mu_dn c_8
            exact ih0 (i2_1 / 10) (i3_2 ||| 0) (i4_3 + (-1)) (upd w011_4 i4_3.toNatClampNeg ((i2_1 - i2_1 / 10 * 10) - 1)) (Nat.lt_of_lt_of_le hmu (Nat.le_of_lt_succ hlt0)) (lp_inl (x := (i2_1, i3_2, i4_3, w011_4)) hst hF0) (dn_8 c_8 hi0_0) _ _ hP hD hS _ (lv_sub hl [3, 4, 2, 1, 0] rfl)
          · refine lv_iconst (v := 1) hx hb dX8_isOrder_61 (by decide) ?_
            refine lv_aload_n hx hb dX8_isOrder_62 rfl (lv_at hl 1 rfl) ?_
            refine va_get (D := D) (ci := 6) (v := .ref (a 5)) (C := RX8) (T := TX8) (N := 14) hx hb hts inX8 hown hK0.1 hP 0 rfl rfl 9 (by decide) (hts (.fieldLink RX8 23 "PivotChamberModel" "row" "[I") (List.mem_of_getElem? (i := 2) rfl)) (fun _ h9 => h9) rfl dX8_isOrder_63 ?_
            refine lv_iload hx hb dX8_isOrder_66 (lv_at hl 4 rfl) ?_
            refine va_iald hx hb hK0.1 hP 5 0 rfl rfl (ix_self (K := 8) (N := 8) c_8 hi0_0 (by decide) (by decide)) dX8_isOrder_68 ?_
            refine lv_ishl hx hb dX8_isOrder_69 ?_
            refine lv_goto (tgt := 74) hx hb dX8_isOrder_70 (by decide) ?_
            refine lv_ior hx hb dX8_isOrder_74 ?_
            refine lv_istore_n (lv' := [(3, .int (i3_2 ||| (1 <<< (((upd w011_4 i4_3.toNatClampNeg ((i2_1 - i2_1 / 10 * 10) - 1)) i4_3.toNatClampNeg) &&& 31)))), (2, .int (i2_1 / 10)), (0, .ref (a 0)), (1, .int x0), (4, .int i4_3)]) hx hb dX8_isOrder_75 rfl hl (by decide) rfl (fun ls hl => ?_)
            refine lv_iinc (v := (i4_3 + (-1))) (lv' := [(4, .int (i4_3 + (-1))), (3, .int (i3_2 ||| (1 <<< (((upd w011_4 i4_3.toNatClampNeg ((i2_1 - i2_1 / 10 * 10) - 1)) i4_3.toNatClampNeg) &&& 31)))), (2, .int (i2_1 / 10)), (0, .ref (a 0)), (1, .int x0)]) hx hb dX8_isOrder_76 hl (k := 4) rfl rfl (by decide) rfl (fun ls hl => ?_)
            refine lv_goto (tgt := 15) hx hb dX8_isOrder_79 (by decide) ?_
            have hst : f_X8_isOrder_st i2_1 i3_2 i4_3 w011_4 = .inl ((i2_1 / 10), (i3_2 ||| (1 <<< (((upd w011_4 i4_3.toNatClampNeg ((i2_1 - i2_1 / 10 * 10) - 1)) i4_3.toNatClampNeg) &&& 31))), (i4_3 + (-1)), (upd w011_4 i4_3.toNatClampNeg ((i2_1 - i2_1 / 10 * 10) - 1))) := by rw [f_X8_isOrder_st, if_neg c_8, if_neg c_9, if_neg c_10]
            have hmu : ((i4_3 + (-1)).toInt + 1).toNat < (i4_3.toInt + 1).toNat := mu_dn c_8
            exact ih0 (i2_1 / 10) (i3_2 ||| (1 <<< (((upd w011_4 i4_3.toNatClampNeg ((i2_1 - i2_1 / 10 * 10) - 1)) i4_3.toNatClampNeg) &&& 31))) (i4_3 + (-1)) (upd w011_4 i4_3.toNatClampNeg ((i2_1 - i2_1 / 10 * 10) - 1)) (Nat.lt_of_lt_of_le hmu (Nat.le_of_lt_succ hlt0)) (lp_inl (x := (i2_1, i3_2, i4_3, w011_4)) hst hF0) (dn_8 c_8 hi0_0) _ _ hP hD hS _ (lv_sub hl [3, 4, 2, 1, 0] rfl)
  exact key ((((f_X8_ones y4) - 1).toInt + 1).toNat + 1) x0 0 ((f_X8_ones y4) - 1) y11 (Nat.lt_succ_self _) rfl (ones_lt8 _) _ _ hP hD hS _ (lv_sub hl [3, 4, 2, 1, 0] rfl)
theorem vin_nI {x : Int32} {n : Nat} (h : vp_in x n) : ∃ j : Nat, j < n ∧ x = nI j := by
  obtain ⟨h1, h2⟩ := vp_in_iff.mp h
  have h3 := i32_hi x
  refine ⟨x.toInt.toNat, by omega, ?_⟩
  exact Int32.toInt_inj.mp (by rw [nI_toInt (by omega)]; omega)
set_option maxRecDepth 100000 in
theorem ones_or {s v : Int32} (h : vp_in s 256) (h0 : ¬ v < 0) (h8 : ¬ 8 ≤ v) : (f_X8_ones (s ||| (1 <<< (v &&& 31)))).toInt ≤ (f_X8_ones s).toInt + 1 := by
  obtain ⟨j, hj, rfl⟩ := vin_nI h
  have h1 : ∀ k : Nat, k < 8 → ∀ j : Nat, j < 256 → (f_X8_ones (nI j ||| (1 <<< (nI k &&& 31)))).toInt ≤ (f_X8_ones (nI j)).toInt + 1 := by decide +kernel
  obtain ⟨k, hk, rfl⟩ := vin_nI (ix_self (b := 8) (K := 8) (N := 8) h0 h8 (by decide) (by decide))
  exact h1 k hk j hj
theorem io_all (a x : Int32) (y : Nat → Int32) : ¬ (f_X8_isOrder a y x).1 = 0 → ∀ j : Nat, (j : Int) < (f_X8_ones a).toInt → ¬ (f_X8_isOrder a y x).2 j < 0 ∧ ¬ 8 ≤ (f_X8_isOrder a y x).2 j := by
  have hon := ones_le a
  unfold f_X8_isOrder
  refine my_t4_inv (fun _ c _ w => (∀ j : Nat, (j : Int) < (f_X8_ones a).toInt → ¬ w j < 0 ∧ ¬ 8 ≤ w j) ∨ (f_X8_ones c).toInt < (f_X8_ones a).toInt) (fun z : Int32 × (Nat → Int32) => ¬ z.1 = 0 → ∀ j : Nat, (j : Int) < (f_X8_ones a).toInt → ¬ z.2 j < 0 ∧ ¬ 8 ≤ z.2 j) ?_ ?_
  · refine lp_inm (I := fun z : Int32 × Int32 × Int32 × (Nat → Int32) => vp_in z.2.1 256 ∧ -1 ≤ z.2.2.1.toInt ∧ z.2.2.1.toInt < (f_X8_ones a).toInt ∧ (f_X8_ones z.2.1).toInt ≤ (f_X8_ones a).toInt - 1 - z.2.2.1.toInt ∧ ((∀ j : Nat, z.2.2.1.toInt < (j : Int) → (j : Int) < (f_X8_ones a).toInt → ¬ z.2.2.2 j < 0 ∧ ¬ 8 ≤ z.2.2.2 j) ∨ (f_X8_ones z.2.1).toInt < (f_X8_ones a).toInt - 1 - z.2.2.1.toInt)) (Q := fun z : Int32 × Int32 × Int32 × (Nat → Int32) => (∀ j : Nat, (j : Int) < (f_X8_ones a).toInt → ¬ z.2.2.2 j < 0 ∧ ¬ 8 ≤ z.2.2.2 j) ∨ (f_X8_ones z.2.1).toInt < (f_X8_ones a).toInt) (fun z : Int32 × Int32 × Int32 × (Nat → Int32) => (z.2.2.1.toInt + 1).toNat) ?_ _ _ ?_ (Nat.lt_succ_self _)
    · intro z ⟨g1, g2, g3, g4, g5⟩
      unfold f_X8_isOrder_st
      split
      · rename_i hk
        have e0 := i32_c0
        have hk2 := Int32.lt_iff_toInt_lt.mp hk
        rcases g5 with g5 | g5
        · exact Or.inl (fun j hj => g5 j (by omega) hj)
        · exact Or.inr (by show (f_X8_ones z.2.1).toInt < _; omega)
      · rename_i hk
        have hm := mu_dn hk
        have e1 := dn_toInt hk
        have hcl := clamp_toInt hk
        have hk0 := nn_toInt hk
        rw [upd_eq]
        generalize (z.1 - z.1 / 10 * 10) - 1 = v
        have hbad : vp_in (z.2.1 ||| 0) 256 ∧ -1 ≤ (z.2.2.1 + (-1)).toInt ∧ (z.2.2.1 + (-1)).toInt < (f_X8_ones a).toInt ∧ (f_X8_ones (z.2.1 ||| 0)).toInt ≤ (f_X8_ones a).toInt - 1 - (z.2.2.1 + (-1)).toInt ∧ ((∀ j : Nat, (z.2.2.1 + (-1)).toInt < (j : Int) → (j : Int) < (f_X8_ones a).toInt → ¬ upd z.2.2.2 z.2.2.1.toNatClampNeg v j < 0 ∧ ¬ 8 ≤ upd z.2.2.2 z.2.2.1.toNatClampNeg v j) ∨ (f_X8_ones (z.2.1 ||| 0)).toInt < (f_X8_ones a).toInt - 1 - (z.2.2.1 + (-1)).toInt) := by
          rw [Int32.or_zero, e1]
          exact ⟨g1, by omega, by omega, by omega, Or.inr (by omega)⟩
        split
        · exact ⟨hbad, hm⟩
        · rename_i hv0
          split
          · exact ⟨hbad, hm⟩
          · rename_i hv8
            have h1 := ix_or (b := 8) (K := 8) g1 hv0 hv8 (by decide) (by decide)
            have h2 := ones_or g1 hv0 hv8
            refine ⟨⟨h1, ?_, ?_, ?_, ?_⟩, hm⟩
            · show -1 ≤ (z.2.2.1 + (-1)).toInt; omega
            · show (z.2.2.1 + (-1)).toInt < _; omega
            · show (f_X8_ones (z.2.1 ||| (1 <<< (v &&& 31)))).toInt ≤ _ - 1 - (z.2.2.1 + (-1)).toInt; omega
            · rcases g5 with g5 | g5
              · refine Or.inl (fun j hj1 hj2 => ?_)
                have hj3 : (z.2.2.1 + (-1)).toInt < (j : Int) := hj1
                show ¬ upd z.2.2.2 z.2.2.1.toNatClampNeg v j < 0 ∧ ¬ 8 ≤ upd z.2.2.2 z.2.2.1.toNatClampNeg v j
                by_cases hjk : j = z.2.2.1.toNatClampNeg
                · rw [hjk, upd_eq]; exact ⟨hv0, hv8⟩
                · rw [upd_ne hjk]; exact g5 j (by omega) hj2
              · refine Or.inr ?_
                show (f_X8_ones (z.2.1 ||| (1 <<< (v &&& 31)))).toInt < _ - 1 - (z.2.2.1 + (-1)).toInt
                omega
    · have e := ones_s1 a
      have e0 : (f_X8_ones 0).toInt = 0 := by decide
      refine ⟨ix_00, ?_, ?_, ?_, Or.inl ?_⟩
      · show -1 ≤ ((f_X8_ones a) - 1).toInt; omega
      · show ((f_X8_ones a) - 1).toInt < _; omega
      · show (f_X8_ones 0).toInt ≤ _ - 1 - ((f_X8_ones a) - 1).toInt; omega
      · intro j h1 h2
        have h3 : ((f_X8_ones a) - 1).toInt < (j : Int) := h1
        omega
  · intro l c k w h
    try dsimp only
    split
    · intro h1; exact absurd rfl h1
    · split
      · split
        · rename_i hc
          subst hc
          intro _
          rcases h with h | h
          · exact h
          · exact absurd h (Int.lt_irrefl _)
        · intro h1; exact absurd rfl h1
      · intro h1; exact absurd rfl h1
theorem io_rows {a x r i : Int32} {y u : Nat → Int32} (h : f_X8_isOrder a y x = (r, u)) (hr : ¬ r = 0) (h0 : ¬ i < 0) (h1 : ¬ (f_X8_ones a) ≤ i) : ¬ (u i.toNatClampNeg) < 0 ∧ ¬ 8 ≤ (u i.toNatClampNeg) := by
  have h2 := io_all a x y
  rw [h] at h2
  have h3 := Int32.lt_iff_toInt_lt.mp (Int32.not_le.mp h1)
  exact h2 hr i.toNatClampNeg (by rw [clamp_toInt h0]; exact h3)
theorem vin_256 {i : Int32} (h0 : ¬ i < 0) (h1 : ¬ 256 ≤ i) : vp_in i 256 := ix_self (b := 256) (K := 256) (N := 256) h0 h1 (by decide) (by decide)
theorem or_0 {i x : Int32} (h0 : ¬ i < 0) (h1 : ¬ 256 ≤ i) (hx0 : ¬ x < 0) (hx8 : ¬ 8 ≤ x) : ¬ (i ||| (1 <<< (x &&& 31))) < 0 := fun h => ix_or (b := 8) (K := 8) (vin_256 h0 h1) hx0 hx8 (by decide) (by decide) (Or.inl h)
theorem or_256 {i x : Int32} (h0 : ¬ i < 0) (h1 : ¬ 256 ≤ i) (hx0 : ¬ x < 0) (hx8 : ¬ 8 ≤ x) : ¬ (256 : Int32) ≤ (i ||| (1 <<< (x &&& 31))) := fun h => by
  have h3 := (vp_in_iff.mp (ix_or (b := 8) (K := 8) (vin_256 h0 h1) hx0 hx8 (by decide) (by decide))).2
  have h2 := Int32.le_iff_toInt_le.mp h
  have e : (256 : Int32).toInt = 256 := by decide
  omega
theorem hd_X8_pivot_S : yX8_pivot.cls ≠ "java/lang/invoke/MethodHandle" ∧ yX8_pivot.cls ≠ "java/lang/invoke/VarHandle" ∧ (parseMethodDescriptor yX8_pivot.desc).map (fun d => d.parameters.length) = some 1 := by decide +kernel
theorem hd_X8_pivot_V : yX8_pivot.cls = RX8 ∧ yX8_pivot.cls ≠ "java/lang/invoke/MethodHandle" ∧ yX8_pivot.cls ≠ "java/lang/invoke/VarHandle" ∧ (parseMethodDescriptor yX8_pivot.desc).map (fun d => d.parameters.length) = some 1 := ⟨rfl, hd_X8_pivot_S⟩
def f_X8_pivot_st (u_1 : Int32 × (Nat → Int32)) (u_6 : (Nat → Int32)) (i2_16 : Int32) (i3_17 : Int32) : (Int32 × Int32) ⊕ (Int32 × (Int32 × Int32 × (Nat → Int32) × (Nat → Int32))) := (if (f_X8_ones u_1.1) ≤ i3_17 then (.inr ((-1), (0, u_1.1, u_1.2, u_6))) else (if (u_1.2 (i2_16 ||| (1 <<< ((u_6 i3_17.toNatClampNeg) &&& 31))).toNatClampNeg) = 0 then (.inl ((i2_16 ||| (1 <<< ((u_6 i3_17.toNatClampNeg) &&& 31))), (i3_17 + 1))) else (.inr ((u_6 i3_17.toNatClampNeg), (0, u_1.1, u_1.2, u_6)))))
def f_X8_pivot (y7 : (Nat → Int32)) (y10 : (Nat → Int32)) (y11 : (Nat → Int32)) (x0 : Int32) : Int32 × (Int32 × Int32 × (Nat → Int32) × (Nat → Int32)) := (my_l (f_X8_lays y7 y10 (y7 1)) (fun (u_1 : Int32 × (Nat → Int32)) => (my_b (f_X8_isOrder u_1.1 y11 x0) (fun (r_8 : Int32) (u_6 : (Nat → Int32)) => (if r_8 = 0 then (0, (1, u_1.1, u_1.2, u_6)) else (lp (fun (x : Int32 × Int32) => f_X8_pivot_st u_1 u_6 x.1 x.2) default ((((f_X8_ones u_1.1) : Int32).toInt - (0 : Int32).toInt).toNat + 1) (0, 0)))))))
set_option maxHeartbeats 400000 in
set_option maxRecDepth 100000 in
theorem c_X8_pivot (l : Launch) (D : va_G) (cy : Nat → ClassId) (g : Nat → Nat) (B : Nat) (a : Nat → Nat) (y0 : Int32) (y1 : Int32) (y2 : Int32) (y3 : Int32) (y4 : Int32) (y5 : Int32) (y6 : Int32) (y7 : (Nat → Int32)) (y8 : (Nat → Int32)) (y9 : (Nat → Int32)) (y10 : (Nat → Int32)) (y11 : (Nat → Int32)) (y12 : (Nat → Int32)) (y13 : (Nat → Int32)) (x0 : Int32) (hm8 : ¬ 8 < (y7 0)) (hR4 : ¬ 4 < (y7 2)) (hwin : ∀ j : Nat, y10 j = 0 ∨ y10 j = 1) : Met l yX8_pivot wsX8_pivot ({ frames := 4, cells := 0, slots := 0, locals := 91 }) (muP D cy g B (wModE cy a y0 y1 y2 y3 y4 y5 y6 y7 y8 y9 y10 y11 y12 y13) [.ref (a 0), .int x0]) (va_Qi (fun (r : Int32) (u : Int32 × Int32 × (Nat → Int32) × (Nat → Int32)) => f_X8_pivot y7 y10 y11 x0 = (r, u)) (fun u t => va_P D vwCl (wModE cy a y0 y1 y2 u.1 u.2.1 y5 y6 y7 y8 y9 u.2.2.1 u.2.2.2 y12 y13) t.heap) (muA (wModE cy a y0 y1 y2 y3 y4 y5 y6 y7 y8 y9 y10 y11 y12 y13))) 0 0 (muA (wModE cy a y0 y1 y2 y3 y4 y5 y6 y7 y8 y9 y10 y11 y12 y13)) := by
  refine Met.ofW (cc := cX8_pivot) (maxL := 4) (ret := (some .int)) (by decide) rfl ?_
  intro p e s m args below meth c s₁ BB hml hv
  obtain ⟨rfl, hP, hK0, hD0⟩ := hv
  have hx := BB.exec
  have hb := BB.bytes
  have hr := BB.returns
  have hts := atoms_spec (ws := wsX8_pivot) BB.pre
  have hown : s.vm.findClass RX8 = some m.cls := findClass_of_methodNamed BB.named
  have hlocks := BB.notSynchronized
  have S := my_fix hx hb hml hown hts
  have inX8 : ∀ w ∈ wsX80, w ∈ wsX8_pivot := fun w h => List.mem_cons_of_mem _ (List.mem_append_right _ h)
  have hAB := muB hD0
  have hD := muD hD0
  generalize hAe : muA (wModE cy a y0 y1 y2 y3 y4 y5 y6 y7 y8 y9 y10 y11 y12 y13) = A at hAB hD ⊢
  have hS : va_S A s.heap s.heap [] := va_S.rf
  have hl := lv_entry ([.ref (a 0), .int x0]) (n := 4) (Nat.le_of_ble_eq_true rfl)
  rw [lg_entry_eq]
  generalize (lg_sl ([.ref (a 0), .int x0]) ++ List.replicate (4 - (lg_sl ([.ref (a 0), .int x0])).length) Slot.unset).toArray = ls at hl ⊢
  have hl : lv_has ls 4 [(0, .ref (a 0)), (1, .int x0)] := hl
  refine lv_aload_n hx hb dX8_pivot_0 rfl (lv_at hl 0 rfl) ?_
  refine lv_aload_n hx hb dX8_pivot_1 rfl (lv_at hl 0 rfl) ?_
  refine va_get (D := D) (ci := 6) (v := .ref (a 1)) (C := RX8) (T := TX8) (N := 14) hx hb hts inX8 hown hK0.1 hP 0 rfl rfl 0 (by decide) (hts (.fieldLink RX8 7 "PivotChamberModel" "s" "[I") (List.mem_of_getElem? (i := 1) rfl)) (fun _ h9 => h9) rfl dX8_pivot_2 ?_
  refine lv_iconst (v := 1) hx hb dX8_pivot_5 (by decide) ?_
  refine va_iald hx hb hK0.1 hP 1 0 rfl rfl (vp_in_nI (n := 1) (N := 27) (by decide) (by decide)) dX8_pivot_6 ?_
  refine W.eq (g2 := F0 m 7 ls [.int (y7 1), .ref (a 0)]) rfl ?_
  refine mu_allv (wf := fun (u_1 : Int32 × (Nat → Int32)) => (wModE cy a y0 y1 y2 y3 u_1.1 y5 y6 y7 y8 y9 u_1.2 y11 y12 y13)) (va_runV (C := RX8) (As := [.int (y7 1)]) (rest := []) S (c_X8_lays l D cy g B a y0 y1 y2 y3 y4 y5 y6 y7 y8 y9 y10 y11 y12 y13 (y7 1) hm8 hR4) (cwV 1 hts gX8_pivot_X8_lays rfl rfl rfl hd_X8_lays_V ⟨Nat.le_of_ble_eq_true rfl, Nat.le_of_ble_eq_true rfl⟩) ⟨muP_blind, va_recv hK0.1 hP (ci := 6) (q0 := 0) rfl rfl, my_preA hK0 hS hAB hP hD⟩ rfl rfl hl.1 rfl (lv_room (Nat.le_of_ble_eq_true rfl)) dX8_pivot_7 ⟨Nat.zero_le _, Nat.zero_le _⟩) hS hD (fun _ => by simp only [List.map_cons, List.map_nil, adrSet, adrSetE, adrPow, adrPowE, adrTxt, adrTxtE, adrSav, adrSavE, adrPCo, adrMod, adrModE]) (fun u_1 H locs hw_2 hP hD hS => ?_)
  have ha_3 : ¬ u_1.1 < 0 := lays_0 hm8 hw_2
  have ha_4 : ¬ 256 ≤ u_1.1 := lays_256 hm8 hw_2
  have ha_5 : ∀ j : Nat, u_1.2 j = 0 ∨ u_1.2 j = 1 := lays_bool hwin hw_2
  refine lv_aload_n hx hb dX8_pivot_10 rfl (lv_at hl 0 rfl) ?_
  refine lv_aload_n hx hb dX8_pivot_11 rfl (lv_at hl 0 rfl) ?_
  refine lv_iload_n hx hb dX8_pivot_12 rfl (lv_at hl 1 rfl) ?_
  refine mu_alli (wf := fun (u_6 : (Nat → Int32)) => (wModE cy a y0 y1 y2 y3 u_1.1 y5 y6 y7 y8 y9 u_1.2 u_6 y12 y13)) (va_runV (C := RX8) (As := [.int x0]) (rest := [.ref (a 0)]) S (c_X8_isOrder l D cy g B a y0 y1 y2 y3 u_1.1 y5 y6 y7 y8 y9 u_1.2 y11 y12 y13 x0) (cwV 1 hts gX8_pivot_X8_isOrder rfl rfl rfl hd_X8_isOrder_V ⟨Nat.le_of_ble_eq_true rfl, Nat.le_of_ble_eq_true rfl⟩) ⟨muP_blind, va_recv hK0.1 hP (ci := 6) (q0 := 0) rfl rfl, my_preA hK0 hS hAB hP hD⟩ rfl rfl hl.1 rfl (lv_room (Nat.le_of_ble_eq_true rfl)) dX8_pivot_13 ⟨Nat.zero_le _, Nat.zero_le _⟩) hS hD (fun _ => by simp only [List.map_cons, List.map_nil, adrSet, adrSetE, adrPow, adrPowE, adrTxt, adrTxtE, adrSav, adrSavE, adrPCo, adrMod, adrModE]) (fun r_8 u_6 H locs hw_7 hP hD hS => ?_)
  refine lv_if_eq (tgt := 23) hx hb dX8_pivot_16 (by decide) (fun c_9 => ?_) (fun c_9 => ?_)
  · refine lv_iconst (v := 1) hx hb dX8_pivot_23 (by decide) ?_
    refine mu_alli (wf := fun (u_10 : Int32) => (wModE cy a y0 y1 y2 u_10 u_1.1 y5 y6 y7 y8 y9 u_1.2 u_6 y12 y13)) (va_runV (C := RX8) (As := [.int 1]) (rest := []) S (c_X8_throwsAt l D cy g B a y0 y1 y2 y3 u_1.1 y5 y6 y7 y8 y9 u_1.2 u_6 y12 y13 1) (cwV 1 hts gX8_pivot_X8_throwsAt rfl rfl rfl hd_X8_throwsAt_V ⟨Nat.le_of_ble_eq_true rfl, Nat.le_of_ble_eq_true rfl⟩) ⟨muP_blind, va_recv hK0.1 hP (ci := 6) (q0 := 0) rfl rfl, my_preA hK0 hS hAB hP hD⟩ rfl rfl hl.1 rfl (lv_room (Nat.le_of_ble_eq_true rfl)) dX8_pivot_24 ⟨Nat.zero_le _, Nat.zero_le _⟩) hS hD (fun _ => by simp only [List.map_cons, List.map_nil, adrSet, adrSetE, adrPow, adrPowE, adrTxt, adrTxtE, adrSav, adrSavE, adrPCo, adrMod, adrModE]) (fun r_12 u_10 H locs hw_11 hP hD hS => ?_)
    obtain ⟨rfl, rfl⟩ : 1 = r_12 ∧ 1 = u_10 := my_thr_lit (k := 1) (by decide) hw_11
    refine lv_if_eq (tgt := 32) hx hb dX8_pivot_27 (by decide) (fun h => absurd h (by decide)) (fun _ => ?_)
    refine lv_iconst (v := 0) hx hb dX8_pivot_30 (by decide) ?_
    have hP : va_P D vwCl (wModE cy a y0 y1 y2 1 u_1.1 y5 y6 y7 y8 y9 u_1.2 u_6 y12 y13) H := hP
    have hD : va_D A (wModE cy a y0 y1 y2 1 u_1.1 y5 y6 y7 y8 y9 u_1.2 u_6 y12 y13) := hD
    exact W.iret hx hb hr (fun t ht hW => ⟨⟨0, (1, u_1.1, u_1.2, u_6), rfl, (show f_X8_pivot y7 y10 y11 x0 = (0, (1, u_1.1, u_1.2, u_6)) from by rw [f_X8_pivot, hw_2, my_l_eq, hw_7, my_b_eq, if_pos c_9]), by show va_P D vwCl _ t.heap; rw [ht]; exact hP⟩, hS.F ht⟩) hS.2.2 dX8_pivot_31
  · refine lv_iconst (v := 0) hx hb dX8_pivot_19 (by decide) ?_
    refine lv_goto (tgt := 24) hx hb dX8_pivot_20 (by decide) ?_
    refine mu_alli (wf := fun (u_13 : Int32) => (wModE cy a y0 y1 y2 u_13 u_1.1 y5 y6 y7 y8 y9 u_1.2 u_6 y12 y13)) (va_runV (C := RX8) (As := [.int 0]) (rest := []) S (c_X8_throwsAt l D cy g B a y0 y1 y2 y3 u_1.1 y5 y6 y7 y8 y9 u_1.2 u_6 y12 y13 0) (cwV 1 hts gX8_pivot_X8_throwsAt rfl rfl rfl hd_X8_throwsAt_V ⟨Nat.le_of_ble_eq_true rfl, Nat.le_of_ble_eq_true rfl⟩) ⟨muP_blind, va_recv hK0.1 hP (ci := 6) (q0 := 0) rfl rfl, my_preA hK0 hS hAB hP hD⟩ rfl rfl hl.1 rfl (lv_room (Nat.le_of_ble_eq_true rfl)) dX8_pivot_24 ⟨Nat.zero_le _, Nat.zero_le _⟩) hS hD (fun _ => by simp only [List.map_cons, List.map_nil, adrSet, adrSetE, adrPow, adrPowE, adrTxt, adrTxtE, adrSav, adrSavE, adrPCo, adrMod, adrModE]) (fun r_15 u_13 H locs hw_14 hP hD hS => ?_)
    obtain ⟨rfl, rfl⟩ : 0 = r_15 ∧ 0 = u_13 := my_thr_lit (k := 0) (by decide) hw_14
    refine lv_if_eq (tgt := 32) hx hb dX8_pivot_27 (by decide) (fun _ => ?_) (fun h => absurd (by decide) h)
    refine lv_iconst (v := 0) hx hb dX8_pivot_32 (by decide) ?_
    refine lv_istore_n (lv' := [(2, .int 0), (0, .ref (a 0)), (1, .int x0)]) hx hb dX8_pivot_33 rfl hl (by decide) rfl (fun ls hl => ?_)
    refine lv_iconst (v := 0) hx hb dX8_pivot_34 (by decide) ?_
    refine lv_istore_n (lv' := [(3, .int 0), (2, .int 0), (0, .ref (a 0)), (1, .int x0)]) hx hb dX8_pivot_35 rfl hl (by decide) rfl (fun ls hl => ?_)
    have key : ∀ (nf : Nat) (i2_16 : Int32) (i3_17 : Int32), (((f_X8_ones u_1.1) : Int32).toInt - (i3_17 : Int32).toInt).toNat < nf → lp (fun (x : Int32 × Int32) => f_X8_pivot_st u_1 u_6 x.1 x.2) default nf (i2_16, i3_17) = lp (fun (x : Int32 × Int32) => f_X8_pivot_st u_1 u_6 x.1 x.2) default ((((f_X8_ones u_1.1) : Int32).toInt - (0 : Int32).toInt).toNat + 1) (0, 0) → ¬ i2_16 < 0 → ¬ 256 ≤ i2_16 → ¬ i3_17 < 0 → ∀ ls : Array Slot, lv_has ls 4 [(0, .ref (a 0)), (1, .int x0), (2, .int i2_16), (3, .int i3_17)] → W p l e (headSpec wsX8_pivot ({ frames := 4, cells := 0, slots := 0, locals := 91 } : Room)).room s m ([.ref (a 0), .int x0] : List Value).toArray below meth c H locs 0 0 (MQ below (va_Qi (fun (r : Int32) (u : Int32 × Int32 × (Nat → Int32) × (Nat → Int32)) => f_X8_pivot y7 y10 y11 x0 = (r, u)) (fun u t => va_P D vwCl (wModE cy a y0 y1 y2 u.1 u.2.1 y5 y6 y7 y8 y9 u.2.2.1 u.2.2.2 y12 y13) t.heap) A) ([.ref (a 0), .int x0] : List Value).toArray s 0 0 A) (F0 m 36 ls []) := by
      intro n0
      induction n0 with
      | zero => intro i2_16 i3_17 hlt; exact absurd hlt (Nat.not_lt_zero _)
      | succ n0 ih0 =>
        intro i2_16 i3_17 hlt0 hF0 hi0_0 hi0_1 hi0_2 ls hl
        refine lv_iload_n hx hb dX8_pivot_36 rfl (lv_at hl 3 rfl) ?_
        refine lv_aload_n hx hb dX8_pivot_37 rfl (lv_at hl 0 rfl) ?_
        refine va_get (D := D) (ci := 6) (v := .int u_1.1) (C := RX8) (T := TX8) (N := 14) hx hb hts inX8 hown hK0.1 hP 0 rfl rfl 8 (by decide) (hts (.fieldLink RX8 71 "PivotChamberModel" "all" "I") (List.mem_of_getElem? (i := 2) rfl)) (fun _ h9 => h9) rfl dX8_pivot_38 ?_
        refine rd_goi (va_runS (As := [.int u_1.1]) (rest := [.int i3_17]) S (c_X8_ones l D cy g B u_1.1) (va_cwS 1 hts gX8_pivot_X8_ones rfl rfl rfl hd_X8_ones_S ⟨Nat.le_of_ble_eq_true rfl, Nat.le_of_ble_eq_true rfl⟩) ⟨rdP_blind, my_preV hK0 hS hAB hP [] rfl⟩ rfl rfl hl.1 rfl (lv_room (Nat.le_of_ble_eq_true rfl)) dX8_pivot_41 ⟨Nat.zero_le _, Nat.zero_le _⟩) ?_
        refine lv_icmp_ge (tgt := 80) hx hb dX8_pivot_44 (by decide) (fun c_18 => ?_) (fun c_18 => ?_)
        · refine lv_iconst (v := (-1)) hx hb dX8_pivot_80 (by decide) ?_
          have hP : va_P D vwCl (wModE cy a y0 y1 y2 0 u_1.1 y5 y6 y7 y8 y9 u_1.2 u_6 y12 y13) H := hP
          have hD : va_D A (wModE cy a y0 y1 y2 0 u_1.1 y5 y6 y7 y8 y9 u_1.2 u_6 y12 y13) := hD
          have hst : f_X8_pivot_st u_1 u_6 i2_16 i3_17 = .inr ((-1), (0, u_1.1, u_1.2, u_6)) := by rw [f_X8_pivot_st, if_pos c_18]
          exact W.iret hx hb hr (fun t ht hW => ⟨⟨(-1), (0, u_1.1, u_1.2, u_6), rfl, (show f_X8_pivot y7 y10 y11 x0 = ((-1), (0, u_1.1, u_1.2, u_6)) from by rw [f_X8_pivot, hw_2, my_l_eq, hw_7, my_b_eq, if_neg c_9]; exact lp_inr hst hF0), by show va_P D vwCl _ t.heap; rw [ht]; exact hP⟩, hS.F ht⟩) hS.2.2 dX8_pivot_81
        · refine lv_iload_n hx hb dX8_pivot_47 rfl (lv_at hl 2 rfl) ?_
          refine lv_iconst (v := 1) hx hb dX8_pivot_48 (by decide) ?_
          refine lv_aload_n hx hb dX8_pivot_49 rfl (lv_at hl 0 rfl) ?_
          refine va_get (D := D) (ci := 6) (v := .ref (a 5)) (C := RX8) (T := TX8) (N := 14) hx hb hts inX8 hown hK0.1 hP 0 rfl rfl 9 (by decide) (hts (.fieldLink RX8 23 "PivotChamberModel" "row" "[I") (List.mem_of_getElem? (i := 3) rfl)) (fun _ h9 => h9) rfl dX8_pivot_50 ?_
          refine lv_iload_n hx hb dX8_pivot_53 rfl (lv_at hl 3 rfl) ?_
          refine va_iald hx hb hK0.1 hP 5 0 rfl rfl (ix_self (K := 8) (N := 8) hi0_2 c_18 (ones_8 _) (by decide)) dX8_pivot_54 ?_
          refine lv_ishl hx hb dX8_pivot_55 ?_
          refine lv_ior hx hb dX8_pivot_56 ?_
          refine lv_istore_n (lv' := [(2, .int (i2_16 ||| (1 <<< ((u_6 i3_17.toNatClampNeg) &&& 31)))), (0, .ref (a 0)), (1, .int x0), (3, .int i3_17)]) hx hb dX8_pivot_57 rfl hl (by decide) rfl (fun ls hl => ?_)
          refine lv_aload_n hx hb dX8_pivot_58 rfl (lv_at hl 1 rfl) ?_
          refine va_get (D := D) (ci := 6) (v := .ref (a 4)) (C := RX8) (T := TX8) (N := 14) hx hb hts inX8 hown hK0.1 hP 0 rfl rfl 7 (by decide) (hts (.fieldLink RX8 19 "PivotChamberModel" "win" "[Z") (List.mem_of_getElem? (i := 4) rfl)) (fun _ h9 => h9) rfl dX8_pivot_59 ?_
          refine lv_iload_n hx hb dX8_pivot_62 rfl (lv_at hl 0 rfl) ?_
          refine va_zald hx hb hK0.1 hP 4 1 rfl rfl (ix_or (ix_self (K := 256) (N := 256) hi0_0 hi0_1 (by decide) (by decide)) (K := 8) (io_rows hw_7 c_9 hi0_2 c_18).1 (io_rows hw_7 c_9 hi0_2 c_18).2 (by decide) (by decide)) dX8_pivot_63 ?_
          refine lv_if_eq (tgt := 74) hx hb dX8_pivot_64 (by decide) (fun c_19 => ?_) (fun c_19 => ?_)
          · refine lv_iinc (v := (i3_17 + 1)) (lv' := [(3, .int (i3_17 + 1)), (2, .int (i2_16 ||| (1 <<< ((u_6 i3_17.toNatClampNeg) &&& 31)))), (0, .ref (a 0)), (1, .int x0)]) hx hb dX8_pivot_74 hl (k := 3) rfl rfl (by decide) rfl (fun ls hl => ?_)
            refine lv_goto (tgt := 36) hx hb dX8_pivot_77 (by decide) ?_
            have hst : f_X8_pivot_st u_1 u_6 i2_16 i3_17 = .inl ((i2_16 ||| (1 <<< ((u_6 i3_17.toNatClampNeg) &&& 31))), (i3_17 + 1)) := by rw [f_X8_pivot_st, if_neg c_18, if_pos c_19]
            have hmu : (((f_X8_ones u_1.1) : Int32).toInt - ((i3_17 + 1) : Int32).toInt).toNat < (((f_X8_ones u_1.1) : Int32).toInt - (i3_17 : Int32).toInt).toNat := mu_up c_18
            exact ih0 (i2_16 ||| (1 <<< ((u_6 i3_17.toNatClampNeg) &&& 31))) (i3_17 + 1) (Nat.lt_of_lt_of_le hmu (Nat.le_of_lt_succ hlt0)) (lp_inl hst hF0) (or_0 hi0_0 hi0_1 (io_rows hw_7 c_9 hi0_2 c_18).1 (io_rows hw_7 c_9 hi0_2 c_18).2) (or_256 hi0_0 hi0_1 (io_rows hw_7 c_9 hi0_2 c_18).1 (io_rows hw_7 c_9 hi0_2 c_18).2) (nn_up hi0_2 c_18) _ (lv_sub hl [2, 3, 1, 0] rfl)
          · refine lv_aload_n hx hb dX8_pivot_67 rfl (lv_at hl 1 rfl) ?_
            refine va_get (D := D) (ci := 6) (v := .ref (a 5)) (C := RX8) (T := TX8) (N := 14) hx hb hts inX8 hown hK0.1 hP 0 rfl rfl 9 (by decide) (hts (.fieldLink RX8 23 "PivotChamberModel" "row" "[I") (List.mem_of_getElem? (i := 3) rfl)) (fun _ h9 => h9) rfl dX8_pivot_68 ?_
            refine lv_iload_n hx hb dX8_pivot_71 rfl (lv_at hl 3 rfl) ?_
            refine va_iald hx hb hK0.1 hP 5 0 rfl rfl (ix_self (K := 8) (N := 8) hi0_2 c_18 (ones_8 _) (by decide)) dX8_pivot_72 ?_
            have hP : va_P D vwCl (wModE cy a y0 y1 y2 0 u_1.1 y5 y6 y7 y8 y9 u_1.2 u_6 y12 y13) H := hP
            have hD : va_D A (wModE cy a y0 y1 y2 0 u_1.1 y5 y6 y7 y8 y9 u_1.2 u_6 y12 y13) := hD
            have hst : f_X8_pivot_st u_1 u_6 i2_16 i3_17 = .inr ((u_6 i3_17.toNatClampNeg), (0, u_1.1, u_1.2, u_6)) := by rw [f_X8_pivot_st, if_neg c_18, if_neg c_19]
            exact W.iret hx hb hr (fun t ht hW => ⟨⟨(u_6 i3_17.toNatClampNeg), (0, u_1.1, u_1.2, u_6), rfl, (show f_X8_pivot y7 y10 y11 x0 = ((u_6 i3_17.toNatClampNeg), (0, u_1.1, u_1.2, u_6)) from by rw [f_X8_pivot, hw_2, my_l_eq, hw_7, my_b_eq, if_neg c_9]; exact lp_inr hst hF0), by show va_P D vwCl _ t.heap; rw [ht]; exact hP⟩, hS.F ht⟩) hS.2.2 dX8_pivot_73
    exact key ((((f_X8_ones u_1.1) : Int32).toInt - (0 : Int32).toInt).toNat + 1) 0 0 (Nat.lt_succ_self _) rfl (by decide) (by decide) (by decide) _ (lv_sub hl [2, 3, 1, 0] rfl)
