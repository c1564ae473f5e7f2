theorem hd_X5_slotAt_S : yX5_slotAt.cls ≠ "java/lang/invoke/MethodHandle" ∧ yX5_slotAt.cls ≠ "java/lang/invoke/VarHandle" ∧ (parseMethodDescriptor yX5_slotAt.desc).map (fun d => d.parameters.length) = some 1 := by decide +kernel
theorem hd_X5_slotAt_V : yX5_slotAt.cls = RX5 ∧ yX5_slotAt.cls ≠ "java/lang/invoke/MethodHandle" ∧ yX5_slotAt.cls ≠ "java/lang/invoke/VarHandle" ∧ (parseMethodDescriptor yX5_slotAt.desc).map (fun d => d.parameters.length) = some 1 := ⟨rfl, hd_X5_slotAt_S⟩
set_option maxHeartbeats 400000 in
set_option maxRecDepth 100000 in
theorem c_X5_slotAt (l : Launch) (D : va_G) (cy : Nat → ClassId) (g : Nat → Nat) (B : Nat) (h : Nat → Nat) (q : Nat → Nat → Nat) (z : (Int32 × Int32)) (x0 : Int32) : Met l yX5_slotAt wsX5_slotAt ({ frames := 0, cells := 0, slots := 0, locals := 0 }) (rdP D cy g B (wSav cy q h z) [.ref (h 0), .int x0]) (my_Sr (slotV q x0)) 0 0 (fun _ => False) := by
  refine Met.ofW (cc := cX5_slotAt) (maxL := 2) (ret := (some (.object "PivotChamber$Setting"))) (by decide) rfl ?_
  intro p e s m args below meth c s₁ BB hml hv
  obtain ⟨rfl, hP, hK0⟩ := hv
  have hx := BB.exec
  have hb := BB.bytes
  have hr := BB.returns
  have hts := atoms_spec (ws := wsX5_slotAt) BB.pre
  have hown : s.vm.findClass RX5 = some m.cls := findClass_of_methodNamed BB.named
  have hlocks := BB.notSynchronized
  have S := my_fix hx hb hml hown hts
  have inX5 : ∀ w ∈ wsX50, w ∈ wsX5_slotAt := fun w h => List.mem_cons_of_mem _ (List.mem_append_right _ h)
  have hS : va_S (fun q => B ≤ q) s.heap s.heap [] := va_S.rf
  have hAB : ∀ q : Nat, (fun q => B ≤ q) q → B ≤ q := fun _ h => h
  have hl := lv_entry ([.ref (h 0), .int x0]) (n := 2) (Nat.le_of_ble_eq_true rfl)
  rw [lg_entry_eq]
  generalize (lg_sl ([.ref (h 0), .int x0]) ++ List.replicate (2 - (lg_sl ([.ref (h 0), .int x0])).length) Slot.unset).toArray = ls at hl ⊢
  have hl : lv_has ls 2 [(0, .ref (h 0)), (1, .int x0)] := hl
  refine lv_iload_n hx hb dX5_slotAt_0 rfl (lv_at hl 1 rfl) ?_
  refine lv_if_lt (tgt := 22) hx hb dX5_slotAt_1 (by decide) (fun c_1 => ?_) (fun c_1 => ?_)
  · refine lv_null hx hb dX5_slotAt_22 ?_
    refine W.eq (g2 := F0 m 23 ls [(slotV q x0)]) (by rw [slotV, if_pos c_1]) ?_
    exact W.aret (v := (slotV q x0)) hx hb hr (Or.inl ⟨_, rfl⟩) (slotV_nr _ _) (fun t ht hW => ⟨rfl, ht⟩) (fun q hq => absurd hq List.not_mem_nil) dX5_slotAt_23
  · refine lv_iload_n hx hb dX5_slotAt_4 rfl (lv_at hl 1 rfl) ?_
    refine lv_aload_n hx hb dX5_slotAt_5 rfl (lv_at hl 0 rfl) ?_
    refine va_get (D := D) (ci := 3) (v := .ref (h 1)) (C := RX5) (T := TX5) (N := 3) hx hb hts inX5 hown hK0.1 hP 0 rfl rfl 0 (by decide) (hts (.fieldLink RX5 11 "PivotChamber$SavedSettings" "slots" "[LPivotChamber$Setting;") (List.mem_of_getElem? (i := 1) rfl)) (fun _ h9 => h9) rfl dX5_slotAt_6 ?_
    refine va_alen hx hb hK0.1 hP 1 2 rfl rfl (v := 4) (show Int32.ofNat 4 = 4 from by decide) dX5_slotAt_9 ?_
    refine lv_icmp_ge (tgt := 22) hx hb dX5_slotAt_10 (by decide) (fun c_2 => ?_) (fun c_2 => ?_)
    · refine lv_null hx hb dX5_slotAt_22 ?_
      refine W.eq (g2 := F0 m 23 ls [(slotV q x0)]) (by rw [slotV, if_neg c_1, if_pos c_2]) ?_
      exact W.aret (v := (slotV q x0)) hx hb hr (Or.inl ⟨_, rfl⟩) (slotV_nr _ _) (fun t ht hW => ⟨rfl, ht⟩) (fun q hq => absurd hq List.not_mem_nil) dX5_slotAt_23
    · refine lv_aload_n hx hb dX5_slotAt_13 rfl (lv_at hl 0 rfl) ?_
      refine va_get (D := D) (ci := 3) (v := .ref (h 1)) (C := RX5) (T := TX5) (N := 3) hx hb hts inX5 hown hK0.1 hP 0 rfl rfl 0 (by decide) (hts (.fieldLink RX5 11 "PivotChamber$SavedSettings" "slots" "[LPivotChamber$Setting;") (List.mem_of_getElem? (i := 1) rfl)) (fun _ h9 => h9) rfl dX5_slotAt_14 ?_
      refine lv_iload_n hx hb dX5_slotAt_17 rfl (lv_at hl 1 rfl) ?_
      refine va_aldq hx hb hK0.1 hP 1 2 rfl rfl (i := x0) (vin_cmp (n := 4) (by decide) c_1 c_2) dX5_slotAt_18 ?_
      refine W.eq (g2 := F0 m 19 ls [.ref (q x0.toNatClampNeg 0)]) rfl ?_
      refine lv_goto (tgt := 23) hx hb dX5_slotAt_19 (by decide) ?_
      refine W.eq (g2 := F0 m 23 ls [(slotV q x0)]) (by rw [slotV, if_neg c_1, if_neg c_2]) ?_
      exact W.aret (v := (slotV q x0)) hx hb hr (Or.inl ⟨_, rfl⟩) (slotV_nr _ _) (fun t ht hW => ⟨rfl, ht⟩) (fun q hq => absurd hq List.not_mem_nil) dX5_slotAt_23
theorem hd_X5_keep_S : yX5_keep.cls ≠ "java/lang/invoke/MethodHandle" ∧ yX5_keep.cls ≠ "java/lang/invoke/VarHandle" ∧ (parseMethodDescriptor yX5_keep.desc).map (fun d => d.parameters.length) = some 1 := by decide +kernel
theorem hd_X5_keep_V : yX5_keep.cls = RX5 ∧ yX5_keep.cls ≠ "java/lang/invoke/MethodHandle" ∧ yX5_keep.cls ≠ "java/lang/invoke/VarHandle" ∧ (parseMethodDescriptor yX5_keep.desc).map (fun d => d.parameters.length) = some 1 := ⟨rfl, hd_X5_keep_S⟩
def f_X5_keep (z : (Int32 × Int32)) (v : SetV) (s0 : SetV) (s1 : SetV) (s2 : SetV) (s3 : SetV) : (Int32 × Int32) × SetV × SetV × SetV × SetV := (if z.2 < 0 then (((my_min (z.1 + 1) 4), ((z.2 + 1) - (z.2 + 1) / 4 * 4)), s0, s1, s2, s3) else if 4 ≤ z.2 then (((my_min (z.1 + 1) 4), ((z.2 + 1) - (z.2 + 1) / 4 * 4)), s0, s1, s2, s3) else if z.2 = 0 then (my_l (f_X6_copyFrom s0 v) (fun (u_6 : SetV) => (((my_min (z.1 + 1) 4), ((z.2 + 1) - (z.2 + 1) / 4 * 4)), u_6, s1, s2, s3))) else if z.2 = 1 then (my_l (f_X6_copyFrom s1 v) (fun (u_8 : SetV) => (((my_min (z.1 + 1) 4), ((z.2 + 1) - (z.2 + 1) / 4 * 4)), s0, u_8, s2, s3))) else if z.2 = 2 then (my_l (f_X6_copyFrom s2 v) (fun (u_10 : SetV) => (((my_min (z.1 + 1) 4), ((z.2 + 1) - (z.2 + 1) / 4 * 4)), s0, s1, u_10, s3))) else (my_l (f_X6_copyFrom s3 v) (fun (u_12 : SetV) => (((my_min (z.1 + 1) 4), ((z.2 + 1) - (z.2 + 1) / 4 * 4)), s0, s1, s2, u_12))))
set_option maxHeartbeats 400000 in
set_option maxRecDepth 100000 in
theorem c_X5_keep (l : Launch) (D : va_G) (cy : Nat → ClassId) (g : Nat → Nat) (B : Nat) (h : Nat → Nat) (q : Nat → Nat → Nat) (a : Nat → Nat) (z : (Int32 × Int32)) (v : SetV) (s0 : SetV) (s1 : SetV) (s2 : SetV) (s3 : SetV) : Met l yX5_keep wsX5_keep ({ frames := 3, cells := 0, slots := 0, locals := 64 }) (muP D cy g B (List.flatten [(wSav cy q h z), (wSet cy a v), (wSet cy (q 0) s0), (wSet cy (q 1) s1), (wSet cy (q 2) s2), (wSet cy (q 3) s3)]) [.ref (h 0), .ref (a 0)]) (va_Qv (fun (u : (Int32 × Int32) × SetV × SetV × SetV × SetV) => f_X5_keep z v s0 s1 s2 s3 = u) (fun u t => va_P D vwCl (List.flatten [(wSav cy q h u.1), (wSet cy a v), (wSet cy (q 0) u.2.1), (wSet cy (q 1) u.2.2.1), (wSet cy (q 2) u.2.2.2.1), (wSet cy (q 3) u.2.2.2.2)]) t.heap) (muA (List.flatten [(wSav cy q h z), (wSet cy a v), (wSet cy (q 0) s0), (wSet cy (q 1) s1), (wSet cy (q 2) s2), (wSet cy (q 3) s3)]))) 0 0 (muA (List.flatten [(wSav cy q h z), (wSet cy a v), (wSet cy (q 0) s0), (wSet cy (q 1) s1), (wSet cy (q 2) s2), (wSet cy (q 3) s3)])) := by
  refine Met.ofW (cc := cX5_keep) (maxL := 3) (ret := none) (by decide) rfl ?_
  intro p e s m args below meth c s₁ BB hml hv
  obtain ⟨rfl, hP, hK0, hD0⟩ := hv
  have hx := BB.exec
  have hb := BB.bytes
  have hr := BB.returns
  have hts := atoms_spec (ws := wsX5_keep) BB.pre
  have hown : s.vm.findClass RX5 = some m.cls := findClass_of_methodNamed BB.named
  have hlocks := BB.notSynchronized
  have S := my_fix hx hb hml hown hts
  have inX5 : ∀ w ∈ wsX50, w ∈ wsX5_keep := fun w h => List.mem_cons_of_mem _ (List.mem_append_left _ (List.mem_append_left _ (List.mem_append_right _ h)))
  have hAB := muB hD0
  have hD := muD hD0
  generalize hAe : muA (List.flatten [(wSav cy q h z), (wSet cy a v), (wSet cy (q 0) s0), (wSet cy (q 1) s1), (wSet cy (q 2) s2), (wSet cy (q 3) s3)]) = A at hAB hD ⊢
  have hS : va_S A s.heap s.heap [] := va_S.rf
  have hl := lv_entry ([.ref (h 0), .ref (a 0)]) (n := 3) (Nat.le_of_ble_eq_true rfl)
  rw [lg_entry_eq]
  generalize (lg_sl ([.ref (h 0), .ref (a 0)]) ++ List.replicate (3 - (lg_sl ([.ref (h 0), .ref (a 0)])).length) Slot.unset).toArray = ls at hl ⊢
  have hl : lv_has ls 3 [(0, .ref (h 0)), (1, .ref (a 0))] := hl
  refine lv_aload_n hx hb dX5_keep_0 rfl (lv_at hl 0 rfl) ?_
  refine lv_aload_n hx hb dX5_keep_1 rfl (lv_at hl 0 rfl) ?_
  refine va_get (D := D) (ci := 3) (v := .int z.2) (C := RX5) (T := TX5) (N := 3) hx hb hts inX5 hown hK0.1 hP 0 rfl rfl 2 (by decide) (hts (.fieldLink RX5 18 "PivotChamber$SavedSettings" "next" "I") (List.mem_of_getElem? (i := 1) rfl)) (fun _ h9 => h9) rfl dX5_keep_2 ?_
  refine rd_gor (va_runV (C := RX5) (As := [.int z.2]) (rest := []) S (c_X5_slotAt l D cy g B h q z z.2) (cwV 1 hts gX5_keep_X5_slotAt rfl rfl rfl hd_X5_slotAt_V ⟨Nat.le_of_ble_eq_true rfl, Nat.le_of_ble_eq_true rfl⟩) ⟨rdP_blind, va_recv hK0.1 hP (ci := 3) (q0 := 0) rfl rfl, my_preP hK0 hS hAB (my_cP hP 0 rfl)⟩ rfl rfl hl.1 rfl (lv_room (Nat.le_of_ble_eq_true rfl)) dX5_keep_5 ⟨Nat.zero_le _, Nat.zero_le _⟩) ?_
  by_cases c_1 : z.2 < 0
  · refine W.eq (g2 := F0 m 8 ls [.null]) (by rw [slotV, if_pos c_1]) ?_
    refine lv_astore_nN (lv' := [(2, .null), (0, .ref (h 0)), (1, .ref (a 0))]) hx hb dX5_keep_8 rfl hl (by decide) rfl (fun ls hl => ?_)
    refine lv_aload_nN hx hb dX5_keep_9 rfl (lv_at hl 0 rfl) ?_
    refine lv_ifnullN (tgt := 18) hx hb dX5_keep_10 (by decide) ?_
    refine lv_aload_n hx hb dX5_keep_18 rfl (lv_at hl 1 rfl) ?_
    refine lv_aload_n hx hb dX5_keep_19 rfl (lv_at hl 1 rfl) ?_
    refine va_get (D := D) (ci := 3) (v := .int z.2) (C := RX5) (T := TX5) (N := 3) hx hb hts inX5 hown hK0.1 hP 0 rfl rfl 2 (by decide) (hts (.fieldLink RX5 18 "PivotChamber$SavedSettings" "next" "I") (List.mem_of_getElem? (i := 1) rfl)) (fun _ h9 => h9) rfl dX5_keep_20 ?_
    refine lv_iconst (v := 1) hx hb dX5_keep_23 (by decide) ?_
    refine lv_iadd hx hb dX5_keep_24 ?_
    refine lv_iconst (v := 4) hx hb dX5_keep_25 (by decide) ?_
    refine lv_irem hx hb dX5_keep_26 (by decide) ?_
    refine va_put (D := D) (ci := 3) (v := .int ((z.2 + 1) - (z.2 + 1) / 4 * 4)) (ty := .int) (C := RX5) (T := TX5) (N := 3) hx hb hts inX5 tyX5 tyX5_ok nmX5 hown hK0.1 hP hD hS 0 rfl rfl 2 (by decide) (hts (.fieldLink RX5 18 "PivotChamber$SavedSettings" "next" "I") (List.mem_of_getElem? (i := 1) rfl)) (fun _ h9 => h9) rfl (by decide +kernel) rfl rfl (Nat.le_of_ble_eq_true rfl) dX5_keep_27 (fun H locs hP hD hS => ?_)
    have hP : va_P D vwCl (List.flatten [(wSavE cy q h z.1 ((z.2 + 1) - (z.2 + 1) / 4 * 4)), (wSet cy a v), (wSet cy (q 0) s0), (wSet cy (q 1) s1), (wSet cy (q 2) s2), (wSet cy (q 3) s3)]) H := hP
    have hD : va_D A (List.flatten [(wSavE cy q h z.1 ((z.2 + 1) - (z.2 + 1) / 4 * 4)), (wSet cy a v), (wSet cy (q 0) s0), (wSet cy (q 1) s1), (wSet cy (q 2) s2), (wSet cy (q 3) s3)]) := hD
    refine lv_aload_n hx hb dX5_keep_30 rfl (lv_at hl 1 rfl) ?_
    refine lv_aload_n hx hb dX5_keep_31 rfl (lv_at hl 1 rfl) ?_
    refine va_get (D := D) (ci := 3) (v := .int z.1) (C := RX5) (T := TX5) (N := 3) hx hb hts inX5 hown hK0.1 hP 0 rfl rfl 1 (by decide) (hts (.fieldLink RX5 30 "PivotChamber$SavedSettings" "count" "I") (List.mem_of_getElem? (i := 2) rfl)) (fun _ h9 => h9) rfl dX5_keep_32 ?_
    refine lv_iconst (v := 1) hx hb dX5_keep_35 (by decide) ?_
    refine lv_iadd hx hb dX5_keep_36 ?_
    refine lv_iconst (v := 4) hx hb dX5_keep_37 (by decide) ?_
    refine va_mmin hx hb (hml.trans hl.1.symm) hown (hts (.methodLink RX5 33 Lib.Math.min.name) (List.mem_of_getElem? (i := 3) rfl)) (hts (.static Lib.Math.min.name) (List.mem_of_getElem? (i := 4) rfl)) (hts (.initialized "java/lang/Math") (List.mem_of_getElem? (i := 5) rfl)) (hts (.code Lib.Math.min.name Lib.Math.min.code 2 (some .int)) (List.mem_of_getElem? (i := 6) rfl)) (Nat.le_of_ble_eq_true rfl) (Nat.le_of_ble_eq_true rfl) (Nat.zero_le _) (Nat.zero_le _) dX5_keep_38 ?_
    refine W.eq (g2 := F0 m 41 ls [.int (my_min (z.1 + 1) 4), .ref (h 0)]) rfl ?_
    refine va_put (D := D) (ci := 3) (v := .int (my_min (z.1 + 1) 4)) (ty := .int) (C := RX5) (T := TX5) (N := 3) hx hb hts inX5 tyX5 tyX5_ok nmX5 hown hK0.1 hP hD hS 0 rfl rfl 1 (by decide) (hts (.fieldLink RX5 30 "PivotChamber$SavedSettings" "count" "I") (List.mem_of_getElem? (i := 2) rfl)) (fun _ h9 => h9) rfl (by decide +kernel) rfl rfl (Nat.le_of_ble_eq_true rfl) dX5_keep_41 (fun H locs hP hD hS => ?_)
    have hP : va_P D vwCl (List.flatten [(wSavE cy q h (my_min (z.1 + 1) 4) ((z.2 + 1) - (z.2 + 1) / 4 * 4)), (wSet cy a v), (wSet cy (q 0) s0), (wSet cy (q 1) s1), (wSet cy (q 2) s2), (wSet cy (q 3) s3)]) H := hP
    have hD : va_D A (List.flatten [(wSavE cy q h (my_min (z.1 + 1) 4) ((z.2 + 1) - (z.2 + 1) / 4 * 4)), (wSet cy a v), (wSet cy (q 0) s0), (wSet cy (q 1) s1), (wSet cy (q 2) s2), (wSet cy (q 3) s3)]) := hD
    have hP : va_P D vwCl (List.flatten [(wSav cy q h ((my_min (z.1 + 1) 4), ((z.2 + 1) - (z.2 + 1) / 4 * 4))), (wSet cy a v), (wSet cy (q 0) s0), (wSet cy (q 1) s1), (wSet cy (q 2) s2), (wSet cy (q 3) s3)]) H := by rw [wSav_mk]; exact hP
    have hD : va_D A (List.flatten [(wSav cy q h ((my_min (z.1 + 1) 4), ((z.2 + 1) - (z.2 + 1) / 4 * 4))), (wSet cy a v), (wSet cy (q 0) s0), (wSet cy (q 1) s1), (wSet cy (q 2) s2), (wSet cy (q 3) s3)]) := by rw [wSav_mk]; exact hD
    exact W.vret hx hb hr (fun t ht hW => ⟨⟨(((my_min (z.1 + 1) 4), ((z.2 + 1) - (z.2 + 1) / 4 * 4)), s0, s1, s2, s3), rfl, (show f_X5_keep z v s0 s1 s2 s3 = (((my_min (z.1 + 1) 4), ((z.2 + 1) - (z.2 + 1) / 4 * 4)), s0, s1, s2, s3) from by rw [f_X5_keep, if_pos c_1]), by show va_P D vwCl _ t.heap; rw [ht]; exact hP⟩, hS.F ht⟩) hS.2.2 dX5_keep_44
  by_cases c_2 : 4 ≤ z.2
  · refine W.eq (g2 := F0 m 8 ls [.null]) (by rw [slotV, if_neg c_1, if_pos c_2]) ?_
    refine lv_astore_nN (lv' := [(2, .null), (0, .ref (h 0)), (1, .ref (a 0))]) hx hb dX5_keep_8 rfl hl (by decide) rfl (fun ls hl => ?_)
    refine lv_aload_nN hx hb dX5_keep_9 rfl (lv_at hl 0 rfl) ?_
    refine lv_ifnullN (tgt := 18) hx hb dX5_keep_10 (by decide) ?_
    refine lv_aload_n hx hb dX5_keep_18 rfl (lv_at hl 1 rfl) ?_
    refine lv_aload_n hx hb dX5_keep_19 rfl (lv_at hl 1 rfl) ?_
    refine va_get (D := D) (ci := 3) (v := .int z.2) (C := RX5) (T := TX5) (N := 3) hx hb hts inX5 hown hK0.1 hP 0 rfl rfl 2 (by decide) (hts (.fieldLink RX5 18 "PivotChamber$SavedSettings" "next" "I") (List.mem_of_getElem? (i := 1) rfl)) (fun _ h9 => h9) rfl dX5_keep_20 ?_
    refine lv_iconst (v := 1) hx hb dX5_keep_23 (by decide) ?_
    refine lv_iadd hx hb dX5_keep_24 ?_
    refine lv_iconst (v := 4) hx hb dX5_keep_25 (by decide) ?_
    refine lv_irem hx hb dX5_keep_26 (by decide) ?_
    refine va_put (D := D) (ci := 3) (v := .int ((z.2 + 1) - (z.2 + 1) / 4 * 4)) (ty := .int) (C := RX5) (T := TX5) (N := 3) hx hb hts inX5 tyX5 tyX5_ok nmX5 hown hK0.1 hP hD hS 0 rfl rfl 2 (by decide) (hts (.fieldLink RX5 18 "PivotChamber$SavedSettings" "next" "I") (List.mem_of_getElem? (i := 1) rfl)) (fun _ h9 => h9) rfl (by decide +kernel) rfl rfl (Nat.le_of_ble_eq_true rfl) dX5_keep_27 (fun H locs hP hD hS => ?_)
    have hP : va_P D vwCl (List.flatten [(wSavE cy q h z.1 ((z.2 + 1) - (z.2 + 1) / 4 * 4)), (wSet cy a v), (wSet cy (q 0) s0), (wSet cy (q 1) s1), (wSet cy (q 2) s2), (wSet cy (q 3) s3)]) H := hP
    have hD : va_D A (List.flatten [(wSavE cy q h z.1 ((z.2 + 1) - (z.2 + 1) / 4 * 4)), (wSet cy a v), (wSet cy (q 0) s0), (wSet cy (q 1) s1), (wSet cy (q 2) s2), (wSet cy (q 3) s3)]) := hD
    refine lv_aload_n hx hb dX5_keep_30 rfl (lv_at hl 1 rfl) ?_
    refine lv_aload_n hx hb dX5_keep_31 rfl (lv_at hl 1 rfl) ?_
    refine va_get (D := D) (ci := 3) (v := .int z.1) (C := RX5) (T := TX5) (N := 3) hx hb hts inX5 hown hK0.1 hP 0 rfl rfl 1 (by decide) (hts (.fieldLink RX5 30 "PivotChamber$SavedSettings" "count" "I") (List.mem_of_getElem? (i := 2) rfl)) (fun _ h9 => h9) rfl dX5_keep_32 ?_
    refine lv_iconst (v := 1) hx hb dX5_keep_35 (by decide) ?_
    refine lv_iadd hx hb dX5_keep_36 ?_
    refine lv_iconst (v := 4) hx hb dX5_keep_37 (by decide) ?_
    refine va_mmin hx hb (hml.trans hl.1.symm) hown (hts (.methodLink RX5 33 Lib.Math.min.name) (List.mem_of_getElem? (i := 3) rfl)) (hts (.static Lib.Math.min.name) (List.mem_of_getElem? (i := 4) rfl)) (hts (.initialized "java/lang/Math") (List.mem_of_getElem? (i := 5) rfl)) (hts (.code Lib.Math.min.name Lib.Math.min.code 2 (some .int)) (List.mem_of_getElem? (i := 6) rfl)) (Nat.le_of_ble_eq_true rfl) (Nat.le_of_ble_eq_true rfl) (Nat.zero_le _) (Nat.zero_le _) dX5_keep_38 ?_
    refine W.eq (g2 := F0 m 41 ls [.int (my_min (z.1 + 1) 4), .ref (h 0)]) rfl ?_
    refine va_put (D := D) (ci := 3) (v := .int (my_min (z.1 + 1) 4)) (ty := .int) (C := RX5) (T := TX5) (N := 3) hx hb hts inX5 tyX5 tyX5_ok nmX5 hown hK0.1 hP hD hS 0 rfl rfl 1 (by decide) (hts (.fieldLink RX5 30 "PivotChamber$SavedSettings" "count" "I") (List.mem_of_getElem? (i := 2) rfl)) (fun _ h9 => h9) rfl (by decide +kernel) rfl rfl (Nat.le_of_ble_eq_true rfl) dX5_keep_41 (fun H locs hP hD hS => ?_)
    have hP : va_P D vwCl (List.flatten [(wSavE cy q h (my_min (z.1 + 1) 4) ((z.2 + 1) - (z.2 + 1) / 4 * 4)), (wSet cy a v), (wSet cy (q 0) s0), (wSet cy (q 1) s1), (wSet cy (q 2) s2), (wSet cy (q 3) s3)]) H := hP
    have hD : va_D A (List.flatten [(wSavE cy q h (my_min (z.1 + 1) 4) ((z.2 + 1) - (z.2 + 1) / 4 * 4)), (wSet cy a v), (wSet cy (q 0) s0), (wSet cy (q 1) s1), (wSet cy (q 2) s2), (wSet cy (q 3) s3)]) := hD
    have hP : va_P D vwCl (List.flatten [(wSav cy q h ((my_min (z.1 + 1) 4), ((z.2 + 1) - (z.2 + 1) / 4 * 4))), (wSet cy a v), (wSet cy (q 0) s0), (wSet cy (q 1) s1), (wSet cy (q 2) s2), (wSet cy (q 3) s3)]) H := by rw [wSav_mk]; exact hP
    have hD : va_D A (List.flatten [(wSav cy q h ((my_min (z.1 + 1) 4), ((z.2 + 1) - (z.2 + 1) / 4 * 4))), (wSet cy a v), (wSet cy (q 0) s0), (wSet cy (q 1) s1), (wSet cy (q 2) s2), (wSet cy (q 3) s3)]) := by rw [wSav_mk]; exact hD
    exact W.vret hx hb hr (fun t ht hW => ⟨⟨(((my_min (z.1 + 1) 4), ((z.2 + 1) - (z.2 + 1) / 4 * 4)), s0, s1, s2, s3), rfl, (show f_X5_keep z v s0 s1 s2 s3 = (((my_min (z.1 + 1) 4), ((z.2 + 1) - (z.2 + 1) / 4 * 4)), s0, s1, s2, s3) from by rw [f_X5_keep, if_neg c_1, if_pos c_2]), by show va_P D vwCl _ t.heap; rw [ht]; exact hP⟩, hS.F ht⟩) hS.2.2 dX5_keep_44
  by_cases c_3 : z.2 = 0
  · refine W.eq (g2 := F0 m 8 ls [.ref ((q 0) 0)]) (by rw [slotV_0 c_3]) ?_
    refine lv_astore_n (lv' := [(2, .ref ((q 0) 0)), (0, .ref (h 0)), (1, .ref (a 0))]) hx hb dX5_keep_8 rfl hl (by decide) rfl (fun ls hl => ?_)
    refine lv_aload_n hx hb dX5_keep_9 rfl (lv_at hl 0 rfl) ?_
    refine lv_ifnull hx hb dX5_keep_10 ?_
    refine lv_aload_n hx hb dX5_keep_13 rfl (lv_at hl 0 rfl) ?_
    refine lv_aload_n hx hb dX5_keep_14 rfl (lv_at hl 2 rfl) ?_
    refine mu_compv (wcs := [(wSet cy (q 0) s0), (wSet cy a v)]) (wns := fun (u_6 : SetV) => [(wSet cy (q 0) u_6), (wSet cy a v)]) (W2 := fun (u_6 : SetV) => [(wSav cy q h z), (wSet cy a v), (wSet cy (q 0) u_6), (wSet cy (q 1) s1), (wSet cy (q 2) s2), (wSet cy (q 3) s3)]) (va_runV (C := RX6) (As := [.ref (a 0)]) (rest := []) S (c_X6_copyFrom l D cy g B (q 0) a s0 v) (cwV 1 hts gX5_keep_X6_copyFrom rfl rfl rfl hd_X6_copyFrom_V ⟨Nat.le_of_ble_eq_true rfl, Nat.le_of_ble_eq_true rfl⟩) ⟨muP_blind, va_recv hK0.1 hP (ci := 4) (q0 := 11) rfl rfl, my_preC (wcs := [(wSet cy (q 0) s0), (wSet cy a v)]) hK0 hS hAB hP hD [2, 1] (by decide) rfl rfl⟩ rfl rfl hl.1 rfl (lv_room (Nat.le_of_ble_eq_true rfl)) dX5_keep_15 ⟨Nat.zero_le _, Nat.zero_le _⟩) hS hP hD [2, 1] rfl rfl (fun _ => rfl) (fun _ => by simp only [List.map_cons, List.map_nil, adrSet, adrSetE, adrPow, adrPowE, adrTxt, adrTxtE, adrSav, adrSavE, adrPCo, adrI, adrL]) (fun _ => rfl) (fun u_6 H locs hw_7 hP hD hS => ?_)
    refine lv_aload_n hx hb dX5_keep_18 rfl (lv_at hl 1 rfl) ?_
    refine lv_aload_n hx hb dX5_keep_19 rfl (lv_at hl 1 rfl) ?_
    refine va_get (D := D) (ci := 3) (v := .int z.2) (C := RX5) (T := TX5) (N := 3) hx hb hts inX5 hown hK0.1 hP 0 rfl rfl 2 (by decide) (hts (.fieldLink RX5 18 "PivotChamber$SavedSettings" "next" "I") (List.mem_of_getElem? (i := 1) rfl)) (fun _ h9 => h9) rfl dX5_keep_20 ?_
    refine lv_iconst (v := 1) hx hb dX5_keep_23 (by decide) ?_
    refine lv_iadd hx hb dX5_keep_24 ?_
    refine lv_iconst (v := 4) hx hb dX5_keep_25 (by decide) ?_
    refine lv_irem hx hb dX5_keep_26 (by decide) ?_
    refine va_put (D := D) (ci := 3) (v := .int ((z.2 + 1) - (z.2 + 1) / 4 * 4)) (ty := .int) (C := RX5) (T := TX5) (N := 3) hx hb hts inX5 tyX5 tyX5_ok nmX5 hown hK0.1 hP hD hS 0 rfl rfl 2 (by decide) (hts (.fieldLink RX5 18 "PivotChamber$SavedSettings" "next" "I") (List.mem_of_getElem? (i := 1) rfl)) (fun _ h9 => h9) rfl (by decide +kernel) rfl rfl (Nat.le_of_ble_eq_true rfl) dX5_keep_27 (fun H locs hP hD hS => ?_)
    have hP : va_P D vwCl (List.flatten [(wSavE cy q h z.1 ((z.2 + 1) - (z.2 + 1) / 4 * 4)), (wSet cy a v), (wSet cy (q 0) u_6), (wSet cy (q 1) s1), (wSet cy (q 2) s2), (wSet cy (q 3) s3)]) H := hP
    have hD : va_D A (List.flatten [(wSavE cy q h z.1 ((z.2 + 1) - (z.2 + 1) / 4 * 4)), (wSet cy a v), (wSet cy (q 0) u_6), (wSet cy (q 1) s1), (wSet cy (q 2) s2), (wSet cy (q 3) s3)]) := hD
    refine lv_aload_n hx hb dX5_keep_30 rfl (lv_at hl 1 rfl) ?_
    refine lv_aload_n hx hb dX5_keep_31 rfl (lv_at hl 1 rfl) ?_
    refine va_get (D := D) (ci := 3) (v := .int z.1) (C := RX5) (T := TX5) (N := 3) hx hb hts inX5 hown hK0.1 hP 0 rfl rfl 1 (by decide) (hts (.fieldLink RX5 30 "PivotChamber$SavedSettings" "count" "I") (List.mem_of_getElem? (i := 2) rfl)) (fun _ h9 => h9) rfl dX5_keep_32 ?_
    refine lv_iconst (v := 1) hx hb dX5_keep_35 (by decide) ?_
    refine lv_iadd hx hb dX5_keep_36 ?_
    refine lv_iconst (v := 4) hx hb dX5_keep_37 (by decide) ?_
    refine va_mmin hx hb (hml.trans hl.1.symm) hown (hts (.methodLink RX5 33 Lib.Math.min.name) (List.mem_of_getElem? (i := 3) rfl)) (hts (.static Lib.Math.min.name) (List.mem_of_getElem? (i := 4) rfl)) (hts (.initialized "java/lang/Math") (List.mem_of_getElem? (i := 5) rfl)) (hts (.code Lib.Math.min.name Lib.Math.min.code 2 (some .int)) (List.mem_of_getElem? (i := 6) rfl)) (Nat.le_of_ble_eq_true rfl) (Nat.le_of_ble_eq_true rfl) (Nat.zero_le _) (Nat.zero_le _) dX5_keep_38 ?_
    refine W.eq (g2 := F0 m 41 ls [.int (my_min (z.1 + 1) 4), .ref (h 0)]) rfl ?_
    refine va_put (D := D) (ci := 3) (v := .int (my_min (z.1 + 1) 4)) (ty := .int) (C := RX5) (T := TX5) (N := 3) hx hb hts inX5 tyX5 tyX5_ok nmX5 hown hK0.1 hP hD hS 0 rfl rfl 1 (by decide) (hts (.fieldLink RX5 30 "PivotChamber$SavedSettings" "count" "I") (List.mem_of_getElem? (i := 2) rfl)) (fun _ h9 => h9) rfl (by decide +kernel) rfl rfl (Nat.le_of_ble_eq_true rfl) dX5_keep_41 (fun H locs hP hD hS => ?_)
    have hP : va_P D vwCl (List.flatten [(wSavE cy q h (my_min (z.1 + 1) 4) ((z.2 + 1) - (z.2 + 1) / 4 * 4)), (wSet cy a v), (wSet cy (q 0) u_6), (wSet cy (q 1) s1), (wSet cy (q 2) s2), (wSet cy (q 3) s3)]) H := hP
    have hD : va_D A (List.flatten [(wSavE cy q h (my_min (z.1 + 1) 4) ((z.2 + 1) - (z.2 + 1) / 4 * 4)), (wSet cy a v), (wSet cy (q 0) u_6), (wSet cy (q 1) s1), (wSet cy (q 2) s2), (wSet cy (q 3) s3)]) := hD
    have hP : va_P D vwCl (List.flatten [(wSav cy q h ((my_min (z.1 + 1) 4), ((z.2 + 1) - (z.2 + 1) / 4 * 4))), (wSet cy a v), (wSet cy (q 0) u_6), (wSet cy (q 1) s1), (wSet cy (q 2) s2), (wSet cy (q 3) s3)]) H := by rw [wSav_mk]; exact hP
    have hD : va_D A (List.flatten [(wSav cy q h ((my_min (z.1 + 1) 4), ((z.2 + 1) - (z.2 + 1) / 4 * 4))), (wSet cy a v), (wSet cy (q 0) u_6), (wSet cy (q 1) s1), (wSet cy (q 2) s2), (wSet cy (q 3) s3)]) := by rw [wSav_mk]; exact hD
    exact W.vret hx hb hr (fun t ht hW => ⟨⟨(((my_min (z.1 + 1) 4), ((z.2 + 1) - (z.2 + 1) / 4 * 4)), u_6, s1, s2, s3), rfl, (show f_X5_keep z v s0 s1 s2 s3 = (((my_min (z.1 + 1) 4), ((z.2 + 1) - (z.2 + 1) / 4 * 4)), u_6, s1, s2, s3) from by rw [f_X5_keep, if_neg c_1, if_neg c_2, if_pos c_3, hw_7, my_l_eq]), by show va_P D vwCl _ t.heap; rw [ht]; exact hP⟩, hS.F ht⟩) hS.2.2 dX5_keep_44
  by_cases c_4 : z.2 = 1
  · refine W.eq (g2 := F0 m 8 ls [.ref ((q 1) 0)]) (by rw [slotV_1 c_4]) ?_
    refine lv_astore_n (lv' := [(2, .ref ((q 1) 0)), (0, .ref (h 0)), (1, .ref (a 0))]) hx hb dX5_keep_8 rfl hl (by decide) rfl (fun ls hl => ?_)
    refine lv_aload_n hx hb dX5_keep_9 rfl (lv_at hl 0 rfl) ?_
    refine lv_ifnull hx hb dX5_keep_10 ?_
    refine lv_aload_n hx hb dX5_keep_13 rfl (lv_at hl 0 rfl) ?_
    refine lv_aload_n hx hb dX5_keep_14 rfl (lv_at hl 2 rfl) ?_
    refine mu_compv (wcs := [(wSet cy (q 1) s1), (wSet cy a v)]) (wns := fun (u_8 : SetV) => [(wSet cy (q 1) u_8), (wSet cy a v)]) (W2 := fun (u_8 : SetV) => [(wSav cy q h z), (wSet cy a v), (wSet cy (q 0) s0), (wSet cy (q 1) u_8), (wSet cy (q 2) s2), (wSet cy (q 3) s3)]) (va_runV (C := RX6) (As := [.ref (a 0)]) (rest := []) S (c_X6_copyFrom l D cy g B (q 1) a s1 v) (cwV 1 hts gX5_keep_X6_copyFrom rfl rfl rfl hd_X6_copyFrom_V ⟨Nat.le_of_ble_eq_true rfl, Nat.le_of_ble_eq_true rfl⟩) ⟨muP_blind, va_recv hK0.1 hP (ci := 4) (q0 := 20) rfl rfl, my_preC (wcs := [(wSet cy (q 1) s1), (wSet cy a v)]) hK0 hS hAB hP hD [3, 1] (by decide) rfl rfl⟩ rfl rfl hl.1 rfl (lv_room (Nat.le_of_ble_eq_true rfl)) dX5_keep_15 ⟨Nat.zero_le _, Nat.zero_le _⟩) hS hP hD [3, 1] rfl rfl (fun _ => rfl) (fun _ => by simp only [List.map_cons, List.map_nil, adrSet, adrSetE, adrPow, adrPowE, adrTxt, adrTxtE, adrSav, adrSavE, adrPCo, adrI, adrL]) (fun _ => rfl) (fun u_8 H locs hw_9 hP hD hS => ?_)
    refine lv_aload_n hx hb dX5_keep_18 rfl (lv_at hl 1 rfl) ?_
    refine lv_aload_n hx hb dX5_keep_19 rfl (lv_at hl 1 rfl) ?_
    refine va_get (D := D) (ci := 3) (v := .int z.2) (C := RX5) (T := TX5) (N := 3) hx hb hts inX5 hown hK0.1 hP 0 rfl rfl 2 (by decide) (hts (.fieldLink RX5 18 "PivotChamber$SavedSettings" "next" "I") (List.mem_of_getElem? (i := 1) rfl)) (fun _ h9 => h9) rfl dX5_keep_20 ?_
    refine lv_iconst (v := 1) hx hb dX5_keep_23 (by decide) ?_
    refine lv_iadd hx hb dX5_keep_24 ?_
    refine lv_iconst (v := 4) hx hb dX5_keep_25 (by decide) ?_
    refine lv_irem hx hb dX5_keep_26 (by decide) ?_
    refine va_put (D := D) (ci := 3) (v := .int ((z.2 + 1) - (z.2 + 1) / 4 * 4)) (ty := .int) (C := RX5) (T := TX5) (N := 3) hx hb hts inX5 tyX5 tyX5_ok nmX5 hown hK0.1 hP hD hS 0 rfl rfl 2 (by decide) (hts (.fieldLink RX5 18 "PivotChamber$SavedSettings" "next" "I") (List.mem_of_getElem? (i := 1) rfl)) (fun _ h9 => h9) rfl (by decide +kernel) rfl rfl (Nat.le_of_ble_eq_true rfl) dX5_keep_27 (fun H locs hP hD hS => ?_)
    have hP : va_P D vwCl (List.flatten [(wSavE cy q h z.1 ((z.2 + 1) - (z.2 + 1) / 4 * 4)), (wSet cy a v), (wSet cy (q 0) s0), (wSet cy (q 1) u_8), (wSet cy (q 2) s2), (wSet cy (q 3) s3)]) H := hP
    have hD : va_D A (List.flatten [(wSavE cy q h z.1 ((z.2 + 1) - (z.2 + 1) / 4 * 4)), (wSet cy a v), (wSet cy (q 0) s0), (wSet cy (q 1) u_8), (wSet cy (q 2) s2), (wSet cy (q 3) s3)]) := hD
    refine lv_aload_n hx hb dX5_keep_30 rfl (lv_at hl 1 rfl) ?_
    refine lv_aload_n hx hb dX5_keep_31 rfl (lv_at hl 1 rfl) ?_
    refine va_get (D := D) (ci := 3) (v := .int z.1) (C := RX5) (T := TX5) (N := 3) hx hb hts inX5 hown hK0.1 hP 0 rfl rfl 1 (by decide) (hts (.fieldLink RX5 30 "PivotChamber$SavedSettings" "count" "I") (List.mem_of_getElem? (i := 2) rfl)) (fun _ h9 => h9) rfl dX5_keep_32 ?_
    refine lv_iconst (v := 1) hx hb dX5_keep_35 (by decide) ?_
    refine lv_iadd hx hb dX5_keep_36 ?_
    refine lv_iconst (v := 4) hx hb dX5_keep_37 (by decide) ?_
    refine va_mmin hx hb (hml.trans hl.1.symm) hown (hts (.methodLink RX5 33 Lib.Math.min.name) (List.mem_of_getElem? (i := 3) rfl)) (hts (.static Lib.Math.min.name) (List.mem_of_getElem? (i := 4) rfl)) (hts (.initialized "java/lang/Math") (List.mem_of_getElem? (i := 5) rfl)) (hts (.code Lib.Math.min.name Lib.Math.min.code 2 (some .int)) (List.mem_of_getElem? (i := 6) rfl)) (Nat.le_of_ble_eq_true rfl) (Nat.le_of_ble_eq_true rfl) (Nat.zero_le _) (Nat.zero_le _) dX5_keep_38 ?_
    refine W.eq (g2 := F0 m 41 ls [.int (my_min (z.1 + 1) 4), .ref (h 0)]) rfl ?_
    refine va_put (D := D) (ci := 3) (v := .int (my_min (z.1 + 1) 4)) (ty := .int) (C := RX5) (T := TX5) (N := 3) hx hb hts inX5 tyX5 tyX5_ok nmX5 hown hK0.1 hP hD hS 0 rfl rfl 1 (by decide) (hts (.fieldLink RX5 30 "PivotChamber$SavedSettings" "count" "I") (List.mem_of_getElem? (i := 2) rfl)) (fun _ h9 => h9) rfl (by decide +kernel) rfl rfl (Nat.le_of_ble_eq_true rfl) dX5_keep_41 (fun H locs hP hD hS => ?_)
    have hP : va_P D vwCl (List.flatten [(wSavE cy q h (my_min (z.1 + 1) 4) ((z.2 + 1) - (z.2 + 1) / 4 * 4)), (wSet cy a v), (wSet cy (q 0) s0), (wSet cy (q 1) u_8), (wSet cy (q 2) s2), (wSet cy (q 3) s3)]) H := hP
    have hD : va_D A (List.flatten [(wSavE cy q h (my_min (z.1 + 1) 4) ((z.2 + 1) - (z.2 + 1) / 4 * 4)), (wSet cy a v), (wSet cy (q 0) s0), (wSet cy (q 1) u_8), (wSet cy (q 2) s2), (wSet cy (q 3) s3)]) := hD
    have hP : va_P D vwCl (List.flatten [(wSav cy q h ((my_min (z.1 + 1) 4), ((z.2 + 1) - (z.2 + 1) / 4 * 4))), (wSet cy a v), (wSet cy (q 0) s0), (wSet cy (q 1) u_8), (wSet cy (q 2) s2), (wSet cy (q 3) s3)]) H := by rw [wSav_mk]; exact hP
    have hD : va_D A (List.flatten [(wSav cy q h ((my_min (z.1 + 1) 4), ((z.2 + 1) - (z.2 + 1) / 4 * 4))), (wSet cy a v), (wSet cy (q 0) s0), (wSet cy (q 1) u_8), (wSet cy (q 2) s2), (wSet cy (q 3) s3)]) := by rw [wSav_mk]; exact hD
    exact W.vret hx hb hr (fun t ht hW => ⟨⟨(((my_min (z.1 + 1) 4), ((z.2 + 1) - (z.2 + 1) / 4 * 4)), s0, u_8, s2, s3), rfl, (show f_X5_keep z v s0 s1 s2 s3 = (((my_min (z.1 + 1) 4), ((z.2 + 1) - (z.2 + 1) / 4 * 4)), s0, u_8, s2, s3) from by rw [f_X5_keep, if_neg c_1, if_neg c_2, if_neg c_3, if_pos c_4, hw_9, my_l_eq]), by show va_P D vwCl _ t.heap; rw [ht]; exact hP⟩, hS.F ht⟩) hS.2.2 dX5_keep_44
  by_cases c_5 : z.2 = 2
  · refine W.eq (g2 := F0 m 8 ls [.ref ((q 2) 0)]) (by rw [slotV_2 c_5]) ?_
    refine lv_astore_n (lv' := [(2, .ref ((q 2) 0)), (0, .ref (h 0)), (1, .ref (a 0))]) hx hb dX5_keep_8 rfl hl (by decide) rfl (fun ls hl => ?_)
    refine lv_aload_n hx hb dX5_keep_9 rfl (lv_at hl 0 rfl) ?_
    refine lv_ifnull hx hb dX5_keep_10 ?_
    refine lv_aload_n hx hb dX5_keep_13 rfl (lv_at hl 0 rfl) ?_
    refine lv_aload_n hx hb dX5_keep_14 rfl (lv_at hl 2 rfl) ?_
    refine mu_compv (wcs := [(wSet cy (q 2) s2), (wSet cy a v)]) (wns := fun (u_10 : SetV) => [(wSet cy (q 2) u_10), (wSet cy a v)]) (W2 := fun (u_10 : SetV) => [(wSav cy q h z), (wSet cy a v), (wSet cy (q 0) s0), (wSet cy (q 1) s1), (wSet cy (q 2) u_10), (wSet cy (q 3) s3)]) (va_runV (C := RX6) (As := [.ref (a 0)]) (rest := []) S (c_X6_copyFrom l D cy g B (q 2) a s2 v) (cwV 1 hts gX5_keep_X6_copyFrom rfl rfl rfl hd_X6_copyFrom_V ⟨Nat.le_of_ble_eq_true rfl, Nat.le_of_ble_eq_true rfl⟩) ⟨muP_blind, va_recv hK0.1 hP (ci := 4) (q0 := 29) rfl rfl, my_preC (wcs := [(wSet cy (q 2) s2), (wSet cy a v)]) hK0 hS hAB hP hD [4, 1] (by decide) rfl rfl⟩ rfl rfl hl.1 rfl (lv_room (Nat.le_of_ble_eq_true rfl)) dX5_keep_15 ⟨Nat.zero_le _, Nat.zero_le _⟩) hS hP hD [4, 1] rfl rfl (fun _ => rfl) (fun _ => by simp only [List.map_cons, List.map_nil, adrSet, adrSetE, adrPow, adrPowE, adrTxt, adrTxtE, adrSav, adrSavE, adrPCo, adrI, adrL]) (fun _ => rfl) (fun u_10 H locs hw_11 hP hD hS => ?_)
    refine lv_aload_n hx hb dX5_keep_18 rfl (lv_at hl 1 rfl) ?_
    refine lv_aload_n hx hb dX5_keep_19 rfl (lv_at hl 1 rfl) ?_
    refine va_get (D := D) (ci := 3) (v := .int z.2) (C := RX5) (T := TX5) (N := 3) hx hb hts inX5 hown hK0.1 hP 0 rfl rfl 2 (by decide) (hts (.fieldLink RX5 18 "PivotChamber$SavedSettings" "next" "I") (List.mem_of_getElem? (i := 1) rfl)) (fun _ h9 => h9) rfl dX5_keep_20 ?_
    refine lv_iconst (v := 1) hx hb dX5_keep_23 (by decide) ?_
    refine lv_iadd hx hb dX5_keep_24 ?_
    refine lv_iconst (v := 4) hx hb dX5_keep_25 (by decide) ?_
    refine lv_irem hx hb dX5_keep_26 (by decide) ?_
    refine va_put (D := D) (ci := 3) (v := .int ((z.2 + 1) - (z.2 + 1) / 4 * 4)) (ty := .int) (C := RX5) (T := TX5) (N := 3) hx hb hts inX5 tyX5 tyX5_ok nmX5 hown hK0.1 hP hD hS 0 rfl rfl 2 (by decide) (hts (.fieldLink RX5 18 "PivotChamber$SavedSettings" "next" "I") (List.mem_of_getElem? (i := 1) rfl)) (fun _ h9 => h9) rfl (by decide +kernel) rfl rfl (Nat.le_of_ble_eq_true rfl) dX5_keep_27 (fun H locs hP hD hS => ?_)
    have hP : va_P D vwCl (List.flatten [(wSavE cy q h z.1 ((z.2 + 1) - (z.2 + 1) / 4 * 4)), (wSet cy a v), (wSet cy (q 0) s0), (wSet cy (q 1) s1), (wSet cy (q 2) u_10), (wSet cy (q 3) s3)]) H := hP
    have hD : va_D A (List.flatten [(wSavE cy q h z.1 ((z.2 + 1) - (z.2 + 1) / 4 * 4)), (wSet cy a v), (wSet cy (q 0) s0), (wSet cy (q 1) s1), (wSet cy (q 2) u_10), (wSet cy (q 3) s3)]) := hD
    refine lv_aload_n hx hb dX5_keep_30 rfl (lv_at hl 1 rfl) ?_
    refine lv_aload_n hx hb dX5_keep_31 rfl (lv_at hl 1 rfl) ?_
    refine va_get (D := D) (ci := 3) (v := .int z.1) (C := RX5) (T := TX5) (N := 3) hx hb hts inX5 hown hK0.1 hP 0 rfl rfl 1 (by decide) (hts (.fieldLink RX5 30 "PivotChamber$SavedSettings" "count" "I") (List.mem_of_getElem? (i := 2) rfl)) (fun _ h9 => h9) rfl dX5_keep_32 ?_
    refine lv_iconst (v := 1) hx hb dX5_keep_35 (by decide) ?_
    refine lv_iadd hx hb dX5_keep_36 ?_
    refine lv_iconst (v := 4) hx hb dX5_keep_37 (by decide) ?_
    refine va_mmin hx hb (hml.trans hl.1.symm) hown (hts (.methodLink RX5 33 Lib.Math.min.name) (List.mem_of_getElem? (i := 3) rfl)) (hts (.static Lib.Math.min.name) (List.mem_of_getElem? (i := 4) rfl)) (hts (.initialized "java/lang/Math") (List.mem_of_getElem? (i := 5) rfl)) (hts (.code Lib.Math.min.name Lib.Math.min.code 2 (some .int)) (List.mem_of_getElem? (i := 6) rfl)) (Nat.le_of_ble_eq_true rfl) (Nat.le_of_ble_eq_true rfl) (Nat.zero_le _) (Nat.zero_le _) dX5_keep_38 ?_
    refine W.eq (g2 := F0 m 41 ls [.int (my_min (z.1 + 1) 4), .ref (h 0)]) rfl ?_
    refine va_put (D := D) (ci := 3) (v := .int (my_min (z.1 + 1) 4)) (ty := .int) (C := RX5) (T := TX5) (N := 3) hx hb hts inX5 tyX5 tyX5_ok nmX5 hown hK0.1 hP hD hS 0 rfl rfl 1 (by decide) (hts (.fieldLink RX5 30 "PivotChamber$SavedSettings" "count" "I") (List.mem_of_getElem? (i := 2) rfl)) (fun _ h9 => h9) rfl (by decide +kernel) rfl rfl (Nat.le_of_ble_eq_true rfl) dX5_keep_41 (fun H locs hP hD hS => ?_)
    have hP : va_P D vwCl (List.flatten [(wSavE cy q h (my_min (z.1 + 1) 4) ((z.2 + 1) - (z.2 + 1) / 4 * 4)), (wSet cy a v), (wSet cy (q 0) s0), (wSet cy (q 1) s1), (wSet cy (q 2) u_10), (wSet cy (q 3) s3)]) H := hP
    have hD : va_D A (List.flatten [(wSavE cy q h (my_min (z.1 + 1) 4) ((z.2 + 1) - (z.2 + 1) / 4 * 4)), (wSet cy a v), (wSet cy (q 0) s0), (wSet cy (q 1) s1), (wSet cy (q 2) u_10), (wSet cy (q 3) s3)]) := hD
    have hP : va_P D vwCl (List.flatten [(wSav cy q h ((my_min (z.1 + 1) 4), ((z.2 + 1) - (z.2 + 1) / 4 * 4))), (wSet cy a v), (wSet cy (q 0) s0), (wSet cy (q 1) s1), (wSet cy (q 2) u_10), (wSet cy (q 3) s3)]) H := by rw [wSav_mk]; exact hP
    have hD : va_D A (List.flatten [(wSav cy q h ((my_min (z.1 + 1) 4), ((z.2 + 1) - (z.2 + 1) / 4 * 4))), (wSet cy a v), (wSet cy (q 0) s0), (wSet cy (q 1) s1), (wSet cy (q 2) u_10), (wSet cy (q 3) s3)]) := by rw [wSav_mk]; exact hD
    exact W.vret hx hb hr (fun t ht hW => ⟨⟨(((my_min (z.1 + 1) 4), ((z.2 + 1) - (z.2 + 1) / 4 * 4)), s0, s1, u_10, s3), rfl, (show f_X5_keep z v s0 s1 s2 s3 = (((my_min (z.1 + 1) 4), ((z.2 + 1) - (z.2 + 1) / 4 * 4)), s0, s1, u_10, s3) from by rw [f_X5_keep, if_neg c_1, if_neg c_2, if_neg c_3, if_neg c_4, if_pos c_5, hw_11, my_l_eq]), by show va_P D vwCl _ t.heap; rw [ht]; exact hP⟩, hS.F ht⟩) hS.2.2 dX5_keep_44
  refine W.eq (g2 := F0 m 8 ls [.ref ((q 3) 0)]) (by rw [slotV_3 c_1 c_2 c_3 c_4 c_5]) ?_
  refine lv_astore_n (lv' := [(2, .ref ((q 3) 0)), (0, .ref (h 0)), (1, .ref (a 0))]) hx hb dX5_keep_8 rfl hl (by decide) rfl (fun ls hl => ?_)
  refine lv_aload_n hx hb dX5_keep_9 rfl (lv_at hl 0 rfl) ?_
  refine lv_ifnull hx hb dX5_keep_10 ?_
  refine lv_aload_n hx hb dX5_keep_13 rfl (lv_at hl 0 rfl) ?_
  refine lv_aload_n hx hb dX5_keep_14 rfl (lv_at hl 2 rfl) ?_
  refine mu_compv (wcs := [(wSet cy (q 3) s3), (wSet cy a v)]) (wns := fun (u_12 : SetV) => [(wSet cy (q 3) u_12), (wSet cy a v)]) (W2 := fun (u_12 : SetV) => [(wSav cy q h z), (wSet cy a v), (wSet cy (q 0) s0), (wSet cy (q 1) s1), (wSet cy (q 2) s2), (wSet cy (q 3) u_12)]) (va_runV (C := RX6) (As := [.ref (a 0)]) (rest := []) S (c_X6_copyFrom l D cy g B (q 3) a s3 v) (cwV 1 hts gX5_keep_X6_copyFrom rfl rfl rfl hd_X6_copyFrom_V ⟨Nat.le_of_ble_eq_true rfl, Nat.le_of_ble_eq_true rfl⟩) ⟨muP_blind, va_recv hK0.1 hP (ci := 4) (q0 := 38) rfl rfl, my_preC (wcs := [(wSet cy (q 3) s3), (wSet cy a v)]) hK0 hS hAB hP hD [5, 1] (by decide) rfl rfl⟩ rfl rfl hl.1 rfl (lv_room (Nat.le_of_ble_eq_true rfl)) dX5_keep_15 ⟨Nat.zero_le _, Nat.zero_le _⟩) hS hP hD [5, 1] rfl rfl (fun _ => rfl) (fun _ => by simp only [List.map_cons, List.map_nil, adrSet, adrSetE, adrPow, adrPowE, adrTxt, adrTxtE, adrSav, adrSavE, adrPCo, adrI, adrL]) (fun _ => rfl) (fun u_12 H locs hw_13 hP hD hS => ?_)
  refine lv_aload_n hx hb dX5_keep_18 rfl (lv_at hl 1 rfl) ?_
  refine lv_aload_n hx hb dX5_keep_19 rfl (lv_at hl 1 rfl) ?_
  refine va_get (D := D) (ci := 3) (v := .int z.2) (C := RX5) (T := TX5) (N := 3) hx hb hts inX5 hown hK0.1 hP 0 rfl rfl 2 (by decide) (hts (.fieldLink RX5 18 "PivotChamber$SavedSettings" "next" "I") (List.mem_of_getElem? (i := 1) rfl)) (fun _ h9 => h9) rfl dX5_keep_20 ?_
  refine lv_iconst (v := 1) hx hb dX5_keep_23 (by decide) ?_
  refine lv_iadd hx hb dX5_keep_24 ?_
  refine lv_iconst (v := 4) hx hb dX5_keep_25 (by decide) ?_
  refine lv_irem hx hb dX5_keep_26 (by decide) ?_
  refine va_put (D := D) (ci := 3) (v := .int ((z.2 + 1) - (z.2 + 1) / 4 * 4)) (ty := .int) (C := RX5) (T := TX5) (N := 3) hx hb hts inX5 tyX5 tyX5_ok nmX5 hown hK0.1 hP hD hS 0 rfl rfl 2 (by decide) (hts (.fieldLink RX5 18 "PivotChamber$SavedSettings" "next" "I") (List.mem_of_getElem? (i := 1) rfl)) (fun _ h9 => h9) rfl (by decide +kernel) rfl rfl (Nat.le_of_ble_eq_true rfl) dX5_keep_27 (fun H locs hP hD hS => ?_)
  have hP : va_P D vwCl (List.flatten [(wSavE cy q h z.1 ((z.2 + 1) - (z.2 + 1) / 4 * 4)), (wSet cy a v), (wSet cy (q 0) s0), (wSet cy (q 1) s1), (wSet cy (q 2) s2), (wSet cy (q 3) u_12)]) H := hP
  have hD : va_D A (List.flatten [(wSavE cy q h z.1 ((z.2 + 1) - (z.2 + 1) / 4 * 4)), (wSet cy a v), (wSet cy (q 0) s0), (wSet cy (q 1) s1), (wSet cy (q 2) s2), (wSet cy (q 3) u_12)]) := hD
  refine lv_aload_n hx hb dX5_keep_30 rfl (lv_at hl 1 rfl) ?_
  refine lv_aload_n hx hb dX5_keep_31 rfl (lv_at hl 1 rfl) ?_
  refine va_get (D := D) (ci := 3) (v := .int z.1) (C := RX5) (T := TX5) (N := 3) hx hb hts inX5 hown hK0.1 hP 0 rfl rfl 1 (by decide) (hts (.fieldLink RX5 30 "PivotChamber$SavedSettings" "count" "I") (List.mem_of_getElem? (i := 2) rfl)) (fun _ h9 => h9) rfl dX5_keep_32 ?_
  refine lv_iconst (v := 1) hx hb dX5_keep_35 (by decide) ?_
  refine lv_iadd hx hb dX5_keep_36 ?_
  refine lv_iconst (v := 4) hx hb dX5_keep_37 (by decide) ?_
  refine va_mmin hx hb (hml.trans hl.1.symm) hown (hts (.methodLink RX5 33 Lib.Math.min.name) (List.mem_of_getElem? (i := 3) rfl)) (hts (.static Lib.Math.min.name) (List.mem_of_getElem? (i := 4) rfl)) (hts (.initialized "java/lang/Math") (List.mem_of_getElem? (i := 5) rfl)) (hts (.code Lib.Math.min.name Lib.Math.min.code 2 (some .int)) (List.mem_of_getElem? (i := 6) rfl)) (Nat.le_of_ble_eq_true rfl) (Nat.le_of_ble_eq_true rfl) (Nat.zero_le _) (Nat.zero_le _) dX5_keep_38 ?_
  refine W.eq (g2 := F0 m 41 ls [.int (my_min (z.1 + 1) 4), .ref (h 0)]) rfl ?_
  refine va_put (D := D) (ci := 3) (v := .int (my_min (z.1 + 1) 4)) (ty := .int) (C := RX5) (T := TX5) (N := 3) hx hb hts inX5 tyX5 tyX5_ok nmX5 hown hK0.1 hP hD hS 0 rfl rfl 1 (by decide) (hts (.fieldLink RX5 30 "PivotChamber$SavedSettings" "count" "I") (List.mem_of_getElem? (i := 2) rfl)) (fun _ h9 => h9) rfl (by decide +kernel) rfl rfl (Nat.le_of_ble_eq_true rfl) dX5_keep_41 (fun H locs hP hD hS => ?_)
  have hP : va_P D vwCl (List.flatten [(wSavE cy q h (my_min (z.1 + 1) 4) ((z.2 + 1) - (z.2 + 1) / 4 * 4)), (wSet cy a v), (wSet cy (q 0) s0), (wSet cy (q 1) s1), (wSet cy (q 2) s2), (wSet cy (q 3) u_12)]) H := hP
  have hD : va_D A (List.flatten [(wSavE cy q h (my_min (z.1 + 1) 4) ((z.2 + 1) - (z.2 + 1) / 4 * 4)), (wSet cy a v), (wSet cy (q 0) s0), (wSet cy (q 1) s1), (wSet cy (q 2) s2), (wSet cy (q 3) u_12)]) := hD
  have hP : va_P D vwCl (List.flatten [(wSav cy q h ((my_min (z.1 + 1) 4), ((z.2 + 1) - (z.2 + 1) / 4 * 4))), (wSet cy a v), (wSet cy (q 0) s0), (wSet cy (q 1) s1), (wSet cy (q 2) s2), (wSet cy (q 3) u_12)]) H := by rw [wSav_mk]; exact hP
  have hD : va_D A (List.flatten [(wSav cy q h ((my_min (z.1 + 1) 4), ((z.2 + 1) - (z.2 + 1) / 4 * 4))), (wSet cy a v), (wSet cy (q 0) s0), (wSet cy (q 1) s1), (wSet cy (q 2) s2), (wSet cy (q 3) u_12)]) := by rw [wSav_mk]; exact hD
  exact W.vret hx hb hr (fun t ht hW => ⟨⟨(((my_min (z.1 + 1) 4), ((z.2 + 1) - (z.2 + 1) / 4 * 4)), s0, s1, s2, u_12), rfl, (show f_X5_keep z v s0 s1 s2 s3 = (((my_min (z.1 + 1) 4), ((z.2 + 1) - (z.2 + 1) / 4 * 4)), s0, s1, s2, u_12) from by rw [f_X5_keep, if_neg c_1, if_neg c_2, if_neg c_3, if_neg c_4, if_neg c_5, hw_13, my_l_eq]), by show va_P D vwCl _ t.heap; rw [ht]; exact hP⟩, hS.F ht⟩) hS.2.2 dX5_keep_44
