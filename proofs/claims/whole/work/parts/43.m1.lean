theorem hd_X8_thrown_S : yX8_thrown.cls ≠ "java/lang/invoke/MethodHandle" ∧ yX8_thrown.cls ≠ "java/lang/invoke/VarHandle" ∧ (parseMethodDescriptor yX8_thrown.desc).map (fun d => d.parameters.length) = some 0 := by decide +kernel
theorem hd_X8_thrown_V : yX8_thrown.cls = RX8 ∧ yX8_thrown.cls ≠ "java/lang/invoke/MethodHandle" ∧ yX8_thrown.cls ≠ "java/lang/invoke/VarHandle" ∧ (parseMethodDescriptor yX8_thrown.desc).map (fun d => d.parameters.length) = some 0 := ⟨rfl, hd_X8_thrown_S⟩
def f_X8_thrown (y3 : Int32) : Int32 := y3
set_option maxHeartbeats 400000 in
set_option maxRecDepth 100000 in
theorem c_X8_thrown (l : Launch) (D : va_G) (cy : Nat → ClassId) (g : Nat → Nat) (B : Nat) (a : Nat → Nat) (y0 : Int32) (y1 : Int32) (y2 : Int32) (y3 : Int32) (y4 : Int32) (y5 : Int32) (y6 : Int32) (y7 : (Nat → Int32)) (y8 : (Nat → Int32)) (y9 : (Nat → Int32)) (y10 : (Nat → Int32)) (y11 : (Nat → Int32)) (y12 : (Nat → Int32)) (y13 : (Nat → Int32)) : Met l yX8_thrown wsX8_thrown ({ frames := 0, cells := 0, slots := 0, locals := 0 }) (rdP D cy g B (wModE cy a y0 y1 y2 y3 y4 y5 y6 y7 y8 y9 y10 y11 y12 y13) [.ref (a 0)]) (vp_Si (fun r => r = f_X8_thrown y3)) 0 0 (fun _ => False) := by
  refine Met.ofW (cc := cX8_thrown) (maxL := 1) (ret := (some .int)) (by decide) rfl ?_
  intro p e s m args below meth c s₁ BB hml hv
  obtain ⟨rfl, hP, hK0⟩ := hv
  have hx := BB.exec
  have hb := BB.bytes
  have hr := BB.returns
  have hts := atoms_spec (ws := wsX8_thrown) BB.pre
  have hown : s.vm.findClass RX8 = some m.cls := findClass_of_methodNamed BB.named
  have hlocks := BB.notSynchronized
  have S := my_fix hx hb hml hown hts
  have inX8 : ∀ w ∈ wsX80, w ∈ wsX8_thrown := fun w h => List.mem_cons_of_mem _ (List.mem_append_right _ h)
  have hS : va_S (fun q => B ≤ q) s.heap s.heap [] := va_S.rf
  have hAB : ∀ q : Nat, (fun q => B ≤ q) q → B ≤ q := fun _ h => h
  have hl := lv_entry ([.ref (a 0)]) (n := 1) (Nat.le_of_ble_eq_true rfl)
  rw [lg_entry_eq]
  generalize (lg_sl ([.ref (a 0)]) ++ List.replicate (1 - (lg_sl ([.ref (a 0)])).length) Slot.unset).toArray = ls at hl ⊢
  have hl : lv_has ls 1 [(0, .ref (a 0))] := hl
  refine lv_aload_n hx hb dX8_thrown_0 rfl (lv_at hl 0 rfl) ?_
  refine va_get (D := D) (ci := 6) (v := .int y3) (C := RX8) (T := TX8) (N := 14) hx hb hts inX8 hown hK0.1 hP 0 rfl rfl 6 (by decide) (hts (.fieldLink RX8 32 "PivotChamberModel" "refused" "I") (List.mem_of_getElem? (i := 1) rfl)) (fun _ h9 => h9) rfl dX8_thrown_1 ?_
  exact W.iret hx hb hr (fun t ht hW => ⟨y3, rfl, (show f_X8_thrown y3 = y3 from by rw [f_X8_thrown]).symm, ht⟩) (fun q hq => absurd hq List.not_mem_nil) dX8_thrown_4
theorem hd_X8_in_S : yX8_in.cls ≠ "java/lang/invoke/MethodHandle" ∧ yX8_in.cls ≠ "java/lang/invoke/VarHandle" ∧ (parseMethodDescriptor yX8_in.desc).map (fun d => d.parameters.length) = some 3 := by decide +kernel
theorem hd_X8_in_V : yX8_in.cls = RX8 ∧ yX8_in.cls ≠ "java/lang/invoke/MethodHandle" ∧ yX8_in.cls ≠ "java/lang/invoke/VarHandle" ∧ (parseMethodDescriptor yX8_in.desc).map (fun d => d.parameters.length) = some 3 := ⟨rfl, hd_X8_in_S⟩
def f_X8_in (x0 : Int32) (x1 : Int32) (x2 : Int32) : Int32 := (if x0 < x1 then 0 else (if x2 < x0 then 0 else 1))
theorem z_X8_in (x0 : Int32) (x1 : Int32) (x2 : Int32) : f_X8_in x0 x1 x2 = 0 ∨ f_X8_in x0 x1 x2 = 1 := by
  unfold f_X8_in
  repeat' split
  all_goals first | exact Or.inl rfl | exact Or.inr rfl
set_option maxHeartbeats 400000 in
set_option maxRecDepth 100000 in
theorem c_X8_in (l : Launch) (D : va_G) (cy : Nat → ClassId) (g : Nat → Nat) (B : Nat)  (x0 : Int32) (x1 : Int32) (x2 : Int32) : Met l yX8_in wsX8_in ({ frames := 0, cells := 0, slots := 0, locals := 0 }) (rdP D cy g B ([] : va_W) [.int x0, .int x1, .int x2]) (vp_Si (fun r => r = f_X8_in x0 x1 x2)) 0 0 (fun _ => False) := by
  refine Met.ofW (cc := cX8_in) (maxL := 3) (ret := (some .boolean)) (by decide) rfl ?_
  intro p e s m args below meth c s₁ BB hml hv
  obtain ⟨rfl, hP, hK0⟩ := hv
  have hx := BB.exec
  have hb := BB.bytes
  have hr := BB.returns
  have hts := atoms_spec (ws := wsX8_in) BB.pre
  have hown : s.vm.findClass RX8 = some m.cls := findClass_of_methodNamed BB.named
  have hlocks := BB.notSynchronized
  have S := my_fix hx hb hml hown hts
  have hS : va_S (fun q => B ≤ q) s.heap s.heap [] := va_S.rf
  have hAB : ∀ q : Nat, (fun q => B ≤ q) q → B ≤ q := fun _ h => h
  have hl := lv_entry ([.int x0, .int x1, .int x2]) (n := 3) (Nat.le_of_ble_eq_true rfl)
  rw [lg_entry_eq]
  generalize (lg_sl ([.int x0, .int x1, .int x2]) ++ List.replicate (3 - (lg_sl ([.int x0, .int x1, .int x2])).length) Slot.unset).toArray = ls at hl ⊢
  have hl : lv_has ls 3 [(0, .int x0), (1, .int x1), (2, .int x2)] := hl
  refine lv_iload_n hx hb dX8_in_0 rfl (lv_at hl 0 rfl) ?_
  refine lv_iload_n hx hb dX8_in_1 rfl (lv_at hl 1 rfl) ?_
  refine lv_icmp_lt (tgt := 14) hx hb dX8_in_2 (by decide) (fun c_1 => ?_) (fun c_1 => ?_)
  · refine lv_iconst (v := 0) hx hb dX8_in_14 (by decide) ?_
    exact W.zret (ty := .boolean) (v := 0) hx hb hr (my_nz (by decide)) (fun t ht hW => ⟨0, rfl, (show f_X8_in x0 x1 x2 = 0 from by rw [f_X8_in, if_pos c_1]).symm, ht⟩) (fun q hq => absurd hq List.not_mem_nil) dX8_in_15
  · refine lv_iload_n hx hb dX8_in_5 rfl (lv_at hl 0 rfl) ?_
    refine lv_iload_n hx hb dX8_in_6 rfl (lv_at hl 2 rfl) ?_
    refine lv_icmp_gt (tgt := 14) hx hb dX8_in_7 (by decide) (fun c_2 => ?_) (fun c_2 => ?_)
    · refine lv_iconst (v := 0) hx hb dX8_in_14 (by decide) ?_
      exact W.zret (ty := .boolean) (v := 0) hx hb hr (my_nz (by decide)) (fun t ht hW => ⟨0, rfl, (show f_X8_in x0 x1 x2 = 0 from by rw [f_X8_in, if_neg c_1, if_pos c_2]).symm, ht⟩) (fun q hq => absurd hq List.not_mem_nil) dX8_in_15
    · refine lv_iconst (v := 1) hx hb dX8_in_10 (by decide) ?_
      refine lv_goto (tgt := 15) hx hb dX8_in_11 (by decide) ?_
      exact W.zret (ty := .boolean) (v := 1) hx hb hr (my_nz (by decide)) (fun t ht hW => ⟨1, rfl, (show f_X8_in x0 x1 x2 = 1 from by rw [f_X8_in, if_neg c_1, if_neg c_2]).symm, ht⟩) (fun q hq => absurd hq List.not_mem_nil) dX8_in_15
theorem hd_X8_throwsAt_S : yX8_throwsAt.cls ≠ "java/lang/invoke/MethodHandle" ∧ yX8_throwsAt.cls ≠ "java/lang/invoke/VarHandle" ∧ (parseMethodDescriptor yX8_throwsAt.desc).map (fun d => d.parameters.length) = some 1 := by decide +kernel
theorem hd_X8_throwsAt_V : yX8_throwsAt.cls = RX8 ∧ yX8_throwsAt.cls ≠ "java/lang/invoke/MethodHandle" ∧ yX8_throwsAt.cls ≠ "java/lang/invoke/VarHandle" ∧ (parseMethodDescriptor yX8_throwsAt.desc).map (fun d => d.parameters.length) = some 1 := ⟨rfl, hd_X8_throwsAt_S⟩
def f_X8_throwsAt (x0 : Int32) : Int32 × (Int32) := (if x0 ≤ 0 then (0, x0) else (1, x0))
set_option maxHeartbeats 400000 in
set_option maxRecDepth 100000 in
theorem c_X8_throwsAt (l : Launch) (D : va_G) (cy : Nat → ClassId) (g : Nat → Nat) (B : Nat) (a : Nat → Nat) (y0 : Int32) (y1 : Int32) (y2 : Int32) (y3 : Int32) (y4 : Int32) (y5 : Int32) (y6 : Int32) (y7 : (Nat → Int32)) (y8 : (Nat → Int32)) (y9 : (Nat → Int32)) (y10 : (Nat → Int32)) (y11 : (Nat → Int32)) (y12 : (Nat → Int32)) (y13 : (Nat → Int32)) (x0 : Int32) : Met l yX8_throwsAt wsX8_throwsAt ({ frames := 0, cells := 0, slots := 0, locals := 0 }) (muP D cy g B (wModE cy a y0 y1 y2 y3 y4 y5 y6 y7 y8 y9 y10 y11 y12 y13) [.ref (a 0), .int x0]) (va_Qi (fun (r : Int32) (u : Int32) => f_X8_throwsAt x0 = (r, u)) (fun u t => va_P D vwCl (wModE cy a y0 y1 y2 u y4 y5 y6 y7 y8 y9 y10 y11 y12 y13) t.heap) (muA (wModE cy a y0 y1 y2 y3 y4 y5 y6 y7 y8 y9 y10 y11 y12 y13))) 0 0 (muA (wModE cy a y0 y1 y2 y3 y4 y5 y6 y7 y8 y9 y10 y11 y12 y13)) := by
  refine Met.ofW (cc := cX8_throwsAt) (maxL := 2) (ret := (some .boolean)) (by decide) rfl ?_
  intro p e s m args below meth c s₁ BB hml hv
  obtain ⟨rfl, hP, hK0, hD0⟩ := hv
  have hx := BB.exec
  have hb := BB.bytes
  have hr := BB.returns
  have hts := atoms_spec (ws := wsX8_throwsAt) BB.pre
  have hown : s.vm.findClass RX8 = some m.cls := findClass_of_methodNamed BB.named
  have hlocks := BB.notSynchronized
  have S := my_fix hx hb hml hown hts
  have inX8 : ∀ w ∈ wsX80, w ∈ wsX8_throwsAt := fun w h => List.mem_cons_of_mem _ (List.mem_append_right _ h)
  have hAB := muB hD0
  have hD := muD hD0
  generalize hAe : muA (wModE cy a y0 y1 y2 y3 y4 y5 y6 y7 y8 y9 y10 y11 y12 y13) = A at hAB hD ⊢
  have hS : va_S A s.heap s.heap [] := va_S.rf
  have hl := lv_entry ([.ref (a 0), .int x0]) (n := 2) (Nat.le_of_ble_eq_true rfl)
  rw [lg_entry_eq]
  generalize (lg_sl ([.ref (a 0), .int x0]) ++ List.replicate (2 - (lg_sl ([.ref (a 0), .int x0])).length) Slot.unset).toArray = ls at hl ⊢
  have hl : lv_has ls 2 [(0, .ref (a 0)), (1, .int x0)] := hl
  refine lv_aload_n hx hb dX8_throwsAt_0 rfl (lv_at hl 0 rfl) ?_
  refine lv_iload_n hx hb dX8_throwsAt_1 rfl (lv_at hl 1 rfl) ?_
  refine va_put (D := D) (ci := 6) (v := .int x0) (ty := .int) (C := RX8) (T := TX8) (N := 14) hx hb hts inX8 tyX8 tyX8_ok nmX8 hown hK0.1 hP hD hS 0 rfl rfl 6 (by decide) (hts (.fieldLink RX8 32 "PivotChamberModel" "refused" "I") (List.mem_of_getElem? (i := 1) rfl)) (fun _ h9 => h9) rfl (by decide +kernel) rfl rfl (Nat.le_of_ble_eq_true rfl) dX8_throwsAt_2 (fun H locs hP hD hS => ?_)
  have hP : va_P D vwCl (wModE cy a y0 y1 y2 x0 y4 y5 y6 y7 y8 y9 y10 y11 y12 y13) H := hP
  have hD : va_D A (wModE cy a y0 y1 y2 x0 y4 y5 y6 y7 y8 y9 y10 y11 y12 y13) := hD
  refine lv_iload_n hx hb dX8_throwsAt_5 rfl (lv_at hl 1 rfl) ?_
  refine lv_if_le (tgt := 13) hx hb dX8_throwsAt_6 (by decide) (fun c_1 => ?_) (fun c_1 => ?_)
  · refine lv_iconst (v := 0) hx hb dX8_throwsAt_13 (by decide) ?_
    have hP : va_P D vwCl (wModE cy a y0 y1 y2 x0 y4 y5 y6 y7 y8 y9 y10 y11 y12 y13) H := hP
    have hD : va_D A (wModE cy a y0 y1 y2 x0 y4 y5 y6 y7 y8 y9 y10 y11 y12 y13) := hD
    exact W.zret (ty := .boolean) (v := 0) hx hb hr (my_nz (by decide)) (fun t ht hW => ⟨⟨0, x0, rfl, (show f_X8_throwsAt x0 = (0, x0) from by rw [f_X8_throwsAt, if_pos c_1]), by show va_P D vwCl _ t.heap; rw [ht]; exact hP⟩, hS.F ht⟩) hS.2.2 dX8_throwsAt_14
  · refine lv_iconst (v := 1) hx hb dX8_throwsAt_9 (by decide) ?_
    refine lv_goto (tgt := 14) hx hb dX8_throwsAt_10 (by decide) ?_
    have hP : va_P D vwCl (wModE cy a y0 y1 y2 x0 y4 y5 y6 y7 y8 y9 y10 y11 y12 y13) H := hP
    have hD : va_D A (wModE cy a y0 y1 y2 x0 y4 y5 y6 y7 y8 y9 y10 y11 y12 y13) := hD
    exact W.zret (ty := .boolean) (v := 1) hx hb hr (my_nz (by decide)) (fun t ht hW => ⟨⟨1, x0, rfl, (show f_X8_throwsAt x0 = (1, x0) from by rw [f_X8_throwsAt, if_neg c_1]), by show va_P D vwCl _ t.heap; rw [ht]; exact hP⟩, hS.F ht⟩) hS.2.2 dX8_throwsAt_14
theorem hd_X8_isMember_S : yX8_isMember.cls ≠ "java/lang/invoke/MethodHandle" ∧ yX8_isMember.cls ≠ "java/lang/invoke/VarHandle" ∧ (parseMethodDescriptor yX8_isMember.desc).map (fun d => d.parameters.length) = some 1 := by decide +kernel
theorem hd_X8_isMember_V : yX8_isMember.cls = RX8 ∧ yX8_isMember.cls ≠ "java/lang/invoke/MethodHandle" ∧ yX8_isMember.cls ≠ "java/lang/invoke/VarHandle" ∧ (parseMethodDescriptor yX8_isMember.desc).map (fun d => d.parameters.length) = some 1 := ⟨rfl, hd_X8_isMember_S⟩
def f_X8_isMember (y7 : (Nat → Int32)) (x0 : Int32) : Int32 := (if x0 < 0 then 0 else (if (y7 0) ≤ x0 then 0 else 1))
theorem z_X8_isMember (y7 : (Nat → Int32)) (x0 : Int32) : f_X8_isMember y7 x0 = 0 ∨ f_X8_isMember y7 x0 = 1 := by
  unfold f_X8_isMember
  repeat' split
  all_goals first | exact Or.inl rfl | exact Or.inr rfl
set_option maxHeartbeats 400000 in
set_option maxRecDepth 100000 in
theorem c_X8_isMember (l : Launch) (D : va_G) (cy : Nat → ClassId) (g : Nat → Nat) (B : Nat) (a : Nat → Nat) (y0 : Int32) (y1 : Int32) (y2 : Int32) (y3 : Int32) (y4 : Int32) (y5 : Int32) (y6 : Int32) (y7 : (Nat → Int32)) (y8 : (Nat → Int32)) (y9 : (Nat → Int32)) (y10 : (Nat → Int32)) (y11 : (Nat → Int32)) (y12 : (Nat → Int32)) (y13 : (Nat → Int32)) (x0 : Int32) : Met l yX8_isMember wsX8_isMember ({ frames := 0, cells := 0, slots := 0, locals := 0 }) (rdP D cy g B (wModE cy a y0 y1 y2 y3 y4 y5 y6 y7 y8 y9 y10 y11 y12 y13) [.ref (a 0), .int x0]) (vp_Si (fun r => r = f_X8_isMember y7 x0)) 0 0 (fun _ => False) := by
  refine Met.ofW (cc := cX8_isMember) (maxL := 2) (ret := (some .boolean)) (by decide) rfl ?_
  intro p e s m args below meth c s₁ BB hml hv
  obtain ⟨rfl, hP, hK0⟩ := hv
  have hx := BB.exec
  have hb := BB.bytes
  have hr := BB.returns
  have hts := atoms_spec (ws := wsX8_isMember) BB.pre
  have hown : s.vm.findClass RX8 = some m.cls := findClass_of_methodNamed BB.named
  have hlocks := BB.notSynchronized
  have S := my_fix hx hb hml hown hts
  have inX8 : ∀ w ∈ wsX80, w ∈ wsX8_isMember := fun w h => List.mem_cons_of_mem _ (List.mem_append_right _ h)
  have hS : va_S (fun q => B ≤ q) s.heap s.heap [] := va_S.rf
  have hAB : ∀ q : Nat, (fun q => B ≤ q) q → B ≤ q := fun _ h => h
  have hl := lv_entry ([.ref (a 0), .int x0]) (n := 2) (Nat.le_of_ble_eq_true rfl)
  rw [lg_entry_eq]
  generalize (lg_sl ([.ref (a 0), .int x0]) ++ List.replicate (2 - (lg_sl ([.ref (a 0), .int x0])).length) Slot.unset).toArray = ls at hl ⊢
  have hl : lv_has ls 2 [(0, .ref (a 0)), (1, .int x0)] := hl
  refine lv_iload_n hx hb dX8_isMember_0 rfl (lv_at hl 1 rfl) ?_
  refine lv_if_lt (tgt := 18) hx hb dX8_isMember_1 (by decide) (fun c_1 => ?_) (fun c_1 => ?_)
  · refine lv_iconst (v := 0) hx hb dX8_isMember_18 (by decide) ?_
    exact W.zret (ty := .boolean) (v := 0) hx hb hr (my_nz (by decide)) (fun t ht hW => ⟨0, rfl, (show f_X8_isMember y7 x0 = 0 from by rw [f_X8_isMember, if_pos c_1]).symm, ht⟩) (fun q hq => absurd hq List.not_mem_nil) dX8_isMember_19
  · refine lv_iload_n hx hb dX8_isMember_4 rfl (lv_at hl 1 rfl) ?_
    refine lv_aload_n hx hb dX8_isMember_5 rfl (lv_at hl 0 rfl) ?_
    refine va_get (D := D) (ci := 6) (v := .ref (a 1)) (C := RX8) (T := TX8) (N := 14) hx hb hts inX8 hown hK0.1 hP 0 rfl rfl 0 (by decide) (hts (.fieldLink RX8 7 "PivotChamberModel" "s" "[I") (List.mem_of_getElem? (i := 1) rfl)) (fun _ h9 => h9) rfl dX8_isMember_6 ?_
    refine lv_iconst (v := 0) hx hb dX8_isMember_9 (by decide) ?_
    refine va_iald hx hb hK0.1 hP 1 0 rfl rfl (vp_in_nI (n := 0) (N := 27) (by decide) (by decide)) dX8_isMember_10 ?_
    refine W.eq (g2 := F0 m 11 ls [.int (y7 0), .int x0]) rfl ?_
    refine lv_icmp_ge (tgt := 18) hx hb dX8_isMember_11 (by decide) (fun c_2 => ?_) (fun c_2 => ?_)
    · refine lv_iconst (v := 0) hx hb dX8_isMember_18 (by decide) ?_
      exact W.zret (ty := .boolean) (v := 0) hx hb hr (my_nz (by decide)) (fun t ht hW => ⟨0, rfl, (show f_X8_isMember y7 x0 = 0 from by rw [f_X8_isMember, if_neg c_1, if_pos c_2]).symm, ht⟩) (fun q hq => absurd hq List.not_mem_nil) dX8_isMember_19
    · refine lv_iconst (v := 1) hx hb dX8_isMember_14 (by decide) ?_
      refine lv_goto (tgt := 19) hx hb dX8_isMember_15 (by decide) ?_
      exact W.zret (ty := .boolean) (v := 1) hx hb hr (my_nz (by decide)) (fun t ht hW => ⟨1, rfl, (show f_X8_isMember y7 x0 = 1 from by rw [f_X8_isMember, if_neg c_1, if_neg c_2]).symm, ht⟩) (fun q hq => absurd hq List.not_mem_nil) dX8_isMember_19
theorem hd_X8_ones_S : yX8_ones.cls ≠ "java/lang/invoke/MethodHandle" ∧ yX8_ones.cls ≠ "java/lang/invoke/VarHandle" ∧ (parseMethodDescriptor yX8_ones.desc).map (fun d => d.parameters.length) = some 1 := by decide +kernel
theorem hd_X8_ones_V : yX8_ones.cls = RX8 ∧ yX8_ones.cls ≠ "java/lang/invoke/MethodHandle" ∧ yX8_ones.cls ≠ "java/lang/invoke/VarHandle" ∧ (parseMethodDescriptor yX8_ones.desc).map (fun d => d.parameters.length) = some 1 := ⟨rfl, hd_X8_ones_S⟩
def f_X8_ones_st (x0 : Int32) (i1_1 : Int32) (i2_2 : Int32) : (Int32 × Int32) ⊕ (Int32 × Int32) := (if 8 ≤ i2_2 then (.inr (i1_1, i2_2)) else (.inl ((i1_1 + ((x0 >>> (i2_2 &&& 31)) &&& 1)), (i2_2 + 1))))
def f_X8_ones (x0 : Int32) : Int32 := (my_t2 (lp (fun (x : Int32 × Int32) => f_X8_ones_st x0 x.1 x.2) default (((8 : Int32).toInt - (0 : Int32).toInt).toNat + 1) (0, 0)) (fun (i1_1 : Int32) (i2_2 : Int32) => i1_1))
set_option maxHeartbeats 400000 in
set_option maxRecDepth 100000 in
theorem c_X8_ones (l : Launch) (D : va_G) (cy : Nat → ClassId) (g : Nat → Nat) (B : Nat)  (x0 : Int32) : Met l yX8_ones wsX8_ones ({ frames := 0, cells := 0, slots := 0, locals := 0 }) (rdP D cy g B ([] : va_W) [.int x0]) (vp_Si (fun r => r = f_X8_ones x0)) 0 0 (fun _ => False) := by
  refine Met.ofW (cc := cX8_ones) (maxL := 3) (ret := (some .int)) (by decide) rfl ?_
  intro p e s m args below meth c s₁ BB hml hv
  obtain ⟨rfl, hP, hK0⟩ := hv
  have hx := BB.exec
  have hb := BB.bytes
  have hr := BB.returns
  have hts := atoms_spec (ws := wsX8_ones) BB.pre
  have hown : s.vm.findClass RX8 = some m.cls := findClass_of_methodNamed BB.named
  have hlocks := BB.notSynchronized
  have S := my_fix hx hb hml hown hts
  have hS : va_S (fun q => B ≤ q) s.heap s.heap [] := va_S.rf
  have hAB : ∀ q : Nat, (fun q => B ≤ q) q → B ≤ q := fun _ h => h
  have hl := lv_entry ([.int x0]) (n := 3) (Nat.le_of_ble_eq_true rfl)
  rw [lg_entry_eq]
  generalize (lg_sl ([.int x0]) ++ List.replicate (3 - (lg_sl ([.int x0])).length) Slot.unset).toArray = ls at hl ⊢
  have hl : lv_has ls 3 [(0, .int x0)] := hl
  refine lv_iconst (v := 0) hx hb dX8_ones_0 (by decide) ?_
  refine lv_istore_n (lv' := [(1, .int 0), (0, .int x0)]) hx hb dX8_ones_1 rfl hl (by decide) rfl (fun ls hl => ?_)
  refine lv_iconst (v := 0) hx hb dX8_ones_2 (by decide) ?_
  refine lv_istore_n (lv' := [(2, .int 0), (1, .int 0), (0, .int x0)]) hx hb dX8_ones_3 rfl hl (by decide) rfl (fun ls hl => ?_)
  have cont0 : ∀ (i1_1 : Int32) (i2_2 : Int32), lp (fun (x : Int32 × Int32) => f_X8_ones_st x0 x.1 x.2) default (((8 : Int32).toInt - (0 : Int32).toInt).toNat + 1) (0, 0) = (i1_1, i2_2) → ∀ ls : Array Slot, lv_has ls 3 [(0, .int x0), (1, .int i1_1), (2, .int i2_2)] → W p l e (headSpec wsX8_ones ({ frames := 0, cells := 0, slots := 0, locals := 0 } : Room)).room s m ([.int x0] : List Value).toArray below meth c s.heap [] 0 0 (MQ below (vp_Si (fun r => r = f_X8_ones x0)) ([.int x0] : List Value).toArray s 0 0 (fun _ => False)) (F0 m 24 ls []) := by
    intro i1_1 i2_2 hE0 ls hl
    refine lv_iload_n hx hb dX8_ones_24 rfl (lv_at hl 1 rfl) ?_
    exact W.iret hx hb hr (fun t ht hW => ⟨i1_1, rfl, (show f_X8_ones x0 = i1_1 from by rw [f_X8_ones, hE0, my_t2_eq]).symm, ht⟩) (fun q hq => absurd hq List.not_mem_nil) dX8_ones_25
  have key : ∀ (nf : Nat) (i1_1 : Int32) (i2_2 : Int32), ((8 : Int32).toInt - (i2_2 : Int32).toInt).toNat < nf → lp (fun (x : Int32 × Int32) => f_X8_ones_st x0 x.1 x.2) default nf (i1_1, i2_2) = lp (fun (x : Int32 × Int32) => f_X8_ones_st x0 x.1 x.2) default (((8 : Int32).toInt - (0 : Int32).toInt).toNat + 1) (0, 0) → ∀ ls : Array Slot, lv_has ls 3 [(0, .int x0), (1, .int i1_1), (2, .int i2_2)] → W p l e (headSpec wsX8_ones ({ frames := 0, cells := 0, slots := 0, locals := 0 } : Room)).room s m ([.int x0] : List Value).toArray below meth c s.heap [] 0 0 (MQ below (vp_Si (fun r => r = f_X8_ones x0)) ([.int x0] : List Value).toArray s 0 0 (fun _ => False)) (F0 m 4 ls []) := by
    intro n0
    induction n0 with
    | zero => intro i1_1 i2_2 hlt; exact absurd hlt (Nat.not_lt_zero _)
    | succ n0 ih0 =>
      intro i1_1 i2_2 hlt0 hF0 ls hl
      refine lv_iload_n hx hb dX8_ones_4 rfl (lv_at hl 2 rfl) ?_
      refine lv_bipush (v := 8) hx hb dX8_ones_5 (by decide) ?_
      refine lv_icmp_ge (tgt := 24) hx hb dX8_ones_7 (by decide) (fun c_3 => ?_) (fun c_3 => ?_)
      · have hst : f_X8_ones_st x0 i1_1 i2_2 = .inr (i1_1, i2_2) := by rw [f_X8_ones_st, if_pos c_3]
        exact cont0 i1_1 i2_2 (lp_inr hst hF0) _ (lv_sub hl [0, 1, 2] rfl)
      · refine lv_iload_n hx hb dX8_ones_10 rfl (lv_at hl 1 rfl) ?_
        refine lv_iload_n hx hb dX8_ones_11 rfl (lv_at hl 0 rfl) ?_
        refine lv_iload_n hx hb dX8_ones_12 rfl (lv_at hl 2 rfl) ?_
        refine lv_ishr hx hb dX8_ones_13 ?_
        refine lv_iconst (v := 1) hx hb dX8_ones_14 (by decide) ?_
        refine lv_iand hx hb dX8_ones_15 ?_
        refine lv_iadd hx hb dX8_ones_16 ?_
        refine lv_istore_n (lv' := [(1, .int (i1_1 + ((x0 >>> (i2_2 &&& 31)) &&& 1))), (0, .int x0), (2, .int i2_2)]) hx hb dX8_ones_17 rfl hl (by decide) rfl (fun ls hl => ?_)
        refine lv_iinc (v := (i2_2 + 1)) (lv' := [(2, .int (i2_2 + 1)), (1, .int (i1_1 + ((x0 >>> (i2_2 &&& 31)) &&& 1))), (0, .int x0)]) hx hb dX8_ones_18 hl (k := 2) rfl rfl (by decide) rfl (fun ls hl => ?_)
        refine lv_goto (tgt := 4) hx hb dX8_ones_21 (by decide) ?_
        have hst : f_X8_ones_st x0 i1_1 i2_2 = .inl ((i1_1 + ((x0 >>> (i2_2 &&& 31)) &&& 1)), (i2_2 + 1)) := by rw [f_X8_ones_st, if_neg c_3]
        have hmu : ((8 : Int32).toInt - ((i2_2 + 1) : Int32).toInt).toNat < ((8 : Int32).toInt - (i2_2 : Int32).toInt).toNat := mu_up c_3
        exact ih0 (i1_1 + ((x0 >>> (i2_2 &&& 31)) &&& 1)) (i2_2 + 1) (Nat.lt_of_lt_of_le hmu (Nat.le_of_lt_succ hlt0)) (lp_inl hst hF0) _ (lv_sub hl [2, 1, 0] rfl)
  exact key (((8 : Int32).toInt - (0 : Int32).toInt).toNat + 1) 0 0 (Nat.lt_succ_self _) rfl _ (lv_sub hl [2, 1, 0] rfl)
theorem hd_X8_has_S : yX8_has.cls ≠ "java/lang/invoke/MethodHandle" ∧ yX8_has.cls ≠ "java/lang/invoke/VarHandle" ∧ (parseMethodDescriptor yX8_has.desc).map (fun d => d.parameters.length) = some 2 := by decide +kernel
theorem hd_X8_has_V : yX8_has.cls = RX8 ∧ yX8_has.cls ≠ "java/lang/invoke/MethodHandle" ∧ yX8_has.cls ≠ "java/lang/invoke/VarHandle" ∧ (parseMethodDescriptor yX8_has.desc).map (fun d => d.parameters.length) = some 2 := ⟨rfl, hd_X8_has_S⟩
def f_X8_has (x0 : Int32) (x1 : Int32) : Int32 := (if ((x0 >>> (x1 &&& 31)) &&& 1) = 1 then 1 else 0)
theorem z_X8_has (x0 : Int32) (x1 : Int32) : f_X8_has x0 x1 = 0 ∨ f_X8_has x0 x1 = 1 := by
  unfold f_X8_has
  repeat' split
  all_goals first | exact Or.inl rfl | exact Or.inr rfl
set_option maxHeartbeats 400000 in
set_option maxRecDepth 100000 in
theorem c_X8_has (l : Launch) (D : va_G) (cy : Nat → ClassId) (g : Nat → Nat) (B : Nat)  (x0 : Int32) (x1 : Int32) : Met l yX8_has wsX8_has ({ frames := 0, cells := 0, slots := 0, locals := 0 }) (rdP D cy g B ([] : va_W) [.int x0, .int x1]) (vp_Si (fun r => r = f_X8_has x0 x1)) 0 0 (fun _ => False) := by
  refine Met.ofW (cc := cX8_has) (maxL := 2) (ret := (some .boolean)) (by decide) rfl ?_
  intro p e s m args below meth c s₁ BB hml hv
  obtain ⟨rfl, hP, hK0⟩ := hv
  have hx := BB.exec
  have hb := BB.bytes
  have hr := BB.returns
  have hts := atoms_spec (ws := wsX8_has) BB.pre
  have hown : s.vm.findClass RX8 = some m.cls := findClass_of_methodNamed BB.named
  have hlocks := BB.notSynchronized
  have S := my_fix hx hb hml hown hts
  have hS : va_S (fun q => B ≤ q) s.heap s.heap [] := va_S.rf
  have hAB : ∀ q : Nat, (fun q => B ≤ q) q → B ≤ q := fun _ h => h
  have hl := lv_entry ([.int x0, .int x1]) (n := 2) (Nat.le_of_ble_eq_true rfl)
  rw [lg_entry_eq]
  generalize (lg_sl ([.int x0, .int x1]) ++ List.replicate (2 - (lg_sl ([.int x0, .int x1])).length) Slot.unset).toArray = ls at hl ⊢
  have hl : lv_has ls 2 [(0, .int x0), (1, .int x1)] := hl
  refine lv_iload_n hx hb dX8_has_0 rfl (lv_at hl 0 rfl) ?_
  refine lv_iload_n hx hb dX8_has_1 rfl (lv_at hl 1 rfl) ?_
  refine lv_ishr hx hb dX8_has_2 ?_
  refine lv_iconst (v := 1) hx hb dX8_has_3 (by decide) ?_
  refine lv_iand hx hb dX8_has_4 ?_
  refine lv_iconst (v := 1) hx hb dX8_has_5 (by decide) ?_
  refine lv_icmp_ne (tgt := 13) hx hb dX8_has_6 (by decide) (fun c_1 => ?_) (fun c_1 => ?_)
  · refine lv_iconst (v := 0) hx hb dX8_has_13 (by decide) ?_
    exact W.zret (ty := .boolean) (v := 0) hx hb hr (my_nz (by decide)) (fun t ht hW => ⟨0, rfl, (show f_X8_has x0 x1 = 0 from by rw [f_X8_has, if_neg c_1]).symm, ht⟩) (fun q hq => absurd hq List.not_mem_nil) dX8_has_14
  · refine lv_iconst (v := 1) hx hb dX8_has_9 (by decide) ?_
    refine lv_goto (tgt := 14) hx hb dX8_has_10 (by decide) ?_
    exact W.zret (ty := .boolean) (v := 1) hx hb hr (my_nz (by decide)) (fun t ht hW => ⟨1, rfl, (show f_X8_has x0 x1 = 1 from by rw [f_X8_has, if_pos c_1]).symm, ht⟩) (fun q hq => absurd hq List.not_mem_nil) dX8_has_14
theorem hd_X8_factorial_S : yX8_factorial.cls ≠ "java/lang/invoke/MethodHandle" ∧ yX8_factorial.cls ≠ "java/lang/invoke/VarHandle" ∧ (parseMethodDescriptor yX8_factorial.desc).map (fun d => d.parameters.length) = some 1 := by decide +kernel
theorem hd_X8_factorial_V : yX8_factorial.cls = RX8 ∧ yX8_factorial.cls ≠ "java/lang/invoke/MethodHandle" ∧ yX8_factorial.cls ≠ "java/lang/invoke/VarHandle" ∧ (parseMethodDescriptor yX8_factorial.desc).map (fun d => d.parameters.length) = some 1 := ⟨rfl, hd_X8_factorial_S⟩
def f_X8_factorial_st (x0 : Int32) (i1_1 : Int32) (i2_2 : Int32) : (Int32 × Int32) ⊕ (Int32 × Int32) := (if x0 < i2_2 then (.inr (i1_1, i2_2)) else (.inl ((i1_1 * i2_2), (i2_2 + 1))))
def f_X8_factorial (x0 : Int32) : Int32 := (my_t2 (lp (fun (x : Int32 × Int32) => f_X8_factorial_st x0 x.1 x.2) default (((x0 : Int32).toInt + 1 - (2 : Int32).toInt).toNat + 1) (1, 2)) (fun (i1_1 : Int32) (i2_2 : Int32) => i1_1))
set_option maxHeartbeats 400000 in
set_option maxRecDepth 100000 in
theorem c_X8_factorial (l : Launch) (D : va_G) (cy : Nat → ClassId) (g : Nat → Nat) (B : Nat)  (x0 : Int32) (hx0 : x0 < 2147483647) : Met l yX8_factorial wsX8_factorial ({ frames := 0, cells := 0, slots := 0, locals := 0 }) (rdP D cy g B ([] : va_W) [.int x0]) (vp_Si (fun r => r = f_X8_factorial x0)) 0 0 (fun _ => False) := by
  refine Met.ofW (cc := cX8_factorial) (maxL := 3) (ret := (some .int)) (by decide) rfl ?_
  intro p e s m args below meth c s₁ BB hml hv
  obtain ⟨rfl, hP, hK0⟩ := hv
  have hx := BB.exec
  have hb := BB.bytes
  have hr := BB.returns
  have hts := atoms_spec (ws := wsX8_factorial) BB.pre
  have hown : s.vm.findClass RX8 = some m.cls := findClass_of_methodNamed BB.named
  have hlocks := BB.notSynchronized
  have S := my_fix hx hb hml hown hts
  have hS : va_S (fun q => B ≤ q) s.heap s.heap [] := va_S.rf
  have hAB : ∀ q : Nat, (fun q => B ≤ q) q → B ≤ q := fun _ h => h
  have hl := lv_entry ([.int x0]) (n := 3) (Nat.le_of_ble_eq_true rfl)
  rw [lg_entry_eq]
  generalize (lg_sl ([.int x0]) ++ List.replicate (3 - (lg_sl ([.int x0])).length) Slot.unset).toArray = ls at hl ⊢
  have hl : lv_has ls 3 [(0, .int x0)] := hl
  refine lv_iconst (v := 1) hx hb dX8_factorial_0 (by decide) ?_
  refine lv_istore_n (lv' := [(1, .int 1), (0, .int x0)]) hx hb dX8_factorial_1 rfl hl (by decide) rfl (fun ls hl => ?_)
  refine lv_iconst (v := 2) hx hb dX8_factorial_2 (by decide) ?_
  refine lv_istore_n (lv' := [(2, .int 2), (1, .int 1), (0, .int x0)]) hx hb dX8_factorial_3 rfl hl (by decide) rfl (fun ls hl => ?_)
  have cont0 : ∀ (i1_1 : Int32) (i2_2 : Int32), lp (fun (x : Int32 × Int32) => f_X8_factorial_st x0 x.1 x.2) default (((x0 : Int32).toInt + 1 - (2 : Int32).toInt).toNat + 1) (1, 2) = (i1_1, i2_2) → ∀ ls : Array Slot, lv_has ls 3 [(0, .int x0), (1, .int i1_1), (2, .int i2_2)] → W p l e (headSpec wsX8_factorial ({ frames := 0, cells := 0, slots := 0, locals := 0 } : Room)).room s m ([.int x0] : List Value).toArray below meth c s.heap [] 0 0 (MQ below (vp_Si (fun r => r = f_X8_factorial x0)) ([.int x0] : List Value).toArray s 0 0 (fun _ => False)) (F0 m 19 ls []) := by
    intro i1_1 i2_2 hE0 ls hl
    refine lv_iload_n hx hb dX8_factorial_19 rfl (lv_at hl 1 rfl) ?_
    exact W.iret hx hb hr (fun t ht hW => ⟨i1_1, rfl, (show f_X8_factorial x0 = i1_1 from by rw [f_X8_factorial, hE0, my_t2_eq]).symm, ht⟩) (fun q hq => absurd hq List.not_mem_nil) dX8_factorial_20
  have key : ∀ (nf : Nat) (i1_1 : Int32) (i2_2 : Int32), ((x0 : Int32).toInt + 1 - (i2_2 : Int32).toInt).toNat < nf → lp (fun (x : Int32 × Int32) => f_X8_factorial_st x0 x.1 x.2) default nf (i1_1, i2_2) = lp (fun (x : Int32 × Int32) => f_X8_factorial_st x0 x.1 x.2) default (((x0 : Int32).toInt + 1 - (2 : Int32).toInt).toNat + 1) (1, 2) → ∀ ls : Array Slot, lv_has ls 3 [(0, .int x0), (1, .int i1_1), (2, .int i2_2)] → W p l e (headSpec wsX8_factorial ({ frames := 0, cells := 0, slots := 0, locals := 0 } : Room)).room s m ([.int x0] : List Value).toArray below meth c s.heap [] 0 0 (MQ below (vp_Si (fun r => r = f_X8_factorial x0)) ([.int x0] : List Value).toArray s 0 0 (fun _ => False)) (F0 m 4 ls []) := by
    intro n0
    induction n0 with
    | zero => intro i1_1 i2_2 hlt; exact absurd hlt (Nat.not_lt_zero _)
    | succ n0 ih0 =>
      intro i1_1 i2_2 hlt0 hF0 ls hl
      refine lv_iload_n hx hb dX8_factorial_4 rfl (lv_at hl 2 rfl) ?_
      refine lv_iload_n hx hb dX8_factorial_5 rfl (lv_at hl 0 rfl) ?_
      refine lv_icmp_gt (tgt := 19) hx hb dX8_factorial_6 (by decide) (fun c_3 => ?_) (fun c_3 => ?_)
      · have hst : f_X8_factorial_st x0 i1_1 i2_2 = .inr (i1_1, i2_2) := by rw [f_X8_factorial_st, if_pos c_3]
        exact cont0 i1_1 i2_2 (lp_inr hst hF0) _ (lv_sub hl [0, 1, 2] rfl)
      · refine lv_iload_n hx hb dX8_factorial_9 rfl (lv_at hl 1 rfl) ?_
        refine lv_iload_n hx hb dX8_factorial_10 rfl (lv_at hl 2 rfl) ?_
        refine lv_imul hx hb dX8_factorial_11 ?_
        refine lv_istore_n (lv' := [(1, .int (i1_1 * i2_2)), (0, .int x0), (2, .int i2_2)]) hx hb dX8_factorial_12 rfl hl (by decide) rfl (fun ls hl => ?_)
        refine lv_iinc (v := (i2_2 + 1)) (lv' := [(2, .int (i2_2 + 1)), (1, .int (i1_1 * i2_2)), (0, .int x0)]) hx hb dX8_factorial_13 hl (k := 2) rfl rfl (by decide) rfl (fun ls hl => ?_)
        refine lv_goto (tgt := 4) hx hb dX8_factorial_16 (by decide) ?_
        have hst : f_X8_factorial_st x0 i1_1 i2_2 = .inl ((i1_1 * i2_2), (i2_2 + 1)) := by rw [f_X8_factorial_st, if_neg c_3]
        have hmu : ((x0 : Int32).toInt + 1 - ((i2_2 + 1) : Int32).toInt).toNat < ((x0 : Int32).toInt + 1 - (i2_2 : Int32).toInt).toNat := mu_le c_3 hx0
        exact ih0 (i1_1 * i2_2) (i2_2 + 1) (Nat.lt_of_lt_of_le hmu (Nat.le_of_lt_succ hlt0)) (lp_inl hst hF0) _ (lv_sub hl [2, 1, 0] rfl)
  exact key (((x0 : Int32).toInt + 1 - (2 : Int32).toInt).toNat + 1) 1 2 (Nat.lt_succ_self _) rfl _ (lv_sub hl [2, 1, 0] rfl)
theorem hd_X8_isRule_S : yX8_isRule.cls ≠ "java/lang/invoke/MethodHandle" ∧ yX8_isRule.cls ≠ "java/lang/invoke/VarHandle" ∧ (parseMethodDescriptor yX8_isRule.desc).map (fun d => d.parameters.length) = some 1 := by decide +kernel
theorem hd_X8_isRule_V : yX8_isRule.cls = RX8 ∧ yX8_isRule.cls ≠ "java/lang/invoke/MethodHandle" ∧ yX8_isRule.cls ≠ "java/lang/invoke/VarHandle" ∧ (parseMethodDescriptor yX8_isRule.desc).map (fun d => d.parameters.length) = some 1 := ⟨rfl, hd_X8_isRule_S⟩
def f_X8_isRule (y7 : (Nat → Int32)) (x0 : Int32) : Int32 := (if x0 < 0 then 0 else (if (y7 2) ≤ x0 then 0 else 1))
theorem z_X8_isRule (y7 : (Nat → Int32)) (x0 : Int32) : f_X8_isRule y7 x0 = 0 ∨ f_X8_isRule y7 x0 = 1 := by
  unfold f_X8_isRule
  repeat' split
  all_goals first | exact Or.inl rfl | exact Or.inr rfl
set_option maxHeartbeats 400000 in
set_option maxRecDepth 100000 in
theorem c_X8_isRule (l : Launch) (D : va_G) (cy : Nat → ClassId) (g : Nat → Nat) (B : Nat) (a : Nat → Nat) (y0 : Int32) (y1 : Int32) (y2 : Int32) (y3 : Int32) (y4 : Int32) (y5 : Int32) (y6 : Int32) (y7 : (Nat → Int32)) (y8 : (Nat → Int32)) (y9 : (Nat → Int32)) (y10 : (Nat → Int32)) (y11 : (Nat → Int32)) (y12 : (Nat → Int32)) (y13 : (Nat → Int32)) (x0 : Int32) : Met l yX8_isRule wsX8_isRule ({ frames := 0, cells := 0, slots := 0, locals := 0 }) (rdP D cy g B (wModE cy a y0 y1 y2 y3 y4 y5 y6 y7 y8 y9 y10 y11 y12 y13) [.ref (a 0), .int x0]) (vp_Si (fun r => r = f_X8_isRule y7 x0)) 0 0 (fun _ => False) := by
  refine Met.ofW (cc := cX8_isRule) (maxL := 2) (ret := (some .boolean)) (by decide) rfl ?_
  intro p e s m args below meth c s₁ BB hml hv
  obtain ⟨rfl, hP, hK0⟩ := hv
  have hx := BB.exec
  have hb := BB.bytes
  have hr := BB.returns
  have hts := atoms_spec (ws := wsX8_isRule) BB.pre
  have hown : s.vm.findClass RX8 = some m.cls := findClass_of_methodNamed BB.named
  have hlocks := BB.notSynchronized
  have S := my_fix hx hb hml hown hts
  have inX8 : ∀ w ∈ wsX80, w ∈ wsX8_isRule := fun w h => List.mem_cons_of_mem _ (List.mem_append_right _ h)
  have hS : va_S (fun q => B ≤ q) s.heap s.heap [] := va_S.rf
  have hAB : ∀ q : Nat, (fun q => B ≤ q) q → B ≤ q := fun _ h => h
  have hl := lv_entry ([.ref (a 0), .int x0]) (n := 2) (Nat.le_of_ble_eq_true rfl)
  rw [lg_entry_eq]
  generalize (lg_sl ([.ref (a 0), .int x0]) ++ List.replicate (2 - (lg_sl ([.ref (a 0), .int x0])).length) Slot.unset).toArray = ls at hl ⊢
  have hl : lv_has ls 2 [(0, .ref (a 0)), (1, .int x0)] := hl
  refine lv_iload_n hx hb dX8_isRule_0 rfl (lv_at hl 1 rfl) ?_
  refine lv_if_lt (tgt := 18) hx hb dX8_isRule_1 (by decide) (fun c_1 => ?_) (fun c_1 => ?_)
  · refine lv_iconst (v := 0) hx hb dX8_isRule_18 (by decide) ?_
    exact W.zret (ty := .boolean) (v := 0) hx hb hr (my_nz (by decide)) (fun t ht hW => ⟨0, rfl, (show f_X8_isRule y7 x0 = 0 from by rw [f_X8_isRule, if_pos c_1]).symm, ht⟩) (fun q hq => absurd hq List.not_mem_nil) dX8_isRule_19
  · refine lv_iload_n hx hb dX8_isRule_4 rfl (lv_at hl 1 rfl) ?_
    refine lv_aload_n hx hb dX8_isRule_5 rfl (lv_at hl 0 rfl) ?_
    refine va_get (D := D) (ci := 6) (v := .ref (a 1)) (C := RX8) (T := TX8) (N := 14) hx hb hts inX8 hown hK0.1 hP 0 rfl rfl 0 (by decide) (hts (.fieldLink RX8 7 "PivotChamberModel" "s" "[I") (List.mem_of_getElem? (i := 1) rfl)) (fun _ h9 => h9) rfl dX8_isRule_6 ?_
    refine lv_iconst (v := 2) hx hb dX8_isRule_9 (by decide) ?_
    refine va_iald hx hb hK0.1 hP 1 0 rfl rfl (vp_in_nI (n := 2) (N := 27) (by decide) (by decide)) dX8_isRule_10 ?_
    refine W.eq (g2 := F0 m 11 ls [.int (y7 2), .int x0]) rfl ?_
    refine lv_icmp_ge (tgt := 18) hx hb dX8_isRule_11 (by decide) (fun c_2 => ?_) (fun c_2 => ?_)
    · refine lv_iconst (v := 0) hx hb dX8_isRule_18 (by decide) ?_
      exact W.zret (ty := .boolean) (v := 0) hx hb hr (my_nz (by decide)) (fun t ht hW => ⟨0, rfl, (show f_X8_isRule y7 x0 = 0 from by rw [f_X8_isRule, if_neg c_1, if_pos c_2]).symm, ht⟩) (fun q hq => absurd hq List.not_mem_nil) dX8_isRule_19
    · refine lv_iconst (v := 1) hx hb dX8_isRule_14 (by decide) ?_
      refine lv_goto (tgt := 19) hx hb dX8_isRule_15 (by decide) ?_
      exact W.zret (ty := .boolean) (v := 1) hx hb hr (my_nz (by decide)) (fun t ht hW => ⟨1, rfl, (show f_X8_isRule y7 x0 = 1 from by rw [f_X8_isRule, if_neg c_1, if_neg c_2]).symm, ht⟩) (fun q hq => absurd hq List.not_mem_nil) dX8_isRule_19
theorem hd_X8_isValue_S : yX8_isValue.cls ≠ "java/lang/invoke/MethodHandle" ∧ yX8_isValue.cls ≠ "java/lang/invoke/VarHandle" ∧ (parseMethodDescriptor yX8_isValue.desc).map (fun d => d.parameters.length) = some 2 := by decide +kernel
theorem hd_X8_isValue_V : yX8_isValue.cls = RX8 ∧ yX8_isValue.cls ≠ "java/lang/invoke/MethodHandle" ∧ yX8_isValue.cls ≠ "java/lang/invoke/VarHandle" ∧ (parseMethodDescriptor yX8_isValue.desc).map (fun d => d.parameters.length) = some 2 := ⟨rfl, hd_X8_isValue_S⟩
def f_X8_isValue (x0 : Int32) (x1 : Int32) : Int32 := (if x0 = 0 then (f_X8_in x1 1 8) else (if x0 = 1 then (f_X8_in x1 0 7) else (f_X8_in x1 1 255)))
theorem z_X8_isValue (x0 : Int32) (x1 : Int32) : f_X8_isValue x0 x1 = 0 ∨ f_X8_isValue x0 x1 = 1 := by
  unfold f_X8_isValue
  repeat' split
  all_goals first | exact Or.inl rfl | exact Or.inr rfl | exact z_X8_in _ _ _
set_option maxHeartbeats 400000 in
set_option maxRecDepth 100000 in
theorem c_X8_isValue (l : Launch) (D : va_G) (cy : Nat → ClassId) (g : Nat → Nat) (B : Nat)  (x0 : Int32) (x1 : Int32) : Met l yX8_isValue wsX8_isValue ({ frames := 1, cells := 0, slots := 0, locals := 22 }) (rdP D cy g B ([] : va_W) [.int x0, .int x1]) (vp_Si (fun r => r = f_X8_isValue x0 x1)) 0 0 (fun _ => False) := by
  refine Met.ofW (cc := cX8_isValue) (maxL := 2) (ret := (some .boolean)) (by decide) rfl ?_
  intro p e s m args below meth c s₁ BB hml hv
  obtain ⟨rfl, hP, hK0⟩ := hv
  have hx := BB.exec
  have hb := BB.bytes
  have hr := BB.returns
  have hts := atoms_spec (ws := wsX8_isValue) BB.pre
  have hown : s.vm.findClass RX8 = some m.cls := findClass_of_methodNamed BB.named
  have hlocks := BB.notSynchronized
  have S := my_fix hx hb hml hown hts
  have hS : va_S (fun q => B ≤ q) s.heap s.heap [] := va_S.rf
  have hAB : ∀ q : Nat, (fun q => B ≤ q) q → B ≤ q := fun _ h => h
  have hl := lv_entry ([.int x0, .int x1]) (n := 2) (Nat.le_of_ble_eq_true rfl)
  rw [lg_entry_eq]
  generalize (lg_sl ([.int x0, .int x1]) ++ List.replicate (2 - (lg_sl ([.int x0, .int x1])).length) Slot.unset).toArray = ls at hl ⊢
  have hl : lv_has ls 2 [(0, .int x0), (1, .int x1)] := hl
  refine lv_iload_n hx hb dX8_isValue_0 rfl (lv_at hl 0 rfl) ?_
  refine lv_if_ne (tgt := 14) hx hb dX8_isValue_1 (by decide) (fun c_1 => ?_) (fun c_1 => ?_)
  · refine lv_iload_n hx hb dX8_isValue_14 rfl (lv_at hl 0 rfl) ?_
    refine lv_iconst (v := 1) hx hb dX8_isValue_15 (by decide) ?_
    refine lv_icmp_ne (tgt := 29) hx hb dX8_isValue_16 (by decide) (fun c_2 => ?_) (fun c_2 => ?_)
    · refine lv_iload_n hx hb dX8_isValue_29 rfl (lv_at hl 1 rfl) ?_
      refine lv_iconst (v := 1) hx hb dX8_isValue_30 (by decide) ?_
      refine lv_sipush (v := 255) hx hb dX8_isValue_31 (by decide) ?_
      refine rd_goi (va_runS (As := [.int x1, .int 1, .int 255]) (rest := []) S (c_X8_in l D cy g B x1 1 255) (va_cwS 3 hts gX8_isValue_X8_in rfl rfl rfl hd_X8_in_S ⟨Nat.le_of_ble_eq_true rfl, Nat.le_of_ble_eq_true rfl⟩) ⟨rdP_blind, my_preV hK0 hS hAB hP [] rfl⟩ rfl rfl hl.1 rfl (lv_room (Nat.le_of_ble_eq_true rfl)) dX8_isValue_34 ⟨Nat.zero_le _, Nat.zero_le _⟩) ?_
      exact W.zret (ty := .boolean) (v := (f_X8_in x1 1 255)) hx hb hr (my_nz (z_X8_in _ _ _)) (fun t ht hW => ⟨(f_X8_in x1 1 255), rfl, (show f_X8_isValue x0 x1 = (f_X8_in x1 1 255) from by rw [f_X8_isValue, if_neg c_1, if_neg c_2]).symm, ht⟩) (fun q hq => absurd hq List.not_mem_nil) dX8_isValue_37
    · refine lv_iload_n hx hb dX8_isValue_19 rfl (lv_at hl 1 rfl) ?_
      refine lv_iconst (v := 0) hx hb dX8_isValue_20 (by decide) ?_
      refine lv_bipush (v := 7) hx hb dX8_isValue_21 (by decide) ?_
      refine rd_goi (va_runS (As := [.int x1, .int 0, .int 7]) (rest := []) S (c_X8_in l D cy g B x1 0 7) (va_cwS 3 hts gX8_isValue_X8_in rfl rfl rfl hd_X8_in_S ⟨Nat.le_of_ble_eq_true rfl, Nat.le_of_ble_eq_true rfl⟩) ⟨rdP_blind, my_preV hK0 hS hAB hP [] rfl⟩ rfl rfl hl.1 rfl (lv_room (Nat.le_of_ble_eq_true rfl)) dX8_isValue_23 ⟨Nat.zero_le _, Nat.zero_le _⟩) ?_
      refine lv_goto (tgt := 37) hx hb dX8_isValue_26 (by decide) ?_
      exact W.zret (ty := .boolean) (v := (f_X8_in x1 0 7)) hx hb hr (my_nz (z_X8_in _ _ _)) (fun t ht hW => ⟨(f_X8_in x1 0 7), rfl, (show f_X8_isValue x0 x1 = (f_X8_in x1 0 7) from by rw [f_X8_isValue, if_neg c_1, if_pos c_2]).symm, ht⟩) (fun q hq => absurd hq List.not_mem_nil) dX8_isValue_37
  · refine lv_iload_n hx hb dX8_isValue_4 rfl (lv_at hl 1 rfl) ?_
    refine lv_iconst (v := 1) hx hb dX8_isValue_5 (by decide) ?_
    refine lv_bipush (v := 8) hx hb dX8_isValue_6 (by decide) ?_
    refine rd_goi (va_runS (As := [.int x1, .int 1, .int 8]) (rest := []) S (c_X8_in l D cy g B x1 1 8) (va_cwS 3 hts gX8_isValue_X8_in rfl rfl rfl hd_X8_in_S ⟨Nat.le_of_ble_eq_true rfl, Nat.le_of_ble_eq_true rfl⟩) ⟨rdP_blind, my_preV hK0 hS hAB hP [] rfl⟩ rfl rfl hl.1 rfl (lv_room (Nat.le_of_ble_eq_true rfl)) dX8_isValue_8 ⟨Nat.zero_le _, Nat.zero_le _⟩) ?_
    refine lv_goto (tgt := 37) hx hb dX8_isValue_11 (by decide) ?_
    exact W.zret (ty := .boolean) (v := (f_X8_in x1 1 8)) hx hb hr (my_nz (z_X8_in _ _ _)) (fun t ht hW => ⟨(f_X8_in x1 1 8), rfl, (show f_X8_isValue x0 x1 = (f_X8_in x1 1 8) from by rw [f_X8_isValue, if_pos c_1]).symm, ht⟩) (fun q hq => absurd hq List.not_mem_nil) dX8_isValue_37
theorem hd_X8_isSet_S : yX8_isSet.cls ≠ "java/lang/invoke/MethodHandle" ∧ yX8_isSet.cls ≠ "java/lang/invoke/VarHandle" ∧ (parseMethodDescriptor yX8_isSet.desc).map (fun d => d.parameters.length) = some 1 := by decide +kernel
theorem hd_X8_isSet_V : yX8_isSet.cls = RX8 ∧ yX8_isSet.cls ≠ "java/lang/invoke/MethodHandle" ∧ yX8_isSet.cls ≠ "java/lang/invoke/VarHandle" ∧ (parseMethodDescriptor yX8_isSet.desc).map (fun d => d.parameters.length) = some 1 := ⟨rfl, hd_X8_isSet_S⟩
def f_X8_isSet (y7 : (Nat → Int32)) (x0 : Int32) : Int32 := (if x0 < 0 then 0 else (if (1 <<< ((y7 0) &&& 31)) ≤ x0 then 0 else 1))
theorem z_X8_isSet (y7 : (Nat → Int32)) (x0 : Int32) : f_X8_isSet y7 x0 = 0 ∨ f_X8_isSet y7 x0 = 1 := by
  unfold f_X8_isSet
  repeat' split
  all_goals first | exact Or.inl rfl | exact Or.inr rfl
set_option maxHeartbeats 400000 in
set_option maxRecDepth 100000 in
theorem c_X8_isSet (l : Launch) (D : va_G) (cy : Nat → ClassId) (g : Nat → Nat) (B : Nat) (a : Nat → Nat) (y0 : Int32) (y1 : Int32) (y2 : Int32) (y3 : Int32) (y4 : Int32) (y5 : Int32) (y6 : Int32) (y7 : (Nat → Int32)) (y8 : (Nat → Int32)) (y9 : (Nat → Int32)) (y10 : (Nat → Int32)) (y11 : (Nat → Int32)) (y12 : (Nat → Int32)) (y13 : (Nat → Int32)) (x0 : Int32) : Met l yX8_isSet wsX8_isSet ({ frames := 0, cells := 0, slots := 0, locals := 0 }) (rdP D cy g B (wModE cy a y0 y1 y2 y3 y4 y5 y6 y7 y8 y9 y10 y11 y12 y13) [.ref (a 0), .int x0]) (vp_Si (fun r => r = f_X8_isSet y7 x0)) 0 0 (fun _ => False) := by
  refine Met.ofW (cc := cX8_isSet) (maxL := 2) (ret := (some .boolean)) (by decide) rfl ?_
  intro p e s m args below meth c s₁ BB hml hv
  obtain ⟨rfl, hP, hK0⟩ := hv
  have hx := BB.exec
  have hb := BB.bytes
  have hr := BB.returns
  have hts := atoms_spec (ws := wsX8_isSet) BB.pre
  have hown : s.vm.findClass RX8 = some m.cls := findClass_of_methodNamed BB.named
  have hlocks := BB.notSynchronized
  have S := my_fix hx hb hml hown hts
  have inX8 : ∀ w ∈ wsX80, w ∈ wsX8_isSet := fun w h => List.mem_cons_of_mem _ (List.mem_append_right _ h)
  have hS : va_S (fun q => B ≤ q) s.heap s.heap [] := va_S.rf
  have hAB : ∀ q : Nat, (fun q => B ≤ q) q → B ≤ q := fun _ h => h
  have hl := lv_entry ([.ref (a 0), .int x0]) (n := 2) (Nat.le_of_ble_eq_true rfl)
  rw [lg_entry_eq]
  generalize (lg_sl ([.ref (a 0), .int x0]) ++ List.replicate (2 - (lg_sl ([.ref (a 0), .int x0])).length) Slot.unset).toArray = ls at hl ⊢
  have hl : lv_has ls 2 [(0, .ref (a 0)), (1, .int x0)] := hl
  refine lv_iload_n hx hb dX8_isSet_0 rfl (lv_at hl 1 rfl) ?_
  refine lv_if_lt (tgt := 20) hx hb dX8_isSet_1 (by decide) (fun c_1 => ?_) (fun c_1 => ?_)
  · refine lv_iconst (v := 0) hx hb dX8_isSet_20 (by decide) ?_
    exact W.zret (ty := .boolean) (v := 0) hx hb hr (my_nz (by decide)) (fun t ht hW => ⟨0, rfl, (show f_X8_isSet y7 x0 = 0 from by rw [f_X8_isSet, if_pos c_1]).symm, ht⟩) (fun q hq => absurd hq List.not_mem_nil) dX8_isSet_21
  · refine lv_iload_n hx hb dX8_isSet_4 rfl (lv_at hl 1 rfl) ?_
    refine lv_iconst (v := 1) hx hb dX8_isSet_5 (by decide) ?_
    refine lv_aload_n hx hb dX8_isSet_6 rfl (lv_at hl 0 rfl) ?_
    refine va_get (D := D) (ci := 6) (v := .ref (a 1)) (C := RX8) (T := TX8) (N := 14) hx hb hts inX8 hown hK0.1 hP 0 rfl rfl 0 (by decide) (hts (.fieldLink RX8 7 "PivotChamberModel" "s" "[I") (List.mem_of_getElem? (i := 1) rfl)) (fun _ h9 => h9) rfl dX8_isSet_7 ?_
    refine lv_iconst (v := 0) hx hb dX8_isSet_10 (by decide) ?_
    refine va_iald hx hb hK0.1 hP 1 0 rfl rfl (vp_in_nI (n := 0) (N := 27) (by decide) (by decide)) dX8_isSet_11 ?_
    refine W.eq (g2 := F0 m 12 ls [.int (y7 0), .int 1, .int x0]) rfl ?_
    refine lv_ishl hx hb dX8_isSet_12 ?_
    refine lv_icmp_ge (tgt := 20) hx hb dX8_isSet_13 (by decide) (fun c_2 => ?_) (fun c_2 => ?_)
    · refine lv_iconst (v := 0) hx hb dX8_isSet_20 (by decide) ?_
      exact W.zret (ty := .boolean) (v := 0) hx hb hr (my_nz (by decide)) (fun t ht hW => ⟨0, rfl, (show f_X8_isSet y7 x0 = 0 from by rw [f_X8_isSet, if_neg c_1, if_pos c_2]).symm, ht⟩) (fun q hq => absurd hq List.not_mem_nil) dX8_isSet_21
    · refine lv_iconst (v := 1) hx hb dX8_isSet_16 (by decide) ?_
      refine lv_goto (tgt := 21) hx hb dX8_isSet_17 (by decide) ?_
      exact W.zret (ty := .boolean) (v := 1) hx hb hr (my_nz (by decide)) (fun t ht hW => ⟨1, rfl, (show f_X8_isSet y7 x0 = 1 from by rw [f_X8_isSet, if_neg c_1, if_neg c_2]).symm, ht⟩) (fun q hq => absurd hq List.not_mem_nil) dX8_isSet_21
theorem lp_inv {σ ρ : Type} {f : σ → σ ⊕ ρ} {d : ρ} {I : σ → Prop} {Q : ρ → Prop} (hd : Q d) (h : ∀ x, I x → Sum.elim I Q (f x)) : ∀ (n : Nat) (x : σ), I x → Q (lp f d n x)
  | 0, _, _ => hd
  | n + 1, x, hx => by
    have h1 := h x hx
    rw [lp]
    cases hf : f x with
    | inl y => rw [hf] at h1; exact lp_inv hd h n y h1
    | inr r => rw [hf] at h1; exact h1
theorem bit_01 (x y : Int32) : (x >>> y) &&& 1 = 0 ∨ (x >>> y) &&& 1 = 1 := by
  have h : vp_in (1 &&& (x >>> y)) 2 := ix_and (vp_in_nI (n := 1) (N := 2) (by decide) (by decide))
  rw [Int32.and_comm] at h
  obtain ⟨h1, h2⟩ := vp_in_iff.mp h
  have h3 : ((x >>> y) &&& 1).toInt = 0 ∨ ((x >>> y) &&& 1).toInt = 1 := by omega
  rcases h3 with h3 | h3
  · exact Or.inl (Int32.toInt_inj.mp (h3.trans (by decide)))
  · exact Or.inr (Int32.toInt_inj.mp (h3.trans (by decide)))
theorem ones_le (x : Int32) : 0 ≤ (f_X8_ones x).toInt ∧ (f_X8_ones x).toInt ≤ 8 := by
  unfold f_X8_ones
  show 0 ≤ (lp (ρ := Int32 × Int32) _ _ _ _).1.toInt ∧ (lp (ρ := Int32 × Int32) _ _ _ _).1.toInt ≤ 8
  refine lp_inv (I := fun z : Int32 × Int32 => 0 ≤ z.1.toInt ∧ z.1.toInt ≤ z.2.toInt ∧ z.2.toInt ≤ 8) (Q := fun z : Int32 × Int32 => 0 ≤ z.1.toInt ∧ z.1.toInt ≤ 8) (by decide) ?_ _ _ (by decide)
  intro z ⟨h1, h2, h3⟩
  unfold f_X8_ones_st
  split
  · exact ⟨h1, Int.le_trans h2 h3⟩
  · rename_i h4
    have h5 : ¬ (8 : Int32).toInt ≤ z.2.toInt := fun h => h4 (Int32.le_iff_toInt_le.mpr h)
    have e8 : (8 : Int32).toInt = 8 := by decide
    have e1 : (1 : Int32).toInt = 1 := by decide
    have e0 : (0 : Int32).toInt = 0 := by decide
    have k1 : (z.2 + 1).toInt = z.2.toInt + 1 := by rw [i32_add (by rw [e1]; omega) (by rw [e1]; omega), e1]
    have k2 : (z.1 + ((x >>> (z.2 &&& 31)) &&& 1)).toInt = z.1.toInt ∨ (z.1 + ((x >>> (z.2 &&& 31)) &&& 1)).toInt = z.1.toInt + 1 := by
      rcases bit_01 x (z.2 &&& 31) with h | h
      · rw [h, i32_add (by rw [e0]; omega) (by rw [e0]; omega), e0]; omega
      · rw [h, i32_add (by rw [e1]; omega) (by rw [e1]; omega), e1]; omega
    refine ⟨?_, ?_, ?_⟩
    · show 0 ≤ (z.1 + ((x >>> (z.2 &&& 31)) &&& 1)).toInt; omega
    · show (z.1 + ((x >>> (z.2 &&& 31)) &&& 1)).toInt ≤ (z.2 + 1).toInt; omega
    · show (z.2 + 1).toInt ≤ 8; omega
theorem i32_mx : (2147483647 : Int32).toInt = 2147483647 := by decide
theorem ones_b (x : Int32) : f_X8_ones x < 2147483647 := by
  have := ones_le x
  exact Int32.lt_iff_toInt_lt.mpr (by rw [i32_mx]; omega)
theorem ones_b2 (x y : Int32) : (f_X8_ones x) - (f_X8_ones y) < 2147483647 := by
  have h1 := ones_le x
  have h2 := ones_le y
  have e2 : ((f_X8_ones x) - (f_X8_ones y)).toInt = (f_X8_ones x).toInt - (f_X8_ones y).toInt := by
    rw [Int32.toInt_sub]
    show Int.bmod _ 4294967296 = _
    rw [Int.bmod_eq_of_le (by omega) (by omega)]
  exact Int32.lt_iff_toInt_lt.mpr (by rw [i32_mx]; omega)
theorem ones_b1 (x : Int32) : (f_X8_ones x) - 1 < 2147483647 := by
  have h1 := ones_le x
  have e1 : (1 : Int32).toInt = 1 := by decide
  have e2 : ((f_X8_ones x) - 1).toInt = (f_X8_ones x).toInt - 1 := by
    rw [Int32.toInt_sub, e1]
    show Int.bmod _ 4294967296 = _
    rw [Int.bmod_eq_of_le (by omega) (by omega)]
  exact Int32.lt_iff_toInt_lt.mpr (by rw [i32_mx]; omega)
theorem ones_9 (x : Int32) : ∃ k : Nat, k < 9 ∧ f_X8_ones x = nI k := by
  have h := ones_le x
  refine ⟨(f_X8_ones x).toInt.toNat, by omega, ?_⟩
  exact Int32.toInt_inj.mp (by rw [nI_toInt (by omega)]; omega)
theorem fac8_nz (x : Int32) : ¬ f_X8_factorial (f_X8_ones x) = 0 := by
  obtain ⟨k, hk, e⟩ := ones_9 x
  rw [e]
  have h : ∀ k : Nat, k < 9 → ¬ f_X8_factorial (nI k) = 0 := by decide +kernel
  exact h k hk
theorem my_thr_lit {k r u r0 : Int32} (hr : f_X8_throwsAt k = (r0, k)) (h : f_X8_throwsAt k = (r, u)) : r0 = r ∧ k = u := by
  rw [hr] at h
  exact ⟨congrArg Prod.fst h, congrArg Prod.snd h⟩
theorem im_0 {s : Nat → Int32} {x : Int32} (h : ¬ f_X8_isMember s x = 0) : ¬ x < 0 := by
  intro h0
  apply h
  unfold f_X8_isMember
  rw [if_pos h0]
theorem im_1 {s : Nat → Int32} {x : Int32} (h : ¬ f_X8_isMember s x = 0) : x < s 0 := by
  have h0 := im_0 h
  unfold f_X8_isMember at h
  rw [if_neg h0] at h
  by_cases h1 : s 0 ≤ x
  · rw [if_pos h1] at h; exact absurd rfl h
  · exact Int32.not_le.mp h1
theorem ir_0 {s : Nat → Int32} {x : Int32} (h : ¬ f_X8_isRule s x = 0) : ¬ x < 0 := by
  intro h0
  apply h
  unfold f_X8_isRule
  rw [if_pos h0]
theorem ir_1 {s : Nat → Int32} {x : Int32} (h : ¬ f_X8_isRule s x = 0) : x < s 2 := by
  have h0 := ir_0 h
  unfold f_X8_isRule at h
  rw [if_neg h0] at h
  by_cases h1 : s 2 ≤ x
  · rw [if_pos h1] at h; exact absurd rfl h
  · exact Int32.not_le.mp h1
theorem in_0 {v a b : Int32} (h : ¬ f_X8_in v a b = 0) : ¬ v < a := by
  intro h0
  apply h
  unfold f_X8_in
  rw [if_pos h0]
theorem in_1 {v a b : Int32} (h : ¬ f_X8_in v a b = 0) : ¬ b < v := by
  intro h1
  apply h
  have h0 := in_0 h
  unfold f_X8_in
  rw [if_neg h0, if_pos h1]
