theorem hd_X4_at_S : yX4_at.cls ≠ "java/lang/invoke/MethodHandle" ∧ yX4_at.cls ≠ "java/lang/invoke/VarHandle" ∧ (parseMethodDescriptor yX4_at.desc).map (fun d => d.parameters.length) = some 1 := by decide +kernel
theorem hd_X4_at_V : yX4_at.cls = RX4 ∧ yX4_at.cls ≠ "java/lang/invoke/MethodHandle" ∧ yX4_at.cls ≠ "java/lang/invoke/VarHandle" ∧ (parseMethodDescriptor yX4_at.desc).map (fun d => d.parameters.length) = some 1 := ⟨rfl, hd_X4_at_S⟩
set_option maxHeartbeats 400000 in
set_option maxRecDepth 100000 in
theorem c_X4_at (l : Launch) (D : va_G) (cy : Nat → ClassId) (g : Nat → Nat) (B : Nat) (a0 : Nat) (a1 : Nat) (n : Nat) (f : (Nat → Int32)) (x0 : Int32) (hn : n < 2 ^ 31) : Met l yX4_at wsX4_at ({ frames := 0, cells := 0, slots := 0, locals := 0 }) (rdP D cy g B (wRow cy a0 a1 n f) [.ref a0, .int x0]) (vp_Si (fun r => r = rAt n f x0)) 0 0 (fun _ => False) := by
  refine Met.ofW (cc := cX4_at) (maxL := 2) (ret := (some .int)) (by decide) rfl ?_
  intro p e s m args below meth c s₁ BB hml hv
  obtain ⟨rfl, hP, hK0⟩ := hv
  have hx := BB.exec
  have hb := BB.bytes
  have hr := BB.returns
  have hts := atoms_spec (ws := wsX4_at) BB.pre
  have hown : s.vm.findClass RX4 = some m.cls := findClass_of_methodNamed BB.named
  have hlocks := BB.notSynchronized
  have S := my_fix hx hb hml hown hts
  have inX4 : ∀ w ∈ wsX40, w ∈ wsX4_at := fun w h => List.mem_cons_of_mem _ (List.mem_append_right _ h)
  have hS : va_S (fun q => B ≤ q) s.heap s.heap [] := va_S.rf
  have hAB : ∀ q : Nat, (fun q => B ≤ q) q → B ≤ q := fun _ h => h
  have hl := lv_entry ([.ref a0, .int x0]) (n := 2) (Nat.le_of_ble_eq_true rfl)
  rw [lg_entry_eq]
  generalize (lg_sl ([.ref a0, .int x0]) ++ List.replicate (2 - (lg_sl ([.ref a0, .int x0])).length) Slot.unset).toArray = ls at hl ⊢
  have hl : lv_has ls 2 [(0, .ref a0), (1, .int x0)] := hl
  refine lv_iload_n hx hb dX4_at_0 rfl (lv_at hl 1 rfl) ?_
  refine lv_if_lt (tgt := 22) hx hb dX4_at_1 (by decide) (fun c_1 => ?_) (fun c_1 => ?_)
  · refine lv_iconst (v := 0) hx hb dX4_at_22 (by decide) ?_
    exact W.iret hx hb hr (fun t ht hW => ⟨0, rfl, (show rAt n f x0 = 0 from by rw [rAt, if_pos c_1]).symm, ht⟩) (fun q hq => absurd hq List.not_mem_nil) dX4_at_23
  · refine lv_iload_n hx hb dX4_at_4 rfl (lv_at hl 1 rfl) ?_
    refine lv_aload_n hx hb dX4_at_5 rfl (lv_at hl 0 rfl) ?_
    refine va_get (D := D) (ci := 2) (v := .ref a1) (C := RX4) (T := TX4) (N := 1) hx hb hts inX4 hown hK0.1 hP 0 rfl rfl 0 (by decide) (hts (.fieldLink RX4 7 "PivotChamber$Row" "cells" "[I") (List.mem_of_getElem? (i := 1) rfl)) (fun _ h9 => h9) rfl dX4_at_6 ?_
    refine va_alen hx hb hK0.1 hP 1 0 rfl rfl (v := (nI n)) rfl dX4_at_9 ?_
    refine lv_icmp_ge (tgt := 22) hx hb dX4_at_10 (by decide) (fun c_2 => ?_) (fun c_2 => ?_)
    · refine lv_iconst (v := 0) hx hb dX4_at_22 (by decide) ?_
      exact W.iret hx hb hr (fun t ht hW => ⟨0, rfl, (show rAt n f x0 = 0 from by rw [rAt, if_neg c_1, if_pos c_2]).symm, ht⟩) (fun q hq => absurd hq List.not_mem_nil) dX4_at_23
    · refine lv_aload_n hx hb dX4_at_13 rfl (lv_at hl 0 rfl) ?_
      refine va_get (D := D) (ci := 2) (v := .ref a1) (C := RX4) (T := TX4) (N := 1) hx hb hts inX4 hown hK0.1 hP 0 rfl rfl 0 (by decide) (hts (.fieldLink RX4 7 "PivotChamber$Row" "cells" "[I") (List.mem_of_getElem? (i := 1) rfl)) (fun _ h9 => h9) rfl dX4_at_14 ?_
      refine lv_iload_n hx hb dX4_at_17 rfl (lv_at hl 1 rfl) ?_
      refine va_iald hx hb hK0.1 hP 1 0 rfl rfl (vin_cmp hn c_1 c_2) dX4_at_18 ?_
      refine lv_goto (tgt := 23) hx hb dX4_at_19 (by decide) ?_
      exact W.iret hx hb hr (fun t ht hW => ⟨(f x0.toNatClampNeg), rfl, (show rAt n f x0 = (f x0.toNatClampNeg) from by rw [rAt, if_neg c_1, if_neg c_2]).symm, ht⟩) (fun q hq => absurd hq List.not_mem_nil) dX4_at_23
theorem hd_X4_put_S : yX4_put.cls ≠ "java/lang/invoke/MethodHandle" ∧ yX4_put.cls ≠ "java/lang/invoke/VarHandle" ∧ (parseMethodDescriptor yX4_put.desc).map (fun d => d.parameters.length) = some 2 := by decide +kernel
theorem hd_X4_put_V : yX4_put.cls = RX4 ∧ yX4_put.cls ≠ "java/lang/invoke/MethodHandle" ∧ yX4_put.cls ≠ "java/lang/invoke/VarHandle" ∧ (parseMethodDescriptor yX4_put.desc).map (fun d => d.parameters.length) = some 2 := ⟨rfl, hd_X4_put_S⟩
set_option maxHeartbeats 400000 in
set_option maxRecDepth 100000 in
theorem c_X4_put (l : Launch) (D : va_G) (cy : Nat → ClassId) (g : Nat → Nat) (B : Nat) (a0 : Nat) (a1 : Nat) (n : Nat) (f : (Nat → Int32)) (x0 : Int32) (x1 : Int32) (hn : n < 2 ^ 31) : Met l yX4_put wsX4_put ({ frames := 0, cells := 0, slots := 0, locals := 0 }) (muP D cy g B (wRow cy a0 a1 n f) [.ref a0, .int x0, .int x1]) (va_Qv (fun (u : (Nat → Int32)) => rPut n f x0 x1 = u) (fun u t => va_P D vwCl (wRow cy a0 a1 n u) t.heap) (muA (wRow cy a0 a1 n f))) 0 0 (muA (wRow cy a0 a1 n f)) := by
  refine Met.ofW (cc := cX4_put) (maxL := 3) (ret := none) (by decide) rfl ?_
  intro p e s m args below meth c s₁ BB hml hv
  obtain ⟨rfl, hP, hK0, hD0⟩ := hv
  have hx := BB.exec
  have hb := BB.bytes
  have hr := BB.returns
  have hts := atoms_spec (ws := wsX4_put) BB.pre
  have hown : s.vm.findClass RX4 = some m.cls := findClass_of_methodNamed BB.named
  have hlocks := BB.notSynchronized
  have S := my_fix hx hb hml hown hts
  have inX4 : ∀ w ∈ wsX40, w ∈ wsX4_put := fun w h => List.mem_cons_of_mem _ (List.mem_append_right _ h)
  have hAB := muB hD0
  have hD := muD hD0
  generalize hAe : muA (wRow cy a0 a1 n f) = A at hAB hD ⊢
  have hS : va_S A s.heap s.heap [] := va_S.rf
  have hl := lv_entry ([.ref a0, .int x0, .int x1]) (n := 3) (Nat.le_of_ble_eq_true rfl)
  rw [lg_entry_eq]
  generalize (lg_sl ([.ref a0, .int x0, .int x1]) ++ List.replicate (3 - (lg_sl ([.ref a0, .int x0, .int x1])).length) Slot.unset).toArray = ls at hl ⊢
  have hl : lv_has ls 3 [(0, .ref a0), (1, .int x0), (2, .int x1)] := hl
  refine lv_iload_n hx hb dX4_put_0 rfl (lv_at hl 1 rfl) ?_
  refine lv_if_lt (tgt := 20) hx hb dX4_put_1 (by decide) (fun c_1 => ?_) (fun c_1 => ?_)
  · exact W.vret hx hb hr (fun t ht hW => ⟨⟨f, rfl, (show rPut n f x0 x1 = f from by rw [rPut, if_pos c_1]), by show va_P D vwCl _ t.heap; rw [ht]; exact hP⟩, hS.F ht⟩) hS.2.2 dX4_put_20
  · refine lv_iload_n hx hb dX4_put_4 rfl (lv_at hl 1 rfl) ?_
    refine lv_aload_n hx hb dX4_put_5 rfl (lv_at hl 0 rfl) ?_
    refine va_get (D := D) (ci := 2) (v := .ref a1) (C := RX4) (T := TX4) (N := 1) hx hb hts inX4 hown hK0.1 hP 0 rfl rfl 0 (by decide) (hts (.fieldLink RX4 7 "PivotChamber$Row" "cells" "[I") (List.mem_of_getElem? (i := 1) rfl)) (fun _ h9 => h9) rfl dX4_put_6 ?_
    refine va_alen hx hb hK0.1 hP 1 0 rfl rfl (v := (nI n)) rfl dX4_put_9 ?_
    refine lv_icmp_ge (tgt := 20) hx hb dX4_put_10 (by decide) (fun c_2 => ?_) (fun c_2 => ?_)
    · exact W.vret hx hb hr (fun t ht hW => ⟨⟨f, rfl, (show rPut n f x0 x1 = f from by rw [rPut, if_neg c_1, if_pos c_2]), by show va_P D vwCl _ t.heap; rw [ht]; exact hP⟩, hS.F ht⟩) hS.2.2 dX4_put_20
    · refine lv_aload_n hx hb dX4_put_13 rfl (lv_at hl 0 rfl) ?_
      refine va_get (D := D) (ci := 2) (v := .ref a1) (C := RX4) (T := TX4) (N := 1) hx hb hts inX4 hown hK0.1 hP 0 rfl rfl 0 (by decide) (hts (.fieldLink RX4 7 "PivotChamber$Row" "cells" "[I") (List.mem_of_getElem? (i := 1) rfl)) (fun _ h9 => h9) rfl dX4_put_14 ?_
      refine lv_iload_n hx hb dX4_put_17 rfl (lv_at hl 1 rfl) ?_
      refine lv_iload_n hx hb dX4_put_18 rfl (lv_at hl 2 rfl) ?_
      refine va_iast hx hb hK0.1 hP hD hS 1 0 rfl rfl (vin_cmp hn c_1 c_2) dX4_put_19 (fun H locs hP hD hS => ?_)
      have hP : va_P D vwCl (wRow cy a0 a1 n (upd f x0.toNatClampNeg x1)) H := hP
      have hD : va_D A (wRow cy a0 a1 n (upd f x0.toNatClampNeg x1)) := hD
      exact W.vret hx hb hr (fun t ht hW => ⟨⟨(upd f x0.toNatClampNeg x1), rfl, (show rPut n f x0 x1 = (upd f x0.toNatClampNeg x1) from by rw [rPut, if_neg c_1, if_neg c_2]), by show va_P D vwCl _ t.heap; rw [ht]; exact hP⟩, hS.F ht⟩) hS.2.2 dX4_put_20
theorem hd_X4_raise_S : yX4_raise.cls ≠ "java/lang/invoke/MethodHandle" ∧ yX4_raise.cls ≠ "java/lang/invoke/VarHandle" ∧ (parseMethodDescriptor yX4_raise.desc).map (fun d => d.parameters.length) = some 2 := by decide +kernel
theorem hd_X4_raise_V : yX4_raise.cls = RX4 ∧ yX4_raise.cls ≠ "java/lang/invoke/MethodHandle" ∧ yX4_raise.cls ≠ "java/lang/invoke/VarHandle" ∧ (parseMethodDescriptor yX4_raise.desc).map (fun d => d.parameters.length) = some 2 := ⟨rfl, hd_X4_raise_S⟩
set_option maxHeartbeats 400000 in
set_option maxRecDepth 100000 in
theorem c_X4_raise (l : Launch) (D : va_G) (cy : Nat → ClassId) (g : Nat → Nat) (B : Nat) (a0 : Nat) (a1 : Nat) (n : Nat) (f : (Nat → Int32)) (x0 : Int32) (x1 : Int32) (hn : n < 2 ^ 31) : Met l yX4_raise wsX4_raise ({ frames := 0, cells := 0, slots := 0, locals := 0 }) (muP D cy g B (wRow cy a0 a1 n f) [.ref a0, .int x0, .int x1]) (va_Qv (fun (u : (Nat → Int32)) => rRaise n f x0 x1 = u) (fun u t => va_P D vwCl (wRow cy a0 a1 n u) t.heap) (muA (wRow cy a0 a1 n f))) 0 0 (muA (wRow cy a0 a1 n f)) := by
  refine Met.ofW (cc := cX4_raise) (maxL := 3) (ret := none) (by decide) rfl ?_
  intro p e s m args below meth c s₁ BB hml hv
  obtain ⟨rfl, hP, hK0, hD0⟩ := hv
  have hx := BB.exec
  have hb := BB.bytes
  have hr := BB.returns
  have hts := atoms_spec (ws := wsX4_raise) BB.pre
  have hown : s.vm.findClass RX4 = some m.cls := findClass_of_methodNamed BB.named
  have hlocks := BB.notSynchronized
  have S := my_fix hx hb hml hown hts
  have inX4 : ∀ w ∈ wsX40, w ∈ wsX4_raise := fun w h => List.mem_cons_of_mem _ (List.mem_append_right _ h)
  have hAB := muB hD0
  have hD := muD hD0
  generalize hAe : muA (wRow cy a0 a1 n f) = A at hAB hD ⊢
  have hS : va_S A s.heap s.heap [] := va_S.rf
  have hl := lv_entry ([.ref a0, .int x0, .int x1]) (n := 3) (Nat.le_of_ble_eq_true rfl)
  rw [lg_entry_eq]
  generalize (lg_sl ([.ref a0, .int x0, .int x1]) ++ List.replicate (3 - (lg_sl ([.ref a0, .int x0, .int x1])).length) Slot.unset).toArray = ls at hl ⊢
  have hl : lv_has ls 3 [(0, .ref a0), (1, .int x0), (2, .int x1)] := hl
  refine lv_iload_n hx hb dX4_raise_0 rfl (lv_at hl 1 rfl) ?_
  refine lv_if_lt (tgt := 23) hx hb dX4_raise_1 (by decide) (fun c_1 => ?_) (fun c_1 => ?_)
  · exact W.vret hx hb hr (fun t ht hW => ⟨⟨f, rfl, (show rRaise n f x0 x1 = f from by rw [rRaise, if_pos c_1]), by show va_P D vwCl _ t.heap; rw [ht]; exact hP⟩, hS.F ht⟩) hS.2.2 dX4_raise_23
  · refine lv_iload_n hx hb dX4_raise_4 rfl (lv_at hl 1 rfl) ?_
    refine lv_aload_n hx hb dX4_raise_5 rfl (lv_at hl 0 rfl) ?_
    refine va_get (D := D) (ci := 2) (v := .ref a1) (C := RX4) (T := TX4) (N := 1) hx hb hts inX4 hown hK0.1 hP 0 rfl rfl 0 (by decide) (hts (.fieldLink RX4 7 "PivotChamber$Row" "cells" "[I") (List.mem_of_getElem? (i := 1) rfl)) (fun _ h9 => h9) rfl dX4_raise_6 ?_
    refine va_alen hx hb hK0.1 hP 1 0 rfl rfl (v := (nI n)) rfl dX4_raise_9 ?_
    refine lv_icmp_ge (tgt := 23) hx hb dX4_raise_10 (by decide) (fun c_2 => ?_) (fun c_2 => ?_)
    · exact W.vret hx hb hr (fun t ht hW => ⟨⟨f, rfl, (show rRaise n f x0 x1 = f from by rw [rRaise, if_neg c_1, if_pos c_2]), by show va_P D vwCl _ t.heap; rw [ht]; exact hP⟩, hS.F ht⟩) hS.2.2 dX4_raise_23
    · refine lv_aload_n hx hb dX4_raise_13 rfl (lv_at hl 0 rfl) ?_
      refine va_get (D := D) (ci := 2) (v := .ref a1) (C := RX4) (T := TX4) (N := 1) hx hb hts inX4 hown hK0.1 hP 0 rfl rfl 0 (by decide) (hts (.fieldLink RX4 7 "PivotChamber$Row" "cells" "[I") (List.mem_of_getElem? (i := 1) rfl)) (fun _ h9 => h9) rfl dX4_raise_14 ?_
      refine lv_iload_n hx hb dX4_raise_17 rfl (lv_at hl 1 rfl) ?_
      refine lv_dup2_11 hx hb dX4_raise_18 rfl rfl ?_
      refine va_iald hx hb hK0.1 hP 1 0 rfl rfl (vin_cmp hn c_1 c_2) dX4_raise_19 ?_
      refine lv_iload_n hx hb dX4_raise_20 rfl (lv_at hl 2 rfl) ?_
      refine lv_iadd hx hb dX4_raise_21 ?_
      refine va_iast hx hb hK0.1 hP hD hS 1 0 rfl rfl (vin_cmp hn c_1 c_2) dX4_raise_22 (fun H locs hP hD hS => ?_)
      have hP : va_P D vwCl (wRow cy a0 a1 n (upd f x0.toNatClampNeg ((f x0.toNatClampNeg) + x1))) H := hP
      have hD : va_D A (wRow cy a0 a1 n (upd f x0.toNatClampNeg ((f x0.toNatClampNeg) + x1))) := hD
      exact W.vret hx hb hr (fun t ht hW => ⟨⟨(upd f x0.toNatClampNeg ((f x0.toNatClampNeg) + x1)), rfl, (show rRaise n f x0 x1 = (upd f x0.toNatClampNeg ((f x0.toNatClampNeg) + x1)) from by rw [rRaise, if_neg c_1, if_neg c_2]), by show va_P D vwCl _ t.heap; rw [ht]; exact hP⟩, hS.F ht⟩) hS.2.2 dX4_raise_23
theorem hd_X4_empty_S : yX4_empty.cls ≠ "java/lang/invoke/MethodHandle" ∧ yX4_empty.cls ≠ "java/lang/invoke/VarHandle" ∧ (parseMethodDescriptor yX4_empty.desc).map (fun d => d.parameters.length) = some 0 := by decide +kernel
theorem hd_X4_empty_V : yX4_empty.cls = RX4 ∧ yX4_empty.cls ≠ "java/lang/invoke/MethodHandle" ∧ yX4_empty.cls ≠ "java/lang/invoke/VarHandle" ∧ (parseMethodDescriptor yX4_empty.desc).map (fun d => d.parameters.length) = some 0 := ⟨rfl, hd_X4_empty_S⟩
def f_X4_empty_st (n : Nat) (i1_1 : Int32) (w0_2 : (Nat → Int32)) : (Int32 × (Nat → Int32)) ⊕ (Int32 × (Nat → Int32)) := (if (nI n) ≤ i1_1 then (.inr (i1_1, w0_2)) else (.inl ((i1_1 + 1), (upd w0_2 i1_1.toNatClampNeg 0))))
def f_X4_empty (n : Nat) (f : (Nat → Int32)) : (Nat → Int32) := (my_t2 (lp (fun (x : Int32 × (Nat → Int32)) => f_X4_empty_st n x.1 x.2) default ((((nI n) : Int32).toInt - (0 : Int32).toInt).toNat + 1) (0, f)) (fun (i1_1 : Int32) (w0_2 : (Nat → Int32)) => w0_2))
set_option maxHeartbeats 400000 in
set_option maxRecDepth 100000 in
theorem c_X4_empty (l : Launch) (D : va_G) (cy : Nat → ClassId) (g : Nat → Nat) (B : Nat) (a0 : Nat) (a1 : Nat) (n : Nat) (f : (Nat → Int32)) (hn : n < 2 ^ 31) : Met l yX4_empty wsX4_empty ({ frames := 0, cells := 0, slots := 0, locals := 0 }) (muP D cy g B (wRow cy a0 a1 n f) [.ref a0]) (va_Qv (fun (u : (Nat → Int32)) => f_X4_empty n f = u) (fun u t => va_P D vwCl (wRow cy a0 a1 n u) t.heap) (muA (wRow cy a0 a1 n f))) 0 0 (muA (wRow cy a0 a1 n f)) := by
  refine Met.ofW (cc := cX4_empty) (maxL := 2) (ret := none) (by decide) rfl ?_
  intro p e s m args below meth c s₁ BB hml hv
  obtain ⟨rfl, hP, hK0, hD0⟩ := hv
  have hx := BB.exec
  have hb := BB.bytes
  have hr := BB.returns
  have hts := atoms_spec (ws := wsX4_empty) BB.pre
  have hown : s.vm.findClass RX4 = some m.cls := findClass_of_methodNamed BB.named
  have hlocks := BB.notSynchronized
  have S := my_fix hx hb hml hown hts
  have inX4 : ∀ w ∈ wsX40, w ∈ wsX4_empty := fun w h => List.mem_cons_of_mem _ (List.mem_append_right _ h)
  have hAB := muB hD0
  have hD := muD hD0
  generalize hAe : muA (wRow cy a0 a1 n f) = A at hAB hD ⊢
  have hS : va_S A s.heap s.heap [] := va_S.rf
  have hl := lv_entry ([.ref a0]) (n := 2) (Nat.le_of_ble_eq_true rfl)
  rw [lg_entry_eq]
  generalize (lg_sl ([.ref a0]) ++ List.replicate (2 - (lg_sl ([.ref a0])).length) Slot.unset).toArray = ls at hl ⊢
  have hl : lv_has ls 2 [(0, .ref a0)] := hl
  refine lv_iconst (v := 0) hx hb dX4_empty_0 (by decide) ?_
  refine lv_istore_n (lv' := [(1, .int 0), (0, .ref a0)]) hx hb dX4_empty_1 rfl hl (by decide) rfl (fun ls hl => ?_)
  have cont0 : ∀ (i1_1 : Int32) (w0_2 : (Nat → Int32)), lp (fun (x : Int32 × (Nat → Int32)) => f_X4_empty_st n x.1 x.2) default ((((nI n) : Int32).toInt - (0 : Int32).toInt).toNat + 1) (0, f) = (i1_1, w0_2) → ¬ i1_1 < 0 → ∀ (H : Heap) (locs : List Loc), va_P D vwCl (wRow cy a0 a1 n w0_2) H → va_D A (wRow cy a0 a1 n w0_2) → va_S A s.heap H locs → ∀ ls : Array Slot, lv_has ls 2 [(0, .ref a0), (1, .int i1_1)] → W p l e (headSpec wsX4_empty ({ frames := 0, cells := 0, slots := 0, locals := 0 } : Room)).room s m ([.ref a0] : List Value).toArray below meth c H locs 0 0 (MQ below (va_Qv (fun (u : (Nat → Int32)) => f_X4_empty n f = u) (fun u t => va_P D vwCl (wRow cy a0 a1 n u) t.heap) A) ([.ref a0] : List Value).toArray s 0 0 A) (F0 m 24 ls []) := by
    intro i1_1 w0_2 hE0 hj0_0 H locs hP hD hS ls hl
    exact W.vret hx hb hr (fun t ht hW => ⟨⟨w0_2, rfl, (show f_X4_empty n f = w0_2 from by rw [f_X4_empty, hE0, my_t2_eq]), by show va_P D vwCl _ t.heap; rw [ht]; exact hP⟩, hS.F ht⟩) hS.2.2 dX4_empty_24
  have key : ∀ (nf : Nat) (i1_1 : Int32) (w0_2 : (Nat → Int32)), (((nI n) : Int32).toInt - (i1_1 : Int32).toInt).toNat < nf → lp (fun (x : Int32 × (Nat → Int32)) => f_X4_empty_st n x.1 x.2) default nf (i1_1, w0_2) = lp (fun (x : Int32 × (Nat → Int32)) => f_X4_empty_st n x.1 x.2) default ((((nI n) : Int32).toInt - (0 : Int32).toInt).toNat + 1) (0, f) → ¬ i1_1 < 0 → ∀ (H : Heap) (locs : List Loc), va_P D vwCl (wRow cy a0 a1 n w0_2) H → va_D A (wRow cy a0 a1 n w0_2) → va_S A s.heap H locs → ∀ ls : Array Slot, lv_has ls 2 [(0, .ref a0), (1, .int i1_1)] → W p l e (headSpec wsX4_empty ({ frames := 0, cells := 0, slots := 0, locals := 0 } : Room)).room s m ([.ref a0] : List Value).toArray below meth c H locs 0 0 (MQ below (va_Qv (fun (u : (Nat → Int32)) => f_X4_empty n f = u) (fun u t => va_P D vwCl (wRow cy a0 a1 n u) t.heap) A) ([.ref a0] : List Value).toArray s 0 0 A) (F0 m 2 ls []) := by
    intro n0
    induction n0 with
    | zero => intro i1_1 w0_2 hlt; exact absurd hlt (Nat.not_lt_zero _)
    | succ n0 ih0 =>
      intro i1_1 w0_2 hlt0 hF0 hi0_0 H locs hP hD hS ls hl
      refine lv_iload_n hx hb dX4_empty_2 rfl (lv_at hl 1 rfl) ?_
      refine lv_aload_n hx hb dX4_empty_3 rfl (lv_at hl 0 rfl) ?_
      refine va_get (D := D) (ci := 2) (v := .ref a1) (C := RX4) (T := TX4) (N := 1) hx hb hts inX4 hown hK0.1 hP 0 rfl rfl 0 (by decide) (hts (.fieldLink RX4 7 "PivotChamber$Row" "cells" "[I") (List.mem_of_getElem? (i := 1) rfl)) (fun _ h9 => h9) rfl dX4_empty_4 ?_
      refine va_alen hx hb hK0.1 hP 1 0 rfl rfl (v := (nI n)) rfl dX4_empty_7 ?_
      refine lv_icmp_ge (tgt := 24) hx hb dX4_empty_8 (by decide) (fun c_3 => ?_) (fun c_3 => ?_)
      · have hst : f_X4_empty_st n i1_1 w0_2 = .inr (i1_1, w0_2) := by rw [f_X4_empty_st, if_pos c_3]
        exact cont0 i1_1 w0_2 (lp_inr hst hF0) hi0_0 _ _ hP hD hS _ (lv_sub hl [0, 1] rfl)
      · refine lv_aload_n hx hb dX4_empty_11 rfl (lv_at hl 0 rfl) ?_
        refine va_get (D := D) (ci := 2) (v := .ref a1) (C := RX4) (T := TX4) (N := 1) hx hb hts inX4 hown hK0.1 hP 0 rfl rfl 0 (by decide) (hts (.fieldLink RX4 7 "PivotChamber$Row" "cells" "[I") (List.mem_of_getElem? (i := 1) rfl)) (fun _ h9 => h9) rfl dX4_empty_12 ?_
        refine lv_iload_n hx hb dX4_empty_15 rfl (lv_at hl 1 rfl) ?_
        refine lv_iconst (v := 0) hx hb dX4_empty_16 (by decide) ?_
        refine va_iast hx hb hK0.1 hP hD hS 1 0 rfl rfl (vin_cmp hn hi0_0 c_3) dX4_empty_17 (fun H locs hP hD hS => ?_)
        have hP : va_P D vwCl (wRow cy a0 a1 n (upd w0_2 i1_1.toNatClampNeg 0)) H := hP
        have hD : va_D A (wRow cy a0 a1 n (upd w0_2 i1_1.toNatClampNeg 0)) := hD
        refine lv_iinc (v := (i1_1 + 1)) (lv' := [(1, .int (i1_1 + 1)), (0, .ref a0)]) hx hb dX4_empty_18 hl (k := 1) rfl rfl (by decide) rfl (fun ls hl => ?_)
        refine lv_goto (tgt := 2) hx hb dX4_empty_21 (by decide) ?_
        have hst : f_X4_empty_st n i1_1 w0_2 = .inl ((i1_1 + 1), (upd w0_2 i1_1.toNatClampNeg 0)) := by rw [f_X4_empty_st, if_neg c_3]
        have hmu : (((nI n) : Int32).toInt - ((i1_1 + 1) : Int32).toInt).toNat < (((nI n) : Int32).toInt - (i1_1 : Int32).toInt).toNat := mu_up c_3
        exact ih0 (i1_1 + 1) (upd w0_2 i1_1.toNatClampNeg 0) (Nat.lt_of_lt_of_le hmu (Nat.le_of_lt_succ hlt0)) (lp_inl hst hF0) (nn_up hi0_0 c_3) _ _ hP hD hS _ (lv_sub hl [1, 0] rfl)
  exact key ((((nI n) : Int32).toInt - (0 : Int32).toInt).toNat + 1) 0 f (Nat.lt_succ_self _) rfl (by decide) _ _ hP hD hS _ (lv_sub hl [1, 0] rfl)
theorem hd_X4_copyFrom_S : yX4_copyFrom.cls ≠ "java/lang/invoke/MethodHandle" ∧ yX4_copyFrom.cls ≠ "java/lang/invoke/VarHandle" ∧ (parseMethodDescriptor yX4_copyFrom.desc).map (fun d => d.parameters.length) = some 1 := by decide +kernel
theorem hd_X4_copyFrom_V : yX4_copyFrom.cls = RX4 ∧ yX4_copyFrom.cls ≠ "java/lang/invoke/MethodHandle" ∧ yX4_copyFrom.cls ≠ "java/lang/invoke/VarHandle" ∧ (parseMethodDescriptor yX4_copyFrom.desc).map (fun d => d.parameters.length) = some 1 := ⟨rfl, hd_X4_copyFrom_S⟩
def f_X4_copyFrom_st (n : Nat) (h : (Nat → Int32)) (i2_1 : Int32) (w0_2 : (Nat → Int32)) : (Int32 × (Nat → Int32)) ⊕ (Int32 × (Nat → Int32)) := (if (nI n) ≤ i2_1 then (.inr (i2_1, w0_2)) else (.inl ((i2_1 + 1), (upd w0_2 i2_1.toNatClampNeg (rAt n h i2_1)))))
def f_X4_copyFrom (n : Nat) (f : (Nat → Int32)) (h : (Nat → Int32)) : (Nat → Int32) := (my_t2 (lp (fun (x : Int32 × (Nat → Int32)) => f_X4_copyFrom_st n h x.1 x.2) default ((((nI n) : Int32).toInt - (0 : Int32).toInt).toNat + 1) (0, f)) (fun (i2_1 : Int32) (w0_2 : (Nat → Int32)) => w0_2))
set_option maxHeartbeats 400000 in
set_option maxRecDepth 100000 in
theorem c_X4_copyFrom (l : Launch) (D : va_G) (cy : Nat → ClassId) (g : Nat → Nat) (B : Nat) (a0 : Nat) (a1 : Nat) (b0 : Nat) (b1 : Nat) (n : Nat) (f : (Nat → Int32)) (h : (Nat → Int32)) (hn : n < 2 ^ 31) : Met l yX4_copyFrom wsX4_copyFrom ({ frames := 1, cells := 0, slots := 0, locals := 21 }) (muP D cy g B (List.flatten [(wRow cy a0 a1 n f), (wRow cy b0 b1 n h)]) [.ref a0, .ref b0]) (va_Qv (fun (u : (Nat → Int32)) => f_X4_copyFrom n f h = u) (fun u t => va_P D vwCl (List.flatten [(wRow cy a0 a1 n u), (wRow cy b0 b1 n h)]) t.heap) (muA (List.flatten [(wRow cy a0 a1 n f), (wRow cy b0 b1 n h)]))) 0 0 (muA (List.flatten [(wRow cy a0 a1 n f), (wRow cy b0 b1 n h)])) := by
  refine Met.ofW (cc := cX4_copyFrom) (maxL := 3) (ret := none) (by decide) rfl ?_
  intro p e s m args below meth c s₁ BB hml hv
  obtain ⟨rfl, hP, hK0, hD0⟩ := hv
  have hx := BB.exec
  have hb := BB.bytes
  have hr := BB.returns
  have hts := atoms_spec (ws := wsX4_copyFrom) BB.pre
  have hown : s.vm.findClass RX4 = some m.cls := findClass_of_methodNamed BB.named
  have hlocks := BB.notSynchronized
  have S := my_fix hx hb hml hown hts
  have inX4 : ∀ w ∈ wsX40, w ∈ wsX4_copyFrom := fun w h => List.mem_cons_of_mem _ (List.mem_append_right _ h)
  have hAB := muB hD0
  have hD := muD hD0
  generalize hAe : muA (List.flatten [(wRow cy a0 a1 n f), (wRow cy b0 b1 n h)]) = A at hAB hD ⊢
  have hS : va_S A s.heap s.heap [] := va_S.rf
  have hl := lv_entry ([.ref a0, .ref b0]) (n := 3) (Nat.le_of_ble_eq_true rfl)
  rw [lg_entry_eq]
  generalize (lg_sl ([.ref a0, .ref b0]) ++ List.replicate (3 - (lg_sl ([.ref a0, .ref b0])).length) Slot.unset).toArray = ls at hl ⊢
  have hl : lv_has ls 3 [(0, .ref a0), (1, .ref b0)] := hl
  refine lv_iconst (v := 0) hx hb dX4_copyFrom_0 (by decide) ?_
  refine lv_istore_n (lv' := [(2, .int 0), (0, .ref a0), (1, .ref b0)]) hx hb dX4_copyFrom_1 rfl hl (by decide) rfl (fun ls hl => ?_)
  have cont0 : ∀ (i2_1 : Int32) (w0_2 : (Nat → Int32)), lp (fun (x : Int32 × (Nat → Int32)) => f_X4_copyFrom_st n h x.1 x.2) default ((((nI n) : Int32).toInt - (0 : Int32).toInt).toNat + 1) (0, f) = (i2_1, w0_2) → ¬ i2_1 < 0 → ∀ (H : Heap) (locs : List Loc), va_P D vwCl (List.flatten [(wRow cy a0 a1 n w0_2), (wRow cy b0 b1 n h)]) H → va_D A (List.flatten [(wRow cy a0 a1 n w0_2), (wRow cy b0 b1 n h)]) → va_S A s.heap H locs → ∀ ls : Array Slot, lv_has ls 3 [(0, .ref a0), (1, .ref b0), (2, .int i2_1)] → W p l e (headSpec wsX4_copyFrom ({ frames := 1, cells := 0, slots := 0, locals := 21 } : Room)).room s m ([.ref a0, .ref b0] : List Value).toArray below meth c H locs 0 0 (MQ below (va_Qv (fun (u : (Nat → Int32)) => f_X4_copyFrom n f h = u) (fun u t => va_P D vwCl (List.flatten [(wRow cy a0 a1 n u), (wRow cy b0 b1 n h)]) t.heap) A) ([.ref a0, .ref b0] : List Value).toArray s 0 0 A) (F0 m 28 ls []) := by
    intro i2_1 w0_2 hE0 hj0_0 H locs hP hD hS ls hl
    exact W.vret hx hb hr (fun t ht hW => ⟨⟨w0_2, rfl, (show f_X4_copyFrom n f h = w0_2 from by rw [f_X4_copyFrom, hE0, my_t2_eq]), by show va_P D vwCl _ t.heap; rw [ht]; exact hP⟩, hS.F ht⟩) hS.2.2 dX4_copyFrom_28
  have key : ∀ (nf : Nat) (i2_1 : Int32) (w0_2 : (Nat → Int32)), (((nI n) : Int32).toInt - (i2_1 : Int32).toInt).toNat < nf → lp (fun (x : Int32 × (Nat → Int32)) => f_X4_copyFrom_st n h x.1 x.2) default nf (i2_1, w0_2) = lp (fun (x : Int32 × (Nat → Int32)) => f_X4_copyFrom_st n h x.1 x.2) default ((((nI n) : Int32).toInt - (0 : Int32).toInt).toNat + 1) (0, f) → ¬ i2_1 < 0 → ∀ (H : Heap) (locs : List Loc), va_P D vwCl (List.flatten [(wRow cy a0 a1 n w0_2), (wRow cy b0 b1 n h)]) H → va_D A (List.flatten [(wRow cy a0 a1 n w0_2), (wRow cy b0 b1 n h)]) → va_S A s.heap H locs → ∀ ls : Array Slot, lv_has ls 3 [(0, .ref a0), (1, .ref b0), (2, .int i2_1)] → W p l e (headSpec wsX4_copyFrom ({ frames := 1, cells := 0, slots := 0, locals := 21 } : Room)).room s m ([.ref a0, .ref b0] : List Value).toArray below meth c H locs 0 0 (MQ below (va_Qv (fun (u : (Nat → Int32)) => f_X4_copyFrom n f h = u) (fun u t => va_P D vwCl (List.flatten [(wRow cy a0 a1 n u), (wRow cy b0 b1 n h)]) t.heap) A) ([.ref a0, .ref b0] : List Value).toArray s 0 0 A) (F0 m 2 ls []) := by
    intro n0
    induction n0 with
    | zero => intro i2_1 w0_2 hlt; exact absurd hlt (Nat.not_lt_zero _)
    | succ n0 ih0 =>
      intro i2_1 w0_2 hlt0 hF0 hi0_0 H locs hP hD hS ls hl
      refine lv_iload_n hx hb dX4_copyFrom_2 rfl (lv_at hl 2 rfl) ?_
      refine lv_aload_n hx hb dX4_copyFrom_3 rfl (lv_at hl 0 rfl) ?_
      refine va_get (D := D) (ci := 2) (v := .ref a1) (C := RX4) (T := TX4) (N := 1) hx hb hts inX4 hown hK0.1 hP 0 rfl rfl 0 (by decide) (hts (.fieldLink RX4 7 "PivotChamber$Row" "cells" "[I") (List.mem_of_getElem? (i := 1) rfl)) (fun _ h9 => h9) rfl dX4_copyFrom_4 ?_
      refine va_alen hx hb hK0.1 hP 1 0 rfl rfl (v := (nI n)) rfl dX4_copyFrom_7 ?_
      refine lv_icmp_ge (tgt := 28) hx hb dX4_copyFrom_8 (by decide) (fun c_3 => ?_) (fun c_3 => ?_)
      · have hst : f_X4_copyFrom_st n h i2_1 w0_2 = .inr (i2_1, w0_2) := by rw [f_X4_copyFrom_st, if_pos c_3]
        exact cont0 i2_1 w0_2 (lp_inr hst hF0) hi0_0 _ _ hP hD hS _ (lv_sub hl [0, 1, 2] rfl)
      · refine lv_aload_n hx hb dX4_copyFrom_11 rfl (lv_at hl 0 rfl) ?_
        refine va_get (D := D) (ci := 2) (v := .ref a1) (C := RX4) (T := TX4) (N := 1) hx hb hts inX4 hown hK0.1 hP 0 rfl rfl 0 (by decide) (hts (.fieldLink RX4 7 "PivotChamber$Row" "cells" "[I") (List.mem_of_getElem? (i := 1) rfl)) (fun _ h9 => h9) rfl dX4_copyFrom_12 ?_
        refine lv_iload_n hx hb dX4_copyFrom_15 rfl (lv_at hl 2 rfl) ?_
        refine lv_aload_n hx hb dX4_copyFrom_16 rfl (lv_at hl 1 rfl) ?_
        refine lv_iload_n hx hb dX4_copyFrom_17 rfl (lv_at hl 2 rfl) ?_
        refine rd_goi (va_runV (C := RX4) (As := [.int i2_1]) (rest := [.int i2_1, .ref a1]) S (c_X4_at l D cy g B b0 b1 n h i2_1 hn) (cwV 1 hts gX4_copyFrom_X4_at rfl rfl rfl hd_X4_at_V ⟨Nat.le_of_ble_eq_true rfl, Nat.le_of_ble_eq_true rfl⟩) ⟨rdP_blind, va_recv hK0.1 hP (ci := 2) (q0 := 2) rfl rfl, my_preV hK0 hS hAB hP [2, 3] rfl⟩ rfl rfl hl.1 rfl (lv_room (Nat.le_of_ble_eq_true rfl)) dX4_copyFrom_18 ⟨Nat.zero_le _, Nat.zero_le _⟩) ?_
        refine va_iast hx hb hK0.1 hP hD hS 1 0 rfl rfl (vin_cmp hn hi0_0 c_3) dX4_copyFrom_21 (fun H locs hP hD hS => ?_)
        have hP : va_P D vwCl (List.flatten [(wRow cy a0 a1 n (upd w0_2 i2_1.toNatClampNeg (rAt n h i2_1))), (wRow cy b0 b1 n h)]) H := hP
        have hD : va_D A (List.flatten [(wRow cy a0 a1 n (upd w0_2 i2_1.toNatClampNeg (rAt n h i2_1))), (wRow cy b0 b1 n h)]) := hD
        refine lv_iinc (v := (i2_1 + 1)) (lv' := [(2, .int (i2_1 + 1)), (0, .ref a0), (1, .ref b0)]) hx hb dX4_copyFrom_22 hl (k := 2) rfl rfl (by decide) rfl (fun ls hl => ?_)
        refine lv_goto (tgt := 2) hx hb dX4_copyFrom_25 (by decide) ?_
        have hst : f_X4_copyFrom_st n h i2_1 w0_2 = .inl ((i2_1 + 1), (upd w0_2 i2_1.toNatClampNeg (rAt n h i2_1))) := by rw [f_X4_copyFrom_st, if_neg c_3]
        have hmu : (((nI n) : Int32).toInt - ((i2_1 + 1) : Int32).toInt).toNat < (((nI n) : Int32).toInt - (i2_1 : Int32).toInt).toNat := mu_up c_3
        exact ih0 (i2_1 + 1) (upd w0_2 i2_1.toNatClampNeg (rAt n h i2_1)) (Nat.lt_of_lt_of_le hmu (Nat.le_of_lt_succ hlt0)) (lp_inl hst hF0) (nn_up hi0_0 c_3) _ _ hP hD hS _ (lv_sub hl [1, 2, 0] rfl)
  exact key ((((nI n) : Int32).toInt - (0 : Int32).toInt).toNat + 1) 0 f (Nat.lt_succ_self _) rfl (by decide) _ _ hP hD hS _ (lv_sub hl [1, 2, 0] rfl)
theorem hd_J6_bitCount_0f7a4_S : yJ6_bitCount_0f7a4.cls ≠ "java/lang/invoke/MethodHandle" ∧ yJ6_bitCount_0f7a4.cls ≠ "java/lang/invoke/VarHandle" ∧ (parseMethodDescriptor yJ6_bitCount_0f7a4.desc).map (fun d => d.parameters.length) = some 1 := by decide +kernel
theorem hd_J6_bitCount_0f7a4_V : yJ6_bitCount_0f7a4.cls = RJ6 ∧ yJ6_bitCount_0f7a4.cls ≠ "java/lang/invoke/MethodHandle" ∧ yJ6_bitCount_0f7a4.cls ≠ "java/lang/invoke/VarHandle" ∧ (parseMethodDescriptor yJ6_bitCount_0f7a4.desc).map (fun d => d.parameters.length) = some 1 := ⟨rfl, hd_J6_bitCount_0f7a4_S⟩
def f_J6_bitCount_0f7a4 (x0 : Int32) : Int32 := ((((((((x0 - ((x0.toUInt32 >>> (Int32.toUInt32 1 &&& Int32.toUInt32 31)).toInt32 &&& 1431655765)) &&& 858993459) + (((x0 - ((x0.toUInt32 >>> (Int32.toUInt32 1 &&& Int32.toUInt32 31)).toInt32 &&& 1431655765)).toUInt32 >>> (Int32.toUInt32 2 &&& Int32.toUInt32 31)).toInt32 &&& 858993459)) + ((((x0 - ((x0.toUInt32 >>> (Int32.toUInt32 1 &&& Int32.toUInt32 31)).toInt32 &&& 1431655765)) &&& 858993459) + (((x0 - ((x0.toUInt32 >>> (Int32.toUInt32 1 &&& Int32.toUInt32 31)).toInt32 &&& 1431655765)).toUInt32 >>> (Int32.toUInt32 2 &&& Int32.toUInt32 31)).toInt32 &&& 858993459)).toUInt32 >>> (Int32.toUInt32 4 &&& Int32.toUInt32 31)).toInt32) &&& 252645135) + ((((((x0 - ((x0.toUInt32 >>> (Int32.toUInt32 1 &&& Int32.toUInt32 31)).toInt32 &&& 1431655765)) &&& 858993459) + (((x0 - ((x0.toUInt32 >>> (Int32.toUInt32 1 &&& Int32.toUInt32 31)).toInt32 &&& 1431655765)).toUInt32 >>> (Int32.toUInt32 2 &&& Int32.toUInt32 31)).toInt32 &&& 858993459)) + ((((x0 - ((x0.toUInt32 >>> (Int32.toUInt32 1 &&& Int32.toUInt32 31)).toInt32 &&& 1431655765)) &&& 858993459) + (((x0 - ((x0.toUInt32 >>> (Int32.toUInt32 1 &&& Int32.toUInt32 31)).toInt32 &&& 1431655765)).toUInt32 >>> (Int32.toUInt32 2 &&& Int32.toUInt32 31)).toInt32 &&& 858993459)).toUInt32 >>> (Int32.toUInt32 4 &&& Int32.toUInt32 31)).toInt32) &&& 252645135).toUInt32 >>> (Int32.toUInt32 8 &&& Int32.toUInt32 31)).toInt32) + (((((((x0 - ((x0.toUInt32 >>> (Int32.toUInt32 1 &&& Int32.toUInt32 31)).toInt32 &&& 1431655765)) &&& 858993459) + (((x0 - ((x0.toUInt32 >>> (Int32.toUInt32 1 &&& Int32.toUInt32 31)).toInt32 &&& 1431655765)).toUInt32 >>> (Int32.toUInt32 2 &&& Int32.toUInt32 31)).toInt32 &&& 858993459)) + ((((x0 - ((x0.toUInt32 >>> (Int32.toUInt32 1 &&& Int32.toUInt32 31)).toInt32 &&& 1431655765)) &&& 858993459) + (((x0 - ((x0.toUInt32 >>> (Int32.toUInt32 1 &&& Int32.toUInt32 31)).toInt32 &&& 1431655765)).toUInt32 >>> (Int32.toUInt32 2 &&& Int32.toUInt32 31)).toInt32 &&& 858993459)).toUInt32 >>> (Int32.toUInt32 4 &&& Int32.toUInt32 31)).toInt32) &&& 252645135) + ((((((x0 - ((x0.toUInt32 >>> (Int32.toUInt32 1 &&& Int32.toUInt32 31)).toInt32 &&& 1431655765)) &&& 858993459) + (((x0 - ((x0.toUInt32 >>> (Int32.toUInt32 1 &&& Int32.toUInt32 31)).toInt32 &&& 1431655765)).toUInt32 >>> (Int32.toUInt32 2 &&& Int32.toUInt32 31)).toInt32 &&& 858993459)) + ((((x0 - ((x0.toUInt32 >>> (Int32.toUInt32 1 &&& Int32.toUInt32 31)).toInt32 &&& 1431655765)) &&& 858993459) + (((x0 - ((x0.toUInt32 >>> (Int32.toUInt32 1 &&& Int32.toUInt32 31)).toInt32 &&& 1431655765)).toUInt32 >>> (Int32.toUInt32 2 &&& Int32.toUInt32 31)).toInt32 &&& 858993459)).toUInt32 >>> (Int32.toUInt32 4 &&& Int32.toUInt32 31)).toInt32) &&& 252645135).toUInt32 >>> (Int32.toUInt32 8 &&& Int32.toUInt32 31)).toInt32).toUInt32 >>> (Int32.toUInt32 16 &&& Int32.toUInt32 31)).toInt32) &&& 63)
set_option maxHeartbeats 400000 in
set_option maxRecDepth 100000 in
theorem c_J6_bitCount_0f7a4 (l : Launch) (D : va_G) (cy : Nat → ClassId) (g : Nat → Nat) (B : Nat)  (x0 : Int32) : Met l yJ6_bitCount_0f7a4 wsJ6_bitCount_0f7a4 ({ frames := 0, cells := 0, slots := 0, locals := 0 }) (rdP D cy g B ([] : va_W) [.int x0]) (vp_Si (fun r => r = f_J6_bitCount_0f7a4 x0)) 0 0 (fun _ => False) := by
  refine Met.ofW (cc := cJ6_bitCount_0f7a4) (maxL := 1) (ret := (some .int)) (by decide) rfl ?_
  intro p e s m args below meth c s₁ BB hml hv
  obtain ⟨rfl, hP, hK0⟩ := hv
  have hx := BB.exec
  have hb := BB.bytes
  have hr := BB.returns
  have hts := atoms_spec (ws := wsJ6_bitCount_0f7a4) BB.pre
  have hown : s.vm.findClass RJ6 = some m.cls := findClass_of_methodNamed BB.named
  have hlocks := BB.notSynchronized
  have S := my_fix hx hb hml hown hts
  have hS : va_S (fun q => B ≤ q) s.heap s.heap [] := va_S.rf
  have hAB : ∀ q : Nat, (fun q => B ≤ q) q → B ≤ q := fun _ h => h
  have hl := lv_entry ([.int x0]) (n := 1) (Nat.le_of_ble_eq_true rfl)
  rw [lg_entry_eq]
  generalize (lg_sl ([.int x0]) ++ List.replicate (1 - (lg_sl ([.int x0])).length) Slot.unset).toArray = ls at hl ⊢
  have hl : lv_has ls 1 [(0, .int x0)] := hl
  refine lv_iload_n hx hb dJ6_bitCount_0f7a4_0 rfl (lv_at hl 0 rfl) ?_
  refine lv_iload_n hx hb dJ6_bitCount_0f7a4_1 rfl (lv_at hl 0 rfl) ?_
  refine lv_iconst (v := 1) hx hb dJ6_bitCount_0f7a4_2 (by decide) ?_
  refine lv_iushr (v := (x0.toUInt32 >>> (Int32.toUInt32 1 &&& Int32.toUInt32 31)).toInt32) hx hb dJ6_bitCount_0f7a4_3 rfl ?_
  refine lv_ldcw hx hb hown (hts (.constant RJ6 265 (1431655765)) (List.mem_of_getElem? (i := 1) rfl)) dJ6_bitCount_0f7a4_4 ?_
  refine lv_iand hx hb dJ6_bitCount_0f7a4_7 ?_
  refine lv_isub hx hb dJ6_bitCount_0f7a4_8 ?_
  refine lv_istore_n (lv' := [(0, .int (x0 - ((x0.toUInt32 >>> (Int32.toUInt32 1 &&& Int32.toUInt32 31)).toInt32 &&& 1431655765)))]) hx hb dJ6_bitCount_0f7a4_9 rfl hl (by decide) rfl (fun ls hl => ?_)
  refine lv_iload_n hx hb dJ6_bitCount_0f7a4_10 rfl (lv_at hl 0 rfl) ?_
  refine lv_ldcw hx hb hown (hts (.constant RJ6 266 (858993459)) (List.mem_of_getElem? (i := 2) rfl)) dJ6_bitCount_0f7a4_11 ?_
  refine lv_iand hx hb dJ6_bitCount_0f7a4_14 ?_
  refine lv_iload_n hx hb dJ6_bitCount_0f7a4_15 rfl (lv_at hl 0 rfl) ?_
  refine lv_iconst (v := 2) hx hb dJ6_bitCount_0f7a4_16 (by decide) ?_
  refine lv_iushr (v := ((x0 - ((x0.toUInt32 >>> (Int32.toUInt32 1 &&& Int32.toUInt32 31)).toInt32 &&& 1431655765)).toUInt32 >>> (Int32.toUInt32 2 &&& Int32.toUInt32 31)).toInt32) hx hb dJ6_bitCount_0f7a4_17 rfl ?_
  refine lv_ldcw hx hb hown (hts (.constant RJ6 266 (858993459)) (List.mem_of_getElem? (i := 2) rfl)) dJ6_bitCount_0f7a4_18 ?_
  refine lv_iand hx hb dJ6_bitCount_0f7a4_21 ?_
  refine lv_iadd hx hb dJ6_bitCount_0f7a4_22 ?_
  refine lv_istore_n (lv' := [(0, .int (((x0 - ((x0.toUInt32 >>> (Int32.toUInt32 1 &&& Int32.toUInt32 31)).toInt32 &&& 1431655765)) &&& 858993459) + (((x0 - ((x0.toUInt32 >>> (Int32.toUInt32 1 &&& Int32.toUInt32 31)).toInt32 &&& 1431655765)).toUInt32 >>> (Int32.toUInt32 2 &&& Int32.toUInt32 31)).toInt32 &&& 858993459)))]) hx hb dJ6_bitCount_0f7a4_23 rfl hl (by decide) rfl (fun ls hl => ?_)
  refine lv_iload_n hx hb dJ6_bitCount_0f7a4_24 rfl (lv_at hl 0 rfl) ?_
  refine lv_iload_n hx hb dJ6_bitCount_0f7a4_25 rfl (lv_at hl 0 rfl) ?_
  refine lv_iconst (v := 4) hx hb dJ6_bitCount_0f7a4_26 (by decide) ?_
  refine lv_iushr (v := ((((x0 - ((x0.toUInt32 >>> (Int32.toUInt32 1 &&& Int32.toUInt32 31)).toInt32 &&& 1431655765)) &&& 858993459) + (((x0 - ((x0.toUInt32 >>> (Int32.toUInt32 1 &&& Int32.toUInt32 31)).toInt32 &&& 1431655765)).toUInt32 >>> (Int32.toUInt32 2 &&& Int32.toUInt32 31)).toInt32 &&& 858993459)).toUInt32 >>> (Int32.toUInt32 4 &&& Int32.toUInt32 31)).toInt32) hx hb dJ6_bitCount_0f7a4_27 rfl ?_
  refine lv_iadd hx hb dJ6_bitCount_0f7a4_28 ?_
  refine lv_ldcw hx hb hown (hts (.constant RJ6 267 (252645135)) (List.mem_of_getElem? (i := 3) rfl)) dJ6_bitCount_0f7a4_29 ?_
  refine lv_iand hx hb dJ6_bitCount_0f7a4_32 ?_
  refine lv_istore_n (lv' := [(0, .int (((((x0 - ((x0.toUInt32 >>> (Int32.toUInt32 1 &&& Int32.toUInt32 31)).toInt32 &&& 1431655765)) &&& 858993459) + (((x0 - ((x0.toUInt32 >>> (Int32.toUInt32 1 &&& Int32.toUInt32 31)).toInt32 &&& 1431655765)).toUInt32 >>> (Int32.toUInt32 2 &&& Int32.toUInt32 31)).toInt32 &&& 858993459)) + ((((x0 - ((x0.toUInt32 >>> (Int32.toUInt32 1 &&& Int32.toUInt32 31)).toInt32 &&& 1431655765)) &&& 858993459) + (((x0 - ((x0.toUInt32 >>> (Int32.toUInt32 1 &&& Int32.toUInt32 31)).toInt32 &&& 1431655765)).toUInt32 >>> (Int32.toUInt32 2 &&& Int32.toUInt32 31)).toInt32 &&& 858993459)).toUInt32 >>> (Int32.toUInt32 4 &&& Int32.toUInt32 31)).toInt32) &&& 252645135))]) hx hb dJ6_bitCount_0f7a4_33 rfl hl (by decide) rfl (fun ls hl => ?_)
  refine lv_iload_n hx hb dJ6_bitCount_0f7a4_34 rfl (lv_at hl 0 rfl) ?_
  refine lv_iload_n hx hb dJ6_bitCount_0f7a4_35 rfl (lv_at hl 0 rfl) ?_
  refine lv_bipush (v := 8) hx hb dJ6_bitCount_0f7a4_36 (by decide) ?_
  refine lv_iushr (v := ((((((x0 - ((x0.toUInt32 >>> (Int32.toUInt32 1 &&& Int32.toUInt32 31)).toInt32 &&& 1431655765)) &&& 858993459) + (((x0 - ((x0.toUInt32 >>> (Int32.toUInt32 1 &&& Int32.toUInt32 31)).toInt32 &&& 1431655765)).toUInt32 >>> (Int32.toUInt32 2 &&& Int32.toUInt32 31)).toInt32 &&& 858993459)) + ((((x0 - ((x0.toUInt32 >>> (Int32.toUInt32 1 &&& Int32.toUInt32 31)).toInt32 &&& 1431655765)) &&& 858993459) + (((x0 - ((x0.toUInt32 >>> (Int32.toUInt32 1 &&& Int32.toUInt32 31)).toInt32 &&& 1431655765)).toUInt32 >>> (Int32.toUInt32 2 &&& Int32.toUInt32 31)).toInt32 &&& 858993459)).toUInt32 >>> (Int32.toUInt32 4 &&& Int32.toUInt32 31)).toInt32) &&& 252645135).toUInt32 >>> (Int32.toUInt32 8 &&& Int32.toUInt32 31)).toInt32) hx hb dJ6_bitCount_0f7a4_38 rfl ?_
  refine lv_iadd hx hb dJ6_bitCount_0f7a4_39 ?_
  refine lv_istore_n (lv' := [(0, .int ((((((x0 - ((x0.toUInt32 >>> (Int32.toUInt32 1 &&& Int32.toUInt32 31)).toInt32 &&& 1431655765)) &&& 858993459) + (((x0 - ((x0.toUInt32 >>> (Int32.toUInt32 1 &&& Int32.toUInt32 31)).toInt32 &&& 1431655765)).toUInt32 >>> (Int32.toUInt32 2 &&& Int32.toUInt32 31)).toInt32 &&& 858993459)) + ((((x0 - ((x0.toUInt32 >>> (Int32.toUInt32 1 &&& Int32.toUInt32 31)).toInt32 &&& 1431655765)) &&& 858993459) + (((x0 - ((x0.toUInt32 >>> (Int32.toUInt32 1 &&& Int32.toUInt32 31)).toInt32 &&& 1431655765)).toUInt32 >>> (Int32.toUInt32 2 &&& Int32.toUInt32 31)).toInt32 &&& 858993459)).toUInt32 >>> (Int32.toUInt32 4 &&& Int32.toUInt32 31)).toInt32) &&& 252645135) + ((((((x0 - ((x0.toUInt32 >>> (Int32.toUInt32 1 &&& Int32.toUInt32 31)).toInt32 &&& 1431655765)) &&& 858993459) + (((x0 - ((x0.toUInt32 >>> (Int32.toUInt32 1 &&& Int32.toUInt32 31)).toInt32 &&& 1431655765)).toUInt32 >>> (Int32.toUInt32 2 &&& Int32.toUInt32 31)).toInt32 &&& 858993459)) + ((((x0 - ((x0.toUInt32 >>> (Int32.toUInt32 1 &&& Int32.toUInt32 31)).toInt32 &&& 1431655765)) &&& 858993459) + (((x0 - ((x0.toUInt32 >>> (Int32.toUInt32 1 &&& Int32.toUInt32 31)).toInt32 &&& 1431655765)).toUInt32 >>> (Int32.toUInt32 2 &&& Int32.toUInt32 31)).toInt32 &&& 858993459)).toUInt32 >>> (Int32.toUInt32 4 &&& Int32.toUInt32 31)).toInt32) &&& 252645135).toUInt32 >>> (Int32.toUInt32 8 &&& Int32.toUInt32 31)).toInt32))]) hx hb dJ6_bitCount_0f7a4_40 rfl hl (by decide) rfl (fun ls hl => ?_)
  refine lv_iload_n hx hb dJ6_bitCount_0f7a4_41 rfl (lv_at hl 0 rfl) ?_
  refine lv_iload_n hx hb dJ6_bitCount_0f7a4_42 rfl (lv_at hl 0 rfl) ?_
  refine lv_bipush (v := 16) hx hb dJ6_bitCount_0f7a4_43 (by decide) ?_
  refine lv_iushr (v := (((((((x0 - ((x0.toUInt32 >>> (Int32.toUInt32 1 &&& Int32.toUInt32 31)).toInt32 &&& 1431655765)) &&& 858993459) + (((x0 - ((x0.toUInt32 >>> (Int32.toUInt32 1 &&& Int32.toUInt32 31)).toInt32 &&& 1431655765)).toUInt32 >>> (Int32.toUInt32 2 &&& Int32.toUInt32 31)).toInt32 &&& 858993459)) + ((((x0 - ((x0.toUInt32 >>> (Int32.toUInt32 1 &&& Int32.toUInt32 31)).toInt32 &&& 1431655765)) &&& 858993459) + (((x0 - ((x0.toUInt32 >>> (Int32.toUInt32 1 &&& Int32.toUInt32 31)).toInt32 &&& 1431655765)).toUInt32 >>> (Int32.toUInt32 2 &&& Int32.toUInt32 31)).toInt32 &&& 858993459)).toUInt32 >>> (Int32.toUInt32 4 &&& Int32.toUInt32 31)).toInt32) &&& 252645135) + ((((((x0 - ((x0.toUInt32 >>> (Int32.toUInt32 1 &&& Int32.toUInt32 31)).toInt32 &&& 1431655765)) &&& 858993459) + (((x0 - ((x0.toUInt32 >>> (Int32.toUInt32 1 &&& Int32.toUInt32 31)).toInt32 &&& 1431655765)).toUInt32 >>> (Int32.toUInt32 2 &&& Int32.toUInt32 31)).toInt32 &&& 858993459)) + ((((x0 - ((x0.toUInt32 >>> (Int32.toUInt32 1 &&& Int32.toUInt32 31)).toInt32 &&& 1431655765)) &&& 858993459) + (((x0 - ((x0.toUInt32 >>> (Int32.toUInt32 1 &&& Int32.toUInt32 31)).toInt32 &&& 1431655765)).toUInt32 >>> (Int32.toUInt32 2 &&& Int32.toUInt32 31)).toInt32 &&& 858993459)).toUInt32 >>> (Int32.toUInt32 4 &&& Int32.toUInt32 31)).toInt32) &&& 252645135).toUInt32 >>> (Int32.toUInt32 8 &&& Int32.toUInt32 31)).toInt32).toUInt32 >>> (Int32.toUInt32 16 &&& Int32.toUInt32 31)).toInt32) hx hb dJ6_bitCount_0f7a4_45 rfl ?_
  refine lv_iadd hx hb dJ6_bitCount_0f7a4_46 ?_
  refine lv_istore_n (lv' := [(0, .int (((((((x0 - ((x0.toUInt32 >>> (Int32.toUInt32 1 &&& Int32.toUInt32 31)).toInt32 &&& 1431655765)) &&& 858993459) + (((x0 - ((x0.toUInt32 >>> (Int32.toUInt32 1 &&& Int32.toUInt32 31)).toInt32 &&& 1431655765)).toUInt32 >>> (Int32.toUInt32 2 &&& Int32.toUInt32 31)).toInt32 &&& 858993459)) + ((((x0 - ((x0.toUInt32 >>> (Int32.toUInt32 1 &&& Int32.toUInt32 31)).toInt32 &&& 1431655765)) &&& 858993459) + (((x0 - ((x0.toUInt32 >>> (Int32.toUInt32 1 &&& Int32.toUInt32 31)).toInt32 &&& 1431655765)).toUInt32 >>> (Int32.toUInt32 2 &&& Int32.toUInt32 31)).toInt32 &&& 858993459)).toUInt32 >>> (Int32.toUInt32 4 &&& Int32.toUInt32 31)).toInt32) &&& 252645135) + ((((((x0 - ((x0.toUInt32 >>> (Int32.toUInt32 1 &&& Int32.toUInt32 31)).toInt32 &&& 1431655765)) &&& 858993459) + (((x0 - ((x0.toUInt32 >>> (Int32.toUInt32 1 &&& Int32.toUInt32 31)).toInt32 &&& 1431655765)).toUInt32 >>> (Int32.toUInt32 2 &&& Int32.toUInt32 31)).toInt32 &&& 858993459)) + ((((x0 - ((x0.toUInt32 >>> (Int32.toUInt32 1 &&& Int32.toUInt32 31)).toInt32 &&& 1431655765)) &&& 858993459) + (((x0 - ((x0.toUInt32 >>> (Int32.toUInt32 1 &&& Int32.toUInt32 31)).toInt32 &&& 1431655765)).toUInt32 >>> (Int32.toUInt32 2 &&& Int32.toUInt32 31)).toInt32 &&& 858993459)).toUInt32 >>> (Int32.toUInt32 4 &&& Int32.toUInt32 31)).toInt32) &&& 252645135).toUInt32 >>> (Int32.toUInt32 8 &&& Int32.toUInt32 31)).toInt32) + (((((((x0 - ((x0.toUInt32 >>> (Int32.toUInt32 1 &&& Int32.toUInt32 31)).toInt32 &&& 1431655765)) &&& 858993459) + (((x0 - ((x0.toUInt32 >>> (Int32.toUInt32 1 &&& Int32.toUInt32 31)).toInt32 &&& 1431655765)).toUInt32 >>> (Int32.toUInt32 2 &&& Int32.toUInt32 31)).toInt32 &&& 858993459)) + ((((x0 - ((x0.toUInt32 >>> (Int32.toUInt32 1 &&& Int32.toUInt32 31)).toInt32 &&& 1431655765)) &&& 858993459) + (((x0 - ((x0.toUInt32 >>> (Int32.toUInt32 1 &&& Int32.toUInt32 31)).toInt32 &&& 1431655765)).toUInt32 >>> (Int32.toUInt32 2 &&& Int32.toUInt32 31)).toInt32 &&& 858993459)).toUInt32 >>> (Int32.toUInt32 4 &&& Int32.toUInt32 31)).toInt32) &&& 252645135) + ((((((x0 - ((x0.toUInt32 >>> (Int32.toUInt32 1 &&& Int32.toUInt32 31)).toInt32 &&& 1431655765)) &&& 858993459) + (((x0 - ((x0.toUInt32 >>> (Int32.toUInt32 1 &&& Int32.toUInt32 31)).toInt32 &&& 1431655765)).toUInt32 >>> (Int32.toUInt32 2 &&& Int32.toUInt32 31)).toInt32 &&& 858993459)) + ((((x0 - ((x0.toUInt32 >>> (Int32.toUInt32 1 &&& Int32.toUInt32 31)).toInt32 &&& 1431655765)) &&& 858993459) + (((x0 - ((x0.toUInt32 >>> (Int32.toUInt32 1 &&& Int32.toUInt32 31)).toInt32 &&& 1431655765)).toUInt32 >>> (Int32.toUInt32 2 &&& Int32.toUInt32 31)).toInt32 &&& 858993459)).toUInt32 >>> (Int32.toUInt32 4 &&& Int32.toUInt32 31)).toInt32) &&& 252645135).toUInt32 >>> (Int32.toUInt32 8 &&& Int32.toUInt32 31)).toInt32).toUInt32 >>> (Int32.toUInt32 16 &&& Int32.toUInt32 31)).toInt32))]) hx hb dJ6_bitCount_0f7a4_47 rfl hl (by decide) rfl (fun ls hl => ?_)
  refine lv_iload_n hx hb dJ6_bitCount_0f7a4_48 rfl (lv_at hl 0 rfl) ?_
  refine lv_bipush (v := 63) hx hb dJ6_bitCount_0f7a4_49 (by decide) ?_
  refine lv_iand hx hb dJ6_bitCount_0f7a4_51 ?_
  exact W.iret hx hb hr (fun t ht hW => ⟨((((((((x0 - ((x0.toUInt32 >>> (Int32.toUInt32 1 &&& Int32.toUInt32 31)).toInt32 &&& 1431655765)) &&& 858993459) + (((x0 - ((x0.toUInt32 >>> (Int32.toUInt32 1 &&& Int32.toUInt32 31)).toInt32 &&& 1431655765)).toUInt32 >>> (Int32.toUInt32 2 &&& Int32.toUInt32 31)).toInt32 &&& 858993459)) + ((((x0 - ((x0.toUInt32 >>> (Int32.toUInt32 1 &&& Int32.toUInt32 31)).toInt32 &&& 1431655765)) &&& 858993459) + (((x0 - ((x0.toUInt32 >>> (Int32.toUInt32 1 &&& Int32.toUInt32 31)).toInt32 &&& 1431655765)).toUInt32 >>> (Int32.toUInt32 2 &&& Int32.toUInt32 31)).toInt32 &&& 858993459)).toUInt32 >>> (Int32.toUInt32 4 &&& Int32.toUInt32 31)).toInt32) &&& 252645135) + ((((((x0 - ((x0.toUInt32 >>> (Int32.toUInt32 1 &&& Int32.toUInt32 31)).toInt32 &&& 1431655765)) &&& 858993459) + (((x0 - ((x0.toUInt32 >>> (Int32.toUInt32 1 &&& Int32.toUInt32 31)).toInt32 &&& 1431655765)).toUInt32 >>> (Int32.toUInt32 2 &&& Int32.toUInt32 31)).toInt32 &&& 858993459)) + ((((x0 - ((x0.toUInt32 >>> (Int32.toUInt32 1 &&& Int32.toUInt32 31)).toInt32 &&& 1431655765)) &&& 858993459) + (((x0 - ((x0.toUInt32 >>> (Int32.toUInt32 1 &&& Int32.toUInt32 31)).toInt32 &&& 1431655765)).toUInt32 >>> (Int32.toUInt32 2 &&& Int32.toUInt32 31)).toInt32 &&& 858993459)).toUInt32 >>> (Int32.toUInt32 4 &&& Int32.toUInt32 31)).toInt32) &&& 252645135).toUInt32 >>> (Int32.toUInt32 8 &&& Int32.toUInt32 31)).toInt32) + (((((((x0 - ((x0.toUInt32 >>> (Int32.toUInt32 1 &&& Int32.toUInt32 31)).toInt32 &&& 1431655765)) &&& 858993459) + (((x0 - ((x0.toUInt32 >>> (Int32.toUInt32 1 &&& Int32.toUInt32 31)).toInt32 &&& 1431655765)).toUInt32 >>> (Int32.toUInt32 2 &&& Int32.toUInt32 31)).toInt32 &&& 858993459)) + ((((x0 - ((x0.toUInt32 >>> (Int32.toUInt32 1 &&& Int32.toUInt32 31)).toInt32 &&& 1431655765)) &&& 858993459) + (((x0 - ((x0.toUInt32 >>> (Int32.toUInt32 1 &&& Int32.toUInt32 31)).toInt32 &&& 1431655765)).toUInt32 >>> (Int32.toUInt32 2 &&& Int32.toUInt32 31)).toInt32 &&& 858993459)).toUInt32 >>> (Int32.toUInt32 4 &&& Int32.toUInt32 31)).toInt32) &&& 252645135) + ((((((x0 - ((x0.toUInt32 >>> (Int32.toUInt32 1 &&& Int32.toUInt32 31)).toInt32 &&& 1431655765)) &&& 858993459) + (((x0 - ((x0.toUInt32 >>> (Int32.toUInt32 1 &&& Int32.toUInt32 31)).toInt32 &&& 1431655765)).toUInt32 >>> (Int32.toUInt32 2 &&& Int32.toUInt32 31)).toInt32 &&& 858993459)) + ((((x0 - ((x0.toUInt32 >>> (Int32.toUInt32 1 &&& Int32.toUInt32 31)).toInt32 &&& 1431655765)) &&& 858993459) + (((x0 - ((x0.toUInt32 >>> (Int32.toUInt32 1 &&& Int32.toUInt32 31)).toInt32 &&& 1431655765)).toUInt32 >>> (Int32.toUInt32 2 &&& Int32.toUInt32 31)).toInt32 &&& 858993459)).toUInt32 >>> (Int32.toUInt32 4 &&& Int32.toUInt32 31)).toInt32) &&& 252645135).toUInt32 >>> (Int32.toUInt32 8 &&& Int32.toUInt32 31)).toInt32).toUInt32 >>> (Int32.toUInt32 16 &&& Int32.toUInt32 31)).toInt32) &&& 63), rfl, (show f_J6_bitCount_0f7a4 x0 = ((((((((x0 - ((x0.toUInt32 >>> (Int32.toUInt32 1 &&& Int32.toUInt32 31)).toInt32 &&& 1431655765)) &&& 858993459) + (((x0 - ((x0.toUInt32 >>> (Int32.toUInt32 1 &&& Int32.toUInt32 31)).toInt32 &&& 1431655765)).toUInt32 >>> (Int32.toUInt32 2 &&& Int32.toUInt32 31)).toInt32 &&& 858993459)) + ((((x0 - ((x0.toUInt32 >>> (Int32.toUInt32 1 &&& Int32.toUInt32 31)).toInt32 &&& 1431655765)) &&& 858993459) + (((x0 - ((x0.toUInt32 >>> (Int32.toUInt32 1 &&& Int32.toUInt32 31)).toInt32 &&& 1431655765)).toUInt32 >>> (Int32.toUInt32 2 &&& Int32.toUInt32 31)).toInt32 &&& 858993459)).toUInt32 >>> (Int32.toUInt32 4 &&& Int32.toUInt32 31)).toInt32) &&& 252645135) + ((((((x0 - ((x0.toUInt32 >>> (Int32.toUInt32 1 &&& Int32.toUInt32 31)).toInt32 &&& 1431655765)) &&& 858993459) + (((x0 - ((x0.toUInt32 >>> (Int32.toUInt32 1 &&& Int32.toUInt32 31)).toInt32 &&& 1431655765)).toUInt32 >>> (Int32.toUInt32 2 &&& Int32.toUInt32 31)).toInt32 &&& 858993459)) + ((((x0 - ((x0.toUInt32 >>> (Int32.toUInt32 1 &&& Int32.toUInt32 31)).toInt32 &&& 1431655765)) &&& 858993459) + (((x0 - ((x0.toUInt32 >>> (Int32.toUInt32 1 &&& Int32.toUInt32 31)).toInt32 &&& 1431655765)).toUInt32 >>> (Int32.toUInt32 2 &&& Int32.toUInt32 31)).toInt32 &&& 858993459)).toUInt32 >>> (Int32.toUInt32 4 &&& Int32.toUInt32 31)).toInt32) &&& 252645135).toUInt32 >>> (Int32.toUInt32 8 &&& Int32.toUInt32 31)).toInt32) + (((((((x0 - ((x0.toUInt32 >>> (Int32.toUInt32 1 &&& Int32.toUInt32 31)).toInt32 &&& 1431655765)) &&& 858993459) + (((x0 - ((x0.toUInt32 >>> (Int32.toUInt32 1 &&& Int32.toUInt32 31)).toInt32 &&& 1431655765)).toUInt32 >>> (Int32.toUInt32 2 &&& Int32.toUInt32 31)).toInt32 &&& 858993459)) + ((((x0 - ((x0.toUInt32 >>> (Int32.toUInt32 1 &&& Int32.toUInt32 31)).toInt32 &&& 1431655765)) &&& 858993459) + (((x0 - ((x0.toUInt32 >>> (Int32.toUInt32 1 &&& Int32.toUInt32 31)).toInt32 &&& 1431655765)).toUInt32 >>> (Int32.toUInt32 2 &&& Int32.toUInt32 31)).toInt32 &&& 858993459)).toUInt32 >>> (Int32.toUInt32 4 &&& Int32.toUInt32 31)).toInt32) &&& 252645135) + ((((((x0 - ((x0.toUInt32 >>> (Int32.toUInt32 1 &&& Int32.toUInt32 31)).toInt32 &&& 1431655765)) &&& 858993459) + (((x0 - ((x0.toUInt32 >>> (Int32.toUInt32 1 &&& Int32.toUInt32 31)).toInt32 &&& 1431655765)).toUInt32 >>> (Int32.toUInt32 2 &&& Int32.toUInt32 31)).toInt32 &&& 858993459)) + ((((x0 - ((x0.toUInt32 >>> (Int32.toUInt32 1 &&& Int32.toUInt32 31)).toInt32 &&& 1431655765)) &&& 858993459) + (((x0 - ((x0.toUInt32 >>> (Int32.toUInt32 1 &&& Int32.toUInt32 31)).toInt32 &&& 1431655765)).toUInt32 >>> (Int32.toUInt32 2 &&& Int32.toUInt32 31)).toInt32 &&& 858993459)).toUInt32 >>> (Int32.toUInt32 4 &&& Int32.toUInt32 31)).toInt32) &&& 252645135).toUInt32 >>> (Int32.toUInt32 8 &&& Int32.toUInt32 31)).toInt32).toUInt32 >>> (Int32.toUInt32 16 &&& Int32.toUInt32 31)).toInt32) &&& 63) from by rw [f_J6_bitCount_0f7a4]).symm, ht⟩) (fun q hq => absurd hq List.not_mem_nil) dJ6_bitCount_0f7a4_52
theorem hd_X7_contains_S : yX7_contains.cls ≠ "java/lang/invoke/MethodHandle" ∧ yX7_contains.cls ≠ "java/lang/invoke/VarHandle" ∧ (parseMethodDescriptor yX7_contains.desc).map (fun d => d.parameters.length) = some 2 := by decide +kernel
theorem hd_X7_contains_V : yX7_contains.cls = RX7 ∧ yX7_contains.cls ≠ "java/lang/invoke/MethodHandle" ∧ yX7_contains.cls ≠ "java/lang/invoke/VarHandle" ∧ (parseMethodDescriptor yX7_contains.desc).map (fun d => d.parameters.length) = some 2 := ⟨rfl, hd_X7_contains_S⟩
def f_X7_contains (x0 : Int32) (x1 : Int32) : Int32 := (if ((x0 >>> (x1 &&& 31)) &&& 1) = 1 then 1 else 0)
theorem z_X7_contains (x0 : Int32) (x1 : Int32) : f_X7_contains x0 x1 = 0 ∨ f_X7_contains x0 x1 = 1 := by
  unfold f_X7_contains
  repeat' split
  all_goals first | exact Or.inl rfl | exact Or.inr rfl
set_option maxHeartbeats 400000 in
set_option maxRecDepth 100000 in
theorem c_X7_contains (l : Launch) (D : va_G) (cy : Nat → ClassId) (g : Nat → Nat) (B : Nat)  (x0 : Int32) (x1 : Int32) : Met l yX7_contains wsX7_contains ({ frames := 0, cells := 0, slots := 0, locals := 0 }) (rdP D cy g B ([] : va_W) [.int x0, .int x1]) (vp_Si (fun r => r = f_X7_contains x0 x1)) 0 0 (fun _ => False) := by
  refine Met.ofW (cc := cX7_contains) (maxL := 2) (ret := (some .boolean)) (by decide) rfl ?_
  intro p e s m args below meth c s₁ BB hml hv
  obtain ⟨rfl, hP, hK0⟩ := hv
  have hx := BB.exec
  have hb := BB.bytes
  have hr := BB.returns
  have hts := atoms_spec (ws := wsX7_contains) BB.pre
  have hown : s.vm.findClass RX7 = some m.cls := findClass_of_methodNamed BB.named
  have hlocks := BB.notSynchronized
  have S := my_fix hx hb hml hown hts
  have hS : va_S (fun q => B ≤ q) s.heap s.heap [] := va_S.rf
  have hAB : ∀ q : Nat, (fun q => B ≤ q) q → B ≤ q := fun _ h => h
  have hl := lv_entry ([.int x0, .int x1]) (n := 2) (Nat.le_of_ble_eq_true rfl)
  rw [lg_entry_eq]
  generalize (lg_sl ([.int x0, .int x1]) ++ List.replicate (2 - (lg_sl ([.int x0, .int x1])).length) Slot.unset).toArray = ls at hl ⊢
  have hl : lv_has ls 2 [(0, .int x0), (1, .int x1)] := hl
  refine lv_iload_n hx hb dX7_contains_0 rfl (lv_at hl 0 rfl) ?_
  refine lv_iload_n hx hb dX7_contains_1 rfl (lv_at hl 1 rfl) ?_
  refine lv_ishr hx hb dX7_contains_2 ?_
  refine lv_iconst (v := 1) hx hb dX7_contains_3 (by decide) ?_
  refine lv_iand hx hb dX7_contains_4 ?_
  refine lv_iconst (v := 1) hx hb dX7_contains_5 (by decide) ?_
  refine lv_icmp_ne (tgt := 13) hx hb dX7_contains_6 (by decide) (fun c_1 => ?_) (fun c_1 => ?_)
  · refine lv_iconst (v := 0) hx hb dX7_contains_13 (by decide) ?_
    exact W.zret (ty := .boolean) (v := 0) hx hb hr (my_nz (by decide)) (fun t ht hW => ⟨0, rfl, (show f_X7_contains x0 x1 = 0 from by rw [f_X7_contains, if_neg c_1]).symm, ht⟩) (fun q hq => absurd hq List.not_mem_nil) dX7_contains_14
  · refine lv_iconst (v := 1) hx hb dX7_contains_9 (by decide) ?_
    refine lv_goto (tgt := 14) hx hb dX7_contains_10 (by decide) ?_
    exact W.zret (ty := .boolean) (v := 1) hx hb hr (my_nz (by decide)) (fun t ht hW => ⟨1, rfl, (show f_X7_contains x0 x1 = 1 from by rw [f_X7_contains, if_pos c_1]).symm, ht⟩) (fun q hq => absurd hq List.not_mem_nil) dX7_contains_14
theorem hd_X7_faultOfRange_S : yX7_faultOfRange.cls ≠ "java/lang/invoke/MethodHandle" ∧ yX7_faultOfRange.cls ≠ "java/lang/invoke/VarHandle" ∧ (parseMethodDescriptor yX7_faultOfRange.desc).map (fun d => d.parameters.length) = some 3 := by decide +kernel
theorem hd_X7_faultOfRange_V : yX7_faultOfRange.cls = RX7 ∧ yX7_faultOfRange.cls ≠ "java/lang/invoke/MethodHandle" ∧ yX7_faultOfRange.cls ≠ "java/lang/invoke/VarHandle" ∧ (parseMethodDescriptor yX7_faultOfRange.desc).map (fun d => d.parameters.length) = some 3 := ⟨rfl, hd_X7_faultOfRange_S⟩
def f_X7_faultOfRange (x0 : Int32) (x1 : Int32) (x2 : Int32) : Int32 := (if x0 < x1 then 2 else (if x0 ≤ x2 then 0 else 2))
set_option maxHeartbeats 400000 in
set_option maxRecDepth 100000 in
theorem c_X7_faultOfRange (l : Launch) (D : va_G) (cy : Nat → ClassId) (g : Nat → Nat) (B : Nat)  (x0 : Int32) (x1 : Int32) (x2 : Int32) : Met l yX7_faultOfRange wsX7_faultOfRange ({ frames := 0, cells := 0, slots := 0, locals := 0 }) (rdP D cy g B ([] : va_W) [.int x0, .int x1, .int x2]) (vp_Si (fun r => r = f_X7_faultOfRange x0 x1 x2)) 0 0 (fun _ => False) := by
  refine Met.ofW (cc := cX7_faultOfRange) (maxL := 3) (ret := (some .int)) (by decide) rfl ?_
  intro p e s m args below meth c s₁ BB hml hv
  obtain ⟨rfl, hP, hK0⟩ := hv
  have hx := BB.exec
  have hb := BB.bytes
  have hr := BB.returns
  have hts := atoms_spec (ws := wsX7_faultOfRange) BB.pre
  have hown : s.vm.findClass RX7 = some m.cls := findClass_of_methodNamed BB.named
  have hlocks := BB.notSynchronized
  have S := my_fix hx hb hml hown hts
  have hS : va_S (fun q => B ≤ q) s.heap s.heap [] := va_S.rf
  have hAB : ∀ q : Nat, (fun q => B ≤ q) q → B ≤ q := fun _ h => h
  have hl := lv_entry ([.int x0, .int x1, .int x2]) (n := 3) (Nat.le_of_ble_eq_true rfl)
  rw [lg_entry_eq]
  generalize (lg_sl ([.int x0, .int x1, .int x2]) ++ List.replicate (3 - (lg_sl ([.int x0, .int x1, .int x2])).length) Slot.unset).toArray = ls at hl ⊢
  have hl : lv_has ls 3 [(0, .int x0), (1, .int x1), (2, .int x2)] := hl
  refine lv_iload_n hx hb dX7_faultOfRange_0 rfl (lv_at hl 0 rfl) ?_
  refine lv_iload_n hx hb dX7_faultOfRange_1 rfl (lv_at hl 1 rfl) ?_
  refine lv_icmp_lt (tgt := 10) hx hb dX7_faultOfRange_2 (by decide) (fun c_1 => ?_) (fun c_1 => ?_)
  · refine lv_iconst (v := 2) hx hb dX7_faultOfRange_10 (by decide) ?_
    refine lv_goto (tgt := 15) hx hb dX7_faultOfRange_11 (by decide) ?_
    exact W.iret hx hb hr (fun t ht hW => ⟨2, rfl, (show f_X7_faultOfRange x0 x1 x2 = 2 from by rw [f_X7_faultOfRange, if_pos c_1]).symm, ht⟩) (fun q hq => absurd hq List.not_mem_nil) dX7_faultOfRange_15
  · refine lv_iload_n hx hb dX7_faultOfRange_5 rfl (lv_at hl 0 rfl) ?_
    refine lv_iload_n hx hb dX7_faultOfRange_6 rfl (lv_at hl 2 rfl) ?_
    refine lv_icmp_le (tgt := 14) hx hb dX7_faultOfRange_7 (by decide) (fun c_2 => ?_) (fun c_2 => ?_)
    · refine lv_iconst (v := 0) hx hb dX7_faultOfRange_14 (by decide) ?_
      exact W.iret hx hb hr (fun t ht hW => ⟨0, rfl, (show f_X7_faultOfRange x0 x1 x2 = 0 from by rw [f_X7_faultOfRange, if_neg c_1, if_pos c_2]).symm, ht⟩) (fun q hq => absurd hq List.not_mem_nil) dX7_faultOfRange_15
    · refine lv_iconst (v := 2) hx hb dX7_faultOfRange_10 (by decide) ?_
      refine lv_goto (tgt := 15) hx hb dX7_faultOfRange_11 (by decide) ?_
      exact W.iret hx hb hr (fun t ht hW => ⟨2, rfl, (show f_X7_faultOfRange x0 x1 x2 = 2 from by rw [f_X7_faultOfRange, if_neg c_1, if_neg c_2]).symm, ht⟩) (fun q hq => absurd hq List.not_mem_nil) dX7_faultOfRange_15
theorem hd_X7_factorial_S : yX7_factorial.cls ≠ "java/lang/invoke/MethodHandle" ∧ yX7_factorial.cls ≠ "java/lang/invoke/VarHandle" ∧ (parseMethodDescriptor yX7_factorial.desc).map (fun d => d.parameters.length) = some 1 := by decide +kernel
theorem hd_X7_factorial_V : yX7_factorial.cls = RX7 ∧ yX7_factorial.cls ≠ "java/lang/invoke/MethodHandle" ∧ yX7_factorial.cls ≠ "java/lang/invoke/VarHandle" ∧ (parseMethodDescriptor yX7_factorial.desc).map (fun d => d.parameters.length) = some 1 := ⟨rfl, hd_X7_factorial_S⟩
def f_X7_factorial (x0 : Int32) : Int32 := (if x0 < 0 then 0 else (if 9 ≤ x0 then 0 else (my_fac x0.toNatClampNeg)))
set_option maxHeartbeats 400000 in
set_option maxRecDepth 100000 in
theorem c_X7_factorial (l : Launch) (D : va_G) (cy : Nat → ClassId) (g : Nat → Nat) (B : Nat)  (x0 : Int32) : Met l yX7_factorial wsX7_factorial ({ frames := 0, cells := 0, slots := 0, locals := 0 }) (rdP D cy g B ([] : va_W) [.int x0]) (vp_Si (fun r => r = f_X7_factorial x0)) 0 0 (fun _ => False) := by
  refine Met.ofW (cc := cX7_factorial) (maxL := 1) (ret := (some .int)) (by decide) rfl ?_
  intro p e s m args below meth c s₁ BB hml hv
  obtain ⟨rfl, hP, hK0⟩ := hv
  have hx := BB.exec
  have hb := BB.bytes
  have hr := BB.returns
  have hts := atoms_spec (ws := wsX7_factorial) BB.pre
  have hown : s.vm.findClass RX7 = some m.cls := findClass_of_methodNamed BB.named
  have hlocks := BB.notSynchronized
  have S := my_fix hx hb hml hown hts
  have hS : va_S (fun q => B ≤ q) s.heap s.heap [] := va_S.rf
  have hAB : ∀ q : Nat, (fun q => B ≤ q) q → B ≤ q := fun _ h => h
  have hl := lv_entry ([.int x0]) (n := 1) (Nat.le_of_ble_eq_true rfl)
  rw [lg_entry_eq]
  generalize (lg_sl ([.int x0]) ++ List.replicate (1 - (lg_sl ([.int x0])).length) Slot.unset).toArray = ls at hl ⊢
  have hl : lv_has ls 1 [(0, .int x0)] := hl
  refine lv_iload_n hx hb dX7_factorial_0 rfl (lv_at hl 0 rfl) ?_
  refine lv_if_lt (tgt := 20) hx hb dX7_factorial_1 (by decide) (fun c_1 => ?_) (fun c_1 => ?_)
  · refine lv_iconst (v := 0) hx hb dX7_factorial_20 (by decide) ?_
    exact W.iret hx hb hr (fun t ht hW => ⟨0, rfl, (show f_X7_factorial x0 = 0 from by rw [f_X7_factorial, if_pos c_1]).symm, ht⟩) (fun q hq => absurd hq List.not_mem_nil) dX7_factorial_21
  · refine lv_iload_n hx hb dX7_factorial_4 rfl (lv_at hl 0 rfl) ?_
    refine va_gets hx hb hK0.2.2.1.1 hS hown (hts (.fieldLink RX7 255 "PivotChamber" "FACTORIALS" "[I") (List.mem_of_getElem? (i := 1) rfl)) (fun _ h => h) dX7_factorial_5 ?_
    refine va_tlen hx hb hK0.2.2.1.2 hS (v := 9) (by decide) dX7_factorial_8 ?_
    refine lv_icmp_ge (tgt := 20) hx hb dX7_factorial_9 (by decide) (fun c_2 => ?_) (fun c_2 => ?_)
    · refine lv_iconst (v := 0) hx hb dX7_factorial_20 (by decide) ?_
      exact W.iret hx hb hr (fun t ht hW => ⟨0, rfl, (show f_X7_factorial x0 = 0 from by rw [f_X7_factorial, if_neg c_1, if_pos c_2]).symm, ht⟩) (fun q hq => absurd hq List.not_mem_nil) dX7_factorial_21
    · refine va_gets hx hb hK0.2.2.1.1 hS hown (hts (.fieldLink RX7 255 "PivotChamber" "FACTORIALS" "[I") (List.mem_of_getElem? (i := 1) rfl)) (fun _ h => h) dX7_factorial_12 ?_
      refine lv_iload_n hx hb dX7_factorial_15 rfl (lv_at hl 0 rfl) ?_
      refine va_ti hx hb hK0.2.2.1.2 hS (vin_cmp (n := 9) (by decide) c_1 c_2) (v := .int (my_fac x0.toNatClampNeg)) rfl dX7_factorial_16 ?_
      refine lv_goto (tgt := 21) hx hb dX7_factorial_17 (by decide) ?_
      exact W.iret hx hb hr (fun t ht hW => ⟨(my_fac x0.toNatClampNeg), rfl, (show f_X7_factorial x0 = (my_fac x0.toNatClampNeg) from by rw [f_X7_factorial, if_neg c_1, if_neg c_2]).symm, ht⟩) (fun q hq => absurd hq List.not_mem_nil) dX7_factorial_21
theorem hd_X6_worse_S : yX6_worse.cls ≠ "java/lang/invoke/MethodHandle" ∧ yX6_worse.cls ≠ "java/lang/invoke/VarHandle" ∧ (parseMethodDescriptor yX6_worse.desc).map (fun d => d.parameters.length) = some 2 := by decide +kernel
theorem hd_X6_worse_V : yX6_worse.cls = RX6 ∧ yX6_worse.cls ≠ "java/lang/invoke/MethodHandle" ∧ yX6_worse.cls ≠ "java/lang/invoke/VarHandle" ∧ (parseMethodDescriptor yX6_worse.desc).map (fun d => d.parameters.length) = some 2 := ⟨rfl, hd_X6_worse_S⟩
def f_X6_worse (x0 : Int32) (x1 : Int32) : Int32 := (if x0 = 0 then x1 else x0)
set_option maxHeartbeats 400000 in
set_option maxRecDepth 100000 in
theorem c_X6_worse (l : Launch) (D : va_G) (cy : Nat → ClassId) (g : Nat → Nat) (B : Nat)  (x0 : Int32) (x1 : Int32) : Met l yX6_worse wsX6_worse ({ frames := 0, cells := 0, slots := 0, locals := 0 }) (rdP D cy g B ([] : va_W) [.int x0, .int x1]) (vp_Si (fun r => r = f_X6_worse x0 x1)) 0 0 (fun _ => False) := by
  refine Met.ofW (cc := cX6_worse) (maxL := 2) (ret := (some .int)) (by decide) rfl ?_
  intro p e s m args below meth c s₁ BB hml hv
  obtain ⟨rfl, hP, hK0⟩ := hv
  have hx := BB.exec
  have hb := BB.bytes
  have hr := BB.returns
  have hts := atoms_spec (ws := wsX6_worse) BB.pre
  have hown : s.vm.findClass RX6 = some m.cls := findClass_of_methodNamed BB.named
  have hlocks := BB.notSynchronized
  have S := my_fix hx hb hml hown hts
  have hS : va_S (fun q => B ≤ q) s.heap s.heap [] := va_S.rf
  have hAB : ∀ q : Nat, (fun q => B ≤ q) q → B ≤ q := fun _ h => h
  have hl := lv_entry ([.int x0, .int x1]) (n := 2) (Nat.le_of_ble_eq_true rfl)
  rw [lg_entry_eq]
  generalize (lg_sl ([.int x0, .int x1]) ++ List.replicate (2 - (lg_sl ([.int x0, .int x1])).length) Slot.unset).toArray = ls at hl ⊢
  have hl : lv_has ls 2 [(0, .int x0), (1, .int x1)] := hl
  refine lv_iload_n hx hb dX6_worse_0 rfl (lv_at hl 0 rfl) ?_
  refine lv_if_eq (tgt := 8) hx hb dX6_worse_1 (by decide) (fun c_1 => ?_) (fun c_1 => ?_)
  · refine lv_iload_n hx hb dX6_worse_8 rfl (lv_at hl 1 rfl) ?_
    exact W.iret hx hb hr (fun t ht hW => ⟨x1, rfl, (show f_X6_worse x0 x1 = x1 from by rw [f_X6_worse, if_pos c_1]).symm, ht⟩) (fun q hq => absurd hq List.not_mem_nil) dX6_worse_9
  · refine lv_iload_n hx hb dX6_worse_4 rfl (lv_at hl 0 rfl) ?_
    refine lv_goto (tgt := 9) hx hb dX6_worse_5 (by decide) ?_
    exact W.iret hx hb hr (fun t ht hW => ⟨x0, rfl, (show f_X6_worse x0 x1 = x0 from by rw [f_X6_worse, if_neg c_1]).symm, ht⟩) (fun q hq => absurd hq List.not_mem_nil) dX6_worse_9
