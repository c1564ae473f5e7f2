theorem hd_X2_byteAt_S : yX2_byteAt.cls ≠ "java/lang/invoke/MethodHandle" ∧ yX2_byteAt.cls ≠ "java/lang/invoke/VarHandle" ∧ (parseMethodDescriptor yX2_byteAt.desc).map (fun d => d.parameters.length) = some 1 := by decide +kernel
theorem hd_X2_byteAt_V : yX2_byteAt.cls = RX2 ∧ yX2_byteAt.cls ≠ "java/lang/invoke/MethodHandle" ∧ yX2_byteAt.cls ≠ "java/lang/invoke/VarHandle" ∧ (parseMethodDescriptor yX2_byteAt.desc).map (fun d => d.parameters.length) = some 1 := ⟨rfl, hd_X2_byteAt_S⟩
def f_X2_byteAt (v : TxtV) (x0 : Int32) : Int32 := (if v.1 ≤ x0 then (-1) else (rAt 150 v.2.2.2.2.2 x0))
set_option maxHeartbeats 400000 in
set_option maxRecDepth 100000 in
theorem c_X2_byteAt (l : Launch) (D : va_G) (cy : Nat → ClassId) (g : Nat → Nat) (B : Nat) (a : Nat → Nat) (v : TxtV) (x0 : Int32) : Met l yX2_byteAt wsX2_byteAt ({ frames := 1, cells := 0, slots := 0, locals := 21 }) (rdP D cy g B (wTxt cy g a v) [.ref (a 0), .int x0]) (vp_Si (fun r => r = f_X2_byteAt v x0)) 0 0 (fun _ => False) := by
  refine Met.ofW (cc := cX2_byteAt) (maxL := 2) (ret := (some .int)) (by decide) rfl ?_
  intro p e s m args below meth c s₁ BB hml hv
  obtain ⟨rfl, hP, hK0⟩ := hv
  have hx := BB.exec
  have hb := BB.bytes
  have hr := BB.returns
  have hts := atoms_spec (ws := wsX2_byteAt) BB.pre
  have hown : s.vm.findClass RX2 = some m.cls := findClass_of_methodNamed BB.named
  have hlocks := BB.notSynchronized
  have S := my_fix hx hb hml hown hts
  have inX2 : ∀ w ∈ wsX20, w ∈ wsX2_byteAt := fun w h => List.mem_cons_of_mem _ (List.mem_append_left _ (List.mem_append_right _ h))
  have hS : va_S (fun q => B ≤ q) s.heap s.heap [] := va_S.rf
  have hAB : ∀ q : Nat, (fun q => B ≤ q) q → B ≤ q := fun _ h => h
  have hl := lv_entry ([.ref (a 0), .int x0]) (n := 2) (Nat.le_of_ble_eq_true rfl)
  rw [lg_entry_eq]
  generalize (lg_sl ([.ref (a 0), .int x0]) ++ List.replicate (2 - (lg_sl ([.ref (a 0), .int x0])).length) Slot.unset).toArray = ls at hl ⊢
  have hl : lv_has ls 2 [(0, .ref (a 0)), (1, .int x0)] := hl
  refine lv_iload_n hx hb dX2_byteAt_0 rfl (lv_at hl 1 rfl) ?_
  refine lv_aload_n hx hb dX2_byteAt_1 rfl (lv_at hl 0 rfl) ?_
  refine va_get (D := D) (ci := 0) (v := .int v.1) (C := RX2) (T := TX2) (N := 6) hx hb hts inX2 hown hK0.1 hP 0 rfl rfl 1 (by decide) (hts (.fieldLink RX2 20 "PivotChamber$CommandText" "length" "I") (List.mem_of_getElem? (i := 1) rfl)) (fun _ h9 => h9) rfl dX2_byteAt_2 ?_
  refine lv_icmp_ge (tgt := 19) hx hb dX2_byteAt_5 (by decide) (fun c_1 => ?_) (fun c_1 => ?_)
  · refine lv_iconst (v := (-1)) hx hb dX2_byteAt_19 (by decide) ?_
    exact W.iret hx hb hr (fun t ht hW => ⟨(-1), rfl, (show f_X2_byteAt v x0 = (-1) from by rw [f_X2_byteAt, if_pos c_1]).symm, ht⟩) (fun q hq => absurd hq List.not_mem_nil) dX2_byteAt_20
  · refine lv_aload_n hx hb dX2_byteAt_8 rfl (lv_at hl 0 rfl) ?_
    refine va_get (D := D) (ci := 0) (v := .ref (a 1)) (C := RX2) (T := TX2) (N := 6) hx hb hts inX2 hown hK0.1 hP 0 rfl rfl 0 (by decide) (hts (.fieldLink RX2 14 "PivotChamber$CommandText" "bytes" "LPivotChamber$Row;") (List.mem_of_getElem? (i := 2) rfl)) (fun _ h9 => h9) rfl dX2_byteAt_9 ?_
    refine lv_iload_n hx hb dX2_byteAt_12 rfl (lv_at hl 1 rfl) ?_
    refine rd_goi (va_runV (C := RX4) (As := [.int x0]) (rest := []) S (c_X4_at l D cy g B (a 1) (a 2) 150 v.2.2.2.2.2 x0 (by decide)) (cwV 1 hts gX2_byteAt_X4_at rfl rfl rfl hd_X4_at_V ⟨Nat.le_of_ble_eq_true rfl, Nat.le_of_ble_eq_true rfl⟩) ⟨rdP_blind, va_recv hK0.1 hP (ci := 2) (q0 := 1) rfl rfl, my_preV hK0 hS hAB hP [1, 2] rfl⟩ rfl rfl hl.1 rfl (lv_room (Nat.le_of_ble_eq_true rfl)) dX2_byteAt_13 ⟨Nat.zero_le _, Nat.zero_le _⟩) ?_
    refine lv_goto (tgt := 20) hx hb dX2_byteAt_16 (by decide) ?_
    exact W.iret hx hb hr (fun t ht hW => ⟨(rAt 150 v.2.2.2.2.2 x0), rfl, (show f_X2_byteAt v x0 = (rAt 150 v.2.2.2.2.2 x0) from by rw [f_X2_byteAt, if_neg c_1]).symm, ht⟩) (fun q hq => absurd hq List.not_mem_nil) dX2_byteAt_20
theorem hd_X2_append_S : yX2_append.cls ≠ "java/lang/invoke/MethodHandle" ∧ yX2_append.cls ≠ "java/lang/invoke/VarHandle" ∧ (parseMethodDescriptor yX2_append.desc).map (fun d => d.parameters.length) = some 1 := by decide +kernel
theorem hd_X2_append_V : yX2_append.cls = RX2 ∧ yX2_append.cls ≠ "java/lang/invoke/MethodHandle" ∧ yX2_append.cls ≠ "java/lang/invoke/VarHandle" ∧ (parseMethodDescriptor yX2_append.desc).map (fun d => d.parameters.length) = some 1 := ⟨rfl, hd_X2_append_S⟩
def f_X2_append (v : TxtV) (x0 : Int32) : Int32 × TxtV := ((v.1 + 1), ((v.1 + 1), v.2.1, v.2.2.1, v.2.2.2.1, v.2.2.2.2.1, (rPut 150 v.2.2.2.2.2 v.1 x0)))
set_option maxHeartbeats 400000 in
set_option maxRecDepth 100000 in
theorem c_X2_append (l : Launch) (D : va_G) (cy : Nat → ClassId) (g : Nat → Nat) (B : Nat) (a : Nat → Nat) (v : TxtV) (x0 : Int32) : Met l yX2_append wsX2_append ({ frames := 1, cells := 0, slots := 0, locals := 22 }) (muP D cy g B (wTxt cy g a v) [.ref (a 0), .int x0]) (va_Qi (fun (r : Int32) (u : TxtV) => f_X2_append v x0 = (r, u)) (fun u t => va_P D vwCl (wTxt cy g a u) t.heap) (muA (wTxt cy g a v))) 0 0 (muA (wTxt cy g a v)) := by
  refine Met.ofW (cc := cX2_append) (maxL := 2) (ret := (some .int)) (by decide) rfl ?_
  intro p e s m args below meth c s₁ BB hml hv
  obtain ⟨rfl, hP, hK0, hD0⟩ := hv
  have hx := BB.exec
  have hb := BB.bytes
  have hr := BB.returns
  have hts := atoms_spec (ws := wsX2_append) BB.pre
  have hown : s.vm.findClass RX2 = some m.cls := findClass_of_methodNamed BB.named
  have hlocks := BB.notSynchronized
  have S := my_fix hx hb hml hown hts
  have inX2 : ∀ w ∈ wsX20, w ∈ wsX2_append := fun w h => List.mem_cons_of_mem _ (List.mem_append_left _ (List.mem_append_right _ h))
  have hAB := muB hD0
  have hD := muD hD0
  generalize hAe : muA (wTxt cy g a v) = A at hAB hD ⊢
  have hS : va_S A s.heap s.heap [] := va_S.rf
  have hl := lv_entry ([.ref (a 0), .int x0]) (n := 2) (Nat.le_of_ble_eq_true rfl)
  rw [lg_entry_eq]
  generalize (lg_sl ([.ref (a 0), .int x0]) ++ List.replicate (2 - (lg_sl ([.ref (a 0), .int x0])).length) Slot.unset).toArray = ls at hl ⊢
  have hl : lv_has ls 2 [(0, .ref (a 0)), (1, .int x0)] := hl
  refine lv_aload_n hx hb dX2_append_0 rfl (lv_at hl 0 rfl) ?_
  refine va_get (D := D) (ci := 0) (v := .ref (a 1)) (C := RX2) (T := TX2) (N := 6) hx hb hts inX2 hown hK0.1 hP 0 rfl rfl 0 (by decide) (hts (.fieldLink RX2 14 "PivotChamber$CommandText" "bytes" "LPivotChamber$Row;") (List.mem_of_getElem? (i := 1) rfl)) (fun _ h9 => h9) rfl dX2_append_1 ?_
  refine lv_aload_n hx hb dX2_append_4 rfl (lv_at hl 0 rfl) ?_
  refine va_get (D := D) (ci := 0) (v := .int v.1) (C := RX2) (T := TX2) (N := 6) hx hb hts inX2 hown hK0.1 hP 0 rfl rfl 1 (by decide) (hts (.fieldLink RX2 20 "PivotChamber$CommandText" "length" "I") (List.mem_of_getElem? (i := 2) rfl)) (fun _ h9 => h9) rfl dX2_append_5 ?_
  refine lv_iload_n hx hb dX2_append_8 rfl (lv_at hl 1 rfl) ?_
  refine mu_row (va_runV (C := RX4) (As := [.int v.1, .int x0]) (rest := []) S (c_X4_put l D cy g B (a 1) (a 2) 150 v.2.2.2.2.2 v.1 x0 (by decide)) (cwV 2 hts gX2_append_X4_put rfl rfl rfl hd_X4_put_V ⟨Nat.le_of_ble_eq_true rfl, Nat.le_of_ble_eq_true rfl⟩) ⟨muP_blind, va_recv hK0.1 hP (ci := 2) (q0 := 1) rfl rfl, my_preM hK0 hS hAB hP hD [1, 2] (by decide) rfl⟩ rfl rfl hl.1 rfl (lv_room (Nat.le_of_ble_eq_true rfl)) dX2_append_9 ⟨Nat.zero_le _, Nat.zero_le _⟩) hS hP hD [1, 2] rfl (w2 := (wTxtE cy g a v.1 v.2.1 v.2.2.1 v.2.2.2.1 v.2.2.2.2.1 (rPut 150 v.2.2.2.2.2 v.1 x0))) rfl (fun H locs hP hD hS => ?_)
  refine lv_aload_n hx hb dX2_append_12 rfl (lv_at hl 0 rfl) ?_
  refine lv_dup hx hb dX2_append_13 rfl ?_
  refine va_get (D := D) (ci := 0) (v := .int v.1) (C := RX2) (T := TX2) (N := 6) hx hb hts inX2 hown hK0.1 hP 0 rfl rfl 1 (by decide) (hts (.fieldLink RX2 20 "PivotChamber$CommandText" "length" "I") (List.mem_of_getElem? (i := 2) rfl)) (fun _ h9 => h9) rfl dX2_append_14 ?_
  refine lv_iconst (v := 1) hx hb dX2_append_17 (by decide) ?_
  refine lv_iadd hx hb dX2_append_18 ?_
  refine va_put (D := D) (ci := 0) (v := .int (v.1 + 1)) (ty := .int) (C := RX2) (T := TX2) (N := 6) hx hb hts inX2 tyX2 tyX2_ok nmX2 hown hK0.1 hP hD hS 0 rfl rfl 1 (by decide) (hts (.fieldLink RX2 20 "PivotChamber$CommandText" "length" "I") (List.mem_of_getElem? (i := 2) rfl)) (fun _ h9 => h9) rfl (by decide +kernel) rfl rfl (Nat.le_of_ble_eq_true rfl) dX2_append_19 (fun H locs hP hD hS => ?_)
  have hP : va_P D vwCl (wTxtE cy g a (v.1 + 1) v.2.1 v.2.2.1 v.2.2.2.1 v.2.2.2.2.1 (rPut 150 v.2.2.2.2.2 v.1 x0)) H := hP
  have hD : va_D A (wTxtE cy g a (v.1 + 1) v.2.1 v.2.2.1 v.2.2.2.1 v.2.2.2.2.1 (rPut 150 v.2.2.2.2.2 v.1 x0)) := hD
  refine lv_aload_n hx hb dX2_append_22 rfl (lv_at hl 0 rfl) ?_
  refine va_get (D := D) (ci := 0) (v := .int (v.1 + 1)) (C := RX2) (T := TX2) (N := 6) hx hb hts inX2 hown hK0.1 hP 0 rfl rfl 1 (by decide) (hts (.fieldLink RX2 20 "PivotChamber$CommandText" "length" "I") (List.mem_of_getElem? (i := 2) rfl)) (fun _ h9 => h9) rfl dX2_append_23 ?_
  have hP : va_P D vwCl (wTxt cy g a ((v.1 + 1), v.2.1, v.2.2.1, v.2.2.2.1, v.2.2.2.2.1, (rPut 150 v.2.2.2.2.2 v.1 x0))) H := by rw [wTxt_mk]; exact hP
  have hD : va_D A (wTxt cy g a ((v.1 + 1), v.2.1, v.2.2.1, v.2.2.2.1, v.2.2.2.2.1, (rPut 150 v.2.2.2.2.2 v.1 x0))) := by rw [wTxt_mk]; exact hD
  exact W.iret hx hb hr (fun t ht hW => ⟨⟨(v.1 + 1), ((v.1 + 1), v.2.1, v.2.2.1, v.2.2.2.1, v.2.2.2.2.1, (rPut 150 v.2.2.2.2.2 v.1 x0)), rfl, (show f_X2_append v x0 = ((v.1 + 1), ((v.1 + 1), v.2.1, v.2.2.1, v.2.2.2.1, v.2.2.2.2.1, (rPut 150 v.2.2.2.2.2 v.1 x0))) from by rw [f_X2_append]), by show va_P D vwCl _ t.heap; rw [ht]; exact hP⟩, hS.F ht⟩) hS.2.2 dX2_append_26
theorem hd_X2_skipSpaces_S : yX2_skipSpaces.cls ≠ "java/lang/invoke/MethodHandle" ∧ yX2_skipSpaces.cls ≠ "java/lang/invoke/VarHandle" ∧ (parseMethodDescriptor yX2_skipSpaces.desc).map (fun d => d.parameters.length) = some 0 := by decide +kernel
theorem hd_X2_skipSpaces_V : yX2_skipSpaces.cls = RX2 ∧ yX2_skipSpaces.cls ≠ "java/lang/invoke/MethodHandle" ∧ yX2_skipSpaces.cls ≠ "java/lang/invoke/VarHandle" ∧ (parseMethodDescriptor yX2_skipSpaces.desc).map (fun d => d.parameters.length) = some 0 := ⟨rfl, hd_X2_skipSpaces_S⟩
def f_X2_skipSpaces_st (v : TxtV) (w01_1 : Int32) : (Int32) ⊕ (Int32) := (if v.1 ≤ w01_1 then (.inr w01_1) else (if (f_X2_byteAt (v.1, w01_1, v.2.2) w01_1) = 32 then (.inl (w01_1 + 1)) else (.inr w01_1)))
def f_X2_skipSpaces (v : TxtV) : Int32 := (my_l (lp (fun (x : Int32) => f_X2_skipSpaces_st v x) default (((v.1 : Int32).toInt - (v.2.1 : Int32).toInt).toNat + 1) v.2.1) (fun (w01_1 : Int32) => w01_1))
set_option maxHeartbeats 400000 in
set_option maxRecDepth 100000 in
theorem c_X2_skipSpaces (l : Launch) (D : va_G) (cy : Nat → ClassId) (g : Nat → Nat) (B : Nat) (a : Nat → Nat) (v : TxtV) : Met l yX2_skipSpaces wsX2_skipSpaces ({ frames := 2, cells := 0, slots := 0, locals := 42 }) (muP D cy g B (wTxt cy g a v) [.ref (a 0)]) (va_Qv (fun (u : Int32) => f_X2_skipSpaces v = u) (fun u t => va_P D vwCl (wTxtE cy g a v.1 u v.2.2.1 v.2.2.2.1 v.2.2.2.2.1 v.2.2.2.2.2) t.heap) (muA (wTxt cy g a v))) 0 0 (muA (wTxt cy g a v)) := by
  refine Met.ofW (cc := cX2_skipSpaces) (maxL := 1) (ret := none) (by decide) rfl ?_
  intro p e s m args below meth c s₁ BB hml hv
  obtain ⟨rfl, hP, hK0, hD0⟩ := hv
  have hx := BB.exec
  have hb := BB.bytes
  have hr := BB.returns
  have hts := atoms_spec (ws := wsX2_skipSpaces) BB.pre
  have hown : s.vm.findClass RX2 = some m.cls := findClass_of_methodNamed BB.named
  have hlocks := BB.notSynchronized
  have S := my_fix hx hb hml hown hts
  have inX2 : ∀ w ∈ wsX20, w ∈ wsX2_skipSpaces := fun w h => List.mem_cons_of_mem _ (List.mem_append_left _ (List.mem_append_right _ h))
  have hAB := muB hD0
  have hD := muD hD0
  generalize hAe : muA (wTxt cy g a v) = A at hAB hD ⊢
  have hS : va_S A s.heap s.heap [] := va_S.rf
  have hl := lv_entry ([.ref (a 0)]) (n := 1) (Nat.le_of_ble_eq_true rfl)
  rw [lg_entry_eq]
  generalize (lg_sl ([.ref (a 0)]) ++ List.replicate (1 - (lg_sl ([.ref (a 0)])).length) Slot.unset).toArray = ls at hl ⊢
  have hl : lv_has ls 1 [(0, .ref (a 0))] := hl
  have cont0 : ∀ (w01_1 : Int32), lp (fun (x : Int32) => f_X2_skipSpaces_st v x) default (((v.1 : Int32).toInt - (v.2.1 : Int32).toInt).toNat + 1) v.2.1 = w01_1 → ∀ (H : Heap) (locs : List Loc), va_P D vwCl (wTxtE cy g a v.1 w01_1 v.2.2.1 v.2.2.2.1 v.2.2.2.2.1 v.2.2.2.2.2) H → va_D A (wTxtE cy g a v.1 w01_1 v.2.2.1 v.2.2.2.1 v.2.2.2.2.1 v.2.2.2.2.2) → va_S A s.heap H locs → ∀ ls : Array Slot, lv_has ls 1 [(0, .ref (a 0))] → W p l e (headSpec wsX2_skipSpaces ({ frames := 2, cells := 0, slots := 0, locals := 42 } : Room)).room s m ([.ref (a 0)] : List Value).toArray below meth c H locs 0 0 (MQ below (va_Qv (fun (u : Int32) => f_X2_skipSpaces v = u) (fun u t => va_P D vwCl (wTxtE cy g a v.1 u v.2.2.1 v.2.2.2.1 v.2.2.2.2.1 v.2.2.2.2.2) t.heap) A) ([.ref (a 0)] : List Value).toArray s 0 0 A) (F0 m 37 ls []) := by
    intro w01_1 hE0 H locs hP hD hS ls hl
    have hP : va_P D vwCl (wTxtE cy g a v.1 w01_1 v.2.2.1 v.2.2.2.1 v.2.2.2.2.1 v.2.2.2.2.2) H := hP
    have hD : va_D A (wTxtE cy g a v.1 w01_1 v.2.2.1 v.2.2.2.1 v.2.2.2.2.1 v.2.2.2.2.2) := hD
    exact W.vret hx hb hr (fun t ht hW => ⟨⟨w01_1, rfl, (show f_X2_skipSpaces v = w01_1 from by rw [f_X2_skipSpaces, hE0, my_l_eq]), by show va_P D vwCl _ t.heap; rw [ht]; exact hP⟩, hS.F ht⟩) hS.2.2 dX2_skipSpaces_37
  have key : ∀ (nf : Nat) (w01_1 : Int32), ((v.1 : Int32).toInt - (w01_1 : Int32).toInt).toNat < nf → lp (fun (x : Int32) => f_X2_skipSpaces_st v x) default nf w01_1 = lp (fun (x : Int32) => f_X2_skipSpaces_st v x) default (((v.1 : Int32).toInt - (v.2.1 : Int32).toInt).toNat + 1) v.2.1 → ∀ (H : Heap) (locs : List Loc), va_P D vwCl (wTxtE cy g a v.1 w01_1 v.2.2.1 v.2.2.2.1 v.2.2.2.2.1 v.2.2.2.2.2) H → va_D A (wTxtE cy g a v.1 w01_1 v.2.2.1 v.2.2.2.1 v.2.2.2.2.1 v.2.2.2.2.2) → va_S A s.heap H locs → ∀ ls : Array Slot, lv_has ls 1 [(0, .ref (a 0))] → W p l e (headSpec wsX2_skipSpaces ({ frames := 2, cells := 0, slots := 0, locals := 42 } : Room)).room s m ([.ref (a 0)] : List Value).toArray below meth c H locs 0 0 (MQ below (va_Qv (fun (u : Int32) => f_X2_skipSpaces v = u) (fun u t => va_P D vwCl (wTxtE cy g a v.1 u v.2.2.1 v.2.2.2.1 v.2.2.2.2.1 v.2.2.2.2.2) t.heap) A) ([.ref (a 0)] : List Value).toArray s 0 0 A) (F0 m 0 ls []) := by
    intro n0
    induction n0 with
    | zero => intro w01_1 hlt; exact absurd hlt (Nat.not_lt_zero _)
    | succ n0 ih0 =>
      intro w01_1 hlt0 hF0 H locs hP hD hS ls hl
      refine lv_aload_n hx hb dX2_skipSpaces_0 rfl (lv_at hl 0 rfl) ?_
      refine va_get (D := D) (ci := 0) (v := .int w01_1) (C := RX2) (T := TX2) (N := 6) hx hb hts inX2 hown hK0.1 hP 0 rfl rfl 2 (by decide) (hts (.fieldLink RX2 28 "PivotChamber$CommandText" "place" "I") (List.mem_of_getElem? (i := 1) rfl)) (fun _ h9 => h9) rfl dX2_skipSpaces_1 ?_
      refine lv_aload_n hx hb dX2_skipSpaces_4 rfl (lv_at hl 0 rfl) ?_
      refine va_get (D := D) (ci := 0) (v := .int v.1) (C := RX2) (T := TX2) (N := 6) hx hb hts inX2 hown hK0.1 hP 0 rfl rfl 1 (by decide) (hts (.fieldLink RX2 20 "PivotChamber$CommandText" "length" "I") (List.mem_of_getElem? (i := 2) rfl)) (fun _ h9 => h9) rfl dX2_skipSpaces_5 ?_
      refine lv_icmp_ge (tgt := 37) hx hb dX2_skipSpaces_8 (by decide) (fun c_2 => ?_) (fun c_2 => ?_)
      · have hst : f_X2_skipSpaces_st v w01_1 = .inr w01_1 := by rw [f_X2_skipSpaces_st, if_pos c_2]
        exact cont0 w01_1 (lp_inr hst hF0) _ _ hP hD hS _ (lv_sub hl [0] rfl)
      · refine lv_aload_n hx hb dX2_skipSpaces_11 rfl (lv_at hl 0 rfl) ?_
        refine lv_aload_n hx hb dX2_skipSpaces_12 rfl (lv_at hl 0 rfl) ?_
        refine va_get (D := D) (ci := 0) (v := .int w01_1) (C := RX2) (T := TX2) (N := 6) hx hb hts inX2 hown hK0.1 hP 0 rfl rfl 2 (by decide) (hts (.fieldLink RX2 28 "PivotChamber$CommandText" "place" "I") (List.mem_of_getElem? (i := 1) rfl)) (fun _ h9 => h9) rfl dX2_skipSpaces_13 ?_
        have hP : va_P D vwCl (wTxt cy g a (v.1, w01_1, v.2.2)) H := by rw [wTxt_mk]; exact hP
        have hD : va_D A (wTxt cy g a (v.1, w01_1, v.2.2)) := by rw [wTxt_mk]; exact hD
        refine rd_goi (va_runV (C := RX2) (As := [.int w01_1]) (rest := []) S (c_X2_byteAt l D cy g B a (v.1, w01_1, v.2.2) w01_1) (cwV 1 hts gX2_skipSpaces_X2_byteAt rfl rfl rfl hd_X2_byteAt_V ⟨Nat.le_of_ble_eq_true rfl, Nat.le_of_ble_eq_true rfl⟩) ⟨rdP_blind, va_recv hK0.1 hP (ci := 0) (q0 := 0) rfl rfl, my_preP hK0 hS hAB hP⟩ rfl rfl hl.1 rfl (lv_room (Nat.le_of_ble_eq_true rfl)) dX2_skipSpaces_16 ⟨Nat.zero_le _, Nat.zero_le _⟩) ?_
        refine lv_bipush (v := 32) hx hb dX2_skipSpaces_19 (by decide) ?_
        refine lv_icmp_ne (tgt := 37) hx hb dX2_skipSpaces_21 (by decide) (fun c_3 => ?_) (fun c_3 => ?_)
        · have hst : f_X2_skipSpaces_st v w01_1 = .inr w01_1 := by rw [f_X2_skipSpaces_st, if_neg c_2, if_neg c_3]
          exact cont0 w01_1 (lp_inr hst hF0) _ _ hP hD hS _ (lv_sub hl [0] rfl)
        · refine lv_aload_n hx hb dX2_skipSpaces_24 rfl (lv_at hl 0 rfl) ?_
          refine lv_dup hx hb dX2_skipSpaces_25 rfl ?_
          refine va_get (D := D) (ci := 0) (v := .int w01_1) (C := RX2) (T := TX2) (N := 6) hx hb hts inX2 hown hK0.1 hP 0 rfl rfl 2 (by decide) (hts (.fieldLink RX2 28 "PivotChamber$CommandText" "place" "I") (List.mem_of_getElem? (i := 1) rfl)) (fun _ h9 => h9) rfl dX2_skipSpaces_26 ?_
          refine lv_iconst (v := 1) hx hb dX2_skipSpaces_29 (by decide) ?_
          refine lv_iadd hx hb dX2_skipSpaces_30 ?_
          refine va_put (D := D) (ci := 0) (v := .int (w01_1 + 1)) (ty := .int) (C := RX2) (T := TX2) (N := 6) hx hb hts inX2 tyX2 tyX2_ok nmX2 hown hK0.1 hP hD hS 0 rfl rfl 2 (by decide) (hts (.fieldLink RX2 28 "PivotChamber$CommandText" "place" "I") (List.mem_of_getElem? (i := 1) rfl)) (fun _ h9 => h9) rfl (by decide +kernel) rfl rfl (Nat.le_of_ble_eq_true rfl) dX2_skipSpaces_31 (fun H locs hP hD hS => ?_)
          have hP : va_P D vwCl (wTxtE cy g a v.1 (w01_1 + 1) v.2.2.1 v.2.2.2.1 v.2.2.2.2.1 v.2.2.2.2.2) H := hP
          have hD : va_D A (wTxtE cy g a v.1 (w01_1 + 1) v.2.2.1 v.2.2.2.1 v.2.2.2.2.1 v.2.2.2.2.2) := hD
          refine lv_goto (tgt := 0) hx hb dX2_skipSpaces_34 (by decide) ?_
          have hst : f_X2_skipSpaces_st v w01_1 = .inl (w01_1 + 1) := by rw [f_X2_skipSpaces_st, if_neg c_2, if_pos c_3]
          have hmu : ((v.1 : Int32).toInt - ((w01_1 + 1) : Int32).toInt).toNat < ((v.1 : Int32).toInt - (w01_1 : Int32).toInt).toNat := mu_up c_2
          exact ih0 (w01_1 + 1) (Nat.lt_of_lt_of_le hmu (Nat.le_of_lt_succ hlt0)) (lp_inl hst hF0) _ _ hP hD hS _ (lv_sub hl [0] rfl)
  exact key (((v.1 : Int32).toInt - (v.2.1 : Int32).toInt).toNat + 1) v.2.1 (Nat.lt_succ_self _) rfl _ _ hP hD hS _ (lv_sub hl [0] rfl)
theorem hd_X2_hasCommand_S : yX2_hasCommand.cls ≠ "java/lang/invoke/MethodHandle" ∧ yX2_hasCommand.cls ≠ "java/lang/invoke/VarHandle" ∧ (parseMethodDescriptor yX2_hasCommand.desc).map (fun d => d.parameters.length) = some 0 := by decide +kernel
theorem hd_X2_hasCommand_V : yX2_hasCommand.cls = RX2 ∧ yX2_hasCommand.cls ≠ "java/lang/invoke/MethodHandle" ∧ yX2_hasCommand.cls ≠ "java/lang/invoke/VarHandle" ∧ (parseMethodDescriptor yX2_hasCommand.desc).map (fun d => d.parameters.length) = some 0 := ⟨rfl, hd_X2_hasCommand_S⟩
def f_X2_hasCommand (v : TxtV) : Int32 × (Int32) := (my_l (f_X2_skipSpaces v) (fun (u_1 : Int32) => (if v.1 ≤ u_1 then (0, u_1) else (1, u_1))))
set_option maxHeartbeats 400000 in
set_option maxRecDepth 100000 in
theorem c_X2_hasCommand (l : Launch) (D : va_G) (cy : Nat → ClassId) (g : Nat → Nat) (B : Nat) (a : Nat → Nat) (v : TxtV) : Met l yX2_hasCommand wsX2_hasCommand ({ frames := 3, cells := 0, slots := 0, locals := 62 }) (muP D cy g B (wTxt cy g a v) [.ref (a 0)]) (va_Qi (fun (r : Int32) (u : Int32) => f_X2_hasCommand v = (r, u)) (fun u t => va_P D vwCl (wTxtE cy g a v.1 u v.2.2.1 v.2.2.2.1 v.2.2.2.2.1 v.2.2.2.2.2) t.heap) (muA (wTxt cy g a v))) 0 0 (muA (wTxt cy g a v)) := by
  refine Met.ofW (cc := cX2_hasCommand) (maxL := 1) (ret := (some .boolean)) (by decide) rfl ?_
  intro p e s m args below meth c s₁ BB hml hv
  obtain ⟨rfl, hP, hK0, hD0⟩ := hv
  have hx := BB.exec
  have hb := BB.bytes
  have hr := BB.returns
  have hts := atoms_spec (ws := wsX2_hasCommand) BB.pre
  have hown : s.vm.findClass RX2 = some m.cls := findClass_of_methodNamed BB.named
  have hlocks := BB.notSynchronized
  have S := my_fix hx hb hml hown hts
  have inX2 : ∀ w ∈ wsX20, w ∈ wsX2_hasCommand := fun w h => List.mem_cons_of_mem _ (List.mem_append_left _ (List.mem_append_right _ h))
  have hAB := muB hD0
  have hD := muD hD0
  generalize hAe : muA (wTxt cy g a v) = A at hAB hD ⊢
  have hS : va_S A s.heap s.heap [] := va_S.rf
  have hl := lv_entry ([.ref (a 0)]) (n := 1) (Nat.le_of_ble_eq_true rfl)
  rw [lg_entry_eq]
  generalize (lg_sl ([.ref (a 0)]) ++ List.replicate (1 - (lg_sl ([.ref (a 0)])).length) Slot.unset).toArray = ls at hl ⊢
  have hl : lv_has ls 1 [(0, .ref (a 0))] := hl
  refine lv_aload_n hx hb dX2_hasCommand_0 rfl (lv_at hl 0 rfl) ?_
  refine mu_allv (wf := fun (u_1 : Int32) => (wTxtE cy g a v.1 u_1 v.2.2.1 v.2.2.2.1 v.2.2.2.2.1 v.2.2.2.2.2)) (va_runV (C := RX2) (As := []) (rest := []) S (c_X2_skipSpaces l D cy g B a v) (cwV 0 hts gX2_hasCommand_X2_skipSpaces rfl rfl rfl hd_X2_skipSpaces_V ⟨Nat.le_of_ble_eq_true rfl, Nat.le_of_ble_eq_true rfl⟩) ⟨muP_blind, va_recv hK0.1 hP (ci := 0) (q0 := 0) rfl rfl, my_preA hK0 hS hAB hP hD⟩ rfl rfl hl.1 rfl (lv_room (Nat.le_of_ble_eq_true rfl)) dX2_hasCommand_1 ⟨Nat.zero_le _, Nat.zero_le _⟩) hS hD (fun _ => by simp only [List.map_cons, List.map_nil, adrSet, adrSetE, adrPow, adrPowE, adrTxt, adrTxtE, adrSav, adrSavE, adrPCo, adrMod, adrModE]) (fun u_1 H locs hw_2 hP hD hS => ?_)
  refine lv_aload_n hx hb dX2_hasCommand_4 rfl (lv_at hl 0 rfl) ?_
  refine va_get (D := D) (ci := 0) (v := .int u_1) (C := RX2) (T := TX2) (N := 6) hx hb hts inX2 hown hK0.1 hP 0 rfl rfl 2 (by decide) (hts (.fieldLink RX2 28 "PivotChamber$CommandText" "place" "I") (List.mem_of_getElem? (i := 1) rfl)) (fun _ h9 => h9) rfl dX2_hasCommand_5 ?_
  refine lv_aload_n hx hb dX2_hasCommand_8 rfl (lv_at hl 0 rfl) ?_
  refine va_get (D := D) (ci := 0) (v := .int v.1) (C := RX2) (T := TX2) (N := 6) hx hb hts inX2 hown hK0.1 hP 0 rfl rfl 1 (by decide) (hts (.fieldLink RX2 20 "PivotChamber$CommandText" "length" "I") (List.mem_of_getElem? (i := 2) rfl)) (fun _ h9 => h9) rfl dX2_hasCommand_9 ?_
  refine lv_icmp_ge (tgt := 19) hx hb dX2_hasCommand_12 (by decide) (fun c_3 => ?_) (fun c_3 => ?_)
  · refine lv_iconst (v := 0) hx hb dX2_hasCommand_19 (by decide) ?_
    have hP : va_P D vwCl (wTxtE cy g a v.1 u_1 v.2.2.1 v.2.2.2.1 v.2.2.2.2.1 v.2.2.2.2.2) H := hP
    have hD : va_D A (wTxtE cy g a v.1 u_1 v.2.2.1 v.2.2.2.1 v.2.2.2.2.1 v.2.2.2.2.2) := hD
    exact W.zret (ty := .boolean) (v := 0) hx hb hr (my_nz (by decide)) (fun t ht hW => ⟨⟨0, u_1, rfl, (show f_X2_hasCommand v = (0, u_1) from by rw [f_X2_hasCommand, hw_2, my_l_eq, if_pos c_3]), by show va_P D vwCl _ t.heap; rw [ht]; exact hP⟩, hS.F ht⟩) hS.2.2 dX2_hasCommand_20
  · refine lv_iconst (v := 1) hx hb dX2_hasCommand_15 (by decide) ?_
    refine lv_goto (tgt := 20) hx hb dX2_hasCommand_16 (by decide) ?_
    have hP : va_P D vwCl (wTxtE cy g a v.1 u_1 v.2.2.1 v.2.2.2.1 v.2.2.2.2.1 v.2.2.2.2.2) H := hP
    have hD : va_D A (wTxtE cy g a v.1 u_1 v.2.2.1 v.2.2.2.1 v.2.2.2.2.1 v.2.2.2.2.2) := hD
    exact W.zret (ty := .boolean) (v := 1) hx hb hr (my_nz (by decide)) (fun t ht hW => ⟨⟨1, u_1, rfl, (show f_X2_hasCommand v = (1, u_1) from by rw [f_X2_hasCommand, hw_2, my_l_eq, if_neg c_3]), by show va_P D vwCl _ t.heap; rw [ht]; exact hP⟩, hS.F ht⟩) hS.2.2 dX2_hasCommand_20
theorem hd_X2_readNumber_S : yX2_readNumber.cls ≠ "java/lang/invoke/MethodHandle" ∧ yX2_readNumber.cls ≠ "java/lang/invoke/VarHandle" ∧ (parseMethodDescriptor yX2_readNumber.desc).map (fun d => d.parameters.length) = some 1 := by decide +kernel
theorem hd_X2_readNumber_V : yX2_readNumber.cls = RX2 ∧ yX2_readNumber.cls ≠ "java/lang/invoke/MethodHandle" ∧ yX2_readNumber.cls ≠ "java/lang/invoke/VarHandle" ∧ (parseMethodDescriptor yX2_readNumber.desc).map (fun d => d.parameters.length) = some 1 := ⟨rfl, hd_X2_readNumber_S⟩
def f_X2_readNumber_st (v : TxtV) (u_1 : Int32) (i4_4 : Int32) (w01_5 : Int32) : (Int32 × Int32) ⊕ (Int32 × Int32) := (if v.1 ≤ w01_5 then (.inr (i4_4, w01_5)) else (if (u_1 + 3) ≤ w01_5 then (.inr (i4_4, w01_5)) else (if (f_X2_isDigit (f_X2_byteAt (v.1, w01_5, v.2.2) w01_5)) = 0 then (.inr (i4_4, w01_5)) else (.inl ((((i4_4 * 10) + (f_X2_byteAt (v.1, w01_5, v.2.2) w01_5)) - 48), (w01_5 + 1))))))
def f_X2_readNumber (v : TxtV) (x0 : Int32) : Int32 × (Int32 × Int32 × Int32) := (my_l (f_X2_skipSpaces v) (fun (u_1 : Int32) => (if u_1 = v.2.1 then (0, (u_1, v.2.2.1, v.2.2.2.1)) else (my_t2 (lp (fun (x : Int32 × Int32) => f_X2_readNumber_st v u_1 x.1 x.2) default (((v.1 : Int32).toInt - (u_1 : Int32).toInt).toNat + 1) (0, u_1)) (fun (i4_4 : Int32) (w01_5 : Int32) => (if x0 = 0 then (if w01_5 ≤ u_1 then (0, (w01_5, i4_4, v.2.2.2.1)) else (1, (w01_5, i4_4, v.2.2.2.1))) else (if w01_5 ≤ u_1 then (0, (w01_5, v.2.2.1, i4_4)) else (1, (w01_5, v.2.2.1, i4_4)))))))))
set_option maxHeartbeats 400000 in
set_option maxRecDepth 100000 in
theorem c_X2_readNumber (l : Launch) (D : va_G) (cy : Nat → ClassId) (g : Nat → Nat) (B : Nat) (a : Nat → Nat) (v : TxtV) (x0 : Int32) : Met l yX2_readNumber wsX2_readNumber ({ frames := 3, cells := 0, slots := 0, locals := 62 }) (muP D cy g B (wTxt cy g a v) [.ref (a 0), .int x0]) (va_Qi (fun (r : Int32) (u : Int32 × Int32 × Int32) => f_X2_readNumber v x0 = (r, u)) (fun u t => va_P D vwCl (wTxtE cy g a v.1 u.1 u.2.1 u.2.2 v.2.2.2.2.1 v.2.2.2.2.2) t.heap) (muA (wTxt cy g a v))) 0 0 (muA (wTxt cy g a v)) := by
  refine Met.ofW (cc := cX2_readNumber) (maxL := 5) (ret := (some .boolean)) (by decide) rfl ?_
  intro p e s m args below meth c s₁ BB hml hv
  obtain ⟨rfl, hP, hK0, hD0⟩ := hv
  have hx := BB.exec
  have hb := BB.bytes
  have hr := BB.returns
  have hts := atoms_spec (ws := wsX2_readNumber) BB.pre
  have hown : s.vm.findClass RX2 = some m.cls := findClass_of_methodNamed BB.named
  have hlocks := BB.notSynchronized
  have S := my_fix hx hb hml hown hts
  have inX2 : ∀ w ∈ wsX20, w ∈ wsX2_readNumber := fun w h => List.mem_cons_of_mem _ (List.mem_append_left _ (List.mem_append_right _ h))
  have hAB := muB hD0
  have hD := muD hD0
  generalize hAe : muA (wTxt cy g a v) = A at hAB hD ⊢
  have hS : va_S A s.heap s.heap [] := va_S.rf
  have hl := lv_entry ([.ref (a 0), .int x0]) (n := 5) (Nat.le_of_ble_eq_true rfl)
  rw [lg_entry_eq]
  generalize (lg_sl ([.ref (a 0), .int x0]) ++ List.replicate (5 - (lg_sl ([.ref (a 0), .int x0])).length) Slot.unset).toArray = ls at hl ⊢
  have hl : lv_has ls 5 [(0, .ref (a 0)), (1, .int x0)] := hl
  refine lv_aload_n hx hb dX2_readNumber_0 rfl (lv_at hl 0 rfl) ?_
  refine va_get (D := D) (ci := 0) (v := .int v.2.1) (C := RX2) (T := TX2) (N := 6) hx hb hts inX2 hown hK0.1 hP 0 rfl rfl 2 (by decide) (hts (.fieldLink RX2 28 "PivotChamber$CommandText" "place" "I") (List.mem_of_getElem? (i := 1) rfl)) (fun _ h9 => h9) rfl dX2_readNumber_1 ?_
  refine lv_istore_n (lv' := [(2, .int v.2.1), (0, .ref (a 0)), (1, .int x0)]) hx hb dX2_readNumber_4 rfl hl (by decide) rfl (fun ls hl => ?_)
  refine lv_aload_n hx hb dX2_readNumber_5 rfl (lv_at hl 1 rfl) ?_
  refine mu_allv (wf := fun (u_1 : Int32) => (wTxtE cy g a v.1 u_1 v.2.2.1 v.2.2.2.1 v.2.2.2.2.1 v.2.2.2.2.2)) (va_runV (C := RX2) (As := []) (rest := []) S (c_X2_skipSpaces l D cy g B a v) (cwV 0 hts gX2_readNumber_X2_skipSpaces rfl rfl rfl hd_X2_skipSpaces_V ⟨Nat.le_of_ble_eq_true rfl, Nat.le_of_ble_eq_true rfl⟩) ⟨muP_blind, va_recv hK0.1 hP (ci := 0) (q0 := 0) rfl rfl, my_preA hK0 hS hAB hP hD⟩ rfl rfl hl.1 rfl (lv_room (Nat.le_of_ble_eq_true rfl)) dX2_readNumber_6 ⟨Nat.zero_le _, Nat.zero_le _⟩) hS hD (fun _ => by simp only [List.map_cons, List.map_nil, adrSet, adrSetE, adrPow, adrPowE, adrTxt, adrTxtE, adrSav, adrSavE, adrPCo, adrMod, adrModE]) (fun u_1 H locs hw_2 hP hD hS => ?_)
  refine lv_aload_n hx hb dX2_readNumber_9 rfl (lv_at hl 1 rfl) ?_
  refine va_get (D := D) (ci := 0) (v := .int u_1) (C := RX2) (T := TX2) (N := 6) hx hb hts inX2 hown hK0.1 hP 0 rfl rfl 2 (by decide) (hts (.fieldLink RX2 28 "PivotChamber$CommandText" "place" "I") (List.mem_of_getElem? (i := 1) rfl)) (fun _ h9 => h9) rfl dX2_readNumber_10 ?_
  refine lv_iload_n hx hb dX2_readNumber_13 rfl (lv_at hl 0 rfl) ?_
  refine lv_icmp_ne (tgt := 19) hx hb dX2_readNumber_14 (by decide) (fun c_3 => ?_) (fun c_3 => ?_)
  · refine lv_aload_n hx hb dX2_readNumber_19 rfl (lv_at hl 1 rfl) ?_
    refine va_get (D := D) (ci := 0) (v := .int u_1) (C := RX2) (T := TX2) (N := 6) hx hb hts inX2 hown hK0.1 hP 0 rfl rfl 2 (by decide) (hts (.fieldLink RX2 28 "PivotChamber$CommandText" "place" "I") (List.mem_of_getElem? (i := 1) rfl)) (fun _ h9 => h9) rfl dX2_readNumber_20 ?_
    refine lv_istore_n (lv' := [(3, .int u_1), (2, .int v.2.1), (0, .ref (a 0)), (1, .int x0)]) hx hb dX2_readNumber_23 rfl hl (by decide) rfl (fun ls hl => ?_)
    refine lv_iconst (v := 0) hx hb dX2_readNumber_24 (by decide) ?_
    refine lv_istore (lv' := [(4, .int 0), (3, .int u_1), (2, .int v.2.1), (0, .ref (a 0)), (1, .int x0)]) hx hb dX2_readNumber_25 hl (by decide) rfl (fun ls hl => ?_)
    have cont0 : ∀ (i4_4 : Int32) (w01_5 : Int32), lp (fun (x : Int32 × Int32) => f_X2_readNumber_st v u_1 x.1 x.2) default (((v.1 : Int32).toInt - (u_1 : Int32).toInt).toNat + 1) (0, u_1) = (i4_4, w01_5) → ∀ (H : Heap) (locs : List Loc), va_P D vwCl (wTxtE cy g a v.1 w01_5 v.2.2.1 v.2.2.2.1 v.2.2.2.2.1 v.2.2.2.2.2) H → va_D A (wTxtE cy g a v.1 w01_5 v.2.2.1 v.2.2.2.1 v.2.2.2.2.1 v.2.2.2.2.2) → va_S A s.heap H locs → ∀ ls : Array Slot, lv_has ls 5 [(0, .ref (a 0)), (1, .int x0), (2, .int v.2.1), (3, .int u_1), (4, .int i4_4)] → W p l e (headSpec wsX2_readNumber ({ frames := 3, cells := 0, slots := 0, locals := 62 } : Room)).room s m ([.ref (a 0), .int x0] : List Value).toArray below meth c H locs 0 0 (MQ below (va_Qi (fun (r : Int32) (u : Int32 × Int32 × Int32) => f_X2_readNumber v x0 = (r, u)) (fun u t => va_P D vwCl (wTxtE cy g a v.1 u.1 u.2.1 u.2.2 v.2.2.2.2.1 v.2.2.2.2.2) t.heap) A) ([.ref (a 0), .int x0] : List Value).toArray s 0 0 A) (F0 m 94 ls []) := by
      intro i4_4 w01_5 hE0 H locs hP hD hS ls hl
      refine lv_iload_n hx hb dX2_readNumber_94 rfl (lv_at hl 1 rfl) ?_
      refine lv_if_ne (tgt := 107) hx hb dX2_readNumber_95 (by decide) (fun c_6 => ?_) (fun c_6 => ?_)
      · refine lv_aload_n hx hb dX2_readNumber_107 rfl (lv_at hl 0 rfl) ?_
        refine lv_iload hx hb dX2_readNumber_108 (lv_at hl 4 rfl) ?_
        refine va_put (D := D) (ci := 0) (v := .int i4_4) (ty := .int) (C := RX2) (T := TX2) (N := 6) hx hb hts inX2 tyX2 tyX2_ok nmX2 hown hK0.1 hP hD hS 0 rfl rfl 5 (by decide) (hts (.fieldLink RX2 61 "PivotChamber$CommandText" "second" "I") (List.mem_of_getElem? (i := 4) rfl)) (fun _ h9 => h9) rfl (by decide +kernel) rfl rfl (Nat.le_of_ble_eq_true rfl) dX2_readNumber_110 (fun H locs hP hD hS => ?_)
        have hP : va_P D vwCl (wTxtE cy g a v.1 w01_5 v.2.2.1 i4_4 v.2.2.2.2.1 v.2.2.2.2.2) H := hP
        have hD : va_D A (wTxtE cy g a v.1 w01_5 v.2.2.1 i4_4 v.2.2.2.2.1 v.2.2.2.2.2) := hD
        refine lv_aload_n hx hb dX2_readNumber_113 rfl (lv_at hl 0 rfl) ?_
        refine va_get (D := D) (ci := 0) (v := .int w01_5) (C := RX2) (T := TX2) (N := 6) hx hb hts inX2 hown hK0.1 hP 0 rfl rfl 2 (by decide) (hts (.fieldLink RX2 28 "PivotChamber$CommandText" "place" "I") (List.mem_of_getElem? (i := 1) rfl)) (fun _ h9 => h9) rfl dX2_readNumber_114 ?_
        refine lv_iload_n hx hb dX2_readNumber_117 rfl (lv_at hl 3 rfl) ?_
        refine lv_icmp_le (tgt := 125) hx hb dX2_readNumber_118 (by decide) (fun c_7 => ?_) (fun c_7 => ?_)
        · refine lv_iconst (v := 0) hx hb dX2_readNumber_125 (by decide) ?_
          have hP : va_P D vwCl (wTxtE cy g a v.1 w01_5 v.2.2.1 i4_4 v.2.2.2.2.1 v.2.2.2.2.2) H := hP
          have hD : va_D A (wTxtE cy g a v.1 w01_5 v.2.2.1 i4_4 v.2.2.2.2.1 v.2.2.2.2.2) := hD
          exact W.zret (ty := .boolean) (v := 0) hx hb hr (my_nz (by decide)) (fun t ht hW => ⟨⟨0, (w01_5, v.2.2.1, i4_4), rfl, (show f_X2_readNumber v x0 = (0, (w01_5, v.2.2.1, i4_4)) from by rw [f_X2_readNumber, hw_2, my_l_eq, if_neg c_3, hE0, my_t2_eq, if_neg c_6, if_pos c_7]), by show va_P D vwCl _ t.heap; rw [ht]; exact hP⟩, hS.F ht⟩) hS.2.2 dX2_readNumber_126
        · refine lv_iconst (v := 1) hx hb dX2_readNumber_121 (by decide) ?_
          refine lv_goto (tgt := 126) hx hb dX2_readNumber_122 (by decide) ?_
          have hP : va_P D vwCl (wTxtE cy g a v.1 w01_5 v.2.2.1 i4_4 v.2.2.2.2.1 v.2.2.2.2.2) H := hP
          have hD : va_D A (wTxtE cy g a v.1 w01_5 v.2.2.1 i4_4 v.2.2.2.2.1 v.2.2.2.2.2) := hD
          exact W.zret (ty := .boolean) (v := 1) hx hb hr (my_nz (by decide)) (fun t ht hW => ⟨⟨1, (w01_5, v.2.2.1, i4_4), rfl, (show f_X2_readNumber v x0 = (1, (w01_5, v.2.2.1, i4_4)) from by rw [f_X2_readNumber, hw_2, my_l_eq, if_neg c_3, hE0, my_t2_eq, if_neg c_6, if_neg c_7]), by show va_P D vwCl _ t.heap; rw [ht]; exact hP⟩, hS.F ht⟩) hS.2.2 dX2_readNumber_126
      · refine lv_aload_n hx hb dX2_readNumber_98 rfl (lv_at hl 0 rfl) ?_
        refine lv_iload hx hb dX2_readNumber_99 (lv_at hl 4 rfl) ?_
        refine va_put (D := D) (ci := 0) (v := .int i4_4) (ty := .int) (C := RX2) (T := TX2) (N := 6) hx hb hts inX2 tyX2 tyX2_ok nmX2 hown hK0.1 hP hD hS 0 rfl rfl 4 (by decide) (hts (.fieldLink RX2 58 "PivotChamber$CommandText" "first" "I") (List.mem_of_getElem? (i := 3) rfl)) (fun _ h9 => h9) rfl (by decide +kernel) rfl rfl (Nat.le_of_ble_eq_true rfl) dX2_readNumber_101 (fun H locs hP hD hS => ?_)
        have hP : va_P D vwCl (wTxtE cy g a v.1 w01_5 i4_4 v.2.2.2.1 v.2.2.2.2.1 v.2.2.2.2.2) H := hP
        have hD : va_D A (wTxtE cy g a v.1 w01_5 i4_4 v.2.2.2.1 v.2.2.2.2.1 v.2.2.2.2.2) := hD
        refine lv_goto (tgt := 113) hx hb dX2_readNumber_104 (by decide) ?_
        refine lv_aload_n hx hb dX2_readNumber_113 rfl (lv_at hl 0 rfl) ?_
        refine va_get (D := D) (ci := 0) (v := .int w01_5) (C := RX2) (T := TX2) (N := 6) hx hb hts inX2 hown hK0.1 hP 0 rfl rfl 2 (by decide) (hts (.fieldLink RX2 28 "PivotChamber$CommandText" "place" "I") (List.mem_of_getElem? (i := 1) rfl)) (fun _ h9 => h9) rfl dX2_readNumber_114 ?_
        refine lv_iload_n hx hb dX2_readNumber_117 rfl (lv_at hl 3 rfl) ?_
        refine lv_icmp_le (tgt := 125) hx hb dX2_readNumber_118 (by decide) (fun c_8 => ?_) (fun c_8 => ?_)
        · refine lv_iconst (v := 0) hx hb dX2_readNumber_125 (by decide) ?_
          have hP : va_P D vwCl (wTxtE cy g a v.1 w01_5 i4_4 v.2.2.2.1 v.2.2.2.2.1 v.2.2.2.2.2) H := hP
          have hD : va_D A (wTxtE cy g a v.1 w01_5 i4_4 v.2.2.2.1 v.2.2.2.2.1 v.2.2.2.2.2) := hD
          exact W.zret (ty := .boolean) (v := 0) hx hb hr (my_nz (by decide)) (fun t ht hW => ⟨⟨0, (w01_5, i4_4, v.2.2.2.1), rfl, (show f_X2_readNumber v x0 = (0, (w01_5, i4_4, v.2.2.2.1)) from by rw [f_X2_readNumber, hw_2, my_l_eq, if_neg c_3, hE0, my_t2_eq, if_pos c_6, if_pos c_8]), by show va_P D vwCl _ t.heap; rw [ht]; exact hP⟩, hS.F ht⟩) hS.2.2 dX2_readNumber_126
        · refine lv_iconst (v := 1) hx hb dX2_readNumber_121 (by decide) ?_
          refine lv_goto (tgt := 126) hx hb dX2_readNumber_122 (by decide) ?_
          have hP : va_P D vwCl (wTxtE cy g a v.1 w01_5 i4_4 v.2.2.2.1 v.2.2.2.2.1 v.2.2.2.2.2) H := hP
          have hD : va_D A (wTxtE cy g a v.1 w01_5 i4_4 v.2.2.2.1 v.2.2.2.2.1 v.2.2.2.2.2) := hD
          exact W.zret (ty := .boolean) (v := 1) hx hb hr (my_nz (by decide)) (fun t ht hW => ⟨⟨1, (w01_5, i4_4, v.2.2.2.1), rfl, (show f_X2_readNumber v x0 = (1, (w01_5, i4_4, v.2.2.2.1)) from by rw [f_X2_readNumber, hw_2, my_l_eq, if_neg c_3, hE0, my_t2_eq, if_pos c_6, if_neg c_8]), by show va_P D vwCl _ t.heap; rw [ht]; exact hP⟩, hS.F ht⟩) hS.2.2 dX2_readNumber_126
    have key : ∀ (nf : Nat) (i4_4 : Int32) (w01_5 : Int32), ((v.1 : Int32).toInt - (w01_5 : Int32).toInt).toNat < nf → lp (fun (x : Int32 × Int32) => f_X2_readNumber_st v u_1 x.1 x.2) default nf (i4_4, w01_5) = lp (fun (x : Int32 × Int32) => f_X2_readNumber_st v u_1 x.1 x.2) default (((v.1 : Int32).toInt - (u_1 : Int32).toInt).toNat + 1) (0, u_1) → ∀ (H : Heap) (locs : List Loc), va_P D vwCl (wTxtE cy g a v.1 w01_5 v.2.2.1 v.2.2.2.1 v.2.2.2.2.1 v.2.2.2.2.2) H → va_D A (wTxtE cy g a v.1 w01_5 v.2.2.1 v.2.2.2.1 v.2.2.2.2.1 v.2.2.2.2.2) → va_S A s.heap H locs → ∀ ls : Array Slot, lv_has ls 5 [(0, .ref (a 0)), (1, .int x0), (2, .int v.2.1), (3, .int u_1), (4, .int i4_4)] → W p l e (headSpec wsX2_readNumber ({ frames := 3, cells := 0, slots := 0, locals := 62 } : Room)).room s m ([.ref (a 0), .int x0] : List Value).toArray below meth c H locs 0 0 (MQ below (va_Qi (fun (r : Int32) (u : Int32 × Int32 × Int32) => f_X2_readNumber v x0 = (r, u)) (fun u t => va_P D vwCl (wTxtE cy g a v.1 u.1 u.2.1 u.2.2 v.2.2.2.2.1 v.2.2.2.2.2) t.heap) A) ([.ref (a 0), .int x0] : List Value).toArray s 0 0 A) (F0 m 27 ls []) := by
      intro n0
      induction n0 with
      | zero => intro i4_4 w01_5 hlt; exact absurd hlt (Nat.not_lt_zero _)
      | succ n0 ih0 =>
        intro i4_4 w01_5 hlt0 hF0 H locs hP hD hS ls hl
        refine lv_aload_n hx hb dX2_readNumber_27 rfl (lv_at hl 0 rfl) ?_
        refine va_get (D := D) (ci := 0) (v := .int w01_5) (C := RX2) (T := TX2) (N := 6) hx hb hts inX2 hown hK0.1 hP 0 rfl rfl 2 (by decide) (hts (.fieldLink RX2 28 "PivotChamber$CommandText" "place" "I") (List.mem_of_getElem? (i := 1) rfl)) (fun _ h9 => h9) rfl dX2_readNumber_28 ?_
        refine lv_aload_n hx hb dX2_readNumber_31 rfl (lv_at hl 0 rfl) ?_
        refine va_get (D := D) (ci := 0) (v := .int v.1) (C := RX2) (T := TX2) (N := 6) hx hb hts inX2 hown hK0.1 hP 0 rfl rfl 1 (by decide) (hts (.fieldLink RX2 20 "PivotChamber$CommandText" "length" "I") (List.mem_of_getElem? (i := 2) rfl)) (fun _ h9 => h9) rfl dX2_readNumber_32 ?_
        refine lv_icmp_ge (tgt := 94) hx hb dX2_readNumber_35 (by decide) (fun c_9 => ?_) (fun c_9 => ?_)
        · have hst : f_X2_readNumber_st v u_1 i4_4 w01_5 = .inr (i4_4, w01_5) := by rw [f_X2_readNumber_st, if_pos c_9]
          exact cont0 i4_4 w01_5 (lp_inr hst hF0) _ _ hP hD hS _ (lv_sub hl [0, 1, 2, 3, 4] rfl)
        · refine lv_aload_n hx hb dX2_readNumber_38 rfl (lv_at hl 0 rfl) ?_
          refine va_get (D := D) (ci := 0) (v := .int w01_5) (C := RX2) (T := TX2) (N := 6) hx hb hts inX2 hown hK0.1 hP 0 rfl rfl 2 (by decide) (hts (.fieldLink RX2 28 "PivotChamber$CommandText" "place" "I") (List.mem_of_getElem? (i := 1) rfl)) (fun _ h9 => h9) rfl dX2_readNumber_39 ?_
          refine lv_iload_n hx hb dX2_readNumber_42 rfl (lv_at hl 3 rfl) ?_
          refine lv_iconst (v := 3) hx hb dX2_readNumber_43 (by decide) ?_
          refine lv_iadd hx hb dX2_readNumber_44 ?_
          refine lv_icmp_ge (tgt := 94) hx hb dX2_readNumber_45 (by decide) (fun c_10 => ?_) (fun c_10 => ?_)
          · have hst : f_X2_readNumber_st v u_1 i4_4 w01_5 = .inr (i4_4, w01_5) := by rw [f_X2_readNumber_st, if_neg c_9, if_pos c_10]
            exact cont0 i4_4 w01_5 (lp_inr hst hF0) _ _ hP hD hS _ (lv_sub hl [0, 1, 2, 3, 4] rfl)
          · refine lv_aload_n hx hb dX2_readNumber_48 rfl (lv_at hl 0 rfl) ?_
            refine lv_aload_n hx hb dX2_readNumber_49 rfl (lv_at hl 0 rfl) ?_
            refine va_get (D := D) (ci := 0) (v := .int w01_5) (C := RX2) (T := TX2) (N := 6) hx hb hts inX2 hown hK0.1 hP 0 rfl rfl 2 (by decide) (hts (.fieldLink RX2 28 "PivotChamber$CommandText" "place" "I") (List.mem_of_getElem? (i := 1) rfl)) (fun _ h9 => h9) rfl dX2_readNumber_50 ?_
            have hP : va_P D vwCl (wTxt cy g a (v.1, w01_5, v.2.2)) H := by rw [wTxt_mk]; exact hP
            have hD : va_D A (wTxt cy g a (v.1, w01_5, v.2.2)) := by rw [wTxt_mk]; exact hD
            refine rd_goi (va_runV (C := RX2) (As := [.int w01_5]) (rest := []) S (c_X2_byteAt l D cy g B a (v.1, w01_5, v.2.2) w01_5) (cwV 1 hts gX2_readNumber_X2_byteAt rfl rfl rfl hd_X2_byteAt_V ⟨Nat.le_of_ble_eq_true rfl, Nat.le_of_ble_eq_true rfl⟩) ⟨rdP_blind, va_recv hK0.1 hP (ci := 0) (q0 := 0) rfl rfl, my_preP hK0 hS hAB hP⟩ rfl rfl hl.1 rfl (lv_room (Nat.le_of_ble_eq_true rfl)) dX2_readNumber_53 ⟨Nat.zero_le _, Nat.zero_le _⟩) ?_
            refine rd_goi (va_runS (As := [.int (f_X2_byteAt (v.1, w01_5, v.2.2) w01_5)]) (rest := []) S (c_X2_isDigit l D cy g B (f_X2_byteAt (v.1, w01_5, v.2.2) w01_5)) (va_cwS 1 hts gX2_readNumber_X2_isDigit rfl rfl rfl hd_X2_isDigit_S ⟨Nat.le_of_ble_eq_true rfl, Nat.le_of_ble_eq_true rfl⟩) ⟨rdP_blind, my_preV hK0 hS hAB hP [] rfl⟩ rfl rfl hl.1 rfl (lv_room (Nat.le_of_ble_eq_true rfl)) dX2_readNumber_56 ⟨Nat.zero_le _, Nat.zero_le _⟩) ?_
            refine lv_if_eq (tgt := 94) hx hb dX2_readNumber_59 (by decide) (fun c_11 => ?_) (fun c_11 => ?_)
            · have hst : f_X2_readNumber_st v u_1 i4_4 w01_5 = .inr (i4_4, w01_5) := by rw [f_X2_readNumber_st, if_neg c_9, if_neg c_10, if_pos c_11]
              exact cont0 i4_4 w01_5 (lp_inr hst hF0) _ _ hP hD hS _ (lv_sub hl [0, 1, 2, 3, 4] rfl)
            · refine lv_iload hx hb dX2_readNumber_62 (lv_at hl 4 rfl) ?_
              refine lv_bipush (v := 10) hx hb dX2_readNumber_64 (by decide) ?_
              refine lv_imul hx hb dX2_readNumber_66 ?_
              refine lv_aload_n hx hb dX2_readNumber_67 rfl (lv_at hl 0 rfl) ?_
              refine lv_aload_n hx hb dX2_readNumber_68 rfl (lv_at hl 0 rfl) ?_
              refine va_get (D := D) (ci := 0) (v := .int w01_5) (C := RX2) (T := TX2) (N := 6) hx hb hts inX2 hown hK0.1 hP 0 rfl rfl 2 (by decide) (hts (.fieldLink RX2 28 "PivotChamber$CommandText" "place" "I") (List.mem_of_getElem? (i := 1) rfl)) (fun _ h9 => h9) rfl dX2_readNumber_69 ?_
              refine rd_goi (va_runV (C := RX2) (As := [.int w01_5]) (rest := [.int (i4_4 * 10)]) S (c_X2_byteAt l D cy g B a (v.1, w01_5, v.2.2) w01_5) (cwV 1 hts gX2_readNumber_X2_byteAt rfl rfl rfl hd_X2_byteAt_V ⟨Nat.le_of_ble_eq_true rfl, Nat.le_of_ble_eq_true rfl⟩) ⟨rdP_blind, va_recv hK0.1 hP (ci := 0) (q0 := 0) rfl rfl, my_preP hK0 hS hAB hP⟩ rfl rfl hl.1 rfl (lv_room (Nat.le_of_ble_eq_true rfl)) dX2_readNumber_72 ⟨Nat.zero_le _, Nat.zero_le _⟩) ?_
              refine lv_iadd hx hb dX2_readNumber_75 ?_
              refine lv_bipush (v := 48) hx hb dX2_readNumber_76 (by decide) ?_
              refine lv_isub hx hb dX2_readNumber_78 ?_
              refine lv_istore (lv' := [(4, .int (((i4_4 * 10) + (f_X2_byteAt (v.1, w01_5, v.2.2) w01_5)) - 48)), (0, .ref (a 0)), (1, .int x0), (2, .int v.2.1), (3, .int u_1)]) hx hb dX2_readNumber_79 hl (by decide) rfl (fun ls hl => ?_)
              refine lv_aload_n hx hb dX2_readNumber_81 rfl (lv_at hl 1 rfl) ?_
              refine lv_dup hx hb dX2_readNumber_82 rfl ?_
              refine va_get (D := D) (ci := 0) (v := .int w01_5) (C := RX2) (T := TX2) (N := 6) hx hb hts inX2 hown hK0.1 hP 0 rfl rfl 2 (by decide) (hts (.fieldLink RX2 28 "PivotChamber$CommandText" "place" "I") (List.mem_of_getElem? (i := 1) rfl)) (fun _ h9 => h9) rfl dX2_readNumber_83 ?_
              refine lv_iconst (v := 1) hx hb dX2_readNumber_86 (by decide) ?_
              refine lv_iadd hx hb dX2_readNumber_87 ?_
              refine va_put (D := D) (ci := 0) (v := .int (w01_5 + 1)) (ty := .int) (C := RX2) (T := TX2) (N := 6) hx hb hts inX2 tyX2 tyX2_ok nmX2 hown hK0.1 hP hD hS 0 rfl rfl 2 (by decide) (hts (.fieldLink RX2 28 "PivotChamber$CommandText" "place" "I") (List.mem_of_getElem? (i := 1) rfl)) (fun _ h9 => h9) rfl (by decide +kernel) rfl rfl (Nat.le_of_ble_eq_true rfl) dX2_readNumber_88 (fun H locs hP hD hS => ?_)
              have hP : va_P D vwCl (wTxtE cy g a v.1 (w01_5 + 1) v.2.2.1 v.2.2.2.1 v.2.2.2.2.1 v.2.2.2.2.2) H := hP
              have hD : va_D A (wTxtE cy g a v.1 (w01_5 + 1) v.2.2.1 v.2.2.2.1 v.2.2.2.2.1 v.2.2.2.2.2) := hD
              refine lv_goto (tgt := 27) hx hb dX2_readNumber_91 (by decide) ?_
              have hst : f_X2_readNumber_st v u_1 i4_4 w01_5 = .inl ((((i4_4 * 10) + (f_X2_byteAt (v.1, w01_5, v.2.2) w01_5)) - 48), (w01_5 + 1)) := by rw [f_X2_readNumber_st, if_neg c_9, if_neg c_10, if_neg c_11]
              have hmu : ((v.1 : Int32).toInt - ((w01_5 + 1) : Int32).toInt).toNat < ((v.1 : Int32).toInt - (w01_5 : Int32).toInt).toNat := mu_up c_9
              exact ih0 (((i4_4 * 10) + (f_X2_byteAt (v.1, w01_5, v.2.2) w01_5)) - 48) (w01_5 + 1) (Nat.lt_of_lt_of_le hmu (Nat.le_of_lt_succ hlt0)) (lp_inl hst hF0) _ _ hP hD hS _ (lv_sub hl [1, 2, 3, 4, 0] rfl)
    exact key (((v.1 : Int32).toInt - (u_1 : Int32).toInt).toNat + 1) 0 u_1 (Nat.lt_succ_self _) rfl _ _ hP hD hS _ (lv_sub hl [3, 4, 2, 1, 0] rfl)
  · refine lv_iconst (v := 0) hx hb dX2_readNumber_17 (by decide) ?_
    have hP : va_P D vwCl (wTxtE cy g a v.1 u_1 v.2.2.1 v.2.2.2.1 v.2.2.2.2.1 v.2.2.2.2.2) H := hP
    have hD : va_D A (wTxtE cy g a v.1 u_1 v.2.2.1 v.2.2.2.1 v.2.2.2.2.1 v.2.2.2.2.2) := hD
    exact W.zret (ty := .boolean) (v := 0) hx hb hr (my_nz (by decide)) (fun t ht hW => ⟨⟨0, (u_1, v.2.2.1, v.2.2.2.1), rfl, (show f_X2_readNumber v x0 = (0, (u_1, v.2.2.1, v.2.2.2.1)) from by rw [f_X2_readNumber, hw_2, my_l_eq, if_pos c_3]), by show va_P D vwCl _ t.heap; rw [ht]; exact hP⟩, hS.F ht⟩) hS.2.2 dX2_readNumber_18
theorem hd_X2_stands_S : yX2_stands.cls ≠ "java/lang/invoke/MethodHandle" ∧ yX2_stands.cls ≠ "java/lang/invoke/VarHandle" ∧ (parseMethodDescriptor yX2_stands.desc).map (fun d => d.parameters.length) = some 3 := by decide +kernel
theorem hd_X2_stands_V : yX2_stands.cls = RX2 ∧ yX2_stands.cls ≠ "java/lang/invoke/MethodHandle" ∧ yX2_stands.cls ≠ "java/lang/invoke/VarHandle" ∧ (parseMethodDescriptor yX2_stands.desc).map (fun d => d.parameters.length) = some 3 := ⟨rfl, hd_X2_stands_S⟩
def f_X2_stands_st (v : TxtV) (x0 : Nat) (x1 : Int32) (i4_2 : Int32) : (Int32) ⊕ (Int32) := (if (nI (my_len.getD x0 0)) ≤ i4_2 then (.inr 1) else (if (f_J0_charAt_5068e x0 i4_2) = (f_X2_byteAt v (x1 + i4_2)) then (.inl (i4_2 + 1)) else (.inr 0)))
def f_X2_stands (v : TxtV) (x0 : Nat) (x1 : Int32) (x2 : Int32) : Int32 := (if (nI (my_len.getD x0 0)) = (x2 - x1) then (lp (fun (x : Int32) => f_X2_stands_st v x0 x1 x) default ((((nI (my_len.getD x0 0)) : Int32).toInt - (0 : Int32).toInt).toNat + 1) 0) else 0)
set_option maxHeartbeats 400000 in
set_option maxRecDepth 100000 in
theorem c_X2_stands (l : Launch) (D : va_G) (cy : Nat → ClassId) (g : Nat → Nat) (B : Nat) (a : Nat → Nat) (v : TxtV) (x0 : Nat) (x1 : Int32) (x2 : Int32) (hx0 : x0 < 7) : Met l yX2_stands wsX2_stands ({ frames := 4, cells := 0, slots := 0, locals := 85 }) (rdP D cy g B (wTxt cy g a v) [.ref (a 0), .ref (g (20 + x0)), .int x1, .int x2]) (vp_Si (fun r => r = f_X2_stands v x0 x1 x2)) 0 0 (fun _ => False) := by
  refine Met.ofW (cc := cX2_stands) (maxL := 5) (ret := (some .boolean)) (by decide) rfl ?_
  intro p e s m args below meth c s₁ BB hml hv
  obtain ⟨rfl, hP, hK0⟩ := hv
  have hx := BB.exec
  have hb := BB.bytes
  have hr := BB.returns
  have hts := atoms_spec (ws := wsX2_stands) BB.pre
  have hown : s.vm.findClass RX2 = some m.cls := findClass_of_methodNamed BB.named
  have hlocks := BB.notSynchronized
  have S := my_fix hx hb hml hown hts
  have hS : va_S (fun q => B ≤ q) s.heap s.heap [] := va_S.rf
  have hAB : ∀ q : Nat, (fun q => B ≤ q) q → B ≤ q := fun _ h => h
  have hl := lv_entry ([.ref (a 0), .ref (g (20 + x0)), .int x1, .int x2]) (n := 5) (Nat.le_of_ble_eq_true rfl)
  rw [lg_entry_eq]
  generalize (lg_sl ([.ref (a 0), .ref (g (20 + x0)), .int x1, .int x2]) ++ List.replicate (5 - (lg_sl ([.ref (a 0), .ref (g (20 + x0)), .int x1, .int x2])).length) Slot.unset).toArray = ls at hl ⊢
  have hl : lv_has ls 5 [(0, .ref (a 0)), (1, .ref (g (20 + x0))), (2, .int x1), (3, .int x2)] := hl
  refine lv_aload_n hx hb dX2_stands_0 rfl (lv_at hl 1 rfl) ?_
  refine rd_goi (va_runV (C := RJ0) (As := []) (rest := []) S (c_J0_length_8abf5 l D cy g B x0 hx0) (cwV 0 hts gX2_stands_J0_length_8abf5 rfl rfl rfl hd_J0_length_8abf5_V ⟨Nat.le_of_ble_eq_true rfl, Nat.le_of_ble_eq_true rfl⟩) ⟨rdP_blind, vk_recv hK0.2.2.2.2.2.2.2.1 hx0 hS, my_preV hK0 hS hAB hP [] rfl⟩ rfl rfl hl.1 rfl (lv_room (Nat.le_of_ble_eq_true rfl)) dX2_stands_1 ⟨Nat.zero_le _, Nat.zero_le _⟩) ?_
  refine lv_iload_n hx hb dX2_stands_4 rfl (lv_at hl 3 rfl) ?_
  refine lv_iload_n hx hb dX2_stands_5 rfl (lv_at hl 2 rfl) ?_
  refine lv_isub hx hb dX2_stands_6 ?_
  refine lv_icmp_eq (tgt := 12) hx hb dX2_stands_7 (by decide) (fun c_1 => ?_) (fun c_1 => ?_)
  · refine lv_iconst (v := 0) hx hb dX2_stands_12 (by decide) ?_
    refine lv_istore (lv' := [(4, .int 0), (0, .ref (a 0)), (1, .ref (g (20 + x0))), (2, .int x1), (3, .int x2)]) hx hb dX2_stands_13 hl (by decide) rfl (fun ls hl => ?_)
    have key : ∀ (nf : Nat) (i4_2 : Int32), (((nI (my_len.getD x0 0)) : Int32).toInt - (i4_2 : Int32).toInt).toNat < nf → lp (fun (x : Int32) => f_X2_stands_st v x0 x1 x) default nf i4_2 = lp (fun (x : Int32) => f_X2_stands_st v x0 x1 x) default ((((nI (my_len.getD x0 0)) : Int32).toInt - (0 : Int32).toInt).toNat + 1) 0 → ¬ i4_2 < 0 → ∀ ls : Array Slot, lv_has ls 5 [(0, .ref (a 0)), (1, .ref (g (20 + x0))), (2, .int x1), (3, .int x2), (4, .int i4_2)] → W p l e (headSpec wsX2_stands ({ frames := 4, cells := 0, slots := 0, locals := 85 } : Room)).room s m ([.ref (a 0), .ref (g (20 + x0)), .int x1, .int x2] : List Value).toArray below meth c s.heap [] 0 0 (MQ below (vp_Si (fun r => r = f_X2_stands v x0 x1 x2)) ([.ref (a 0), .ref (g (20 + x0)), .int x1, .int x2] : List Value).toArray s 0 0 (fun _ => False)) (F0 m 15 ls []) := by
      intro n0
      induction n0 with
      | zero => intro i4_2 hlt; exact absurd hlt (Nat.not_lt_zero _)
      | succ n0 ih0 =>
        intro i4_2 hlt0 hF0 hi0_0 ls hl
        refine lv_iload hx hb dX2_stands_15 (lv_at hl 4 rfl) ?_
        refine lv_aload_n hx hb dX2_stands_17 rfl (lv_at hl 1 rfl) ?_
        refine rd_goi (va_runV (C := RJ0) (As := []) (rest := [.int i4_2]) S (c_J0_length_8abf5 l D cy g B x0 hx0) (cwV 0 hts gX2_stands_J0_length_8abf5 rfl rfl rfl hd_J0_length_8abf5_V ⟨Nat.le_of_ble_eq_true rfl, Nat.le_of_ble_eq_true rfl⟩) ⟨rdP_blind, vk_recv hK0.2.2.2.2.2.2.2.1 hx0 hS, my_preV hK0 hS hAB hP [] rfl⟩ rfl rfl hl.1 rfl (lv_room (Nat.le_of_ble_eq_true rfl)) dX2_stands_18 ⟨Nat.zero_le _, Nat.zero_le _⟩) ?_
        refine lv_icmp_ge (tgt := 49) hx hb dX2_stands_21 (by decide) (fun c_3 => ?_) (fun c_3 => ?_)
        · refine lv_iconst (v := 1) hx hb dX2_stands_49 (by decide) ?_
          have hst : f_X2_stands_st v x0 x1 i4_2 = .inr 1 := by rw [f_X2_stands_st, if_pos c_3]
          exact W.zret (ty := .boolean) (v := 1) hx hb hr (my_nz (by decide)) (fun t ht hW => ⟨1, rfl, (show f_X2_stands v x0 x1 x2 = 1 from by rw [f_X2_stands, if_pos c_1]; exact lp_inr hst hF0).symm, ht⟩) (fun q hq => absurd hq List.not_mem_nil) dX2_stands_50
        · refine lv_aload_n hx hb dX2_stands_24 rfl (lv_at hl 1 rfl) ?_
          refine lv_iload hx hb dX2_stands_25 (lv_at hl 4 rfl) ?_
          refine rd_goi (va_runV (C := RJ0) (As := [.int i4_2]) (rest := []) S (c_J0_charAt_5068e l D cy g B x0 i4_2 hx0 hi0_0 c_3) (cwV 1 hts gX2_stands_J0_charAt_5068e rfl rfl rfl hd_J0_charAt_5068e_V ⟨Nat.le_of_ble_eq_true rfl, Nat.le_of_ble_eq_true rfl⟩) ⟨rdP_blind, vk_recv hK0.2.2.2.2.2.2.2.1 hx0 hS, my_preV hK0 hS hAB hP [] rfl⟩ rfl rfl hl.1 rfl (lv_room (Nat.le_of_ble_eq_true rfl)) dX2_stands_27 ⟨Nat.zero_le _, Nat.zero_le _⟩) ?_
          refine lv_aload_n hx hb dX2_stands_30 rfl (lv_at hl 0 rfl) ?_
          refine lv_iload_n hx hb dX2_stands_31 rfl (lv_at hl 2 rfl) ?_
          refine lv_iload hx hb dX2_stands_32 (lv_at hl 4 rfl) ?_
          refine lv_iadd hx hb dX2_stands_34 ?_
          refine rd_goi (va_runV (C := RX2) (As := [.int (x1 + i4_2)]) (rest := [.int (f_J0_charAt_5068e x0 i4_2)]) S (c_X2_byteAt l D cy g B a v (x1 + i4_2)) (cwV 1 hts gX2_stands_X2_byteAt rfl rfl rfl hd_X2_byteAt_V ⟨Nat.le_of_ble_eq_true rfl, Nat.le_of_ble_eq_true rfl⟩) ⟨rdP_blind, va_recv hK0.1 hP (ci := 0) (q0 := 0) rfl rfl, my_preP hK0 hS hAB hP⟩ rfl rfl hl.1 rfl (lv_room (Nat.le_of_ble_eq_true rfl)) dX2_stands_35 ⟨Nat.zero_le _, Nat.zero_le _⟩) ?_
          refine lv_icmp_eq (tgt := 43) hx hb dX2_stands_38 (by decide) (fun c_4 => ?_) (fun c_4 => ?_)
          · refine lv_iinc (v := (i4_2 + 1)) (lv' := [(4, .int (i4_2 + 1)), (0, .ref (a 0)), (1, .ref (g (20 + x0))), (2, .int x1), (3, .int x2)]) hx hb dX2_stands_43 hl (k := 4) rfl rfl (by decide) rfl (fun ls hl => ?_)
            refine lv_goto (tgt := 15) hx hb dX2_stands_46 (by decide) ?_
            have hst : f_X2_stands_st v x0 x1 i4_2 = .inl (i4_2 + 1) := by rw [f_X2_stands_st, if_neg c_3, if_pos c_4]
            have hmu : (((nI (my_len.getD x0 0)) : Int32).toInt - ((i4_2 + 1) : Int32).toInt).toNat < (((nI (my_len.getD x0 0)) : Int32).toInt - (i4_2 : Int32).toInt).toNat := mu_up c_3
            exact ih0 (i4_2 + 1) (Nat.lt_of_lt_of_le hmu (Nat.le_of_lt_succ hlt0)) (lp_inl hst hF0) (nn_up hi0_0 c_3) _ (lv_sub hl [1, 2, 3, 4, 0] rfl)
          · refine lv_iconst (v := 0) hx hb dX2_stands_41 (by decide) ?_
            have hst : f_X2_stands_st v x0 x1 i4_2 = .inr 0 := by rw [f_X2_stands_st, if_neg c_3, if_neg c_4]
            exact W.zret (ty := .boolean) (v := 0) hx hb hr (my_nz (by decide)) (fun t ht hW => ⟨0, rfl, (show f_X2_stands v x0 x1 x2 = 0 from by rw [f_X2_stands, if_pos c_1]; exact lp_inr hst hF0).symm, ht⟩) (fun q hq => absurd hq List.not_mem_nil) dX2_stands_42
    exact key ((((nI (my_len.getD x0 0)) : Int32).toInt - (0 : Int32).toInt).toNat + 1) 0 (Nat.lt_succ_self _) rfl (by decide) _ (lv_sub hl [1, 2, 3, 4, 0] rfl)
  · refine lv_iconst (v := 0) hx hb dX2_stands_10 (by decide) ?_
    exact W.zret (ty := .boolean) (v := 0) hx hb hr (my_nz (by decide)) (fun t ht hW => ⟨0, rfl, (show f_X2_stands v x0 x1 x2 = 0 from by rw [f_X2_stands, if_neg c_1]).symm, ht⟩) (fun q hq => absurd hq List.not_mem_nil) dX2_stands_11
theorem hd_X2_commandNamed_S : yX2_commandNamed.cls ≠ "java/lang/invoke/MethodHandle" ∧ yX2_commandNamed.cls ≠ "java/lang/invoke/VarHandle" ∧ (parseMethodDescriptor yX2_commandNamed.desc).map (fun d => d.parameters.length) = some 2 := by decide +kernel
theorem hd_X2_commandNamed_V : yX2_commandNamed.cls = RX2 ∧ yX2_commandNamed.cls ≠ "java/lang/invoke/MethodHandle" ∧ yX2_commandNamed.cls ≠ "java/lang/invoke/VarHandle" ∧ (parseMethodDescriptor yX2_commandNamed.desc).map (fun d => d.parameters.length) = some 2 := ⟨rfl, hd_X2_commandNamed_S⟩
def f_X2_commandNamed_st (v : TxtV) (x0 : Int32) (x1 : Int32) (i5_1 : Int32) : (Int32) ⊕ (Nat) := (if 7 ≤ i5_1 then (.inr 7) else (if (f_X2_stands v i5_1.toNatClampNeg x0 x1) = 0 then (.inl (i5_1 + 1)) else (.inr i5_1.toNatClampNeg)))
def f_X2_commandNamed (v : TxtV) (x0 : Int32) (x1 : Int32) : Nat := (lp (fun (x : Int32) => f_X2_commandNamed_st v x0 x1 x) default (((7 : Int32).toInt - (0 : Int32).toInt).toNat + 1) 0)
set_option maxHeartbeats 400000 in
set_option maxRecDepth 100000 in
theorem c_X2_commandNamed (l : Launch) (D : va_G) (cy : Nat → ClassId) (g : Nat → Nat) (B : Nat) (a : Nat → Nat) (v : TxtV) (x0 : Int32) (x1 : Int32) : Met l yX2_commandNamed wsX2_commandNamed ({ frames := 5, cells := 0, slots := 0, locals := 109 }) (rdP D cy g B (wTxt cy g a v) [.ref (a 0), .int x0, .int x1]) (my_Sr (cmdV g (f_X2_commandNamed v x0 x1))) 0 0 (fun _ => False) := by
  refine Met.ofW (cc := cX2_commandNamed) (maxL := 7) (ret := (some (.object "PivotChamber$Command"))) (by decide) rfl ?_
  intro p e s m args below meth c s₁ BB hml hv
  obtain ⟨rfl, hP, hK0⟩ := hv
  have hx := BB.exec
  have hb := BB.bytes
  have hr := BB.returns
  have hts := atoms_spec (ws := wsX2_commandNamed) BB.pre
  have hown : s.vm.findClass RX2 = some m.cls := findClass_of_methodNamed BB.named
  have hlocks := BB.notSynchronized
  have S := my_fix hx hb hml hown hts
  have hS : va_S (fun q => B ≤ q) s.heap s.heap [] := va_S.rf
  have hAB : ∀ q : Nat, (fun q => B ≤ q) q → B ≤ q := fun _ h => h
  have hl := lv_entry ([.ref (a 0), .int x0, .int x1]) (n := 7) (Nat.le_of_ble_eq_true rfl)
  rw [lg_entry_eq]
  generalize (lg_sl ([.ref (a 0), .int x0, .int x1]) ++ List.replicate (7 - (lg_sl ([.ref (a 0), .int x0, .int x1])).length) Slot.unset).toArray = ls at hl ⊢
  have hl : lv_has ls 7 [(0, .ref (a 0)), (1, .int x0), (2, .int x1)] := hl
  refine va_getsN hx hb hK0.2.2.2.2.1.1 hS hown (va_Nw.use rfl (hK0.2.1.1.f 15 rfl)) (fun _ h => h) dX2_commandNamed_0 ?_
  refine lv_astore_n (lv' := [(3, .ref (g 2)), (0, .ref (a 0)), (1, .int x0), (2, .int x1)]) hx hb dX2_commandNamed_3 rfl hl (by decide) rfl (fun ls hl => ?_)
  refine lv_aload_n hx hb dX2_commandNamed_4 rfl (lv_at hl 0 rfl) ?_
  refine va_tlen hx hb hK0.2.2.2.2.1.2 hS (v := 7) (by decide) dX2_commandNamed_5 ?_
  refine lv_istore (lv' := [(4, .int 7), (3, .ref (g 2)), (0, .ref (a 0)), (1, .int x0), (2, .int x1)]) hx hb dX2_commandNamed_6 hl (by decide) rfl (fun ls hl => ?_)
  refine lv_iconst (v := 0) hx hb dX2_commandNamed_8 (by decide) ?_
  refine lv_istore (lv' := [(5, .int 0), (4, .int 7), (3, .ref (g 2)), (0, .ref (a 0)), (1, .int x0), (2, .int x1)]) hx hb dX2_commandNamed_9 hl (by decide) rfl (fun ls hl => ?_)
  have key : ∀ (nf : Nat) (i5_1 : Int32), ((7 : Int32).toInt - (i5_1 : Int32).toInt).toNat < nf → lp (fun (x : Int32) => f_X2_commandNamed_st v x0 x1 x) default nf i5_1 = lp (fun (x : Int32) => f_X2_commandNamed_st v x0 x1 x) default (((7 : Int32).toInt - (0 : Int32).toInt).toNat + 1) 0 → ¬ i5_1 < 0 → ∀ ls : Array Slot, lv_has ls 7 [(0, .ref (a 0)), (1, .int x0), (2, .int x1), (3, .ref (g 2)), (4, .int 7), (5, .int i5_1)] → W p l e (headSpec wsX2_commandNamed ({ frames := 5, cells := 0, slots := 0, locals := 109 } : Room)).room s m ([.ref (a 0), .int x0, .int x1] : List Value).toArray below meth c s.heap [] 0 0 (MQ below (my_Sr (cmdV g (f_X2_commandNamed v x0 x1))) ([.ref (a 0), .int x0, .int x1] : List Value).toArray s 0 0 (fun _ => False)) (F0 m 11 ls []) := by
    intro n0
    induction n0 with
    | zero => intro i5_1 hlt; exact absurd hlt (Nat.not_lt_zero _)
    | succ n0 ih0 =>
      intro i5_1 hlt0 hF0 hi0_0 ls hl
      refine lv_iload hx hb dX2_commandNamed_11 (lv_at hl 5 rfl) ?_
      refine lv_iload hx hb dX2_commandNamed_13 (lv_at hl 4 rfl) ?_
      refine lv_icmp_ge (tgt := 52) hx hb dX2_commandNamed_15 (by decide) (fun c_2 => ?_) (fun c_2 => ?_)
      · refine lv_null hx hb dX2_commandNamed_52 ?_
        refine W.eq (g2 := F0 m 53 ls [cmdV g 7]) (by rw [cmdV_null (by decide)]) ?_
        have hst : f_X2_commandNamed_st v x0 x1 i5_1 = .inr 7 := by rw [f_X2_commandNamed_st, if_pos c_2]
        exact W.aret (v := cmdV g 7) hx hb hr (Or.inl ⟨_, rfl⟩) (my_cmd_nr _ _) (fun t ht hW => ⟨by rw [(show f_X2_commandNamed v x0 x1 = 7 from by rw [f_X2_commandNamed]; exact lp_inr hst hF0)], ht⟩) (fun q hq => absurd hq List.not_mem_nil) dX2_commandNamed_53
      · refine lv_aload_n hx hb dX2_commandNamed_18 rfl (lv_at hl 3 rfl) ?_
        refine lv_iload hx hb dX2_commandNamed_19 (lv_at hl 5 rfl) ?_
        have hk_3 : i5_1.toNatClampNeg < 7 := my_clt (n := 7) (by decide) hi0_0 c_2
        refine vb_tq hx hb hK0.2.2.2.2.1.2 hS (vin_cmp (n := 7) (by decide) hi0_0 c_2) (v := .ref (g (10 + i5_1.toNatClampNeg))) rfl dX2_commandNamed_21 ?_
        refine lv_astore (lv' := [(6, .ref (g (10 + i5_1.toNatClampNeg))), (0, .ref (a 0)), (1, .int x0), (2, .int x1), (3, .ref (g 2)), (4, .int 7), (5, .int i5_1)]) hx hb dX2_commandNamed_22 hl (by decide) rfl (fun ls hl => ?_)
        refine lv_aload hx hb dX2_commandNamed_24 (lv_at hl 0 rfl) ?_
        refine lv_ifnull hx hb dX2_commandNamed_26 ?_
        refine lv_aload_n hx hb dX2_commandNamed_29 rfl (lv_at hl 1 rfl) ?_
        refine lv_aload hx hb dX2_commandNamed_30 (lv_at hl 0 rfl) ?_
        refine my_getOF hx hb (hK0.2.2.2.2.2.2.1 i5_1.toNatClampNeg hk_3) hS hown (va_Nw.use rfl (hK0.2.1.1.f 16 rfl)) (fun _ h => h) dX2_commandNamed_32 ?_
        refine lv_iload_n hx hb dX2_commandNamed_35 rfl (lv_at hl 2 rfl) ?_
        refine lv_iload_n hx hb dX2_commandNamed_36 rfl (lv_at hl 3 rfl) ?_
        refine rd_goi (va_runV (C := RX2) (As := [.ref (g (20 + i5_1.toNatClampNeg)), .int x0, .int x1]) (rest := []) S (c_X2_stands l D cy g B a v i5_1.toNatClampNeg x0 x1 hk_3) (cwV 3 hts gX2_commandNamed_X2_stands rfl rfl rfl hd_X2_stands_V ⟨Nat.le_of_ble_eq_true rfl, Nat.le_of_ble_eq_true rfl⟩) ⟨rdP_blind, va_recv hK0.1 hP (ci := 0) (q0 := 0) rfl rfl, my_preP hK0 hS hAB hP⟩ rfl rfl hl.1 rfl (lv_room (Nat.le_of_ble_eq_true rfl)) dX2_commandNamed_37 ⟨Nat.zero_le _, Nat.zero_le _⟩) ?_
        refine lv_if_eq (tgt := 46) hx hb dX2_commandNamed_40 (by decide) (fun c_4 => ?_) (fun c_4 => ?_)
        · refine lv_iinc (v := (i5_1 + 1)) (lv' := [(5, .int (i5_1 + 1)), (6, .ref (g (10 + i5_1.toNatClampNeg))), (0, .ref (a 0)), (1, .int x0), (2, .int x1), (3, .ref (g 2)), (4, .int 7)]) hx hb dX2_commandNamed_46 hl (k := 6) rfl rfl (by decide) rfl (fun ls hl => ?_)
          refine lv_goto (tgt := 11) hx hb dX2_commandNamed_49 (by decide) ?_
          have hst : f_X2_commandNamed_st v x0 x1 i5_1 = .inl (i5_1 + 1) := by rw [f_X2_commandNamed_st, if_neg c_2, if_pos c_4]
          have hmu : ((7 : Int32).toInt - ((i5_1 + 1) : Int32).toInt).toNat < ((7 : Int32).toInt - (i5_1 : Int32).toInt).toNat := mu_up c_2
          exact ih0 (i5_1 + 1) (Nat.lt_of_lt_of_le hmu (Nat.le_of_lt_succ hlt0)) (lp_inl hst hF0) (nn_up hi0_0 c_2) _ (lv_sub hl [2, 3, 4, 5, 6, 0] rfl)
        · refine lv_aload hx hb dX2_commandNamed_43 (lv_at hl 0 rfl) ?_
          refine W.eq (g2 := F0 m 45 ls [cmdV g i5_1.toNatClampNeg]) (by rw [cmdV_ref hk_3]) ?_
          have hst : f_X2_commandNamed_st v x0 x1 i5_1 = .inr i5_1.toNatClampNeg := by rw [f_X2_commandNamed_st, if_neg c_2, if_neg c_4]
          exact W.aret (v := cmdV g i5_1.toNatClampNeg) hx hb hr (Or.inl ⟨_, rfl⟩) (my_cmd_nr _ _) (fun t ht hW => ⟨by rw [(show f_X2_commandNamed v x0 x1 = i5_1.toNatClampNeg from by rw [f_X2_commandNamed]; exact lp_inr hst hF0)], ht⟩) (fun q hq => absurd hq List.not_mem_nil) dX2_commandNamed_45
  exact key (((7 : Int32).toInt - (0 : Int32).toInt).toNat + 1) 0 (Nat.lt_succ_self _) rfl (by decide) _ (lv_sub hl [3, 4, 5, 2, 1, 0] rfl)
theorem hd_X2_readCommand_S : yX2_readCommand.cls ≠ "java/lang/invoke/MethodHandle" ∧ yX2_readCommand.cls ≠ "java/lang/invoke/VarHandle" ∧ (parseMethodDescriptor yX2_readCommand.desc).map (fun d => d.parameters.length) = some 0 := by decide +kernel
theorem hd_X2_readCommand_V : yX2_readCommand.cls = RX2 ∧ yX2_readCommand.cls ≠ "java/lang/invoke/MethodHandle" ∧ yX2_readCommand.cls ≠ "java/lang/invoke/VarHandle" ∧ (parseMethodDescriptor yX2_readCommand.desc).map (fun d => d.parameters.length) = some 0 := ⟨rfl, hd_X2_readCommand_S⟩
def f_X2_readCommand_st1 (v : TxtV) (w01_1 : Int32) (i2_3 : Int32) (w01_4 : Int32) (w02_5 : Int32) (w03_6 : Int32) : (Int32 × Int32 × Int32 × Int32) ⊕ (Int32 × (Int32 × Int32 × Int32 × Nat)) := (if (my_num.getD (f_X2_commandNamed (v.1, w01_1, v.2.2) v.2.1 w01_1) 0) ≤ i2_3 then (my_l (f_X2_skipSpaces (v.1, w01_4, w02_5, w03_6, (f_X2_commandNamed (v.1, w01_1, v.2.2) v.2.1 w01_1), v.2.2.2.2.2)) (fun (u_8 : Int32) => (if (f_X2_byteAt (v.1, u_8, w02_5, w03_6, (f_X2_commandNamed (v.1, w01_1, v.2.2) v.2.1 w01_1), v.2.2.2.2.2) u_8) = 59 then (.inr ((-1), ((u_8 + 1), w02_5, w03_6, (f_X2_commandNamed (v.1, w01_1, v.2.2) v.2.1 w01_1)))) else (.inr (u_8, (u_8, w02_5, w03_6, (f_X2_commandNamed (v.1, w01_1, v.2.2) v.2.1 w01_1))))))) else (my_b (f_X2_readNumber (v.1, w01_4, w02_5, w03_6, (f_X2_commandNamed (v.1, w01_1, v.2.2) v.2.1 w01_1), v.2.2.2.2.2) i2_3) (fun (r_13 : Int32) (u_11 : Int32 × Int32 × Int32) => (if r_13 = 0 then (.inr (u_11.1, (u_11.1, u_11.2.1, u_11.2.2, (f_X2_commandNamed (v.1, w01_1, v.2.2) v.2.1 w01_1)))) else (.inl ((i2_3 + 1), u_11.1, u_11.2.1, u_11.2.2))))))
def f_X2_readCommand_st (v : TxtV) (w01_1 : Int32) : (Int32) ⊕ (Int32) := (if v.1 ≤ w01_1 then (.inr w01_1) else (if (f_X2_isLetter (f_X2_byteAt (v.1, w01_1, v.2.2) w01_1)) = 0 then (.inr w01_1) else (.inl (w01_1 + 1))))
def f_X2_readCommand (v : TxtV) : Int32 × (Int32 × Int32 × Int32 × Nat) := (my_l (lp (fun (x : Int32) => f_X2_readCommand_st v x) default (((v.1 : Int32).toInt - (v.2.1 : Int32).toInt).toNat + 1) v.2.1) (fun (w01_1 : Int32) => (if (f_X2_commandNamed (v.1, w01_1, v.2.2) v.2.1 w01_1) < 7 then (lp (fun (x : Int32 × Int32 × Int32 × Int32) => f_X2_readCommand_st1 v w01_1 x.1 x.2.1 x.2.2.1 x.2.2.2) default ((((my_num.getD (f_X2_commandNamed (v.1, w01_1, v.2.2) v.2.1 w01_1) 0) : Int32).toInt - (0 : Int32).toInt).toNat + 1) (0, w01_1, 0, 0)) else (v.2.1, (w01_1, v.2.2.1, v.2.2.2.1, (f_X2_commandNamed (v.1, w01_1, v.2.2) v.2.1 w01_1))))))
set_option maxHeartbeats 400000 in
set_option maxRecDepth 100000 in
theorem c_X2_readCommand (l : Launch) (D : va_G) (cy : Nat → ClassId) (g : Nat → Nat) (B : Nat) (a : Nat → Nat) (v : TxtV) : Met l yX2_readCommand wsX2_readCommand ({ frames := 6, cells := 0, slots := 0, locals := 135 }) (muP D cy g B (wTxt cy g a v) [.ref (a 0)]) (va_Qi (fun (r : Int32) (u : Int32 × Int32 × Int32 × Nat) => f_X2_readCommand v = (r, u)) (fun u t => va_P D vwCl (wTxtE cy g a v.1 u.1 u.2.1 u.2.2.1 u.2.2.2 v.2.2.2.2.2) t.heap) (muA (wTxt cy g a v))) 0 0 (muA (wTxt cy g a v)) := by
  refine Met.ofW (cc := cX2_readCommand) (maxL := 3) (ret := (some .int)) (by decide) rfl ?_
  intro p e s m args below meth c s₁ BB hml hv
  obtain ⟨rfl, hP, hK0, hD0⟩ := hv
  have hx := BB.exec
  have hb := BB.bytes
  have hr := BB.returns
  have hts := atoms_spec (ws := wsX2_readCommand) BB.pre
  have hown : s.vm.findClass RX2 = some m.cls := findClass_of_methodNamed BB.named
  have hlocks := BB.notSynchronized
  have S := my_fix hx hb hml hown hts
  have inX2 : ∀ w ∈ wsX20, w ∈ wsX2_readCommand := fun w h => List.mem_cons_of_mem _ (List.mem_append_left _ (List.mem_append_right _ h))
  have hAB := muB hD0
  have hD := muD hD0
  generalize hAe : muA (wTxt cy g a v) = A at hAB hD ⊢
  have hS : va_S A s.heap s.heap [] := va_S.rf
  have hl := lv_entry ([.ref (a 0)]) (n := 3) (Nat.le_of_ble_eq_true rfl)
  rw [lg_entry_eq]
  generalize (lg_sl ([.ref (a 0)]) ++ List.replicate (3 - (lg_sl ([.ref (a 0)])).length) Slot.unset).toArray = ls at hl ⊢
  have hl : lv_has ls 3 [(0, .ref (a 0))] := hl
  refine lv_aload_n hx hb dX2_readCommand_0 rfl (lv_at hl 0 rfl) ?_
  refine va_get (D := D) (ci := 0) (v := .int v.2.1) (C := RX2) (T := TX2) (N := 6) hx hb hts inX2 hown hK0.1 hP 0 rfl rfl 2 (by decide) (hts (.fieldLink RX2 28 "PivotChamber$CommandText" "place" "I") (List.mem_of_getElem? (i := 1) rfl)) (fun _ h9 => h9) rfl dX2_readCommand_1 ?_
  refine lv_istore_n (lv' := [(1, .int v.2.1), (0, .ref (a 0))]) hx hb dX2_readCommand_4 rfl hl (by decide) rfl (fun ls hl => ?_)
  have cont0 : ∀ (w01_1 : Int32), lp (fun (x : Int32) => f_X2_readCommand_st v x) default (((v.1 : Int32).toInt - (v.2.1 : Int32).toInt).toNat + 1) v.2.1 = w01_1 → ∀ (H : Heap) (locs : List Loc), va_P D vwCl (wTxtE cy g a v.1 w01_1 v.2.2.1 v.2.2.2.1 v.2.2.2.2.1 v.2.2.2.2.2) H → va_D A (wTxtE cy g a v.1 w01_1 v.2.2.1 v.2.2.2.1 v.2.2.2.2.1 v.2.2.2.2.2) → va_S A s.heap H locs → ∀ ls : Array Slot, lv_has ls 3 [(0, .ref (a 0)), (1, .int v.2.1)] → W p l e (headSpec wsX2_readCommand ({ frames := 6, cells := 0, slots := 0, locals := 135 } : Room)).room s m ([.ref (a 0)] : List Value).toArray below meth c H locs 0 0 (MQ below (va_Qi (fun (r : Int32) (u : Int32 × Int32 × Int32 × Nat) => f_X2_readCommand v = (r, u)) (fun u t => va_P D vwCl (wTxtE cy g a v.1 u.1 u.2.1 u.2.2.1 u.2.2.2 v.2.2.2.2.2) t.heap) A) ([.ref (a 0)] : List Value).toArray s 0 0 A) (F0 m 43 ls []) := by
    intro w01_1 hE0 H locs hP hD hS ls hl
    refine lv_aload_n hx hb dX2_readCommand_43 rfl (lv_at hl 0 rfl) ?_
    refine lv_aload_n hx hb dX2_readCommand_44 rfl (lv_at hl 0 rfl) ?_
    refine lv_iload_n hx hb dX2_readCommand_45 rfl (lv_at hl 1 rfl) ?_
    refine lv_aload_n hx hb dX2_readCommand_46 rfl (lv_at hl 0 rfl) ?_
    refine va_get (D := D) (ci := 0) (v := .int w01_1) (C := RX2) (T := TX2) (N := 6) hx hb hts inX2 hown hK0.1 hP 0 rfl rfl 2 (by decide) (hts (.fieldLink RX2 28 "PivotChamber$CommandText" "place" "I") (List.mem_of_getElem? (i := 1) rfl)) (fun _ h9 => h9) rfl dX2_readCommand_47 ?_
    have hP : va_P D vwCl (wTxt cy g a (v.1, w01_1, v.2.2)) H := by rw [wTxt_mk]; exact hP
    have hD : va_D A (wTxt cy g a (v.1, w01_1, v.2.2)) := by rw [wTxt_mk]; exact hD
    refine rd_gor (va_runV (C := RX2) (As := [.int v.2.1, .int w01_1]) (rest := [.ref (a 0)]) S (c_X2_commandNamed l D cy g B a (v.1, w01_1, v.2.2) v.2.1 w01_1) (cwV 2 hts gX2_readCommand_X2_commandNamed rfl rfl rfl hd_X2_commandNamed_V ⟨Nat.le_of_ble_eq_true rfl, Nat.le_of_ble_eq_true rfl⟩) ⟨rdP_blind, va_recv hK0.1 hP (ci := 0) (q0 := 0) rfl rfl, my_preP hK0 hS hAB hP⟩ rfl rfl hl.1 rfl (lv_room (Nat.le_of_ble_eq_true rfl)) dX2_readCommand_50 ⟨Nat.zero_le _, Nat.zero_le _⟩) ?_
    refine va_put (D := D) (ci := 0) (v := (cmdV g (f_X2_commandNamed (v.1, w01_1, v.2.2) v.2.1 w01_1))) (ty := (.object "PivotChamber$Command")) (C := RX2) (T := TX2) (N := 6) hx hb hts inX2 tyX2 tyX2_ok nmX2 hown hK0.1 hP hD hS 0 rfl rfl 3 (by decide) (hts (.fieldLink RX2 54 "PivotChamber$CommandText" "command" "LPivotChamber$Command;") (List.mem_of_getElem? (i := 3) rfl)) (fun _ h9 => h9) rfl (by decide +kernel) (my_cmd_n _ _) (my_cmd_f _ _) (Nat.le_of_ble_eq_true rfl) dX2_readCommand_53 (fun H locs hP hD hS => ?_)
    have hP : va_P D vwCl (wTxtE cy g a v.1 w01_1 v.2.2.1 v.2.2.2.1 (f_X2_commandNamed (v.1, w01_1, v.2.2) v.2.1 w01_1) v.2.2.2.2.2) H := hP
    have hD : va_D A (wTxtE cy g a v.1 w01_1 v.2.2.1 v.2.2.2.1 (f_X2_commandNamed (v.1, w01_1, v.2.2) v.2.1 w01_1) v.2.2.2.2.2) := hD
    refine lv_aload_n hx hb dX2_readCommand_56 rfl (lv_at hl 0 rfl) ?_
    refine va_get (D := D) (ci := 0) (v := (cmdV g (f_X2_commandNamed (v.1, w01_1, v.2.2) v.2.1 w01_1))) (C := RX2) (T := TX2) (N := 6) hx hb hts inX2 hown hK0.1 hP 0 rfl rfl 3 (by decide) (hts (.fieldLink RX2 54 "PivotChamber$CommandText" "command" "LPivotChamber$Command;") (List.mem_of_getElem? (i := 3) rfl)) (fun _ h9 => h9) rfl dX2_readCommand_57 ?_
    by_cases c_2 : (f_X2_commandNamed (v.1, w01_1, v.2.2) v.2.1 w01_1) < 7
    · refine W.eq (g2 := F0 m 60 ls (.ref (g (10 + (f_X2_commandNamed (v.1, w01_1, v.2.2) v.2.1 w01_1))) :: [])) (by rw [cmdV_ref c_2]) ?_
      refine lv_ifnonnull (tgt := 65) hx hb dX2_readCommand_60 (by decide) ?_
      refine lv_aload_n hx hb dX2_readCommand_65 rfl (lv_at hl 0 rfl) ?_
      refine lv_iconst (v := 0) hx hb dX2_readCommand_66 (by decide) ?_
      refine va_put (D := D) (ci := 0) (v := .int 0) (ty := .int) (C := RX2) (T := TX2) (N := 6) hx hb hts inX2 tyX2 tyX2_ok nmX2 hown hK0.1 hP hD hS 0 rfl rfl 4 (by decide) (hts (.fieldLink RX2 58 "PivotChamber$CommandText" "first" "I") (List.mem_of_getElem? (i := 4) rfl)) (fun _ h9 => h9) rfl (by decide +kernel) rfl rfl (Nat.le_of_ble_eq_true rfl) dX2_readCommand_67 (fun H locs hP hD hS => ?_)
      have hP : va_P D vwCl (wTxtE cy g a v.1 w01_1 0 v.2.2.2.1 (f_X2_commandNamed (v.1, w01_1, v.2.2) v.2.1 w01_1) v.2.2.2.2.2) H := hP
      have hD : va_D A (wTxtE cy g a v.1 w01_1 0 v.2.2.2.1 (f_X2_commandNamed (v.1, w01_1, v.2.2) v.2.1 w01_1) v.2.2.2.2.2) := hD
      refine lv_aload_n hx hb dX2_readCommand_70 rfl (lv_at hl 0 rfl) ?_
      refine lv_iconst (v := 0) hx hb dX2_readCommand_71 (by decide) ?_
      refine va_put (D := D) (ci := 0) (v := .int 0) (ty := .int) (C := RX2) (T := TX2) (N := 6) hx hb hts inX2 tyX2 tyX2_ok nmX2 hown hK0.1 hP hD hS 0 rfl rfl 5 (by decide) (hts (.fieldLink RX2 61 "PivotChamber$CommandText" "second" "I") (List.mem_of_getElem? (i := 5) rfl)) (fun _ h9 => h9) rfl (by decide +kernel) rfl rfl (Nat.le_of_ble_eq_true rfl) dX2_readCommand_72 (fun H locs hP hD hS => ?_)
      have hP : va_P D vwCl (wTxtE cy g a v.1 w01_1 0 0 (f_X2_commandNamed (v.1, w01_1, v.2.2) v.2.1 w01_1) v.2.2.2.2.2) H := hP
      have hD : va_D A (wTxtE cy g a v.1 w01_1 0 0 (f_X2_commandNamed (v.1, w01_1, v.2.2) v.2.1 w01_1) v.2.2.2.2.2) := hD
      refine lv_iconst (v := 0) hx hb dX2_readCommand_75 (by decide) ?_
      refine lv_istore_n (lv' := [(2, .int 0), (0, .ref (a 0)), (1, .int v.2.1)]) hx hb dX2_readCommand_76 rfl hl (by decide) rfl (fun ls hl => ?_)
      have key : ∀ (nf : Nat) (i2_3 : Int32) (w01_4 : Int32) (w02_5 : Int32) (w03_6 : Int32), (((my_num.getD (f_X2_commandNamed (v.1, w01_1, v.2.2) v.2.1 w01_1) 0) : Int32).toInt - (i2_3 : Int32).toInt).toNat < nf → lp (fun (x : Int32 × Int32 × Int32 × Int32) => f_X2_readCommand_st1 v w01_1 x.1 x.2.1 x.2.2.1 x.2.2.2) default nf (i2_3, w01_4, w02_5, w03_6) = lp (fun (x : Int32 × Int32 × Int32 × Int32) => f_X2_readCommand_st1 v w01_1 x.1 x.2.1 x.2.2.1 x.2.2.2) default ((((my_num.getD (f_X2_commandNamed (v.1, w01_1, v.2.2) v.2.1 w01_1) 0) : Int32).toInt - (0 : Int32).toInt).toNat + 1) (0, w01_1, 0, 0) → ∀ (H : Heap) (locs : List Loc), va_P D vwCl (wTxtE cy g a v.1 w01_4 w02_5 w03_6 (f_X2_commandNamed (v.1, w01_1, v.2.2) v.2.1 w01_1) v.2.2.2.2.2) H → va_D A (wTxtE cy g a v.1 w01_4 w02_5 w03_6 (f_X2_commandNamed (v.1, w01_1, v.2.2) v.2.1 w01_1) v.2.2.2.2.2) → va_S A s.heap H locs → ∀ ls : Array Slot, lv_has ls 3 [(0, .ref (a 0)), (1, .int v.2.1), (2, .int i2_3)] → W p l e (headSpec wsX2_readCommand ({ frames := 6, cells := 0, slots := 0, locals := 135 } : Room)).room s m ([.ref (a 0)] : List Value).toArray below meth c H locs 0 0 (MQ below (va_Qi (fun (r : Int32) (u : Int32 × Int32 × Int32 × Nat) => f_X2_readCommand v = (r, u)) (fun u t => va_P D vwCl (wTxtE cy g a v.1 u.1 u.2.1 u.2.2.1 u.2.2.2 v.2.2.2.2.2) t.heap) A) ([.ref (a 0)] : List Value).toArray s 0 0 A) (F0 m 77 ls []) := by
        intro n1
        induction n1 with
        | zero => intro i2_3 w01_4 w02_5 w03_6 hlt; exact absurd hlt (Nat.not_lt_zero _)
        | succ n1 ih1 =>
          intro i2_3 w01_4 w02_5 w03_6 hlt1 hF1 H locs hP hD hS ls hl
          refine lv_iload_n hx hb dX2_readCommand_77 rfl (lv_at hl 2 rfl) ?_
          refine lv_aload_n hx hb dX2_readCommand_78 rfl (lv_at hl 0 rfl) ?_
          refine va_get (D := D) (ci := 0) (v := (cmdV g (f_X2_commandNamed (v.1, w01_1, v.2.2) v.2.1 w01_1))) (C := RX2) (T := TX2) (N := 6) hx hb hts inX2 hown hK0.1 hP 0 rfl rfl 3 (by decide) (hts (.fieldLink RX2 54 "PivotChamber$CommandText" "command" "LPivotChamber$Command;") (List.mem_of_getElem? (i := 3) rfl)) (fun _ h9 => h9) rfl dX2_readCommand_79 ?_
          refine W.eq (g2 := F0 m 82 ls (.ref (g (10 + (f_X2_commandNamed (v.1, w01_1, v.2.2) v.2.1 w01_1))) :: [.int i2_3])) (by rw [cmdV_ref c_2]) ?_
          refine my_getEN hx hb (hK0.2.2.narrow hAB).2.2.2.1 (i := (f_X2_commandNamed (v.1, w01_1, v.2.2) v.2.1 w01_1)) c_2 hS hown (q := ("PivotChamber$Command", "numbers", "I", my_num)) (List.mem_of_getElem? (i := 1) rfl) (va_Nw.use rfl (hK0.2.1.1.f 14 rfl)) (fun _ h => h) dX2_readCommand_82 ?_
          refine lv_icmp_ge (tgt := 107) hx hb dX2_readCommand_85 (by decide) (fun c_7 => ?_) (fun c_7 => ?_)
          · refine lv_aload_n hx hb dX2_readCommand_107 rfl (lv_at hl 0 rfl) ?_
            have hP : va_P D vwCl (wTxt cy g a (v.1, w01_4, w02_5, w03_6, (f_X2_commandNamed (v.1, w01_1, v.2.2) v.2.1 w01_1), v.2.2.2.2.2)) H := by rw [wTxt_mk]; exact hP
            have hD : va_D A (wTxt cy g a (v.1, w01_4, w02_5, w03_6, (f_X2_commandNamed (v.1, w01_1, v.2.2) v.2.1 w01_1), v.2.2.2.2.2)) := by rw [wTxt_mk]; exact hD
            refine mu_allv (wf := fun (u_8 : Int32) => (wTxtE cy g a v.1 u_8 w02_5 w03_6 (f_X2_commandNamed (v.1, w01_1, v.2.2) v.2.1 w01_1) v.2.2.2.2.2)) (va_runV (C := RX2) (As := []) (rest := []) S (c_X2_skipSpaces l D cy g B a (v.1, w01_4, w02_5, w03_6, (f_X2_commandNamed (v.1, w01_1, v.2.2) v.2.1 w01_1), v.2.2.2.2.2)) (cwV 0 hts gX2_readCommand_X2_skipSpaces rfl rfl rfl hd_X2_skipSpaces_V ⟨Nat.le_of_ble_eq_true rfl, Nat.le_of_ble_eq_true rfl⟩) ⟨muP_blind, va_recv hK0.1 hP (ci := 0) (q0 := 0) rfl rfl, my_preA hK0 hS hAB hP hD⟩ rfl rfl hl.1 rfl (lv_room (Nat.le_of_ble_eq_true rfl)) dX2_readCommand_108 ⟨Nat.zero_le _, Nat.zero_le _⟩) hS hD (fun _ => by simp only [List.map_cons, List.map_nil, adrSet, adrSetE, adrPow, adrPowE, adrTxt, adrTxtE, adrSav, adrSavE, adrPCo, adrMod, adrModE]) (fun u_8 H locs hw_9 hP hD hS => ?_)
            refine lv_aload_n hx hb dX2_readCommand_111 rfl (lv_at hl 0 rfl) ?_
            refine lv_aload_n hx hb dX2_readCommand_112 rfl (lv_at hl 0 rfl) ?_
            refine va_get (D := D) (ci := 0) (v := .int u_8) (C := RX2) (T := TX2) (N := 6) hx hb hts inX2 hown hK0.1 hP 0 rfl rfl 2 (by decide) (hts (.fieldLink RX2 28 "PivotChamber$CommandText" "place" "I") (List.mem_of_getElem? (i := 1) rfl)) (fun _ h9 => h9) rfl dX2_readCommand_113 ?_
            have hP : va_P D vwCl (wTxt cy g a (v.1, u_8, w02_5, w03_6, (f_X2_commandNamed (v.1, w01_1, v.2.2) v.2.1 w01_1), v.2.2.2.2.2)) H := by rw [wTxt_mk]; exact hP
            have hD : va_D A (wTxt cy g a (v.1, u_8, w02_5, w03_6, (f_X2_commandNamed (v.1, w01_1, v.2.2) v.2.1 w01_1), v.2.2.2.2.2)) := by rw [wTxt_mk]; exact hD
            refine rd_goi (va_runV (C := RX2) (As := [.int u_8]) (rest := []) S (c_X2_byteAt l D cy g B a (v.1, u_8, w02_5, w03_6, (f_X2_commandNamed (v.1, w01_1, v.2.2) v.2.1 w01_1), v.2.2.2.2.2) u_8) (cwV 1 hts gX2_readCommand_X2_byteAt rfl rfl rfl hd_X2_byteAt_V ⟨Nat.le_of_ble_eq_true rfl, Nat.le_of_ble_eq_true rfl⟩) ⟨rdP_blind, va_recv hK0.1 hP (ci := 0) (q0 := 0) rfl rfl, my_preP hK0 hS hAB hP⟩ rfl rfl hl.1 rfl (lv_room (Nat.le_of_ble_eq_true rfl)) dX2_readCommand_116 ⟨Nat.zero_le _, Nat.zero_le _⟩) ?_
            refine lv_bipush (v := 59) hx hb dX2_readCommand_119 (by decide) ?_
            refine lv_icmp_eq (tgt := 129) hx hb dX2_readCommand_121 (by decide) (fun c_10 => ?_) (fun c_10 => ?_)
            · refine lv_aload_n hx hb dX2_readCommand_129 rfl (lv_at hl 0 rfl) ?_
              refine lv_dup hx hb dX2_readCommand_130 rfl ?_
              refine va_get (D := D) (ci := 0) (v := .int u_8) (C := RX2) (T := TX2) (N := 6) hx hb hts inX2 hown hK0.1 hP 0 rfl rfl 2 (by decide) (hts (.fieldLink RX2 28 "PivotChamber$CommandText" "place" "I") (List.mem_of_getElem? (i := 1) rfl)) (fun _ h9 => h9) rfl dX2_readCommand_131 ?_
              refine lv_iconst (v := 1) hx hb dX2_readCommand_134 (by decide) ?_
              refine lv_iadd hx hb dX2_readCommand_135 ?_
              refine va_put (D := D) (ci := 0) (v := .int (u_8 + 1)) (ty := .int) (C := RX2) (T := TX2) (N := 6) hx hb hts inX2 tyX2 tyX2_ok nmX2 hown hK0.1 hP hD hS 0 rfl rfl 2 (by decide) (hts (.fieldLink RX2 28 "PivotChamber$CommandText" "place" "I") (List.mem_of_getElem? (i := 1) rfl)) (fun _ h9 => h9) rfl (by decide +kernel) rfl rfl (Nat.le_of_ble_eq_true rfl) dX2_readCommand_136 (fun H locs hP hD hS => ?_)
              have hP : va_P D vwCl (wTxtE cy g a v.1 (u_8 + 1) w02_5 w03_6 (f_X2_commandNamed (v.1, w01_1, v.2.2) v.2.1 w01_1) v.2.2.2.2.2) H := hP
              have hD : va_D A (wTxtE cy g a v.1 (u_8 + 1) w02_5 w03_6 (f_X2_commandNamed (v.1, w01_1, v.2.2) v.2.1 w01_1) v.2.2.2.2.2) := hD
              refine lv_iconst (v := (-1)) hx hb dX2_readCommand_139 (by decide) ?_
              have hP : va_P D vwCl (wTxtE cy g a v.1 (u_8 + 1) w02_5 w03_6 (f_X2_commandNamed (v.1, w01_1, v.2.2) v.2.1 w01_1) v.2.2.2.2.2) H := hP
              have hD : va_D A (wTxtE cy g a v.1 (u_8 + 1) w02_5 w03_6 (f_X2_commandNamed (v.1, w01_1, v.2.2) v.2.1 w01_1) v.2.2.2.2.2) := hD
              have hst : f_X2_readCommand_st1 v w01_1 i2_3 w01_4 w02_5 w03_6 = .inr ((-1), ((u_8 + 1), w02_5, w03_6, (f_X2_commandNamed (v.1, w01_1, v.2.2) v.2.1 w01_1))) := by rw [f_X2_readCommand_st1, if_pos c_7, hw_9, my_l_eq, if_pos c_10]
              exact W.iret hx hb hr (fun t ht hW => ⟨⟨(-1), ((u_8 + 1), w02_5, w03_6, (f_X2_commandNamed (v.1, w01_1, v.2.2) v.2.1 w01_1)), rfl, (show f_X2_readCommand v = ((-1), ((u_8 + 1), w02_5, w03_6, (f_X2_commandNamed (v.1, w01_1, v.2.2) v.2.1 w01_1))) from by rw [f_X2_readCommand, hE0, my_l_eq, if_pos c_2]; exact lp_inr hst hF1), by show va_P D vwCl _ t.heap; rw [ht]; exact hP⟩, hS.F ht⟩) hS.2.2 dX2_readCommand_140
            · refine lv_aload_n hx hb dX2_readCommand_124 rfl (lv_at hl 0 rfl) ?_
              refine va_get (D := D) (ci := 0) (v := .int u_8) (C := RX2) (T := TX2) (N := 6) hx hb hts inX2 hown hK0.1 hP 0 rfl rfl 2 (by decide) (hts (.fieldLink RX2 28 "PivotChamber$CommandText" "place" "I") (List.mem_of_getElem? (i := 1) rfl)) (fun _ h9 => h9) rfl dX2_readCommand_125 ?_
              have hP : va_P D vwCl (wTxtE cy g a v.1 u_8 w02_5 w03_6 (f_X2_commandNamed (v.1, w01_1, v.2.2) v.2.1 w01_1) v.2.2.2.2.2) H := hP
              have hD : va_D A (wTxtE cy g a v.1 u_8 w02_5 w03_6 (f_X2_commandNamed (v.1, w01_1, v.2.2) v.2.1 w01_1) v.2.2.2.2.2) := hD
              have hst : f_X2_readCommand_st1 v w01_1 i2_3 w01_4 w02_5 w03_6 = .inr (u_8, (u_8, w02_5, w03_6, (f_X2_commandNamed (v.1, w01_1, v.2.2) v.2.1 w01_1))) := by rw [f_X2_readCommand_st1, if_pos c_7, hw_9, my_l_eq, if_neg c_10]
              exact W.iret hx hb hr (fun t ht hW => ⟨⟨u_8, (u_8, w02_5, w03_6, (f_X2_commandNamed (v.1, w01_1, v.2.2) v.2.1 w01_1)), rfl, (show f_X2_readCommand v = (u_8, (u_8, w02_5, w03_6, (f_X2_commandNamed (v.1, w01_1, v.2.2) v.2.1 w01_1))) from by rw [f_X2_readCommand, hE0, my_l_eq, if_pos c_2]; exact lp_inr hst hF1), by show va_P D vwCl _ t.heap; rw [ht]; exact hP⟩, hS.F ht⟩) hS.2.2 dX2_readCommand_128
          · refine lv_aload_n hx hb dX2_readCommand_88 rfl (lv_at hl 0 rfl) ?_
            refine lv_iload_n hx hb dX2_readCommand_89 rfl (lv_at hl 2 rfl) ?_
            have hP : va_P D vwCl (wTxt cy g a (v.1, w01_4, w02_5, w03_6, (f_X2_commandNamed (v.1, w01_1, v.2.2) v.2.1 w01_1), v.2.2.2.2.2)) H := by rw [wTxt_mk]; exact hP
            have hD : va_D A (wTxt cy g a (v.1, w01_4, w02_5, w03_6, (f_X2_commandNamed (v.1, w01_1, v.2.2) v.2.1 w01_1), v.2.2.2.2.2)) := by rw [wTxt_mk]; exact hD
            refine mu_alli (wf := fun (u_11 : Int32 × Int32 × Int32) => (wTxtE cy g a v.1 u_11.1 u_11.2.1 u_11.2.2 (f_X2_commandNamed (v.1, w01_1, v.2.2) v.2.1 w01_1) v.2.2.2.2.2)) (va_runV (C := RX2) (As := [.int i2_3]) (rest := []) S (c_X2_readNumber l D cy g B a (v.1, w01_4, w02_5, w03_6, (f_X2_commandNamed (v.1, w01_1, v.2.2) v.2.1 w01_1), v.2.2.2.2.2) i2_3) (cwV 1 hts gX2_readCommand_X2_readNumber rfl rfl rfl hd_X2_readNumber_V ⟨Nat.le_of_ble_eq_true rfl, Nat.le_of_ble_eq_true rfl⟩) ⟨muP_blind, va_recv hK0.1 hP (ci := 0) (q0 := 0) rfl rfl, my_preA hK0 hS hAB hP hD⟩ rfl rfl hl.1 rfl (lv_room (Nat.le_of_ble_eq_true rfl)) dX2_readCommand_90 ⟨Nat.zero_le _, Nat.zero_le _⟩) hS hD (fun _ => by simp only [List.map_cons, List.map_nil, adrSet, adrSetE, adrPow, adrPowE, adrTxt, adrTxtE, adrSav, adrSavE, adrPCo, adrMod, adrModE]) (fun r_13 u_11 H locs hw_12 hP hD hS => ?_)
            refine lv_if_ne (tgt := 101) hx hb dX2_readCommand_93 (by decide) (fun c_14 => ?_) (fun c_14 => ?_)
            · refine lv_iinc (v := (i2_3 + 1)) (lv' := [(2, .int (i2_3 + 1)), (0, .ref (a 0)), (1, .int v.2.1)]) hx hb dX2_readCommand_101 hl (k := 2) rfl rfl (by decide) rfl (fun ls hl => ?_)
              refine lv_goto (tgt := 77) hx hb dX2_readCommand_104 (by decide) ?_
              have hst : f_X2_readCommand_st1 v w01_1 i2_3 w01_4 w02_5 w03_6 = .inl ((i2_3 + 1), u_11.1, u_11.2.1, u_11.2.2) := by rw [f_X2_readCommand_st1, if_neg c_7, hw_12, my_b_eq, if_neg c_14]
              have hmu : (((my_num.getD (f_X2_commandNamed (v.1, w01_1, v.2.2) v.2.1 w01_1) 0) : Int32).toInt - ((i2_3 + 1) : Int32).toInt).toNat < (((my_num.getD (f_X2_commandNamed (v.1, w01_1, v.2.2) v.2.1 w01_1) 0) : Int32).toInt - (i2_3 : Int32).toInt).toNat := mu_up c_7
              exact ih1 (i2_3 + 1) u_11.1 u_11.2.1 u_11.2.2 (Nat.lt_of_lt_of_le hmu (Nat.le_of_lt_succ hlt1)) (lp_inl hst hF1) _ _ hP hD hS _ (lv_sub hl [1, 2, 0] rfl)
            · refine lv_aload_n hx hb dX2_readCommand_96 rfl (lv_at hl 0 rfl) ?_
              refine va_get (D := D) (ci := 0) (v := .int u_11.1) (C := RX2) (T := TX2) (N := 6) hx hb hts inX2 hown hK0.1 hP 0 rfl rfl 2 (by decide) (hts (.fieldLink RX2 28 "PivotChamber$CommandText" "place" "I") (List.mem_of_getElem? (i := 1) rfl)) (fun _ h9 => h9) rfl dX2_readCommand_97 ?_
              have hP : va_P D vwCl (wTxtE cy g a v.1 u_11.1 u_11.2.1 u_11.2.2 (f_X2_commandNamed (v.1, w01_1, v.2.2) v.2.1 w01_1) v.2.2.2.2.2) H := hP
              have hD : va_D A (wTxtE cy g a v.1 u_11.1 u_11.2.1 u_11.2.2 (f_X2_commandNamed (v.1, w01_1, v.2.2) v.2.1 w01_1) v.2.2.2.2.2) := hD
              have hst : f_X2_readCommand_st1 v w01_1 i2_3 w01_4 w02_5 w03_6 = .inr (u_11.1, (u_11.1, u_11.2.1, u_11.2.2, (f_X2_commandNamed (v.1, w01_1, v.2.2) v.2.1 w01_1))) := by rw [f_X2_readCommand_st1, if_neg c_7, hw_12, my_b_eq, if_pos c_14]
              exact W.iret hx hb hr (fun t ht hW => ⟨⟨u_11.1, (u_11.1, u_11.2.1, u_11.2.2, (f_X2_commandNamed (v.1, w01_1, v.2.2) v.2.1 w01_1)), rfl, (show f_X2_readCommand v = (u_11.1, (u_11.1, u_11.2.1, u_11.2.2, (f_X2_commandNamed (v.1, w01_1, v.2.2) v.2.1 w01_1))) from by rw [f_X2_readCommand, hE0, my_l_eq, if_pos c_2]; exact lp_inr hst hF1), by show va_P D vwCl _ t.heap; rw [ht]; exact hP⟩, hS.F ht⟩) hS.2.2 dX2_readCommand_100
      exact key ((((my_num.getD (f_X2_commandNamed (v.1, w01_1, v.2.2) v.2.1 w01_1) 0) : Int32).toInt - (0 : Int32).toInt).toNat + 1) 0 w01_1 0 0 (Nat.lt_succ_self _) rfl _ _ hP hD hS _ (lv_sub hl [1, 2, 0] rfl)
    · refine W.eq (g2 := F0 m 60 ls (.null :: [])) (by rw [cmdV_null c_2]) ?_
      refine lv_ifnonnullN hx hb dX2_readCommand_60 ?_
      refine lv_iload_n hx hb dX2_readCommand_63 rfl (lv_at hl 1 rfl) ?_
      have hP : va_P D vwCl (wTxtE cy g a v.1 w01_1 v.2.2.1 v.2.2.2.1 (f_X2_commandNamed (v.1, w01_1, v.2.2) v.2.1 w01_1) v.2.2.2.2.2) H := hP
      have hD : va_D A (wTxtE cy g a v.1 w01_1 v.2.2.1 v.2.2.2.1 (f_X2_commandNamed (v.1, w01_1, v.2.2) v.2.1 w01_1) v.2.2.2.2.2) := hD
      exact W.iret hx hb hr (fun t ht hW => ⟨⟨v.2.1, (w01_1, v.2.2.1, v.2.2.2.1, (f_X2_commandNamed (v.1, w01_1, v.2.2) v.2.1 w01_1)), rfl, (show f_X2_readCommand v = (v.2.1, (w01_1, v.2.2.1, v.2.2.2.1, (f_X2_commandNamed (v.1, w01_1, v.2.2) v.2.1 w01_1))) from by rw [f_X2_readCommand, hE0, my_l_eq, if_neg c_2]), by show va_P D vwCl _ t.heap; rw [ht]; exact hP⟩, hS.F ht⟩) hS.2.2 dX2_readCommand_64
  have key : ∀ (nf : Nat) (w01_1 : Int32), ((v.1 : Int32).toInt - (w01_1 : Int32).toInt).toNat < nf → lp (fun (x : Int32) => f_X2_readCommand_st v x) default nf w01_1 = lp (fun (x : Int32) => f_X2_readCommand_st v x) default (((v.1 : Int32).toInt - (v.2.1 : Int32).toInt).toNat + 1) v.2.1 → ∀ (H : Heap) (locs : List Loc), va_P D vwCl (wTxtE cy g a v.1 w01_1 v.2.2.1 v.2.2.2.1 v.2.2.2.2.1 v.2.2.2.2.2) H → va_D A (wTxtE cy g a v.1 w01_1 v.2.2.1 v.2.2.2.1 v.2.2.2.2.1 v.2.2.2.2.2) → va_S A s.heap H locs → ∀ ls : Array Slot, lv_has ls 3 [(0, .ref (a 0)), (1, .int v.2.1)] → W p l e (headSpec wsX2_readCommand ({ frames := 6, cells := 0, slots := 0, locals := 135 } : Room)).room s m ([.ref (a 0)] : List Value).toArray below meth c H locs 0 0 (MQ below (va_Qi (fun (r : Int32) (u : Int32 × Int32 × Int32 × Nat) => f_X2_readCommand v = (r, u)) (fun u t => va_P D vwCl (wTxtE cy g a v.1 u.1 u.2.1 u.2.2.1 u.2.2.2 v.2.2.2.2.2) t.heap) A) ([.ref (a 0)] : List Value).toArray s 0 0 A) (F0 m 5 ls []) := by
    intro n0
    induction n0 with
    | zero => intro w01_1 hlt; exact absurd hlt (Nat.not_lt_zero _)
    | succ n0 ih0 =>
      intro w01_1 hlt0 hF0 H locs hP hD hS ls hl
      refine lv_aload_n hx hb dX2_readCommand_5 rfl (lv_at hl 0 rfl) ?_
      refine va_get (D := D) (ci := 0) (v := .int w01_1) (C := RX2) (T := TX2) (N := 6) hx hb hts inX2 hown hK0.1 hP 0 rfl rfl 2 (by decide) (hts (.fieldLink RX2 28 "PivotChamber$CommandText" "place" "I") (List.mem_of_getElem? (i := 1) rfl)) (fun _ h9 => h9) rfl dX2_readCommand_6 ?_
      refine lv_aload_n hx hb dX2_readCommand_9 rfl (lv_at hl 0 rfl) ?_
      refine va_get (D := D) (ci := 0) (v := .int v.1) (C := RX2) (T := TX2) (N := 6) hx hb hts inX2 hown hK0.1 hP 0 rfl rfl 1 (by decide) (hts (.fieldLink RX2 20 "PivotChamber$CommandText" "length" "I") (List.mem_of_getElem? (i := 2) rfl)) (fun _ h9 => h9) rfl dX2_readCommand_10 ?_
      refine lv_icmp_ge (tgt := 43) hx hb dX2_readCommand_13 (by decide) (fun c_15 => ?_) (fun c_15 => ?_)
      · have hst : f_X2_readCommand_st v w01_1 = .inr w01_1 := by rw [f_X2_readCommand_st, if_pos c_15]
        exact cont0 w01_1 (lp_inr hst hF0) _ _ hP hD hS _ (lv_sub hl [0, 1] rfl)
      · refine lv_aload_n hx hb dX2_readCommand_16 rfl (lv_at hl 0 rfl) ?_
        refine lv_aload_n hx hb dX2_readCommand_17 rfl (lv_at hl 0 rfl) ?_
        refine va_get (D := D) (ci := 0) (v := .int w01_1) (C := RX2) (T := TX2) (N := 6) hx hb hts inX2 hown hK0.1 hP 0 rfl rfl 2 (by decide) (hts (.fieldLink RX2 28 "PivotChamber$CommandText" "place" "I") (List.mem_of_getElem? (i := 1) rfl)) (fun _ h9 => h9) rfl dX2_readCommand_18 ?_
        have hP : va_P D vwCl (wTxt cy g a (v.1, w01_1, v.2.2)) H := by rw [wTxt_mk]; exact hP
        have hD : va_D A (wTxt cy g a (v.1, w01_1, v.2.2)) := by rw [wTxt_mk]; exact hD
        refine rd_goi (va_runV (C := RX2) (As := [.int w01_1]) (rest := []) S (c_X2_byteAt l D cy g B a (v.1, w01_1, v.2.2) w01_1) (cwV 1 hts gX2_readCommand_X2_byteAt rfl rfl rfl hd_X2_byteAt_V ⟨Nat.le_of_ble_eq_true rfl, Nat.le_of_ble_eq_true rfl⟩) ⟨rdP_blind, va_recv hK0.1 hP (ci := 0) (q0 := 0) rfl rfl, my_preP hK0 hS hAB hP⟩ rfl rfl hl.1 rfl (lv_room (Nat.le_of_ble_eq_true rfl)) dX2_readCommand_21 ⟨Nat.zero_le _, Nat.zero_le _⟩) ?_
        refine rd_goi (va_runS (As := [.int (f_X2_byteAt (v.1, w01_1, v.2.2) w01_1)]) (rest := []) S (c_X2_isLetter l D cy g B (f_X2_byteAt (v.1, w01_1, v.2.2) w01_1)) (va_cwS 1 hts gX2_readCommand_X2_isLetter rfl rfl rfl hd_X2_isLetter_S ⟨Nat.le_of_ble_eq_true rfl, Nat.le_of_ble_eq_true rfl⟩) ⟨rdP_blind, my_preV hK0 hS hAB hP [] rfl⟩ rfl rfl hl.1 rfl (lv_room (Nat.le_of_ble_eq_true rfl)) dX2_readCommand_24 ⟨Nat.zero_le _, Nat.zero_le _⟩) ?_
        refine lv_if_eq (tgt := 43) hx hb dX2_readCommand_27 (by decide) (fun c_16 => ?_) (fun c_16 => ?_)
        · have hst : f_X2_readCommand_st v w01_1 = .inr w01_1 := by rw [f_X2_readCommand_st, if_neg c_15, if_pos c_16]
          exact cont0 w01_1 (lp_inr hst hF0) _ _ hP hD hS _ (lv_sub hl [0, 1] rfl)
        · refine lv_aload_n hx hb dX2_readCommand_30 rfl (lv_at hl 0 rfl) ?_
          refine lv_dup hx hb dX2_readCommand_31 rfl ?_
          refine va_get (D := D) (ci := 0) (v := .int w01_1) (C := RX2) (T := TX2) (N := 6) hx hb hts inX2 hown hK0.1 hP 0 rfl rfl 2 (by decide) (hts (.fieldLink RX2 28 "PivotChamber$CommandText" "place" "I") (List.mem_of_getElem? (i := 1) rfl)) (fun _ h9 => h9) rfl dX2_readCommand_32 ?_
          refine lv_iconst (v := 1) hx hb dX2_readCommand_35 (by decide) ?_
          refine lv_iadd hx hb dX2_readCommand_36 ?_
          refine va_put (D := D) (ci := 0) (v := .int (w01_1 + 1)) (ty := .int) (C := RX2) (T := TX2) (N := 6) hx hb hts inX2 tyX2 tyX2_ok nmX2 hown hK0.1 hP hD hS 0 rfl rfl 2 (by decide) (hts (.fieldLink RX2 28 "PivotChamber$CommandText" "place" "I") (List.mem_of_getElem? (i := 1) rfl)) (fun _ h9 => h9) rfl (by decide +kernel) rfl rfl (Nat.le_of_ble_eq_true rfl) dX2_readCommand_37 (fun H locs hP hD hS => ?_)
          have hP : va_P D vwCl (wTxtE cy g a v.1 (w01_1 + 1) v.2.2.1 v.2.2.2.1 v.2.2.2.2.1 v.2.2.2.2.2) H := hP
          have hD : va_D A (wTxtE cy g a v.1 (w01_1 + 1) v.2.2.1 v.2.2.2.1 v.2.2.2.2.1 v.2.2.2.2.2) := hD
          refine lv_goto (tgt := 5) hx hb dX2_readCommand_40 (by decide) ?_
          have hst : f_X2_readCommand_st v w01_1 = .inl (w01_1 + 1) := by rw [f_X2_readCommand_st, if_neg c_15, if_neg c_16]
          have hmu : ((v.1 : Int32).toInt - ((w01_1 + 1) : Int32).toInt).toNat < ((v.1 : Int32).toInt - (w01_1 : Int32).toInt).toNat := mu_up c_15
          exact ih0 (w01_1 + 1) (Nat.lt_of_lt_of_le hmu (Nat.le_of_lt_succ hlt0)) (lp_inl hst hF0) _ _ hP hD hS _ (lv_sub hl [0, 1] rfl)
  exact key (((v.1 : Int32).toInt - (v.2.1 : Int32).toInt).toNat + 1) v.2.1 (Nat.lt_succ_self _) rfl _ _ hP hD hS _ (lv_sub hl [1, 0] rfl)
theorem hd_X2_findFault_S : yX2_findFault.cls ≠ "java/lang/invoke/MethodHandle" ∧ yX2_findFault.cls ≠ "java/lang/invoke/VarHandle" ∧ (parseMethodDescriptor yX2_findFault.desc).map (fun d => d.parameters.length) = some 0 := by decide +kernel
theorem hd_X2_findFault_V : yX2_findFault.cls = RX2 ∧ yX2_findFault.cls ≠ "java/lang/invoke/MethodHandle" ∧ yX2_findFault.cls ≠ "java/lang/invoke/VarHandle" ∧ (parseMethodDescriptor yX2_findFault.desc).map (fun d => d.parameters.length) = some 0 := ⟨rfl, hd_X2_findFault_S⟩
def f_X2_findFault_st (v : TxtV) (i1_1 : Int32) (i2_2 : Int32) (w01_3 : Int32) (w02_4 : Int32) (w03_5 : Int32) (w04_6 : Nat) : (Int32 × Int32 × Int32 × Int32 × Int32 × Nat) ⊕ (Int32 × Int32 × Int32 × Int32 × Int32 × Nat) := (if 150 ≤ i2_2 then (.inr (i1_1, i2_2, w01_3, w02_4, w03_5, w04_6)) else (if i1_1 = (-1) then (my_b (f_X2_hasCommand (v.1, w01_3, w02_4, w03_5, w04_6, v.2.2.2.2.2)) (fun (r_11 : Int32) (u_9 : Int32) => (if r_11 = 0 then (.inr (i1_1, i2_2, u_9, w02_4, w03_5, w04_6)) else (my_b (f_X2_readCommand (v.1, u_9, w02_4, w03_5, w04_6, v.2.2.2.2.2)) (fun (r_15 : Int32) (u_13 : Int32 × Int32 × Int32 × Nat) => (.inl (r_15, (i2_2 + 1), u_13.1, u_13.2.1, u_13.2.2.1, u_13.2.2.2))))))) else (.inr (i1_1, i2_2, w01_3, w02_4, w03_5, w04_6))))
def f_X2_findFault (v : TxtV) : Int32 × (Int32 × Int32 × Int32 × Nat) := (my_t6 (lp (fun (x : Int32 × Int32 × Int32 × Int32 × Int32 × Nat) => f_X2_findFault_st v x.1 x.2.1 x.2.2.1 x.2.2.2.1 x.2.2.2.2.1 x.2.2.2.2.2) default (((150 : Int32).toInt - (0 : Int32).toInt).toNat + 1) ((-1), 0, 0, v.2.2.1, v.2.2.2.1, v.2.2.2.2.1)) (fun (i1_1 : Int32) (i2_2 : Int32) (w01_3 : Int32) (w02_4 : Int32) (w03_5 : Int32) (w04_6 : Nat) => (i1_1, (w01_3, w02_4, w03_5, w04_6))))
set_option maxHeartbeats 400000 in
set_option maxRecDepth 100000 in
theorem c_X2_findFault (l : Launch) (D : va_G) (cy : Nat → ClassId) (g : Nat → Nat) (B : Nat) (a : Nat → Nat) (v : TxtV) : Met l yX2_findFault wsX2_findFault ({ frames := 7, cells := 0, slots := 0, locals := 157 }) (muP D cy g B (wTxt cy g a v) [.ref (a 0)]) (va_Qi (fun (r : Int32) (u : Int32 × Int32 × Int32 × Nat) => f_X2_findFault v = (r, u)) (fun u t => va_P D vwCl (wTxtE cy g a v.1 u.1 u.2.1 u.2.2.1 u.2.2.2 v.2.2.2.2.2) t.heap) (muA (wTxt cy g a v))) 0 0 (muA (wTxt cy g a v)) := by
  refine Met.ofW (cc := cX2_findFault) (maxL := 3) (ret := (some .int)) (by decide) rfl ?_
  intro p e s m args below meth c s₁ BB hml hv
  obtain ⟨rfl, hP, hK0, hD0⟩ := hv
  have hx := BB.exec
  have hb := BB.bytes
  have hr := BB.returns
  have hts := atoms_spec (ws := wsX2_findFault) BB.pre
  have hown : s.vm.findClass RX2 = some m.cls := findClass_of_methodNamed BB.named
  have hlocks := BB.notSynchronized
  have S := my_fix hx hb hml hown hts
  have inX2 : ∀ w ∈ wsX20, w ∈ wsX2_findFault := fun w h => List.mem_cons_of_mem _ (List.mem_append_left _ (List.mem_append_right _ h))
  have hAB := muB hD0
  have hD := muD hD0
  generalize hAe : muA (wTxt cy g a v) = A at hAB hD ⊢
  have hS : va_S A s.heap s.heap [] := va_S.rf
  have hl := lv_entry ([.ref (a 0)]) (n := 3) (Nat.le_of_ble_eq_true rfl)
  rw [lg_entry_eq]
  generalize (lg_sl ([.ref (a 0)]) ++ List.replicate (3 - (lg_sl ([.ref (a 0)])).length) Slot.unset).toArray = ls at hl ⊢
  have hl : lv_has ls 3 [(0, .ref (a 0))] := hl
  refine lv_aload_n hx hb dX2_findFault_0 rfl (lv_at hl 0 rfl) ?_
  refine lv_iconst (v := 0) hx hb dX2_findFault_1 (by decide) ?_
  refine va_put (D := D) (ci := 0) (v := .int 0) (ty := .int) (C := RX2) (T := TX2) (N := 6) hx hb hts inX2 tyX2 tyX2_ok nmX2 hown hK0.1 hP hD hS 0 rfl rfl 2 (by decide) (hts (.fieldLink RX2 28 "PivotChamber$CommandText" "place" "I") (List.mem_of_getElem? (i := 1) rfl)) (fun _ h9 => h9) rfl (by decide +kernel) rfl rfl (Nat.le_of_ble_eq_true rfl) dX2_findFault_2 (fun H locs hP hD hS => ?_)
  have hP : va_P D vwCl (wTxtE cy g a v.1 0 v.2.2.1 v.2.2.2.1 v.2.2.2.2.1 v.2.2.2.2.2) H := hP
  have hD : va_D A (wTxtE cy g a v.1 0 v.2.2.1 v.2.2.2.1 v.2.2.2.2.1 v.2.2.2.2.2) := hD
  refine lv_iconst (v := (-1)) hx hb dX2_findFault_5 (by decide) ?_
  refine lv_istore_n (lv' := [(1, .int (-1)), (0, .ref (a 0))]) hx hb dX2_findFault_6 rfl hl (by decide) rfl (fun ls hl => ?_)
  refine lv_iconst (v := 0) hx hb dX2_findFault_7 (by decide) ?_
  refine lv_istore_n (lv' := [(2, .int 0), (1, .int (-1)), (0, .ref (a 0))]) hx hb dX2_findFault_8 rfl hl (by decide) rfl (fun ls hl => ?_)
  have cont0 : ∀ (i1_1 : Int32) (i2_2 : Int32) (w01_3 : Int32) (w02_4 : Int32) (w03_5 : Int32) (w04_6 : Nat), lp (fun (x : Int32 × Int32 × Int32 × Int32 × Int32 × Nat) => f_X2_findFault_st v x.1 x.2.1 x.2.2.1 x.2.2.2.1 x.2.2.2.2.1 x.2.2.2.2.2) default (((150 : Int32).toInt - (0 : Int32).toInt).toNat + 1) ((-1), 0, 0, v.2.2.1, v.2.2.2.1, v.2.2.2.2.1) = (i1_1, i2_2, w01_3, w02_4, w03_5, w04_6) → ∀ (H : Heap) (locs : List Loc), va_P D vwCl (wTxtE cy g a v.1 w01_3 w02_4 w03_5 w04_6 v.2.2.2.2.2) H → va_D A (wTxtE cy g a v.1 w01_3 w02_4 w03_5 w04_6 v.2.2.2.2.2) → va_S A s.heap H locs → ∀ ls : Array Slot, lv_has ls 3 [(0, .ref (a 0)), (1, .int i1_1), (2, .int i2_2)] → W p l e (headSpec wsX2_findFault ({ frames := 7, cells := 0, slots := 0, locals := 157 } : Room)).room s m ([.ref (a 0)] : List Value).toArray below meth c H locs 0 0 (MQ below (va_Qi (fun (r : Int32) (u : Int32 × Int32 × Int32 × Nat) => f_X2_findFault v = (r, u)) (fun u t => va_P D vwCl (wTxtE cy g a v.1 u.1 u.2.1 u.2.2.1 u.2.2.2 v.2.2.2.2.2) t.heap) A) ([.ref (a 0)] : List Value).toArray s 0 0 A) (F0 m 39 ls []) := by
    intro i1_1 i2_2 w01_3 w02_4 w03_5 w04_6 hE0 H locs hP hD hS ls hl
    refine lv_iload_n hx hb dX2_findFault_39 rfl (lv_at hl 1 rfl) ?_
    have hP : va_P D vwCl (wTxtE cy g a v.1 w01_3 w02_4 w03_5 w04_6 v.2.2.2.2.2) H := hP
    have hD : va_D A (wTxtE cy g a v.1 w01_3 w02_4 w03_5 w04_6 v.2.2.2.2.2) := hD
    exact W.iret hx hb hr (fun t ht hW => ⟨⟨i1_1, (w01_3, w02_4, w03_5, w04_6), rfl, (show f_X2_findFault v = (i1_1, (w01_3, w02_4, w03_5, w04_6)) from by rw [f_X2_findFault, hE0, my_t6_eq]), by show va_P D vwCl _ t.heap; rw [ht]; exact hP⟩, hS.F ht⟩) hS.2.2 dX2_findFault_40
  have key : ∀ (nf : Nat) (i1_1 : Int32) (i2_2 : Int32) (w01_3 : Int32) (w02_4 : Int32) (w03_5 : Int32) (w04_6 : Nat), ((150 : Int32).toInt - (i2_2 : Int32).toInt).toNat < nf → lp (fun (x : Int32 × Int32 × Int32 × Int32 × Int32 × Nat) => f_X2_findFault_st v x.1 x.2.1 x.2.2.1 x.2.2.2.1 x.2.2.2.2.1 x.2.2.2.2.2) default nf (i1_1, i2_2, w01_3, w02_4, w03_5, w04_6) = lp (fun (x : Int32 × Int32 × Int32 × Int32 × Int32 × Nat) => f_X2_findFault_st v x.1 x.2.1 x.2.2.1 x.2.2.2.1 x.2.2.2.2.1 x.2.2.2.2.2) default (((150 : Int32).toInt - (0 : Int32).toInt).toNat + 1) ((-1), 0, 0, v.2.2.1, v.2.2.2.1, v.2.2.2.2.1) → ∀ (H : Heap) (locs : List Loc), va_P D vwCl (wTxtE cy g a v.1 w01_3 w02_4 w03_5 w04_6 v.2.2.2.2.2) H → va_D A (wTxtE cy g a v.1 w01_3 w02_4 w03_5 w04_6 v.2.2.2.2.2) → va_S A s.heap H locs → ∀ ls : Array Slot, lv_has ls 3 [(0, .ref (a 0)), (1, .int i1_1), (2, .int i2_2)] → W p l e (headSpec wsX2_findFault ({ frames := 7, cells := 0, slots := 0, locals := 157 } : Room)).room s m ([.ref (a 0)] : List Value).toArray below meth c H locs 0 0 (MQ below (va_Qi (fun (r : Int32) (u : Int32 × Int32 × Int32 × Nat) => f_X2_findFault v = (r, u)) (fun u t => va_P D vwCl (wTxtE cy g a v.1 u.1 u.2.1 u.2.2.1 u.2.2.2 v.2.2.2.2.2) t.heap) A) ([.ref (a 0)] : List Value).toArray s 0 0 A) (F0 m 9 ls []) := by
    intro n0
    induction n0 with
    | zero => intro i1_1 i2_2 w01_3 w02_4 w03_5 w04_6 hlt; exact absurd hlt (Nat.not_lt_zero _)
    | succ n0 ih0 =>
      intro i1_1 i2_2 w01_3 w02_4 w03_5 w04_6 hlt0 hF0 H locs hP hD hS ls hl
      refine lv_iload_n hx hb dX2_findFault_9 rfl (lv_at hl 2 rfl) ?_
      refine lv_sipush (v := 150) hx hb dX2_findFault_10 (by decide) ?_
      refine lv_icmp_ge (tgt := 39) hx hb dX2_findFault_13 (by decide) (fun c_7 => ?_) (fun c_7 => ?_)
      · have hst : f_X2_findFault_st v i1_1 i2_2 w01_3 w02_4 w03_5 w04_6 = .inr (i1_1, i2_2, w01_3, w02_4, w03_5, w04_6) := by rw [f_X2_findFault_st, if_pos c_7]
        exact cont0 i1_1 i2_2 w01_3 w02_4 w03_5 w04_6 (lp_inr hst hF0) _ _ hP hD hS _ (lv_sub hl [0, 1, 2] rfl)
      · refine lv_iload_n hx hb dX2_findFault_16 rfl (lv_at hl 1 rfl) ?_
        refine lv_iconst (v := (-1)) hx hb dX2_findFault_17 (by decide) ?_
        refine lv_icmp_ne (tgt := 39) hx hb dX2_findFault_18 (by decide) (fun c_8 => ?_) (fun c_8 => ?_)
        · have hst : f_X2_findFault_st v i1_1 i2_2 w01_3 w02_4 w03_5 w04_6 = .inr (i1_1, i2_2, w01_3, w02_4, w03_5, w04_6) := by rw [f_X2_findFault_st, if_neg c_7, if_neg c_8]
          exact cont0 i1_1 i2_2 w01_3 w02_4 w03_5 w04_6 (lp_inr hst hF0) _ _ hP hD hS _ (lv_sub hl [0, 1, 2] rfl)
        · refine lv_aload_n hx hb dX2_findFault_21 rfl (lv_at hl 0 rfl) ?_
          have hP : va_P D vwCl (wTxt cy g a (v.1, w01_3, w02_4, w03_5, w04_6, v.2.2.2.2.2)) H := by rw [wTxt_mk]; exact hP
          have hD : va_D A (wTxt cy g a (v.1, w01_3, w02_4, w03_5, w04_6, v.2.2.2.2.2)) := by rw [wTxt_mk]; exact hD
          refine mu_alli (wf := fun (u_9 : Int32) => (wTxtE cy g a v.1 u_9 w02_4 w03_5 w04_6 v.2.2.2.2.2)) (va_runV (C := RX2) (As := []) (rest := []) S (c_X2_hasCommand l D cy g B a (v.1, w01_3, w02_4, w03_5, w04_6, v.2.2.2.2.2)) (cwV 0 hts gX2_findFault_X2_hasCommand rfl rfl rfl hd_X2_hasCommand_V ⟨Nat.le_of_ble_eq_true rfl, Nat.le_of_ble_eq_true rfl⟩) ⟨muP_blind, va_recv hK0.1 hP (ci := 0) (q0 := 0) rfl rfl, my_preA hK0 hS hAB hP hD⟩ rfl rfl hl.1 rfl (lv_room (Nat.le_of_ble_eq_true rfl)) dX2_findFault_22 ⟨Nat.zero_le _, Nat.zero_le _⟩) hS hD (fun _ => by simp only [List.map_cons, List.map_nil, adrSet, adrSetE, adrPow, adrPowE, adrTxt, adrTxtE, adrSav, adrSavE, adrPCo, adrMod, adrModE]) (fun r_11 u_9 H locs hw_10 hP hD hS => ?_)
          refine lv_if_eq (tgt := 39) hx hb dX2_findFault_25 (by decide) (fun c_12 => ?_) (fun c_12 => ?_)
          · have hst : f_X2_findFault_st v i1_1 i2_2 w01_3 w02_4 w03_5 w04_6 = .inr (i1_1, i2_2, u_9, w02_4, w03_5, w04_6) := by rw [f_X2_findFault_st, if_neg c_7, if_pos c_8, hw_10, my_b_eq, if_pos c_12]
            exact cont0 i1_1 i2_2 u_9 w02_4 w03_5 w04_6 (lp_inr hst hF0) _ _ hP hD hS _ (lv_sub hl [0, 1, 2] rfl)
          · refine lv_aload_n hx hb dX2_findFault_28 rfl (lv_at hl 0 rfl) ?_
            have hP : va_P D vwCl (wTxt cy g a (v.1, u_9, w02_4, w03_5, w04_6, v.2.2.2.2.2)) H := by rw [wTxt_mk]; exact hP
            have hD : va_D A (wTxt cy g a (v.1, u_9, w02_4, w03_5, w04_6, v.2.2.2.2.2)) := by rw [wTxt_mk]; exact hD
            refine mu_alli (wf := fun (u_13 : Int32 × Int32 × Int32 × Nat) => (wTxtE cy g a v.1 u_13.1 u_13.2.1 u_13.2.2.1 u_13.2.2.2 v.2.2.2.2.2)) (va_runV (C := RX2) (As := []) (rest := []) S (c_X2_readCommand l D cy g B a (v.1, u_9, w02_4, w03_5, w04_6, v.2.2.2.2.2)) (cwV 0 hts gX2_findFault_X2_readCommand rfl rfl rfl hd_X2_readCommand_V ⟨Nat.le_of_ble_eq_true rfl, Nat.le_of_ble_eq_true rfl⟩) ⟨muP_blind, va_recv hK0.1 hP (ci := 0) (q0 := 0) rfl rfl, my_preA hK0 hS hAB hP hD⟩ rfl rfl hl.1 rfl (lv_room (Nat.le_of_ble_eq_true rfl)) dX2_findFault_29 ⟨Nat.zero_le _, Nat.zero_le _⟩) hS hD (fun _ => by simp only [List.map_cons, List.map_nil, adrSet, adrSetE, adrPow, adrPowE, adrTxt, adrTxtE, adrSav, adrSavE, adrPCo, adrMod, adrModE]) (fun r_15 u_13 H locs hw_14 hP hD hS => ?_)
            refine lv_istore_n (lv' := [(1, .int r_15), (0, .ref (a 0)), (2, .int i2_2)]) hx hb dX2_findFault_32 rfl hl (by decide) rfl (fun ls hl => ?_)
            refine lv_iinc (v := (i2_2 + 1)) (lv' := [(2, .int (i2_2 + 1)), (1, .int r_15), (0, .ref (a 0))]) hx hb dX2_findFault_33 hl (k := 2) rfl rfl (by decide) rfl (fun ls hl => ?_)
            refine lv_goto (tgt := 9) hx hb dX2_findFault_36 (by decide) ?_
            have hst : f_X2_findFault_st v i1_1 i2_2 w01_3 w02_4 w03_5 w04_6 = .inl (r_15, (i2_2 + 1), u_13.1, u_13.2.1, u_13.2.2.1, u_13.2.2.2) := by rw [f_X2_findFault_st, if_neg c_7, if_pos c_8, hw_10, my_b_eq, if_neg c_12, hw_14, my_b_eq]
            have hmu : ((150 : Int32).toInt - ((i2_2 + 1) : Int32).toInt).toNat < ((150 : Int32).toInt - (i2_2 : Int32).toInt).toNat := mu_up c_7
            exact ih0 r_15 (i2_2 + 1) u_13.1 u_13.2.1 u_13.2.2.1 u_13.2.2.2 (Nat.lt_of_lt_of_le hmu (Nat.le_of_lt_succ hlt0)) (lp_inl hst hF0) _ _ hP hD hS _ (lv_sub hl [2, 1, 0] rfl)
  exact key (((150 : Int32).toInt - (0 : Int32).toInt).toNat + 1) (-1) 0 0 v.2.2.1 v.2.2.2.1 v.2.2.2.2.1 (Nat.lt_succ_self _) rfl _ _ hP hD hS _ (lv_sub hl [2, 1, 0] rfl)
