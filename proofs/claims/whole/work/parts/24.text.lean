def f_X2_byteAt (v : TxtV) (x0 : Int32) : Int32 := (if v.1 ≤ x0 then (-1) else (rAt 150 v.2.2.2.2.2 x0))
set_option maxHeartbeats 400000 in
set_option maxRecDepth 100000 in
theorem c_X2_byteAt (l : Launch) (D : va_G) (cy : Nat → ClassId) (g : Nat → Nat) (B : Nat) (a : Nat → Nat) (v : TxtV) (x0 : Int32) : Met l yX2_byteAt wsX2_byteAt ({ frames := 1, cells := 0, slots := 0, locals := 21 }) (rdP D cy g B (wTxt cy g a v) [.ref (a 0), .int x0]) (vp_Si (fun r => r = f_X2_byteAt v x0)) 0 0 (fun _ => False) := by
  refine Met.ofW (cc := cX2_byteAt) (maxL := 2) (ret := (some .int)) (by decide) rfl ?_
  intro p e s m args below meth c s₁ BB hml hv
  obtain ⟨rfl, hP, hK0⟩ := hv
  have hx := BB.exec
  have hb := BB.bytes
  have hr := BB.returns
  have hts := atoms_spec (ws := wsX2_byteAt) BB.pre
  have hown : s.vm.findClass RX2 = some m.cls := findClass_of_methodNamed BB.named
  have hlocks := BB.notSynchronized
  have S := my_fix hx hb hml hown hts
  have inX2 : ∀ w ∈ wsX20, w ∈ wsX2_byteAt := fun w h => List.mem_cons_of_mem _ (List.mem_append_left _ (List.mem_append_right _ h))
  have hS : va_S (fun q => B ≤ q) s.heap s.heap [] := va_S.rf
  have hAB : ∀ q : Nat, (fun q => B ≤ q) q → B ≤ q := fun _ h => h
  have hl := lv_entry ([.ref (a 0), .int x0]) (n := 2) (Nat.le_of_ble_eq_true rfl)
  rw [lg_entry_eq]
  generalize (lg_sl ([.ref (a 0), .int x0]) ++ List.replicate (2 - (lg_sl ([.ref (a 0), .int x0])).length) Slot.unset).toArray = ls at hl ⊢
  have hl : lv_has ls 2 [(0, .ref (a 0)), (1, .int x0)] := hl
  refine lv_iload_n hx hb dX2_byteAt_0 rfl (lv_at hl 1 rfl) ?_
  refine lv_aload_n hx hb dX2_byteAt_1 rfl (lv_at hl 0 rfl) ?_
  refine va_get (D := D) (ci := 0) (v := .int v.1) (C := RX2) (T := TX2) (N := 6) hx hb hts inX2 hown hK0.1 hP 0 rfl rfl 1 (by decide) (hts (.fieldLink RX2 20 "PivotChamber$CommandText" "length" "I") (List.mem_of_getElem? (i := 1) rfl)) (fun _ h9 => h9) rfl dX2_byteAt_2 ?_
  refine lv_icmp_ge (tgt := 19) hx hb dX2_byteAt_5 (by decide) (fun c_1 => ?_) (fun c_1 => ?_)
  · refine lv_iconst (v := (-1)) hx hb dX2_byteAt_19 (by decide) ?_
    exact W.iret hx hb hr (fun t ht hW => ⟨(-1), rfl, (show f_X2_byteAt v x0 = (-1) from by rw [f_X2_byteAt, if_pos c_1]).symm, ht⟩) (fun q hq => absurd hq List.not_mem_nil) dX2_byteAt_20
  · refine lv_aload_n hx hb dX2_byteAt_8 rfl (lv_at hl 0 rfl) ?_
    refine va_get (D := D) (ci := 0) (v := .ref (a 1)) (C := RX2) (T := TX2) (N := 6) hx hb hts inX2 hown hK0.1 hP 0 rfl rfl 0 (by decide) (hts (.fieldLink RX2 14 "PivotChamber$CommandText" "bytes" "LPivotChamber$Row;") (List.mem_of_getElem? (i := 2) rfl)) (fun _ h9 => h9) rfl dX2_byteAt_9 ?_
    refine lv_iload_n hx hb dX2_byteAt_12 rfl (lv_at hl 1 rfl) ?_
    refine rd_goi (va_runV (C := RX4) (As := [.int x0]) (rest := []) S (c_X4_at l D cy g B (a 1) (a 2) 150 v.2.2.2.2.2 x0 (by decide)) (cwV 1 hts gX2_byteAt_X4_at rfl rfl rfl hd_X4_at_V ⟨Nat.le_of_ble_eq_true rfl, Nat.le_of_ble_eq_true rfl⟩) ⟨rdP_blind, va_recv hK0.1 hP (ci := 2) (q0 := 1) rfl rfl, my_preV hK0 hS hAB hP [1, 2] rfl⟩ rfl rfl hl.1 rfl (lv_room (Nat.le_of_ble_eq_true rfl)) dX2_byteAt_13 ⟨Nat.zero_le _, Nat.zero_le _⟩) ?_
    refine lv_goto (tgt := 20) hx hb dX2_byteAt_16 (by decide) ?_
    exact W.iret hx hb hr (fun t ht hW => ⟨(rAt 150 v.2.2.2.2.2 x0), rfl, (show f_X2_byteAt v x0 = (rAt 150 v.2.2.2.2.2 x0) from by rw [f_X2_byteAt, if_neg c_1]).symm, ht⟩) (fun q hq => absurd hq List.not_mem_nil) dX2_byteAt_20
def f_X2_append (v : TxtV) (x0 : Int32) : Int32 × TxtV := ((v.1 + 1), ((v.1 + 1), v.2.1, v.2.2.1, v.2.2.2.1, v.2.2.2.2.1, (rPut 150 v.2.2.2.2.2 v.1 x0)))
set_option maxHeartbeats 400000 in
set_option maxRecDepth 100000 in
theorem c_X2_append (l : Launch) (D : va_G) (cy : Nat → ClassId) (g : Nat → Nat) (B : Nat) (a : Nat → Nat) (v : TxtV) (x0 : Int32) : Met l yX2_append wsX2_append ({ frames := 1, cells := 0, slots := 0, locals := 22 }) (muP D cy g B (wTxt cy g a v) [.ref (a 0), .int x0]) (va_Qi (fun (r : Int32) (u : TxtV) => f_X2_append v x0 = (r, u)) (fun u t => va_P D vwCl (wTxt cy g a u) t.heap) (muA (wTxt cy g a v))) 0 0 (muA (wTxt cy g a v)) := by
  refine Met.ofW (cc := cX2_append) (maxL := 2) (ret := (some .int)) (by decide) rfl ?_
  intro p e s m args below meth c s₁ BB hml hv
  obtain ⟨rfl, hP, hK0, hD0⟩ := hv
  have hx := BB.exec
  have hb := BB.bytes
  have hr := BB.returns
  have hts := atoms_spec (ws := wsX2_append) BB.pre
  have hown : s.vm.findClass RX2 = some m.cls := findClass_of_methodNamed BB.named
  have hlocks := BB.notSynchronized
  have S := my_fix hx hb hml hown hts
  have inX2 : ∀ w ∈ wsX20, w ∈ wsX2_append := fun w h => List.mem_cons_of_mem _ (List.mem_append_left _ (List.mem_append_right _ h))
  have hAB := muB hD0
  have hD := muD hD0
  generalize hAe : muA (wTxt cy g a v) = A at hAB hD ⊢
  have hS : va_S A s.heap s.heap [] := va_S.rf
  have hl := lv_entry ([.ref (a 0), .int x0]) (n := 2) (Nat.le_of_ble_eq_true rfl)
  rw [lg_entry_eq]
  generalize (lg_sl ([.ref (a 0), .int x0]) ++ List.replicate (2 - (lg_sl ([.ref (a 0), .int x0])).length) Slot.unset).toArray = ls at hl ⊢
  have hl : lv_has ls 2 [(0, .ref (a 0)), (1, .int x0)] := hl
  refine lv_aload_n hx hb dX2_append_0 rfl (lv_at hl 0 rfl) ?_
  refine va_get (D := D) (ci := 0) (v := .ref (a 1)) (C := RX2) (T := TX2) (N := 6) hx hb hts inX2 hown hK0.1 hP 0 rfl rfl 0 (by decide) (hts (.fieldLink RX2 14 "PivotChamber$CommandText" "bytes" "LPivotChamber$Row;") (List.mem_of_getElem? (i := 1) rfl)) (fun _ h9 => h9) rfl dX2_append_1 ?_
  refine lv_aload_n hx hb dX2_append_4 rfl (lv_at hl 0 rfl) ?_
  refine va_get (D := D) (ci := 0) (v := .int v.1) (C := RX2) (T := TX2) (N := 6) hx hb hts inX2 hown hK0.1 hP 0 rfl rfl 1 (by decide) (hts (.fieldLink RX2 20 "PivotChamber$CommandText" "length" "I") (List.mem_of_getElem? (i := 2) rfl)) (fun _ h9 => h9) rfl dX2_append_5 ?_
  refine lv_iload_n hx hb dX2_append_8 rfl (lv_at hl 1 rfl) ?_
  refine mu_row (va_runV (C := RX4) (As := [.int v.1, .int x0]) (rest := []) S (c_X4_put l D cy g B (a 1) (a 2) 150 v.2.2.2.2.2 v.1 x0 (by decide)) (cwV 2 hts gX2_append_X4_put rfl rfl rfl hd_X4_put_V ⟨Nat.le_of_ble_eq_true rfl, Nat.le_of_ble_eq_true rfl⟩) ⟨muP_blind, va_recv hK0.1 hP (ci := 2) (q0 := 1) rfl rfl, my_preM hK0 hS hAB hP hD [1, 2] (by decide) rfl⟩ rfl rfl hl.1 rfl (lv_room (Nat.le_of_ble_eq_true rfl)) dX2_append_9 ⟨Nat.zero_le _, Nat.zero_le _⟩) hS hP hD [1, 2] rfl (w2 := (wTxtE cy g a v.1 v.2.1 v.2.2.1 v.2.2.2.1 v.2.2.2.2.1 (rPut 150 v.2.2.2.2.2 v.1 x0))) rfl (fun H locs hP hD hS => ?_)
  refine lv_aload_n hx hb dX2_append_12 rfl (lv_at hl 0 rfl) ?_
  refine lv_dup hx hb dX2_append_13 rfl ?_
  refine va_get (D := D) (ci := 0) (v := .int v.1) (C := RX2) (T := TX2) (N := 6) hx hb hts inX2 hown hK0.1 hP 0 rfl rfl 1 (by decide) (hts (.fieldLink RX2 20 "PivotChamber$CommandText" "length" "I") (List.mem_of_getElem? (i := 2) rfl)) (fun _ h9 => h9) rfl dX2_append_14 ?_
  refine lv_iconst (v := 1) hx hb dX2_append_17 (by decide) ?_
  refine lv_iadd hx hb dX2_append_18 ?_
  refine va_put (D := D) (ci := 0) (v := .int (v.1 + 1)) (ty := .int) (C := RX2) (T := TX2) (N := 6) hx hb hts inX2 tyX2 tyX2_ok nmX2 hown hK0.1 hP hD hS 0 rfl rfl 1 (by decide) (hts (.fieldLink RX2 20 "PivotChamber$CommandText" "length" "I") (List.mem_of_getElem? (i := 2) rfl)) (fun _ h9 => h9) rfl (by decide +kernel) rfl rfl (Nat.le_of_ble_eq_true rfl) dX2_append_19 (fun H locs hP hD hS => ?_)
  have hP : va_P D vwCl (wTxtE cy g a (v.1 + 1) v.2.1 v.2.2.1 v.2.2.2.1 v.2.2.2.2.1 (rPut 150 v.2.2.2.2.2 v.1 x0)) H := hP
  have hD : va_D A (wTxtE cy g a (v.1 + 1) v.2.1 v.2.2.1 v.2.2.2.1 v.2.2.2.2.1 (rPut 150 v.2.2.2.2.2 v.1 x0)) := hD
  refine lv_aload_n hx hb dX2_append_22 rfl (lv_at hl 0 rfl) ?_
  refine va_get (D := D) (ci := 0) (v := .int (v.1 + 1)) (C := RX2) (T := TX2) (N := 6) hx hb hts inX2 hown hK0.1 hP 0 rfl rfl 1 (by decide) (hts (.fieldLink RX2 20 "PivotChamber$CommandText" "length" "I") (List.mem_of_getElem? (i := 2) rfl)) (fun _ h9 => h9) rfl dX2_append_23 ?_
  have hP : va_P D vwCl (wTxt cy g a ((v.1 + 1), v.2.1, v.2.2.1, v.2.2.2.1, v.2.2.2.2.1, (rPut 150 v.2.2.2.2.2 v.1 x0))) H := by rw [wTxt_mk]; exact hP
  have hD : va_D A (wTxt cy g a ((v.1 + 1), v.2.1, v.2.2.1, v.2.2.2.1, v.2.2.2.2.1, (rPut 150 v.2.2.2.2.2 v.1 x0))) := by rw [wTxt_mk]; exact hD
  exact W.iret hx hb hr (fun t ht hW => ⟨⟨(v.1 + 1), ((v.1 + 1), v.2.1, v.2.2.1, v.2.2.2.1, v.2.2.2.2.1, (rPut 150 v.2.2.2.2.2 v.1 x0)), rfl, (show f_X2_append v x0 = ((v.1 + 1), ((v.1 + 1), v.2.1, v.2.2.1, v.2.2.2.1, v.2.2.2.2.1, (rPut 150 v.2.2.2.2.2 v.1 x0))) from by rw [f_X2_append]), by show va_P D vwCl _ t.heap; rw [ht]; exact hP⟩, hS.F ht⟩) hS.2.2 dX2_append_26
theorem hd_X2_byteAt_S : yX2_byteAt.cls ≠ "java/lang/invoke/MethodHandle" ∧ yX2_byteAt.cls ≠ "java/lang/invoke/VarHandle" ∧ (parseMethodDescriptor yX2_byteAt.desc).map (fun d => d.parameters.length) = some 1 := by decide +kernel
theorem hd_X2_byteAt_V : yX2_byteAt.cls = RX2 ∧ yX2_byteAt.cls ≠ "java/lang/invoke/MethodHandle" ∧ yX2_byteAt.cls ≠ "java/lang/invoke/VarHandle" ∧ (parseMethodDescriptor yX2_byteAt.desc).map (fun d => d.parameters.length) = some 1 := ⟨rfl, hd_X2_byteAt_S⟩
def f_X2_skipSpaces_st (v : TxtV) (w01_1 : Int32) : (Int32) ⊕ (Int32) := (if v.1 ≤ w01_1 then (.inr w01_1) else (if (f_X2_byteAt (v.1, w01_1, v.2.2) w01_1) = 32 then (.inl (w01_1 + 1)) else (.inr w01_1)))
def f_X2_skipSpaces (v : TxtV) : TxtV := (my_l (lp (fun (x : Int32) => f_X2_skipSpaces_st v x) default (((v.1 : Int32).toInt - (v.2.1 : Int32).toInt).toNat + 1) v.2.1) (fun (w01_1 : Int32) => (v.1, w01_1, v.2.2)))
set_option maxHeartbeats 400000 in
set_option maxRecDepth 100000 in
theorem c_X2_skipSpaces (l : Launch) (D : va_G) (cy : Nat → ClassId) (g : Nat → Nat) (B : Nat) (a : Nat → Nat) (v : TxtV) : Met l yX2_skipSpaces wsX2_skipSpaces ({ frames := 2, cells := 0, slots := 0, locals := 42 }) (muP D cy g B (wTxt cy g a v) [.ref (a 0)]) (va_Qv (fun (u : TxtV) => f_X2_skipSpaces v = u) (fun u t => va_P D vwCl (wTxt cy g a u) t.heap) (muA (wTxt cy g a v))) 0 0 (muA (wTxt cy g a v)) := by
  refine Met.ofW (cc := cX2_skipSpaces) (maxL := 1) (ret := none) (by decide) rfl ?_
  intro p e s m args below meth c s₁ BB hml hv
  obtain ⟨rfl, hP, hK0, hD0⟩ := hv
  have hx := BB.exec
  have hb := BB.bytes
  have hr := BB.returns
  have hts := atoms_spec (ws := wsX2_skipSpaces) BB.pre
  have hown : s.vm.findClass RX2 = some m.cls := findClass_of_methodNamed BB.named
  have hlocks := BB.notSynchronized
  have S := my_fix hx hb hml hown hts
  have inX2 : ∀ w ∈ wsX20, w ∈ wsX2_skipSpaces := fun w h => List.mem_cons_of_mem _ (List.mem_append_left _ (List.mem_append_right _ h))
  have hAB := muB hD0
  have hD := muD hD0
  generalize hAe : muA (wTxt cy g a v) = A at hAB hD ⊢
  have hS : va_S A s.heap s.heap [] := va_S.rf
  have hl := lv_entry ([.ref (a 0)]) (n := 1) (Nat.le_of_ble_eq_true rfl)
  rw [lg_entry_eq]
  generalize (lg_sl ([.ref (a 0)]) ++ List.replicate (1 - (lg_sl ([.ref (a 0)])).length) Slot.unset).toArray = ls at hl ⊢
  have hl : lv_has ls 1 [(0, .ref (a 0))] := hl
  have cont0 : ∀ (w01_1 : Int32), lp (fun (x : Int32) => f_X2_skipSpaces_st v x) default (((v.1 : Int32).toInt - (v.2.1 : Int32).toInt).toNat + 1) v.2.1 = w01_1 → ∀ (H : Heap) (locs : List Loc), va_P D vwCl (wTxtE cy g a v.1 w01_1 v.2.2.1 v.2.2.2.1 v.2.2.2.2.1 v.2.2.2.2.2) H → va_D A (wTxtE cy g a v.1 w01_1 v.2.2.1 v.2.2.2.1 v.2.2.2.2.1 v.2.2.2.2.2) → va_S A s.heap H locs → ∀ ls : Array Slot, lv_has ls 1 [(0, .ref (a 0))] → W p l e (headSpec wsX2_skipSpaces ({ frames := 2, cells := 0, slots := 0, locals := 42 } : Room)).room s m ([.ref (a 0)] : List Value).toArray below meth c H locs 0 0 (MQ below (va_Qv (fun (u : TxtV) => f_X2_skipSpaces v = u) (fun u t => va_P D vwCl (wTxt cy g a u) t.heap) A) ([.ref (a 0)] : List Value).toArray s 0 0 A) (F0 m 37 ls []) := by
    intro w01_1 hE0 H locs hP hD hS ls hl
    have hP : va_P D vwCl (wTxt cy g a (v.1, w01_1, v.2.2)) H := by rw [wTxt_mk]; exact hP
    have hD : va_D A (wTxt cy g a (v.1, w01_1, v.2.2)) := by rw [wTxt_mk]; exact hD
    exact W.vret hx hb hr (fun t ht hW => ⟨⟨(v.1, w01_1, v.2.2), rfl, (show f_X2_skipSpaces v = (v.1, w01_1, v.2.2) from by rw [f_X2_skipSpaces, hE0, my_l_eq]), by show va_P D vwCl _ t.heap; rw [ht]; exact hP⟩, hS.F ht⟩) hS.2.2 dX2_skipSpaces_37
  have key : ∀ (nf : Nat) (w01_1 : Int32), ((v.1 : Int32).toInt - (w01_1 : Int32).toInt).toNat < nf → lp (fun (x : Int32) => f_X2_skipSpaces_st v x) default nf w01_1 = lp (fun (x : Int32) => f_X2_skipSpaces_st v x) default (((v.1 : Int32).toInt - (v.2.1 : Int32).toInt).toNat + 1) v.2.1 → ∀ (H : Heap) (locs : List Loc), va_P D vwCl (wTxtE cy g a v.1 w01_1 v.2.2.1 v.2.2.2.1 v.2.2.2.2.1 v.2.2.2.2.2) H → va_D A (wTxtE cy g a v.1 w01_1 v.2.2.1 v.2.2.2.1 v.2.2.2.2.1 v.2.2.2.2.2) → va_S A s.heap H locs → ∀ ls : Array Slot, lv_has ls 1 [(0, .ref (a 0))] → W p l e (headSpec wsX2_skipSpaces ({ frames := 2, cells := 0, slots := 0, locals := 42 } : Room)).room s m ([.ref (a 0)] : List Value).toArray below meth c H locs 0 0 (MQ below (va_Qv (fun (u : TxtV) => f_X2_skipSpaces v = u) (fun u t => va_P D vwCl (wTxt cy g a u) t.heap) A) ([.ref (a 0)] : List Value).toArray s 0 0 A) (F0 m 0 ls []) := by
    intro n0
    induction n0 with
    | zero => intro w01_1 hlt; exact absurd hlt (Nat.not_lt_zero _)
    | succ n0 ih0 =>
      intro w01_1 hlt0 hF0 H locs hP hD hS ls hl
      refine lv_aload_n hx hb dX2_skipSpaces_0 rfl (lv_at hl 0 rfl) ?_
      refine va_get (D := D) (ci := 0) (v := .int w01_1) (C := RX2) (T := TX2) (N := 6) hx hb hts inX2 hown hK0.1 hP 0 rfl rfl 2 (by decide) (hts (.fieldLink RX2 28 "PivotChamber$CommandText" "place" "I") (List.mem_of_getElem? (i := 1) rfl)) (fun _ h9 => h9) rfl dX2_skipSpaces_1 ?_
      refine lv_aload_n hx hb dX2_skipSpaces_4 rfl (lv_at hl 0 rfl) ?_
      refine va_get (D := D) (ci := 0) (v := .int v.1) (C := RX2) (T := TX2) (N := 6) hx hb hts inX2 hown hK0.1 hP 0 rfl rfl 1 (by decide) (hts (.fieldLink RX2 20 "PivotChamber$CommandText" "length" "I") (List.mem_of_getElem? (i := 2) rfl)) (fun _ h9 => h9) rfl dX2_skipSpaces_5 ?_
      refine lv_icmp_ge (tgt := 37) hx hb dX2_skipSpaces_8 (by decide) (fun c_2 => ?_) (fun c_2 => ?_)
      · have hst : f_X2_skipSpaces_st v w01_1 = .inr w01_1 := by rw [f_X2_skipSpaces_st, if_pos c_2]
        exact cont0 w01_1 (lp_inr hst hF0) _ _ hP hD hS _ (lv_sub hl [0] rfl)
      · refine lv_aload_n hx hb dX2_skipSpaces_11 rfl (lv_at hl 0 rfl) ?_
        refine lv_aload_n hx hb dX2_skipSpaces_12 rfl (lv_at hl 0 rfl) ?_
        refine va_get (D := D) (ci := 0) (v := .int w01_1) (C := RX2) (T := TX2) (N := 6) hx hb hts inX2 hown hK0.1 hP 0 rfl rfl 2 (by decide) (hts (.fieldLink RX2 28 "PivotChamber$CommandText" "place" "I") (List.mem_of_getElem? (i := 1) rfl)) (fun _ h9 => h9) rfl dX2_skipSpaces_13 ?_
        have hP : va_P D vwCl (wTxt cy g a (v.1, w01_1, v.2.2)) H := by rw [wTxt_mk]; exact hP
        have hD : va_D A (wTxt cy g a (v.1, w01_1, v.2.2)) := by rw [wTxt_mk]; exact hD
        refine rd_goi (va_runV (C := RX2) (As := [.int w01_1]) (rest := []) S (c_X2_byteAt l D cy g B a (v.1, w01_1, v.2.2) w01_1) (cwV 1 hts gX2_skipSpaces_X2_byteAt rfl rfl rfl hd_X2_byteAt_V ⟨Nat.le_of_ble_eq_true rfl, Nat.le_of_ble_eq_true rfl⟩) ⟨rdP_blind, va_recv hK0.1 hP (ci := 0) (q0 := 0) rfl rfl, my_preP hK0 hS hAB hP⟩ rfl rfl hl.1 rfl (lv_room (Nat.le_of_ble_eq_true rfl)) dX2_skipSpaces_16 ⟨Nat.zero_le _, Nat.zero_le _⟩) ?_
        refine lv_bipush (v := 32) hx hb dX2_skipSpaces_19 (by decide) ?_
        refine lv_icmp_ne (tgt := 37) hx hb dX2_skipSpaces_21 (by decide) (fun c_3 => ?_) (fun c_3 => ?_)
        · have hst : f_X2_skipSpaces_st v w01_1 = .inr w01_1 := by rw [f_X2_skipSpaces_st, if_neg c_2, if_neg c_3]
          exact cont0 w01_1 (lp_inr hst hF0) _ _ hP hD hS _ (lv_sub hl [0] rfl)
        · refine lv_aload_n hx hb dX2_skipSpaces_24 rfl (lv_at hl 0 rfl) ?_
          refine lv_dup hx hb dX2_skipSpaces_25 rfl ?_
          refine va_get (D := D) (ci := 0) (v := .int w01_1) (C := RX2) (T := TX2) (N := 6) hx hb hts inX2 hown hK0.1 hP 0 rfl rfl 2 (by decide) (hts (.fieldLink RX2 28 "PivotChamber$CommandText" "place" "I") (List.mem_of_getElem? (i := 1) rfl)) (fun _ h9 => h9) rfl dX2_skipSpaces_26 ?_
          refine lv_iconst (v := 1) hx hb dX2_skipSpaces_29 (by decide) ?_
          refine lv_iadd hx hb dX2_skipSpaces_30 ?_
          refine va_put (D := D) (ci := 0) (v := .int (w01_1 + 1)) (ty := .int) (C := RX2) (T := TX2) (N := 6) hx hb hts inX2 tyX2 tyX2_ok nmX2 hown hK0.1 hP hD hS 0 rfl rfl 2 (by decide) (hts (.fieldLink RX2 28 "PivotChamber$CommandText" "place" "I") (List.mem_of_getElem? (i := 1) rfl)) (fun _ h9 => h9) rfl (by decide +kernel) rfl rfl (Nat.le_of_ble_eq_true rfl) dX2_skipSpaces_31 (fun H locs hP hD hS => ?_)
          have hP : va_P D vwCl (wTxtE cy g a v.1 (w01_1 + 1) v.2.2.1 v.2.2.2.1 v.2.2.2.2.1 v.2.2.2.2.2) H := hP
          have hD : va_D A (wTxtE cy g a v.1 (w01_1 + 1) v.2.2.1 v.2.2.2.1 v.2.2.2.2.1 v.2.2.2.2.2) := hD
          refine lv_goto (tgt := 0) hx hb dX2_skipSpaces_34 (by decide) ?_
          have hst : f_X2_skipSpaces_st v w01_1 = .inl (w01_1 + 1) := by rw [f_X2_skipSpaces_st, if_neg c_2, if_pos c_3]
          have hmu : ((v.1 : Int32).toInt - ((w01_1 + 1) : Int32).toInt).toNat < ((v.1 : Int32).toInt - (w01_1 : Int32).toInt).toNat := mu_up c_2
          exact ih0 (w01_1 + 1) (Nat.lt_of_lt_of_le hmu (Nat.le_of_lt_succ hlt0)) (lp_inl hst hF0) _ _ hP hD hS _ (lv_sub hl [0] rfl)
  exact key (((v.1 : Int32).toInt - (v.2.1 : Int32).toInt).toNat + 1) v.2.1 (Nat.lt_succ_self _) rfl _ _ hP hD hS _ (lv_sub hl [0] rfl)
theorem hd_X2_skipSpaces_S : yX2_skipSpaces.cls ≠ "java/lang/invoke/MethodHandle" ∧ yX2_skipSpaces.cls ≠ "java/lang/invoke/VarHandle" ∧ (parseMethodDescriptor yX2_skipSpaces.desc).map (fun d => d.parameters.length) = some 0 := by decide +kernel
theorem hd_X2_skipSpaces_V : yX2_skipSpaces.cls = RX2 ∧ yX2_skipSpaces.cls ≠ "java/lang/invoke/MethodHandle" ∧ yX2_skipSpaces.cls ≠ "java/lang/invoke/VarHandle" ∧ (parseMethodDescriptor yX2_skipSpaces.desc).map (fun d => d.parameters.length) = some 0 := ⟨rfl, hd_X2_skipSpaces_S⟩
def f_X2_hasCommand (v : TxtV) : Int32 × TxtV := (my_l (f_X2_skipSpaces v) (fun (u_1 : TxtV) => (if u_1.1 ≤ u_1.2.1 then (0, u_1) else (1, u_1))))
set_option maxHeartbeats 400000 in
set_option maxRecDepth 100000 in
theorem c_X2_hasCommand (l : Launch) (D : va_G) (cy : Nat → ClassId) (g : Nat → Nat) (B : Nat) (a : Nat → Nat) (v : TxtV) : Met l yX2_hasCommand wsX2_hasCommand ({ frames := 3, cells := 0, slots := 0, locals := 62 }) (muP D cy g B (wTxt cy g a v) [.ref (a 0)]) (va_Qi (fun (r : Int32) (u : TxtV) => f_X2_hasCommand v = (r, u)) (fun u t => va_P D vwCl (wTxt cy g a u) t.heap) (muA (wTxt cy g a v))) 0 0 (muA (wTxt cy g a v)) := by
  refine Met.ofW (cc := cX2_hasCommand) (maxL := 1) (ret := (some .boolean)) (by decide) rfl ?_
  intro p e s m args below meth c s₁ BB hml hv
  obtain ⟨rfl, hP, hK0, hD0⟩ := hv
  have hx := BB.exec
  have hb := BB.bytes
  have hr := BB.returns
  have hts := atoms_spec (ws := wsX2_hasCommand) BB.pre
  have hown : s.vm.findClass RX2 = some m.cls := findClass_of_methodNamed BB.named
  have hlocks := BB.notSynchronized
  have S := my_fix hx hb hml hown hts
  have inX2 : ∀ w ∈ wsX20, w ∈ wsX2_hasCommand := fun w h => List.mem_cons_of_mem _ (List.mem_append_left _ (List.mem_append_right _ h))
  have hAB := muB hD0
  have hD := muD hD0
  generalize hAe : muA (wTxt cy g a v) = A at hAB hD ⊢
  have hS : va_S A s.heap s.heap [] := va_S.rf
  have hl := lv_entry ([.ref (a 0)]) (n := 1) (Nat.le_of_ble_eq_true rfl)
  rw [lg_entry_eq]
  generalize (lg_sl ([.ref (a 0)]) ++ List.replicate (1 - (lg_sl ([.ref (a 0)])).length) Slot.unset).toArray = ls at hl ⊢
  have hl : lv_has ls 1 [(0, .ref (a 0))] := hl
  refine lv_aload_n hx hb dX2_hasCommand_0 rfl (lv_at hl 0 rfl) ?_
  refine mu_allv (wf := fun u_1 => (wTxt cy g a u_1)) (va_runV (C := RX2) (As := []) (rest := []) S (c_X2_skipSpaces l D cy g B a v) (cwV 0 hts gX2_hasCommand_X2_skipSpaces rfl rfl rfl hd_X2_skipSpaces_V ⟨Nat.le_of_ble_eq_true rfl, Nat.le_of_ble_eq_true rfl⟩) ⟨muP_blind, va_recv hK0.1 hP (ci := 0) (q0 := 0) rfl rfl, my_preA hK0 hS hAB hP hD⟩ rfl rfl hl.1 rfl (lv_room (Nat.le_of_ble_eq_true rfl)) dX2_hasCommand_1 ⟨Nat.zero_le _, Nat.zero_le _⟩) hS hD (fun _ => by simp only [List.map_cons, List.map_nil, adrSet, adrSetE, adrPow, adrPowE, adrTxt, adrTxtE, adrSav, adrSavE, adrPCo, adrMod, adrModE]) (fun u_1 H locs hw_2 hP hD hS => ?_)
  refine lv_aload_n hx hb dX2_hasCommand_4 rfl (lv_at hl 0 rfl) ?_
  refine va_get (D := D) (ci := 0) (v := .int u_1.2.1) (C := RX2) (T := TX2) (N := 6) hx hb hts inX2 hown hK0.1 hP 0 rfl rfl 2 (by decide) (hts (.fieldLink RX2 28 "PivotChamber$CommandText" "place" "I") (List.mem_of_getElem? (i := 1) rfl)) (fun _ h9 => h9) rfl dX2_hasCommand_5 ?_
  refine lv_aload_n hx hb dX2_hasCommand_8 rfl (lv_at hl 0 rfl) ?_
  refine va_get (D := D) (ci := 0) (v := .int u_1.1) (C := RX2) (T := TX2) (N := 6) hx hb hts inX2 hown hK0.1 hP 0 rfl rfl 1 (by decide) (hts (.fieldLink RX2 20 "PivotChamber$CommandText" "length" "I") (List.mem_of_getElem? (i := 2) rfl)) (fun _ h9 => h9) rfl dX2_hasCommand_9 ?_
  refine lv_icmp_ge (tgt := 19) hx hb dX2_hasCommand_12 (by decide) (fun c_3 => ?_) (fun c_3 => ?_)
  · refine lv_iconst (v := 0) hx hb dX2_hasCommand_19 (by decide) ?_
    exact W.zret (ty := .boolean) (v := 0) hx hb hr (my_nz (by decide)) (fun t ht hW => ⟨⟨0, u_1, rfl, (show f_X2_hasCommand v = (0, u_1) from by rw [f_X2_hasCommand, hw_2, my_l_eq, if_pos c_3]), by show va_P D vwCl _ t.heap; rw [ht]; exact hP⟩, hS.F ht⟩) hS.2.2 dX2_hasCommand_20
  · refine lv_iconst (v := 1) hx hb dX2_hasCommand_15 (by decide) ?_
    refine lv_goto (tgt := 20) hx hb dX2_hasCommand_16 (by decide) ?_
    exact W.zret (ty := .boolean) (v := 1) hx hb hr (my_nz (by decide)) (fun t ht hW => ⟨⟨1, u_1, rfl, (show f_X2_hasCommand v = (1, u_1) from by rw [f_X2_hasCommand, hw_2, my_l_eq, if_neg c_3]), by show va_P D vwCl _ t.heap; rw [ht]; exact hP⟩, hS.F ht⟩) hS.2.2 dX2_hasCommand_20
theorem hd_X2_isDigit_S : yX2_isDigit.cls ≠ "java/lang/invoke/MethodHandle" ∧ yX2_isDigit.cls ≠ "java/lang/invoke/VarHandle" ∧ (parseMethodDescriptor yX2_isDigit.desc).map (fun d => d.parameters.length) = some 1 := by decide +kernel
theorem hd_X2_isDigit_V : yX2_isDigit.cls = RX2 ∧ yX2_isDigit.cls ≠ "java/lang/invoke/MethodHandle" ∧ yX2_isDigit.cls ≠ "java/lang/invoke/VarHandle" ∧ (parseMethodDescriptor yX2_isDigit.desc).map (fun d => d.parameters.length) = some 1 := ⟨rfl, hd_X2_isDigit_S⟩
def f_X2_readNumber_st (u_1 : TxtV) (i4_4 : Int32) (w01_5 : Int32) : (Int32 × Int32) ⊕ (Int32 × Int32) := (if u_1.1 ≤ w01_5 then (.inr (i4_4, w01_5)) else (if (u_1.2.1 + 3) ≤ w01_5 then (.inr (i4_4, w01_5)) else (if (f_X2_isDigit (f_X2_byteAt (u_1.1, w01_5, u_1.2.2) w01_5)) = 0 then (.inr (i4_4, w01_5)) else (.inl ((((i4_4 * 10) + (f_X2_byteAt (u_1.1, w01_5, u_1.2.2) w01_5)) - 48), (w01_5 + 1))))))
def f_X2_readNumber (v : TxtV) (x0 : Int32) : Int32 × TxtV := (my_l (f_X2_skipSpaces v) (fun (u_1 : TxtV) => (if u_1.2.1 = v.2.1 then (0, u_1) else (my_t2 (lp (fun (x : Int32 × Int32) => f_X2_readNumber_st u_1 x.1 x.2) default (((u_1.1 : Int32).toInt - (u_1.2.1 : Int32).toInt).toNat + 1) (0, u_1.2.1)) (fun (i4_4 : Int32) (w01_5 : Int32) => (if x0 = 0 then (if w01_5 ≤ u_1.2.1 then (0, (u_1.1, w01_5, i4_4, u_1.2.2.2)) else (1, (u_1.1, w01_5, i4_4, u_1.2.2.2))) else (if w01_5 ≤ u_1.2.1 then (0, (u_1.1, w01_5, u_1.2.2.1, i4_4, u_1.2.2.2.2)) else (1, (u_1.1, w01_5, u_1.2.2.1, i4_4, u_1.2.2.2.2)))))))))
set_option maxHeartbeats 400000 in
set_option maxRecDepth 100000 in
theorem c_X2_readNumber (l : Launch) (D : va_G) (cy : Nat → ClassId) (g : Nat → Nat) (B : Nat) (a : Nat → Nat) (v : TxtV) (x0 : Int32) : Met l yX2_readNumber wsX2_readNumber ({ frames := 3, cells := 0, slots := 0, locals := 62 }) (muP D cy g B (wTxt cy g a v) [.ref (a 0), .int x0]) (va_Qi (fun (r : Int32) (u : TxtV) => f_X2_readNumber v x0 = (r, u)) (fun u t => va_P D vwCl (wTxt cy g a u) t.heap) (muA (wTxt cy g a v))) 0 0 (muA (wTxt cy g a v)) := by
  refine Met.ofW (cc := cX2_readNumber) (maxL := 5) (ret := (some .boolean)) (by decide) rfl ?_
  intro p e s m args below meth c s₁ BB hml hv
  obtain ⟨rfl, hP, hK0, hD0⟩ := hv
  have hx := BB.exec
  have hb := BB.bytes
  have hr := BB.returns
  have hts := atoms_spec (ws := wsX2_readNumber) BB.pre
  have hown : s.vm.findClass RX2 = some m.cls := findClass_of_methodNamed BB.named
  have hlocks := BB.notSynchronized
  have S := my_fix hx hb hml hown hts
  have inX2 : ∀ w ∈ wsX20, w ∈ wsX2_readNumber := fun w h => List.mem_cons_of_mem _ (List.mem_append_left _ (List.mem_append_right _ h))
  have hAB := muB hD0
  have hD := muD hD0
  generalize hAe : muA (wTxt cy g a v) = A at hAB hD ⊢
  have hS : va_S A s.heap s.heap [] := va_S.rf
  have hl := lv_entry ([.ref (a 0), .int x0]) (n := 5) (Nat.le_of_ble_eq_true rfl)
  rw [lg_entry_eq]
  generalize (lg_sl ([.ref (a 0), .int x0]) ++ List.replicate (5 - (lg_sl ([.ref (a 0), .int x0])).length) Slot.unset).toArray = ls at hl ⊢
  have hl : lv_has ls 5 [(0, .ref (a 0)), (1, .int x0)] := hl
  refine lv_aload_n hx hb dX2_readNumber_0 rfl (lv_at hl 0 rfl) ?_
  refine va_get (D := D) (ci := 0) (v := .int v.2.1) (C := RX2) (T := TX2) (N := 6) hx hb hts inX2 hown hK0.1 hP 0 rfl rfl 2 (by decide) (hts (.fieldLink RX2 28 "PivotChamber$CommandText" "place" "I") (List.mem_of_getElem? (i := 1) rfl)) (fun _ h9 => h9) rfl dX2_readNumber_1 ?_
  refine lv_istore_n (lv' := [(2, .int v.2.1), (0, .ref (a 0)), (1, .int x0)]) hx hb dX2_readNumber_4 rfl hl (by decide) rfl (fun ls hl => ?_)
  refine lv_aload_n hx hb dX2_readNumber_5 rfl (lv_at hl 1 rfl) ?_
  refine mu_allv (wf := fun u_1 => (wTxt cy g a u_1)) (va_runV (C := RX2) (As := []) (rest := []) S (c_X2_skipSpaces l D cy g B a v) (cwV 0 hts gX2_readNumber_X2_skipSpaces rfl rfl rfl hd_X2_skipSpaces_V ⟨Nat.le_of_ble_eq_true rfl, Nat.le_of_ble_eq_true rfl⟩) ⟨muP_blind, va_recv hK0.1 hP (ci := 0) (q0 := 0) rfl rfl, my_preA hK0 hS hAB hP hD⟩ rfl rfl hl.1 rfl (lv_room (Nat.le_of_ble_eq_true rfl)) dX2_readNumber_6 ⟨Nat.zero_le _, Nat.zero_le _⟩) hS hD (fun _ => by simp only [List.map_cons, List.map_nil, adrSet, adrSetE, adrPow, adrPowE, adrTxt, adrTxtE, adrSav, adrSavE, adrPCo, adrMod, adrModE]) (fun u_1 H locs hw_2 hP hD hS => ?_)
  refine lv_aload_n hx hb dX2_readNumber_9 rfl (lv_at hl 1 rfl) ?_
  refine va_get (D := D) (ci := 0) (v := .int u_1.2.1) (C := RX2) (T := TX2) (N := 6) hx hb hts inX2 hown hK0.1 hP 0 rfl rfl 2 (by decide) (hts (.fieldLink RX2 28 "PivotChamber$CommandText" "place" "I") (List.mem_of_getElem? (i := 1) rfl)) (fun _ h9 => h9) rfl dX2_readNumber_10 ?_
  refine lv_iload_n hx hb dX2_readNumber_13 rfl (lv_at hl 0 rfl) ?_
  refine lv_icmp_ne (tgt := 19) hx hb dX2_readNumber_14 (by decide) (fun c_3 => ?_) (fun c_3 => ?_)
  · refine lv_aload_n hx hb dX2_readNumber_19 rfl (lv_at hl 1 rfl) ?_
    refine va_get (D := D) (ci := 0) (v := .int u_1.2.1) (C := RX2) (T := TX2) (N := 6) hx hb hts inX2 hown hK0.1 hP 0 rfl rfl 2 (by decide) (hts (.fieldLink RX2 28 "PivotChamber$CommandText" "place" "I") (List.mem_of_getElem? (i := 1) rfl)) (fun _ h9 => h9) rfl dX2_readNumber_20 ?_
    refine lv_istore_n (lv' := [(3, .int u_1.2.1), (2, .int v.2.1), (0, .ref (a 0)), (1, .int x0)]) hx hb dX2_readNumber_23 rfl hl (by decide) rfl (fun ls hl => ?_)
    refine lv_iconst (v := 0) hx hb dX2_readNumber_24 (by decide) ?_
    refine lv_istore (lv' := [(4, .int 0), (3, .int u_1.2.1), (2, .int v.2.1), (0, .ref (a 0)), (1, .int x0)]) hx hb dX2_readNumber_25 hl (by decide) rfl (fun ls hl => ?_)
    have cont0 : ∀ (i4_4 : Int32) (w01_5 : Int32), lp (fun (x : Int32 × Int32) => f_X2_readNumber_st u_1 x.1 x.2) default (((u_1.1 : Int32).toInt - (u_1.2.1 : Int32).toInt).toNat + 1) (0, u_1.2.1) = (i4_4, w01_5) → ∀ (H : Heap) (locs : List Loc), va_P D vwCl (wTxtE cy g a u_1.1 w01_5 u_1.2.2.1 u_1.2.2.2.1 u_1.2.2.2.2.1 u_1.2.2.2.2.2) H → va_D A (wTxtE cy g a u_1.1 w01_5 u_1.2.2.1 u_1.2.2.2.1 u_1.2.2.2.2.1 u_1.2.2.2.2.2) → va_S A s.heap H locs → ∀ ls : Array Slot, lv_has ls 5 [(0, .ref (a 0)), (1, .int x0), (2, .int v.2.1), (3, .int u_1.2.1), (4, .int i4_4)] → W p l e (headSpec wsX2_readNumber ({ frames := 3, cells := 0, slots := 0, locals := 62 } : Room)).room s m ([.ref (a 0), .int x0] : List Value).toArray below meth c H locs 0 0 (MQ below (va_Qi (fun (r : Int32) (u : TxtV) => f_X2_readNumber v x0 = (r, u)) (fun u t => va_P D vwCl (wTxt cy g a u) t.heap) A) ([.ref (a 0), .int x0] : List Value).toArray s 0 0 A) (F0 m 94 ls []) := by
      intro i4_4 w01_5 hE0 H locs hP hD hS ls hl
      refine lv_iload_n hx hb dX2_readNumber_94 rfl (lv_at hl 1 rfl) ?_
      refine lv_if_ne (tgt := 107) hx hb dX2_readNumber_95 (by decide) (fun c_6 => ?_) (fun c_6 => ?_)
      · refine lv_aload_n hx hb dX2_readNumber_107 rfl (lv_at hl 0 rfl) ?_
        refine lv_iload hx hb dX2_readNumber_108 (lv_at hl 4 rfl) ?_
        refine va_put (D := D) (ci := 0) (v := .int i4_4) (ty := .int) (C := RX2) (T := TX2) (N := 6) hx hb hts inX2 tyX2 tyX2_ok nmX2 hown hK0.1 hP hD hS 0 rfl rfl 5 (by decide) (hts (.fieldLink RX2 61 "PivotChamber$CommandText" "second" "I") (List.mem_of_getElem? (i := 4) rfl)) (fun _ h9 => h9) rfl (by decide +kernel) rfl rfl (Nat.le_of_ble_eq_true rfl) dX2_readNumber_110 (fun H locs hP hD hS => ?_)
        have hP : va_P D vwCl (wTxtE cy g a u_1.1 w01_5 u_1.2.2.1 i4_4 u_1.2.2.2.2.1 u_1.2.2.2.2.2) H := hP
        have hD : va_D A (wTxtE cy g a u_1.1 w01_5 u_1.2.2.1 i4_4 u_1.2.2.2.2.1 u_1.2.2.2.2.2) := hD
        refine lv_aload_n hx hb dX2_readNumber_113 rfl (lv_at hl 0 rfl) ?_
        refine va_get (D := D) (ci := 0) (v := .int w01_5) (C := RX2) (T := TX2) (N := 6) hx hb hts inX2 hown hK0.1 hP 0 rfl rfl 2 (by decide) (hts (.fieldLink RX2 28 "PivotChamber$CommandText" "place" "I") (List.mem_of_getElem? (i := 1) rfl)) (fun _ h9 => h9) rfl dX2_readNumber_114 ?_
        refine lv_iload_n hx hb dX2_readNumber_117 rfl (lv_at hl 3 rfl) ?_
        refine lv_icmp_le (tgt := 125) hx hb dX2_readNumber_118 (by decide) (fun c_7 => ?_) (fun c_7 => ?_)
        · refine lv_iconst (v := 0) hx hb dX2_readNumber_125 (by decide) ?_
          have hP : va_P D vwCl (wTxt cy g a (u_1.1, w01_5, u_1.2.2.1, i4_4, u_1.2.2.2.2)) H := by rw [wTxt_mk]; exact hP
          have hD : va_D A (wTxt cy g a (u_1.1, w01_5, u_1.2.2.1, i4_4, u_1.2.2.2.2)) := by rw [wTxt_mk]; exact hD
          exact W.zret (ty := .boolean) (v := 0) hx hb hr (my_nz (by decide)) (fun t ht hW => ⟨⟨0, (u_1.1, w01_5, u_1.2.2.1, i4_4, u_1.2.2.2.2), rfl, (show f_X2_readNumber v x0 = (0, (u_1.1, w01_5, u_1.2.2.1, i4_4, u_1.2.2.2.2)) from by rw [f_X2_readNumber, hw_2, my_l_eq, if_neg c_3, hE0, my_t2_eq, if_neg c_6, if_pos c_7]), by show va_P D vwCl _ t.heap; rw [ht]; exact hP⟩, hS.F ht⟩) hS.2.2 dX2_readNumber_126
        · refine lv_iconst (v := 1) hx hb dX2_readNumber_121 (by decide) ?_
          refine lv_goto (tgt := 126) hx hb dX2_readNumber_122 (by decide) ?_
          have hP : va_P D vwCl (wTxt cy g a (u_1.1, w01_5, u_1.2.2.1, i4_4, u_1.2.2.2.2)) H := by rw [wTxt_mk]; exact hP
          have hD : va_D A (wTxt cy g a (u_1.1, w01_5, u_1.2.2.1, i4_4, u_1.2.2.2.2)) := by rw [wTxt_mk]; exact hD
          exact W.zret (ty := .boolean) (v := 1) hx hb hr (my_nz (by decide)) (fun t ht hW => ⟨⟨1, (u_1.1, w01_5, u_1.2.2.1, i4_4, u_1.2.2.2.2), rfl, (show f_X2_readNumber v x0 = (1, (u_1.1, w01_5, u_1.2.2.1, i4_4, u_1.2.2.2.2)) from by rw [f_X2_readNumber, hw_2, my_l_eq, if_neg c_3, hE0, my_t2_eq, if_neg c_6, if_neg c_7]), by show va_P D vwCl _ t.heap; rw [ht]; exact hP⟩, hS.F ht⟩) hS.2.2 dX2_readNumber_126
      · refine lv_aload_n hx hb dX2_readNumber_98 rfl (lv_at hl 0 rfl) ?_
        refine lv_iload hx hb dX2_readNumber_99 (lv_at hl 4 rfl) ?_
        refine va_put (D := D) (ci := 0) (v := .int i4_4) (ty := .int) (C := RX2) (T := TX2) (N := 6) hx hb hts inX2 tyX2 tyX2_ok nmX2 hown hK0.1 hP hD hS 0 rfl rfl 4 (by decide) (hts (.fieldLink RX2 58 "PivotChamber$CommandText" "first" "I") (List.mem_of_getElem? (i := 3) rfl)) (fun _ h9 => h9) rfl (by decide +kernel) rfl rfl (Nat.le_of_ble_eq_true rfl) dX2_readNumber_101 (fun H locs hP hD hS => ?_)
        have hP : va_P D vwCl (wTxtE cy g a u_1.1 w01_5 i4_4 u_1.2.2.2.1 u_1.2.2.2.2.1 u_1.2.2.2.2.2) H := hP
        have hD : va_D A (wTxtE cy g a u_1.1 w01_5 i4_4 u_1.2.2.2.1 u_1.2.2.2.2.1 u_1.2.2.2.2.2) := hD
        refine lv_goto (tgt := 113) hx hb dX2_readNumber_104 (by decide) ?_
        refine lv_aload_n hx hb dX2_readNumber_113 rfl (lv_at hl 0 rfl) ?_
        refine va_get (D := D) (ci := 0) (v := .int w01_5) (C := RX2) (T := TX2) (N := 6) hx hb hts inX2 hown hK0.1 hP 0 rfl rfl 2 (by decide) (hts (.fieldLink RX2 28 "PivotChamber$CommandText" "place" "I") (List.mem_of_getElem? (i := 1) rfl)) (fun _ h9 => h9) rfl dX2_readNumber_114 ?_
        refine lv_iload_n hx hb dX2_readNumber_117 rfl (lv_at hl 3 rfl) ?_
        refine lv_icmp_le (tgt := 125) hx hb dX2_readNumber_118 (by decide) (fun c_8 => ?_) (fun c_8 => ?_)
        · refine lv_iconst (v := 0) hx hb dX2_readNumber_125 (by decide) ?_
          have hP : va_P D vwCl (wTxt cy g a (u_1.1, w01_5, i4_4, u_1.2.2.2)) H := by rw [wTxt_mk]; exact hP
          have hD : va_D A (wTxt cy g a (u_1.1, w01_5, i4_4, u_1.2.2.2)) := by rw [wTxt_mk]; exact hD
          exact W.zret (ty := .boolean) (v := 0) hx hb hr (my_nz (by decide)) (fun t ht hW => ⟨⟨0, (u_1.1, w01_5, i4_4, u_1.2.2.2), rfl, (show f_X2_readNumber v x0 = (0, (u_1.1, w01_5, i4_4, u_1.2.2.2)) from by rw [f_X2_readNumber, hw_2, my_l_eq, if_neg c_3, hE0, my_t2_eq, if_pos c_6, if_pos c_8]), by show va_P D vwCl _ t.heap; rw [ht]; exact hP⟩, hS.F ht⟩) hS.2.2 dX2_readNumber_126
        · refine lv_iconst (v := 1) hx hb dX2_readNumber_121 (by decide) ?_
          refine lv_goto (tgt := 126) hx hb dX2_readNumber_122 (by decide) ?_
          have hP : va_P D vwCl (wTxt cy g a (u_1.1, w01_5, i4_4, u_1.2.2.2)) H := by rw [wTxt_mk]; exact hP
          have hD : va_D A (wTxt cy g a (u_1.1, w01_5, i4_4, u_1.2.2.2)) := by rw [wTxt_mk]; exact hD
          exact W.zret (ty := .boolean) (v := 1) hx hb hr (my_nz (by decide)) (fun t ht hW => ⟨⟨1, (u_1.1, w01_5, i4_4, u_1.2.2.2), rfl, (show f_X2_readNumber v x0 = (1, (u_1.1, w01_5, i4_4, u_1.2.2.2)) from by rw [f_X2_readNumber, hw_2, my_l_eq, if_neg c_3, hE0, my_t2_eq, if_pos c_6, if_neg c_8]), by show va_P D vwCl _ t.heap; rw [ht]; exact hP⟩, hS.F ht⟩) hS.2.2 dX2_readNumber_126
    have key : ∀ (nf : Nat) (i4_4 : Int32) (w01_5 : Int32), ((u_1.1 : Int32).toInt - (w01_5 : Int32).toInt).toNat < nf → lp (fun (x : Int32 × Int32) => f_X2_readNumber_st u_1 x.1 x.2) default nf (i4_4, w01_5) = lp (fun (x : Int32 × Int32) => f_X2_readNumber_st u_1 x.1 x.2) default (((u_1.1 : Int32).toInt - (u_1.2.1 : Int32).toInt).toNat + 1) (0, u_1.2.1) → ∀ (H : Heap) (locs : List Loc), va_P D vwCl (wTxtE cy g a u_1.1 w01_5 u_1.2.2.1 u_1.2.2.2.1 u_1.2.2.2.2.1 u_1.2.2.2.2.2) H → va_D A (wTxtE cy g a u_1.1 w01_5 u_1.2.2.1 u_1.2.2.2.1 u_1.2.2.2.2.1 u_1.2.2.2.2.2) → va_S A s.heap H locs → ∀ ls : Array Slot, lv_has ls 5 [(0, .ref (a 0)), (1, .int x0), (2, .int v.2.1), (3, .int u_1.2.1), (4, .int i4_4)] → W p l e (headSpec wsX2_readNumber ({ frames := 3, cells := 0, slots := 0, locals := 62 } : Room)).room s m ([.ref (a 0), .int x0] : List Value).toArray below meth c H locs 0 0 (MQ below (va_Qi (fun (r : Int32) (u : TxtV) => f_X2_readNumber v x0 = (r, u)) (fun u t => va_P D vwCl (wTxt cy g a u) t.heap) A) ([.ref (a 0), .int x0] : List Value).toArray s 0 0 A) (F0 m 27 ls []) := by
      intro n0
      induction n0 with
      | zero => intro i4_4 w01_5 hlt; exact absurd hlt (Nat.not_lt_zero _)
      | succ n0 ih0 =>
        intro i4_4 w01_5 hlt0 hF0 H locs hP hD hS ls hl
        refine lv_aload_n hx hb dX2_readNumber_27 rfl (lv_at hl 0 rfl) ?_
        refine va_get (D := D) (ci := 0) (v := .int w01_5) (C := RX2) (T := TX2) (N := 6) hx hb hts inX2 hown hK0.1 hP 0 rfl rfl 2 (by decide) (hts (.fieldLink RX2 28 "PivotChamber$CommandText" "place" "I") (List.mem_of_getElem? (i := 1) rfl)) (fun _ h9 => h9) rfl dX2_readNumber_28 ?_
        refine lv_aload_n hx hb dX2_readNumber_31 rfl (lv_at hl 0 rfl) ?_
        refine va_get (D := D) (ci := 0) (v := .int u_1.1) (C := RX2) (T := TX2) (N := 6) hx hb hts inX2 hown hK0.1 hP 0 rfl rfl 1 (by decide) (hts (.fieldLink RX2 20 "PivotChamber$CommandText" "length" "I") (List.mem_of_getElem? (i := 2) rfl)) (fun _ h9 => h9) rfl dX2_readNumber_32 ?_
        refine lv_icmp_ge (tgt := 94) hx hb dX2_readNumber_35 (by decide) (fun c_9 => ?_) (fun c_9 => ?_)
        · have hst : f_X2_readNumber_st u_1 i4_4 w01_5 = .inr (i4_4, w01_5) := by rw [f_X2_readNumber_st, if_pos c_9]
          exact cont0 i4_4 w01_5 (lp_inr hst hF0) _ _ hP hD hS _ (lv_sub hl [0, 1, 2, 3, 4] rfl)
        · refine lv_aload_n hx hb dX2_readNumber_38 rfl (lv_at hl 0 rfl) ?_
          refine va_get (D := D) (ci := 0) (v := .int w01_5) (C := RX2) (T := TX2) (N := 6) hx hb hts inX2 hown hK0.1 hP 0 rfl rfl 2 (by decide) (hts (.fieldLink RX2 28 "PivotChamber$CommandText" "place" "I") (List.mem_of_getElem? (i := 1) rfl)) (fun _ h9 => h9) rfl dX2_readNumber_39 ?_
          refine lv_iload_n hx hb dX2_readNumber_42 rfl (lv_at hl 3 rfl) ?_
          refine lv_iconst (v := 3) hx hb dX2_readNumber_43 (by decide) ?_
          refine lv_iadd hx hb dX2_readNumber_44 ?_
          refine lv_icmp_ge (tgt := 94) hx hb dX2_readNumber_45 (by decide) (fun c_10 => ?_) (fun c_10 => ?_)
          · have hst : f_X2_readNumber_st u_1 i4_4 w01_5 = .inr (i4_4, w01_5) := by rw [f_X2_readNumber_st, if_neg c_9, if_pos c_10]
            exact cont0 i4_4 w01_5 (lp_inr hst hF0) _ _ hP hD hS _ (lv_sub hl [0, 1, 2, 3, 4] rfl)
          · refine lv_aload_n hx hb dX2_readNumber_48 rfl (lv_at hl 0 rfl) ?_
            refine lv_aload_n hx hb dX2_readNumber_49 rfl (lv_at hl 0 rfl) ?_
            refine va_get (D := D) (ci := 0) (v := .int w01_5) (C := RX2) (T := TX2) (N := 6) hx hb hts inX2 hown hK0.1 hP 0 rfl rfl 2 (by decide) (hts (.fieldLink RX2 28 "PivotChamber$CommandText" "place" "I") (List.mem_of_getElem? (i := 1) rfl)) (fun _ h9 => h9) rfl dX2_readNumber_50 ?_
            have hP : va_P D vwCl (wTxt cy g a (u_1.1, w01_5, u_1.2.2)) H := by rw [wTxt_mk]; exact hP
            have hD : va_D A (wTxt cy g a (u_1.1, w01_5, u_1.2.2)) := by rw [wTxt_mk]; exact hD
            refine rd_goi (va_runV (C := RX2) (As := [.int w01_5]) (rest := []) S (c_X2_byteAt l D cy g B a (u_1.1, w01_5, u_1.2.2) w01_5) (cwV 1 hts gX2_readNumber_X2_byteAt rfl rfl rfl hd_X2_byteAt_V ⟨Nat.le_of_ble_eq_true rfl, Nat.le_of_ble_eq_true rfl⟩) ⟨rdP_blind, va_recv hK0.1 hP (ci := 0) (q0 := 0) rfl rfl, my_preP hK0 hS hAB hP⟩ rfl rfl hl.1 rfl (lv_room (Nat.le_of_ble_eq_true rfl)) dX2_readNumber_53 ⟨Nat.zero_le _, Nat.zero_le _⟩) ?_
            refine rd_goi (va_runS (As := [.int (f_X2_byteAt (u_1.1, w01_5, u_1.2.2) w01_5)]) (rest := []) S (c_X2_isDigit l D cy g B (f_X2_byteAt (u_1.1, w01_5, u_1.2.2) w01_5)) (va_cwS 1 hts gX2_readNumber_X2_isDigit rfl rfl rfl hd_X2_isDigit_S ⟨Nat.le_of_ble_eq_true rfl, Nat.le_of_ble_eq_true rfl⟩) ⟨rdP_blind, my_preV hK0 hS hAB hP [] rfl⟩ rfl rfl hl.1 rfl (lv_room (Nat.le_of_ble_eq_true rfl)) dX2_readNumber_56 ⟨Nat.zero_le _, Nat.zero_le _⟩) ?_
            refine lv_if_eq (tgt := 94) hx hb dX2_readNumber_59 (by decide) (fun c_11 => ?_) (fun c_11 => ?_)
            · have hst : f_X2_readNumber_st u_1 i4_4 w01_5 = .inr (i4_4, w01_5) := by rw [f_X2_readNumber_st, if_neg c_9, if_neg c_10, if_pos c_11]
              exact cont0 i4_4 w01_5 (lp_inr hst hF0) _ _ hP hD hS _ (lv_sub hl [0, 1, 2, 3, 4] rfl)
            · refine lv_iload hx hb dX2_readNumber_62 (lv_at hl 4 rfl) ?_
              refine lv_bipush (v := 10) hx hb dX2_readNumber_64 (by decide) ?_
              refine lv_imul hx hb dX2_readNumber_66 ?_
              refine lv_aload_n hx hb dX2_readNumber_67 rfl (lv_at hl 0 rfl) ?_
              refine lv_aload_n hx hb dX2_readNumber_68 rfl (lv_at hl 0 rfl) ?_
              refine va_get (D := D) (ci := 0) (v := .int w01_5) (C := RX2) (T := TX2) (N := 6) hx hb hts inX2 hown hK0.1 hP 0 rfl rfl 2 (by decide) (hts (.fieldLink RX2 28 "PivotChamber$CommandText" "place" "I") (List.mem_of_getElem? (i := 1) rfl)) (fun _ h9 => h9) rfl dX2_readNumber_69 ?_
              refine rd_goi (va_runV (C := RX2) (As := [.int w01_5]) (rest := [.int (i4_4 * 10)]) S (c_X2_byteAt l D cy g B a (u_1.1, w01_5, u_1.2.2) w01_5) (cwV 1 hts gX2_readNumber_X2_byteAt rfl rfl rfl hd_X2_byteAt_V ⟨Nat.le_of_ble_eq_true rfl, Nat.le_of_ble_eq_true rfl⟩) ⟨rdP_blind, va_recv hK0.1 hP (ci := 0) (q0 := 0) rfl rfl, my_preP hK0 hS hAB hP⟩ rfl rfl hl.1 rfl (lv_room (Nat.le_of_ble_eq_true rfl)) dX2_readNumber_72 ⟨Nat.zero_le _, Nat.zero_le _⟩) ?_
              refine lv_iadd hx hb dX2_readNumber_75 ?_
              refine lv_bipush (v := 48) hx hb dX2_readNumber_76 (by decide) ?_
              refine lv_isub hx hb dX2_readNumber_78 ?_
              refine lv_istore (lv' := [(4, .int (((i4_4 * 10) + (f_X2_byteAt (u_1.1, w01_5, u_1.2.2) w01_5)) - 48)), (0, .ref (a 0)), (1, .int x0), (2, .int v.2.1), (3, .int u_1.2.1)]) hx hb dX2_readNumber_79 hl (by decide) rfl (fun ls hl => ?_)
              refine lv_aload_n hx hb dX2_readNumber_81 rfl (lv_at hl 1 rfl) ?_
              refine lv_dup hx hb dX2_readNumber_82 rfl ?_
              refine va_get (D := D) (ci := 0) (v := .int w01_5) (C := RX2) (T := TX2) (N := 6) hx hb hts inX2 hown hK0.1 hP 0 rfl rfl 2 (by decide) (hts (.fieldLink RX2 28 "PivotChamber$CommandText" "place" "I") (List.mem_of_getElem? (i := 1) rfl)) (fun _ h9 => h9) rfl dX2_readNumber_83 ?_
              refine lv_iconst (v := 1) hx hb dX2_readNumber_86 (by decide) ?_
              refine lv_iadd hx hb dX2_readNumber_87 ?_
              refine va_put (D := D) (ci := 0) (v := .int (w01_5 + 1)) (ty := .int) (C := RX2) (T := TX2) (N := 6) hx hb hts inX2 tyX2 tyX2_ok nmX2 hown hK0.1 hP hD hS 0 rfl rfl 2 (by decide) (hts (.fieldLink RX2 28 "PivotChamber$CommandText" "place" "I") (List.mem_of_getElem? (i := 1) rfl)) (fun _ h9 => h9) rfl (by decide +kernel) rfl rfl (Nat.le_of_ble_eq_true rfl) dX2_readNumber_88 (fun H locs hP hD hS => ?_)
              have hP : va_P D vwCl (wTxtE cy g a u_1.1 (w01_5 + 1) u_1.2.2.1 u_1.2.2.2.1 u_1.2.2.2.2.1 u_1.2.2.2.2.2) H := hP
              have hD : va_D A (wTxtE cy g a u_1.1 (w01_5 + 1) u_1.2.2.1 u_1.2.2.2.1 u_1.2.2.2.2.1 u_1.2.2.2.2.2) := hD
              refine lv_goto (tgt := 27) hx hb dX2_readNumber_91 (by decide) ?_
              have hst : f_X2_readNumber_st u_1 i4_4 w01_5 = .inl ((((i4_4 * 10) + (f_X2_byteAt (u_1.1, w01_5, u_1.2.2) w01_5)) - 48), (w01_5 + 1)) := by rw [f_X2_readNumber_st, if_neg c_9, if_neg c_10, if_neg c_11]
              have hmu : ((u_1.1 : Int32).toInt - ((w01_5 + 1) : Int32).toInt).toNat < ((u_1.1 : Int32).toInt - (w01_5 : Int32).toInt).toNat := mu_up c_9
              exact ih0 (((i4_4 * 10) + (f_X2_byteAt (u_1.1, w01_5, u_1.2.2) w01_5)) - 48) (w01_5 + 1) (Nat.lt_of_lt_of_le hmu (Nat.le_of_lt_succ hlt0)) (lp_inl hst hF0) _ _ hP hD hS _ (lv_sub hl [1, 2, 3, 4, 0] rfl)
    exact key (((u_1.1 : Int32).toInt - (u_1.2.1 : Int32).toInt).toNat + 1) 0 u_1.2.1 (Nat.lt_succ_self _) rfl _ _ hP hD hS _ (lv_sub hl [3, 4, 2, 1, 0] rfl)
  · refine lv_iconst (v := 0) hx hb dX2_readNumber_17 (by decide) ?_
    exact W.zret (ty := .boolean) (v := 0) hx hb hr (my_nz (by decide)) (fun t ht hW => ⟨⟨0, u_1, rfl, (show f_X2_readNumber v x0 = (0, u_1) from by rw [f_X2_readNumber, hw_2, my_l_eq, if_pos c_3]), by show va_P D vwCl _ t.heap; rw [ht]; exact hP⟩, hS.F ht⟩) hS.2.2 dX2_readNumber_18
