theorem hd_X3_isSetOfPlayers_S : yX3_isSetOfPlayers.cls ≠ "java/lang/invoke/MethodHandle" ∧ yX3_isSetOfPlayers.cls ≠ "java/lang/invoke/VarHandle" ∧ (parseMethodDescriptor yX3_isSetOfPlayers.desc).map (fun d => d.parameters.length) = some 1 := by decide +kernel
theorem hd_X3_isSetOfPlayers_V : yX3_isSetOfPlayers.cls = RX3 ∧ yX3_isSetOfPlayers.cls ≠ "java/lang/invoke/MethodHandle" ∧ yX3_isSetOfPlayers.cls ≠ "java/lang/invoke/VarHandle" ∧ (parseMethodDescriptor yX3_isSetOfPlayers.desc).map (fun d => d.parameters.length) = some 1 := ⟨rfl, hd_X3_isSetOfPlayers_S⟩
def f_X3_isSetOfPlayers (w : PowV) (x0 : Int32) : Int32 := (if (x0 &&& (w.1 ^^^ (-1))) = 0 then 1 else 0)
theorem z_X3_isSetOfPlayers (w : PowV) (x0 : Int32) : f_X3_isSetOfPlayers w x0 = 0 ∨ f_X3_isSetOfPlayers w x0 = 1 := by
  unfold f_X3_isSetOfPlayers
  repeat' split
  all_goals first | exact Or.inl rfl | exact Or.inr rfl
set_option maxHeartbeats 400000 in
set_option maxRecDepth 100000 in
theorem c_X3_isSetOfPlayers (l : Launch) (D : va_G) (cy : Nat → ClassId) (g : Nat → Nat) (B : Nat) (a : Nat → Nat) (w : PowV) (x0 : Int32) : Met l yX3_isSetOfPlayers wsX3_isSetOfPlayers ({ frames := 0, cells := 0, slots := 0, locals := 0 }) (rdP D cy g B (wPow cy a w) [.ref (a 0), .int x0]) (vp_Si (fun r => r = f_X3_isSetOfPlayers w x0)) 0 0 (fun _ => False) := by
  refine Met.ofW (cc := cX3_isSetOfPlayers) (maxL := 2) (ret := (some .boolean)) (by decide) rfl ?_
  intro p e s m args below meth c s₁ BB hml hv
  obtain ⟨rfl, hP, hK0⟩ := hv
  have hx := BB.exec
  have hb := BB.bytes
  have hr := BB.returns
  have hts := atoms_spec (ws := wsX3_isSetOfPlayers) BB.pre
  have hown : s.vm.findClass RX3 = some m.cls := findClass_of_methodNamed BB.named
  have hlocks := BB.notSynchronized
  have S := my_fix hx hb hml hown hts
  have inX3 : ∀ w ∈ wsX30, w ∈ wsX3_isSetOfPlayers := fun w h => List.mem_cons_of_mem _ (List.mem_append_right _ h)
  have hS : va_S (fun q => B ≤ q) s.heap s.heap [] := va_S.rf
  have hAB : ∀ q : Nat, (fun q => B ≤ q) q → B ≤ q := fun _ h => h
  have hl := lv_entry ([.ref (a 0), .int x0]) (n := 2) (Nat.le_of_ble_eq_true rfl)
  rw [lg_entry_eq]
  generalize (lg_sl ([.ref (a 0), .int x0]) ++ List.replicate (2 - (lg_sl ([.ref (a 0), .int x0])).length) Slot.unset).toArray = ls at hl ⊢
  have hl : lv_has ls 2 [(0, .ref (a 0)), (1, .int x0)] := hl
  refine lv_iload_n hx hb dX3_isSetOfPlayers_0 rfl (lv_at hl 1 rfl) ?_
  refine lv_aload_n hx hb dX3_isSetOfPlayers_1 rfl (lv_at hl 0 rfl) ?_
  refine va_get (D := D) (ci := 1) (v := .int w.1) (C := RX3) (T := TX3) (N := 13) hx hb hts inX3 hown hK0.1 hP 0 rfl rfl 0 (by decide) (hts (.fieldLink RX3 44 "PivotChamber$Power" "players" "I") (List.mem_of_getElem? (i := 1) rfl)) (fun _ h9 => h9) rfl dX3_isSetOfPlayers_2 ?_
  refine lv_iconst (v := (-1)) hx hb dX3_isSetOfPlayers_5 (by decide) ?_
  refine lv_ixor hx hb dX3_isSetOfPlayers_6 ?_
  refine lv_iand hx hb dX3_isSetOfPlayers_7 ?_
  refine lv_if_ne (tgt := 15) hx hb dX3_isSetOfPlayers_8 (by decide) (fun c_1 => ?_) (fun c_1 => ?_)
  · refine lv_iconst (v := 0) hx hb dX3_isSetOfPlayers_15 (by decide) ?_
    exact W.zret (ty := .boolean) (v := 0) hx hb hr (my_nz (by decide)) (fun t ht hW => ⟨0, rfl, (show f_X3_isSetOfPlayers w x0 = 0 from by rw [f_X3_isSetOfPlayers, if_neg c_1]).symm, ht⟩) (fun q hq => absurd hq List.not_mem_nil) dX3_isSetOfPlayers_16
  · refine lv_iconst (v := 1) hx hb dX3_isSetOfPlayers_11 (by decide) ?_
    refine lv_goto (tgt := 16) hx hb dX3_isSetOfPlayers_12 (by decide) ?_
    exact W.zret (ty := .boolean) (v := 1) hx hb hr (my_nz (by decide)) (fun t ht hW => ⟨1, rfl, (show f_X3_isSetOfPlayers w x0 = 1 from by rw [f_X3_isSetOfPlayers, if_pos c_1]).symm, ht⟩) (fun q hq => absurd hq List.not_mem_nil) dX3_isSetOfPlayers_16
theorem hd_X3_isWinning_S : yX3_isWinning.cls ≠ "java/lang/invoke/MethodHandle" ∧ yX3_isWinning.cls ≠ "java/lang/invoke/VarHandle" ∧ (parseMethodDescriptor yX3_isWinning.desc).map (fun d => d.parameters.length) = some 1 := by decide +kernel
theorem hd_X3_isWinning_V : yX3_isWinning.cls = RX3 ∧ yX3_isWinning.cls ≠ "java/lang/invoke/MethodHandle" ∧ yX3_isWinning.cls ≠ "java/lang/invoke/VarHandle" ∧ (parseMethodDescriptor yX3_isWinning.desc).map (fun d => d.parameters.length) = some 1 := ⟨rfl, hd_X3_isWinning_S⟩
def f_X3_isWinning (w : PowV) (x0 : Int32) : Int32 := (if (rAt 256 w.2.2.2.2.2.2.2.1 x0) < w.2.1 then 0 else 1)
theorem z_X3_isWinning (w : PowV) (x0 : Int32) : f_X3_isWinning w x0 = 0 ∨ f_X3_isWinning w x0 = 1 := by
  unfold f_X3_isWinning
  repeat' split
  all_goals first | exact Or.inl rfl | exact Or.inr rfl
set_option maxHeartbeats 400000 in
set_option maxRecDepth 100000 in
theorem c_X3_isWinning (l : Launch) (D : va_G) (cy : Nat → ClassId) (g : Nat → Nat) (B : Nat) (a : Nat → Nat) (w : PowV) (x0 : Int32) : Met l yX3_isWinning wsX3_isWinning ({ frames := 1, cells := 0, slots := 0, locals := 21 }) (rdP D cy g B (wPow cy a w) [.ref (a 0), .int x0]) (vp_Si (fun r => r = f_X3_isWinning w x0)) 0 0 (fun _ => False) := by
  refine Met.ofW (cc := cX3_isWinning) (maxL := 2) (ret := (some .boolean)) (by decide) rfl ?_
  intro p e s m args below meth c s₁ BB hml hv
  obtain ⟨rfl, hP, hK0⟩ := hv
  have hx := BB.exec
  have hb := BB.bytes
  have hr := BB.returns
  have hts := atoms_spec (ws := wsX3_isWinning) BB.pre
  have hown : s.vm.findClass RX3 = some m.cls := findClass_of_methodNamed BB.named
  have hlocks := BB.notSynchronized
  have S := my_fix hx hb hml hown hts
  have inX3 : ∀ w ∈ wsX30, w ∈ wsX3_isWinning := fun w h => List.mem_cons_of_mem _ (List.mem_append_left _ (List.mem_append_right _ h))
  have hS : va_S (fun q => B ≤ q) s.heap s.heap [] := va_S.rf
  have hAB : ∀ q : Nat, (fun q => B ≤ q) q → B ≤ q := fun _ h => h
  have hl := lv_entry ([.ref (a 0), .int x0]) (n := 2) (Nat.le_of_ble_eq_true rfl)
  rw [lg_entry_eq]
  generalize (lg_sl ([.ref (a 0), .int x0]) ++ List.replicate (2 - (lg_sl ([.ref (a 0), .int x0])).length) Slot.unset).toArray = ls at hl ⊢
  have hl : lv_has ls 2 [(0, .ref (a 0)), (1, .int x0)] := hl
  refine lv_aload_n hx hb dX3_isWinning_0 rfl (lv_at hl 0 rfl) ?_
  refine va_get (D := D) (ci := 1) (v := .ref (a 3)) (C := RX3) (T := TX3) (N := 13) hx hb hts inX3 hown hK0.1 hP 0 rfl rfl 3 (by decide) (hts (.fieldLink RX3 20 "PivotChamber$Power" "strengths" "LPivotChamber$Row;") (List.mem_of_getElem? (i := 1) rfl)) (fun _ h9 => h9) rfl dX3_isWinning_1 ?_
  refine lv_iload_n hx hb dX3_isWinning_4 rfl (lv_at hl 1 rfl) ?_
  refine rd_goi (va_runV (C := RX4) (As := [.int x0]) (rest := []) S (c_X4_at l D cy g B (a 3) (a 4) 256 w.2.2.2.2.2.2.2.1 x0 (by decide)) (cwV 1 hts gX3_isWinning_X4_at rfl rfl rfl hd_X4_at_V ⟨Nat.le_of_ble_eq_true rfl, Nat.le_of_ble_eq_true rfl⟩) ⟨rdP_blind, va_recv hK0.1 hP (ci := 2) (q0 := 3) rfl rfl, my_preV hK0 hS hAB hP [3, 4] rfl⟩ rfl rfl hl.1 rfl (lv_room (Nat.le_of_ble_eq_true rfl)) dX3_isWinning_5 ⟨Nat.zero_le _, Nat.zero_le _⟩) ?_
  refine lv_aload_n hx hb dX3_isWinning_8 rfl (lv_at hl 0 rfl) ?_
  refine va_get (D := D) (ci := 1) (v := .int w.2.1) (C := RX3) (T := TX3) (N := 13) hx hb hts inX3 hown hK0.1 hP 0 rfl rfl 1 (by decide) (hts (.fieldLink RX3 50 "PivotChamber$Power" "quota" "I") (List.mem_of_getElem? (i := 2) rfl)) (fun _ h9 => h9) rfl dX3_isWinning_9 ?_
  refine lv_icmp_lt (tgt := 19) hx hb dX3_isWinning_12 (by decide) (fun c_1 => ?_) (fun c_1 => ?_)
  · refine lv_iconst (v := 0) hx hb dX3_isWinning_19 (by decide) ?_
    exact W.zret (ty := .boolean) (v := 0) hx hb hr (my_nz (by decide)) (fun t ht hW => ⟨0, rfl, (show f_X3_isWinning w x0 = 0 from by rw [f_X3_isWinning, if_pos c_1]).symm, ht⟩) (fun q hq => absurd hq List.not_mem_nil) dX3_isWinning_20
  · refine lv_iconst (v := 1) hx hb dX3_isWinning_15 (by decide) ?_
    refine lv_goto (tgt := 20) hx hb dX3_isWinning_16 (by decide) ?_
    exact W.zret (ty := .boolean) (v := 1) hx hb hr (my_nz (by decide)) (fun t ht hW => ⟨1, rfl, (show f_X3_isWinning w x0 = 1 from by rw [f_X3_isWinning, if_neg c_1]).symm, ht⟩) (fun q hq => absurd hq List.not_mem_nil) dX3_isWinning_20
theorem hd_X3_playerCount_S : yX3_playerCount.cls ≠ "java/lang/invoke/MethodHandle" ∧ yX3_playerCount.cls ≠ "java/lang/invoke/VarHandle" ∧ (parseMethodDescriptor yX3_playerCount.desc).map (fun d => d.parameters.length) = some 0 := by decide +kernel
theorem hd_X3_playerCount_V : yX3_playerCount.cls = RX3 ∧ yX3_playerCount.cls ≠ "java/lang/invoke/MethodHandle" ∧ yX3_playerCount.cls ≠ "java/lang/invoke/VarHandle" ∧ (parseMethodDescriptor yX3_playerCount.desc).map (fun d => d.parameters.length) = some 0 := ⟨rfl, hd_X3_playerCount_S⟩
def f_X3_playerCount (w : PowV) : Int32 := (f_J6_bitCount_0f7a4 w.1)
set_option maxHeartbeats 400000 in
set_option maxRecDepth 100000 in
theorem c_X3_playerCount (l : Launch) (D : va_G) (cy : Nat → ClassId) (g : Nat → Nat) (B : Nat) (a : Nat → Nat) (w : PowV) : Met l yX3_playerCount wsX3_playerCount ({ frames := 1, cells := 0, slots := 0, locals := 20 }) (rdP D cy g B (wPow cy a w) [.ref (a 0)]) (vp_Si (fun r => r = f_X3_playerCount w)) 0 0 (fun _ => False) := by
  refine Met.ofW (cc := cX3_playerCount) (maxL := 1) (ret := (some .int)) (by decide) rfl ?_
  intro p e s m args below meth c s₁ BB hml hv
  obtain ⟨rfl, hP, hK0⟩ := hv
  have hx := BB.exec
  have hb := BB.bytes
  have hr := BB.returns
  have hts := atoms_spec (ws := wsX3_playerCount) BB.pre
  have hown : s.vm.findClass RX3 = some m.cls := findClass_of_methodNamed BB.named
  have hlocks := BB.notSynchronized
  have S := my_fix hx hb hml hown hts
  have inX3 : ∀ w ∈ wsX30, w ∈ wsX3_playerCount := fun w h => List.mem_cons_of_mem _ (List.mem_append_right _ h)
  have hS : va_S (fun q => B ≤ q) s.heap s.heap [] := va_S.rf
  have hAB : ∀ q : Nat, (fun q => B ≤ q) q → B ≤ q := fun _ h => h
  have hl := lv_entry ([.ref (a 0)]) (n := 1) (Nat.le_of_ble_eq_true rfl)
  rw [lg_entry_eq]
  generalize (lg_sl ([.ref (a 0)]) ++ List.replicate (1 - (lg_sl ([.ref (a 0)])).length) Slot.unset).toArray = ls at hl ⊢
  have hl : lv_has ls 1 [(0, .ref (a 0))] := hl
  refine lv_aload_n hx hb dX3_playerCount_0 rfl (lv_at hl 0 rfl) ?_
  refine va_get (D := D) (ci := 1) (v := .int w.1) (C := RX3) (T := TX3) (N := 13) hx hb hts inX3 hown hK0.1 hP 0 rfl rfl 0 (by decide) (hts (.fieldLink RX3 44 "PivotChamber$Power" "players" "I") (List.mem_of_getElem? (i := 1) rfl)) (fun _ h9 => h9) rfl dX3_playerCount_1 ?_
  refine rd_goi (va_runS (As := [.int w.1]) (rest := []) S (c_J6_bitCount_0f7a4 l D cy g B w.1) (va_cwS 1 hts gX3_playerCount_J6_bitCount_0f7a4 rfl rfl rfl hd_J6_bitCount_0f7a4_S ⟨Nat.le_of_ble_eq_true rfl, Nat.le_of_ble_eq_true rfl⟩) ⟨rdP_blind, my_preV hK0 hS hAB hP [] rfl⟩ rfl rfl hl.1 rfl (lv_room (Nat.le_of_ble_eq_true rfl)) dX3_playerCount_4 ⟨Nat.zero_le _, Nat.zero_le _⟩) ?_
  exact W.iret hx hb hr (fun t ht hW => ⟨(f_J6_bitCount_0f7a4 w.1), rfl, (show f_X3_playerCount w = (f_J6_bitCount_0f7a4 w.1) from by rw [f_X3_playerCount]).symm, ht⟩) (fun q hq => absurd hq List.not_mem_nil) dX3_playerCount_7
theorem hd_X3_dummies_S : yX3_dummies.cls ≠ "java/lang/invoke/MethodHandle" ∧ yX3_dummies.cls ≠ "java/lang/invoke/VarHandle" ∧ (parseMethodDescriptor yX3_dummies.desc).map (fun d => d.parameters.length) = some 0 := by decide +kernel
theorem hd_X3_dummies_V : yX3_dummies.cls = RX3 ∧ yX3_dummies.cls ≠ "java/lang/invoke/MethodHandle" ∧ yX3_dummies.cls ≠ "java/lang/invoke/VarHandle" ∧ (parseMethodDescriptor yX3_dummies.desc).map (fun d => d.parameters.length) = some 0 := ⟨rfl, hd_X3_dummies_S⟩
def f_X3_dummies_st (w : PowV) (i1_1 : Int32) (i2_2 : Int32) : (Int32 × Int32) ⊕ (Int32 × Int32) := (if 8 ≤ i2_2 then (.inr (i1_1, i2_2)) else (if (f_X7_contains w.1 i2_2) = 0 then (.inl (i1_1, (i2_2 + 1))) else (if (rAt 8 w.2.2.2.2.2.2.2.2.2.1 i2_2) = 0 then (.inl ((i1_1 ||| (1 <<< (i2_2 &&& 31))), (i2_2 + 1))) else (.inl (i1_1, (i2_2 + 1))))))
def f_X3_dummies (w : PowV) : Int32 := (my_t2 (lp (fun (x : Int32 × Int32) => f_X3_dummies_st w x.1 x.2) default (((8 : Int32).toInt - (0 : Int32).toInt).toNat + 1) (0, 0)) (fun (i1_1 : Int32) (i2_2 : Int32) => i1_1))
set_option maxHeartbeats 400000 in
set_option maxRecDepth 100000 in
theorem c_X3_dummies (l : Launch) (D : va_G) (cy : Nat → ClassId) (g : Nat → Nat) (B : Nat) (a : Nat → Nat) (w : PowV) : Met l yX3_dummies wsX3_dummies ({ frames := 1, cells := 0, slots := 0, locals := 21 }) (rdP D cy g B (wPow cy a w) [.ref (a 0)]) (vp_Si (fun r => r = f_X3_dummies w)) 0 0 (fun _ => False) := by
  refine Met.ofW (cc := cX3_dummies) (maxL := 3) (ret := (some .int)) (by decide) rfl ?_
  intro p e s m args below meth c s₁ BB hml hv
  obtain ⟨rfl, hP, hK0⟩ := hv
  have hx := BB.exec
  have hb := BB.bytes
  have hr := BB.returns
  have hts := atoms_spec (ws := wsX3_dummies) BB.pre
  have hown : s.vm.findClass RX3 = some m.cls := findClass_of_methodNamed BB.named
  have hlocks := BB.notSynchronized
  have S := my_fix hx hb hml hown hts
  have inX3 : ∀ w ∈ wsX30, w ∈ wsX3_dummies := fun w h => List.mem_cons_of_mem _ (List.mem_append_left _ (List.mem_append_right _ h))
  have hS : va_S (fun q => B ≤ q) s.heap s.heap [] := va_S.rf
  have hAB : ∀ q : Nat, (fun q => B ≤ q) q → B ≤ q := fun _ h => h
  have hl := lv_entry ([.ref (a 0)]) (n := 3) (Nat.le_of_ble_eq_true rfl)
  rw [lg_entry_eq]
  generalize (lg_sl ([.ref (a 0)]) ++ List.replicate (3 - (lg_sl ([.ref (a 0)])).length) Slot.unset).toArray = ls at hl ⊢
  have hl : lv_has ls 3 [(0, .ref (a 0))] := hl
  refine lv_iconst (v := 0) hx hb dX3_dummies_0 (by decide) ?_
  refine lv_istore_n (lv' := [(1, .int 0), (0, .ref (a 0))]) hx hb dX3_dummies_1 rfl hl (by decide) rfl (fun ls hl => ?_)
  refine lv_iconst (v := 0) hx hb dX3_dummies_2 (by decide) ?_
  refine lv_istore_n (lv' := [(2, .int 0), (1, .int 0), (0, .ref (a 0))]) hx hb dX3_dummies_3 rfl hl (by decide) rfl (fun ls hl => ?_)
  have cont0 : ∀ (i1_1 : Int32) (i2_2 : Int32), lp (fun (x : Int32 × Int32) => f_X3_dummies_st w x.1 x.2) default (((8 : Int32).toInt - (0 : Int32).toInt).toNat + 1) (0, 0) = (i1_1, i2_2) → ∀ ls : Array Slot, lv_has ls 3 [(0, .ref (a 0)), (1, .int i1_1), (2, .int i2_2)] → W p l e (headSpec wsX3_dummies ({ frames := 1, cells := 0, slots := 0, locals := 21 } : Room)).room s m ([.ref (a 0)] : List Value).toArray below meth c s.heap [] 0 0 (MQ below (vp_Si (fun r => r = f_X3_dummies w)) ([.ref (a 0)] : List Value).toArray s 0 0 (fun _ => False)) (F0 m 44 ls []) := by
    intro i1_1 i2_2 hE0 ls hl
    refine lv_iload_n hx hb dX3_dummies_44 rfl (lv_at hl 1 rfl) ?_
    exact W.iret hx hb hr (fun t ht hW => ⟨i1_1, rfl, (show f_X3_dummies w = i1_1 from by rw [f_X3_dummies, hE0, my_t2_eq]).symm, ht⟩) (fun q hq => absurd hq List.not_mem_nil) dX3_dummies_45
  have key : ∀ (nf : Nat) (i1_1 : Int32) (i2_2 : Int32), ((8 : Int32).toInt - (i2_2 : Int32).toInt).toNat < nf → lp (fun (x : Int32 × Int32) => f_X3_dummies_st w x.1 x.2) default nf (i1_1, i2_2) = lp (fun (x : Int32 × Int32) => f_X3_dummies_st w x.1 x.2) default (((8 : Int32).toInt - (0 : Int32).toInt).toNat + 1) (0, 0) → ∀ ls : Array Slot, lv_has ls 3 [(0, .ref (a 0)), (1, .int i1_1), (2, .int i2_2)] → W p l e (headSpec wsX3_dummies ({ frames := 1, cells := 0, slots := 0, locals := 21 } : Room)).room s m ([.ref (a 0)] : List Value).toArray below meth c s.heap [] 0 0 (MQ below (vp_Si (fun r => r = f_X3_dummies w)) ([.ref (a 0)] : List Value).toArray s 0 0 (fun _ => False)) (F0 m 4 ls []) := by
    intro n0
    induction n0 with
    | zero => intro i1_1 i2_2 hlt; exact absurd hlt (Nat.not_lt_zero _)
    | succ n0 ih0 =>
      intro i1_1 i2_2 hlt0 hF0 ls hl
      refine lv_iload_n hx hb dX3_dummies_4 rfl (lv_at hl 2 rfl) ?_
      refine lv_bipush (v := 8) hx hb dX3_dummies_5 (by decide) ?_
      refine lv_icmp_ge (tgt := 44) hx hb dX3_dummies_7 (by decide) (fun c_3 => ?_) (fun c_3 => ?_)
      · have hst : f_X3_dummies_st w i1_1 i2_2 = .inr (i1_1, i2_2) := by rw [f_X3_dummies_st, if_pos c_3]
        exact cont0 i1_1 i2_2 (lp_inr hst hF0) _ (lv_sub hl [0, 1, 2] rfl)
      · refine lv_aload_n hx hb dX3_dummies_10 rfl (lv_at hl 0 rfl) ?_
        refine va_get (D := D) (ci := 1) (v := .int w.1) (C := RX3) (T := TX3) (N := 13) hx hb hts inX3 hown hK0.1 hP 0 rfl rfl 0 (by decide) (hts (.fieldLink RX3 44 "PivotChamber$Power" "players" "I") (List.mem_of_getElem? (i := 1) rfl)) (fun _ h9 => h9) rfl dX3_dummies_11 ?_
        refine lv_iload_n hx hb dX3_dummies_14 rfl (lv_at hl 2 rfl) ?_
        refine rd_goi (va_runSN (As := [.int w.1, .int i2_2]) (rest := []) S (c_X7_contains l D cy g B w.1 i2_2) ⟨va_cnB 2 hts gX3_dummies_X7_contains_n114 rfl rfl rfl (hK0.2.1.1.m 4 rfl) (hts (.initialized RX7) (List.mem_of_getElem? (i := 4) rfl)) hd_X7_contains_S ⟨Nat.le_of_ble_eq_true rfl, Nat.le_of_ble_eq_true rfl⟩, (hts (.static yX7_contains) (List.mem_of_getElem? (i := 3) rfl)), trivial⟩ ⟨rdP_blind, my_preV hK0 hS hAB hP [] rfl⟩ rfl rfl hl.1 rfl (lv_room (Nat.le_of_ble_eq_true rfl)) dX3_dummies_15 ⟨Nat.zero_le _, Nat.zero_le _⟩) ?_
        refine lv_if_eq (tgt := 38) hx hb dX3_dummies_18 (by decide) (fun c_4 => ?_) (fun c_4 => ?_)
        · refine lv_iinc (v := (i2_2 + 1)) (lv' := [(2, .int (i2_2 + 1)), (0, .ref (a 0)), (1, .int i1_1)]) hx hb dX3_dummies_38 hl (k := 2) rfl rfl (by decide) rfl (fun ls hl => ?_)
          refine lv_goto (tgt := 4) hx hb dX3_dummies_41 (by decide) ?_
          have hst : f_X3_dummies_st w i1_1 i2_2 = .inl (i1_1, (i2_2 + 1)) := by rw [f_X3_dummies_st, if_neg c_3, if_pos c_4]
          have hmu : ((8 : Int32).toInt - ((i2_2 + 1) : Int32).toInt).toNat < ((8 : Int32).toInt - (i2_2 : Int32).toInt).toNat := mu_up c_3
          exact ih0 i1_1 (i2_2 + 1) (Nat.lt_of_lt_of_le hmu (Nat.le_of_lt_succ hlt0)) (lp_inl hst hF0) _ (lv_sub hl [1, 2, 0] rfl)
        · refine lv_aload_n hx hb dX3_dummies_21 rfl (lv_at hl 0 rfl) ?_
          refine va_get (D := D) (ci := 1) (v := .ref (a 7)) (C := RX3) (T := TX3) (N := 13) hx hb hts inX3 hown hK0.1 hP 0 rfl rfl 8 (by decide) (hts (.fieldLink RX3 26 "PivotChamber$Power" "swings" "LPivotChamber$Row;") (List.mem_of_getElem? (i := 2) rfl)) (fun _ h9 => h9) rfl dX3_dummies_22 ?_
          refine lv_iload_n hx hb dX3_dummies_25 rfl (lv_at hl 2 rfl) ?_
          refine rd_goi (va_runV (C := RX4) (As := [.int i2_2]) (rest := []) S (c_X4_at l D cy g B (a 7) (a 8) 8 w.2.2.2.2.2.2.2.2.2.1 i2_2 (by decide)) (cwV 1 hts gX3_dummies_X4_at rfl rfl rfl hd_X4_at_V ⟨Nat.le_of_ble_eq_true rfl, Nat.le_of_ble_eq_true rfl⟩) ⟨rdP_blind, va_recv hK0.1 hP (ci := 2) (q0 := 7) rfl rfl, my_preV hK0 hS hAB hP [7, 8] rfl⟩ rfl rfl hl.1 rfl (lv_room (Nat.le_of_ble_eq_true rfl)) dX3_dummies_26 ⟨Nat.zero_le _, Nat.zero_le _⟩) ?_
          refine lv_if_ne (tgt := 38) hx hb dX3_dummies_29 (by decide) (fun c_5 => ?_) (fun c_5 => ?_)
          · refine lv_iinc (v := (i2_2 + 1)) (lv' := [(2, .int (i2_2 + 1)), (0, .ref (a 0)), (1, .int i1_1)]) hx hb dX3_dummies_38 hl (k := 2) rfl rfl (by decide) rfl (fun ls hl => ?_)
            refine lv_goto (tgt := 4) hx hb dX3_dummies_41 (by decide) ?_
            have hst : f_X3_dummies_st w i1_1 i2_2 = .inl (i1_1, (i2_2 + 1)) := by rw [f_X3_dummies_st, if_neg c_3, if_neg c_4, if_neg c_5]
            have hmu : ((8 : Int32).toInt - ((i2_2 + 1) : Int32).toInt).toNat < ((8 : Int32).toInt - (i2_2 : Int32).toInt).toNat := mu_up c_3
            exact ih0 i1_1 (i2_2 + 1) (Nat.lt_of_lt_of_le hmu (Nat.le_of_lt_succ hlt0)) (lp_inl hst hF0) _ (lv_sub hl [1, 2, 0] rfl)
          · refine lv_iload_n hx hb dX3_dummies_32 rfl (lv_at hl 1 rfl) ?_
            refine lv_iconst (v := 1) hx hb dX3_dummies_33 (by decide) ?_
            refine lv_iload_n hx hb dX3_dummies_34 rfl (lv_at hl 2 rfl) ?_
            refine lv_ishl hx hb dX3_dummies_35 ?_
            refine lv_ior hx hb dX3_dummies_36 ?_
            refine lv_istore_n (lv' := [(1, .int (i1_1 ||| (1 <<< (i2_2 &&& 31)))), (0, .ref (a 0)), (2, .int i2_2)]) hx hb dX3_dummies_37 rfl hl (by decide) rfl (fun ls hl => ?_)
            refine lv_iinc (v := (i2_2 + 1)) (lv' := [(2, .int (i2_2 + 1)), (1, .int (i1_1 ||| (1 <<< (i2_2 &&& 31)))), (0, .ref (a 0))]) hx hb dX3_dummies_38 hl (k := 2) rfl rfl (by decide) rfl (fun ls hl => ?_)
            refine lv_goto (tgt := 4) hx hb dX3_dummies_41 (by decide) ?_
            have hst : f_X3_dummies_st w i1_1 i2_2 = .inl ((i1_1 ||| (1 <<< (i2_2 &&& 31))), (i2_2 + 1)) := by rw [f_X3_dummies_st, if_neg c_3, if_neg c_4, if_pos c_5]
            have hmu : ((8 : Int32).toInt - ((i2_2 + 1) : Int32).toInt).toNat < ((8 : Int32).toInt - (i2_2 : Int32).toInt).toNat := mu_up c_3
            exact ih0 (i1_1 ||| (1 <<< (i2_2 &&& 31))) (i2_2 + 1) (Nat.lt_of_lt_of_le hmu (Nat.le_of_lt_succ hlt0)) (lp_inl hst hF0) _ (lv_sub hl [2, 1, 0] rfl)
  exact key (((8 : Int32).toInt - (0 : Int32).toInt).toNat + 1) 0 0 (Nat.lt_succ_self _) rfl _ (lv_sub hl [2, 1, 0] rfl)
theorem hd_X3_needed_S : yX3_needed.cls ≠ "java/lang/invoke/MethodHandle" ∧ yX3_needed.cls ≠ "java/lang/invoke/VarHandle" ∧ (parseMethodDescriptor yX3_needed.desc).map (fun d => d.parameters.length) = some 0 := by decide +kernel
theorem hd_X3_needed_V : yX3_needed.cls = RX3 ∧ yX3_needed.cls ≠ "java/lang/invoke/MethodHandle" ∧ yX3_needed.cls ≠ "java/lang/invoke/VarHandle" ∧ (parseMethodDescriptor yX3_needed.desc).map (fun d => d.parameters.length) = some 0 := ⟨rfl, hd_X3_needed_S⟩
def f_X3_needed (w : PowV) : Int32 := (if w.2.2.1 ≤ 0 then 0 else w.2.2.2.1)
set_option maxHeartbeats 400000 in
set_option maxRecDepth 100000 in
theorem c_X3_needed (l : Launch) (D : va_G) (cy : Nat → ClassId) (g : Nat → Nat) (B : Nat) (a : Nat → Nat) (w : PowV) : Met l yX3_needed wsX3_needed ({ frames := 0, cells := 0, slots := 0, locals := 0 }) (rdP D cy g B (wPow cy a w) [.ref (a 0)]) (vp_Si (fun r => r = f_X3_needed w)) 0 0 (fun _ => False) := by
  refine Met.ofW (cc := cX3_needed) (maxL := 1) (ret := (some .int)) (by decide) rfl ?_
  intro p e s m args below meth c s₁ BB hml hv
  obtain ⟨rfl, hP, hK0⟩ := hv
  have hx := BB.exec
  have hb := BB.bytes
  have hr := BB.returns
  have hts := atoms_spec (ws := wsX3_needed) BB.pre
  have hown : s.vm.findClass RX3 = some m.cls := findClass_of_methodNamed BB.named
  have hlocks := BB.notSynchronized
  have S := my_fix hx hb hml hown hts
  have inX3 : ∀ w ∈ wsX30, w ∈ wsX3_needed := fun w h => List.mem_cons_of_mem _ (List.mem_append_right _ h)
  have hS : va_S (fun q => B ≤ q) s.heap s.heap [] := va_S.rf
  have hAB : ∀ q : Nat, (fun q => B ≤ q) q → B ≤ q := fun _ h => h
  have hl := lv_entry ([.ref (a 0)]) (n := 1) (Nat.le_of_ble_eq_true rfl)
  rw [lg_entry_eq]
  generalize (lg_sl ([.ref (a 0)]) ++ List.replicate (1 - (lg_sl ([.ref (a 0)])).length) Slot.unset).toArray = ls at hl ⊢
  have hl : lv_has ls 1 [(0, .ref (a 0))] := hl
  refine lv_aload_n hx hb dX3_needed_0 rfl (lv_at hl 0 rfl) ?_
  refine va_get (D := D) (ci := 1) (v := .int w.2.2.1) (C := RX3) (T := TX3) (N := 13) hx hb hts inX3 hown hK0.1 hP 0 rfl rfl 4 (by decide) (hts (.fieldLink RX3 58 "PivotChamber$Power" "winningCount" "I") (List.mem_of_getElem? (i := 1) rfl)) (fun _ h9 => h9) rfl dX3_needed_1 ?_
  refine lv_if_le (tgt := 14) hx hb dX3_needed_4 (by decide) (fun c_1 => ?_) (fun c_1 => ?_)
  · refine lv_iconst (v := 0) hx hb dX3_needed_14 (by decide) ?_
    exact W.iret hx hb hr (fun t ht hW => ⟨0, rfl, (show f_X3_needed w = 0 from by rw [f_X3_needed, if_pos c_1]).symm, ht⟩) (fun q hq => absurd hq List.not_mem_nil) dX3_needed_15
  · refine lv_aload_n hx hb dX3_needed_7 rfl (lv_at hl 0 rfl) ?_
    refine va_get (D := D) (ci := 1) (v := .int w.2.2.2.1) (C := RX3) (T := TX3) (N := 13) hx hb hts inX3 hown hK0.1 hP 0 rfl rfl 5 (by decide) (hts (.fieldLink RX3 61 "PivotChamber$Power" "inAllWinning" "I") (List.mem_of_getElem? (i := 2) rfl)) (fun _ h9 => h9) rfl dX3_needed_8 ?_
    refine lv_goto (tgt := 15) hx hb dX3_needed_11 (by decide) ?_
    exact W.iret hx hb hr (fun t ht hW => ⟨w.2.2.2.1, rfl, (show f_X3_needed w = w.2.2.2.1 from by rw [f_X3_needed, if_neg c_1]).symm, ht⟩) (fun q hq => absurd hq List.not_mem_nil) dX3_needed_15
theorem hd_X3_memberValue_S : yX3_memberValue.cls ≠ "java/lang/invoke/MethodHandle" ∧ yX3_memberValue.cls ≠ "java/lang/invoke/VarHandle" ∧ (parseMethodDescriptor yX3_memberValue.desc).map (fun d => d.parameters.length) = some 2 := by decide +kernel
theorem hd_X3_memberValue_V : yX3_memberValue.cls = RX3 ∧ yX3_memberValue.cls ≠ "java/lang/invoke/MethodHandle" ∧ yX3_memberValue.cls ≠ "java/lang/invoke/VarHandle" ∧ (parseMethodDescriptor yX3_memberValue.desc).map (fun d => d.parameters.length) = some 2 := ⟨rfl, hd_X3_memberValue_S⟩
def f_X3_memberValue (w : PowV) (x0 : Int32) (x1 : Int32) : Int32 := (if x1 = 4 then (rAt 8 w.2.2.2.2.2.2.2.2.2.1 x0) else (if x1 = 5 then (rAt 8 w.2.2.2.2.2.2.2.2.2.2.1 x0) else (if x1 = 6 then (if (f_X7_contains (f_X3_dummies w) x0) = 0 then 0 else 1) else (if (f_X7_contains (f_X3_needed w) x0) = 0 then 0 else 1))))
set_option maxHeartbeats 400000 in
set_option maxRecDepth 100000 in
theorem c_X3_memberValue (l : Launch) (D : va_G) (cy : Nat → ClassId) (g : Nat → Nat) (B : Nat) (a : Nat → Nat) (w : PowV) (x0 : Int32) (x1 : Int32) : Met l yX3_memberValue wsX3_memberValue ({ frames := 2, cells := 0, slots := 0, locals := 43 }) (rdP D cy g B (wPow cy a w) [.ref (a 0), .int x0, .int x1]) (vp_Si (fun r => r = f_X3_memberValue w x0 x1)) 0 0 (fun _ => False) := by
  refine Met.ofW (cc := cX3_memberValue) (maxL := 3) (ret := (some .int)) (by decide) rfl ?_
  intro p e s m args below meth c s₁ BB hml hv
  obtain ⟨rfl, hP, hK0⟩ := hv
  have hx := BB.exec
  have hb := BB.bytes
  have hr := BB.returns
  have hts := atoms_spec (ws := wsX3_memberValue) BB.pre
  have hown : s.vm.findClass RX3 = some m.cls := findClass_of_methodNamed BB.named
  have hlocks := BB.notSynchronized
  have S := my_fix hx hb hml hown hts
  have inX3 : ∀ w ∈ wsX30, w ∈ wsX3_memberValue := fun w h => List.mem_cons_of_mem _ (List.mem_append_left _ (List.mem_append_right _ h))
  have hS : va_S (fun q => B ≤ q) s.heap s.heap [] := va_S.rf
  have hAB : ∀ q : Nat, (fun q => B ≤ q) q → B ≤ q := fun _ h => h
  have hl := lv_entry ([.ref (a 0), .int x0, .int x1]) (n := 3) (Nat.le_of_ble_eq_true rfl)
  rw [lg_entry_eq]
  generalize (lg_sl ([.ref (a 0), .int x0, .int x1]) ++ List.replicate (3 - (lg_sl ([.ref (a 0), .int x0, .int x1])).length) Slot.unset).toArray = ls at hl ⊢
  have hl : lv_has ls 3 [(0, .ref (a 0)), (1, .int x0), (2, .int x1)] := hl
  refine lv_iload_n hx hb dX3_memberValue_0 rfl (lv_at hl 2 rfl) ?_
  by_cases h1_0 : x1 = 4
  · refine lv_tableIn (off := 27) (tgt := 28) hx hb dX3_memberValue_1 (by rw [h1_0]; decide) (by rw [h1_0]; decide) (by rw [h1_0]; rfl) (by decide) ?_
    refine lv_aload_n hx hb dX3_memberValue_28 rfl (lv_at hl 0 rfl) ?_
    refine va_get (D := D) (ci := 1) (v := .ref (a 7)) (C := RX3) (T := TX3) (N := 13) hx hb hts inX3 hown hK0.1 hP 0 rfl rfl 8 (by decide) (hts (.fieldLink RX3 26 "PivotChamber$Power" "swings" "LPivotChamber$Row;") (List.mem_of_getElem? (i := 1) rfl)) (fun _ h9 => h9) rfl dX3_memberValue_29 ?_
    refine lv_iload_n hx hb dX3_memberValue_32 rfl (lv_at hl 1 rfl) ?_
    refine rd_goi (va_runV (C := RX4) (As := [.int x0]) (rest := []) S (c_X4_at l D cy g B (a 7) (a 8) 8 w.2.2.2.2.2.2.2.2.2.1 x0 (by decide)) (cwV 1 hts gX3_memberValue_X4_at rfl rfl rfl hd_X4_at_V ⟨Nat.le_of_ble_eq_true rfl, Nat.le_of_ble_eq_true rfl⟩) ⟨rdP_blind, va_recv hK0.1 hP (ci := 2) (q0 := 7) rfl rfl, my_preV hK0 hS hAB hP [7, 8] rfl⟩ rfl rfl hl.1 rfl (lv_room (Nat.le_of_ble_eq_true rfl)) dX3_memberValue_33 ⟨Nat.zero_le _, Nat.zero_le _⟩) ?_
    exact W.iret hx hb hr (fun t ht hW => ⟨(rAt 8 w.2.2.2.2.2.2.2.2.2.1 x0), rfl, (show f_X3_memberValue w x0 x1 = (rAt 8 w.2.2.2.2.2.2.2.2.2.1 x0) from by rw [f_X3_memberValue, if_pos h1_0]).symm, ht⟩) (fun q hq => absurd hq List.not_mem_nil) dX3_memberValue_36
  · by_cases h1_1 : x1 = 5
    · refine lv_tableIn (off := 36) (tgt := 37) hx hb dX3_memberValue_1 (by rw [h1_1]; decide) (by rw [h1_1]; decide) (by rw [h1_1]; rfl) (by decide) ?_
      refine lv_aload_n hx hb dX3_memberValue_37 rfl (lv_at hl 0 rfl) ?_
      refine va_get (D := D) (ci := 1) (v := .ref (a 9)) (C := RX3) (T := TX3) (N := 13) hx hb hts inX3 hown hK0.1 hP 0 rfl rfl 9 (by decide) (hts (.fieldLink RX3 29 "PivotChamber$Power" "orders" "LPivotChamber$Row;") (List.mem_of_getElem? (i := 2) rfl)) (fun _ h9 => h9) rfl dX3_memberValue_38 ?_
      refine lv_iload_n hx hb dX3_memberValue_41 rfl (lv_at hl 1 rfl) ?_
      refine rd_goi (va_runV (C := RX4) (As := [.int x0]) (rest := []) S (c_X4_at l D cy g B (a 9) (a 10) 8 w.2.2.2.2.2.2.2.2.2.2.1 x0 (by decide)) (cwV 1 hts gX3_memberValue_X4_at rfl rfl rfl hd_X4_at_V ⟨Nat.le_of_ble_eq_true rfl, Nat.le_of_ble_eq_true rfl⟩) ⟨rdP_blind, va_recv hK0.1 hP (ci := 2) (q0 := 9) rfl rfl, my_preV hK0 hS hAB hP [9, 10] rfl⟩ rfl rfl hl.1 rfl (lv_room (Nat.le_of_ble_eq_true rfl)) dX3_memberValue_42 ⟨Nat.zero_le _, Nat.zero_le _⟩) ?_
      exact W.iret hx hb hr (fun t ht hW => ⟨(rAt 8 w.2.2.2.2.2.2.2.2.2.2.1 x0), rfl, (show f_X3_memberValue w x0 x1 = (rAt 8 w.2.2.2.2.2.2.2.2.2.2.1 x0) from by rw [f_X3_memberValue, if_neg h1_0, if_pos h1_1]).symm, ht⟩) (fun q hq => absurd hq List.not_mem_nil) dX3_memberValue_45
    · by_cases h1_2 : x1 = 6
      · refine lv_tableIn (off := 45) (tgt := 46) hx hb dX3_memberValue_1 (by rw [h1_2]; decide) (by rw [h1_2]; decide) (by rw [h1_2]; rfl) (by decide) ?_
        refine lv_aload_n hx hb dX3_memberValue_46 rfl (lv_at hl 0 rfl) ?_
        refine rd_goi (va_runV (C := RX3) (As := []) (rest := []) S (c_X3_dummies l D cy g B a w) (cwV 0 hts gX3_memberValue_X3_dummies rfl rfl rfl hd_X3_dummies_V ⟨Nat.le_of_ble_eq_true rfl, Nat.le_of_ble_eq_true rfl⟩) ⟨rdP_blind, va_recv hK0.1 hP (ci := 1) (q0 := 0) rfl rfl, my_preP hK0 hS hAB hP⟩ rfl rfl hl.1 rfl (lv_room (Nat.le_of_ble_eq_true rfl)) dX3_memberValue_47 ⟨Nat.zero_le _, Nat.zero_le _⟩) ?_
        refine lv_iload_n hx hb dX3_memberValue_50 rfl (lv_at hl 1 rfl) ?_
        refine rd_goi (va_runSN (As := [.int (f_X3_dummies w), .int x0]) (rest := []) S (c_X7_contains l D cy g B (f_X3_dummies w) x0) ⟨va_cnB 2 hts gX3_memberValue_X7_contains_n114 rfl rfl rfl (hK0.2.1.1.m 4 rfl) (hts (.initialized RX7) (List.mem_of_getElem? (i := 16) rfl)) hd_X7_contains_S ⟨Nat.le_of_ble_eq_true rfl, Nat.le_of_ble_eq_true rfl⟩, (hts (.static yX7_contains) (List.mem_of_getElem? (i := 15) rfl)), trivial⟩ ⟨rdP_blind, my_preV hK0 hS hAB hP [] rfl⟩ rfl rfl hl.1 rfl (lv_room (Nat.le_of_ble_eq_true rfl)) dX3_memberValue_51 ⟨Nat.zero_le _, Nat.zero_le _⟩) ?_
        refine lv_if_eq (tgt := 61) hx hb dX3_memberValue_54 (by decide) (fun c_1 => ?_) (fun c_1 => ?_)
        · refine lv_iconst (v := 0) hx hb dX3_memberValue_61 (by decide) ?_
          exact W.iret hx hb hr (fun t ht hW => ⟨0, rfl, (show f_X3_memberValue w x0 x1 = 0 from by rw [f_X3_memberValue, if_neg h1_0, if_neg h1_1, if_pos h1_2, if_pos c_1]).symm, ht⟩) (fun q hq => absurd hq List.not_mem_nil) dX3_memberValue_62
        · refine lv_iconst (v := 1) hx hb dX3_memberValue_57 (by decide) ?_
          refine lv_goto (tgt := 62) hx hb dX3_memberValue_58 (by decide) ?_
          exact W.iret hx hb hr (fun t ht hW => ⟨1, rfl, (show f_X3_memberValue w x0 x1 = 1 from by rw [f_X3_memberValue, if_neg h1_0, if_neg h1_1, if_pos h1_2, if_neg c_1]).symm, ht⟩) (fun q hq => absurd hq List.not_mem_nil) dX3_memberValue_62
      · refine lv_tableOut (tgt := 63) hx hb dX3_memberValue_1 (by have t4 : x1.toInt ≠ 4 := my_ne h1_0 rfl; have t5 : x1.toInt ≠ 5 := my_ne h1_1 rfl; have t6 : x1.toInt ≠ 6 := my_ne h1_2 rfl; omega) (by decide) ?_
        refine lv_aload_n hx hb dX3_memberValue_63 rfl (lv_at hl 0 rfl) ?_
        refine rd_goi (va_runV (C := RX3) (As := []) (rest := []) S (c_X3_needed l D cy g B a w) (cwV 0 hts gX3_memberValue_X3_needed rfl rfl rfl hd_X3_needed_V ⟨Nat.le_of_ble_eq_true rfl, Nat.le_of_ble_eq_true rfl⟩) ⟨rdP_blind, va_recv hK0.1 hP (ci := 1) (q0 := 0) rfl rfl, my_preP hK0 hS hAB hP⟩ rfl rfl hl.1 rfl (lv_room (Nat.le_of_ble_eq_true rfl)) dX3_memberValue_64 ⟨Nat.zero_le _, Nat.zero_le _⟩) ?_
        refine lv_iload_n hx hb dX3_memberValue_67 rfl (lv_at hl 1 rfl) ?_
        refine rd_goi (va_runSN (As := [.int (f_X3_needed w), .int x0]) (rest := []) S (c_X7_contains l D cy g B (f_X3_needed w) x0) ⟨va_cnB 2 hts gX3_memberValue_X7_contains_n114 rfl rfl rfl (hK0.2.1.1.m 4 rfl) (hts (.initialized RX7) (List.mem_of_getElem? (i := 16) rfl)) hd_X7_contains_S ⟨Nat.le_of_ble_eq_true rfl, Nat.le_of_ble_eq_true rfl⟩, (hts (.static yX7_contains) (List.mem_of_getElem? (i := 15) rfl)), trivial⟩ ⟨rdP_blind, my_preV hK0 hS hAB hP [] rfl⟩ rfl rfl hl.1 rfl (lv_room (Nat.le_of_ble_eq_true rfl)) dX3_memberValue_68 ⟨Nat.zero_le _, Nat.zero_le _⟩) ?_
        refine lv_if_eq (tgt := 78) hx hb dX3_memberValue_71 (by decide) (fun c_2 => ?_) (fun c_2 => ?_)
        · refine lv_iconst (v := 0) hx hb dX3_memberValue_78 (by decide) ?_
          exact W.iret hx hb hr (fun t ht hW => ⟨0, rfl, (show f_X3_memberValue w x0 x1 = 0 from by rw [f_X3_memberValue, if_neg h1_0, if_neg h1_1, if_neg h1_2, if_pos c_2]).symm, ht⟩) (fun q hq => absurd hq List.not_mem_nil) dX3_memberValue_79
        · refine lv_iconst (v := 1) hx hb dX3_memberValue_74 (by decide) ?_
          refine lv_goto (tgt := 79) hx hb dX3_memberValue_75 (by decide) ?_
          exact W.iret hx hb hr (fun t ht hW => ⟨1, rfl, (show f_X3_memberValue w x0 x1 = 1 from by rw [f_X3_memberValue, if_neg h1_0, if_neg h1_1, if_neg h1_2, if_neg c_2]).symm, ht⟩) (fun q hq => absurd hq List.not_mem_nil) dX3_memberValue_79
theorem hd_X3_wholeValue_S : yX3_wholeValue.cls ≠ "java/lang/invoke/MethodHandle" ∧ yX3_wholeValue.cls ≠ "java/lang/invoke/VarHandle" ∧ (parseMethodDescriptor yX3_wholeValue.desc).map (fun d => d.parameters.length) = some 1 := by decide +kernel
theorem hd_X3_wholeValue_V : yX3_wholeValue.cls = RX3 ∧ yX3_wholeValue.cls ≠ "java/lang/invoke/MethodHandle" ∧ yX3_wholeValue.cls ≠ "java/lang/invoke/VarHandle" ∧ (parseMethodDescriptor yX3_wholeValue.desc).map (fun d => d.parameters.length) = some 1 := ⟨rfl, hd_X3_wholeValue_S⟩
def f_X3_wholeValue (w : PowV) (x0 : Int32) : Int32 := (if x0 = 5 then w.2.2.1 else (if x0 = 6 then w.2.2.2.2.1 else (if x0 = 7 then w.2.2.2.2.2.1 else (if x0 = 8 then (f_X3_dummies w) else (f_X3_needed w)))))
set_option maxHeartbeats 400000 in
set_option maxRecDepth 100000 in
theorem c_X3_wholeValue (l : Launch) (D : va_G) (cy : Nat → ClassId) (g : Nat → Nat) (B : Nat) (a : Nat → Nat) (w : PowV) (x0 : Int32) : Met l yX3_wholeValue wsX3_wholeValue ({ frames := 2, cells := 0, slots := 0, locals := 43 }) (rdP D cy g B (wPow cy a w) [.ref (a 0), .int x0]) (vp_Si (fun r => r = f_X3_wholeValue w x0)) 0 0 (fun _ => False) := by
  refine Met.ofW (cc := cX3_wholeValue) (maxL := 2) (ret := (some .int)) (by decide) rfl ?_
  intro p e s m args below meth c s₁ BB hml hv
  obtain ⟨rfl, hP, hK0⟩ := hv
  have hx := BB.exec
  have hb := BB.bytes
  have hr := BB.returns
  have hts := atoms_spec (ws := wsX3_wholeValue) BB.pre
  have hown : s.vm.findClass RX3 = some m.cls := findClass_of_methodNamed BB.named
  have hlocks := BB.notSynchronized
  have S := my_fix hx hb hml hown hts
  have inX3 : ∀ w ∈ wsX30, w ∈ wsX3_wholeValue := fun w h => List.mem_cons_of_mem _ (List.mem_append_left _ (List.mem_append_right _ h))
  have hS : va_S (fun q => B ≤ q) s.heap s.heap [] := va_S.rf
  have hAB : ∀ q : Nat, (fun q => B ≤ q) q → B ≤ q := fun _ h => h
  have hl := lv_entry ([.ref (a 0), .int x0]) (n := 2) (Nat.le_of_ble_eq_true rfl)
  rw [lg_entry_eq]
  generalize (lg_sl ([.ref (a 0), .int x0]) ++ List.replicate (2 - (lg_sl ([.ref (a 0), .int x0])).length) Slot.unset).toArray = ls at hl ⊢
  have hl : lv_has ls 2 [(0, .ref (a 0)), (1, .int x0)] := hl
  refine lv_iload_n hx hb dX3_wholeValue_0 rfl (lv_at hl 1 rfl) ?_
  by_cases h1_0 : x0 = 5
  · refine lv_tableIn (off := 31) (tgt := 32) hx hb dX3_wholeValue_1 (by rw [h1_0]; decide) (by rw [h1_0]; decide) (by rw [h1_0]; rfl) (by decide) ?_
    refine lv_aload_n hx hb dX3_wholeValue_32 rfl (lv_at hl 0 rfl) ?_
    refine va_get (D := D) (ci := 1) (v := .int w.2.2.1) (C := RX3) (T := TX3) (N := 13) hx hb hts inX3 hown hK0.1 hP 0 rfl rfl 4 (by decide) (hts (.fieldLink RX3 58 "PivotChamber$Power" "winningCount" "I") (List.mem_of_getElem? (i := 1) rfl)) (fun _ h9 => h9) rfl dX3_wholeValue_33 ?_
    exact W.iret hx hb hr (fun t ht hW => ⟨w.2.2.1, rfl, (show f_X3_wholeValue w x0 = w.2.2.1 from by rw [f_X3_wholeValue, if_pos h1_0]).symm, ht⟩) (fun q hq => absurd hq List.not_mem_nil) dX3_wholeValue_36
  · by_cases h1_1 : x0 = 6
    · refine lv_tableIn (off := 36) (tgt := 37) hx hb dX3_wholeValue_1 (by rw [h1_1]; decide) (by rw [h1_1]; decide) (by rw [h1_1]; rfl) (by decide) ?_
      refine lv_aload_n hx hb dX3_wholeValue_37 rfl (lv_at hl 0 rfl) ?_
      refine va_get (D := D) (ci := 1) (v := .int w.2.2.2.2.1) (C := RX3) (T := TX3) (N := 13) hx hb hts inX3 hown hK0.1 hP 0 rfl rfl 6 (by decide) (hts (.fieldLink RX3 64 "PivotChamber$Power" "leastCount" "I") (List.mem_of_getElem? (i := 2) rfl)) (fun _ h9 => h9) rfl dX3_wholeValue_38 ?_
      exact W.iret hx hb hr (fun t ht hW => ⟨w.2.2.2.2.1, rfl, (show f_X3_wholeValue w x0 = w.2.2.2.2.1 from by rw [f_X3_wholeValue, if_neg h1_0, if_pos h1_1]).symm, ht⟩) (fun q hq => absurd hq List.not_mem_nil) dX3_wholeValue_41
    · by_cases h1_2 : x0 = 7
      · refine lv_tableIn (off := 41) (tgt := 42) hx hb dX3_wholeValue_1 (by rw [h1_2]; decide) (by rw [h1_2]; decide) (by rw [h1_2]; rfl) (by decide) ?_
        refine lv_aload_n hx hb dX3_wholeValue_42 rfl (lv_at hl 0 rfl) ?_
        refine va_get (D := D) (ci := 1) (v := .int w.2.2.2.2.2.1) (C := RX3) (T := TX3) (N := 13) hx hb hts inX3 hown hK0.1 hP 0 rfl rfl 10 (by decide) (hts (.fieldLink RX3 67 "PivotChamber$Power" "allSwings" "I") (List.mem_of_getElem? (i := 3) rfl)) (fun _ h9 => h9) rfl dX3_wholeValue_43 ?_
        exact W.iret hx hb hr (fun t ht hW => ⟨w.2.2.2.2.2.1, rfl, (show f_X3_wholeValue w x0 = w.2.2.2.2.2.1 from by rw [f_X3_wholeValue, if_neg h1_0, if_neg h1_1, if_pos h1_2]).symm, ht⟩) (fun q hq => absurd hq List.not_mem_nil) dX3_wholeValue_46
      · by_cases h1_3 : x0 = 8
        · refine lv_tableIn (off := 46) (tgt := 47) hx hb dX3_wholeValue_1 (by rw [h1_3]; decide) (by rw [h1_3]; decide) (by rw [h1_3]; rfl) (by decide) ?_
          refine lv_aload_n hx hb dX3_wholeValue_47 rfl (lv_at hl 0 rfl) ?_
          refine rd_goi (va_runV (C := RX3) (As := []) (rest := []) S (c_X3_dummies l D cy g B a w) (cwV 0 hts gX3_wholeValue_X3_dummies rfl rfl rfl hd_X3_dummies_V ⟨Nat.le_of_ble_eq_true rfl, Nat.le_of_ble_eq_true rfl⟩) ⟨rdP_blind, va_recv hK0.1 hP (ci := 1) (q0 := 0) rfl rfl, my_preP hK0 hS hAB hP⟩ rfl rfl hl.1 rfl (lv_room (Nat.le_of_ble_eq_true rfl)) dX3_wholeValue_48 ⟨Nat.zero_le _, Nat.zero_le _⟩) ?_
          exact W.iret hx hb hr (fun t ht hW => ⟨(f_X3_dummies w), rfl, (show f_X3_wholeValue w x0 = (f_X3_dummies w) from by rw [f_X3_wholeValue, if_neg h1_0, if_neg h1_1, if_neg h1_2, if_pos h1_3]).symm, ht⟩) (fun q hq => absurd hq List.not_mem_nil) dX3_wholeValue_51
        · refine lv_tableOut (tgt := 52) hx hb dX3_wholeValue_1 (by have t5 : x0.toInt ≠ 5 := my_ne h1_0 rfl; have t6 : x0.toInt ≠ 6 := my_ne h1_1 rfl; have t7 : x0.toInt ≠ 7 := my_ne h1_2 rfl; have t8 : x0.toInt ≠ 8 := my_ne h1_3 rfl; omega) (by decide) ?_
          refine lv_aload_n hx hb dX3_wholeValue_52 rfl (lv_at hl 0 rfl) ?_
          refine rd_goi (va_runV (C := RX3) (As := []) (rest := []) S (c_X3_needed l D cy g B a w) (cwV 0 hts gX3_wholeValue_X3_needed rfl rfl rfl hd_X3_needed_V ⟨Nat.le_of_ble_eq_true rfl, Nat.le_of_ble_eq_true rfl⟩) ⟨rdP_blind, va_recv hK0.1 hP (ci := 1) (q0 := 0) rfl rfl, my_preP hK0 hS hAB hP⟩ rfl rfl hl.1 rfl (lv_room (Nat.le_of_ble_eq_true rfl)) dX3_wholeValue_53 ⟨Nat.zero_le _, Nat.zero_le _⟩) ?_
          exact W.iret hx hb hr (fun t ht hW => ⟨(f_X3_needed w), rfl, (show f_X3_wholeValue w x0 = (f_X3_needed w) from by rw [f_X3_wholeValue, if_neg h1_0, if_neg h1_1, if_neg h1_2, if_neg h1_3]).symm, ht⟩) (fun q hq => absurd hq List.not_mem_nil) dX3_wholeValue_56
