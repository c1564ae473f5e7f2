theorem hd_X6_hasMember_S : yX6_hasMember.cls ≠ "java/lang/invoke/MethodHandle" ∧ yX6_hasMember.cls ≠ "java/lang/invoke/VarHandle" ∧ (parseMethodDescriptor yX6_hasMember.desc).map (fun d => d.parameters.length) = some 1 := by decide +kernel
theorem hd_X6_hasMember_V : yX6_hasMember.cls = RX6 ∧ yX6_hasMember.cls ≠ "java/lang/invoke/MethodHandle" ∧ yX6_hasMember.cls ≠ "java/lang/invoke/VarHandle" ∧ (parseMethodDescriptor yX6_hasMember.desc).map (fun d => d.parameters.length) = some 1 := ⟨rfl, hd_X6_hasMember_S⟩
def f_X6_hasMember (v : SetV) (x0 : Int32) : Int32 := (if x0 < 0 then 0 else (if v.1 ≤ x0 then 0 else 1))
theorem z_X6_hasMember (v : SetV) (x0 : Int32) : f_X6_hasMember v x0 = 0 ∨ f_X6_hasMember v x0 = 1 := by
  unfold f_X6_hasMember
  repeat' split
  all_goals first | exact Or.inl rfl | exact Or.inr rfl
set_option maxHeartbeats 400000 in
set_option maxRecDepth 100000 in
theorem c_X6_hasMember (l : Launch) (D : va_G) (cy : Nat → ClassId) (g : Nat → Nat) (B : Nat) (a : Nat → Nat) (v : SetV) (x0 : Int32) : Met l yX6_hasMember wsX6_hasMember ({ frames := 0, cells := 0, slots := 0, locals := 0 }) (rdP D cy g B (wSet cy a v) [.ref (a 0), .int x0]) (vp_Si (fun r => r = f_X6_hasMember v x0)) 0 0 (fun _ => False) := by
  refine Met.ofW (cc := cX6_hasMember) (maxL := 2) (ret := (some .boolean)) (by decide) rfl ?_
  intro p e s m args below meth c s₁ BB hml hv
  obtain ⟨rfl, hP, hK0⟩ := hv
  have hx := BB.exec
  have hb := BB.bytes
  have hr := BB.returns
  have hts := atoms_spec (ws := wsX6_hasMember) BB.pre
  have hown : s.vm.findClass RX6 = some m.cls := findClass_of_methodNamed BB.named
  have hlocks := BB.notSynchronized
  have S := my_fix hx hb hml hown hts
  have inX6 : ∀ w ∈ wsX60, w ∈ wsX6_hasMember := fun w h => List.mem_cons_of_mem _ (List.mem_append_right _ h)
  have hS : va_S (fun q => B ≤ q) s.heap s.heap [] := va_S.rf
  have hAB : ∀ q : Nat, (fun q => B ≤ q) q → B ≤ q := fun _ h => h
  have hl := lv_entry ([.ref (a 0), .int x0]) (n := 2) (Nat.le_of_ble_eq_true rfl)
  rw [lg_entry_eq]
  generalize (lg_sl ([.ref (a 0), .int x0]) ++ List.replicate (2 - (lg_sl ([.ref (a 0), .int x0])).length) Slot.unset).toArray = ls at hl ⊢
  have hl : lv_has ls 2 [(0, .ref (a 0)), (1, .int x0)] := hl
  refine lv_iload_n hx hb dX6_hasMember_0 rfl (lv_at hl 1 rfl) ?_
  refine lv_if_lt (tgt := 16) hx hb dX6_hasMember_1 (by decide) (fun c_1 => ?_) (fun c_1 => ?_)
  · refine lv_iconst (v := 0) hx hb dX6_hasMember_16 (by decide) ?_
    exact W.zret (ty := .boolean) (v := 0) hx hb hr (my_nz (by decide)) (fun t ht hW => ⟨0, rfl, (show f_X6_hasMember v x0 = 0 from by rw [f_X6_hasMember, if_pos c_1]).symm, ht⟩) (fun q hq => absurd hq List.not_mem_nil) dX6_hasMember_17
  · refine lv_iload_n hx hb dX6_hasMember_4 rfl (lv_at hl 1 rfl) ?_
    refine lv_aload_n hx hb dX6_hasMember_5 rfl (lv_at hl 0 rfl) ?_
    refine va_get (D := D) (ci := 4) (v := .int v.1) (C := RX6) (T := TX6) (N := 7) hx hb hts inX6 hown hK0.1 hP 0 rfl rfl 0 (by decide) (hts (.fieldLink RX6 33 "PivotChamber$Setting" "members" "I") (List.mem_of_getElem? (i := 1) rfl)) (fun _ h9 => h9) rfl dX6_hasMember_6 ?_
    refine lv_icmp_ge (tgt := 16) hx hb dX6_hasMember_9 (by decide) (fun c_2 => ?_) (fun c_2 => ?_)
    · refine lv_iconst (v := 0) hx hb dX6_hasMember_16 (by decide) ?_
      exact W.zret (ty := .boolean) (v := 0) hx hb hr (my_nz (by decide)) (fun t ht hW => ⟨0, rfl, (show f_X6_hasMember v x0 = 0 from by rw [f_X6_hasMember, if_neg c_1, if_pos c_2]).symm, ht⟩) (fun q hq => absurd hq List.not_mem_nil) dX6_hasMember_17
    · refine lv_iconst (v := 1) hx hb dX6_hasMember_12 (by decide) ?_
      refine lv_goto (tgt := 17) hx hb dX6_hasMember_13 (by decide) ?_
      exact W.zret (ty := .boolean) (v := 1) hx hb hr (my_nz (by decide)) (fun t ht hW => ⟨1, rfl, (show f_X6_hasMember v x0 = 1 from by rw [f_X6_hasMember, if_neg c_1, if_neg c_2]).symm, ht⟩) (fun q hq => absurd hq List.not_mem_nil) dX6_hasMember_17
theorem hd_X6_isPlayer_S : yX6_isPlayer.cls ≠ "java/lang/invoke/MethodHandle" ∧ yX6_isPlayer.cls ≠ "java/lang/invoke/VarHandle" ∧ (parseMethodDescriptor yX6_isPlayer.desc).map (fun d => d.parameters.length) = some 1 := by decide +kernel
theorem hd_X6_isPlayer_V : yX6_isPlayer.cls = RX6 ∧ yX6_isPlayer.cls ≠ "java/lang/invoke/MethodHandle" ∧ yX6_isPlayer.cls ≠ "java/lang/invoke/VarHandle" ∧ (parseMethodDescriptor yX6_isPlayer.desc).map (fun d => d.parameters.length) = some 1 := ⟨rfl, hd_X6_isPlayer_S⟩
def f_X6_isPlayer (v : SetV) (x0 : Int32) : Int32 := (if (f_X6_hasMember v x0) = 0 then 0 else (if (rAt 8 v.2.2.2.2.1 x0) = (-1) then 1 else 0))
theorem z_X6_isPlayer (v : SetV) (x0 : Int32) : f_X6_isPlayer v x0 = 0 ∨ f_X6_isPlayer v x0 = 1 := by
  unfold f_X6_isPlayer
  repeat' split
  all_goals first | exact Or.inl rfl | exact Or.inr rfl | exact z_X6_hasMember _ _
set_option maxHeartbeats 400000 in
set_option maxRecDepth 100000 in
theorem c_X6_isPlayer (l : Launch) (D : va_G) (cy : Nat → ClassId) (g : Nat → Nat) (B : Nat) (a : Nat → Nat) (v : SetV) (x0 : Int32) : Met l yX6_isPlayer wsX6_isPlayer ({ frames := 1, cells := 0, slots := 0, locals := 21 }) (rdP D cy g B (wSet cy a v) [.ref (a 0), .int x0]) (vp_Si (fun r => r = f_X6_isPlayer v x0)) 0 0 (fun _ => False) := by
  refine Met.ofW (cc := cX6_isPlayer) (maxL := 2) (ret := (some .boolean)) (by decide) rfl ?_
  intro p e s m args below meth c s₁ BB hml hv
  obtain ⟨rfl, hP, hK0⟩ := hv
  have hx := BB.exec
  have hb := BB.bytes
  have hr := BB.returns
  have hts := atoms_spec (ws := wsX6_isPlayer) BB.pre
  have hown : s.vm.findClass RX6 = some m.cls := findClass_of_methodNamed BB.named
  have hlocks := BB.notSynchronized
  have S := my_fix hx hb hml hown hts
  have inX6 : ∀ w ∈ wsX60, w ∈ wsX6_isPlayer := fun w h => List.mem_cons_of_mem _ (List.mem_append_left _ (List.mem_append_right _ h))
  have hS : va_S (fun q => B ≤ q) s.heap s.heap [] := va_S.rf
  have hAB : ∀ q : Nat, (fun q => B ≤ q) q → B ≤ q := fun _ h => h
  have hl := lv_entry ([.ref (a 0), .int x0]) (n := 2) (Nat.le_of_ble_eq_true rfl)
  rw [lg_entry_eq]
  generalize (lg_sl ([.ref (a 0), .int x0]) ++ List.replicate (2 - (lg_sl ([.ref (a 0), .int x0])).length) Slot.unset).toArray = ls at hl ⊢
  have hl : lv_has ls 2 [(0, .ref (a 0)), (1, .int x0)] := hl
  refine lv_aload_n hx hb dX6_isPlayer_0 rfl (lv_at hl 0 rfl) ?_
  refine lv_iload_n hx hb dX6_isPlayer_1 rfl (lv_at hl 1 rfl) ?_
  refine rd_goi (va_runV (C := RX6) (As := [.int x0]) (rest := []) S (c_X6_hasMember l D cy g B a v x0) (cwV 1 hts gX6_isPlayer_X6_hasMember rfl rfl rfl hd_X6_hasMember_V ⟨Nat.le_of_ble_eq_true rfl, Nat.le_of_ble_eq_true rfl⟩) ⟨rdP_blind, va_recv hK0.1 hP (ci := 4) (q0 := 0) rfl rfl, my_preP hK0 hS hAB hP⟩ rfl rfl hl.1 rfl (lv_room (Nat.le_of_ble_eq_true rfl)) dX6_isPlayer_2 ⟨Nat.zero_le _, Nat.zero_le _⟩) ?_
  refine lv_if_eq (tgt := 24) hx hb dX6_isPlayer_5 (by decide) (fun c_1 => ?_) (fun c_1 => ?_)
  · refine lv_iconst (v := 0) hx hb dX6_isPlayer_24 (by decide) ?_
    exact W.zret (ty := .boolean) (v := 0) hx hb hr (my_nz (by decide)) (fun t ht hW => ⟨0, rfl, (show f_X6_isPlayer v x0 = 0 from by rw [f_X6_isPlayer, if_pos c_1]).symm, ht⟩) (fun q hq => absurd hq List.not_mem_nil) dX6_isPlayer_25
  · refine lv_aload_n hx hb dX6_isPlayer_8 rfl (lv_at hl 0 rfl) ?_
    refine va_get (D := D) (ci := 4) (v := .ref (a 3)) (C := RX6) (T := TX6) (N := 7) hx hb hts inX6 hown hK0.1 hP 0 rfl rfl 2 (by decide) (hts (.fieldLink RX6 20 "PivotChamber$Setting" "leaders" "LPivotChamber$Row;") (List.mem_of_getElem? (i := 1) rfl)) (fun _ h9 => h9) rfl dX6_isPlayer_9 ?_
    refine lv_iload_n hx hb dX6_isPlayer_12 rfl (lv_at hl 1 rfl) ?_
    refine rd_goi (va_runV (C := RX4) (As := [.int x0]) (rest := []) S (c_X4_at l D cy g B (a 3) (a 4) 8 v.2.2.2.2.1 x0 (by decide)) (cwV 1 hts gX6_isPlayer_X4_at rfl rfl rfl hd_X4_at_V ⟨Nat.le_of_ble_eq_true rfl, Nat.le_of_ble_eq_true rfl⟩) ⟨rdP_blind, va_recv hK0.1 hP (ci := 2) (q0 := 3) rfl rfl, my_preV hK0 hS hAB hP [3, 4] rfl⟩ rfl rfl hl.1 rfl (lv_room (Nat.le_of_ble_eq_true rfl)) dX6_isPlayer_13 ⟨Nat.zero_le _, Nat.zero_le _⟩) ?_
    refine lv_iconst (v := (-1)) hx hb dX6_isPlayer_16 (by decide) ?_
    refine lv_icmp_ne (tgt := 24) hx hb dX6_isPlayer_17 (by decide) (fun c_2 => ?_) (fun c_2 => ?_)
    · refine lv_iconst (v := 0) hx hb dX6_isPlayer_24 (by decide) ?_
      exact W.zret (ty := .boolean) (v := 0) hx hb hr (my_nz (by decide)) (fun t ht hW => ⟨0, rfl, (show f_X6_isPlayer v x0 = 0 from by rw [f_X6_isPlayer, if_neg c_1, if_neg c_2]).symm, ht⟩) (fun q hq => absurd hq List.not_mem_nil) dX6_isPlayer_25
    · refine lv_iconst (v := 1) hx hb dX6_isPlayer_20 (by decide) ?_
      refine lv_goto (tgt := 25) hx hb dX6_isPlayer_21 (by decide) ?_
      exact W.zret (ty := .boolean) (v := 1) hx hb hr (my_nz (by decide)) (fun t ht hW => ⟨1, rfl, (show f_X6_isPlayer v x0 = 1 from by rw [f_X6_isPlayer, if_neg c_1, if_pos c_2]).symm, ht⟩) (fun q hq => absurd hq List.not_mem_nil) dX6_isPlayer_25
theorem hd_X6_everybody_S : yX6_everybody.cls ≠ "java/lang/invoke/MethodHandle" ∧ yX6_everybody.cls ≠ "java/lang/invoke/VarHandle" ∧ (parseMethodDescriptor yX6_everybody.desc).map (fun d => d.parameters.length) = some 0 := by decide +kernel
theorem hd_X6_everybody_V : yX6_everybody.cls = RX6 ∧ yX6_everybody.cls ≠ "java/lang/invoke/MethodHandle" ∧ yX6_everybody.cls ≠ "java/lang/invoke/VarHandle" ∧ (parseMethodDescriptor yX6_everybody.desc).map (fun d => d.parameters.length) = some 0 := ⟨rfl, hd_X6_everybody_S⟩
def f_X6_everybody (v : SetV) : Int32 := ((1 <<< (v.1 &&& 31)) - 1)
set_option maxHeartbeats 400000 in
set_option maxRecDepth 100000 in
theorem c_X6_everybody (l : Launch) (D : va_G) (cy : Nat → ClassId) (g : Nat → Nat) (B : Nat) (a : Nat → Nat) (v : SetV) : Met l yX6_everybody wsX6_everybody ({ frames := 0, cells := 0, slots := 0, locals := 0 }) (rdP D cy g B (wSet cy a v) [.ref (a 0)]) (vp_Si (fun r => r = f_X6_everybody v)) 0 0 (fun _ => False) := by
  refine Met.ofW (cc := cX6_everybody) (maxL := 1) (ret := (some .int)) (by decide) rfl ?_
  intro p e s m args below meth c s₁ BB hml hv
  obtain ⟨rfl, hP, hK0⟩ := hv
  have hx := BB.exec
  have hb := BB.bytes
  have hr := BB.returns
  have hts := atoms_spec (ws := wsX6_everybody) BB.pre
  have hown : s.vm.findClass RX6 = some m.cls := findClass_of_methodNamed BB.named
  have hlocks := BB.notSynchronized
  have S := my_fix hx hb hml hown hts
  have inX6 : ∀ w ∈ wsX60, w ∈ wsX6_everybody := fun w h => List.mem_cons_of_mem _ (List.mem_append_right _ h)
  have hS : va_S (fun q => B ≤ q) s.heap s.heap [] := va_S.rf
  have hAB : ∀ q : Nat, (fun q => B ≤ q) q → B ≤ q := fun _ h => h
  have hl := lv_entry ([.ref (a 0)]) (n := 1) (Nat.le_of_ble_eq_true rfl)
  rw [lg_entry_eq]
  generalize (lg_sl ([.ref (a 0)]) ++ List.replicate (1 - (lg_sl ([.ref (a 0)])).length) Slot.unset).toArray = ls at hl ⊢
  have hl : lv_has ls 1 [(0, .ref (a 0))] := hl
  refine lv_iconst (v := 1) hx hb dX6_everybody_0 (by decide) ?_
  refine lv_aload_n hx hb dX6_everybody_1 rfl (lv_at hl 0 rfl) ?_
  refine va_get (D := D) (ci := 4) (v := .int v.1) (C := RX6) (T := TX6) (N := 7) hx hb hts inX6 hown hK0.1 hP 0 rfl rfl 0 (by decide) (hts (.fieldLink RX6 33 "PivotChamber$Setting" "members" "I") (List.mem_of_getElem? (i := 1) rfl)) (fun _ h9 => h9) rfl dX6_everybody_2 ?_
  refine lv_ishl hx hb dX6_everybody_5 ?_
  refine lv_iconst (v := 1) hx hb dX6_everybody_6 (by decide) ?_
  refine lv_isub hx hb dX6_everybody_7 ?_
  exact W.iret hx hb hr (fun t ht hW => ⟨((1 <<< (v.1 &&& 31)) - 1), rfl, (show f_X6_everybody v = ((1 <<< (v.1 &&& 31)) - 1) from by rw [f_X6_everybody]).symm, ht⟩) (fun q hq => absurd hq List.not_mem_nil) dX6_everybody_8
theorem hd_X6_players_S : yX6_players.cls ≠ "java/lang/invoke/MethodHandle" ∧ yX6_players.cls ≠ "java/lang/invoke/VarHandle" ∧ (parseMethodDescriptor yX6_players.desc).map (fun d => d.parameters.length) = some 0 := by decide +kernel
theorem hd_X6_players_V : yX6_players.cls = RX6 ∧ yX6_players.cls ≠ "java/lang/invoke/MethodHandle" ∧ yX6_players.cls ≠ "java/lang/invoke/VarHandle" ∧ (parseMethodDescriptor yX6_players.desc).map (fun d => d.parameters.length) = some 0 := ⟨rfl, hd_X6_players_S⟩
def f_X6_players_st (v : SetV) (i1_1 : Int32) (i2_2 : Int32) : (Int32 × Int32) ⊕ (Int32 × Int32) := (if v.1 ≤ i2_2 then (.inr (i1_1, i2_2)) else (if (f_X6_isPlayer v i2_2) = 0 then (.inl (i1_1, (i2_2 + 1))) else (.inl ((i1_1 ||| (1 <<< (i2_2 &&& 31))), (i2_2 + 1)))))
def f_X6_players (v : SetV) : Int32 := (my_t2 (lp (fun (x : Int32 × Int32) => f_X6_players_st v x.1 x.2) default (((v.1 : Int32).toInt - (0 : Int32).toInt).toNat + 1) (0, 0)) (fun (i1_1 : Int32) (i2_2 : Int32) => i1_1))
set_option maxHeartbeats 400000 in
set_option maxRecDepth 100000 in
theorem c_X6_players (l : Launch) (D : va_G) (cy : Nat → ClassId) (g : Nat → Nat) (B : Nat) (a : Nat → Nat) (v : SetV) : Met l yX6_players wsX6_players ({ frames := 2, cells := 0, slots := 0, locals := 42 }) (rdP D cy g B (wSet cy a v) [.ref (a 0)]) (vp_Si (fun r => r = f_X6_players v)) 0 0 (fun _ => False) := by
  refine Met.ofW (cc := cX6_players) (maxL := 3) (ret := (some .int)) (by decide) rfl ?_
  intro p e s m args below meth c s₁ BB hml hv
  obtain ⟨rfl, hP, hK0⟩ := hv
  have hx := BB.exec
  have hb := BB.bytes
  have hr := BB.returns
  have hts := atoms_spec (ws := wsX6_players) BB.pre
  have hown : s.vm.findClass RX6 = some m.cls := findClass_of_methodNamed BB.named
  have hlocks := BB.notSynchronized
  have S := my_fix hx hb hml hown hts
  have inX6 : ∀ w ∈ wsX60, w ∈ wsX6_players := fun w h => List.mem_cons_of_mem _ (List.mem_append_left _ (List.mem_append_right _ h))
  have hS : va_S (fun q => B ≤ q) s.heap s.heap [] := va_S.rf
  have hAB : ∀ q : Nat, (fun q => B ≤ q) q → B ≤ q := fun _ h => h
  have hl := lv_entry ([.ref (a 0)]) (n := 3) (Nat.le_of_ble_eq_true rfl)
  rw [lg_entry_eq]
  generalize (lg_sl ([.ref (a 0)]) ++ List.replicate (3 - (lg_sl ([.ref (a 0)])).length) Slot.unset).toArray = ls at hl ⊢
  have hl : lv_has ls 3 [(0, .ref (a 0))] := hl
  refine lv_iconst (v := 0) hx hb dX6_players_0 (by decide) ?_
  refine lv_istore_n (lv' := [(1, .int 0), (0, .ref (a 0))]) hx hb dX6_players_1 rfl hl (by decide) rfl (fun ls hl => ?_)
  refine lv_iconst (v := 0) hx hb dX6_players_2 (by decide) ?_
  refine lv_istore_n (lv' := [(2, .int 0), (1, .int 0), (0, .ref (a 0))]) hx hb dX6_players_3 rfl hl (by decide) rfl (fun ls hl => ?_)
  have cont0 : ∀ (i1_1 : Int32) (i2_2 : Int32), lp (fun (x : Int32 × Int32) => f_X6_players_st v x.1 x.2) default (((v.1 : Int32).toInt - (0 : Int32).toInt).toNat + 1) (0, 0) = (i1_1, i2_2) → ∀ ls : Array Slot, lv_has ls 3 [(0, .ref (a 0)), (1, .int i1_1), (2, .int i2_2)] → W p l e (headSpec wsX6_players ({ frames := 2, cells := 0, slots := 0, locals := 42 } : Room)).room s m ([.ref (a 0)] : List Value).toArray below meth c s.heap [] 0 0 (MQ below (vp_Si (fun r => r = f_X6_players v)) ([.ref (a 0)] : List Value).toArray s 0 0 (fun _ => False)) (F0 m 32 ls []) := by
    intro i1_1 i2_2 hE0 ls hl
    refine lv_iload_n hx hb dX6_players_32 rfl (lv_at hl 1 rfl) ?_
    exact W.iret hx hb hr (fun t ht hW => ⟨i1_1, rfl, (show f_X6_players v = i1_1 from by rw [f_X6_players, hE0, my_t2_eq]).symm, ht⟩) (fun q hq => absurd hq List.not_mem_nil) dX6_players_33
  have key : ∀ (nf : Nat) (i1_1 : Int32) (i2_2 : Int32), ((v.1 : Int32).toInt - (i2_2 : Int32).toInt).toNat < nf → lp (fun (x : Int32 × Int32) => f_X6_players_st v x.1 x.2) default nf (i1_1, i2_2) = lp (fun (x : Int32 × Int32) => f_X6_players_st v x.1 x.2) default (((v.1 : Int32).toInt - (0 : Int32).toInt).toNat + 1) (0, 0) → ∀ ls : Array Slot, lv_has ls 3 [(0, .ref (a 0)), (1, .int i1_1), (2, .int i2_2)] → W p l e (headSpec wsX6_players ({ frames := 2, cells := 0, slots := 0, locals := 42 } : Room)).room s m ([.ref (a 0)] : List Value).toArray below meth c s.heap [] 0 0 (MQ below (vp_Si (fun r => r = f_X6_players v)) ([.ref (a 0)] : List Value).toArray s 0 0 (fun _ => False)) (F0 m 4 ls []) := by
    intro n0
    induction n0 with
    | zero => intro i1_1 i2_2 hlt; exact absurd hlt (Nat.not_lt_zero _)
    | succ n0 ih0 =>
      intro i1_1 i2_2 hlt0 hF0 ls hl
      refine lv_iload_n hx hb dX6_players_4 rfl (lv_at hl 2 rfl) ?_
      refine lv_aload_n hx hb dX6_players_5 rfl (lv_at hl 0 rfl) ?_
      refine va_get (D := D) (ci := 4) (v := .int v.1) (C := RX6) (T := TX6) (N := 7) hx hb hts inX6 hown hK0.1 hP 0 rfl rfl 0 (by decide) (hts (.fieldLink RX6 33 "PivotChamber$Setting" "members" "I") (List.mem_of_getElem? (i := 1) rfl)) (fun _ h9 => h9) rfl dX6_players_6 ?_
      refine lv_icmp_ge (tgt := 32) hx hb dX6_players_9 (by decide) (fun c_3 => ?_) (fun c_3 => ?_)
      · have hst : f_X6_players_st v i1_1 i2_2 = .inr (i1_1, i2_2) := by rw [f_X6_players_st, if_pos c_3]
        exact cont0 i1_1 i2_2 (lp_inr hst hF0) _ (lv_sub hl [0, 1, 2] rfl)
      · refine lv_aload_n hx hb dX6_players_12 rfl (lv_at hl 0 rfl) ?_
        refine lv_iload_n hx hb dX6_players_13 rfl (lv_at hl 2 rfl) ?_
        refine rd_goi (va_runV (C := RX6) (As := [.int i2_2]) (rest := []) S (c_X6_isPlayer l D cy g B a v i2_2) (cwV 1 hts gX6_players_X6_isPlayer rfl rfl rfl hd_X6_isPlayer_V ⟨Nat.le_of_ble_eq_true rfl, Nat.le_of_ble_eq_true rfl⟩) ⟨rdP_blind, va_recv hK0.1 hP (ci := 4) (q0 := 0) rfl rfl, my_preP hK0 hS hAB hP⟩ rfl rfl hl.1 rfl (lv_room (Nat.le_of_ble_eq_true rfl)) dX6_players_14 ⟨Nat.zero_le _, Nat.zero_le _⟩) ?_
        refine lv_if_eq (tgt := 26) hx hb dX6_players_17 (by decide) (fun c_4 => ?_) (fun c_4 => ?_)
        · refine lv_iinc (v := (i2_2 + 1)) (lv' := [(2, .int (i2_2 + 1)), (0, .ref (a 0)), (1, .int i1_1)]) hx hb dX6_players_26 hl (k := 2) rfl rfl (by decide) rfl (fun ls hl => ?_)
          refine lv_goto (tgt := 4) hx hb dX6_players_29 (by decide) ?_
          have hst : f_X6_players_st v i1_1 i2_2 = .inl (i1_1, (i2_2 + 1)) := by rw [f_X6_players_st, if_neg c_3, if_pos c_4]
          have hmu : ((v.1 : Int32).toInt - ((i2_2 + 1) : Int32).toInt).toNat < ((v.1 : Int32).toInt - (i2_2 : Int32).toInt).toNat := mu_up c_3
          exact ih0 i1_1 (i2_2 + 1) (Nat.lt_of_lt_of_le hmu (Nat.le_of_lt_succ hlt0)) (lp_inl hst hF0) _ (lv_sub hl [1, 2, 0] rfl)
        · refine lv_iload_n hx hb dX6_players_20 rfl (lv_at hl 1 rfl) ?_
          refine lv_iconst (v := 1) hx hb dX6_players_21 (by decide) ?_
          refine lv_iload_n hx hb dX6_players_22 rfl (lv_at hl 2 rfl) ?_
          refine lv_ishl hx hb dX6_players_23 ?_
          refine lv_ior hx hb dX6_players_24 ?_
          refine lv_istore_n (lv' := [(1, .int (i1_1 ||| (1 <<< (i2_2 &&& 31)))), (0, .ref (a 0)), (2, .int i2_2)]) hx hb dX6_players_25 rfl hl (by decide) rfl (fun ls hl => ?_)
          refine lv_iinc (v := (i2_2 + 1)) (lv' := [(2, .int (i2_2 + 1)), (1, .int (i1_1 ||| (1 <<< (i2_2 &&& 31)))), (0, .ref (a 0))]) hx hb dX6_players_26 hl (k := 2) rfl rfl (by decide) rfl (fun ls hl => ?_)
          refine lv_goto (tgt := 4) hx hb dX6_players_29 (by decide) ?_
          have hst : f_X6_players_st v i1_1 i2_2 = .inl ((i1_1 ||| (1 <<< (i2_2 &&& 31))), (i2_2 + 1)) := by rw [f_X6_players_st, if_neg c_3, if_neg c_4]
          have hmu : ((v.1 : Int32).toInt - ((i2_2 + 1) : Int32).toInt).toNat < ((v.1 : Int32).toInt - (i2_2 : Int32).toInt).toNat := mu_up c_3
          exact ih0 (i1_1 ||| (1 <<< (i2_2 &&& 31))) (i2_2 + 1) (Nat.lt_of_lt_of_le hmu (Nat.le_of_lt_succ hlt0)) (lp_inl hst hF0) _ (lv_sub hl [2, 1, 0] rfl)
  exact key (((v.1 : Int32).toInt - (0 : Int32).toInt).toNat + 1) 0 0 (Nat.lt_succ_self _) rfl _ (lv_sub hl [2, 1, 0] rfl)
theorem hd_X6_blocOf_S : yX6_blocOf.cls ≠ "java/lang/invoke/MethodHandle" ∧ yX6_blocOf.cls ≠ "java/lang/invoke/VarHandle" ∧ (parseMethodDescriptor yX6_blocOf.desc).map (fun d => d.parameters.length) = some 1 := by decide +kernel
theorem hd_X6_blocOf_V : yX6_blocOf.cls = RX6 ∧ yX6_blocOf.cls ≠ "java/lang/invoke/MethodHandle" ∧ yX6_blocOf.cls ≠ "java/lang/invoke/VarHandle" ∧ (parseMethodDescriptor yX6_blocOf.desc).map (fun d => d.parameters.length) = some 1 := ⟨rfl, hd_X6_blocOf_S⟩
def f_X6_blocOf_st (v : SetV) (x0 : Int32) (i2_2 : Int32) (i3_3 : Int32) : (Int32 × Int32) ⊕ (Int32 × Int32) := (if v.1 ≤ i3_3 then (.inr (i2_2, i3_3)) else (if (rAt 8 v.2.2.2.2.1 i3_3) = x0 then (.inl ((i2_2 ||| (1 <<< (i3_3 &&& 31))), (i3_3 + 1))) else (.inl (i2_2, (i3_3 + 1)))))
def f_X6_blocOf (v : SetV) (x0 : Int32) : Int32 := (if (f_X6_isPlayer v x0) = 0 then 0 else (my_t2 (lp (fun (x : Int32 × Int32) => f_X6_blocOf_st v x0 x.1 x.2) default (((v.1 : Int32).toInt - (0 : Int32).toInt).toNat + 1) ((1 <<< (x0 &&& 31)), 0)) (fun (i2_2 : Int32) (i3_3 : Int32) => i2_2)))
set_option maxHeartbeats 400000 in
set_option maxRecDepth 100000 in
theorem c_X6_blocOf (l : Launch) (D : va_G) (cy : Nat → ClassId) (g : Nat → Nat) (B : Nat) (a : Nat → Nat) (v : SetV) (x0 : Int32) : Met l yX6_blocOf wsX6_blocOf ({ frames := 2, cells := 0, slots := 0, locals := 42 }) (rdP D cy g B (wSet cy a v) [.ref (a 0), .int x0]) (vp_Si (fun r => r = f_X6_blocOf v x0)) 0 0 (fun _ => False) := by
  refine Met.ofW (cc := cX6_blocOf) (maxL := 4) (ret := (some .int)) (by decide) rfl ?_
  intro p e s m args below meth c s₁ BB hml hv
  obtain ⟨rfl, hP, hK0⟩ := hv
  have hx := BB.exec
  have hb := BB.bytes
  have hr := BB.returns
  have hts := atoms_spec (ws := wsX6_blocOf) BB.pre
  have hown : s.vm.findClass RX6 = some m.cls := findClass_of_methodNamed BB.named
  have hlocks := BB.notSynchronized
  have S := my_fix hx hb hml hown hts
  have inX6 : ∀ w ∈ wsX60, w ∈ wsX6_blocOf := fun w h => List.mem_cons_of_mem _ (List.mem_append_left _ (List.mem_append_right _ h))
  have hS : va_S (fun q => B ≤ q) s.heap s.heap [] := va_S.rf
  have hAB : ∀ q : Nat, (fun q => B ≤ q) q → B ≤ q := fun _ h => h
  have hl := lv_entry ([.ref (a 0), .int x0]) (n := 4) (Nat.le_of_ble_eq_true rfl)
  rw [lg_entry_eq]
  generalize (lg_sl ([.ref (a 0), .int x0]) ++ List.replicate (4 - (lg_sl ([.ref (a 0), .int x0])).length) Slot.unset).toArray = ls at hl ⊢
  have hl : lv_has ls 4 [(0, .ref (a 0)), (1, .int x0)] := hl
  refine lv_aload_n hx hb dX6_blocOf_0 rfl (lv_at hl 0 rfl) ?_
  refine lv_iload_n hx hb dX6_blocOf_1 rfl (lv_at hl 1 rfl) ?_
  refine rd_goi (va_runV (C := RX6) (As := [.int x0]) (rest := []) S (c_X6_isPlayer l D cy g B a v x0) (cwV 1 hts gX6_blocOf_X6_isPlayer rfl rfl rfl hd_X6_isPlayer_V ⟨Nat.le_of_ble_eq_true rfl, Nat.le_of_ble_eq_true rfl⟩) ⟨rdP_blind, va_recv hK0.1 hP (ci := 4) (q0 := 0) rfl rfl, my_preP hK0 hS hAB hP⟩ rfl rfl hl.1 rfl (lv_room (Nat.le_of_ble_eq_true rfl)) dX6_blocOf_2 ⟨Nat.zero_le _, Nat.zero_le _⟩) ?_
  refine lv_if_ne (tgt := 10) hx hb dX6_blocOf_5 (by decide) (fun c_1 => ?_) (fun c_1 => ?_)
  · refine lv_iconst (v := 1) hx hb dX6_blocOf_10 (by decide) ?_
    refine lv_iload_n hx hb dX6_blocOf_11 rfl (lv_at hl 1 rfl) ?_
    refine lv_ishl hx hb dX6_blocOf_12 ?_
    refine lv_istore_n (lv' := [(2, .int (1 <<< (x0 &&& 31))), (0, .ref (a 0)), (1, .int x0)]) hx hb dX6_blocOf_13 rfl hl (by decide) rfl (fun ls hl => ?_)
    refine lv_iconst (v := 0) hx hb dX6_blocOf_14 (by decide) ?_
    refine lv_istore_n (lv' := [(3, .int 0), (2, .int (1 <<< (x0 &&& 31))), (0, .ref (a 0)), (1, .int x0)]) hx hb dX6_blocOf_15 rfl hl (by decide) rfl (fun ls hl => ?_)
    have cont0 : ∀ (i2_2 : Int32) (i3_3 : Int32), lp (fun (x : Int32 × Int32) => f_X6_blocOf_st v x0 x.1 x.2) default (((v.1 : Int32).toInt - (0 : Int32).toInt).toNat + 1) ((1 <<< (x0 &&& 31)), 0) = (i2_2, i3_3) → ∀ ls : Array Slot, lv_has ls 4 [(0, .ref (a 0)), (1, .int x0), (2, .int i2_2), (3, .int i3_3)] → W p l e (headSpec wsX6_blocOf ({ frames := 2, cells := 0, slots := 0, locals := 42 } : Room)).room s m ([.ref (a 0), .int x0] : List Value).toArray below meth c s.heap [] 0 0 (MQ below (vp_Si (fun r => r = f_X6_blocOf v x0)) ([.ref (a 0), .int x0] : List Value).toArray s 0 0 (fun _ => False)) (F0 m 48 ls []) := by
      intro i2_2 i3_3 hE0 ls hl
      refine lv_iload_n hx hb dX6_blocOf_48 rfl (lv_at hl 2 rfl) ?_
      exact W.iret hx hb hr (fun t ht hW => ⟨i2_2, rfl, (show f_X6_blocOf v x0 = i2_2 from by rw [f_X6_blocOf, if_neg c_1, hE0, my_t2_eq]).symm, ht⟩) (fun q hq => absurd hq List.not_mem_nil) dX6_blocOf_49
    have key : ∀ (nf : Nat) (i2_2 : Int32) (i3_3 : Int32), ((v.1 : Int32).toInt - (i3_3 : Int32).toInt).toNat < nf → lp (fun (x : Int32 × Int32) => f_X6_blocOf_st v x0 x.1 x.2) default nf (i2_2, i3_3) = lp (fun (x : Int32 × Int32) => f_X6_blocOf_st v x0 x.1 x.2) default (((v.1 : Int32).toInt - (0 : Int32).toInt).toNat + 1) ((1 <<< (x0 &&& 31)), 0) → ∀ ls : Array Slot, lv_has ls 4 [(0, .ref (a 0)), (1, .int x0), (2, .int i2_2), (3, .int i3_3)] → W p l e (headSpec wsX6_blocOf ({ frames := 2, cells := 0, slots := 0, locals := 42 } : Room)).room s m ([.ref (a 0), .int x0] : List Value).toArray below meth c s.heap [] 0 0 (MQ below (vp_Si (fun r => r = f_X6_blocOf v x0)) ([.ref (a 0), .int x0] : List Value).toArray s 0 0 (fun _ => False)) (F0 m 16 ls []) := by
      intro n0
      induction n0 with
      | zero => intro i2_2 i3_3 hlt; exact absurd hlt (Nat.not_lt_zero _)
      | succ n0 ih0 =>
        intro i2_2 i3_3 hlt0 hF0 ls hl
        refine lv_iload_n hx hb dX6_blocOf_16 rfl (lv_at hl 3 rfl) ?_
        refine lv_aload_n hx hb dX6_blocOf_17 rfl (lv_at hl 0 rfl) ?_
        refine va_get (D := D) (ci := 4) (v := .int v.1) (C := RX6) (T := TX6) (N := 7) hx hb hts inX6 hown hK0.1 hP 0 rfl rfl 0 (by decide) (hts (.fieldLink RX6 33 "PivotChamber$Setting" "members" "I") (List.mem_of_getElem? (i := 1) rfl)) (fun _ h9 => h9) rfl dX6_blocOf_18 ?_
        refine lv_icmp_ge (tgt := 48) hx hb dX6_blocOf_21 (by decide) (fun c_4 => ?_) (fun c_4 => ?_)
        · have hst : f_X6_blocOf_st v x0 i2_2 i3_3 = .inr (i2_2, i3_3) := by rw [f_X6_blocOf_st, if_pos c_4]
          exact cont0 i2_2 i3_3 (lp_inr hst hF0) _ (lv_sub hl [0, 1, 2, 3] rfl)
        · refine lv_aload_n hx hb dX6_blocOf_24 rfl (lv_at hl 0 rfl) ?_
          refine va_get (D := D) (ci := 4) (v := .ref (a 3)) (C := RX6) (T := TX6) (N := 7) hx hb hts inX6 hown hK0.1 hP 0 rfl rfl 2 (by decide) (hts (.fieldLink RX6 20 "PivotChamber$Setting" "leaders" "LPivotChamber$Row;") (List.mem_of_getElem? (i := 2) rfl)) (fun _ h9 => h9) rfl dX6_blocOf_25 ?_
          refine lv_iload_n hx hb dX6_blocOf_28 rfl (lv_at hl 3 rfl) ?_
          refine rd_goi (va_runV (C := RX4) (As := [.int i3_3]) (rest := []) S (c_X4_at l D cy g B (a 3) (a 4) 8 v.2.2.2.2.1 i3_3 (by decide)) (cwV 1 hts gX6_blocOf_X4_at rfl rfl rfl hd_X4_at_V ⟨Nat.le_of_ble_eq_true rfl, Nat.le_of_ble_eq_true rfl⟩) ⟨rdP_blind, va_recv hK0.1 hP (ci := 2) (q0 := 3) rfl rfl, my_preV hK0 hS hAB hP [3, 4] rfl⟩ rfl rfl hl.1 rfl (lv_room (Nat.le_of_ble_eq_true rfl)) dX6_blocOf_29 ⟨Nat.zero_le _, Nat.zero_le _⟩) ?_
          refine lv_iload_n hx hb dX6_blocOf_32 rfl (lv_at hl 1 rfl) ?_
          refine lv_icmp_ne (tgt := 42) hx hb dX6_blocOf_33 (by decide) (fun c_5 => ?_) (fun c_5 => ?_)
          · refine lv_iinc (v := (i3_3 + 1)) (lv' := [(3, .int (i3_3 + 1)), (0, .ref (a 0)), (1, .int x0), (2, .int i2_2)]) hx hb dX6_blocOf_42 hl (k := 3) rfl rfl (by decide) rfl (fun ls hl => ?_)
            refine lv_goto (tgt := 16) hx hb dX6_blocOf_45 (by decide) ?_
            have hst : f_X6_blocOf_st v x0 i2_2 i3_3 = .inl (i2_2, (i3_3 + 1)) := by rw [f_X6_blocOf_st, if_neg c_4, if_neg c_5]
            have hmu : ((v.1 : Int32).toInt - ((i3_3 + 1) : Int32).toInt).toNat < ((v.1 : Int32).toInt - (i3_3 : Int32).toInt).toNat := mu_up c_4
            exact ih0 i2_2 (i3_3 + 1) (Nat.lt_of_lt_of_le hmu (Nat.le_of_lt_succ hlt0)) (lp_inl hst hF0) _ (lv_sub hl [1, 2, 3, 0] rfl)
          · refine lv_iload_n hx hb dX6_blocOf_36 rfl (lv_at hl 2 rfl) ?_
            refine lv_iconst (v := 1) hx hb dX6_blocOf_37 (by decide) ?_
            refine lv_iload_n hx hb dX6_blocOf_38 rfl (lv_at hl 3 rfl) ?_
            refine lv_ishl hx hb dX6_blocOf_39 ?_
            refine lv_ior hx hb dX6_blocOf_40 ?_
            refine lv_istore_n (lv' := [(2, .int (i2_2 ||| (1 <<< (i3_3 &&& 31)))), (0, .ref (a 0)), (1, .int x0), (3, .int i3_3)]) hx hb dX6_blocOf_41 rfl hl (by decide) rfl (fun ls hl => ?_)
            refine lv_iinc (v := (i3_3 + 1)) (lv' := [(3, .int (i3_3 + 1)), (2, .int (i2_2 ||| (1 <<< (i3_3 &&& 31)))), (0, .ref (a 0)), (1, .int x0)]) hx hb dX6_blocOf_42 hl (k := 3) rfl rfl (by decide) rfl (fun ls hl => ?_)
            refine lv_goto (tgt := 16) hx hb dX6_blocOf_45 (by decide) ?_
            have hst : f_X6_blocOf_st v x0 i2_2 i3_3 = .inl ((i2_2 ||| (1 <<< (i3_3 &&& 31))), (i3_3 + 1)) := by rw [f_X6_blocOf_st, if_neg c_4, if_pos c_5]
            have hmu : ((v.1 : Int32).toInt - ((i3_3 + 1) : Int32).toInt).toNat < ((v.1 : Int32).toInt - (i3_3 : Int32).toInt).toNat := mu_up c_4
            exact ih0 (i2_2 ||| (1 <<< (i3_3 &&& 31))) (i3_3 + 1) (Nat.lt_of_lt_of_le hmu (Nat.le_of_lt_succ hlt0)) (lp_inl hst hF0) _ (lv_sub hl [2, 3, 1, 0] rfl)
    exact key (((v.1 : Int32).toInt - (0 : Int32).toInt).toNat + 1) (1 <<< (x0 &&& 31)) 0 (Nat.lt_succ_self _) rfl _ (lv_sub hl [2, 3, 1, 0] rfl)
  · refine lv_iconst (v := 0) hx hb dX6_blocOf_8 (by decide) ?_
    exact W.iret hx hb hr (fun t ht hW => ⟨0, rfl, (show f_X6_blocOf v x0 = 0 from by rw [f_X6_blocOf, if_pos c_1]).symm, ht⟩) (fun q hq => absurd hq List.not_mem_nil) dX6_blocOf_9
theorem hd_X6_weightOf_S : yX6_weightOf.cls ≠ "java/lang/invoke/MethodHandle" ∧ yX6_weightOf.cls ≠ "java/lang/invoke/VarHandle" ∧ (parseMethodDescriptor yX6_weightOf.desc).map (fun d => d.parameters.length) = some 1 := by decide +kernel
theorem hd_X6_weightOf_V : yX6_weightOf.cls = RX6 ∧ yX6_weightOf.cls ≠ "java/lang/invoke/MethodHandle" ∧ yX6_weightOf.cls ≠ "java/lang/invoke/VarHandle" ∧ (parseMethodDescriptor yX6_weightOf.desc).map (fun d => d.parameters.length) = some 1 := ⟨rfl, hd_X6_weightOf_S⟩
def f_X6_weightOf_st (v : SetV) (x0 : Int32) (i2_1 : Int32) (i3_2 : Int32) : (Int32 × Int32) ⊕ (Int32 × Int32) := (if v.1 ≤ i3_2 then (.inr (i2_1, i3_2)) else (if (f_X7_contains x0 i3_2) = 0 then (.inl (i2_1, (i3_2 + 1))) else (.inl ((i2_1 + (rAt 8 v.2.2.2.1 i3_2)), (i3_2 + 1)))))
def f_X6_weightOf (v : SetV) (x0 : Int32) : Int32 := (my_t2 (lp (fun (x : Int32 × Int32) => f_X6_weightOf_st v x0 x.1 x.2) default (((v.1 : Int32).toInt - (0 : Int32).toInt).toNat + 1) (0, 0)) (fun (i2_1 : Int32) (i3_2 : Int32) => i2_1))
set_option maxHeartbeats 400000 in
set_option maxRecDepth 100000 in
theorem c_X6_weightOf (l : Launch) (D : va_G) (cy : Nat → ClassId) (g : Nat → Nat) (B : Nat) (a : Nat → Nat) (v : SetV) (x0 : Int32) : Met l yX6_weightOf wsX6_weightOf ({ frames := 1, cells := 0, slots := 0, locals := 21 }) (rdP D cy g B (wSet cy a v) [.ref (a 0), .int x0]) (vp_Si (fun r => r = f_X6_weightOf v x0)) 0 0 (fun _ => False) := by
  refine Met.ofW (cc := cX6_weightOf) (maxL := 4) (ret := (some .int)) (by decide) rfl ?_
  intro p e s m args below meth c s₁ BB hml hv
  obtain ⟨rfl, hP, hK0⟩ := hv
  have hx := BB.exec
  have hb := BB.bytes
  have hr := BB.returns
  have hts := atoms_spec (ws := wsX6_weightOf) BB.pre
  have hown : s.vm.findClass RX6 = some m.cls := findClass_of_methodNamed BB.named
  have hlocks := BB.notSynchronized
  have S := my_fix hx hb hml hown hts
  have inX6 : ∀ w ∈ wsX60, w ∈ wsX6_weightOf := fun w h => List.mem_cons_of_mem _ (List.mem_append_left _ (List.mem_append_right _ h))
  have hS : va_S (fun q => B ≤ q) s.heap s.heap [] := va_S.rf
  have hAB : ∀ q : Nat, (fun q => B ≤ q) q → B ≤ q := fun _ h => h
  have hl := lv_entry ([.ref (a 0), .int x0]) (n := 4) (Nat.le_of_ble_eq_true rfl)
  rw [lg_entry_eq]
  generalize (lg_sl ([.ref (a 0), .int x0]) ++ List.replicate (4 - (lg_sl ([.ref (a 0), .int x0])).length) Slot.unset).toArray = ls at hl ⊢
  have hl : lv_has ls 4 [(0, .ref (a 0)), (1, .int x0)] := hl
  refine lv_iconst (v := 0) hx hb dX6_weightOf_0 (by decide) ?_
  refine lv_istore_n (lv' := [(2, .int 0), (0, .ref (a 0)), (1, .int x0)]) hx hb dX6_weightOf_1 rfl hl (by decide) rfl (fun ls hl => ?_)
  refine lv_iconst (v := 0) hx hb dX6_weightOf_2 (by decide) ?_
  refine lv_istore_n (lv' := [(3, .int 0), (2, .int 0), (0, .ref (a 0)), (1, .int x0)]) hx hb dX6_weightOf_3 rfl hl (by decide) rfl (fun ls hl => ?_)
  have cont0 : ∀ (i2_1 : Int32) (i3_2 : Int32), lp (fun (x : Int32 × Int32) => f_X6_weightOf_st v x0 x.1 x.2) default (((v.1 : Int32).toInt - (0 : Int32).toInt).toNat + 1) (0, 0) = (i2_1, i3_2) → ∀ ls : Array Slot, lv_has ls 4 [(0, .ref (a 0)), (1, .int x0), (2, .int i2_1), (3, .int i3_2)] → W p l e (headSpec wsX6_weightOf ({ frames := 1, cells := 0, slots := 0, locals := 21 } : Room)).room s m ([.ref (a 0), .int x0] : List Value).toArray below meth c s.heap [] 0 0 (MQ below (vp_Si (fun r => r = f_X6_weightOf v x0)) ([.ref (a 0), .int x0] : List Value).toArray s 0 0 (fun _ => False)) (F0 m 37 ls []) := by
    intro i2_1 i3_2 hE0 ls hl
    refine lv_iload_n hx hb dX6_weightOf_37 rfl (lv_at hl 2 rfl) ?_
    exact W.iret hx hb hr (fun t ht hW => ⟨i2_1, rfl, (show f_X6_weightOf v x0 = i2_1 from by rw [f_X6_weightOf, hE0, my_t2_eq]).symm, ht⟩) (fun q hq => absurd hq List.not_mem_nil) dX6_weightOf_38
  have key : ∀ (nf : Nat) (i2_1 : Int32) (i3_2 : Int32), ((v.1 : Int32).toInt - (i3_2 : Int32).toInt).toNat < nf → lp (fun (x : Int32 × Int32) => f_X6_weightOf_st v x0 x.1 x.2) default nf (i2_1, i3_2) = lp (fun (x : Int32 × Int32) => f_X6_weightOf_st v x0 x.1 x.2) default (((v.1 : Int32).toInt - (0 : Int32).toInt).toNat + 1) (0, 0) → ∀ ls : Array Slot, lv_has ls 4 [(0, .ref (a 0)), (1, .int x0), (2, .int i2_1), (3, .int i3_2)] → W p l e (headSpec wsX6_weightOf ({ frames := 1, cells := 0, slots := 0, locals := 21 } : Room)).room s m ([.ref (a 0), .int x0] : List Value).toArray below meth c s.heap [] 0 0 (MQ below (vp_Si (fun r => r = f_X6_weightOf v x0)) ([.ref (a 0), .int x0] : List Value).toArray s 0 0 (fun _ => False)) (F0 m 4 ls []) := by
    intro n0
    induction n0 with
    | zero => intro i2_1 i3_2 hlt; exact absurd hlt (Nat.not_lt_zero _)
    | succ n0 ih0 =>
      intro i2_1 i3_2 hlt0 hF0 ls hl
      refine lv_iload_n hx hb dX6_weightOf_4 rfl (lv_at hl 3 rfl) ?_
      refine lv_aload_n hx hb dX6_weightOf_5 rfl (lv_at hl 0 rfl) ?_
      refine va_get (D := D) (ci := 4) (v := .int v.1) (C := RX6) (T := TX6) (N := 7) hx hb hts inX6 hown hK0.1 hP 0 rfl rfl 0 (by decide) (hts (.fieldLink RX6 33 "PivotChamber$Setting" "members" "I") (List.mem_of_getElem? (i := 1) rfl)) (fun _ h9 => h9) rfl dX6_weightOf_6 ?_
      refine lv_icmp_ge (tgt := 37) hx hb dX6_weightOf_9 (by decide) (fun c_3 => ?_) (fun c_3 => ?_)
      · have hst : f_X6_weightOf_st v x0 i2_1 i3_2 = .inr (i2_1, i3_2) := by rw [f_X6_weightOf_st, if_pos c_3]
        exact cont0 i2_1 i3_2 (lp_inr hst hF0) _ (lv_sub hl [0, 1, 2, 3] rfl)
      · refine lv_iload_n hx hb dX6_weightOf_12 rfl (lv_at hl 1 rfl) ?_
        refine lv_iload_n hx hb dX6_weightOf_13 rfl (lv_at hl 3 rfl) ?_
        refine rd_goi (va_runSN (As := [.int x0, .int i3_2]) (rest := []) S (c_X7_contains l D cy g B x0 i3_2) ⟨va_cnB 2 hts gX6_weightOf_X7_contains_n121 rfl rfl rfl (hK0.2.1.1.m 6 rfl) (hts (.initialized RX7) (List.mem_of_getElem? (i := 4) rfl)) hd_X7_contains_S ⟨Nat.le_of_ble_eq_true rfl, Nat.le_of_ble_eq_true rfl⟩, (hts (.static yX7_contains) (List.mem_of_getElem? (i := 3) rfl)), trivial⟩ ⟨rdP_blind, my_preV hK0 hS hAB hP [] rfl⟩ rfl rfl hl.1 rfl (lv_room (Nat.le_of_ble_eq_true rfl)) dX6_weightOf_14 ⟨Nat.zero_le _, Nat.zero_le _⟩) ?_
        refine lv_if_eq (tgt := 31) hx hb dX6_weightOf_17 (by decide) (fun c_4 => ?_) (fun c_4 => ?_)
        · refine lv_iinc (v := (i3_2 + 1)) (lv' := [(3, .int (i3_2 + 1)), (0, .ref (a 0)), (1, .int x0), (2, .int i2_1)]) hx hb dX6_weightOf_31 hl (k := 3) rfl rfl (by decide) rfl (fun ls hl => ?_)
          refine lv_goto (tgt := 4) hx hb dX6_weightOf_34 (by decide) ?_
          have hst : f_X6_weightOf_st v x0 i2_1 i3_2 = .inl (i2_1, (i3_2 + 1)) := by rw [f_X6_weightOf_st, if_neg c_3, if_pos c_4]
          have hmu : ((v.1 : Int32).toInt - ((i3_2 + 1) : Int32).toInt).toNat < ((v.1 : Int32).toInt - (i3_2 : Int32).toInt).toNat := mu_up c_3
          exact ih0 i2_1 (i3_2 + 1) (Nat.lt_of_lt_of_le hmu (Nat.le_of_lt_succ hlt0)) (lp_inl hst hF0) _ (lv_sub hl [1, 2, 3, 0] rfl)
        · refine lv_iload_n hx hb dX6_weightOf_20 rfl (lv_at hl 2 rfl) ?_
          refine lv_aload_n hx hb dX6_weightOf_21 rfl (lv_at hl 0 rfl) ?_
          refine va_get (D := D) (ci := 4) (v := .ref (a 1)) (C := RX6) (T := TX6) (N := 7) hx hb hts inX6 hown hK0.1 hP 0 rfl rfl 1 (by decide) (hts (.fieldLink RX6 14 "PivotChamber$Setting" "weights" "LPivotChamber$Row;") (List.mem_of_getElem? (i := 2) rfl)) (fun _ h9 => h9) rfl dX6_weightOf_22 ?_
          refine lv_iload_n hx hb dX6_weightOf_25 rfl (lv_at hl 3 rfl) ?_
          refine rd_goi (va_runV (C := RX4) (As := [.int i3_2]) (rest := [.int i2_1]) S (c_X4_at l D cy g B (a 1) (a 2) 8 v.2.2.2.1 i3_2 (by decide)) (cwV 1 hts gX6_weightOf_X4_at rfl rfl rfl hd_X4_at_V ⟨Nat.le_of_ble_eq_true rfl, Nat.le_of_ble_eq_true rfl⟩) ⟨rdP_blind, va_recv hK0.1 hP (ci := 2) (q0 := 1) rfl rfl, my_preV hK0 hS hAB hP [1, 2] rfl⟩ rfl rfl hl.1 rfl (lv_room (Nat.le_of_ble_eq_true rfl)) dX6_weightOf_26 ⟨Nat.zero_le _, Nat.zero_le _⟩) ?_
          refine lv_iadd hx hb dX6_weightOf_29 ?_
          refine lv_istore_n (lv' := [(2, .int (i2_1 + (rAt 8 v.2.2.2.1 i3_2))), (0, .ref (a 0)), (1, .int x0), (3, .int i3_2)]) hx hb dX6_weightOf_30 rfl hl (by decide) rfl (fun ls hl => ?_)
          refine lv_iinc (v := (i3_2 + 1)) (lv' := [(3, .int (i3_2 + 1)), (2, .int (i2_1 + (rAt 8 v.2.2.2.1 i3_2))), (0, .ref (a 0)), (1, .int x0)]) hx hb dX6_weightOf_31 hl (k := 3) rfl rfl (by decide) rfl (fun ls hl => ?_)
          refine lv_goto (tgt := 4) hx hb dX6_weightOf_34 (by decide) ?_
          have hst : f_X6_weightOf_st v x0 i2_1 i3_2 = .inl ((i2_1 + (rAt 8 v.2.2.2.1 i3_2)), (i3_2 + 1)) := by rw [f_X6_weightOf_st, if_neg c_3, if_neg c_4]
          have hmu : ((v.1 : Int32).toInt - ((i3_2 + 1) : Int32).toInt).toNat < ((v.1 : Int32).toInt - (i3_2 : Int32).toInt).toNat := mu_up c_3
          exact ih0 (i2_1 + (rAt 8 v.2.2.2.1 i3_2)) (i3_2 + 1) (Nat.lt_of_lt_of_le hmu (Nat.le_of_lt_succ hlt0)) (lp_inl hst hF0) _ (lv_sub hl [2, 3, 1, 0] rfl)
  exact key (((v.1 : Int32).toInt - (0 : Int32).toInt).toNat + 1) 0 0 (Nat.lt_succ_self _) rfl _ (lv_sub hl [2, 3, 1, 0] rfl)
theorem hd_X6_isKept_S : yX6_isKept.cls ≠ "java/lang/invoke/MethodHandle" ∧ yX6_isKept.cls ≠ "java/lang/invoke/VarHandle" ∧ (parseMethodDescriptor yX6_isKept.desc).map (fun d => d.parameters.length) = some 2 := by decide +kernel
theorem hd_X6_isKept_V : yX6_isKept.cls = RX6 ∧ yX6_isKept.cls ≠ "java/lang/invoke/MethodHandle" ∧ yX6_isKept.cls ≠ "java/lang/invoke/VarHandle" ∧ (parseMethodDescriptor yX6_isKept.desc).map (fun d => d.parameters.length) = some 2 := ⟨rfl, hd_X6_isKept_S⟩
def f_X6_isKept (v : SetV) (x0 : Int32) (x1 : Int32) : Int32 := (if (rAt 4 v.2.2.2.2.2.1 x0) = 0 then (if (f_J6_bitCount_0f7a4 x1) < (rAt 4 v.2.2.2.2.2.2 x0) then 0 else 1) else (if (rAt 4 v.2.2.2.2.2.1 x0) = 1 then (f_X7_contains x1 (rAt 4 v.2.2.2.2.2.2 x0)) else (if (x1 &&& (rAt 4 v.2.2.2.2.2.2 x0)) = 0 then 0 else 1)))
theorem z_X6_isKept (v : SetV) (x0 : Int32) (x1 : Int32) : f_X6_isKept v x0 x1 = 0 ∨ f_X6_isKept v x0 x1 = 1 := by
  unfold f_X6_isKept
  repeat' split
  all_goals first | exact Or.inl rfl | exact Or.inr rfl | exact z_X7_contains _ _
set_option maxHeartbeats 400000 in
set_option maxRecDepth 100000 in
theorem c_X6_isKept (l : Launch) (D : va_G) (cy : Nat → ClassId) (g : Nat → Nat) (B : Nat) (a : Nat → Nat) (v : SetV) (x0 : Int32) (x1 : Int32) : Met l yX6_isKept wsX6_isKept ({ frames := 1, cells := 0, slots := 0, locals := 21 }) (rdP D cy g B (wSet cy a v) [.ref (a 0), .int x0, .int x1]) (vp_Si (fun r => r = f_X6_isKept v x0 x1)) 0 0 (fun _ => False) := by
  refine Met.ofW (cc := cX6_isKept) (maxL := 4) (ret := (some .boolean)) (by decide) rfl ?_
  intro p e s m args below meth c s₁ BB hml hv
  obtain ⟨rfl, hP, hK0⟩ := hv
  have hx := BB.exec
  have hb := BB.bytes
  have hr := BB.returns
  have hts := atoms_spec (ws := wsX6_isKept) BB.pre
  have hown : s.vm.findClass RX6 = some m.cls := findClass_of_methodNamed BB.named
  have hlocks := BB.notSynchronized
  have S := my_fix hx hb hml hown hts
  have inX6 : ∀ w ∈ wsX60, w ∈ wsX6_isKept := fun w h => List.mem_cons_of_mem _ (List.mem_append_left _ (List.mem_append_right _ h))
  have hS : va_S (fun q => B ≤ q) s.heap s.heap [] := va_S.rf
  have hAB : ∀ q : Nat, (fun q => B ≤ q) q → B ≤ q := fun _ h => h
  have hl := lv_entry ([.ref (a 0), .int x0, .int x1]) (n := 4) (Nat.le_of_ble_eq_true rfl)
  rw [lg_entry_eq]
  generalize (lg_sl ([.ref (a 0), .int x0, .int x1]) ++ List.replicate (4 - (lg_sl ([.ref (a 0), .int x0, .int x1])).length) Slot.unset).toArray = ls at hl ⊢
  have hl : lv_has ls 4 [(0, .ref (a 0)), (1, .int x0), (2, .int x1)] := hl
  refine lv_aload_n hx hb dX6_isKept_0 rfl (lv_at hl 0 rfl) ?_
  refine va_get (D := D) (ci := 4) (v := .ref (a 7)) (C := RX6) (T := TX6) (N := 7) hx hb hts inX6 hown hK0.1 hP 0 rfl rfl 6 (by decide) (hts (.fieldLink RX6 30 "PivotChamber$Setting" "values" "LPivotChamber$Row;") (List.mem_of_getElem? (i := 1) rfl)) (fun _ h9 => h9) rfl dX6_isKept_1 ?_
  refine lv_iload_n hx hb dX6_isKept_4 rfl (lv_at hl 1 rfl) ?_
  refine rd_goi (va_runV (C := RX4) (As := [.int x0]) (rest := []) S (c_X4_at l D cy g B (a 7) (a 8) 4 v.2.2.2.2.2.2 x0 (by decide)) (cwV 1 hts gX6_isKept_X4_at rfl rfl rfl hd_X4_at_V ⟨Nat.le_of_ble_eq_true rfl, Nat.le_of_ble_eq_true rfl⟩) ⟨rdP_blind, va_recv hK0.1 hP (ci := 2) (q0 := 7) rfl rfl, my_preV hK0 hS hAB hP [7, 8] rfl⟩ rfl rfl hl.1 rfl (lv_room (Nat.le_of_ble_eq_true rfl)) dX6_isKept_5 ⟨Nat.zero_le _, Nat.zero_le _⟩) ?_
  refine lv_istore_n (lv' := [(3, .int (rAt 4 v.2.2.2.2.2.2 x0)), (0, .ref (a 0)), (1, .int x0), (2, .int x1)]) hx hb dX6_isKept_8 rfl hl (by decide) rfl (fun ls hl => ?_)
  refine lv_aload_n hx hb dX6_isKept_9 rfl (lv_at hl 1 rfl) ?_
  refine va_get (D := D) (ci := 4) (v := .ref (a 5)) (C := RX6) (T := TX6) (N := 7) hx hb hts inX6 hown hK0.1 hP 0 rfl rfl 5 (by decide) (hts (.fieldLink RX6 27 "PivotChamber$Setting" "kinds" "LPivotChamber$Row;") (List.mem_of_getElem? (i := 2) rfl)) (fun _ h9 => h9) rfl dX6_isKept_10 ?_
  refine lv_iload_n hx hb dX6_isKept_13 rfl (lv_at hl 2 rfl) ?_
  refine rd_goi (va_runV (C := RX4) (As := [.int x0]) (rest := []) S (c_X4_at l D cy g B (a 5) (a 6) 4 v.2.2.2.2.2.1 x0 (by decide)) (cwV 1 hts gX6_isKept_X4_at rfl rfl rfl hd_X4_at_V ⟨Nat.le_of_ble_eq_true rfl, Nat.le_of_ble_eq_true rfl⟩) ⟨rdP_blind, va_recv hK0.1 hP (ci := 2) (q0 := 5) rfl rfl, my_preV hK0 hS hAB hP [5, 6] rfl⟩ rfl rfl hl.1 rfl (lv_room (Nat.le_of_ble_eq_true rfl)) dX6_isKept_14 ⟨Nat.zero_le _, Nat.zero_le _⟩) ?_
  by_cases h17_0 : (rAt 4 v.2.2.2.2.2.1 x0) = 0
  · refine lv_lookup (off := 27) (tgt := 44) hx hb dX6_isKept_17 (by decide) (by rw [h17_0]; rfl) (by decide) ?_
    refine lv_iload_n hx hb dX6_isKept_44 rfl (lv_at hl 3 rfl) ?_
    refine rd_goi (va_runS (As := [.int x1]) (rest := []) S (c_J6_bitCount_0f7a4 l D cy g B x1) (va_cwS 1 hts gX6_isKept_J6_bitCount_0f7a4 rfl rfl rfl hd_J6_bitCount_0f7a4_S ⟨Nat.le_of_ble_eq_true rfl, Nat.le_of_ble_eq_true rfl⟩) ⟨rdP_blind, my_preV hK0 hS hAB hP [] rfl⟩ rfl rfl hl.1 rfl (lv_room (Nat.le_of_ble_eq_true rfl)) dX6_isKept_45 ⟨Nat.zero_le _, Nat.zero_le _⟩) ?_
    refine lv_iload_n hx hb dX6_isKept_48 rfl (lv_at hl 0 rfl) ?_
    refine lv_icmp_lt (tgt := 56) hx hb dX6_isKept_49 (by decide) (fun c_1 => ?_) (fun c_1 => ?_)
    · refine lv_iconst (v := 0) hx hb dX6_isKept_56 (by decide) ?_
      exact W.zret (ty := .boolean) (v := 0) hx hb hr (my_nz (by decide)) (fun t ht hW => ⟨0, rfl, (show f_X6_isKept v x0 x1 = 0 from by rw [f_X6_isKept, if_pos h17_0, if_pos c_1]).symm, ht⟩) (fun q hq => absurd hq List.not_mem_nil) dX6_isKept_57
    · refine lv_iconst (v := 1) hx hb dX6_isKept_52 (by decide) ?_
      refine lv_goto (tgt := 57) hx hb dX6_isKept_53 (by decide) ?_
      exact W.zret (ty := .boolean) (v := 1) hx hb hr (my_nz (by decide)) (fun t ht hW => ⟨1, rfl, (show f_X6_isKept v x0 x1 = 1 from by rw [f_X6_isKept, if_pos h17_0, if_neg c_1]).symm, ht⟩) (fun q hq => absurd hq List.not_mem_nil) dX6_isKept_57
  · by_cases h17_1 : (rAt 4 v.2.2.2.2.2.1 x0) = 1
    · refine lv_lookup (off := 41) (tgt := 58) hx hb dX6_isKept_17 (by decide) (by rw [h17_1]; rfl) (by decide) ?_
      refine lv_iload_n hx hb dX6_isKept_58 rfl (lv_at hl 3 rfl) ?_
      refine lv_iload_n hx hb dX6_isKept_59 rfl (lv_at hl 0 rfl) ?_
      refine rd_goi (va_runSN (As := [.int x1, .int (rAt 4 v.2.2.2.2.2.2 x0)]) (rest := []) S (c_X7_contains l D cy g B x1 (rAt 4 v.2.2.2.2.2.2 x0)) ⟨va_cnB 2 hts gX6_isKept_X7_contains_n121 rfl rfl rfl (hK0.2.1.1.m 6 rfl) (hts (.initialized RX7) (List.mem_of_getElem? (i := 17) rfl)) hd_X7_contains_S ⟨Nat.le_of_ble_eq_true rfl, Nat.le_of_ble_eq_true rfl⟩, (hts (.static yX7_contains) (List.mem_of_getElem? (i := 16) rfl)), trivial⟩ ⟨rdP_blind, my_preV hK0 hS hAB hP [] rfl⟩ rfl rfl hl.1 rfl (lv_room (Nat.le_of_ble_eq_true rfl)) dX6_isKept_60 ⟨Nat.zero_le _, Nat.zero_le _⟩) ?_
      exact W.zret (ty := .boolean) (v := (f_X7_contains x1 (rAt 4 v.2.2.2.2.2.2 x0))) hx hb hr (my_nz (z_X7_contains _ _)) (fun t ht hW => ⟨(f_X7_contains x1 (rAt 4 v.2.2.2.2.2.2 x0)), rfl, (show f_X6_isKept v x0 x1 = (f_X7_contains x1 (rAt 4 v.2.2.2.2.2.2 x0)) from by rw [f_X6_isKept, if_neg h17_0, if_pos h17_1]).symm, ht⟩) (fun q hq => absurd hq List.not_mem_nil) dX6_isKept_63
    · refine lv_lookup (off := 47) (tgt := 64) hx hb dX6_isKept_17 (by decide) ((lv_osw h17_0 rfl).trans ((lv_osw h17_1 rfl).trans (rfl))) (by decide) ?_
      refine lv_iload_n hx hb dX6_isKept_64 rfl (lv_at hl 3 rfl) ?_
      refine lv_iload_n hx hb dX6_isKept_65 rfl (lv_at hl 0 rfl) ?_
      refine lv_iand hx hb dX6_isKept_66 ?_
      refine lv_if_eq (tgt := 74) hx hb dX6_isKept_67 (by decide) (fun c_2 => ?_) (fun c_2 => ?_)
      · refine lv_iconst (v := 0) hx hb dX6_isKept_74 (by decide) ?_
        exact W.zret (ty := .boolean) (v := 0) hx hb hr (my_nz (by decide)) (fun t ht hW => ⟨0, rfl, (show f_X6_isKept v x0 x1 = 0 from by rw [f_X6_isKept, if_neg h17_0, if_neg h17_1, if_pos c_2]).symm, ht⟩) (fun q hq => absurd hq List.not_mem_nil) dX6_isKept_75
      · refine lv_iconst (v := 1) hx hb dX6_isKept_70 (by decide) ?_
        refine lv_goto (tgt := 75) hx hb dX6_isKept_71 (by decide) ?_
        exact W.zret (ty := .boolean) (v := 1) hx hb hr (my_nz (by decide)) (fun t ht hW => ⟨1, rfl, (show f_X6_isKept v x0 x1 = 1 from by rw [f_X6_isKept, if_neg h17_0, if_neg h17_1, if_neg c_2]).symm, ht⟩) (fun q hq => absurd hq List.not_mem_nil) dX6_isKept_75
theorem hd_X6_firstBrokenRule_S : yX6_firstBrokenRule.cls ≠ "java/lang/invoke/MethodHandle" ∧ yX6_firstBrokenRule.cls ≠ "java/lang/invoke/VarHandle" ∧ (parseMethodDescriptor yX6_firstBrokenRule.desc).map (fun d => d.parameters.length) = some 1 := by decide +kernel
theorem hd_X6_firstBrokenRule_V : yX6_firstBrokenRule.cls = RX6 ∧ yX6_firstBrokenRule.cls ≠ "java/lang/invoke/MethodHandle" ∧ yX6_firstBrokenRule.cls ≠ "java/lang/invoke/VarHandle" ∧ (parseMethodDescriptor yX6_firstBrokenRule.desc).map (fun d => d.parameters.length) = some 1 := ⟨rfl, hd_X6_firstBrokenRule_S⟩
def f_X6_firstBrokenRule_st (v : SetV) (x0 : Int32) (i2_1 : Int32) : (Int32) ⊕ (Int32) := (if v.2.2.1 ≤ i2_1 then (.inr (-1)) else (if (f_X6_isKept v i2_1 x0) = 0 then (.inr i2_1) else (.inl (i2_1 + 1))))
def f_X6_firstBrokenRule (v : SetV) (x0 : Int32) : Int32 := (lp (fun (x : Int32) => f_X6_firstBrokenRule_st v x0 x) default (((v.2.2.1 : Int32).toInt - (0 : Int32).toInt).toNat + 1) 0)
set_option maxHeartbeats 400000 in
set_option maxRecDepth 100000 in
theorem c_X6_firstBrokenRule (l : Launch) (D : va_G) (cy : Nat → ClassId) (g : Nat → Nat) (B : Nat) (a : Nat → Nat) (v : SetV) (x0 : Int32) : Met l yX6_firstBrokenRule wsX6_firstBrokenRule ({ frames := 2, cells := 0, slots := 0, locals := 44 }) (rdP D cy g B (wSet cy a v) [.ref (a 0), .int x0]) (vp_Si (fun r => r = f_X6_firstBrokenRule v x0)) 0 0 (fun _ => False) := by
  refine Met.ofW (cc := cX6_firstBrokenRule) (maxL := 3) (ret := (some .int)) (by decide) rfl ?_
  intro p e s m args below meth c s₁ BB hml hv
  obtain ⟨rfl, hP, hK0⟩ := hv
  have hx := BB.exec
  have hb := BB.bytes
  have hr := BB.returns
  have hts := atoms_spec (ws := wsX6_firstBrokenRule) BB.pre
  have hown : s.vm.findClass RX6 = some m.cls := findClass_of_methodNamed BB.named
  have hlocks := BB.notSynchronized
  have S := my_fix hx hb hml hown hts
  have inX6 : ∀ w ∈ wsX60, w ∈ wsX6_firstBrokenRule := fun w h => List.mem_cons_of_mem _ (List.mem_append_left _ (List.mem_append_right _ h))
  have hS : va_S (fun q => B ≤ q) s.heap s.heap [] := va_S.rf
  have hAB : ∀ q : Nat, (fun q => B ≤ q) q → B ≤ q := fun _ h => h
  have hl := lv_entry ([.ref (a 0), .int x0]) (n := 3) (Nat.le_of_ble_eq_true rfl)
  rw [lg_entry_eq]
  generalize (lg_sl ([.ref (a 0), .int x0]) ++ List.replicate (3 - (lg_sl ([.ref (a 0), .int x0])).length) Slot.unset).toArray = ls at hl ⊢
  have hl : lv_has ls 3 [(0, .ref (a 0)), (1, .int x0)] := hl
  refine lv_iconst (v := 0) hx hb dX6_firstBrokenRule_0 (by decide) ?_
  refine lv_istore_n (lv' := [(2, .int 0), (0, .ref (a 0)), (1, .int x0)]) hx hb dX6_firstBrokenRule_1 rfl hl (by decide) rfl (fun ls hl => ?_)
  have key : ∀ (nf : Nat) (i2_1 : Int32), ((v.2.2.1 : Int32).toInt - (i2_1 : Int32).toInt).toNat < nf → lp (fun (x : Int32) => f_X6_firstBrokenRule_st v x0 x) default nf i2_1 = lp (fun (x : Int32) => f_X6_firstBrokenRule_st v x0 x) default (((v.2.2.1 : Int32).toInt - (0 : Int32).toInt).toNat + 1) 0 → ∀ ls : Array Slot, lv_has ls 3 [(0, .ref (a 0)), (1, .int x0), (2, .int i2_1)] → W p l e (headSpec wsX6_firstBrokenRule ({ frames := 2, cells := 0, slots := 0, locals := 44 } : Room)).room s m ([.ref (a 0), .int x0] : List Value).toArray below meth c s.heap [] 0 0 (MQ below (vp_Si (fun r => r = f_X6_firstBrokenRule v x0)) ([.ref (a 0), .int x0] : List Value).toArray s 0 0 (fun _ => False)) (F0 m 2 ls []) := by
    intro n0
    induction n0 with
    | zero => intro i2_1 hlt; exact absurd hlt (Nat.not_lt_zero _)
    | succ n0 ih0 =>
      intro i2_1 hlt0 hF0 ls hl
      refine lv_iload_n hx hb dX6_firstBrokenRule_2 rfl (lv_at hl 2 rfl) ?_
      refine lv_aload_n hx hb dX6_firstBrokenRule_3 rfl (lv_at hl 0 rfl) ?_
      refine va_get (D := D) (ci := 4) (v := .int v.2.2.1) (C := RX6) (T := TX6) (N := 7) hx hb hts inX6 hown hK0.1 hP 0 rfl rfl 4 (by decide) (hts (.fieldLink RX6 40 "PivotChamber$Setting" "rules" "I") (List.mem_of_getElem? (i := 1) rfl)) (fun _ h9 => h9) rfl dX6_firstBrokenRule_4 ?_
      refine lv_icmp_ge (tgt := 27) hx hb dX6_firstBrokenRule_7 (by decide) (fun c_2 => ?_) (fun c_2 => ?_)
      · refine lv_iconst (v := (-1)) hx hb dX6_firstBrokenRule_27 (by decide) ?_
        have hst : f_X6_firstBrokenRule_st v x0 i2_1 = .inr (-1) := by rw [f_X6_firstBrokenRule_st, if_pos c_2]
        exact W.iret hx hb hr (fun t ht hW => ⟨(-1), rfl, (show f_X6_firstBrokenRule v x0 = (-1) from by rw [f_X6_firstBrokenRule]; exact lp_inr hst hF0).symm, ht⟩) (fun q hq => absurd hq List.not_mem_nil) dX6_firstBrokenRule_28
      · refine lv_aload_n hx hb dX6_firstBrokenRule_10 rfl (lv_at hl 0 rfl) ?_
        refine lv_iload_n hx hb dX6_firstBrokenRule_11 rfl (lv_at hl 2 rfl) ?_
        refine lv_iload_n hx hb dX6_firstBrokenRule_12 rfl (lv_at hl 1 rfl) ?_
        refine rd_goi (va_runV (C := RX6) (As := [.int i2_1, .int x0]) (rest := []) S (c_X6_isKept l D cy g B a v i2_1 x0) (cwV 2 hts gX6_firstBrokenRule_X6_isKept rfl rfl rfl hd_X6_isKept_V ⟨Nat.le_of_ble_eq_true rfl, Nat.le_of_ble_eq_true rfl⟩) ⟨rdP_blind, va_recv hK0.1 hP (ci := 4) (q0 := 0) rfl rfl, my_preP hK0 hS hAB hP⟩ rfl rfl hl.1 rfl (lv_room (Nat.le_of_ble_eq_true rfl)) dX6_firstBrokenRule_13 ⟨Nat.zero_le _, Nat.zero_le _⟩) ?_
        refine lv_if_ne (tgt := 21) hx hb dX6_firstBrokenRule_16 (by decide) (fun c_3 => ?_) (fun c_3 => ?_)
        · refine lv_iinc (v := (i2_1 + 1)) (lv' := [(2, .int (i2_1 + 1)), (0, .ref (a 0)), (1, .int x0)]) hx hb dX6_firstBrokenRule_21 hl (k := 2) rfl rfl (by decide) rfl (fun ls hl => ?_)
          refine lv_goto (tgt := 2) hx hb dX6_firstBrokenRule_24 (by decide) ?_
          have hst : f_X6_firstBrokenRule_st v x0 i2_1 = .inl (i2_1 + 1) := by rw [f_X6_firstBrokenRule_st, if_neg c_2, if_neg c_3]
          have hmu : ((v.2.2.1 : Int32).toInt - ((i2_1 + 1) : Int32).toInt).toNat < ((v.2.2.1 : Int32).toInt - (i2_1 : Int32).toInt).toNat := mu_up c_2
          exact ih0 (i2_1 + 1) (Nat.lt_of_lt_of_le hmu (Nat.le_of_lt_succ hlt0)) (lp_inl hst hF0) _ (lv_sub hl [1, 2, 0] rfl)
        · refine lv_iload_n hx hb dX6_firstBrokenRule_19 rfl (lv_at hl 2 rfl) ?_
          have hst : f_X6_firstBrokenRule_st v x0 i2_1 = .inr i2_1 := by rw [f_X6_firstBrokenRule_st, if_neg c_2, if_pos c_3]
          exact W.iret hx hb hr (fun t ht hW => ⟨i2_1, rfl, (show f_X6_firstBrokenRule v x0 = i2_1 from by rw [f_X6_firstBrokenRule]; exact lp_inr hst hF0).symm, ht⟩) (fun q hq => absurd hq List.not_mem_nil) dX6_firstBrokenRule_20
  exact key (((v.2.2.1 : Int32).toInt - (0 : Int32).toInt).toNat + 1) 0 (Nat.lt_succ_self _) rfl _ (lv_sub hl [1, 2, 0] rfl)
theorem hd_X6_faultOfMember_S : yX6_faultOfMember.cls ≠ "java/lang/invoke/MethodHandle" ∧ yX6_faultOfMember.cls ≠ "java/lang/invoke/VarHandle" ∧ (parseMethodDescriptor yX6_faultOfMember.desc).map (fun d => d.parameters.length) = some 1 := by decide +kernel
theorem hd_X6_faultOfMember_V : yX6_faultOfMember.cls = RX6 ∧ yX6_faultOfMember.cls ≠ "java/lang/invoke/MethodHandle" ∧ yX6_faultOfMember.cls ≠ "java/lang/invoke/VarHandle" ∧ (parseMethodDescriptor yX6_faultOfMember.desc).map (fun d => d.parameters.length) = some 1 := ⟨rfl, hd_X6_faultOfMember_S⟩
def f_X6_faultOfMember (v : SetV) (x0 : Int32) : Int32 := (if (f_X6_hasMember v x0) = 0 then 1 else 0)
set_option maxHeartbeats 400000 in
set_option maxRecDepth 100000 in
theorem c_X6_faultOfMember (l : Launch) (D : va_G) (cy : Nat → ClassId) (g : Nat → Nat) (B : Nat) (a : Nat → Nat) (v : SetV) (x0 : Int32) : Met l yX6_faultOfMember wsX6_faultOfMember ({ frames := 1, cells := 0, slots := 0, locals := 21 }) (rdP D cy g B (wSet cy a v) [.ref (a 0), .int x0]) (vp_Si (fun r => r = f_X6_faultOfMember v x0)) 0 0 (fun _ => False) := by
  refine Met.ofW (cc := cX6_faultOfMember) (maxL := 2) (ret := (some .int)) (by decide) rfl ?_
  intro p e s m args below meth c s₁ BB hml hv
  obtain ⟨rfl, hP, hK0⟩ := hv
  have hx := BB.exec
  have hb := BB.bytes
  have hr := BB.returns
  have hts := atoms_spec (ws := wsX6_faultOfMember) BB.pre
  have hown : s.vm.findClass RX6 = some m.cls := findClass_of_methodNamed BB.named
  have hlocks := BB.notSynchronized
  have S := my_fix hx hb hml hown hts
  have hS : va_S (fun q => B ≤ q) s.heap s.heap [] := va_S.rf
  have hAB : ∀ q : Nat, (fun q => B ≤ q) q → B ≤ q := fun _ h => h
  have hl := lv_entry ([.ref (a 0), .int x0]) (n := 2) (Nat.le_of_ble_eq_true rfl)
  rw [lg_entry_eq]
  generalize (lg_sl ([.ref (a 0), .int x0]) ++ List.replicate (2 - (lg_sl ([.ref (a 0), .int x0])).length) Slot.unset).toArray = ls at hl ⊢
  have hl : lv_has ls 2 [(0, .ref (a 0)), (1, .int x0)] := hl
  refine lv_aload_n hx hb dX6_faultOfMember_0 rfl (lv_at hl 0 rfl) ?_
  refine lv_iload_n hx hb dX6_faultOfMember_1 rfl (lv_at hl 1 rfl) ?_
  refine rd_goi (va_runV (C := RX6) (As := [.int x0]) (rest := []) S (c_X6_hasMember l D cy g B a v x0) (cwV 1 hts gX6_faultOfMember_X6_hasMember rfl rfl rfl hd_X6_hasMember_V ⟨Nat.le_of_ble_eq_true rfl, Nat.le_of_ble_eq_true rfl⟩) ⟨rdP_blind, va_recv hK0.1 hP (ci := 4) (q0 := 0) rfl rfl, my_preP hK0 hS hAB hP⟩ rfl rfl hl.1 rfl (lv_room (Nat.le_of_ble_eq_true rfl)) dX6_faultOfMember_2 ⟨Nat.zero_le _, Nat.zero_le _⟩) ?_
  refine lv_if_eq (tgt := 12) hx hb dX6_faultOfMember_5 (by decide) (fun c_1 => ?_) (fun c_1 => ?_)
  · refine lv_iconst (v := 1) hx hb dX6_faultOfMember_12 (by decide) ?_
    exact W.iret hx hb hr (fun t ht hW => ⟨1, rfl, (show f_X6_faultOfMember v x0 = 1 from by rw [f_X6_faultOfMember, if_pos c_1]).symm, ht⟩) (fun q hq => absurd hq List.not_mem_nil) dX6_faultOfMember_13
  · refine lv_iconst (v := 0) hx hb dX6_faultOfMember_8 (by decide) ?_
    refine lv_goto (tgt := 13) hx hb dX6_faultOfMember_9 (by decide) ?_
    exact W.iret hx hb hr (fun t ht hW => ⟨0, rfl, (show f_X6_faultOfMember v x0 = 0 from by rw [f_X6_faultOfMember, if_neg c_1]).symm, ht⟩) (fun q hq => absurd hq List.not_mem_nil) dX6_faultOfMember_13
theorem hd_X6_faultOfRule_S : yX6_faultOfRule.cls ≠ "java/lang/invoke/MethodHandle" ∧ yX6_faultOfRule.cls ≠ "java/lang/invoke/VarHandle" ∧ (parseMethodDescriptor yX6_faultOfRule.desc).map (fun d => d.parameters.length) = some 1 := by decide +kernel
theorem hd_X6_faultOfRule_V : yX6_faultOfRule.cls = RX6 ∧ yX6_faultOfRule.cls ≠ "java/lang/invoke/MethodHandle" ∧ yX6_faultOfRule.cls ≠ "java/lang/invoke/VarHandle" ∧ (parseMethodDescriptor yX6_faultOfRule.desc).map (fun d => d.parameters.length) = some 1 := ⟨rfl, hd_X6_faultOfRule_S⟩
def f_X6_faultOfRule (v : SetV) (x0 : Int32) : Int32 := (if x0 < 0 then 1 else (if x0 < v.2.2.1 then 0 else 1))
set_option maxHeartbeats 400000 in
set_option maxRecDepth 100000 in
theorem c_X6_faultOfRule (l : Launch) (D : va_G) (cy : Nat → ClassId) (g : Nat → Nat) (B : Nat) (a : Nat → Nat) (v : SetV) (x0 : Int32) : Met l yX6_faultOfRule wsX6_faultOfRule ({ frames := 0, cells := 0, slots := 0, locals := 0 }) (rdP D cy g B (wSet cy a v) [.ref (a 0), .int x0]) (vp_Si (fun r => r = f_X6_faultOfRule v x0)) 0 0 (fun _ => False) := by
  refine Met.ofW (cc := cX6_faultOfRule) (maxL := 2) (ret := (some .int)) (by decide) rfl ?_
  intro p e s m args below meth c s₁ BB hml hv
  obtain ⟨rfl, hP, hK0⟩ := hv
  have hx := BB.exec
  have hb := BB.bytes
  have hr := BB.returns
  have hts := atoms_spec (ws := wsX6_faultOfRule) BB.pre
  have hown : s.vm.findClass RX6 = some m.cls := findClass_of_methodNamed BB.named
  have hlocks := BB.notSynchronized
  have S := my_fix hx hb hml hown hts
  have inX6 : ∀ w ∈ wsX60, w ∈ wsX6_faultOfRule := fun w h => List.mem_cons_of_mem _ (List.mem_append_right _ h)
  have hS : va_S (fun q => B ≤ q) s.heap s.heap [] := va_S.rf
  have hAB : ∀ q : Nat, (fun q => B ≤ q) q → B ≤ q := fun _ h => h
  have hl := lv_entry ([.ref (a 0), .int x0]) (n := 2) (Nat.le_of_ble_eq_true rfl)
  rw [lg_entry_eq]
  generalize (lg_sl ([.ref (a 0), .int x0]) ++ List.replicate (2 - (lg_sl ([.ref (a 0), .int x0])).length) Slot.unset).toArray = ls at hl ⊢
  have hl : lv_has ls 2 [(0, .ref (a 0)), (1, .int x0)] := hl
  refine lv_iload_n hx hb dX6_faultOfRule_0 rfl (lv_at hl 1 rfl) ?_
  refine lv_if_lt (tgt := 12) hx hb dX6_faultOfRule_1 (by decide) (fun c_1 => ?_) (fun c_1 => ?_)
  · refine lv_iconst (v := 1) hx hb dX6_faultOfRule_12 (by decide) ?_
    refine lv_goto (tgt := 17) hx hb dX6_faultOfRule_13 (by decide) ?_
    exact W.iret hx hb hr (fun t ht hW => ⟨1, rfl, (show f_X6_faultOfRule v x0 = 1 from by rw [f_X6_faultOfRule, if_pos c_1]).symm, ht⟩) (fun q hq => absurd hq List.not_mem_nil) dX6_faultOfRule_17
  · refine lv_iload_n hx hb dX6_faultOfRule_4 rfl (lv_at hl 1 rfl) ?_
    refine lv_aload_n hx hb dX6_faultOfRule_5 rfl (lv_at hl 0 rfl) ?_
    refine va_get (D := D) (ci := 4) (v := .int v.2.2.1) (C := RX6) (T := TX6) (N := 7) hx hb hts inX6 hown hK0.1 hP 0 rfl rfl 4 (by decide) (hts (.fieldLink RX6 40 "PivotChamber$Setting" "rules" "I") (List.mem_of_getElem? (i := 1) rfl)) (fun _ h9 => h9) rfl dX6_faultOfRule_6 ?_
    refine lv_icmp_lt (tgt := 16) hx hb dX6_faultOfRule_9 (by decide) (fun c_2 => ?_) (fun c_2 => ?_)
    · refine lv_iconst (v := 0) hx hb dX6_faultOfRule_16 (by decide) ?_
      exact W.iret hx hb hr (fun t ht hW => ⟨0, rfl, (show f_X6_faultOfRule v x0 = 0 from by rw [f_X6_faultOfRule, if_neg c_1, if_pos c_2]).symm, ht⟩) (fun q hq => absurd hq List.not_mem_nil) dX6_faultOfRule_17
    · refine lv_iconst (v := 1) hx hb dX6_faultOfRule_12 (by decide) ?_
      refine lv_goto (tgt := 17) hx hb dX6_faultOfRule_13 (by decide) ?_
      exact W.iret hx hb hr (fun t ht hW => ⟨1, rfl, (show f_X6_faultOfRule v x0 = 1 from by rw [f_X6_faultOfRule, if_neg c_1, if_neg c_2]).symm, ht⟩) (fun q hq => absurd hq List.not_mem_nil) dX6_faultOfRule_17
theorem hd_X6_faultOfTwo_S : yX6_faultOfTwo.cls ≠ "java/lang/invoke/MethodHandle" ∧ yX6_faultOfTwo.cls ≠ "java/lang/invoke/VarHandle" ∧ (parseMethodDescriptor yX6_faultOfTwo.desc).map (fun d => d.parameters.length) = some 2 := by decide +kernel
theorem hd_X6_faultOfTwo_V : yX6_faultOfTwo.cls = RX6 ∧ yX6_faultOfTwo.cls ≠ "java/lang/invoke/MethodHandle" ∧ yX6_faultOfTwo.cls ≠ "java/lang/invoke/VarHandle" ∧ (parseMethodDescriptor yX6_faultOfTwo.desc).map (fun d => d.parameters.length) = some 2 := ⟨rfl, hd_X6_faultOfTwo_S⟩
def f_X6_faultOfTwo (v : SetV) (x0 : Int32) (x1 : Int32) : Int32 := (if (f_X6_hasMember v x0) = 0 then 1 else (if (f_X6_hasMember v x1) = 0 then 1 else (if x0 = x1 then 2 else 0)))
set_option maxHeartbeats 400000 in
set_option maxRecDepth 100000 in
theorem c_X6_faultOfTwo (l : Launch) (D : va_G) (cy : Nat → ClassId) (g : Nat → Nat) (B : Nat) (a : Nat → Nat) (v : SetV) (x0 : Int32) (x1 : Int32) : Met l yX6_faultOfTwo wsX6_faultOfTwo ({ frames := 1, cells := 0, slots := 0, locals := 21 }) (rdP D cy g B (wSet cy a v) [.ref (a 0), .int x0, .int x1]) (vp_Si (fun r => r = f_X6_faultOfTwo v x0 x1)) 0 0 (fun _ => False) := by
  refine Met.ofW (cc := cX6_faultOfTwo) (maxL := 3) (ret := (some .int)) (by decide) rfl ?_
  intro p e s m args below meth c s₁ BB hml hv
  obtain ⟨rfl, hP, hK0⟩ := hv
  have hx := BB.exec
  have hb := BB.bytes
  have hr := BB.returns
  have hts := atoms_spec (ws := wsX6_faultOfTwo) BB.pre
  have hown : s.vm.findClass RX6 = some m.cls := findClass_of_methodNamed BB.named
  have hlocks := BB.notSynchronized
  have S := my_fix hx hb hml hown hts
  have hS : va_S (fun q => B ≤ q) s.heap s.heap [] := va_S.rf
  have hAB : ∀ q : Nat, (fun q => B ≤ q) q → B ≤ q := fun _ h => h
  have hl := lv_entry ([.ref (a 0), .int x0, .int x1]) (n := 3) (Nat.le_of_ble_eq_true rfl)
  rw [lg_entry_eq]
  generalize (lg_sl ([.ref (a 0), .int x0, .int x1]) ++ List.replicate (3 - (lg_sl ([.ref (a 0), .int x0, .int x1])).length) Slot.unset).toArray = ls at hl ⊢
  have hl : lv_has ls 3 [(0, .ref (a 0)), (1, .int x0), (2, .int x1)] := hl
  refine lv_aload_n hx hb dX6_faultOfTwo_0 rfl (lv_at hl 0 rfl) ?_
  refine lv_iload_n hx hb dX6_faultOfTwo_1 rfl (lv_at hl 1 rfl) ?_
  refine rd_goi (va_runV (C := RX6) (As := [.int x0]) (rest := []) S (c_X6_hasMember l D cy g B a v x0) (cwV 1 hts gX6_faultOfTwo_X6_hasMember rfl rfl rfl hd_X6_hasMember_V ⟨Nat.le_of_ble_eq_true rfl, Nat.le_of_ble_eq_true rfl⟩) ⟨rdP_blind, va_recv hK0.1 hP (ci := 4) (q0 := 0) rfl rfl, my_preP hK0 hS hAB hP⟩ rfl rfl hl.1 rfl (lv_room (Nat.le_of_ble_eq_true rfl)) dX6_faultOfTwo_2 ⟨Nat.zero_le _, Nat.zero_le _⟩) ?_
  refine lv_if_eq (tgt := 16) hx hb dX6_faultOfTwo_5 (by decide) (fun c_1 => ?_) (fun c_1 => ?_)
  · refine lv_iconst (v := 1) hx hb dX6_faultOfTwo_16 (by decide) ?_
    exact W.iret hx hb hr (fun t ht hW => ⟨1, rfl, (show f_X6_faultOfTwo v x0 x1 = 1 from by rw [f_X6_faultOfTwo, if_pos c_1]).symm, ht⟩) (fun q hq => absurd hq List.not_mem_nil) dX6_faultOfTwo_17
  · refine lv_aload_n hx hb dX6_faultOfTwo_8 rfl (lv_at hl 0 rfl) ?_
    refine lv_iload_n hx hb dX6_faultOfTwo_9 rfl (lv_at hl 2 rfl) ?_
    refine rd_goi (va_runV (C := RX6) (As := [.int x1]) (rest := []) S (c_X6_hasMember l D cy g B a v x1) (cwV 1 hts gX6_faultOfTwo_X6_hasMember rfl rfl rfl hd_X6_hasMember_V ⟨Nat.le_of_ble_eq_true rfl, Nat.le_of_ble_eq_true rfl⟩) ⟨rdP_blind, va_recv hK0.1 hP (ci := 4) (q0 := 0) rfl rfl, my_preP hK0 hS hAB hP⟩ rfl rfl hl.1 rfl (lv_room (Nat.le_of_ble_eq_true rfl)) dX6_faultOfTwo_10 ⟨Nat.zero_le _, Nat.zero_le _⟩) ?_
    refine lv_if_ne (tgt := 18) hx hb dX6_faultOfTwo_13 (by decide) (fun c_2 => ?_) (fun c_2 => ?_)
    · refine lv_iload_n hx hb dX6_faultOfTwo_18 rfl (lv_at hl 1 rfl) ?_
      refine lv_iload_n hx hb dX6_faultOfTwo_19 rfl (lv_at hl 2 rfl) ?_
      refine lv_icmp_ne (tgt := 27) hx hb dX6_faultOfTwo_20 (by decide) (fun c_3 => ?_) (fun c_3 => ?_)
      · refine lv_iconst (v := 0) hx hb dX6_faultOfTwo_27 (by decide) ?_
        exact W.iret hx hb hr (fun t ht hW => ⟨0, rfl, (show f_X6_faultOfTwo v x0 x1 = 0 from by rw [f_X6_faultOfTwo, if_neg c_1, if_neg c_2, if_neg c_3]).symm, ht⟩) (fun q hq => absurd hq List.not_mem_nil) dX6_faultOfTwo_28
      · refine lv_iconst (v := 2) hx hb dX6_faultOfTwo_23 (by decide) ?_
        refine lv_goto (tgt := 28) hx hb dX6_faultOfTwo_24 (by decide) ?_
        exact W.iret hx hb hr (fun t ht hW => ⟨2, rfl, (show f_X6_faultOfTwo v x0 x1 = 2 from by rw [f_X6_faultOfTwo, if_neg c_1, if_neg c_2, if_pos c_3]).symm, ht⟩) (fun q hq => absurd hq List.not_mem_nil) dX6_faultOfTwo_28
    · refine lv_iconst (v := 1) hx hb dX6_faultOfTwo_16 (by decide) ?_
      exact W.iret hx hb hr (fun t ht hW => ⟨1, rfl, (show f_X6_faultOfTwo v x0 x1 = 1 from by rw [f_X6_faultOfTwo, if_neg c_1, if_pos c_2]).symm, ht⟩) (fun q hq => absurd hq List.not_mem_nil) dX6_faultOfTwo_17
theorem hd_X6_faultOfSet_S : yX6_faultOfSet.cls ≠ "java/lang/invoke/MethodHandle" ∧ yX6_faultOfSet.cls ≠ "java/lang/invoke/VarHandle" ∧ (parseMethodDescriptor yX6_faultOfSet.desc).map (fun d => d.parameters.length) = some 1 := by decide +kernel
theorem hd_X6_faultOfSet_V : yX6_faultOfSet.cls = RX6 ∧ yX6_faultOfSet.cls ≠ "java/lang/invoke/MethodHandle" ∧ yX6_faultOfSet.cls ≠ "java/lang/invoke/VarHandle" ∧ (parseMethodDescriptor yX6_faultOfSet.desc).map (fun d => d.parameters.length) = some 1 := ⟨rfl, hd_X6_faultOfSet_S⟩
def f_X6_faultOfSet (v : SetV) (x0 : Int32) : Int32 := (f_X7_faultOfRange x0 0 (f_X6_everybody v))
set_option maxHeartbeats 400000 in
set_option maxRecDepth 100000 in
theorem c_X6_faultOfSet (l : Launch) (D : va_G) (cy : Nat → ClassId) (g : Nat → Nat) (B : Nat) (a : Nat → Nat) (v : SetV) (x0 : Int32) : Met l yX6_faultOfSet wsX6_faultOfSet ({ frames := 1, cells := 0, slots := 0, locals := 22 }) (rdP D cy g B (wSet cy a v) [.ref (a 0), .int x0]) (vp_Si (fun r => r = f_X6_faultOfSet v x0)) 0 0 (fun _ => False) := by
  refine Met.ofW (cc := cX6_faultOfSet) (maxL := 2) (ret := (some .int)) (by decide) rfl ?_
  intro p e s m args below meth c s₁ BB hml hv
  obtain ⟨rfl, hP, hK0⟩ := hv
  have hx := BB.exec
  have hb := BB.bytes
  have hr := BB.returns
  have hts := atoms_spec (ws := wsX6_faultOfSet) BB.pre
  have hown : s.vm.findClass RX6 = some m.cls := findClass_of_methodNamed BB.named
  have hlocks := BB.notSynchronized
  have S := my_fix hx hb hml hown hts
  have hS : va_S (fun q => B ≤ q) s.heap s.heap [] := va_S.rf
  have hAB : ∀ q : Nat, (fun q => B ≤ q) q → B ≤ q := fun _ h => h
  have hl := lv_entry ([.ref (a 0), .int x0]) (n := 2) (Nat.le_of_ble_eq_true rfl)
  rw [lg_entry_eq]
  generalize (lg_sl ([.ref (a 0), .int x0]) ++ List.replicate (2 - (lg_sl ([.ref (a 0), .int x0])).length) Slot.unset).toArray = ls at hl ⊢
  have hl : lv_has ls 2 [(0, .ref (a 0)), (1, .int x0)] := hl
  refine lv_iload_n hx hb dX6_faultOfSet_0 rfl (lv_at hl 1 rfl) ?_
  refine lv_iconst (v := 0) hx hb dX6_faultOfSet_1 (by decide) ?_
  refine lv_aload_n hx hb dX6_faultOfSet_2 rfl (lv_at hl 0 rfl) ?_
  refine rd_goi (va_runV (C := RX6) (As := []) (rest := [.int 0, .int x0]) S (c_X6_everybody l D cy g B a v) (cwV 0 hts gX6_faultOfSet_X6_everybody rfl rfl rfl hd_X6_everybody_V ⟨Nat.le_of_ble_eq_true rfl, Nat.le_of_ble_eq_true rfl⟩) ⟨rdP_blind, va_recv hK0.1 hP (ci := 4) (q0 := 0) rfl rfl, my_preP hK0 hS hAB hP⟩ rfl rfl hl.1 rfl (lv_room (Nat.le_of_ble_eq_true rfl)) dX6_faultOfSet_3 ⟨Nat.zero_le _, Nat.zero_le _⟩) ?_
  refine rd_goi (va_runSN (As := [.int x0, .int 0, .int (f_X6_everybody v)]) (rest := []) S (c_X7_faultOfRange l D cy g B x0 0 (f_X6_everybody v)) ⟨va_cnB 3 hts gX6_faultOfSet_X7_faultOfRange_n55 rfl rfl rfl (hK0.2.1.1.m 7 rfl) (hts (.initialized RX7) (List.mem_of_getElem? (i := 8) rfl)) hd_X7_faultOfRange_S ⟨Nat.le_of_ble_eq_true rfl, Nat.le_of_ble_eq_true rfl⟩, (hts (.static yX7_faultOfRange) (List.mem_of_getElem? (i := 7) rfl)), trivial⟩ ⟨rdP_blind, my_preV hK0 hS hAB hP [] rfl⟩ rfl rfl hl.1 rfl (lv_room (Nat.le_of_ble_eq_true rfl)) dX6_faultOfSet_6 ⟨Nat.zero_le _, Nat.zero_le _⟩) ?_
  exact W.iret hx hb hr (fun t ht hW => ⟨(f_X7_faultOfRange x0 0 (f_X6_everybody v)), rfl, (show f_X6_faultOfSet v x0 = (f_X7_faultOfRange x0 0 (f_X6_everybody v)) from by rw [f_X6_faultOfSet]).symm, ht⟩) (fun q hq => absurd hq List.not_mem_nil) dX6_faultOfSet_9
theorem hd_X6_faultOfNewRule_S : yX6_faultOfNewRule.cls ≠ "java/lang/invoke/MethodHandle" ∧ yX6_faultOfNewRule.cls ≠ "java/lang/invoke/VarHandle" ∧ (parseMethodDescriptor yX6_faultOfNewRule.desc).map (fun d => d.parameters.length) = some 2 := by decide +kernel
theorem hd_X6_faultOfNewRule_V : yX6_faultOfNewRule.cls = RX6 ∧ yX6_faultOfNewRule.cls ≠ "java/lang/invoke/MethodHandle" ∧ yX6_faultOfNewRule.cls ≠ "java/lang/invoke/VarHandle" ∧ (parseMethodDescriptor yX6_faultOfNewRule.desc).map (fun d => d.parameters.length) = some 2 := ⟨rfl, hd_X6_faultOfNewRule_S⟩
def f_X6_faultOfNewRule (v : SetV) (x0 : Int32) (x1 : Int32) : Int32 := (if x0 = 0 then (f_X7_faultOfRange x1 1 8) else (if x0 = 1 then (f_X7_faultOfRange x1 0 7) else (if x0 = 2 then (f_X7_faultOfRange x1 1 255) else 2)))
set_option maxHeartbeats 400000 in
set_option maxRecDepth 100000 in
theorem c_X6_faultOfNewRule (l : Launch) (D : va_G) (cy : Nat → ClassId) (g : Nat → Nat) (B : Nat) (a : Nat → Nat) (v : SetV) (x0 : Int32) (x1 : Int32) : Met l yX6_faultOfNewRule wsX6_faultOfNewRule ({ frames := 1, cells := 0, slots := 0, locals := 22 }) (rdP D cy g B (wSet cy a v) [.ref (a 0), .int x0, .int x1]) (vp_Si (fun r => r = f_X6_faultOfNewRule v x0 x1)) 0 0 (fun _ => False) := by
  refine Met.ofW (cc := cX6_faultOfNewRule) (maxL := 3) (ret := (some .int)) (by decide) rfl ?_
  intro p e s m args below meth c s₁ BB hml hv
  obtain ⟨rfl, hP, hK0⟩ := hv
  have hx := BB.exec
  have hb := BB.bytes
  have hr := BB.returns
  have hts := atoms_spec (ws := wsX6_faultOfNewRule) BB.pre
  have hown : s.vm.findClass RX6 = some m.cls := findClass_of_methodNamed BB.named
  have hlocks := BB.notSynchronized
  have S := my_fix hx hb hml hown hts
  have hS : va_S (fun q => B ≤ q) s.heap s.heap [] := va_S.rf
  have hAB : ∀ q : Nat, (fun q => B ≤ q) q → B ≤ q := fun _ h => h
  have hl := lv_entry ([.ref (a 0), .int x0, .int x1]) (n := 3) (Nat.le_of_ble_eq_true rfl)
  rw [lg_entry_eq]
  generalize (lg_sl ([.ref (a 0), .int x0, .int x1]) ++ List.replicate (3 - (lg_sl ([.ref (a 0), .int x0, .int x1])).length) Slot.unset).toArray = ls at hl ⊢
  have hl : lv_has ls 3 [(0, .ref (a 0)), (1, .int x0), (2, .int x1)] := hl
  refine lv_iload_n hx hb dX6_faultOfNewRule_0 rfl (lv_at hl 1 rfl) ?_
  by_cases h1_0 : x0 = 0
  · refine lv_tableIn (off := 27) (tgt := 28) hx hb dX6_faultOfNewRule_1 (by rw [h1_0]; decide) (by rw [h1_0]; decide) (by rw [h1_0]; rfl) (by decide) ?_
    refine lv_iload_n hx hb dX6_faultOfNewRule_28 rfl (lv_at hl 2 rfl) ?_
    refine lv_iconst (v := 1) hx hb dX6_faultOfNewRule_29 (by decide) ?_
    refine lv_bipush (v := 8) hx hb dX6_faultOfNewRule_30 (by decide) ?_
    refine rd_goi (va_runSN (As := [.int x1, .int 1, .int 8]) (rest := []) S (c_X7_faultOfRange l D cy g B x1 1 8) ⟨va_cnB 3 hts gX6_faultOfNewRule_X7_faultOfRange_n55 rfl rfl rfl (hK0.2.1.1.m 7 rfl) (hts (.initialized RX7) (List.mem_of_getElem? (i := 2) rfl)) hd_X7_faultOfRange_S ⟨Nat.le_of_ble_eq_true rfl, Nat.le_of_ble_eq_true rfl⟩, (hts (.static yX7_faultOfRange) (List.mem_of_getElem? (i := 1) rfl)), trivial⟩ ⟨rdP_blind, my_preV hK0 hS hAB hP [] rfl⟩ rfl rfl hl.1 rfl (lv_room (Nat.le_of_ble_eq_true rfl)) dX6_faultOfNewRule_32 ⟨Nat.zero_le _, Nat.zero_le _⟩) ?_
    exact W.iret hx hb hr (fun t ht hW => ⟨(f_X7_faultOfRange x1 1 8), rfl, (show f_X6_faultOfNewRule v x0 x1 = (f_X7_faultOfRange x1 1 8) from by rw [f_X6_faultOfNewRule, if_pos h1_0]).symm, ht⟩) (fun q hq => absurd hq List.not_mem_nil) dX6_faultOfNewRule_35
  · by_cases h1_1 : x0 = 1
    · refine lv_tableIn (off := 35) (tgt := 36) hx hb dX6_faultOfNewRule_1 (by rw [h1_1]; decide) (by rw [h1_1]; decide) (by rw [h1_1]; rfl) (by decide) ?_
      refine lv_iload_n hx hb dX6_faultOfNewRule_36 rfl (lv_at hl 2 rfl) ?_
      refine lv_iconst (v := 0) hx hb dX6_faultOfNewRule_37 (by decide) ?_
      refine lv_bipush (v := 7) hx hb dX6_faultOfNewRule_38 (by decide) ?_
      refine rd_goi (va_runSN (As := [.int x1, .int 0, .int 7]) (rest := []) S (c_X7_faultOfRange l D cy g B x1 0 7) ⟨va_cnB 3 hts gX6_faultOfNewRule_X7_faultOfRange_n55 rfl rfl rfl (hK0.2.1.1.m 7 rfl) (hts (.initialized RX7) (List.mem_of_getElem? (i := 2) rfl)) hd_X7_faultOfRange_S ⟨Nat.le_of_ble_eq_true rfl, Nat.le_of_ble_eq_true rfl⟩, (hts (.static yX7_faultOfRange) (List.mem_of_getElem? (i := 1) rfl)), trivial⟩ ⟨rdP_blind, my_preV hK0 hS hAB hP [] rfl⟩ rfl rfl hl.1 rfl (lv_room (Nat.le_of_ble_eq_true rfl)) dX6_faultOfNewRule_40 ⟨Nat.zero_le _, Nat.zero_le _⟩) ?_
      exact W.iret hx hb hr (fun t ht hW => ⟨(f_X7_faultOfRange x1 0 7), rfl, (show f_X6_faultOfNewRule v x0 x1 = (f_X7_faultOfRange x1 0 7) from by rw [f_X6_faultOfNewRule, if_neg h1_0, if_pos h1_1]).symm, ht⟩) (fun q hq => absurd hq List.not_mem_nil) dX6_faultOfNewRule_43
    · by_cases h1_2 : x0 = 2
      · refine lv_tableIn (off := 43) (tgt := 44) hx hb dX6_faultOfNewRule_1 (by rw [h1_2]; decide) (by rw [h1_2]; decide) (by rw [h1_2]; rfl) (by decide) ?_
        refine lv_iload_n hx hb dX6_faultOfNewRule_44 rfl (lv_at hl 2 rfl) ?_
        refine lv_iconst (v := 1) hx hb dX6_faultOfNewRule_45 (by decide) ?_
        refine lv_sipush (v := 255) hx hb dX6_faultOfNewRule_46 (by decide) ?_
        refine rd_goi (va_runSN (As := [.int x1, .int 1, .int 255]) (rest := []) S (c_X7_faultOfRange l D cy g B x1 1 255) ⟨va_cnB 3 hts gX6_faultOfNewRule_X7_faultOfRange_n55 rfl rfl rfl (hK0.2.1.1.m 7 rfl) (hts (.initialized RX7) (List.mem_of_getElem? (i := 2) rfl)) hd_X7_faultOfRange_S ⟨Nat.le_of_ble_eq_true rfl, Nat.le_of_ble_eq_true rfl⟩, (hts (.static yX7_faultOfRange) (List.mem_of_getElem? (i := 1) rfl)), trivial⟩ ⟨rdP_blind, my_preV hK0 hS hAB hP [] rfl⟩ rfl rfl hl.1 rfl (lv_room (Nat.le_of_ble_eq_true rfl)) dX6_faultOfNewRule_49 ⟨Nat.zero_le _, Nat.zero_le _⟩) ?_
        exact W.iret hx hb hr (fun t ht hW => ⟨(f_X7_faultOfRange x1 1 255), rfl, (show f_X6_faultOfNewRule v x0 x1 = (f_X7_faultOfRange x1 1 255) from by rw [f_X6_faultOfNewRule, if_neg h1_0, if_neg h1_1, if_pos h1_2]).symm, ht⟩) (fun q hq => absurd hq List.not_mem_nil) dX6_faultOfNewRule_52
      · refine lv_tableOut (tgt := 53) hx hb dX6_faultOfNewRule_1 (by have t0 : x0.toInt ≠ 0 := my_ne h1_0 rfl; have t1 : x0.toInt ≠ 1 := my_ne h1_1 rfl; have t2 : x0.toInt ≠ 2 := my_ne h1_2 rfl; omega) (by decide) ?_
        refine lv_iconst (v := 2) hx hb dX6_faultOfNewRule_53 (by decide) ?_
        exact W.iret hx hb hr (fun t ht hW => ⟨2, rfl, (show f_X6_faultOfNewRule v x0 x1 = 2 from by rw [f_X6_faultOfNewRule, if_neg h1_0, if_neg h1_1, if_neg h1_2]).symm, ht⟩) (fun q hq => absurd hq List.not_mem_nil) dX6_faultOfNewRule_54
theorem hd_X6_mayFollow_S : yX6_mayFollow.cls ≠ "java/lang/invoke/MethodHandle" ∧ yX6_mayFollow.cls ≠ "java/lang/invoke/VarHandle" ∧ (parseMethodDescriptor yX6_mayFollow.desc).map (fun d => d.parameters.length) = some 2 := by decide +kernel
theorem hd_X6_mayFollow_V : yX6_mayFollow.cls = RX6 ∧ yX6_mayFollow.cls ≠ "java/lang/invoke/MethodHandle" ∧ yX6_mayFollow.cls ≠ "java/lang/invoke/VarHandle" ∧ (parseMethodDescriptor yX6_mayFollow.desc).map (fun d => d.parameters.length) = some 2 := ⟨rfl, hd_X6_mayFollow_S⟩
def f_X6_mayFollow (v : SetV) (x0 : Int32) (x1 : Int32) : Int32 := (if (f_X6_isPlayer v x0) = 0 then 0 else (if (f_X6_blocOf v x0) = (1 <<< (x0 &&& 31)) then (if (f_X6_isPlayer v x1) = 0 then 0 else 1) else 0))
theorem z_X6_mayFollow (v : SetV) (x0 : Int32) (x1 : Int32) : f_X6_mayFollow v x0 x1 = 0 ∨ f_X6_mayFollow v x0 x1 = 1 := by
  unfold f_X6_mayFollow
  repeat' split
  all_goals first | exact Or.inl rfl | exact Or.inr rfl | exact z_X6_isPlayer _ _
set_option maxHeartbeats 400000 in
set_option maxRecDepth 100000 in
theorem c_X6_mayFollow (l : Launch) (D : va_G) (cy : Nat → ClassId) (g : Nat → Nat) (B : Nat) (a : Nat → Nat) (v : SetV) (x0 : Int32) (x1 : Int32) : Met l yX6_mayFollow wsX6_mayFollow ({ frames := 3, cells := 0, slots := 0, locals := 65 }) (rdP D cy g B (wSet cy a v) [.ref (a 0), .int x0, .int x1]) (vp_Si (fun r => r = f_X6_mayFollow v x0 x1)) 0 0 (fun _ => False) := by
  refine Met.ofW (cc := cX6_mayFollow) (maxL := 3) (ret := (some .boolean)) (by decide) rfl ?_
  intro p e s m args below meth c s₁ BB hml hv
  obtain ⟨rfl, hP, hK0⟩ := hv
  have hx := BB.exec
  have hb := BB.bytes
  have hr := BB.returns
  have hts := atoms_spec (ws := wsX6_mayFollow) BB.pre
  have hown : s.vm.findClass RX6 = some m.cls := findClass_of_methodNamed BB.named
  have hlocks := BB.notSynchronized
  have S := my_fix hx hb hml hown hts
  have hS : va_S (fun q => B ≤ q) s.heap s.heap [] := va_S.rf
  have hAB : ∀ q : Nat, (fun q => B ≤ q) q → B ≤ q := fun _ h => h
  have hl := lv_entry ([.ref (a 0), .int x0, .int x1]) (n := 3) (Nat.le_of_ble_eq_true rfl)
  rw [lg_entry_eq]
  generalize (lg_sl ([.ref (a 0), .int x0, .int x1]) ++ List.replicate (3 - (lg_sl ([.ref (a 0), .int x0, .int x1])).length) Slot.unset).toArray = ls at hl ⊢
  have hl : lv_has ls 3 [(0, .ref (a 0)), (1, .int x0), (2, .int x1)] := hl
  refine lv_aload_n hx hb dX6_mayFollow_0 rfl (lv_at hl 0 rfl) ?_
  refine lv_iload_n hx hb dX6_mayFollow_1 rfl (lv_at hl 1 rfl) ?_
  refine rd_goi (va_runV (C := RX6) (As := [.int x0]) (rest := []) S (c_X6_isPlayer l D cy g B a v x0) (cwV 1 hts gX6_mayFollow_X6_isPlayer rfl rfl rfl hd_X6_isPlayer_V ⟨Nat.le_of_ble_eq_true rfl, Nat.le_of_ble_eq_true rfl⟩) ⟨rdP_blind, va_recv hK0.1 hP (ci := 4) (q0 := 0) rfl rfl, my_preP hK0 hS hAB hP⟩ rfl rfl hl.1 rfl (lv_room (Nat.le_of_ble_eq_true rfl)) dX6_mayFollow_2 ⟨Nat.zero_le _, Nat.zero_le _⟩) ?_
  refine lv_if_eq (tgt := 31) hx hb dX6_mayFollow_5 (by decide) (fun c_1 => ?_) (fun c_1 => ?_)
  · refine lv_iconst (v := 0) hx hb dX6_mayFollow_31 (by decide) ?_
    exact W.zret (ty := .boolean) (v := 0) hx hb hr (my_nz (by decide)) (fun t ht hW => ⟨0, rfl, (show f_X6_mayFollow v x0 x1 = 0 from by rw [f_X6_mayFollow, if_pos c_1]).symm, ht⟩) (fun q hq => absurd hq List.not_mem_nil) dX6_mayFollow_32
  · refine lv_aload_n hx hb dX6_mayFollow_8 rfl (lv_at hl 0 rfl) ?_
    refine lv_iload_n hx hb dX6_mayFollow_9 rfl (lv_at hl 1 rfl) ?_
    refine rd_goi (va_runV (C := RX6) (As := [.int x0]) (rest := []) S (c_X6_blocOf l D cy g B a v x0) (cwV 1 hts gX6_mayFollow_X6_blocOf rfl rfl rfl hd_X6_blocOf_V ⟨Nat.le_of_ble_eq_true rfl, Nat.le_of_ble_eq_true rfl⟩) ⟨rdP_blind, va_recv hK0.1 hP (ci := 4) (q0 := 0) rfl rfl, my_preP hK0 hS hAB hP⟩ rfl rfl hl.1 rfl (lv_room (Nat.le_of_ble_eq_true rfl)) dX6_mayFollow_10 ⟨Nat.zero_le _, Nat.zero_le _⟩) ?_
    refine lv_iconst (v := 1) hx hb dX6_mayFollow_13 (by decide) ?_
    refine lv_iload_n hx hb dX6_mayFollow_14 rfl (lv_at hl 1 rfl) ?_
    refine lv_ishl hx hb dX6_mayFollow_15 ?_
    refine lv_icmp_ne (tgt := 31) hx hb dX6_mayFollow_16 (by decide) (fun c_2 => ?_) (fun c_2 => ?_)
    · refine lv_iconst (v := 0) hx hb dX6_mayFollow_31 (by decide) ?_
      exact W.zret (ty := .boolean) (v := 0) hx hb hr (my_nz (by decide)) (fun t ht hW => ⟨0, rfl, (show f_X6_mayFollow v x0 x1 = 0 from by rw [f_X6_mayFollow, if_neg c_1, if_neg c_2]).symm, ht⟩) (fun q hq => absurd hq List.not_mem_nil) dX6_mayFollow_32
    · refine lv_aload_n hx hb dX6_mayFollow_19 rfl (lv_at hl 0 rfl) ?_
      refine lv_iload_n hx hb dX6_mayFollow_20 rfl (lv_at hl 2 rfl) ?_
      refine rd_goi (va_runV (C := RX6) (As := [.int x1]) (rest := []) S (c_X6_isPlayer l D cy g B a v x1) (cwV 1 hts gX6_mayFollow_X6_isPlayer rfl rfl rfl hd_X6_isPlayer_V ⟨Nat.le_of_ble_eq_true rfl, Nat.le_of_ble_eq_true rfl⟩) ⟨rdP_blind, va_recv hK0.1 hP (ci := 4) (q0 := 0) rfl rfl, my_preP hK0 hS hAB hP⟩ rfl rfl hl.1 rfl (lv_room (Nat.le_of_ble_eq_true rfl)) dX6_mayFollow_21 ⟨Nat.zero_le _, Nat.zero_le _⟩) ?_
      refine lv_if_eq (tgt := 31) hx hb dX6_mayFollow_24 (by decide) (fun c_3 => ?_) (fun c_3 => ?_)
      · refine lv_iconst (v := 0) hx hb dX6_mayFollow_31 (by decide) ?_
        exact W.zret (ty := .boolean) (v := 0) hx hb hr (my_nz (by decide)) (fun t ht hW => ⟨0, rfl, (show f_X6_mayFollow v x0 x1 = 0 from by rw [f_X6_mayFollow, if_neg c_1, if_pos c_2, if_pos c_3]).symm, ht⟩) (fun q hq => absurd hq List.not_mem_nil) dX6_mayFollow_32
      · refine lv_iconst (v := 1) hx hb dX6_mayFollow_27 (by decide) ?_
        refine lv_goto (tgt := 32) hx hb dX6_mayFollow_28 (by decide) ?_
        exact W.zret (ty := .boolean) (v := 1) hx hb hr (my_nz (by decide)) (fun t ht hW => ⟨1, rfl, (show f_X6_mayFollow v x0 x1 = 1 from by rw [f_X6_mayFollow, if_neg c_1, if_pos c_2, if_neg c_3]).symm, ht⟩) (fun q hq => absurd hq List.not_mem_nil) dX6_mayFollow_32
theorem hd_X6_memberValue_S : yX6_memberValue.cls ≠ "java/lang/invoke/MethodHandle" ∧ yX6_memberValue.cls ≠ "java/lang/invoke/VarHandle" ∧ (parseMethodDescriptor yX6_memberValue.desc).map (fun d => d.parameters.length) = some 2 := by decide +kernel
theorem hd_X6_memberValue_V : yX6_memberValue.cls = RX6 ∧ yX6_memberValue.cls ≠ "java/lang/invoke/MethodHandle" ∧ yX6_memberValue.cls ≠ "java/lang/invoke/VarHandle" ∧ (parseMethodDescriptor yX6_memberValue.desc).map (fun d => d.parameters.length) = some 2 := ⟨rfl, hd_X6_memberValue_S⟩
def f_X6_memberValue (v : SetV) (x0 : Int32) (x1 : Int32) : Int32 := (if x1 = 0 then (rAt 8 v.2.2.2.1 x0) else (if x1 = 1 then (rAt 8 v.2.2.2.2.1 x0) else (if x1 = 2 then (if (f_X6_isPlayer v x0) = 0 then 0 else ((f_J6_bitCount_0f7a4 (f_X6_blocOf v x0)) - 1)) else (f_X6_weightOf v (f_X6_blocOf v x0)))))
set_option maxHeartbeats 400000 in
set_option maxRecDepth 100000 in
theorem c_X6_memberValue (l : Launch) (D : va_G) (cy : Nat → ClassId) (g : Nat → Nat) (B : Nat) (a : Nat → Nat) (v : SetV) (x0 : Int32) (x1 : Int32) : Met l yX6_memberValue wsX6_memberValue ({ frames := 3, cells := 0, slots := 0, locals := 65 }) (rdP D cy g B (wSet cy a v) [.ref (a 0), .int x0, .int x1]) (vp_Si (fun r => r = f_X6_memberValue v x0 x1)) 0 0 (fun _ => False) := by
  refine Met.ofW (cc := cX6_memberValue) (maxL := 3) (ret := (some .int)) (by decide) rfl ?_
  intro p e s m args below meth c s₁ BB hml hv
  obtain ⟨rfl, hP, hK0⟩ := hv
  have hx := BB.exec
  have hb := BB.bytes
  have hr := BB.returns
  have hts := atoms_spec (ws := wsX6_memberValue) BB.pre
  have hown : s.vm.findClass RX6 = some m.cls := findClass_of_methodNamed BB.named
  have hlocks := BB.notSynchronized
  have S := my_fix hx hb hml hown hts
  have inX6 : ∀ w ∈ wsX60, w ∈ wsX6_memberValue := fun w h => List.mem_cons_of_mem _ (List.mem_append_left _ (List.mem_append_right _ h))
  have hS : va_S (fun q => B ≤ q) s.heap s.heap [] := va_S.rf
  have hAB : ∀ q : Nat, (fun q => B ≤ q) q → B ≤ q := fun _ h => h
  have hl := lv_entry ([.ref (a 0), .int x0, .int x1]) (n := 3) (Nat.le_of_ble_eq_true rfl)
  rw [lg_entry_eq]
  generalize (lg_sl ([.ref (a 0), .int x0, .int x1]) ++ List.replicate (3 - (lg_sl ([.ref (a 0), .int x0, .int x1])).length) Slot.unset).toArray = ls at hl ⊢
  have hl : lv_has ls 3 [(0, .ref (a 0)), (1, .int x0), (2, .int x1)] := hl
  refine lv_iload_n hx hb dX6_memberValue_0 rfl (lv_at hl 2 rfl) ?_
  by_cases h1_0 : x1 = 0
  · refine lv_tableIn (off := 27) (tgt := 28) hx hb dX6_memberValue_1 (by rw [h1_0]; decide) (by rw [h1_0]; decide) (by rw [h1_0]; rfl) (by decide) ?_
    refine lv_aload_n hx hb dX6_memberValue_28 rfl (lv_at hl 0 rfl) ?_
    refine va_get (D := D) (ci := 4) (v := .ref (a 1)) (C := RX6) (T := TX6) (N := 7) hx hb hts inX6 hown hK0.1 hP 0 rfl rfl 1 (by decide) (hts (.fieldLink RX6 14 "PivotChamber$Setting" "weights" "LPivotChamber$Row;") (List.mem_of_getElem? (i := 1) rfl)) (fun _ h9 => h9) rfl dX6_memberValue_29 ?_
    refine lv_iload_n hx hb dX6_memberValue_32 rfl (lv_at hl 1 rfl) ?_
    refine rd_goi (va_runV (C := RX4) (As := [.int x0]) (rest := []) S (c_X4_at l D cy g B (a 1) (a 2) 8 v.2.2.2.1 x0 (by decide)) (cwV 1 hts gX6_memberValue_X4_at rfl rfl rfl hd_X4_at_V ⟨Nat.le_of_ble_eq_true rfl, Nat.le_of_ble_eq_true rfl⟩) ⟨rdP_blind, va_recv hK0.1 hP (ci := 2) (q0 := 1) rfl rfl, my_preV hK0 hS hAB hP [1, 2] rfl⟩ rfl rfl hl.1 rfl (lv_room (Nat.le_of_ble_eq_true rfl)) dX6_memberValue_33 ⟨Nat.zero_le _, Nat.zero_le _⟩) ?_
    exact W.iret hx hb hr (fun t ht hW => ⟨(rAt 8 v.2.2.2.1 x0), rfl, (show f_X6_memberValue v x0 x1 = (rAt 8 v.2.2.2.1 x0) from by rw [f_X6_memberValue, if_pos h1_0]).symm, ht⟩) (fun q hq => absurd hq List.not_mem_nil) dX6_memberValue_36
  · by_cases h1_1 : x1 = 1
    · refine lv_tableIn (off := 36) (tgt := 37) hx hb dX6_memberValue_1 (by rw [h1_1]; decide) (by rw [h1_1]; decide) (by rw [h1_1]; rfl) (by decide) ?_
      refine lv_aload_n hx hb dX6_memberValue_37 rfl (lv_at hl 0 rfl) ?_
      refine va_get (D := D) (ci := 4) (v := .ref (a 3)) (C := RX6) (T := TX6) (N := 7) hx hb hts inX6 hown hK0.1 hP 0 rfl rfl 2 (by decide) (hts (.fieldLink RX6 20 "PivotChamber$Setting" "leaders" "LPivotChamber$Row;") (List.mem_of_getElem? (i := 2) rfl)) (fun _ h9 => h9) rfl dX6_memberValue_38 ?_
      refine lv_iload_n hx hb dX6_memberValue_41 rfl (lv_at hl 1 rfl) ?_
      refine rd_goi (va_runV (C := RX4) (As := [.int x0]) (rest := []) S (c_X4_at l D cy g B (a 3) (a 4) 8 v.2.2.2.2.1 x0 (by decide)) (cwV 1 hts gX6_memberValue_X4_at rfl rfl rfl hd_X4_at_V ⟨Nat.le_of_ble_eq_true rfl, Nat.le_of_ble_eq_true rfl⟩) ⟨rdP_blind, va_recv hK0.1 hP (ci := 2) (q0 := 3) rfl rfl, my_preV hK0 hS hAB hP [3, 4] rfl⟩ rfl rfl hl.1 rfl (lv_room (Nat.le_of_ble_eq_true rfl)) dX6_memberValue_42 ⟨Nat.zero_le _, Nat.zero_le _⟩) ?_
      exact W.iret hx hb hr (fun t ht hW => ⟨(rAt 8 v.2.2.2.2.1 x0), rfl, (show f_X6_memberValue v x0 x1 = (rAt 8 v.2.2.2.2.1 x0) from by rw [f_X6_memberValue, if_neg h1_0, if_pos h1_1]).symm, ht⟩) (fun q hq => absurd hq List.not_mem_nil) dX6_memberValue_45
    · by_cases h1_2 : x1 = 2
      · refine lv_tableIn (off := 45) (tgt := 46) hx hb dX6_memberValue_1 (by rw [h1_2]; decide) (by rw [h1_2]; decide) (by rw [h1_2]; rfl) (by decide) ?_
        refine lv_aload_n hx hb dX6_memberValue_46 rfl (lv_at hl 0 rfl) ?_
        refine lv_iload_n hx hb dX6_memberValue_47 rfl (lv_at hl 1 rfl) ?_
        refine rd_goi (va_runV (C := RX6) (As := [.int x0]) (rest := []) S (c_X6_isPlayer l D cy g B a v x0) (cwV 1 hts gX6_memberValue_X6_isPlayer rfl rfl rfl hd_X6_isPlayer_V ⟨Nat.le_of_ble_eq_true rfl, Nat.le_of_ble_eq_true rfl⟩) ⟨rdP_blind, va_recv hK0.1 hP (ci := 4) (q0 := 0) rfl rfl, my_preP hK0 hS hAB hP⟩ rfl rfl hl.1 rfl (lv_room (Nat.le_of_ble_eq_true rfl)) dX6_memberValue_48 ⟨Nat.zero_le _, Nat.zero_le _⟩) ?_
        refine lv_if_eq (tgt := 67) hx hb dX6_memberValue_51 (by decide) (fun c_1 => ?_) (fun c_1 => ?_)
        · refine lv_iconst (v := 0) hx hb dX6_memberValue_67 (by decide) ?_
          exact W.iret hx hb hr (fun t ht hW => ⟨0, rfl, (show f_X6_memberValue v x0 x1 = 0 from by rw [f_X6_memberValue, if_neg h1_0, if_neg h1_1, if_pos h1_2, if_pos c_1]).symm, ht⟩) (fun q hq => absurd hq List.not_mem_nil) dX6_memberValue_68
        · refine lv_aload_n hx hb dX6_memberValue_54 rfl (lv_at hl 0 rfl) ?_
          refine lv_iload_n hx hb dX6_memberValue_55 rfl (lv_at hl 1 rfl) ?_
          refine rd_goi (va_runV (C := RX6) (As := [.int x0]) (rest := []) S (c_X6_blocOf l D cy g B a v x0) (cwV 1 hts gX6_memberValue_X6_blocOf rfl rfl rfl hd_X6_blocOf_V ⟨Nat.le_of_ble_eq_true rfl, Nat.le_of_ble_eq_true rfl⟩) ⟨rdP_blind, va_recv hK0.1 hP (ci := 4) (q0 := 0) rfl rfl, my_preP hK0 hS hAB hP⟩ rfl rfl hl.1 rfl (lv_room (Nat.le_of_ble_eq_true rfl)) dX6_memberValue_56 ⟨Nat.zero_le _, Nat.zero_le _⟩) ?_
          refine rd_goi (va_runS (As := [.int (f_X6_blocOf v x0)]) (rest := []) S (c_J6_bitCount_0f7a4 l D cy g B (f_X6_blocOf v x0)) (va_cwS 1 hts gX6_memberValue_J6_bitCount_0f7a4 rfl rfl rfl hd_J6_bitCount_0f7a4_S ⟨Nat.le_of_ble_eq_true rfl, Nat.le_of_ble_eq_true rfl⟩) ⟨rdP_blind, my_preV hK0 hS hAB hP [] rfl⟩ rfl rfl hl.1 rfl (lv_room (Nat.le_of_ble_eq_true rfl)) dX6_memberValue_59 ⟨Nat.zero_le _, Nat.zero_le _⟩) ?_
          refine lv_iconst (v := 1) hx hb dX6_memberValue_62 (by decide) ?_
          refine lv_isub hx hb dX6_memberValue_63 ?_
          refine lv_goto (tgt := 68) hx hb dX6_memberValue_64 (by decide) ?_
          exact W.iret hx hb hr (fun t ht hW => ⟨((f_J6_bitCount_0f7a4 (f_X6_blocOf v x0)) - 1), rfl, (show f_X6_memberValue v x0 x1 = ((f_J6_bitCount_0f7a4 (f_X6_blocOf v x0)) - 1) from by rw [f_X6_memberValue, if_neg h1_0, if_neg h1_1, if_pos h1_2, if_neg c_1]).symm, ht⟩) (fun q hq => absurd hq List.not_mem_nil) dX6_memberValue_68
      · refine lv_tableOut (tgt := 69) hx hb dX6_memberValue_1 (by have t0 : x1.toInt ≠ 0 := my_ne h1_0 rfl; have t1 : x1.toInt ≠ 1 := my_ne h1_1 rfl; have t2 : x1.toInt ≠ 2 := my_ne h1_2 rfl; omega) (by decide) ?_
        refine lv_aload_n hx hb dX6_memberValue_69 rfl (lv_at hl 0 rfl) ?_
        refine lv_aload_n hx hb dX6_memberValue_70 rfl (lv_at hl 0 rfl) ?_
        refine lv_iload_n hx hb dX6_memberValue_71 rfl (lv_at hl 1 rfl) ?_
        refine rd_goi (va_runV (C := RX6) (As := [.int x0]) (rest := [.ref (a 0)]) S (c_X6_blocOf l D cy g B a v x0) (cwV 1 hts gX6_memberValue_X6_blocOf rfl rfl rfl hd_X6_blocOf_V ⟨Nat.le_of_ble_eq_true rfl, Nat.le_of_ble_eq_true rfl⟩) ⟨rdP_blind, va_recv hK0.1 hP (ci := 4) (q0 := 0) rfl rfl, my_preP hK0 hS hAB hP⟩ rfl rfl hl.1 rfl (lv_room (Nat.le_of_ble_eq_true rfl)) dX6_memberValue_72 ⟨Nat.zero_le _, Nat.zero_le _⟩) ?_
        refine rd_goi (va_runV (C := RX6) (As := [.int (f_X6_blocOf v x0)]) (rest := []) S (c_X6_weightOf l D cy g B a v (f_X6_blocOf v x0)) (cwV 1 hts gX6_memberValue_X6_weightOf rfl rfl rfl hd_X6_weightOf_V ⟨Nat.le_of_ble_eq_true rfl, Nat.le_of_ble_eq_true rfl⟩) ⟨rdP_blind, va_recv hK0.1 hP (ci := 4) (q0 := 0) rfl rfl, my_preP hK0 hS hAB hP⟩ rfl rfl hl.1 rfl (lv_room (Nat.le_of_ble_eq_true rfl)) dX6_memberValue_75 ⟨Nat.zero_le _, Nat.zero_le _⟩) ?_
        exact W.iret hx hb hr (fun t ht hW => ⟨(f_X6_weightOf v (f_X6_blocOf v x0)), rfl, (show f_X6_memberValue v x0 x1 = (f_X6_weightOf v (f_X6_blocOf v x0)) from by rw [f_X6_memberValue, if_neg h1_0, if_neg h1_1, if_neg h1_2]).symm, ht⟩) (fun q hq => absurd hq List.not_mem_nil) dX6_memberValue_78
theorem hd_X6_ruleValue_S : yX6_ruleValue.cls ≠ "java/lang/invoke/MethodHandle" ∧ yX6_ruleValue.cls ≠ "java/lang/invoke/VarHandle" ∧ (parseMethodDescriptor yX6_ruleValue.desc).map (fun d => d.parameters.length) = some 2 := by decide +kernel
theorem hd_X6_ruleValue_V : yX6_ruleValue.cls = RX6 ∧ yX6_ruleValue.cls ≠ "java/lang/invoke/MethodHandle" ∧ yX6_ruleValue.cls ≠ "java/lang/invoke/VarHandle" ∧ (parseMethodDescriptor yX6_ruleValue.desc).map (fun d => d.parameters.length) = some 2 := ⟨rfl, hd_X6_ruleValue_S⟩
def f_X6_ruleValue (v : SetV) (x0 : Int32) (x1 : Int32) : Int32 := (if x1 = 0 then (rAt 4 v.2.2.2.2.2.1 x0) else (if x1 = 1 then (rAt 4 v.2.2.2.2.2.2 x0) else (if (f_X6_isKept v x0 (f_X6_everybody v)) = 0 then 0 else 1)))
set_option maxHeartbeats 400000 in
set_option maxRecDepth 100000 in
theorem c_X6_ruleValue (l : Launch) (D : va_G) (cy : Nat → ClassId) (g : Nat → Nat) (B : Nat) (a : Nat → Nat) (v : SetV) (x0 : Int32) (x1 : Int32) : Met l yX6_ruleValue wsX6_ruleValue ({ frames := 2, cells := 0, slots := 0, locals := 44 }) (rdP D cy g B (wSet cy a v) [.ref (a 0), .int x0, .int x1]) (vp_Si (fun r => r = f_X6_ruleValue v x0 x1)) 0 0 (fun _ => False) := by
  refine Met.ofW (cc := cX6_ruleValue) (maxL := 3) (ret := (some .int)) (by decide) rfl ?_
  intro p e s m args below meth c s₁ BB hml hv
  obtain ⟨rfl, hP, hK0⟩ := hv
  have hx := BB.exec
  have hb := BB.bytes
  have hr := BB.returns
  have hts := atoms_spec (ws := wsX6_ruleValue) BB.pre
  have hown : s.vm.findClass RX6 = some m.cls := findClass_of_methodNamed BB.named
  have hlocks := BB.notSynchronized
  have S := my_fix hx hb hml hown hts
  have inX6 : ∀ w ∈ wsX60, w ∈ wsX6_ruleValue := fun w h => List.mem_cons_of_mem _ (List.mem_append_left _ (List.mem_append_right _ h))
  have hS : va_S (fun q => B ≤ q) s.heap s.heap [] := va_S.rf
  have hAB : ∀ q : Nat, (fun q => B ≤ q) q → B ≤ q := fun _ h => h
  have hl := lv_entry ([.ref (a 0), .int x0, .int x1]) (n := 3) (Nat.le_of_ble_eq_true rfl)
  rw [lg_entry_eq]
  generalize (lg_sl ([.ref (a 0), .int x0, .int x1]) ++ List.replicate (3 - (lg_sl ([.ref (a 0), .int x0, .int x1])).length) Slot.unset).toArray = ls at hl ⊢
  have hl : lv_has ls 3 [(0, .ref (a 0)), (1, .int x0), (2, .int x1)] := hl
  refine lv_iload_n hx hb dX6_ruleValue_0 rfl (lv_at hl 2 rfl) ?_
  by_cases h1_0 : x1 = 0
  · refine lv_lookup (off := 27) (tgt := 28) hx hb dX6_ruleValue_1 (by decide) (by rw [h1_0]; rfl) (by decide) ?_
    refine lv_aload_n hx hb dX6_ruleValue_28 rfl (lv_at hl 0 rfl) ?_
    refine va_get (D := D) (ci := 4) (v := .ref (a 5)) (C := RX6) (T := TX6) (N := 7) hx hb hts inX6 hown hK0.1 hP 0 rfl rfl 5 (by decide) (hts (.fieldLink RX6 27 "PivotChamber$Setting" "kinds" "LPivotChamber$Row;") (List.mem_of_getElem? (i := 1) rfl)) (fun _ h9 => h9) rfl dX6_ruleValue_29 ?_
    refine lv_iload_n hx hb dX6_ruleValue_32 rfl (lv_at hl 1 rfl) ?_
    refine rd_goi (va_runV (C := RX4) (As := [.int x0]) (rest := []) S (c_X4_at l D cy g B (a 5) (a 6) 4 v.2.2.2.2.2.1 x0 (by decide)) (cwV 1 hts gX6_ruleValue_X4_at rfl rfl rfl hd_X4_at_V ⟨Nat.le_of_ble_eq_true rfl, Nat.le_of_ble_eq_true rfl⟩) ⟨rdP_blind, va_recv hK0.1 hP (ci := 2) (q0 := 5) rfl rfl, my_preV hK0 hS hAB hP [5, 6] rfl⟩ rfl rfl hl.1 rfl (lv_room (Nat.le_of_ble_eq_true rfl)) dX6_ruleValue_33 ⟨Nat.zero_le _, Nat.zero_le _⟩) ?_
    exact W.iret hx hb hr (fun t ht hW => ⟨(rAt 4 v.2.2.2.2.2.1 x0), rfl, (show f_X6_ruleValue v x0 x1 = (rAt 4 v.2.2.2.2.2.1 x0) from by rw [f_X6_ruleValue, if_pos h1_0]).symm, ht⟩) (fun q hq => absurd hq List.not_mem_nil) dX6_ruleValue_36
  · by_cases h1_1 : x1 = 1
    · refine lv_lookup (off := 36) (tgt := 37) hx hb dX6_ruleValue_1 (by decide) (by rw [h1_1]; rfl) (by decide) ?_
      refine lv_aload_n hx hb dX6_ruleValue_37 rfl (lv_at hl 0 rfl) ?_
      refine va_get (D := D) (ci := 4) (v := .ref (a 7)) (C := RX6) (T := TX6) (N := 7) hx hb hts inX6 hown hK0.1 hP 0 rfl rfl 6 (by decide) (hts (.fieldLink RX6 30 "PivotChamber$Setting" "values" "LPivotChamber$Row;") (List.mem_of_getElem? (i := 2) rfl)) (fun _ h9 => h9) rfl dX6_ruleValue_38 ?_
      refine lv_iload_n hx hb dX6_ruleValue_41 rfl (lv_at hl 1 rfl) ?_
      refine rd_goi (va_runV (C := RX4) (As := [.int x0]) (rest := []) S (c_X4_at l D cy g B (a 7) (a 8) 4 v.2.2.2.2.2.2 x0 (by decide)) (cwV 1 hts gX6_ruleValue_X4_at rfl rfl rfl hd_X4_at_V ⟨Nat.le_of_ble_eq_true rfl, Nat.le_of_ble_eq_true rfl⟩) ⟨rdP_blind, va_recv hK0.1 hP (ci := 2) (q0 := 7) rfl rfl, my_preV hK0 hS hAB hP [7, 8] rfl⟩ rfl rfl hl.1 rfl (lv_room (Nat.le_of_ble_eq_true rfl)) dX6_ruleValue_42 ⟨Nat.zero_le _, Nat.zero_le _⟩) ?_
      exact W.iret hx hb hr (fun t ht hW => ⟨(rAt 4 v.2.2.2.2.2.2 x0), rfl, (show f_X6_ruleValue v x0 x1 = (rAt 4 v.2.2.2.2.2.2 x0) from by rw [f_X6_ruleValue, if_neg h1_0, if_pos h1_1]).symm, ht⟩) (fun q hq => absurd hq List.not_mem_nil) dX6_ruleValue_45
    · refine lv_lookup (off := 45) (tgt := 46) hx hb dX6_ruleValue_1 (by decide) ((lv_osw h1_0 rfl).trans ((lv_osw h1_1 rfl).trans (rfl))) (by decide) ?_
      refine lv_aload_n hx hb dX6_ruleValue_46 rfl (lv_at hl 0 rfl) ?_
      refine lv_iload_n hx hb dX6_ruleValue_47 rfl (lv_at hl 1 rfl) ?_
      refine lv_aload_n hx hb dX6_ruleValue_48 rfl (lv_at hl 0 rfl) ?_
      refine rd_goi (va_runV (C := RX6) (As := []) (rest := [.int x0, .ref (a 0)]) S (c_X6_everybody l D cy g B a v) (cwV 0 hts gX6_ruleValue_X6_everybody rfl rfl rfl hd_X6_everybody_V ⟨Nat.le_of_ble_eq_true rfl, Nat.le_of_ble_eq_true rfl⟩) ⟨rdP_blind, va_recv hK0.1 hP (ci := 4) (q0 := 0) rfl rfl, my_preP hK0 hS hAB hP⟩ rfl rfl hl.1 rfl (lv_room (Nat.le_of_ble_eq_true rfl)) dX6_ruleValue_49 ⟨Nat.zero_le _, Nat.zero_le _⟩) ?_
      refine rd_goi (va_runV (C := RX6) (As := [.int x0, .int (f_X6_everybody v)]) (rest := []) S (c_X6_isKept l D cy g B a v x0 (f_X6_everybody v)) (cwV 2 hts gX6_ruleValue_X6_isKept rfl rfl rfl hd_X6_isKept_V ⟨Nat.le_of_ble_eq_true rfl, Nat.le_of_ble_eq_true rfl⟩) ⟨rdP_blind, va_recv hK0.1 hP (ci := 4) (q0 := 0) rfl rfl, my_preP hK0 hS hAB hP⟩ rfl rfl hl.1 rfl (lv_room (Nat.le_of_ble_eq_true rfl)) dX6_ruleValue_52 ⟨Nat.zero_le _, Nat.zero_le _⟩) ?_
      refine lv_if_eq (tgt := 62) hx hb dX6_ruleValue_55 (by decide) (fun c_1 => ?_) (fun c_1 => ?_)
      · refine lv_iconst (v := 0) hx hb dX6_ruleValue_62 (by decide) ?_
        exact W.iret hx hb hr (fun t ht hW => ⟨0, rfl, (show f_X6_ruleValue v x0 x1 = 0 from by rw [f_X6_ruleValue, if_neg h1_0, if_neg h1_1, if_pos c_1]).symm, ht⟩) (fun q hq => absurd hq List.not_mem_nil) dX6_ruleValue_63
      · refine lv_iconst (v := 1) hx hb dX6_ruleValue_58 (by decide) ?_
        refine lv_goto (tgt := 63) hx hb dX6_ruleValue_59 (by decide) ?_
        exact W.iret hx hb hr (fun t ht hW => ⟨1, rfl, (show f_X6_ruleValue v x0 x1 = 1 from by rw [f_X6_ruleValue, if_neg h1_0, if_neg h1_1, if_neg c_1]).symm, ht⟩) (fun q hq => absurd hq List.not_mem_nil) dX6_ruleValue_63
theorem hd_X6_rulesLikeTheFirst_S : yX6_rulesLikeTheFirst.cls ≠ "java/lang/invoke/MethodHandle" ∧ yX6_rulesLikeTheFirst.cls ≠ "java/lang/invoke/VarHandle" ∧ (parseMethodDescriptor yX6_rulesLikeTheFirst.desc).map (fun d => d.parameters.length) = some 0 := by decide +kernel
theorem hd_X6_rulesLikeTheFirst_V : yX6_rulesLikeTheFirst.cls = RX6 ∧ yX6_rulesLikeTheFirst.cls ≠ "java/lang/invoke/MethodHandle" ∧ yX6_rulesLikeTheFirst.cls ≠ "java/lang/invoke/VarHandle" ∧ (parseMethodDescriptor yX6_rulesLikeTheFirst.desc).map (fun d => d.parameters.length) = some 0 := ⟨rfl, hd_X6_rulesLikeTheFirst_S⟩
def f_X6_rulesLikeTheFirst_st (v : SetV) (i1_1 : Int32) (i2_2 : Int32) : (Int32 × Int32) ⊕ (Int32 × Int32) := (if v.2.2.1 ≤ i2_2 then (.inr (i1_1, i2_2)) else (if (rAt 4 v.2.2.2.2.2.1 i2_2) = (rAt 4 v.2.2.2.2.2.1 0) then (.inl ((i1_1 + 1), (i2_2 + 1))) else (.inl (i1_1, (i2_2 + 1)))))
def f_X6_rulesLikeTheFirst (v : SetV) : Int32 := (my_t2 (lp (fun (x : Int32 × Int32) => f_X6_rulesLikeTheFirst_st v x.1 x.2) default (((v.2.2.1 : Int32).toInt - (0 : Int32).toInt).toNat + 1) (0, 0)) (fun (i1_1 : Int32) (i2_2 : Int32) => i1_1))
set_option maxHeartbeats 400000 in
set_option maxRecDepth 100000 in
theorem c_X6_rulesLikeTheFirst (l : Launch) (D : va_G) (cy : Nat → ClassId) (g : Nat → Nat) (B : Nat) (a : Nat → Nat) (v : SetV) : Met l yX6_rulesLikeTheFirst wsX6_rulesLikeTheFirst ({ frames := 1, cells := 0, slots := 0, locals := 21 }) (rdP D cy g B (wSet cy a v) [.ref (a 0)]) (vp_Si (fun r => r = f_X6_rulesLikeTheFirst v)) 0 0 (fun _ => False) := by
  refine Met.ofW (cc := cX6_rulesLikeTheFirst) (maxL := 3) (ret := (some .int)) (by decide) rfl ?_
  intro p e s m args below meth c s₁ BB hml hv
  obtain ⟨rfl, hP, hK0⟩ := hv
  have hx := BB.exec
  have hb := BB.bytes
  have hr := BB.returns
  have hts := atoms_spec (ws := wsX6_rulesLikeTheFirst) BB.pre
  have hown : s.vm.findClass RX6 = some m.cls := findClass_of_methodNamed BB.named
  have hlocks := BB.notSynchronized
  have S := my_fix hx hb hml hown hts
  have inX6 : ∀ w ∈ wsX60, w ∈ wsX6_rulesLikeTheFirst := fun w h => List.mem_cons_of_mem _ (List.mem_append_left _ (List.mem_append_right _ h))
  have hS : va_S (fun q => B ≤ q) s.heap s.heap [] := va_S.rf
  have hAB : ∀ q : Nat, (fun q => B ≤ q) q → B ≤ q := fun _ h => h
  have hl := lv_entry ([.ref (a 0)]) (n := 3) (Nat.le_of_ble_eq_true rfl)
  rw [lg_entry_eq]
  generalize (lg_sl ([.ref (a 0)]) ++ List.replicate (3 - (lg_sl ([.ref (a 0)])).length) Slot.unset).toArray = ls at hl ⊢
  have hl : lv_has ls 3 [(0, .ref (a 0))] := hl
  refine lv_iconst (v := 0) hx hb dX6_rulesLikeTheFirst_0 (by decide) ?_
  refine lv_istore_n (lv' := [(1, .int 0), (0, .ref (a 0))]) hx hb dX6_rulesLikeTheFirst_1 rfl hl (by decide) rfl (fun ls hl => ?_)
  refine lv_iconst (v := 0) hx hb dX6_rulesLikeTheFirst_2 (by decide) ?_
  refine lv_istore_n (lv' := [(2, .int 0), (1, .int 0), (0, .ref (a 0))]) hx hb dX6_rulesLikeTheFirst_3 rfl hl (by decide) rfl (fun ls hl => ?_)
  have cont0 : ∀ (i1_1 : Int32) (i2_2 : Int32), lp (fun (x : Int32 × Int32) => f_X6_rulesLikeTheFirst_st v x.1 x.2) default (((v.2.2.1 : Int32).toInt - (0 : Int32).toInt).toNat + 1) (0, 0) = (i1_1, i2_2) → ∀ ls : Array Slot, lv_has ls 3 [(0, .ref (a 0)), (1, .int i1_1), (2, .int i2_2)] → W p l e (headSpec wsX6_rulesLikeTheFirst ({ frames := 1, cells := 0, slots := 0, locals := 21 } : Room)).room s m ([.ref (a 0)] : List Value).toArray below meth c s.heap [] 0 0 (MQ below (vp_Si (fun r => r = f_X6_rulesLikeTheFirst v)) ([.ref (a 0)] : List Value).toArray s 0 0 (fun _ => False)) (F0 m 40 ls []) := by
    intro i1_1 i2_2 hE0 ls hl
    refine lv_iload_n hx hb dX6_rulesLikeTheFirst_40 rfl (lv_at hl 1 rfl) ?_
    exact W.iret hx hb hr (fun t ht hW => ⟨i1_1, rfl, (show f_X6_rulesLikeTheFirst v = i1_1 from by rw [f_X6_rulesLikeTheFirst, hE0, my_t2_eq]).symm, ht⟩) (fun q hq => absurd hq List.not_mem_nil) dX6_rulesLikeTheFirst_41
  have key : ∀ (nf : Nat) (i1_1 : Int32) (i2_2 : Int32), ((v.2.2.1 : Int32).toInt - (i2_2 : Int32).toInt).toNat < nf → lp (fun (x : Int32 × Int32) => f_X6_rulesLikeTheFirst_st v x.1 x.2) default nf (i1_1, i2_2) = lp (fun (x : Int32 × Int32) => f_X6_rulesLikeTheFirst_st v x.1 x.2) default (((v.2.2.1 : Int32).toInt - (0 : Int32).toInt).toNat + 1) (0, 0) → ∀ ls : Array Slot, lv_has ls 3 [(0, .ref (a 0)), (1, .int i1_1), (2, .int i2_2)] → W p l e (headSpec wsX6_rulesLikeTheFirst ({ frames := 1, cells := 0, slots := 0, locals := 21 } : Room)).room s m ([.ref (a 0)] : List Value).toArray below meth c s.heap [] 0 0 (MQ below (vp_Si (fun r => r = f_X6_rulesLikeTheFirst v)) ([.ref (a 0)] : List Value).toArray s 0 0 (fun _ => False)) (F0 m 4 ls []) := by
    intro n0
    induction n0 with
    | zero => intro i1_1 i2_2 hlt; exact absurd hlt (Nat.not_lt_zero _)
    | succ n0 ih0 =>
      intro i1_1 i2_2 hlt0 hF0 ls hl
      refine lv_iload_n hx hb dX6_rulesLikeTheFirst_4 rfl (lv_at hl 2 rfl) ?_
      refine lv_aload_n hx hb dX6_rulesLikeTheFirst_5 rfl (lv_at hl 0 rfl) ?_
      refine va_get (D := D) (ci := 4) (v := .int v.2.2.1) (C := RX6) (T := TX6) (N := 7) hx hb hts inX6 hown hK0.1 hP 0 rfl rfl 4 (by decide) (hts (.fieldLink RX6 40 "PivotChamber$Setting" "rules" "I") (List.mem_of_getElem? (i := 1) rfl)) (fun _ h9 => h9) rfl dX6_rulesLikeTheFirst_6 ?_
      refine lv_icmp_ge (tgt := 40) hx hb dX6_rulesLikeTheFirst_9 (by decide) (fun c_3 => ?_) (fun c_3 => ?_)
      · have hst : f_X6_rulesLikeTheFirst_st v i1_1 i2_2 = .inr (i1_1, i2_2) := by rw [f_X6_rulesLikeTheFirst_st, if_pos c_3]
        exact cont0 i1_1 i2_2 (lp_inr hst hF0) _ (lv_sub hl [0, 1, 2] rfl)
      · refine lv_aload_n hx hb dX6_rulesLikeTheFirst_12 rfl (lv_at hl 0 rfl) ?_
        refine va_get (D := D) (ci := 4) (v := .ref (a 5)) (C := RX6) (T := TX6) (N := 7) hx hb hts inX6 hown hK0.1 hP 0 rfl rfl 5 (by decide) (hts (.fieldLink RX6 27 "PivotChamber$Setting" "kinds" "LPivotChamber$Row;") (List.mem_of_getElem? (i := 2) rfl)) (fun _ h9 => h9) rfl dX6_rulesLikeTheFirst_13 ?_
        refine lv_iload_n hx hb dX6_rulesLikeTheFirst_16 rfl (lv_at hl 2 rfl) ?_
        refine rd_goi (va_runV (C := RX4) (As := [.int i2_2]) (rest := []) S (c_X4_at l D cy g B (a 5) (a 6) 4 v.2.2.2.2.2.1 i2_2 (by decide)) (cwV 1 hts gX6_rulesLikeTheFirst_X4_at rfl rfl rfl hd_X4_at_V ⟨Nat.le_of_ble_eq_true rfl, Nat.le_of_ble_eq_true rfl⟩) ⟨rdP_blind, va_recv hK0.1 hP (ci := 2) (q0 := 5) rfl rfl, my_preV hK0 hS hAB hP [5, 6] rfl⟩ rfl rfl hl.1 rfl (lv_room (Nat.le_of_ble_eq_true rfl)) dX6_rulesLikeTheFirst_17 ⟨Nat.zero_le _, Nat.zero_le _⟩) ?_
        refine lv_aload_n hx hb dX6_rulesLikeTheFirst_20 rfl (lv_at hl 0 rfl) ?_
        refine va_get (D := D) (ci := 4) (v := .ref (a 5)) (C := RX6) (T := TX6) (N := 7) hx hb hts inX6 hown hK0.1 hP 0 rfl rfl 5 (by decide) (hts (.fieldLink RX6 27 "PivotChamber$Setting" "kinds" "LPivotChamber$Row;") (List.mem_of_getElem? (i := 2) rfl)) (fun _ h9 => h9) rfl dX6_rulesLikeTheFirst_21 ?_
        refine lv_iconst (v := 0) hx hb dX6_rulesLikeTheFirst_24 (by decide) ?_
        refine rd_goi (va_runV (C := RX4) (As := [.int 0]) (rest := [.int (rAt 4 v.2.2.2.2.2.1 i2_2)]) S (c_X4_at l D cy g B (a 5) (a 6) 4 v.2.2.2.2.2.1 0 (by decide)) (cwV 1 hts gX6_rulesLikeTheFirst_X4_at rfl rfl rfl hd_X4_at_V ⟨Nat.le_of_ble_eq_true rfl, Nat.le_of_ble_eq_true rfl⟩) ⟨rdP_blind, va_recv hK0.1 hP (ci := 2) (q0 := 5) rfl rfl, my_preV hK0 hS hAB hP [5, 6] rfl⟩ rfl rfl hl.1 rfl (lv_room (Nat.le_of_ble_eq_true rfl)) dX6_rulesLikeTheFirst_25 ⟨Nat.zero_le _, Nat.zero_le _⟩) ?_
        refine lv_icmp_ne (tgt := 34) hx hb dX6_rulesLikeTheFirst_28 (by decide) (fun c_4 => ?_) (fun c_4 => ?_)
        · refine lv_iinc (v := (i2_2 + 1)) (lv' := [(2, .int (i2_2 + 1)), (0, .ref (a 0)), (1, .int i1_1)]) hx hb dX6_rulesLikeTheFirst_34 hl (k := 2) rfl rfl (by decide) rfl (fun ls hl => ?_)
          refine lv_goto (tgt := 4) hx hb dX6_rulesLikeTheFirst_37 (by decide) ?_
          have hst : f_X6_rulesLikeTheFirst_st v i1_1 i2_2 = .inl (i1_1, (i2_2 + 1)) := by rw [f_X6_rulesLikeTheFirst_st, if_neg c_3, if_neg c_4]
          have hmu : ((v.2.2.1 : Int32).toInt - ((i2_2 + 1) : Int32).toInt).toNat < ((v.2.2.1 : Int32).toInt - (i2_2 : Int32).toInt).toNat := mu_up c_3
          exact ih0 i1_1 (i2_2 + 1) (Nat.lt_of_lt_of_le hmu (Nat.le_of_lt_succ hlt0)) (lp_inl hst hF0) _ (lv_sub hl [1, 2, 0] rfl)
        · refine lv_iinc (v := (i1_1 + 1)) (lv' := [(1, .int (i1_1 + 1)), (0, .ref (a 0)), (2, .int i2_2)]) hx hb dX6_rulesLikeTheFirst_31 hl (k := 1) rfl rfl (by decide) rfl (fun ls hl => ?_)
          refine lv_iinc (v := (i2_2 + 1)) (lv' := [(2, .int (i2_2 + 1)), (1, .int (i1_1 + 1)), (0, .ref (a 0))]) hx hb dX6_rulesLikeTheFirst_34 hl (k := 2) rfl rfl (by decide) rfl (fun ls hl => ?_)
          refine lv_goto (tgt := 4) hx hb dX6_rulesLikeTheFirst_37 (by decide) ?_
          have hst : f_X6_rulesLikeTheFirst_st v i1_1 i2_2 = .inl ((i1_1 + 1), (i2_2 + 1)) := by rw [f_X6_rulesLikeTheFirst_st, if_neg c_3, if_pos c_4]
          have hmu : ((v.2.2.1 : Int32).toInt - ((i2_2 + 1) : Int32).toInt).toNat < ((v.2.2.1 : Int32).toInt - (i2_2 : Int32).toInt).toNat := mu_up c_3
          exact ih0 (i1_1 + 1) (i2_2 + 1) (Nat.lt_of_lt_of_le hmu (Nat.le_of_lt_succ hlt0)) (lp_inl hst hF0) _ (lv_sub hl [2, 1, 0] rfl)
  exact key (((v.2.2.1 : Int32).toInt - (0 : Int32).toInt).toNat + 1) 0 0 (Nat.lt_succ_self _) rfl _ (lv_sub hl [2, 1, 0] rfl)
theorem hd_X6_wholeValue_S : yX6_wholeValue.cls ≠ "java/lang/invoke/MethodHandle" ∧ yX6_wholeValue.cls ≠ "java/lang/invoke/VarHandle" ∧ (parseMethodDescriptor yX6_wholeValue.desc).map (fun d => d.parameters.length) = some 1 := by decide +kernel
theorem hd_X6_wholeValue_V : yX6_wholeValue.cls = RX6 ∧ yX6_wholeValue.cls ≠ "java/lang/invoke/MethodHandle" ∧ yX6_wholeValue.cls ≠ "java/lang/invoke/VarHandle" ∧ (parseMethodDescriptor yX6_wholeValue.desc).map (fun d => d.parameters.length) = some 1 := ⟨rfl, hd_X6_wholeValue_S⟩
def f_X6_wholeValue (v : SetV) (x0 : Int32) : Int32 := (if x0 = 0 then v.1 else (if x0 = 1 then (f_J6_bitCount_0f7a4 (f_X6_players v)) else (if x0 = 2 then v.2.1 else (if x0 = 3 then v.2.2.1 else (if x0 = 4 then (f_X6_weightOf v (f_X6_everybody v)) else (f_X6_rulesLikeTheFirst v))))))
set_option maxHeartbeats 400000 in
set_option maxRecDepth 100000 in
theorem c_X6_wholeValue (l : Launch) (D : va_G) (cy : Nat → ClassId) (g : Nat → Nat) (B : Nat) (a : Nat → Nat) (v : SetV) (x0 : Int32) : Met l yX6_wholeValue wsX6_wholeValue ({ frames := 3, cells := 0, slots := 0, locals := 64 }) (rdP D cy g B (wSet cy a v) [.ref (a 0), .int x0]) (vp_Si (fun r => r = f_X6_wholeValue v x0)) 0 0 (fun _ => False) := by
  refine Met.ofW (cc := cX6_wholeValue) (maxL := 2) (ret := (some .int)) (by decide) rfl ?_
  intro p e s m args below meth c s₁ BB hml hv
  obtain ⟨rfl, hP, hK0⟩ := hv
  have hx := BB.exec
  have hb := BB.bytes
  have hr := BB.returns
  have hts := atoms_spec (ws := wsX6_wholeValue) BB.pre
  have hown : s.vm.findClass RX6 = some m.cls := findClass_of_methodNamed BB.named
  have hlocks := BB.notSynchronized
  have S := my_fix hx hb hml hown hts
  have inX6 : ∀ w ∈ wsX60, w ∈ wsX6_wholeValue := fun w h => List.mem_cons_of_mem _ (List.mem_append_left _ (List.mem_append_right _ h))
  have hS : va_S (fun q => B ≤ q) s.heap s.heap [] := va_S.rf
  have hAB : ∀ q : Nat, (fun q => B ≤ q) q → B ≤ q := fun _ h => h
  have hl := lv_entry ([.ref (a 0), .int x0]) (n := 2) (Nat.le_of_ble_eq_true rfl)
  rw [lg_entry_eq]
  generalize (lg_sl ([.ref (a 0), .int x0]) ++ List.replicate (2 - (lg_sl ([.ref (a 0), .int x0])).length) Slot.unset).toArray = ls at hl ⊢
  have hl : lv_has ls 2 [(0, .ref (a 0)), (1, .int x0)] := hl
  refine lv_iload_n hx hb dX6_wholeValue_0 rfl (lv_at hl 1 rfl) ?_
  by_cases h1_0 : x0 = 0
  · refine lv_tableIn (off := 35) (tgt := 36) hx hb dX6_wholeValue_1 (by rw [h1_0]; decide) (by rw [h1_0]; decide) (by rw [h1_0]; rfl) (by decide) ?_
    refine lv_aload_n hx hb dX6_wholeValue_36 rfl (lv_at hl 0 rfl) ?_
    refine va_get (D := D) (ci := 4) (v := .int v.1) (C := RX6) (T := TX6) (N := 7) hx hb hts inX6 hown hK0.1 hP 0 rfl rfl 0 (by decide) (hts (.fieldLink RX6 33 "PivotChamber$Setting" "members" "I") (List.mem_of_getElem? (i := 1) rfl)) (fun _ h9 => h9) rfl dX6_wholeValue_37 ?_
    exact W.iret hx hb hr (fun t ht hW => ⟨v.1, rfl, (show f_X6_wholeValue v x0 = v.1 from by rw [f_X6_wholeValue, if_pos h1_0]).symm, ht⟩) (fun q hq => absurd hq List.not_mem_nil) dX6_wholeValue_40
  · by_cases h1_1 : x0 = 1
    · refine lv_tableIn (off := 40) (tgt := 41) hx hb dX6_wholeValue_1 (by rw [h1_1]; decide) (by rw [h1_1]; decide) (by rw [h1_1]; rfl) (by decide) ?_
      refine lv_aload_n hx hb dX6_wholeValue_41 rfl (lv_at hl 0 rfl) ?_
      refine rd_goi (va_runV (C := RX6) (As := []) (rest := []) S (c_X6_players l D cy g B a v) (cwV 0 hts gX6_wholeValue_X6_players rfl rfl rfl hd_X6_players_V ⟨Nat.le_of_ble_eq_true rfl, Nat.le_of_ble_eq_true rfl⟩) ⟨rdP_blind, va_recv hK0.1 hP (ci := 4) (q0 := 0) rfl rfl, my_preP hK0 hS hAB hP⟩ rfl rfl hl.1 rfl (lv_room (Nat.le_of_ble_eq_true rfl)) dX6_wholeValue_42 ⟨Nat.zero_le _, Nat.zero_le _⟩) ?_
      refine rd_goi (va_runS (As := [.int (f_X6_players v)]) (rest := []) S (c_J6_bitCount_0f7a4 l D cy g B (f_X6_players v)) (va_cwS 1 hts gX6_wholeValue_J6_bitCount_0f7a4 rfl rfl rfl hd_J6_bitCount_0f7a4_S ⟨Nat.le_of_ble_eq_true rfl, Nat.le_of_ble_eq_true rfl⟩) ⟨rdP_blind, my_preV hK0 hS hAB hP [] rfl⟩ rfl rfl hl.1 rfl (lv_room (Nat.le_of_ble_eq_true rfl)) dX6_wholeValue_45 ⟨Nat.zero_le _, Nat.zero_le _⟩) ?_
      exact W.iret hx hb hr (fun t ht hW => ⟨(f_J6_bitCount_0f7a4 (f_X6_players v)), rfl, (show f_X6_wholeValue v x0 = (f_J6_bitCount_0f7a4 (f_X6_players v)) from by rw [f_X6_wholeValue, if_neg h1_0, if_pos h1_1]).symm, ht⟩) (fun q hq => absurd hq List.not_mem_nil) dX6_wholeValue_48
    · by_cases h1_2 : x0 = 2
      · refine lv_tableIn (off := 48) (tgt := 49) hx hb dX6_wholeValue_1 (by rw [h1_2]; decide) (by rw [h1_2]; decide) (by rw [h1_2]; rfl) (by decide) ?_
        refine lv_aload_n hx hb dX6_wholeValue_49 rfl (lv_at hl 0 rfl) ?_
        refine va_get (D := D) (ci := 4) (v := .int v.2.1) (C := RX6) (T := TX6) (N := 7) hx hb hts inX6 hown hK0.1 hP 0 rfl rfl 3 (by decide) (hts (.fieldLink RX6 23 "PivotChamber$Setting" "quota" "I") (List.mem_of_getElem? (i := 2) rfl)) (fun _ h9 => h9) rfl dX6_wholeValue_50 ?_
        exact W.iret hx hb hr (fun t ht hW => ⟨v.2.1, rfl, (show f_X6_wholeValue v x0 = v.2.1 from by rw [f_X6_wholeValue, if_neg h1_0, if_neg h1_1, if_pos h1_2]).symm, ht⟩) (fun q hq => absurd hq List.not_mem_nil) dX6_wholeValue_53
      · by_cases h1_3 : x0 = 3
        · refine lv_tableIn (off := 53) (tgt := 54) hx hb dX6_wholeValue_1 (by rw [h1_3]; decide) (by rw [h1_3]; decide) (by rw [h1_3]; rfl) (by decide) ?_
          refine lv_aload_n hx hb dX6_wholeValue_54 rfl (lv_at hl 0 rfl) ?_
          refine va_get (D := D) (ci := 4) (v := .int v.2.2.1) (C := RX6) (T := TX6) (N := 7) hx hb hts inX6 hown hK0.1 hP 0 rfl rfl 4 (by decide) (hts (.fieldLink RX6 40 "PivotChamber$Setting" "rules" "I") (List.mem_of_getElem? (i := 3) rfl)) (fun _ h9 => h9) rfl dX6_wholeValue_55 ?_
          exact W.iret hx hb hr (fun t ht hW => ⟨v.2.2.1, rfl, (show f_X6_wholeValue v x0 = v.2.2.1 from by rw [f_X6_wholeValue, if_neg h1_0, if_neg h1_1, if_neg h1_2, if_pos h1_3]).symm, ht⟩) (fun q hq => absurd hq List.not_mem_nil) dX6_wholeValue_58
        · by_cases h1_4 : x0 = 4
          · refine lv_tableIn (off := 58) (tgt := 59) hx hb dX6_wholeValue_1 (by rw [h1_4]; decide) (by rw [h1_4]; decide) (by rw [h1_4]; rfl) (by decide) ?_
            refine lv_aload_n hx hb dX6_wholeValue_59 rfl (lv_at hl 0 rfl) ?_
            refine lv_aload_n hx hb dX6_wholeValue_60 rfl (lv_at hl 0 rfl) ?_
            refine rd_goi (va_runV (C := RX6) (As := []) (rest := [.ref (a 0)]) S (c_X6_everybody l D cy g B a v) (cwV 0 hts gX6_wholeValue_X6_everybody rfl rfl rfl hd_X6_everybody_V ⟨Nat.le_of_ble_eq_true rfl, Nat.le_of_ble_eq_true rfl⟩) ⟨rdP_blind, va_recv hK0.1 hP (ci := 4) (q0 := 0) rfl rfl, my_preP hK0 hS hAB hP⟩ rfl rfl hl.1 rfl (lv_room (Nat.le_of_ble_eq_true rfl)) dX6_wholeValue_61 ⟨Nat.zero_le _, Nat.zero_le _⟩) ?_
            refine rd_goi (va_runV (C := RX6) (As := [.int (f_X6_everybody v)]) (rest := []) S (c_X6_weightOf l D cy g B a v (f_X6_everybody v)) (cwV 1 hts gX6_wholeValue_X6_weightOf rfl rfl rfl hd_X6_weightOf_V ⟨Nat.le_of_ble_eq_true rfl, Nat.le_of_ble_eq_true rfl⟩) ⟨rdP_blind, va_recv hK0.1 hP (ci := 4) (q0 := 0) rfl rfl, my_preP hK0 hS hAB hP⟩ rfl rfl hl.1 rfl (lv_room (Nat.le_of_ble_eq_true rfl)) dX6_wholeValue_64 ⟨Nat.zero_le _, Nat.zero_le _⟩) ?_
            exact W.iret hx hb hr (fun t ht hW => ⟨(f_X6_weightOf v (f_X6_everybody v)), rfl, (show f_X6_wholeValue v x0 = (f_X6_weightOf v (f_X6_everybody v)) from by rw [f_X6_wholeValue, if_neg h1_0, if_neg h1_1, if_neg h1_2, if_neg h1_3, if_pos h1_4]).symm, ht⟩) (fun q hq => absurd hq List.not_mem_nil) dX6_wholeValue_67
          · refine lv_tableOut (tgt := 68) hx hb dX6_wholeValue_1 (by have t0 : x0.toInt ≠ 0 := my_ne h1_0 rfl; have t1 : x0.toInt ≠ 1 := my_ne h1_1 rfl; have t2 : x0.toInt ≠ 2 := my_ne h1_2 rfl; have t3 : x0.toInt ≠ 3 := my_ne h1_3 rfl; have t4 : x0.toInt ≠ 4 := my_ne h1_4 rfl; omega) (by decide) ?_
            refine lv_aload_n hx hb dX6_wholeValue_68 rfl (lv_at hl 0 rfl) ?_
            refine rd_goi (va_runV (C := RX6) (As := []) (rest := []) S (c_X6_rulesLikeTheFirst l D cy g B a v) (cwV 0 hts gX6_wholeValue_X6_rulesLikeTheFirst rfl rfl rfl hd_X6_rulesLikeTheFirst_V ⟨Nat.le_of_ble_eq_true rfl, Nat.le_of_ble_eq_true rfl⟩) ⟨rdP_blind, va_recv hK0.1 hP (ci := 4) (q0 := 0) rfl rfl, my_preP hK0 hS hAB hP⟩ rfl rfl hl.1 rfl (lv_room (Nat.le_of_ble_eq_true rfl)) dX6_wholeValue_69 ⟨Nat.zero_le _, Nat.zero_le _⟩) ?_
            exact W.iret hx hb hr (fun t ht hW => ⟨(f_X6_rulesLikeTheFirst v), rfl, (show f_X6_wholeValue v x0 = (f_X6_rulesLikeTheFirst v) from by rw [f_X6_wholeValue, if_neg h1_0, if_neg h1_1, if_neg h1_2, if_neg h1_3, if_neg h1_4]).symm, ht⟩) (fun q hq => absurd hq List.not_mem_nil) dX6_wholeValue_72
theorem hd_X6_enrol_S : yX6_enrol.cls ≠ "java/lang/invoke/MethodHandle" ∧ yX6_enrol.cls ≠ "java/lang/invoke/VarHandle" ∧ (parseMethodDescriptor yX6_enrol.desc).map (fun d => d.parameters.length) = some 1 := by decide +kernel
theorem hd_X6_enrol_V : yX6_enrol.cls = RX6 ∧ yX6_enrol.cls ≠ "java/lang/invoke/MethodHandle" ∧ yX6_enrol.cls ≠ "java/lang/invoke/VarHandle" ∧ (parseMethodDescriptor yX6_enrol.desc).map (fun d => d.parameters.length) = some 1 := ⟨rfl, hd_X6_enrol_S⟩
def f_X6_enrol (v : SetV) (x0 : Int32) : Int32 × SetV := (((v.1 + 1) - 1), ((v.1 + 1), v.2.1, v.2.2.1, (rPut 8 v.2.2.2.1 v.1 x0), (rPut 8 v.2.2.2.2.1 v.1 (-1)), v.2.2.2.2.2))
set_option maxHeartbeats 400000 in
set_option maxRecDepth 100000 in
theorem c_X6_enrol (l : Launch) (D : va_G) (cy : Nat → ClassId) (g : Nat → Nat) (B : Nat) (a : Nat → Nat) (v : SetV) (x0 : Int32) : Met l yX6_enrol wsX6_enrol ({ frames := 1, cells := 0, slots := 0, locals := 22 }) (muP D cy g B (wSet cy a v) [.ref (a 0), .int x0]) (va_Qi (fun (r : Int32) (u : SetV) => f_X6_enrol v x0 = (r, u)) (fun u t => va_P D vwCl (wSet cy a u) t.heap) (muA (wSet cy a v))) 0 0 (muA (wSet cy a v)) := by
  refine Met.ofW (cc := cX6_enrol) (maxL := 2) (ret := (some .int)) (by decide) rfl ?_
  intro p e s m args below meth c s₁ BB hml hv
  obtain ⟨rfl, hP, hK0, hD0⟩ := hv
  have hx := BB.exec
  have hb := BB.bytes
  have hr := BB.returns
  have hts := atoms_spec (ws := wsX6_enrol) BB.pre
  have hown : s.vm.findClass RX6 = some m.cls := findClass_of_methodNamed BB.named
  have hlocks := BB.notSynchronized
  have S := my_fix hx hb hml hown hts
  have inX6 : ∀ w ∈ wsX60, w ∈ wsX6_enrol := fun w h => List.mem_cons_of_mem _ (List.mem_append_left _ (List.mem_append_right _ h))
  have hAB := muB hD0
  have hD := muD hD0
  generalize hAe : muA (wSet cy a v) = A at hAB hD ⊢
  have hS : va_S A s.heap s.heap [] := va_S.rf
  have hl := lv_entry ([.ref (a 0), .int x0]) (n := 2) (Nat.le_of_ble_eq_true rfl)
  rw [lg_entry_eq]
  generalize (lg_sl ([.ref (a 0), .int x0]) ++ List.replicate (2 - (lg_sl ([.ref (a 0), .int x0])).length) Slot.unset).toArray = ls at hl ⊢
  have hl : lv_has ls 2 [(0, .ref (a 0)), (1, .int x0)] := hl
  refine lv_aload_n hx hb dX6_enrol_0 rfl (lv_at hl 0 rfl) ?_
  refine va_get (D := D) (ci := 4) (v := .ref (a 1)) (C := RX6) (T := TX6) (N := 7) hx hb hts inX6 hown hK0.1 hP 0 rfl rfl 1 (by decide) (hts (.fieldLink RX6 14 "PivotChamber$Setting" "weights" "LPivotChamber$Row;") (List.mem_of_getElem? (i := 1) rfl)) (fun _ h9 => h9) rfl dX6_enrol_1 ?_
  refine lv_aload_n hx hb dX6_enrol_4 rfl (lv_at hl 0 rfl) ?_
  refine va_get (D := D) (ci := 4) (v := .int v.1) (C := RX6) (T := TX6) (N := 7) hx hb hts inX6 hown hK0.1 hP 0 rfl rfl 0 (by decide) (hts (.fieldLink RX6 33 "PivotChamber$Setting" "members" "I") (List.mem_of_getElem? (i := 2) rfl)) (fun _ h9 => h9) rfl dX6_enrol_5 ?_
  refine lv_iload_n hx hb dX6_enrol_8 rfl (lv_at hl 1 rfl) ?_
  refine mu_row (va_runV (C := RX4) (As := [.int v.1, .int x0]) (rest := []) S (c_X4_put l D cy g B (a 1) (a 2) 8 v.2.2.2.1 v.1 x0 (by decide)) (cwV 2 hts gX6_enrol_X4_put rfl rfl rfl hd_X4_put_V ⟨Nat.le_of_ble_eq_true rfl, Nat.le_of_ble_eq_true rfl⟩) ⟨muP_blind, va_recv hK0.1 hP (ci := 2) (q0 := 1) rfl rfl, my_preM hK0 hS hAB hP hD [1, 2] (by decide) rfl⟩ rfl rfl hl.1 rfl (lv_room (Nat.le_of_ble_eq_true rfl)) dX6_enrol_9 ⟨Nat.zero_le _, Nat.zero_le _⟩) hS hP hD [1, 2] rfl (w2 := (wSetE cy a v.1 v.2.1 v.2.2.1 (rPut 8 v.2.2.2.1 v.1 x0) v.2.2.2.2.1 v.2.2.2.2.2.1 v.2.2.2.2.2.2)) rfl (fun H locs hP hD hS => ?_)
  refine lv_aload_n hx hb dX6_enrol_12 rfl (lv_at hl 0 rfl) ?_
  refine va_get (D := D) (ci := 4) (v := .ref (a 3)) (C := RX6) (T := TX6) (N := 7) hx hb hts inX6 hown hK0.1 hP 0 rfl rfl 2 (by decide) (hts (.fieldLink RX6 20 "PivotChamber$Setting" "leaders" "LPivotChamber$Row;") (List.mem_of_getElem? (i := 3) rfl)) (fun _ h9 => h9) rfl dX6_enrol_13 ?_
  refine lv_aload_n hx hb dX6_enrol_16 rfl (lv_at hl 0 rfl) ?_
  refine va_get (D := D) (ci := 4) (v := .int v.1) (C := RX6) (T := TX6) (N := 7) hx hb hts inX6 hown hK0.1 hP 0 rfl rfl 0 (by decide) (hts (.fieldLink RX6 33 "PivotChamber$Setting" "members" "I") (List.mem_of_getElem? (i := 2) rfl)) (fun _ h9 => h9) rfl dX6_enrol_17 ?_
  refine lv_iconst (v := (-1)) hx hb dX6_enrol_20 (by decide) ?_
  refine mu_row (va_runV (C := RX4) (As := [.int v.1, .int (-1)]) (rest := []) S (c_X4_put l D cy g B (a 3) (a 4) 8 v.2.2.2.2.1 v.1 (-1) (by decide)) (cwV 2 hts gX6_enrol_X4_put rfl rfl rfl hd_X4_put_V ⟨Nat.le_of_ble_eq_true rfl, Nat.le_of_ble_eq_true rfl⟩) ⟨muP_blind, va_recv hK0.1 hP (ci := 2) (q0 := 3) rfl rfl, my_preM hK0 hS hAB hP hD [3, 4] (by decide) rfl⟩ rfl rfl hl.1 rfl (lv_room (Nat.le_of_ble_eq_true rfl)) dX6_enrol_21 ⟨Nat.zero_le _, Nat.zero_le _⟩) hS hP hD [3, 4] rfl (w2 := (wSetE cy a v.1 v.2.1 v.2.2.1 (rPut 8 v.2.2.2.1 v.1 x0) (rPut 8 v.2.2.2.2.1 v.1 (-1)) v.2.2.2.2.2.1 v.2.2.2.2.2.2)) rfl (fun H locs hP hD hS => ?_)
  refine lv_aload_n hx hb dX6_enrol_24 rfl (lv_at hl 0 rfl) ?_
  refine lv_dup hx hb dX6_enrol_25 rfl ?_
  refine va_get (D := D) (ci := 4) (v := .int v.1) (C := RX6) (T := TX6) (N := 7) hx hb hts inX6 hown hK0.1 hP 0 rfl rfl 0 (by decide) (hts (.fieldLink RX6 33 "PivotChamber$Setting" "members" "I") (List.mem_of_getElem? (i := 2) rfl)) (fun _ h9 => h9) rfl dX6_enrol_26 ?_
  refine lv_iconst (v := 1) hx hb dX6_enrol_29 (by decide) ?_
  refine lv_iadd hx hb dX6_enrol_30 ?_
  refine va_put (D := D) (ci := 4) (v := .int (v.1 + 1)) (ty := .int) (C := RX6) (T := TX6) (N := 7) hx hb hts inX6 tyX6 tyX6_ok nmX6 hown hK0.1 hP hD hS 0 rfl rfl 0 (by decide) (hts (.fieldLink RX6 33 "PivotChamber$Setting" "members" "I") (List.mem_of_getElem? (i := 2) rfl)) (fun _ h9 => h9) rfl (by decide +kernel) rfl rfl (Nat.le_of_ble_eq_true rfl) dX6_enrol_31 (fun H locs hP hD hS => ?_)
  have hP : va_P D vwCl (wSetE cy a (v.1 + 1) v.2.1 v.2.2.1 (rPut 8 v.2.2.2.1 v.1 x0) (rPut 8 v.2.2.2.2.1 v.1 (-1)) v.2.2.2.2.2.1 v.2.2.2.2.2.2) H := hP
  have hD : va_D A (wSetE cy a (v.1 + 1) v.2.1 v.2.2.1 (rPut 8 v.2.2.2.1 v.1 x0) (rPut 8 v.2.2.2.2.1 v.1 (-1)) v.2.2.2.2.2.1 v.2.2.2.2.2.2) := hD
  refine lv_aload_n hx hb dX6_enrol_34 rfl (lv_at hl 0 rfl) ?_
  refine va_get (D := D) (ci := 4) (v := .int (v.1 + 1)) (C := RX6) (T := TX6) (N := 7) hx hb hts inX6 hown hK0.1 hP 0 rfl rfl 0 (by decide) (hts (.fieldLink RX6 33 "PivotChamber$Setting" "members" "I") (List.mem_of_getElem? (i := 2) rfl)) (fun _ h9 => h9) rfl dX6_enrol_35 ?_
  refine lv_iconst (v := 1) hx hb dX6_enrol_38 (by decide) ?_
  refine lv_isub hx hb dX6_enrol_39 ?_
  have hP : va_P D vwCl (wSet cy a ((v.1 + 1), v.2.1, v.2.2.1, (rPut 8 v.2.2.2.1 v.1 x0), (rPut 8 v.2.2.2.2.1 v.1 (-1)), v.2.2.2.2.2)) H := by rw [wSet_mk]; exact hP
  have hD : va_D A (wSet cy a ((v.1 + 1), v.2.1, v.2.2.1, (rPut 8 v.2.2.2.1 v.1 x0), (rPut 8 v.2.2.2.2.1 v.1 (-1)), v.2.2.2.2.2)) := by rw [wSet_mk]; exact hD
  exact W.iret hx hb hr (fun t ht hW => ⟨⟨((v.1 + 1) - 1), ((v.1 + 1), v.2.1, v.2.2.1, (rPut 8 v.2.2.2.1 v.1 x0), (rPut 8 v.2.2.2.2.1 v.1 (-1)), v.2.2.2.2.2), rfl, (show f_X6_enrol v x0 = (((v.1 + 1) - 1), ((v.1 + 1), v.2.1, v.2.2.1, (rPut 8 v.2.2.2.1 v.1 x0), (rPut 8 v.2.2.2.2.1 v.1 (-1)), v.2.2.2.2.2)) from by rw [f_X6_enrol]), by show va_P D vwCl _ t.heap; rw [ht]; exact hP⟩, hS.F ht⟩) hS.2.2 dX6_enrol_40
theorem hd_X6_weigh_S : yX6_weigh.cls ≠ "java/lang/invoke/MethodHandle" ∧ yX6_weigh.cls ≠ "java/lang/invoke/VarHandle" ∧ (parseMethodDescriptor yX6_weigh.desc).map (fun d => d.parameters.length) = some 2 := by decide +kernel
theorem hd_X6_weigh_V : yX6_weigh.cls = RX6 ∧ yX6_weigh.cls ≠ "java/lang/invoke/MethodHandle" ∧ yX6_weigh.cls ≠ "java/lang/invoke/VarHandle" ∧ (parseMethodDescriptor yX6_weigh.desc).map (fun d => d.parameters.length) = some 2 := ⟨rfl, hd_X6_weigh_S⟩
def f_X6_weigh (v : SetV) (x0 : Int32) (x1 : Int32) : Int32 × SetV := ((rAt 8 v.2.2.2.1 x0), (v.1, v.2.1, v.2.2.1, (rPut 8 v.2.2.2.1 x0 x1), v.2.2.2.2))
set_option maxHeartbeats 400000 in
set_option maxRecDepth 100000 in
theorem c_X6_weigh (l : Launch) (D : va_G) (cy : Nat → ClassId) (g : Nat → Nat) (B : Nat) (a : Nat → Nat) (v : SetV) (x0 : Int32) (x1 : Int32) : Met l yX6_weigh wsX6_weigh ({ frames := 1, cells := 0, slots := 0, locals := 22 }) (muP D cy g B (wSet cy a v) [.ref (a 0), .int x0, .int x1]) (va_Qi (fun (r : Int32) (u : SetV) => f_X6_weigh v x0 x1 = (r, u)) (fun u t => va_P D vwCl (wSet cy a u) t.heap) (muA (wSet cy a v))) 0 0 (muA (wSet cy a v)) := by
  refine Met.ofW (cc := cX6_weigh) (maxL := 4) (ret := (some .int)) (by decide) rfl ?_
  intro p e s m args below meth c s₁ BB hml hv
  obtain ⟨rfl, hP, hK0, hD0⟩ := hv
  have hx := BB.exec
  have hb := BB.bytes
  have hr := BB.returns
  have hts := atoms_spec (ws := wsX6_weigh) BB.pre
  have hown : s.vm.findClass RX6 = some m.cls := findClass_of_methodNamed BB.named
  have hlocks := BB.notSynchronized
  have S := my_fix hx hb hml hown hts
  have inX6 : ∀ w ∈ wsX60, w ∈ wsX6_weigh := fun w h => List.mem_cons_of_mem _ (List.mem_append_left _ (List.mem_append_right _ h))
  have hAB := muB hD0
  have hD := muD hD0
  generalize hAe : muA (wSet cy a v) = A at hAB hD ⊢
  have hS : va_S A s.heap s.heap [] := va_S.rf
  have hl := lv_entry ([.ref (a 0), .int x0, .int x1]) (n := 4) (Nat.le_of_ble_eq_true rfl)
  rw [lg_entry_eq]
  generalize (lg_sl ([.ref (a 0), .int x0, .int x1]) ++ List.replicate (4 - (lg_sl ([.ref (a 0), .int x0, .int x1])).length) Slot.unset).toArray = ls at hl ⊢
  have hl : lv_has ls 4 [(0, .ref (a 0)), (1, .int x0), (2, .int x1)] := hl
  refine lv_aload_n hx hb dX6_weigh_0 rfl (lv_at hl 0 rfl) ?_
  refine va_get (D := D) (ci := 4) (v := .ref (a 1)) (C := RX6) (T := TX6) (N := 7) hx hb hts inX6 hown hK0.1 hP 0 rfl rfl 1 (by decide) (hts (.fieldLink RX6 14 "PivotChamber$Setting" "weights" "LPivotChamber$Row;") (List.mem_of_getElem? (i := 1) rfl)) (fun _ h9 => h9) rfl dX6_weigh_1 ?_
  refine lv_iload_n hx hb dX6_weigh_4 rfl (lv_at hl 1 rfl) ?_
  refine rd_goi (va_runV (C := RX4) (As := [.int x0]) (rest := []) S (c_X4_at l D cy g B (a 1) (a 2) 8 v.2.2.2.1 x0 (by decide)) (cwV 1 hts gX6_weigh_X4_at rfl rfl rfl hd_X4_at_V ⟨Nat.le_of_ble_eq_true rfl, Nat.le_of_ble_eq_true rfl⟩) ⟨rdP_blind, va_recv hK0.1 hP (ci := 2) (q0 := 1) rfl rfl, my_preV hK0 hS hAB hP [1, 2] rfl⟩ rfl rfl hl.1 rfl (lv_room (Nat.le_of_ble_eq_true rfl)) dX6_weigh_5 ⟨Nat.zero_le _, Nat.zero_le _⟩) ?_
  refine lv_istore_n (lv' := [(3, .int (rAt 8 v.2.2.2.1 x0)), (0, .ref (a 0)), (1, .int x0), (2, .int x1)]) hx hb dX6_weigh_8 rfl hl (by decide) rfl (fun ls hl => ?_)
  refine lv_aload_n hx hb dX6_weigh_9 rfl (lv_at hl 1 rfl) ?_
  refine va_get (D := D) (ci := 4) (v := .ref (a 1)) (C := RX6) (T := TX6) (N := 7) hx hb hts inX6 hown hK0.1 hP 0 rfl rfl 1 (by decide) (hts (.fieldLink RX6 14 "PivotChamber$Setting" "weights" "LPivotChamber$Row;") (List.mem_of_getElem? (i := 1) rfl)) (fun _ h9 => h9) rfl dX6_weigh_10 ?_
  refine lv_iload_n hx hb dX6_weigh_13 rfl (lv_at hl 2 rfl) ?_
  refine lv_iload_n hx hb dX6_weigh_14 rfl (lv_at hl 3 rfl) ?_
  refine mu_row (va_runV (C := RX4) (As := [.int x0, .int x1]) (rest := []) S (c_X4_put l D cy g B (a 1) (a 2) 8 v.2.2.2.1 x0 x1 (by decide)) (cwV 2 hts gX6_weigh_X4_put rfl rfl rfl hd_X4_put_V ⟨Nat.le_of_ble_eq_true rfl, Nat.le_of_ble_eq_true rfl⟩) ⟨muP_blind, va_recv hK0.1 hP (ci := 2) (q0 := 1) rfl rfl, my_preM hK0 hS hAB hP hD [1, 2] (by decide) rfl⟩ rfl rfl hl.1 rfl (lv_room (Nat.le_of_ble_eq_true rfl)) dX6_weigh_15 ⟨Nat.zero_le _, Nat.zero_le _⟩) hS hP hD [1, 2] rfl (w2 := (wSetE cy a v.1 v.2.1 v.2.2.1 (rPut 8 v.2.2.2.1 x0 x1) v.2.2.2.2.1 v.2.2.2.2.2.1 v.2.2.2.2.2.2)) rfl (fun H locs hP hD hS => ?_)
  refine lv_iload_n hx hb dX6_weigh_18 rfl (lv_at hl 0 rfl) ?_
  have hP : va_P D vwCl (wSet cy a (v.1, v.2.1, v.2.2.1, (rPut 8 v.2.2.2.1 x0 x1), v.2.2.2.2)) H := by rw [wSet_mk]; exact hP
  have hD : va_D A (wSet cy a (v.1, v.2.1, v.2.2.1, (rPut 8 v.2.2.2.1 x0 x1), v.2.2.2.2)) := by rw [wSet_mk]; exact hD
  exact W.iret hx hb hr (fun t ht hW => ⟨⟨(rAt 8 v.2.2.2.1 x0), (v.1, v.2.1, v.2.2.1, (rPut 8 v.2.2.2.1 x0 x1), v.2.2.2.2), rfl, (show f_X6_weigh v x0 x1 = ((rAt 8 v.2.2.2.1 x0), (v.1, v.2.1, v.2.2.1, (rPut 8 v.2.2.2.1 x0 x1), v.2.2.2.2)) from by rw [f_X6_weigh]), by show va_P D vwCl _ t.heap; rw [ht]; exact hP⟩, hS.F ht⟩) hS.2.2 dX6_weigh_19
theorem hd_X6_changeQuota_S : yX6_changeQuota.cls ≠ "java/lang/invoke/MethodHandle" ∧ yX6_changeQuota.cls ≠ "java/lang/invoke/VarHandle" ∧ (parseMethodDescriptor yX6_changeQuota.desc).map (fun d => d.parameters.length) = some 1 := by decide +kernel
theorem hd_X6_changeQuota_V : yX6_changeQuota.cls = RX6 ∧ yX6_changeQuota.cls ≠ "java/lang/invoke/MethodHandle" ∧ yX6_changeQuota.cls ≠ "java/lang/invoke/VarHandle" ∧ (parseMethodDescriptor yX6_changeQuota.desc).map (fun d => d.parameters.length) = some 1 := ⟨rfl, hd_X6_changeQuota_S⟩
def f_X6_changeQuota (v : SetV) (x0 : Int32) : Int32 × SetV := (v.2.1, (v.1, x0, v.2.2))
set_option maxHeartbeats 400000 in
set_option maxRecDepth 100000 in
theorem c_X6_changeQuota (l : Launch) (D : va_G) (cy : Nat → ClassId) (g : Nat → Nat) (B : Nat) (a : Nat → Nat) (v : SetV) (x0 : Int32) : Met l yX6_changeQuota wsX6_changeQuota ({ frames := 0, cells := 0, slots := 0, locals := 0 }) (muP D cy g B (wSet cy a v) [.ref (a 0), .int x0]) (va_Qi (fun (r : Int32) (u : SetV) => f_X6_changeQuota v x0 = (r, u)) (fun u t => va_P D vwCl (wSet cy a u) t.heap) (muA (wSet cy a v))) 0 0 (muA (wSet cy a v)) := by
  refine Met.ofW (cc := cX6_changeQuota) (maxL := 3) (ret := (some .int)) (by decide) rfl ?_
  intro p e s m args below meth c s₁ BB hml hv
  obtain ⟨rfl, hP, hK0, hD0⟩ := hv
  have hx := BB.exec
  have hb := BB.bytes
  have hr := BB.returns
  have hts := atoms_spec (ws := wsX6_changeQuota) BB.pre
  have hown : s.vm.findClass RX6 = some m.cls := findClass_of_methodNamed BB.named
  have hlocks := BB.notSynchronized
  have S := my_fix hx hb hml hown hts
  have inX6 : ∀ w ∈ wsX60, w ∈ wsX6_changeQuota := fun w h => List.mem_cons_of_mem _ (List.mem_append_right _ h)
  have hAB := muB hD0
  have hD := muD hD0
  generalize hAe : muA (wSet cy a v) = A at hAB hD ⊢
  have hS : va_S A s.heap s.heap [] := va_S.rf
  have hl := lv_entry ([.ref (a 0), .int x0]) (n := 3) (Nat.le_of_ble_eq_true rfl)
  rw [lg_entry_eq]
  generalize (lg_sl ([.ref (a 0), .int x0]) ++ List.replicate (3 - (lg_sl ([.ref (a 0), .int x0])).length) Slot.unset).toArray = ls at hl ⊢
  have hl : lv_has ls 3 [(0, .ref (a 0)), (1, .int x0)] := hl
  refine lv_aload_n hx hb dX6_changeQuota_0 rfl (lv_at hl 0 rfl) ?_
  refine va_get (D := D) (ci := 4) (v := .int v.2.1) (C := RX6) (T := TX6) (N := 7) hx hb hts inX6 hown hK0.1 hP 0 rfl rfl 3 (by decide) (hts (.fieldLink RX6 23 "PivotChamber$Setting" "quota" "I") (List.mem_of_getElem? (i := 1) rfl)) (fun _ h9 => h9) rfl dX6_changeQuota_1 ?_
  refine lv_istore_n (lv' := [(2, .int v.2.1), (0, .ref (a 0)), (1, .int x0)]) hx hb dX6_changeQuota_4 rfl hl (by decide) rfl (fun ls hl => ?_)
  refine lv_aload_n hx hb dX6_changeQuota_5 rfl (lv_at hl 1 rfl) ?_
  refine lv_iload_n hx hb dX6_changeQuota_6 rfl (lv_at hl 2 rfl) ?_
  refine va_put (D := D) (ci := 4) (v := .int x0) (ty := .int) (C := RX6) (T := TX6) (N := 7) hx hb hts inX6 tyX6 tyX6_ok nmX6 hown hK0.1 hP hD hS 0 rfl rfl 3 (by decide) (hts (.fieldLink RX6 23 "PivotChamber$Setting" "quota" "I") (List.mem_of_getElem? (i := 1) rfl)) (fun _ h9 => h9) rfl (by decide +kernel) rfl rfl (Nat.le_of_ble_eq_true rfl) dX6_changeQuota_7 (fun H locs hP hD hS => ?_)
  have hP : va_P D vwCl (wSetE cy a v.1 x0 v.2.2.1 v.2.2.2.1 v.2.2.2.2.1 v.2.2.2.2.2.1 v.2.2.2.2.2.2) H := hP
  have hD : va_D A (wSetE cy a v.1 x0 v.2.2.1 v.2.2.2.1 v.2.2.2.2.1 v.2.2.2.2.2.1 v.2.2.2.2.2.2) := hD
  refine lv_iload_n hx hb dX6_changeQuota_10 rfl (lv_at hl 0 rfl) ?_
  have hP : va_P D vwCl (wSet cy a (v.1, x0, v.2.2)) H := by rw [wSet_mk]; exact hP
  have hD : va_D A (wSet cy a (v.1, x0, v.2.2)) := by rw [wSet_mk]; exact hD
  exact W.iret hx hb hr (fun t ht hW => ⟨⟨v.2.1, (v.1, x0, v.2.2), rfl, (show f_X6_changeQuota v x0 = (v.2.1, (v.1, x0, v.2.2)) from by rw [f_X6_changeQuota]), by show va_P D vwCl _ t.heap; rw [ht]; exact hP⟩, hS.F ht⟩) hS.2.2 dX6_changeQuota_11
theorem hd_X6_release_S : yX6_release.cls ≠ "java/lang/invoke/MethodHandle" ∧ yX6_release.cls ≠ "java/lang/invoke/VarHandle" ∧ (parseMethodDescriptor yX6_release.desc).map (fun d => d.parameters.length) = some 1 := by decide +kernel
theorem hd_X6_release_V : yX6_release.cls = RX6 ∧ yX6_release.cls ≠ "java/lang/invoke/MethodHandle" ∧ yX6_release.cls ≠ "java/lang/invoke/VarHandle" ∧ (parseMethodDescriptor yX6_release.desc).map (fun d => d.parameters.length) = some 1 := ⟨rfl, hd_X6_release_S⟩
def f_X6_release (v : SetV) (x0 : Int32) : Int32 × SetV := ((rAt 8 v.2.2.2.2.1 x0), (v.1, v.2.1, v.2.2.1, v.2.2.2.1, (rPut 8 v.2.2.2.2.1 x0 (-1)), v.2.2.2.2.2))
set_option maxHeartbeats 400000 in
set_option maxRecDepth 100000 in
theorem c_X6_release (l : Launch) (D : va_G) (cy : Nat → ClassId) (g : Nat → Nat) (B : Nat) (a : Nat → Nat) (v : SetV) (x0 : Int32) : Met l yX6_release wsX6_release ({ frames := 1, cells := 0, slots := 0, locals := 22 }) (muP D cy g B (wSet cy a v) [.ref (a 0), .int x0]) (va_Qi (fun (r : Int32) (u : SetV) => f_X6_release v x0 = (r, u)) (fun u t => va_P D vwCl (wSet cy a u) t.heap) (muA (wSet cy a v))) 0 0 (muA (wSet cy a v)) := by
  refine Met.ofW (cc := cX6_release) (maxL := 3) (ret := (some .int)) (by decide) rfl ?_
  intro p e s m args below meth c s₁ BB hml hv
  obtain ⟨rfl, hP, hK0, hD0⟩ := hv
  have hx := BB.exec
  have hb := BB.bytes
  have hr := BB.returns
  have hts := atoms_spec (ws := wsX6_release) BB.pre
  have hown : s.vm.findClass RX6 = some m.cls := findClass_of_methodNamed BB.named
  have hlocks := BB.notSynchronized
  have S := my_fix hx hb hml hown hts
  have inX6 : ∀ w ∈ wsX60, w ∈ wsX6_release := fun w h => List.mem_cons_of_mem _ (List.mem_append_left _ (List.mem_append_right _ h))
  have hAB := muB hD0
  have hD := muD hD0
  generalize hAe : muA (wSet cy a v) = A at hAB hD ⊢
  have hS : va_S A s.heap s.heap [] := va_S.rf
  have hl := lv_entry ([.ref (a 0), .int x0]) (n := 3) (Nat.le_of_ble_eq_true rfl)
  rw [lg_entry_eq]
  generalize (lg_sl ([.ref (a 0), .int x0]) ++ List.replicate (3 - (lg_sl ([.ref (a 0), .int x0])).length) Slot.unset).toArray = ls at hl ⊢
  have hl : lv_has ls 3 [(0, .ref (a 0)), (1, .int x0)] := hl
  refine lv_aload_n hx hb dX6_release_0 rfl (lv_at hl 0 rfl) ?_
  refine va_get (D := D) (ci := 4) (v := .ref (a 3)) (C := RX6) (T := TX6) (N := 7) hx hb hts inX6 hown hK0.1 hP 0 rfl rfl 2 (by decide) (hts (.fieldLink RX6 20 "PivotChamber$Setting" "leaders" "LPivotChamber$Row;") (List.mem_of_getElem? (i := 1) rfl)) (fun _ h9 => h9) rfl dX6_release_1 ?_
  refine lv_iload_n hx hb dX6_release_4 rfl (lv_at hl 1 rfl) ?_
  refine rd_goi (va_runV (C := RX4) (As := [.int x0]) (rest := []) S (c_X4_at l D cy g B (a 3) (a 4) 8 v.2.2.2.2.1 x0 (by decide)) (cwV 1 hts gX6_release_X4_at rfl rfl rfl hd_X4_at_V ⟨Nat.le_of_ble_eq_true rfl, Nat.le_of_ble_eq_true rfl⟩) ⟨rdP_blind, va_recv hK0.1 hP (ci := 2) (q0 := 3) rfl rfl, my_preV hK0 hS hAB hP [3, 4] rfl⟩ rfl rfl hl.1 rfl (lv_room (Nat.le_of_ble_eq_true rfl)) dX6_release_5 ⟨Nat.zero_le _, Nat.zero_le _⟩) ?_
  refine lv_istore_n (lv' := [(2, .int (rAt 8 v.2.2.2.2.1 x0)), (0, .ref (a 0)), (1, .int x0)]) hx hb dX6_release_8 rfl hl (by decide) rfl (fun ls hl => ?_)
  refine lv_aload_n hx hb dX6_release_9 rfl (lv_at hl 1 rfl) ?_
  refine va_get (D := D) (ci := 4) (v := .ref (a 3)) (C := RX6) (T := TX6) (N := 7) hx hb hts inX6 hown hK0.1 hP 0 rfl rfl 2 (by decide) (hts (.fieldLink RX6 20 "PivotChamber$Setting" "leaders" "LPivotChamber$Row;") (List.mem_of_getElem? (i := 1) rfl)) (fun _ h9 => h9) rfl dX6_release_10 ?_
  refine lv_iload_n hx hb dX6_release_13 rfl (lv_at hl 2 rfl) ?_
  refine lv_iconst (v := (-1)) hx hb dX6_release_14 (by decide) ?_
  refine mu_row (va_runV (C := RX4) (As := [.int x0, .int (-1)]) (rest := []) S (c_X4_put l D cy g B (a 3) (a 4) 8 v.2.2.2.2.1 x0 (-1) (by decide)) (cwV 2 hts gX6_release_X4_put rfl rfl rfl hd_X4_put_V ⟨Nat.le_of_ble_eq_true rfl, Nat.le_of_ble_eq_true rfl⟩) ⟨muP_blind, va_recv hK0.1 hP (ci := 2) (q0 := 3) rfl rfl, my_preM hK0 hS hAB hP hD [3, 4] (by decide) rfl⟩ rfl rfl hl.1 rfl (lv_room (Nat.le_of_ble_eq_true rfl)) dX6_release_15 ⟨Nat.zero_le _, Nat.zero_le _⟩) hS hP hD [3, 4] rfl (w2 := (wSetE cy a v.1 v.2.1 v.2.2.1 v.2.2.2.1 (rPut 8 v.2.2.2.2.1 x0 (-1)) v.2.2.2.2.2.1 v.2.2.2.2.2.2)) rfl (fun H locs hP hD hS => ?_)
  refine lv_iload_n hx hb dX6_release_18 rfl (lv_at hl 0 rfl) ?_
  have hP : va_P D vwCl (wSet cy a (v.1, v.2.1, v.2.2.1, v.2.2.2.1, (rPut 8 v.2.2.2.2.1 x0 (-1)), v.2.2.2.2.2)) H := by rw [wSet_mk]; exact hP
  have hD : va_D A (wSet cy a (v.1, v.2.1, v.2.2.1, v.2.2.2.1, (rPut 8 v.2.2.2.2.1 x0 (-1)), v.2.2.2.2.2)) := by rw [wSet_mk]; exact hD
  exact W.iret hx hb hr (fun t ht hW => ⟨⟨(rAt 8 v.2.2.2.2.1 x0), (v.1, v.2.1, v.2.2.1, v.2.2.2.1, (rPut 8 v.2.2.2.2.1 x0 (-1)), v.2.2.2.2.2), rfl, (show f_X6_release v x0 = ((rAt 8 v.2.2.2.2.1 x0), (v.1, v.2.1, v.2.2.1, v.2.2.2.1, (rPut 8 v.2.2.2.2.1 x0 (-1)), v.2.2.2.2.2)) from by rw [f_X6_release]), by show va_P D vwCl _ t.heap; rw [ht]; exact hP⟩, hS.F ht⟩) hS.2.2 dX6_release_19
theorem hd_X6_appendRule_S : yX6_appendRule.cls ≠ "java/lang/invoke/MethodHandle" ∧ yX6_appendRule.cls ≠ "java/lang/invoke/VarHandle" ∧ (parseMethodDescriptor yX6_appendRule.desc).map (fun d => d.parameters.length) = some 2 := by decide +kernel
theorem hd_X6_appendRule_V : yX6_appendRule.cls = RX6 ∧ yX6_appendRule.cls ≠ "java/lang/invoke/MethodHandle" ∧ yX6_appendRule.cls ≠ "java/lang/invoke/VarHandle" ∧ (parseMethodDescriptor yX6_appendRule.desc).map (fun d => d.parameters.length) = some 2 := ⟨rfl, hd_X6_appendRule_S⟩
def f_X6_appendRule (v : SetV) (x0 : Int32) (x1 : Int32) : Int32 × SetV := (((v.2.2.1 + 1) - 1), (v.1, v.2.1, (v.2.2.1 + 1), v.2.2.2.1, v.2.2.2.2.1, (rPut 4 v.2.2.2.2.2.1 v.2.2.1 x0), (rPut 4 v.2.2.2.2.2.2 v.2.2.1 x1)))
set_option maxHeartbeats 400000 in
set_option maxRecDepth 100000 in
theorem c_X6_appendRule (l : Launch) (D : va_G) (cy : Nat → ClassId) (g : Nat → Nat) (B : Nat) (a : Nat → Nat) (v : SetV) (x0 : Int32) (x1 : Int32) : Met l yX6_appendRule wsX6_appendRule ({ frames := 1, cells := 0, slots := 0, locals := 22 }) (muP D cy g B (wSet cy a v) [.ref (a 0), .int x0, .int x1]) (va_Qi (fun (r : Int32) (u : SetV) => f_X6_appendRule v x0 x1 = (r, u)) (fun u t => va_P D vwCl (wSet cy a u) t.heap) (muA (wSet cy a v))) 0 0 (muA (wSet cy a v)) := by
  refine Met.ofW (cc := cX6_appendRule) (maxL := 3) (ret := (some .int)) (by decide) rfl ?_
  intro p e s m args below meth c s₁ BB hml hv
  obtain ⟨rfl, hP, hK0, hD0⟩ := hv
  have hx := BB.exec
  have hb := BB.bytes
  have hr := BB.returns
  have hts := atoms_spec (ws := wsX6_appendRule) BB.pre
  have hown : s.vm.findClass RX6 = some m.cls := findClass_of_methodNamed BB.named
  have hlocks := BB.notSynchronized
  have S := my_fix hx hb hml hown hts
  have inX6 : ∀ w ∈ wsX60, w ∈ wsX6_appendRule := fun w h => List.mem_cons_of_mem _ (List.mem_append_left _ (List.mem_append_right _ h))
  have hAB := muB hD0
  have hD := muD hD0
  generalize hAe : muA (wSet cy a v) = A at hAB hD ⊢
  have hS : va_S A s.heap s.heap [] := va_S.rf
  have hl := lv_entry ([.ref (a 0), .int x0, .int x1]) (n := 3) (Nat.le_of_ble_eq_true rfl)
  rw [lg_entry_eq]
  generalize (lg_sl ([.ref (a 0), .int x0, .int x1]) ++ List.replicate (3 - (lg_sl ([.ref (a 0), .int x0, .int x1])).length) Slot.unset).toArray = ls at hl ⊢
  have hl : lv_has ls 3 [(0, .ref (a 0)), (1, .int x0), (2, .int x1)] := hl
  refine lv_aload_n hx hb dX6_appendRule_0 rfl (lv_at hl 0 rfl) ?_
  refine va_get (D := D) (ci := 4) (v := .ref (a 5)) (C := RX6) (T := TX6) (N := 7) hx hb hts inX6 hown hK0.1 hP 0 rfl rfl 5 (by decide) (hts (.fieldLink RX6 27 "PivotChamber$Setting" "kinds" "LPivotChamber$Row;") (List.mem_of_getElem? (i := 1) rfl)) (fun _ h9 => h9) rfl dX6_appendRule_1 ?_
  refine lv_aload_n hx hb dX6_appendRule_4 rfl (lv_at hl 0 rfl) ?_
  refine va_get (D := D) (ci := 4) (v := .int v.2.2.1) (C := RX6) (T := TX6) (N := 7) hx hb hts inX6 hown hK0.1 hP 0 rfl rfl 4 (by decide) (hts (.fieldLink RX6 40 "PivotChamber$Setting" "rules" "I") (List.mem_of_getElem? (i := 2) rfl)) (fun _ h9 => h9) rfl dX6_appendRule_5 ?_
  refine lv_iload_n hx hb dX6_appendRule_8 rfl (lv_at hl 1 rfl) ?_
  refine mu_row (va_runV (C := RX4) (As := [.int v.2.2.1, .int x0]) (rest := []) S (c_X4_put l D cy g B (a 5) (a 6) 4 v.2.2.2.2.2.1 v.2.2.1 x0 (by decide)) (cwV 2 hts gX6_appendRule_X4_put rfl rfl rfl hd_X4_put_V ⟨Nat.le_of_ble_eq_true rfl, Nat.le_of_ble_eq_true rfl⟩) ⟨muP_blind, va_recv hK0.1 hP (ci := 2) (q0 := 5) rfl rfl, my_preM hK0 hS hAB hP hD [5, 6] (by decide) rfl⟩ rfl rfl hl.1 rfl (lv_room (Nat.le_of_ble_eq_true rfl)) dX6_appendRule_9 ⟨Nat.zero_le _, Nat.zero_le _⟩) hS hP hD [5, 6] rfl (w2 := (wSetE cy a v.1 v.2.1 v.2.2.1 v.2.2.2.1 v.2.2.2.2.1 (rPut 4 v.2.2.2.2.2.1 v.2.2.1 x0) v.2.2.2.2.2.2)) rfl (fun H locs hP hD hS => ?_)
  refine lv_aload_n hx hb dX6_appendRule_12 rfl (lv_at hl 0 rfl) ?_
  refine va_get (D := D) (ci := 4) (v := .ref (a 7)) (C := RX6) (T := TX6) (N := 7) hx hb hts inX6 hown hK0.1 hP 0 rfl rfl 6 (by decide) (hts (.fieldLink RX6 30 "PivotChamber$Setting" "values" "LPivotChamber$Row;") (List.mem_of_getElem? (i := 3) rfl)) (fun _ h9 => h9) rfl dX6_appendRule_13 ?_
  refine lv_aload_n hx hb dX6_appendRule_16 rfl (lv_at hl 0 rfl) ?_
  refine va_get (D := D) (ci := 4) (v := .int v.2.2.1) (C := RX6) (T := TX6) (N := 7) hx hb hts inX6 hown hK0.1 hP 0 rfl rfl 4 (by decide) (hts (.fieldLink RX6 40 "PivotChamber$Setting" "rules" "I") (List.mem_of_getElem? (i := 2) rfl)) (fun _ h9 => h9) rfl dX6_appendRule_17 ?_
  refine lv_iload_n hx hb dX6_appendRule_20 rfl (lv_at hl 2 rfl) ?_
  refine mu_row (va_runV (C := RX4) (As := [.int v.2.2.1, .int x1]) (rest := []) S (c_X4_put l D cy g B (a 7) (a 8) 4 v.2.2.2.2.2.2 v.2.2.1 x1 (by decide)) (cwV 2 hts gX6_appendRule_X4_put rfl rfl rfl hd_X4_put_V ⟨Nat.le_of_ble_eq_true rfl, Nat.le_of_ble_eq_true rfl⟩) ⟨muP_blind, va_recv hK0.1 hP (ci := 2) (q0 := 7) rfl rfl, my_preM hK0 hS hAB hP hD [7, 8] (by decide) rfl⟩ rfl rfl hl.1 rfl (lv_room (Nat.le_of_ble_eq_true rfl)) dX6_appendRule_21 ⟨Nat.zero_le _, Nat.zero_le _⟩) hS hP hD [7, 8] rfl (w2 := (wSetE cy a v.1 v.2.1 v.2.2.1 v.2.2.2.1 v.2.2.2.2.1 (rPut 4 v.2.2.2.2.2.1 v.2.2.1 x0) (rPut 4 v.2.2.2.2.2.2 v.2.2.1 x1))) rfl (fun H locs hP hD hS => ?_)
  refine lv_aload_n hx hb dX6_appendRule_24 rfl (lv_at hl 0 rfl) ?_
  refine lv_dup hx hb dX6_appendRule_25 rfl ?_
  refine va_get (D := D) (ci := 4) (v := .int v.2.2.1) (C := RX6) (T := TX6) (N := 7) hx hb hts inX6 hown hK0.1 hP 0 rfl rfl 4 (by decide) (hts (.fieldLink RX6 40 "PivotChamber$Setting" "rules" "I") (List.mem_of_getElem? (i := 2) rfl)) (fun _ h9 => h9) rfl dX6_appendRule_26 ?_
  refine lv_iconst (v := 1) hx hb dX6_appendRule_29 (by decide) ?_
  refine lv_iadd hx hb dX6_appendRule_30 ?_
  refine va_put (D := D) (ci := 4) (v := .int (v.2.2.1 + 1)) (ty := .int) (C := RX6) (T := TX6) (N := 7) hx hb hts inX6 tyX6 tyX6_ok nmX6 hown hK0.1 hP hD hS 0 rfl rfl 4 (by decide) (hts (.fieldLink RX6 40 "PivotChamber$Setting" "rules" "I") (List.mem_of_getElem? (i := 2) rfl)) (fun _ h9 => h9) rfl (by decide +kernel) rfl rfl (Nat.le_of_ble_eq_true rfl) dX6_appendRule_31 (fun H locs hP hD hS => ?_)
  have hP : va_P D vwCl (wSetE cy a v.1 v.2.1 (v.2.2.1 + 1) v.2.2.2.1 v.2.2.2.2.1 (rPut 4 v.2.2.2.2.2.1 v.2.2.1 x0) (rPut 4 v.2.2.2.2.2.2 v.2.2.1 x1)) H := hP
  have hD : va_D A (wSetE cy a v.1 v.2.1 (v.2.2.1 + 1) v.2.2.2.1 v.2.2.2.2.1 (rPut 4 v.2.2.2.2.2.1 v.2.2.1 x0) (rPut 4 v.2.2.2.2.2.2 v.2.2.1 x1)) := hD
  refine lv_aload_n hx hb dX6_appendRule_34 rfl (lv_at hl 0 rfl) ?_
  refine va_get (D := D) (ci := 4) (v := .int (v.2.2.1 + 1)) (C := RX6) (T := TX6) (N := 7) hx hb hts inX6 hown hK0.1 hP 0 rfl rfl 4 (by decide) (hts (.fieldLink RX6 40 "PivotChamber$Setting" "rules" "I") (List.mem_of_getElem? (i := 2) rfl)) (fun _ h9 => h9) rfl dX6_appendRule_35 ?_
  refine lv_iconst (v := 1) hx hb dX6_appendRule_38 (by decide) ?_
  refine lv_isub hx hb dX6_appendRule_39 ?_
  have hP : va_P D vwCl (wSet cy a (v.1, v.2.1, (v.2.2.1 + 1), v.2.2.2.1, v.2.2.2.2.1, (rPut 4 v.2.2.2.2.2.1 v.2.2.1 x0), (rPut 4 v.2.2.2.2.2.2 v.2.2.1 x1))) H := by rw [wSet_mk]; exact hP
  have hD : va_D A (wSet cy a (v.1, v.2.1, (v.2.2.1 + 1), v.2.2.2.1, v.2.2.2.2.1, (rPut 4 v.2.2.2.2.2.1 v.2.2.1 x0), (rPut 4 v.2.2.2.2.2.2 v.2.2.1 x1))) := by rw [wSet_mk]; exact hD
  exact W.iret hx hb hr (fun t ht hW => ⟨⟨((v.2.2.1 + 1) - 1), (v.1, v.2.1, (v.2.2.1 + 1), v.2.2.2.1, v.2.2.2.2.1, (rPut 4 v.2.2.2.2.2.1 v.2.2.1 x0), (rPut 4 v.2.2.2.2.2.2 v.2.2.1 x1)), rfl, (show f_X6_appendRule v x0 x1 = (((v.2.2.1 + 1) - 1), (v.1, v.2.1, (v.2.2.1 + 1), v.2.2.2.1, v.2.2.2.2.1, (rPut 4 v.2.2.2.2.2.1 v.2.2.1 x0), (rPut 4 v.2.2.2.2.2.2 v.2.2.1 x1))) from by rw [f_X6_appendRule]), by show va_P D vwCl _ t.heap; rw [ht]; exact hP⟩, hS.F ht⟩) hS.2.2 dX6_appendRule_40
theorem hd_X6_removeRule_S : yX6_removeRule.cls ≠ "java/lang/invoke/MethodHandle" ∧ yX6_removeRule.cls ≠ "java/lang/invoke/VarHandle" ∧ (parseMethodDescriptor yX6_removeRule.desc).map (fun d => d.parameters.length) = some 1 := by decide +kernel
theorem hd_X6_removeRule_V : yX6_removeRule.cls = RX6 ∧ yX6_removeRule.cls ≠ "java/lang/invoke/MethodHandle" ∧ yX6_removeRule.cls ≠ "java/lang/invoke/VarHandle" ∧ (parseMethodDescriptor yX6_removeRule.desc).map (fun d => d.parameters.length) = some 1 := ⟨rfl, hd_X6_removeRule_S⟩
def f_X6_removeRule_st (v : SetV) (i2_1 : Int32) (w05_2 : (Nat → Int32)) (w06_3 : (Nat → Int32)) : (Int32 × (Nat → Int32) × (Nat → Int32)) ⊕ (Int32 × (Nat → Int32) × (Nat → Int32)) := (if (v.2.2.1 - 1) ≤ i2_1 then (.inr (i2_1, w05_2, w06_3)) else (.inl ((i2_1 + 1), (rPut 4 w05_2 i2_1 (rAt 4 w05_2 (i2_1 + 1))), (rPut 4 w06_3 i2_1 (rAt 4 w06_3 (i2_1 + 1))))))
def f_X6_removeRule (v : SetV) (x0 : Int32) : Int32 × SetV := (my_t3 (lp (fun (x : Int32 × (Nat → Int32) × (Nat → Int32)) => f_X6_removeRule_st v x.1 x.2.1 x.2.2) default ((((v.2.2.1 - 1) : Int32).toInt - (x0 : Int32).toInt).toNat + 1) (x0, v.2.2.2.2.2.1, v.2.2.2.2.2.2)) (fun (i2_1 : Int32) (w05_2 : (Nat → Int32)) (w06_3 : (Nat → Int32)) => ((v.2.2.1 - 1), (v.1, v.2.1, (v.2.2.1 - 1), v.2.2.2.1, v.2.2.2.2.1, w05_2, w06_3))))
set_option maxHeartbeats 400000 in
set_option maxRecDepth 100000 in
theorem c_X6_removeRule (l : Launch) (D : va_G) (cy : Nat → ClassId) (g : Nat → Nat) (B : Nat) (a : Nat → Nat) (v : SetV) (x0 : Int32) : Met l yX6_removeRule wsX6_removeRule ({ frames := 1, cells := 0, slots := 0, locals := 22 }) (muP D cy g B (wSet cy a v) [.ref (a 0), .int x0]) (va_Qi (fun (r : Int32) (u : SetV) => f_X6_removeRule v x0 = (r, u)) (fun u t => va_P D vwCl (wSet cy a u) t.heap) (muA (wSet cy a v))) 0 0 (muA (wSet cy a v)) := by
  refine Met.ofW (cc := cX6_removeRule) (maxL := 3) (ret := (some .int)) (by decide) rfl ?_
  intro p e s m args below meth c s₁ BB hml hv
  obtain ⟨rfl, hP, hK0, hD0⟩ := hv
  have hx := BB.exec
  have hb := BB.bytes
  have hr := BB.returns
  have hts := atoms_spec (ws := wsX6_removeRule) BB.pre
  have hown : s.vm.findClass RX6 = some m.cls := findClass_of_methodNamed BB.named
  have hlocks := BB.notSynchronized
  have S := my_fix hx hb hml hown hts
  have inX6 : ∀ w ∈ wsX60, w ∈ wsX6_removeRule := fun w h => List.mem_cons_of_mem _ (List.mem_append_left _ (List.mem_append_right _ h))
  have hAB := muB hD0
  have hD := muD hD0
  generalize hAe : muA (wSet cy a v) = A at hAB hD ⊢
  have hS : va_S A s.heap s.heap [] := va_S.rf
  have hl := lv_entry ([.ref (a 0), .int x0]) (n := 3) (Nat.le_of_ble_eq_true rfl)
  rw [lg_entry_eq]
  generalize (lg_sl ([.ref (a 0), .int x0]) ++ List.replicate (3 - (lg_sl ([.ref (a 0), .int x0])).length) Slot.unset).toArray = ls at hl ⊢
  have hl : lv_has ls 3 [(0, .ref (a 0)), (1, .int x0)] := hl
  refine lv_aload_n hx hb dX6_removeRule_0 rfl (lv_at hl 0 rfl) ?_
  refine lv_dup hx hb dX6_removeRule_1 rfl ?_
  refine va_get (D := D) (ci := 4) (v := .int v.2.2.1) (C := RX6) (T := TX6) (N := 7) hx hb hts inX6 hown hK0.1 hP 0 rfl rfl 4 (by decide) (hts (.fieldLink RX6 40 "PivotChamber$Setting" "rules" "I") (List.mem_of_getElem? (i := 1) rfl)) (fun _ h9 => h9) rfl dX6_removeRule_2 ?_
  refine lv_iconst (v := 1) hx hb dX6_removeRule_5 (by decide) ?_
  refine lv_isub hx hb dX6_removeRule_6 ?_
  refine va_put (D := D) (ci := 4) (v := .int (v.2.2.1 - 1)) (ty := .int) (C := RX6) (T := TX6) (N := 7) hx hb hts inX6 tyX6 tyX6_ok nmX6 hown hK0.1 hP hD hS 0 rfl rfl 4 (by decide) (hts (.fieldLink RX6 40 "PivotChamber$Setting" "rules" "I") (List.mem_of_getElem? (i := 1) rfl)) (fun _ h9 => h9) rfl (by decide +kernel) rfl rfl (Nat.le_of_ble_eq_true rfl) dX6_removeRule_7 (fun H locs hP hD hS => ?_)
  have hP : va_P D vwCl (wSetE cy a v.1 v.2.1 (v.2.2.1 - 1) v.2.2.2.1 v.2.2.2.2.1 v.2.2.2.2.2.1 v.2.2.2.2.2.2) H := hP
  have hD : va_D A (wSetE cy a v.1 v.2.1 (v.2.2.1 - 1) v.2.2.2.1 v.2.2.2.2.1 v.2.2.2.2.2.1 v.2.2.2.2.2.2) := hD
  refine lv_iload_n hx hb dX6_removeRule_10 rfl (lv_at hl 1 rfl) ?_
  refine lv_istore_n (lv' := [(2, .int x0), (0, .ref (a 0)), (1, .int x0)]) hx hb dX6_removeRule_11 rfl hl (by decide) rfl (fun ls hl => ?_)
  have cont0 : ∀ (i2_1 : Int32) (w05_2 : (Nat → Int32)) (w06_3 : (Nat → Int32)), lp (fun (x : Int32 × (Nat → Int32) × (Nat → Int32)) => f_X6_removeRule_st v x.1 x.2.1 x.2.2) default ((((v.2.2.1 - 1) : Int32).toInt - (x0 : Int32).toInt).toNat + 1) (x0, v.2.2.2.2.2.1, v.2.2.2.2.2.2) = (i2_1, w05_2, w06_3) → ∀ (H : Heap) (locs : List Loc), va_P D vwCl (wSetE cy a v.1 v.2.1 (v.2.2.1 - 1) v.2.2.2.1 v.2.2.2.2.1 w05_2 w06_3) H → va_D A (wSetE cy a v.1 v.2.1 (v.2.2.1 - 1) v.2.2.2.1 v.2.2.2.2.1 w05_2 w06_3) → va_S A s.heap H locs → ∀ ls : Array Slot, lv_has ls 3 [(0, .ref (a 0)), (1, .int x0), (2, .int i2_1)] → W p l e (headSpec wsX6_removeRule ({ frames := 1, cells := 0, slots := 0, locals := 22 } : Room)).room s m ([.ref (a 0), .int x0] : List Value).toArray below meth c H locs 0 0 (MQ below (va_Qi (fun (r : Int32) (u : SetV) => f_X6_removeRule v x0 = (r, u)) (fun u t => va_P D vwCl (wSet cy a u) t.heap) A) ([.ref (a 0), .int x0] : List Value).toArray s 0 0 A) (F0 m 62 ls []) := by
    intro i2_1 w05_2 w06_3 hE0 H locs hP hD hS ls hl
    refine lv_aload_n hx hb dX6_removeRule_62 rfl (lv_at hl 0 rfl) ?_
    refine va_get (D := D) (ci := 4) (v := .int (v.2.2.1 - 1)) (C := RX6) (T := TX6) (N := 7) hx hb hts inX6 hown hK0.1 hP 0 rfl rfl 4 (by decide) (hts (.fieldLink RX6 40 "PivotChamber$Setting" "rules" "I") (List.mem_of_getElem? (i := 1) rfl)) (fun _ h9 => h9) rfl dX6_removeRule_63 ?_
    have hP : va_P D vwCl (wSet cy a (v.1, v.2.1, (v.2.2.1 - 1), v.2.2.2.1, v.2.2.2.2.1, w05_2, w06_3)) H := by rw [wSet_mk]; exact hP
    have hD : va_D A (wSet cy a (v.1, v.2.1, (v.2.2.1 - 1), v.2.2.2.1, v.2.2.2.2.1, w05_2, w06_3)) := by rw [wSet_mk]; exact hD
    exact W.iret hx hb hr (fun t ht hW => ⟨⟨(v.2.2.1 - 1), (v.1, v.2.1, (v.2.2.1 - 1), v.2.2.2.1, v.2.2.2.2.1, w05_2, w06_3), rfl, (show f_X6_removeRule v x0 = ((v.2.2.1 - 1), (v.1, v.2.1, (v.2.2.1 - 1), v.2.2.2.1, v.2.2.2.2.1, w05_2, w06_3)) from by rw [f_X6_removeRule, hE0, my_t3_eq]), by show va_P D vwCl _ t.heap; rw [ht]; exact hP⟩, hS.F ht⟩) hS.2.2 dX6_removeRule_66
  have key : ∀ (nf : Nat) (i2_1 : Int32) (w05_2 : (Nat → Int32)) (w06_3 : (Nat → Int32)), (((v.2.2.1 - 1) : Int32).toInt - (i2_1 : Int32).toInt).toNat < nf → lp (fun (x : Int32 × (Nat → Int32) × (Nat → Int32)) => f_X6_removeRule_st v x.1 x.2.1 x.2.2) default nf (i2_1, w05_2, w06_3) = lp (fun (x : Int32 × (Nat → Int32) × (Nat → Int32)) => f_X6_removeRule_st v x.1 x.2.1 x.2.2) default ((((v.2.2.1 - 1) : Int32).toInt - (x0 : Int32).toInt).toNat + 1) (x0, v.2.2.2.2.2.1, v.2.2.2.2.2.2) → ∀ (H : Heap) (locs : List Loc), va_P D vwCl (wSetE cy a v.1 v.2.1 (v.2.2.1 - 1) v.2.2.2.1 v.2.2.2.2.1 w05_2 w06_3) H → va_D A (wSetE cy a v.1 v.2.1 (v.2.2.1 - 1) v.2.2.2.1 v.2.2.2.2.1 w05_2 w06_3) → va_S A s.heap H locs → ∀ ls : Array Slot, lv_has ls 3 [(0, .ref (a 0)), (1, .int x0), (2, .int i2_1)] → W p l e (headSpec wsX6_removeRule ({ frames := 1, cells := 0, slots := 0, locals := 22 } : Room)).room s m ([.ref (a 0), .int x0] : List Value).toArray below meth c H locs 0 0 (MQ below (va_Qi (fun (r : Int32) (u : SetV) => f_X6_removeRule v x0 = (r, u)) (fun u t => va_P D vwCl (wSet cy a u) t.heap) A) ([.ref (a 0), .int x0] : List Value).toArray s 0 0 A) (F0 m 12 ls []) := by
    intro n0
    induction n0 with
    | zero => intro i2_1 w05_2 w06_3 hlt; exact absurd hlt (Nat.not_lt_zero _)
    | succ n0 ih0 =>
      intro i2_1 w05_2 w06_3 hlt0 hF0 H locs hP hD hS ls hl
      refine lv_iload_n hx hb dX6_removeRule_12 rfl (lv_at hl 2 rfl) ?_
      refine lv_aload_n hx hb dX6_removeRule_13 rfl (lv_at hl 0 rfl) ?_
      refine va_get (D := D) (ci := 4) (v := .int (v.2.2.1 - 1)) (C := RX6) (T := TX6) (N := 7) hx hb hts inX6 hown hK0.1 hP 0 rfl rfl 4 (by decide) (hts (.fieldLink RX6 40 "PivotChamber$Setting" "rules" "I") (List.mem_of_getElem? (i := 1) rfl)) (fun _ h9 => h9) rfl dX6_removeRule_14 ?_
      refine lv_icmp_ge (tgt := 62) hx hb dX6_removeRule_17 (by decide) (fun c_4 => ?_) (fun c_4 => ?_)
      · have hst : f_X6_removeRule_st v i2_1 w05_2 w06_3 = .inr (i2_1, w05_2, w06_3) := by rw [f_X6_removeRule_st, if_pos c_4]
        exact cont0 i2_1 w05_2 w06_3 (lp_inr hst hF0) _ _ hP hD hS _ (lv_sub hl [0, 1, 2] rfl)
      · refine lv_aload_n hx hb dX6_removeRule_20 rfl (lv_at hl 0 rfl) ?_
        refine va_get (D := D) (ci := 4) (v := .ref (a 5)) (C := RX6) (T := TX6) (N := 7) hx hb hts inX6 hown hK0.1 hP 0 rfl rfl 5 (by decide) (hts (.fieldLink RX6 27 "PivotChamber$Setting" "kinds" "LPivotChamber$Row;") (List.mem_of_getElem? (i := 2) rfl)) (fun _ h9 => h9) rfl dX6_removeRule_21 ?_
        refine lv_iload_n hx hb dX6_removeRule_24 rfl (lv_at hl 2 rfl) ?_
        refine lv_aload_n hx hb dX6_removeRule_25 rfl (lv_at hl 0 rfl) ?_
        refine va_get (D := D) (ci := 4) (v := .ref (a 5)) (C := RX6) (T := TX6) (N := 7) hx hb hts inX6 hown hK0.1 hP 0 rfl rfl 5 (by decide) (hts (.fieldLink RX6 27 "PivotChamber$Setting" "kinds" "LPivotChamber$Row;") (List.mem_of_getElem? (i := 2) rfl)) (fun _ h9 => h9) rfl dX6_removeRule_26 ?_
        refine lv_iload_n hx hb dX6_removeRule_29 rfl (lv_at hl 2 rfl) ?_
        refine lv_iconst (v := 1) hx hb dX6_removeRule_30 (by decide) ?_
        refine lv_iadd hx hb dX6_removeRule_31 ?_
        refine rd_goi (va_runV (C := RX4) (As := [.int (i2_1 + 1)]) (rest := [.int i2_1, .ref (a 5)]) S (c_X4_at l D cy g B (a 5) (a 6) 4 w05_2 (i2_1 + 1) (by decide)) (cwV 1 hts gX6_removeRule_X4_at rfl rfl rfl hd_X4_at_V ⟨Nat.le_of_ble_eq_true rfl, Nat.le_of_ble_eq_true rfl⟩) ⟨rdP_blind, va_recv hK0.1 hP (ci := 2) (q0 := 5) rfl rfl, my_preV hK0 hS hAB hP [5, 6] rfl⟩ rfl rfl hl.1 rfl (lv_room (Nat.le_of_ble_eq_true rfl)) dX6_removeRule_32 ⟨Nat.zero_le _, Nat.zero_le _⟩) ?_
        refine mu_row (va_runV (C := RX4) (As := [.int i2_1, .int (rAt 4 w05_2 (i2_1 + 1))]) (rest := []) S (c_X4_put l D cy g B (a 5) (a 6) 4 w05_2 i2_1 (rAt 4 w05_2 (i2_1 + 1)) (by decide)) (cwV 2 hts gX6_removeRule_X4_put rfl rfl rfl hd_X4_put_V ⟨Nat.le_of_ble_eq_true rfl, Nat.le_of_ble_eq_true rfl⟩) ⟨muP_blind, va_recv hK0.1 hP (ci := 2) (q0 := 5) rfl rfl, my_preM hK0 hS hAB hP hD [5, 6] (by decide) rfl⟩ rfl rfl hl.1 rfl (lv_room (Nat.le_of_ble_eq_true rfl)) dX6_removeRule_35 ⟨Nat.zero_le _, Nat.zero_le _⟩) hS hP hD [5, 6] rfl (w2 := (wSetE cy a v.1 v.2.1 (v.2.2.1 - 1) v.2.2.2.1 v.2.2.2.2.1 (rPut 4 w05_2 i2_1 (rAt 4 w05_2 (i2_1 + 1))) w06_3)) rfl (fun H locs hP hD hS => ?_)
        refine lv_aload_n hx hb dX6_removeRule_38 rfl (lv_at hl 0 rfl) ?_
        refine va_get (D := D) (ci := 4) (v := .ref (a 7)) (C := RX6) (T := TX6) (N := 7) hx hb hts inX6 hown hK0.1 hP 0 rfl rfl 6 (by decide) (hts (.fieldLink RX6 30 "PivotChamber$Setting" "values" "LPivotChamber$Row;") (List.mem_of_getElem? (i := 3) rfl)) (fun _ h9 => h9) rfl dX6_removeRule_39 ?_
        refine lv_iload_n hx hb dX6_removeRule_42 rfl (lv_at hl 2 rfl) ?_
        refine lv_aload_n hx hb dX6_removeRule_43 rfl (lv_at hl 0 rfl) ?_
        refine va_get (D := D) (ci := 4) (v := .ref (a 7)) (C := RX6) (T := TX6) (N := 7) hx hb hts inX6 hown hK0.1 hP 0 rfl rfl 6 (by decide) (hts (.fieldLink RX6 30 "PivotChamber$Setting" "values" "LPivotChamber$Row;") (List.mem_of_getElem? (i := 3) rfl)) (fun _ h9 => h9) rfl dX6_removeRule_44 ?_
        refine lv_iload_n hx hb dX6_removeRule_47 rfl (lv_at hl 2 rfl) ?_
        refine lv_iconst (v := 1) hx hb dX6_removeRule_48 (by decide) ?_
        refine lv_iadd hx hb dX6_removeRule_49 ?_
        refine rd_goi (va_runV (C := RX4) (As := [.int (i2_1 + 1)]) (rest := [.int i2_1, .ref (a 7)]) S (c_X4_at l D cy g B (a 7) (a 8) 4 w06_3 (i2_1 + 1) (by decide)) (cwV 1 hts gX6_removeRule_X4_at rfl rfl rfl hd_X4_at_V ⟨Nat.le_of_ble_eq_true rfl, Nat.le_of_ble_eq_true rfl⟩) ⟨rdP_blind, va_recv hK0.1 hP (ci := 2) (q0 := 7) rfl rfl, my_preV hK0 hS hAB hP [7, 8] rfl⟩ rfl rfl hl.1 rfl (lv_room (Nat.le_of_ble_eq_true rfl)) dX6_removeRule_50 ⟨Nat.zero_le _, Nat.zero_le _⟩) ?_
        refine mu_row (va_runV (C := RX4) (As := [.int i2_1, .int (rAt 4 w06_3 (i2_1 + 1))]) (rest := []) S (c_X4_put l D cy g B (a 7) (a 8) 4 w06_3 i2_1 (rAt 4 w06_3 (i2_1 + 1)) (by decide)) (cwV 2 hts gX6_removeRule_X4_put rfl rfl rfl hd_X4_put_V ⟨Nat.le_of_ble_eq_true rfl, Nat.le_of_ble_eq_true rfl⟩) ⟨muP_blind, va_recv hK0.1 hP (ci := 2) (q0 := 7) rfl rfl, my_preM hK0 hS hAB hP hD [7, 8] (by decide) rfl⟩ rfl rfl hl.1 rfl (lv_room (Nat.le_of_ble_eq_true rfl)) dX6_removeRule_53 ⟨Nat.zero_le _, Nat.zero_le _⟩) hS hP hD [7, 8] rfl (w2 := (wSetE cy a v.1 v.2.1 (v.2.2.1 - 1) v.2.2.2.1 v.2.2.2.2.1 (rPut 4 w05_2 i2_1 (rAt 4 w05_2 (i2_1 + 1))) (rPut 4 w06_3 i2_1 (rAt 4 w06_3 (i2_1 + 1))))) rfl (fun H locs hP hD hS => ?_)
        refine lv_iinc (v := (i2_1 + 1)) (lv' := [(2, .int (i2_1 + 1)), (0, .ref (a 0)), (1, .int x0)]) hx hb dX6_removeRule_56 hl (k := 2) rfl rfl (by decide) rfl (fun ls hl => ?_)
        refine lv_goto (tgt := 12) hx hb dX6_removeRule_59 (by decide) ?_
        have hst : f_X6_removeRule_st v i2_1 w05_2 w06_3 = .inl ((i2_1 + 1), (rPut 4 w05_2 i2_1 (rAt 4 w05_2 (i2_1 + 1))), (rPut 4 w06_3 i2_1 (rAt 4 w06_3 (i2_1 + 1)))) := by rw [f_X6_removeRule_st, if_neg c_4]
        have hmu : (((v.2.2.1 - 1) : Int32).toInt - ((i2_1 + 1) : Int32).toInt).toNat < (((v.2.2.1 - 1) : Int32).toInt - (i2_1 : Int32).toInt).toNat := mu_up c_4
        exact ih0 (i2_1 + 1) (rPut 4 w05_2 i2_1 (rAt 4 w05_2 (i2_1 + 1))) (rPut 4 w06_3 i2_1 (rAt 4 w06_3 (i2_1 + 1))) (Nat.lt_of_lt_of_le hmu (Nat.le_of_lt_succ hlt0)) (lp_inl hst hF0) _ _ hP hD hS _ (lv_sub hl [1, 2, 0] rfl)
  exact key ((((v.2.2.1 - 1) : Int32).toInt - (x0 : Int32).toInt).toNat + 1) x0 v.2.2.2.2.2.1 v.2.2.2.2.2.2 (Nat.lt_succ_self _) rfl _ _ hP hD hS _ (lv_sub hl [1, 2, 0] rfl)
theorem hd_X6_copyFrom_S : yX6_copyFrom.cls ≠ "java/lang/invoke/MethodHandle" ∧ yX6_copyFrom.cls ≠ "java/lang/invoke/VarHandle" ∧ (parseMethodDescriptor yX6_copyFrom.desc).map (fun d => d.parameters.length) = some 1 := by decide +kernel
theorem hd_X6_copyFrom_V : yX6_copyFrom.cls = RX6 ∧ yX6_copyFrom.cls ≠ "java/lang/invoke/MethodHandle" ∧ yX6_copyFrom.cls ≠ "java/lang/invoke/VarHandle" ∧ (parseMethodDescriptor yX6_copyFrom.desc).map (fun d => d.parameters.length) = some 1 := ⟨rfl, hd_X6_copyFrom_S⟩
def f_X6_copyFrom (v : SetV) (w : SetV) : SetV := (w.1, w.2.1, w.2.2.1, (f_X4_copyFrom 8 v.2.2.2.1 w.2.2.2.1), (f_X4_copyFrom 8 v.2.2.2.2.1 w.2.2.2.2.1), (f_X4_copyFrom 4 v.2.2.2.2.2.1 w.2.2.2.2.2.1), (f_X4_copyFrom 4 v.2.2.2.2.2.2 w.2.2.2.2.2.2))
set_option maxHeartbeats 400000 in
set_option maxRecDepth 100000 in
theorem c_X6_copyFrom (l : Launch) (D : va_G) (cy : Nat → ClassId) (g : Nat → Nat) (B : Nat) (a : Nat → Nat) (b : Nat → Nat) (v : SetV) (w : SetV) : Met l yX6_copyFrom wsX6_copyFrom ({ frames := 2, cells := 0, slots := 0, locals := 43 }) (muP D cy g B (List.flatten [(wSet cy a v), (wSet cy b w)]) [.ref (a 0), .ref (b 0)]) (va_Qv (fun (u : SetV) => f_X6_copyFrom v w = u) (fun u t => va_P D vwCl (List.flatten [(wSet cy a u), (wSet cy b w)]) t.heap) (muA (List.flatten [(wSet cy a v), (wSet cy b w)]))) 0 0 (muA (List.flatten [(wSet cy a v), (wSet cy b w)])) := by
  refine Met.ofW (cc := cX6_copyFrom) (maxL := 2) (ret := none) (by decide) rfl ?_
  intro p e s m args below meth c s₁ BB hml hv
  obtain ⟨rfl, hP, hK0, hD0⟩ := hv
  have hx := BB.exec
  have hb := BB.bytes
  have hr := BB.returns
  have hts := atoms_spec (ws := wsX6_copyFrom) BB.pre
  have hown : s.vm.findClass RX6 = some m.cls := findClass_of_methodNamed BB.named
  have hlocks := BB.notSynchronized
  have S := my_fix hx hb hml hown hts
  have inX6 : ∀ w ∈ wsX60, w ∈ wsX6_copyFrom := fun w h => List.mem_cons_of_mem _ (List.mem_append_left _ (List.mem_append_right _ h))
  have hAB := muB hD0
  have hD := muD hD0
  generalize hAe : muA (List.flatten [(wSet cy a v), (wSet cy b w)]) = A at hAB hD ⊢
  have hS : va_S A s.heap s.heap [] := va_S.rf
  have hl := lv_entry ([.ref (a 0), .ref (b 0)]) (n := 2) (Nat.le_of_ble_eq_true rfl)
  rw [lg_entry_eq]
  generalize (lg_sl ([.ref (a 0), .ref (b 0)]) ++ List.replicate (2 - (lg_sl ([.ref (a 0), .ref (b 0)])).length) Slot.unset).toArray = ls at hl ⊢
  have hl : lv_has ls 2 [(0, .ref (a 0)), (1, .ref (b 0))] := hl
  refine lv_aload_n hx hb dX6_copyFrom_0 rfl (lv_at hl 0 rfl) ?_
  refine lv_aload_n hx hb dX6_copyFrom_1 rfl (lv_at hl 1 rfl) ?_
  refine va_get (D := D) (ci := 4) (v := .int w.1) (C := RX6) (T := TX6) (N := 7) hx hb hts inX6 hown hK0.1 hP 9 rfl rfl 0 (by decide) (hts (.fieldLink RX6 33 "PivotChamber$Setting" "members" "I") (List.mem_of_getElem? (i := 1) rfl)) (fun _ h9 => h9) rfl dX6_copyFrom_2 ?_
  refine va_put (D := D) (ci := 4) (v := .int w.1) (ty := .int) (C := RX6) (T := TX6) (N := 7) hx hb hts inX6 tyX6 tyX6_ok nmX6 hown hK0.1 hP hD hS 0 rfl rfl 0 (by decide) (hts (.fieldLink RX6 33 "PivotChamber$Setting" "members" "I") (List.mem_of_getElem? (i := 1) rfl)) (fun _ h9 => h9) rfl (by decide +kernel) rfl rfl (Nat.le_of_ble_eq_true rfl) dX6_copyFrom_5 (fun H locs hP hD hS => ?_)
  have hP : va_P D vwCl (List.flatten [(wSetE cy a w.1 v.2.1 v.2.2.1 v.2.2.2.1 v.2.2.2.2.1 v.2.2.2.2.2.1 v.2.2.2.2.2.2), (wSet cy b w)]) H := hP
  have hD : va_D A (List.flatten [(wSetE cy a w.1 v.2.1 v.2.2.1 v.2.2.2.1 v.2.2.2.2.1 v.2.2.2.2.2.1 v.2.2.2.2.2.2), (wSet cy b w)]) := hD
  refine lv_aload_n hx hb dX6_copyFrom_8 rfl (lv_at hl 0 rfl) ?_
  refine va_get (D := D) (ci := 4) (v := .ref (a 1)) (C := RX6) (T := TX6) (N := 7) hx hb hts inX6 hown hK0.1 hP 0 rfl rfl 1 (by decide) (hts (.fieldLink RX6 14 "PivotChamber$Setting" "weights" "LPivotChamber$Row;") (List.mem_of_getElem? (i := 2) rfl)) (fun _ h9 => h9) rfl dX6_copyFrom_9 ?_
  refine lv_aload_n hx hb dX6_copyFrom_12 rfl (lv_at hl 1 rfl) ?_
  refine va_get (D := D) (ci := 4) (v := .ref (b 1)) (C := RX6) (T := TX6) (N := 7) hx hb hts inX6 hown hK0.1 hP 9 rfl rfl 1 (by decide) (hts (.fieldLink RX6 14 "PivotChamber$Setting" "weights" "LPivotChamber$Row;") (List.mem_of_getElem? (i := 2) rfl)) (fun _ h9 => h9) rfl dX6_copyFrom_13 ?_
  refine mu_row2 (va_runV (C := RX4) (As := [.ref (b 1)]) (rest := []) S (c_X4_copyFrom l D cy g B (a 1) (a 2) (b 1) (b 2) 8 v.2.2.2.1 w.2.2.2.1 (by decide)) (cwV 1 hts gX6_copyFrom_X4_copyFrom rfl rfl rfl hd_X4_copyFrom_V ⟨Nat.le_of_ble_eq_true rfl, Nat.le_of_ble_eq_true rfl⟩) ⟨muP_blind, va_recv hK0.1 hP (ci := 2) (q0 := 1) rfl rfl, my_preM hK0 hS hAB hP hD [1, 2, 10, 11] (by decide) rfl⟩ rfl rfl hl.1 rfl (lv_room (Nat.le_of_ble_eq_true rfl)) dX6_copyFrom_16 ⟨Nat.zero_le _, Nat.zero_le _⟩) hS hP hD [1, 2, 10, 11] rfl (w2 := (List.flatten [(wSetE cy a w.1 v.2.1 v.2.2.1 (f_X4_copyFrom 8 v.2.2.2.1 w.2.2.2.1) v.2.2.2.2.1 v.2.2.2.2.2.1 v.2.2.2.2.2.2), (wSet cy b w)])) rfl (fun H locs hP hD hS => ?_)
  refine lv_aload_n hx hb dX6_copyFrom_19 rfl (lv_at hl 0 rfl) ?_
  refine va_get (D := D) (ci := 4) (v := .ref (a 3)) (C := RX6) (T := TX6) (N := 7) hx hb hts inX6 hown hK0.1 hP 0 rfl rfl 2 (by decide) (hts (.fieldLink RX6 20 "PivotChamber$Setting" "leaders" "LPivotChamber$Row;") (List.mem_of_getElem? (i := 3) rfl)) (fun _ h9 => h9) rfl dX6_copyFrom_20 ?_
  refine lv_aload_n hx hb dX6_copyFrom_23 rfl (lv_at hl 1 rfl) ?_
  refine va_get (D := D) (ci := 4) (v := .ref (b 3)) (C := RX6) (T := TX6) (N := 7) hx hb hts inX6 hown hK0.1 hP 9 rfl rfl 2 (by decide) (hts (.fieldLink RX6 20 "PivotChamber$Setting" "leaders" "LPivotChamber$Row;") (List.mem_of_getElem? (i := 3) rfl)) (fun _ h9 => h9) rfl dX6_copyFrom_24 ?_
  refine mu_row2 (va_runV (C := RX4) (As := [.ref (b 3)]) (rest := []) S (c_X4_copyFrom l D cy g B (a 3) (a 4) (b 3) (b 4) 8 v.2.2.2.2.1 w.2.2.2.2.1 (by decide)) (cwV 1 hts gX6_copyFrom_X4_copyFrom rfl rfl rfl hd_X4_copyFrom_V ⟨Nat.le_of_ble_eq_true rfl, Nat.le_of_ble_eq_true rfl⟩) ⟨muP_blind, va_recv hK0.1 hP (ci := 2) (q0 := 3) rfl rfl, my_preM hK0 hS hAB hP hD [3, 4, 12, 13] (by decide) rfl⟩ rfl rfl hl.1 rfl (lv_room (Nat.le_of_ble_eq_true rfl)) dX6_copyFrom_27 ⟨Nat.zero_le _, Nat.zero_le _⟩) hS hP hD [3, 4, 12, 13] rfl (w2 := (List.flatten [(wSetE cy a w.1 v.2.1 v.2.2.1 (f_X4_copyFrom 8 v.2.2.2.1 w.2.2.2.1) (f_X4_copyFrom 8 v.2.2.2.2.1 w.2.2.2.2.1) v.2.2.2.2.2.1 v.2.2.2.2.2.2), (wSet cy b w)])) rfl (fun H locs hP hD hS => ?_)
  refine lv_aload_n hx hb dX6_copyFrom_30 rfl (lv_at hl 0 rfl) ?_
  refine lv_aload_n hx hb dX6_copyFrom_31 rfl (lv_at hl 1 rfl) ?_
  refine va_get (D := D) (ci := 4) (v := .int w.2.1) (C := RX6) (T := TX6) (N := 7) hx hb hts inX6 hown hK0.1 hP 9 rfl rfl 3 (by decide) (hts (.fieldLink RX6 23 "PivotChamber$Setting" "quota" "I") (List.mem_of_getElem? (i := 4) rfl)) (fun _ h9 => h9) rfl dX6_copyFrom_32 ?_
  refine va_put (D := D) (ci := 4) (v := .int w.2.1) (ty := .int) (C := RX6) (T := TX6) (N := 7) hx hb hts inX6 tyX6 tyX6_ok nmX6 hown hK0.1 hP hD hS 0 rfl rfl 3 (by decide) (hts (.fieldLink RX6 23 "PivotChamber$Setting" "quota" "I") (List.mem_of_getElem? (i := 4) rfl)) (fun _ h9 => h9) rfl (by decide +kernel) rfl rfl (Nat.le_of_ble_eq_true rfl) dX6_copyFrom_35 (fun H locs hP hD hS => ?_)
  have hP : va_P D vwCl (List.flatten [(wSetE cy a w.1 w.2.1 v.2.2.1 (f_X4_copyFrom 8 v.2.2.2.1 w.2.2.2.1) (f_X4_copyFrom 8 v.2.2.2.2.1 w.2.2.2.2.1) v.2.2.2.2.2.1 v.2.2.2.2.2.2), (wSet cy b w)]) H := hP
  have hD : va_D A (List.flatten [(wSetE cy a w.1 w.2.1 v.2.2.1 (f_X4_copyFrom 8 v.2.2.2.1 w.2.2.2.1) (f_X4_copyFrom 8 v.2.2.2.2.1 w.2.2.2.2.1) v.2.2.2.2.2.1 v.2.2.2.2.2.2), (wSet cy b w)]) := hD
  refine lv_aload_n hx hb dX6_copyFrom_38 rfl (lv_at hl 0 rfl) ?_
  refine lv_aload_n hx hb dX6_copyFrom_39 rfl (lv_at hl 1 rfl) ?_
  refine va_get (D := D) (ci := 4) (v := .int w.2.2.1) (C := RX6) (T := TX6) (N := 7) hx hb hts inX6 hown hK0.1 hP 9 rfl rfl 4 (by decide) (hts (.fieldLink RX6 40 "PivotChamber$Setting" "rules" "I") (List.mem_of_getElem? (i := 5) rfl)) (fun _ h9 => h9) rfl dX6_copyFrom_40 ?_
  refine va_put (D := D) (ci := 4) (v := .int w.2.2.1) (ty := .int) (C := RX6) (T := TX6) (N := 7) hx hb hts inX6 tyX6 tyX6_ok nmX6 hown hK0.1 hP hD hS 0 rfl rfl 4 (by decide) (hts (.fieldLink RX6 40 "PivotChamber$Setting" "rules" "I") (List.mem_of_getElem? (i := 5) rfl)) (fun _ h9 => h9) rfl (by decide +kernel) rfl rfl (Nat.le_of_ble_eq_true rfl) dX6_copyFrom_43 (fun H locs hP hD hS => ?_)
  have hP : va_P D vwCl (List.flatten [(wSetE cy a w.1 w.2.1 w.2.2.1 (f_X4_copyFrom 8 v.2.2.2.1 w.2.2.2.1) (f_X4_copyFrom 8 v.2.2.2.2.1 w.2.2.2.2.1) v.2.2.2.2.2.1 v.2.2.2.2.2.2), (wSet cy b w)]) H := hP
  have hD : va_D A (List.flatten [(wSetE cy a w.1 w.2.1 w.2.2.1 (f_X4_copyFrom 8 v.2.2.2.1 w.2.2.2.1) (f_X4_copyFrom 8 v.2.2.2.2.1 w.2.2.2.2.1) v.2.2.2.2.2.1 v.2.2.2.2.2.2), (wSet cy b w)]) := hD
  refine lv_aload_n hx hb dX6_copyFrom_46 rfl (lv_at hl 0 rfl) ?_
  refine va_get (D := D) (ci := 4) (v := .ref (a 5)) (C := RX6) (T := TX6) (N := 7) hx hb hts inX6 hown hK0.1 hP 0 rfl rfl 5 (by decide) (hts (.fieldLink RX6 27 "PivotChamber$Setting" "kinds" "LPivotChamber$Row;") (List.mem_of_getElem? (i := 6) rfl)) (fun _ h9 => h9) rfl dX6_copyFrom_47 ?_
  refine lv_aload_n hx hb dX6_copyFrom_50 rfl (lv_at hl 1 rfl) ?_
  refine va_get (D := D) (ci := 4) (v := .ref (b 5)) (C := RX6) (T := TX6) (N := 7) hx hb hts inX6 hown hK0.1 hP 9 rfl rfl 5 (by decide) (hts (.fieldLink RX6 27 "PivotChamber$Setting" "kinds" "LPivotChamber$Row;") (List.mem_of_getElem? (i := 6) rfl)) (fun _ h9 => h9) rfl dX6_copyFrom_51 ?_
  refine mu_row2 (va_runV (C := RX4) (As := [.ref (b 5)]) (rest := []) S (c_X4_copyFrom l D cy g B (a 5) (a 6) (b 5) (b 6) 4 v.2.2.2.2.2.1 w.2.2.2.2.2.1 (by decide)) (cwV 1 hts gX6_copyFrom_X4_copyFrom rfl rfl rfl hd_X4_copyFrom_V ⟨Nat.le_of_ble_eq_true rfl, Nat.le_of_ble_eq_true rfl⟩) ⟨muP_blind, va_recv hK0.1 hP (ci := 2) (q0 := 5) rfl rfl, my_preM hK0 hS hAB hP hD [5, 6, 14, 15] (by decide) rfl⟩ rfl rfl hl.1 rfl (lv_room (Nat.le_of_ble_eq_true rfl)) dX6_copyFrom_54 ⟨Nat.zero_le _, Nat.zero_le _⟩) hS hP hD [5, 6, 14, 15] rfl (w2 := (List.flatten [(wSetE cy a w.1 w.2.1 w.2.2.1 (f_X4_copyFrom 8 v.2.2.2.1 w.2.2.2.1) (f_X4_copyFrom 8 v.2.2.2.2.1 w.2.2.2.2.1) (f_X4_copyFrom 4 v.2.2.2.2.2.1 w.2.2.2.2.2.1) v.2.2.2.2.2.2), (wSet cy b w)])) rfl (fun H locs hP hD hS => ?_)
  refine lv_aload_n hx hb dX6_copyFrom_57 rfl (lv_at hl 0 rfl) ?_
  refine va_get (D := D) (ci := 4) (v := .ref (a 7)) (C := RX6) (T := TX6) (N := 7) hx hb hts inX6 hown hK0.1 hP 0 rfl rfl 6 (by decide) (hts (.fieldLink RX6 30 "PivotChamber$Setting" "values" "LPivotChamber$Row;") (List.mem_of_getElem? (i := 7) rfl)) (fun _ h9 => h9) rfl dX6_copyFrom_58 ?_
  refine lv_aload_n hx hb dX6_copyFrom_61 rfl (lv_at hl 1 rfl) ?_
  refine va_get (D := D) (ci := 4) (v := .ref (b 7)) (C := RX6) (T := TX6) (N := 7) hx hb hts inX6 hown hK0.1 hP 9 rfl rfl 6 (by decide) (hts (.fieldLink RX6 30 "PivotChamber$Setting" "values" "LPivotChamber$Row;") (List.mem_of_getElem? (i := 7) rfl)) (fun _ h9 => h9) rfl dX6_copyFrom_62 ?_
  refine mu_row2 (va_runV (C := RX4) (As := [.ref (b 7)]) (rest := []) S (c_X4_copyFrom l D cy g B (a 7) (a 8) (b 7) (b 8) 4 v.2.2.2.2.2.2 w.2.2.2.2.2.2 (by decide)) (cwV 1 hts gX6_copyFrom_X4_copyFrom rfl rfl rfl hd_X4_copyFrom_V ⟨Nat.le_of_ble_eq_true rfl, Nat.le_of_ble_eq_true rfl⟩) ⟨muP_blind, va_recv hK0.1 hP (ci := 2) (q0 := 7) rfl rfl, my_preM hK0 hS hAB hP hD [7, 8, 16, 17] (by decide) rfl⟩ rfl rfl hl.1 rfl (lv_room (Nat.le_of_ble_eq_true rfl)) dX6_copyFrom_65 ⟨Nat.zero_le _, Nat.zero_le _⟩) hS hP hD [7, 8, 16, 17] rfl (w2 := (List.flatten [(wSetE cy a w.1 w.2.1 w.2.2.1 (f_X4_copyFrom 8 v.2.2.2.1 w.2.2.2.1) (f_X4_copyFrom 8 v.2.2.2.2.1 w.2.2.2.2.1) (f_X4_copyFrom 4 v.2.2.2.2.2.1 w.2.2.2.2.2.1) (f_X4_copyFrom 4 v.2.2.2.2.2.2 w.2.2.2.2.2.2)), (wSet cy b w)])) rfl (fun H locs hP hD hS => ?_)
  have hP : va_P D vwCl (List.flatten [(wSet cy a (w.1, w.2.1, w.2.2.1, (f_X4_copyFrom 8 v.2.2.2.1 w.2.2.2.1), (f_X4_copyFrom 8 v.2.2.2.2.1 w.2.2.2.2.1), (f_X4_copyFrom 4 v.2.2.2.2.2.1 w.2.2.2.2.2.1), (f_X4_copyFrom 4 v.2.2.2.2.2.2 w.2.2.2.2.2.2))), (wSet cy b w)]) H := by rw [wSet_mk]; exact hP
  have hD : va_D A (List.flatten [(wSet cy a (w.1, w.2.1, w.2.2.1, (f_X4_copyFrom 8 v.2.2.2.1 w.2.2.2.1), (f_X4_copyFrom 8 v.2.2.2.2.1 w.2.2.2.2.1), (f_X4_copyFrom 4 v.2.2.2.2.2.1 w.2.2.2.2.2.1), (f_X4_copyFrom 4 v.2.2.2.2.2.2 w.2.2.2.2.2.2))), (wSet cy b w)]) := by rw [wSet_mk]; exact hD
  exact W.vret hx hb hr (fun t ht hW => ⟨⟨(w.1, w.2.1, w.2.2.1, (f_X4_copyFrom 8 v.2.2.2.1 w.2.2.2.1), (f_X4_copyFrom 8 v.2.2.2.2.1 w.2.2.2.2.1), (f_X4_copyFrom 4 v.2.2.2.2.2.1 w.2.2.2.2.2.1), (f_X4_copyFrom 4 v.2.2.2.2.2.2 w.2.2.2.2.2.2)), rfl, (show f_X6_copyFrom v w = (w.1, w.2.1, w.2.2.1, (f_X4_copyFrom 8 v.2.2.2.1 w.2.2.2.1), (f_X4_copyFrom 8 v.2.2.2.2.1 w.2.2.2.2.1), (f_X4_copyFrom 4 v.2.2.2.2.2.1 w.2.2.2.2.2.1), (f_X4_copyFrom 4 v.2.2.2.2.2.2 w.2.2.2.2.2.2)) from by rw [f_X6_copyFrom]), by show va_P D vwCl _ t.heap; rw [ht]; exact hP⟩, hS.F ht⟩) hS.2.2 dX6_copyFrom_68
