theorem hd_X8_isPlayer_S : yX8_isPlayer.cls ≠ "java/lang/invoke/MethodHandle" ∧ yX8_isPlayer.cls ≠ "java/lang/invoke/VarHandle" ∧ (parseMethodDescriptor yX8_isPlayer.desc).map (fun d => d.parameters.length) = some 1 := by decide +kernel
theorem hd_X8_isPlayer_V : yX8_isPlayer.cls = RX8 ∧ yX8_isPlayer.cls ≠ "java/lang/invoke/MethodHandle" ∧ yX8_isPlayer.cls ≠ "java/lang/invoke/VarHandle" ∧ (parseMethodDescriptor yX8_isPlayer.desc).map (fun d => d.parameters.length) = some 1 := ⟨rfl, hd_X8_isPlayer_S⟩
def f_X8_isPlayer (y7 : (Nat → Int32)) (x0 : Int32) : Int32 := (if (f_X8_isMember y7 x0) = 0 then 0 else (if (y7 (11 + x0).toNatClampNeg) = (-1) then 1 else 0))
theorem z_X8_isPlayer (y7 : (Nat → Int32)) (x0 : Int32) : f_X8_isPlayer y7 x0 = 0 ∨ f_X8_isPlayer y7 x0 = 1 := by
  unfold f_X8_isPlayer
  repeat' split
  all_goals first | exact Or.inl rfl | exact Or.inr rfl | exact z_X8_isMember _ _
set_option maxHeartbeats 400000 in
set_option maxRecDepth 100000 in
theorem c_X8_isPlayer (l : Launch) (D : va_G) (cy : Nat → ClassId) (g : Nat → Nat) (B : Nat) (a : Nat → Nat) (y0 : Int32) (y1 : Int32) (y2 : Int32) (y3 : Int32) (y4 : Int32) (y5 : Int32) (y6 : Int32) (y7 : (Nat → Int32)) (y8 : (Nat → Int32)) (y9 : (Nat → Int32)) (y10 : (Nat → Int32)) (y11 : (Nat → Int32)) (y12 : (Nat → Int32)) (y13 : (Nat → Int32)) (x0 : Int32) (hm8 : ¬ 8 < (y7 0)) : Met l yX8_isPlayer wsX8_isPlayer ({ frames := 1, cells := 0, slots := 0, locals := 21 }) (rdP D cy g B (wModE cy a y0 y1 y2 y3 y4 y5 y6 y7 y8 y9 y10 y11 y12 y13) [.ref (a 0), .int x0]) (vp_Si (fun r => r = f_X8_isPlayer y7 x0)) 0 0 (fun _ => False) := by
  refine Met.ofW (cc := cX8_isPlayer) (maxL := 2) (ret := (some .boolean)) (by decide) rfl ?_
  intro p e s m args below meth c s₁ BB hml hv
  obtain ⟨rfl, hP, hK0⟩ := hv
  have hx := BB.exec
  have hb := BB.bytes
  have hr := BB.returns
  have hts := atoms_spec (ws := wsX8_isPlayer) BB.pre
  have hown : s.vm.findClass RX8 = some m.cls := findClass_of_methodNamed BB.named
  have hlocks := BB.notSynchronized
  have S := my_fix hx hb hml hown hts
  have inX8 : ∀ w ∈ wsX80, w ∈ wsX8_isPlayer := fun w h => List.mem_cons_of_mem _ (List.mem_append_right _ h)
  have hS : va_S (fun q => B ≤ q) s.heap s.heap [] := va_S.rf
  have hAB : ∀ q : Nat, (fun q => B ≤ q) q → B ≤ q := fun _ h => h
  have hl := lv_entry ([.ref (a 0), .int x0]) (n := 2) (Nat.le_of_ble_eq_true rfl)
  rw [lg_entry_eq]
  generalize (lg_sl ([.ref (a 0), .int x0]) ++ List.replicate (2 - (lg_sl ([.ref (a 0), .int x0])).length) Slot.unset).toArray = ls at hl ⊢
  have hl : lv_has ls 2 [(0, .ref (a 0)), (1, .int x0)] := hl
  refine lv_aload_n hx hb dX8_isPlayer_0 rfl (lv_at hl 0 rfl) ?_
  refine lv_iload_n hx hb dX8_isPlayer_1 rfl (lv_at hl 1 rfl) ?_
  refine rd_goi (va_runV (C := RX8) (As := [.int x0]) (rest := []) S (c_X8_isMember l D cy g B a y0 y1 y2 y3 y4 y5 y6 y7 y8 y9 y10 y11 y12 y13 x0) (cwV 1 hts gX8_isPlayer_X8_isMember rfl rfl rfl hd_X8_isMember_V ⟨Nat.le_of_ble_eq_true rfl, Nat.le_of_ble_eq_true rfl⟩) ⟨rdP_blind, va_recv hK0.1 hP (ci := 6) (q0 := 0) rfl rfl, my_preP hK0 hS hAB hP⟩ rfl rfl hl.1 rfl (lv_room (Nat.le_of_ble_eq_true rfl)) dX8_isPlayer_2 ⟨Nat.zero_le _, Nat.zero_le _⟩) ?_
  refine lv_if_eq (tgt := 25) hx hb dX8_isPlayer_5 (by decide) (fun c_1 => ?_) (fun c_1 => ?_)
  · refine lv_iconst (v := 0) hx hb dX8_isPlayer_25 (by decide) ?_
    exact W.zret (ty := .boolean) (v := 0) hx hb hr (my_nz (by decide)) (fun t ht hW => ⟨0, rfl, (show f_X8_isPlayer y7 x0 = 0 from by rw [f_X8_isPlayer, if_pos c_1]).symm, ht⟩) (fun q hq => absurd hq List.not_mem_nil) dX8_isPlayer_26
  · refine lv_aload_n hx hb dX8_isPlayer_8 rfl (lv_at hl 0 rfl) ?_
    refine va_get (D := D) (ci := 6) (v := .ref (a 1)) (C := RX8) (T := TX8) (N := 14) hx hb hts inX8 hown hK0.1 hP 0 rfl rfl 0 (by decide) (hts (.fieldLink RX8 7 "PivotChamberModel" "s" "[I") (List.mem_of_getElem? (i := 1) rfl)) (fun _ h9 => h9) rfl dX8_isPlayer_9 ?_
    refine lv_bipush (v := 11) hx hb dX8_isPlayer_12 (by decide) ?_
    refine lv_iload_n hx hb dX8_isPlayer_14 rfl (lv_at hl 1 rfl) ?_
    refine lv_iadd hx hb dX8_isPlayer_15 ?_
    refine va_iald hx hb hK0.1 hP 1 0 rfl rfl (ix_loop (K := 8) (N := 27) (im_0 c_1) (Int32.not_le.mpr (im_1 c_1)) hm8 (by decide)) dX8_isPlayer_16 ?_
    refine lv_iconst (v := (-1)) hx hb dX8_isPlayer_17 (by decide) ?_
    refine lv_icmp_ne (tgt := 25) hx hb dX8_isPlayer_18 (by decide) (fun c_2 => ?_) (fun c_2 => ?_)
    · refine lv_iconst (v := 0) hx hb dX8_isPlayer_25 (by decide) ?_
      exact W.zret (ty := .boolean) (v := 0) hx hb hr (my_nz (by decide)) (fun t ht hW => ⟨0, rfl, (show f_X8_isPlayer y7 x0 = 0 from by rw [f_X8_isPlayer, if_neg c_1, if_neg c_2]).symm, ht⟩) (fun q hq => absurd hq List.not_mem_nil) dX8_isPlayer_26
    · refine lv_iconst (v := 1) hx hb dX8_isPlayer_21 (by decide) ?_
      refine lv_goto (tgt := 26) hx hb dX8_isPlayer_22 (by decide) ?_
      exact W.zret (ty := .boolean) (v := 1) hx hb hr (my_nz (by decide)) (fun t ht hW => ⟨1, rfl, (show f_X8_isPlayer y7 x0 = 1 from by rw [f_X8_isPlayer, if_neg c_1, if_pos c_2]).symm, ht⟩) (fun q hq => absurd hq List.not_mem_nil) dX8_isPlayer_26
theorem ip_m {s : Nat → Int32} {x : Int32} (h : ¬ f_X8_isPlayer s x = 0) : ¬ f_X8_isMember s x = 0 := by
  intro h0
  apply h
  unfold f_X8_isPlayer
  rw [if_pos h0]
theorem ip_0 {s : Nat → Int32} {x : Int32} (h : ¬ f_X8_isPlayer s x = 0) : ¬ x < 0 := im_0 (ip_m h)
theorem ip_1 {s : Nat → Int32} {x : Int32} (h : ¬ f_X8_isPlayer s x = 0) : x < s 0 := im_1 (ip_m h)
