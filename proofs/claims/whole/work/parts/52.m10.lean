theorem hd_X8_wrongTwo_S : yX8_wrongTwo.cls ≠ "java/lang/invoke/MethodHandle" ∧ yX8_wrongTwo.cls ≠ "java/lang/invoke/VarHandle" ∧ (parseMethodDescriptor yX8_wrongTwo.desc).map (fun d => d.parameters.length) = some 2 := by decide +kernel
theorem hd_X8_wrongTwo_V : yX8_wrongTwo.cls = RX8 ∧ yX8_wrongTwo.cls ≠ "java/lang/invoke/MethodHandle" ∧ yX8_wrongTwo.cls ≠ "java/lang/invoke/VarHandle" ∧ (parseMethodDescriptor yX8_wrongTwo.desc).map (fun d => d.parameters.length) = some 2 := ⟨rfl, hd_X8_wrongTwo_S⟩
def f_X8_wrongTwo (y7 : (Nat → Int32)) (x0 : Int32) (x1 : Int32) : Int32 := (if (f_X8_isMember y7 x0) = 0 then 1 else (if (f_X8_isMember y7 x1) = 0 then 1 else (if x0 = x1 then 2 else (if (f_X8_isPlayer y7 x0) = 0 then 2 else (if (f_X8_isPlayer y7 x1) = 0 then 2 else 0)))))
set_option maxHeartbeats 400000 in
set_option maxRecDepth 100000 in
theorem c_X8_wrongTwo (l : Launch) (D : va_G) (cy : Nat → ClassId) (g : Nat → Nat) (B : Nat) (a : Nat → Nat) (y0 : Int32) (y1 : Int32) (y2 : Int32) (y3 : Int32) (y4 : Int32) (y5 : Int32) (y6 : Int32) (y7 : (Nat → Int32)) (y8 : (Nat → Int32)) (y9 : (Nat → Int32)) (y10 : (Nat → Int32)) (y11 : (Nat → Int32)) (y12 : (Nat → Int32)) (y13 : (Nat → Int32)) (x0 : Int32) (x1 : Int32) (hm8 : ¬ 8 < (y7 0)) : Met l yX8_wrongTwo wsX8_wrongTwo ({ frames := 2, cells := 0, slots := 0, locals := 42 }) (rdP D cy g B (wModE cy a y0 y1 y2 y3 y4 y5 y6 y7 y8 y9 y10 y11 y12 y13) [.ref (a 0), .int x0, .int x1]) (vp_Si (fun r => r = f_X8_wrongTwo y7 x0 x1)) 0 0 (fun _ => False) := by
  refine Met.ofW (cc := cX8_wrongTwo) (maxL := 3) (ret := (some .int)) (by decide) rfl ?_
  intro p e s m args below meth c s₁ BB hml hv
  obtain ⟨rfl, hP, hK0⟩ := hv
  have hx := BB.exec
  have hb := BB.bytes
  have hr := BB.returns
  have hts := atoms_spec (ws := wsX8_wrongTwo) BB.pre
  have hown : s.vm.findClass RX8 = some m.cls := findClass_of_methodNamed BB.named
  have hlocks := BB.notSynchronized
  have S := my_fix hx hb hml hown hts
  have hS : va_S (fun q => B ≤ q) s.heap s.heap [] := va_S.rf
  have hAB : ∀ q : Nat, (fun q => B ≤ q) q → B ≤ q := fun _ h => h
  have hl := lv_entry ([.ref (a 0), .int x0, .int x1]) (n := 3) (Nat.le_of_ble_eq_true rfl)
  rw [lg_entry_eq]
  generalize (lg_sl ([.ref (a 0), .int x0, .int x1]) ++ List.replicate (3 - (lg_sl ([.ref (a 0), .int x0, .int x1])).length) Slot.unset).toArray = ls at hl ⊢
  have hl : lv_has ls 3 [(0, .ref (a 0)), (1, .int x0), (2, .int x1)] := hl
  refine lv_aload_n hx hb dX8_wrongTwo_0 rfl (lv_at hl 0 rfl) ?_
  refine lv_iload_n hx hb dX8_wrongTwo_1 rfl (lv_at hl 1 rfl) ?_
  refine rd_goi (va_runV (C := RX8) (As := [.int x0]) (rest := []) S (c_X8_isMember l D cy g B a y0 y1 y2 y3 y4 y5 y6 y7 y8 y9 y10 y11 y12 y13 x0) (cwV 1 hts gX8_wrongTwo_X8_isMember rfl rfl rfl hd_X8_isMember_V ⟨Nat.le_of_ble_eq_true rfl, Nat.le_of_ble_eq_true rfl⟩) ⟨rdP_blind, va_recv hK0.1 hP (ci := 6) (q0 := 0) rfl rfl, my_preP hK0 hS hAB hP⟩ rfl rfl hl.1 rfl (lv_room (Nat.le_of_ble_eq_true rfl)) dX8_wrongTwo_2 ⟨Nat.zero_le _, Nat.zero_le _⟩) ?_
  refine lv_if_eq (tgt := 16) hx hb dX8_wrongTwo_5 (by decide) (fun c_1 => ?_) (fun c_1 => ?_)
  · refine lv_iconst (v := 1) hx hb dX8_wrongTwo_16 (by decide) ?_
    exact W.iret hx hb hr (fun t ht hW => ⟨1, rfl, (show f_X8_wrongTwo y7 x0 x1 = 1 from by rw [f_X8_wrongTwo, if_pos c_1]).symm, ht⟩) (fun q hq => absurd hq List.not_mem_nil) dX8_wrongTwo_17
  · refine lv_aload_n hx hb dX8_wrongTwo_8 rfl (lv_at hl 0 rfl) ?_
    refine lv_iload_n hx hb dX8_wrongTwo_9 rfl (lv_at hl 2 rfl) ?_
    refine rd_goi (va_runV (C := RX8) (As := [.int x1]) (rest := []) S (c_X8_isMember l D cy g B a y0 y1 y2 y3 y4 y5 y6 y7 y8 y9 y10 y11 y12 y13 x1) (cwV 1 hts gX8_wrongTwo_X8_isMember rfl rfl rfl hd_X8_isMember_V ⟨Nat.le_of_ble_eq_true rfl, Nat.le_of_ble_eq_true rfl⟩) ⟨rdP_blind, va_recv hK0.1 hP (ci := 6) (q0 := 0) rfl rfl, my_preP hK0 hS hAB hP⟩ rfl rfl hl.1 rfl (lv_room (Nat.le_of_ble_eq_true rfl)) dX8_wrongTwo_10 ⟨Nat.zero_le _, Nat.zero_le _⟩) ?_
    refine lv_if_ne (tgt := 18) hx hb dX8_wrongTwo_13 (by decide) (fun c_2 => ?_) (fun c_2 => ?_)
    · refine lv_iload_n hx hb dX8_wrongTwo_18 rfl (lv_at hl 1 rfl) ?_
      refine lv_iload_n hx hb dX8_wrongTwo_19 rfl (lv_at hl 2 rfl) ?_
      refine lv_icmp_eq (tgt := 39) hx hb dX8_wrongTwo_20 (by decide) (fun c_3 => ?_) (fun c_3 => ?_)
      · refine lv_iconst (v := 2) hx hb dX8_wrongTwo_39 (by decide) ?_
        refine lv_goto (tgt := 44) hx hb dX8_wrongTwo_40 (by decide) ?_
        exact W.iret hx hb hr (fun t ht hW => ⟨2, rfl, (show f_X8_wrongTwo y7 x0 x1 = 2 from by rw [f_X8_wrongTwo, if_neg c_1, if_neg c_2, if_pos c_3]).symm, ht⟩) (fun q hq => absurd hq List.not_mem_nil) dX8_wrongTwo_44
      · refine lv_aload_n hx hb dX8_wrongTwo_23 rfl (lv_at hl 0 rfl) ?_
        refine lv_iload_n hx hb dX8_wrongTwo_24 rfl (lv_at hl 1 rfl) ?_
        refine rd_goi (va_runV (C := RX8) (As := [.int x0]) (rest := []) S (c_X8_isPlayer l D cy g B a y0 y1 y2 y3 y4 y5 y6 y7 y8 y9 y10 y11 y12 y13 x0 hm8) (cwV 1 hts gX8_wrongTwo_X8_isPlayer rfl rfl rfl hd_X8_isPlayer_V ⟨Nat.le_of_ble_eq_true rfl, Nat.le_of_ble_eq_true rfl⟩) ⟨rdP_blind, va_recv hK0.1 hP (ci := 6) (q0 := 0) rfl rfl, my_preP hK0 hS hAB hP⟩ rfl rfl hl.1 rfl (lv_room (Nat.le_of_ble_eq_true rfl)) dX8_wrongTwo_25 ⟨Nat.zero_le _, Nat.zero_le _⟩) ?_
        refine lv_if_eq (tgt := 39) hx hb dX8_wrongTwo_28 (by decide) (fun c_4 => ?_) (fun c_4 => ?_)
        · refine lv_iconst (v := 2) hx hb dX8_wrongTwo_39 (by decide) ?_
          refine lv_goto (tgt := 44) hx hb dX8_wrongTwo_40 (by decide) ?_
          exact W.iret hx hb hr (fun t ht hW => ⟨2, rfl, (show f_X8_wrongTwo y7 x0 x1 = 2 from by rw [f_X8_wrongTwo, if_neg c_1, if_neg c_2, if_neg c_3, if_pos c_4]).symm, ht⟩) (fun q hq => absurd hq List.not_mem_nil) dX8_wrongTwo_44
        · refine lv_aload_n hx hb dX8_wrongTwo_31 rfl (lv_at hl 0 rfl) ?_
          refine lv_iload_n hx hb dX8_wrongTwo_32 rfl (lv_at hl 2 rfl) ?_
          refine rd_goi (va_runV (C := RX8) (As := [.int x1]) (rest := []) S (c_X8_isPlayer l D cy g B a y0 y1 y2 y3 y4 y5 y6 y7 y8 y9 y10 y11 y12 y13 x1 hm8) (cwV 1 hts gX8_wrongTwo_X8_isPlayer rfl rfl rfl hd_X8_isPlayer_V ⟨Nat.le_of_ble_eq_true rfl, Nat.le_of_ble_eq_true rfl⟩) ⟨rdP_blind, va_recv hK0.1 hP (ci := 6) (q0 := 0) rfl rfl, my_preP hK0 hS hAB hP⟩ rfl rfl hl.1 rfl (lv_room (Nat.le_of_ble_eq_true rfl)) dX8_wrongTwo_33 ⟨Nat.zero_le _, Nat.zero_le _⟩) ?_
          refine lv_if_ne (tgt := 43) hx hb dX8_wrongTwo_36 (by decide) (fun c_5 => ?_) (fun c_5 => ?_)
          · refine lv_iconst (v := 0) hx hb dX8_wrongTwo_43 (by decide) ?_
            exact W.iret hx hb hr (fun t ht hW => ⟨0, rfl, (show f_X8_wrongTwo y7 x0 x1 = 0 from by rw [f_X8_wrongTwo, if_neg c_1, if_neg c_2, if_neg c_3, if_neg c_4, if_neg c_5]).symm, ht⟩) (fun q hq => absurd hq List.not_mem_nil) dX8_wrongTwo_44
          · refine lv_iconst (v := 2) hx hb dX8_wrongTwo_39 (by decide) ?_
            refine lv_goto (tgt := 44) hx hb dX8_wrongTwo_40 (by decide) ?_
            exact W.iret hx hb hr (fun t ht hW => ⟨2, rfl, (show f_X8_wrongTwo y7 x0 x1 = 2 from by rw [f_X8_wrongTwo, if_neg c_1, if_neg c_2, if_neg c_3, if_neg c_4, if_pos c_5]).symm, ht⟩) (fun q hq => absurd hq List.not_mem_nil) dX8_wrongTwo_44
    · refine lv_iconst (v := 1) hx hb dX8_wrongTwo_16 (by decide) ?_
      exact W.iret hx hb hr (fun t ht hW => ⟨1, rfl, (show f_X8_wrongTwo y7 x0 x1 = 1 from by rw [f_X8_wrongTwo, if_neg c_1, if_pos c_2]).symm, ht⟩) (fun q hq => absurd hq List.not_mem_nil) dX8_wrongTwo_17
theorem wt_pos {s : Nat → Int32} {x y : Int32} (h : ¬ f_X8_wrongTwo s x y = 0) : 0 < f_X8_wrongTwo s x y := by
  unfold f_X8_wrongTwo at h ⊢
  repeat' split
  all_goals first | decide | (simp_all)
theorem thr_pos {k : Int32} (h : 0 < k) : f_X8_throwsAt k = (1, k) := by
  unfold f_X8_throwsAt
  rw [if_neg (Int32.not_le.mpr h)]
theorem wt_mem {s : Nat → Int32} {x y : Int32} (h : f_X8_wrongTwo s x y = 0) : ¬ f_X8_isMember s x = 0 ∧ ¬ f_X8_isMember s y = 0 := by
  unfold f_X8_wrongTwo at h
  by_cases h1 : f_X8_isMember s x = 0
  · rw [if_pos h1] at h; exact absurd h (by decide)
  · rw [if_neg h1] at h
    by_cases h2 : f_X8_isMember s y = 0
    · rw [if_pos h2] at h; exact absurd h (by decide)
    · exact ⟨h1, h2⟩
theorem wt_0 {s : Nat → Int32} {x y : Int32} (h : f_X8_wrongTwo s x y = 0) : ¬ x < 0 := im_0 (wt_mem h).1
theorem wt_1 {s : Nat → Int32} {x y : Int32} (h : f_X8_wrongTwo s x y = 0) : x < s 0 := im_1 (wt_mem h).1
theorem wt_2 {s : Nat → Int32} {x y : Int32} (h : f_X8_wrongTwo s x y = 0) : ¬ y < 0 := im_0 (wt_mem h).2
theorem wt_3 {s : Nat → Int32} {x y : Int32} (h : f_X8_wrongTwo s x y = 0) : y < s 0 := im_1 (wt_mem h).2
