theorem hd_X8_players_S : yX8_players.cls ≠ "java/lang/invoke/MethodHandle" ∧ yX8_players.cls ≠ "java/lang/invoke/VarHandle" ∧ (parseMethodDescriptor yX8_players.desc).map (fun d => d.parameters.length) = some 0 := by decide +kernel
theorem hd_X8_players_V : yX8_players.cls = RX8 ∧ yX8_players.cls ≠ "java/lang/invoke/MethodHandle" ∧ yX8_players.cls ≠ "java/lang/invoke/VarHandle" ∧ (parseMethodDescriptor yX8_players.desc).map (fun d => d.parameters.length) = some 0 := ⟨rfl, hd_X8_players_S⟩
def f_X8_players_st (y7 : (Nat → Int32)) (i1_1 : Int32) (i2_2 : Int32) : (Int32 × Int32) ⊕ (Int32 × Int32) := (if (y7 0) ≤ i2_2 then (.inr (i1_1, i2_2)) else (if (f_X8_isPlayer y7 i2_2) = 0 then (.inl ((i1_1 ||| 0), (i2_2 + 1))) else (.inl ((i1_1 ||| (1 <<< (i2_2 &&& 31))), (i2_2 + 1)))))
def f_X8_players (y7 : (Nat → Int32)) : Int32 := (my_t2 (lp (fun (x : Int32 × Int32) => f_X8_players_st y7 x.1 x.2) default ((((y7 0) : Int32).toInt - (0 : Int32).toInt).toNat + 1) (0, 0)) (fun (i1_1 : Int32) (i2_2 : Int32) => i1_1))
set_option maxHeartbeats 400000 in
set_option maxRecDepth 100000 in
theorem c_X8_players (l : Launch) (D : va_G) (cy : Nat → ClassId) (g : Nat → Nat) (B : Nat) (a : Nat → Nat) (y0 : Int32) (y1 : Int32) (y2 : Int32) (y3 : Int32) (y4 : Int32) (y5 : Int32) (y6 : Int32) (y7 : (Nat → Int32)) (y8 : (Nat → Int32)) (y9 : (Nat → Int32)) (y10 : (Nat → Int32)) (y11 : (Nat → Int32)) (y12 : (Nat → Int32)) (y13 : (Nat → Int32)) (hm8 : ¬ 8 < (y7 0)) : Met l yX8_players wsX8_players ({ frames := 2, cells := 0, slots := 0, locals := 42 }) (rdP D cy g B (wModE cy a y0 y1 y2 y3 y4 y5 y6 y7 y8 y9 y10 y11 y12 y13) [.ref (a 0)]) (vp_Si (fun r => r = f_X8_players y7)) 0 0 (fun _ => False) := by
  refine Met.ofW (cc := cX8_players) (maxL := 3) (ret := (some .int)) (by decide) rfl ?_
  intro p e s m args below meth c s₁ BB hml hv
  obtain ⟨rfl, hP, hK0⟩ := hv
  have hx := BB.exec
  have hb := BB.bytes
  have hr := BB.returns
  have hts := atoms_spec (ws := wsX8_players) BB.pre
  have hown : s.vm.findClass RX8 = some m.cls := findClass_of_methodNamed BB.named
  have hlocks := BB.notSynchronized
  have S := my_fix hx hb hml hown hts
  have inX8 : ∀ w ∈ wsX80, w ∈ wsX8_players := fun w h => List.mem_cons_of_mem _ (List.mem_append_right _ h)
  have hS : va_S (fun q => B ≤ q) s.heap s.heap [] := va_S.rf
  have hAB : ∀ q : Nat, (fun q => B ≤ q) q → B ≤ q := fun _ h => h
  have hl := lv_entry ([.ref (a 0)]) (n := 3) (Nat.le_of_ble_eq_true rfl)
  rw [lg_entry_eq]
  generalize (lg_sl ([.ref (a 0)]) ++ List.replicate (3 - (lg_sl ([.ref (a 0)])).length) Slot.unset).toArray = ls at hl ⊢
  have hl : lv_has ls 3 [(0, .ref (a 0))] := hl
  refine lv_iconst (v := 0) hx hb dX8_players_0 (by decide) ?_
  refine lv_istore_n (lv' := [(1, .int 0), (0, .ref (a 0))]) hx hb dX8_players_1 rfl hl (by decide) rfl (fun ls hl => ?_)
  refine lv_iconst (v := 0) hx hb dX8_players_2 (by decide) ?_
  refine lv_istore_n (lv' := [(2, .int 0), (1, .int 0), (0, .ref (a 0))]) hx hb dX8_players_3 rfl hl (by decide) rfl (fun ls hl => ?_)
  have cont0 : ∀ (i1_1 : Int32) (i2_2 : Int32), lp (fun (x : Int32 × Int32) => f_X8_players_st y7 x.1 x.2) default ((((y7 0) : Int32).toInt - (0 : Int32).toInt).toNat + 1) (0, 0) = (i1_1, i2_2) → ¬ i2_2 < 0 → ∀ ls : Array Slot, lv_has ls 3 [(0, .ref (a 0)), (1, .int i1_1), (2, .int i2_2)] → W p l e (headSpec wsX8_players ({ frames := 2, cells := 0, slots := 0, locals := 42 } : Room)).room s m ([.ref (a 0)] : List Value).toArray below meth c s.heap [] 0 0 (MQ below (vp_Si (fun r => r = f_X8_players y7)) ([.ref (a 0)] : List Value).toArray s 0 0 (fun _ => False)) (F0 m 38 ls []) := by
    intro i1_1 i2_2 hE0 hj0_0 ls hl
    refine lv_iload_n hx hb dX8_players_38 rfl (lv_at hl 1 rfl) ?_
    exact W.iret hx hb hr (fun t ht hW => ⟨i1_1, rfl, (show f_X8_players y7 = i1_1 from by rw [f_X8_players, hE0, my_t2_eq]).symm, ht⟩) (fun q hq => absurd hq List.not_mem_nil) dX8_players_39
  have key : ∀ (nf : Nat) (i1_1 : Int32) (i2_2 : Int32), (((y7 0) : Int32).toInt - (i2_2 : Int32).toInt).toNat < nf → lp (fun (x : Int32 × Int32) => f_X8_players_st y7 x.1 x.2) default nf (i1_1, i2_2) = lp (fun (x : Int32 × Int32) => f_X8_players_st y7 x.1 x.2) default ((((y7 0) : Int32).toInt - (0 : Int32).toInt).toNat + 1) (0, 0) → ¬ i2_2 < 0 → ∀ ls : Array Slot, lv_has ls 3 [(0, .ref (a 0)), (1, .int i1_1), (2, .int i2_2)] → W p l e (headSpec wsX8_players ({ frames := 2, cells := 0, slots := 0, locals := 42 } : Room)).room s m ([.ref (a 0)] : List Value).toArray below meth c s.heap [] 0 0 (MQ below (vp_Si (fun r => r = f_X8_players y7)) ([.ref (a 0)] : List Value).toArray s 0 0 (fun _ => False)) (F0 m 4 ls []) := by
    intro n0
    induction n0 with
    | zero => intro i1_1 i2_2 hlt; exact absurd hlt (Nat.not_lt_zero _)
    | succ n0 ih0 =>
      intro i1_1 i2_2 hlt0 hF0 hi0_0 ls hl
      refine lv_iload_n hx hb dX8_players_4 rfl (lv_at hl 2 rfl) ?_
      refine lv_aload_n hx hb dX8_players_5 rfl (lv_at hl 0 rfl) ?_
      refine va_get (D := D) (ci := 6) (v := .ref (a 1)) (C := RX8) (T := TX8) (N := 14) hx hb hts inX8 hown hK0.1 hP 0 rfl rfl 0 (by decide) (hts (.fieldLink RX8 7 "PivotChamberModel" "s" "[I") (List.mem_of_getElem? (i := 1) rfl)) (fun _ h9 => h9) rfl dX8_players_6 ?_
      refine lv_iconst (v := 0) hx hb dX8_players_9 (by decide) ?_
      refine va_iald hx hb hK0.1 hP 1 0 rfl rfl (vp_in_nI (n := 0) (N := 27) (by decide) (by decide)) dX8_players_10 ?_
      refine W.eq (g2 := F0 m 11 ls [.int (y7 0), .int i2_2]) rfl ?_
      refine lv_icmp_ge (tgt := 38) hx hb dX8_players_11 (by decide) (fun c_3 => ?_) (fun c_3 => ?_)
      · have hst : f_X8_players_st y7 i1_1 i2_2 = .inr (i1_1, i2_2) := by rw [f_X8_players_st, if_pos c_3]
        exact cont0 i1_1 i2_2 (lp_inr hst hF0) hi0_0 _ (lv_sub hl [0, 1, 2] rfl)
      · refine lv_iload_n hx hb dX8_players_14 rfl (lv_at hl 1 rfl) ?_
        refine lv_aload_n hx hb dX8_players_15 rfl (lv_at hl 0 rfl) ?_
        refine lv_iload_n hx hb dX8_players_16 rfl (lv_at hl 2 rfl) ?_
        refine rd_goi (va_runV (C := RX8) (As := [.int i2_2]) (rest := [.int i1_1]) S (c_X8_isPlayer l D cy g B a y0 y1 y2 y3 y4 y5 y6 y7 y8 y9 y10 y11 y12 y13 i2_2 hm8) (cwV 1 hts gX8_players_X8_isPlayer rfl rfl rfl hd_X8_isPlayer_V ⟨Nat.le_of_ble_eq_true rfl, Nat.le_of_ble_eq_true rfl⟩) ⟨rdP_blind, va_recv hK0.1 hP (ci := 6) (q0 := 0) rfl rfl, my_preP hK0 hS hAB hP⟩ rfl rfl hl.1 rfl (lv_room (Nat.le_of_ble_eq_true rfl)) dX8_players_17 ⟨Nat.zero_le _, Nat.zero_le _⟩) ?_
        refine lv_if_eq (tgt := 29) hx hb dX8_players_20 (by decide) (fun c_4 => ?_) (fun c_4 => ?_)
        · refine lv_iconst (v := 0) hx hb dX8_players_29 (by decide) ?_
          refine lv_ior hx hb dX8_players_30 ?_
          refine lv_istore_n (lv' := [(1, .int (i1_1 ||| 0)), (0, .ref (a 0)), (2, .int i2_2)]) hx hb dX8_players_31 rfl hl (by decide) rfl (fun ls hl => ?_)
          refine lv_iinc (v := (i2_2 + 1)) (lv' := [(2, .int (i2_2 + 1)), (1, .int (i1_1 ||| 0)), (0, .ref (a 0))]) hx hb dX8_players_32 hl (k := 2) rfl rfl (by decide) rfl (fun ls hl => ?_)
          refine lv_goto (tgt := 4) hx hb dX8_players_35 (by decide) ?_
          have hst : f_X8_players_st y7 i1_1 i2_2 = .inl ((i1_1 ||| 0), (i2_2 + 1)) := by rw [f_X8_players_st, if_neg c_3, if_pos c_4]
          have hmu : (((y7 0) : Int32).toInt - ((i2_2 + 1) : Int32).toInt).toNat < (((y7 0) : Int32).toInt - (i2_2 : Int32).toInt).toNat := mu_up c_3
          exact ih0 (i1_1 ||| 0) (i2_2 + 1) (Nat.lt_of_lt_of_le hmu (Nat.le_of_lt_succ hlt0)) (lp_inl hst hF0) (nn_up hi0_0 c_3) _ (lv_sub hl [2, 1, 0] rfl)
        · refine lv_iconst (v := 1) hx hb dX8_players_23 (by decide) ?_
          refine lv_iload_n hx hb dX8_players_24 rfl (lv_at hl 2 rfl) ?_
          refine lv_ishl hx hb dX8_players_25 ?_
          refine lv_goto (tgt := 30) hx hb dX8_players_26 (by decide) ?_
          refine lv_ior hx hb dX8_players_30 ?_
          refine lv_istore_n (lv' := [(1, .int (i1_1 ||| (1 <<< (i2_2 &&& 31)))), (0, .ref (a 0)), (2, .int i2_2)]) hx hb dX8_players_31 rfl hl (by decide) rfl (fun ls hl => ?_)
          refine lv_iinc (v := (i2_2 + 1)) (lv' := [(2, .int (i2_2 + 1)), (1, .int (i1_1 ||| (1 <<< (i2_2 &&& 31)))), (0, .ref (a 0))]) hx hb dX8_players_32 hl (k := 2) rfl rfl (by decide) rfl (fun ls hl => ?_)
          refine lv_goto (tgt := 4) hx hb dX8_players_35 (by decide) ?_
          have hst : f_X8_players_st y7 i1_1 i2_2 = .inl ((i1_1 ||| (1 <<< (i2_2 &&& 31))), (i2_2 + 1)) := by rw [f_X8_players_st, if_neg c_3, if_neg c_4]
          have hmu : (((y7 0) : Int32).toInt - ((i2_2 + 1) : Int32).toInt).toNat < (((y7 0) : Int32).toInt - (i2_2 : Int32).toInt).toNat := mu_up c_3
          exact ih0 (i1_1 ||| (1 <<< (i2_2 &&& 31))) (i2_2 + 1) (Nat.lt_of_lt_of_le hmu (Nat.le_of_lt_succ hlt0)) (lp_inl hst hF0) (nn_up (ip_0 c_4) c_3) _ (lv_sub hl [2, 1, 0] rfl)
  exact key ((((y7 0) : Int32).toInt - (0 : Int32).toInt).toNat + 1) 0 0 (Nat.lt_succ_self _) rfl (by decide) _ (lv_sub hl [2, 1, 0] rfl)
theorem hd_X8_yes_S : yX8_yes.cls ≠ "java/lang/invoke/MethodHandle" ∧ yX8_yes.cls ≠ "java/lang/invoke/VarHandle" ∧ (parseMethodDescriptor yX8_yes.desc).map (fun d => d.parameters.length) = some 1 := by decide +kernel
theorem hd_X8_yes_V : yX8_yes.cls = RX8 ∧ yX8_yes.cls ≠ "java/lang/invoke/MethodHandle" ∧ yX8_yes.cls ≠ "java/lang/invoke/VarHandle" ∧ (parseMethodDescriptor yX8_yes.desc).map (fun d => d.parameters.length) = some 1 := ⟨rfl, hd_X8_yes_S⟩
def f_X8_yes_st (y7 : (Nat → Int32)) (x0 : Int32) (i2_1 : Int32) (i3_2 : Int32) : (Int32 × Int32) ⊕ (Int32 × Int32) := (if (y7 0) ≤ i3_2 then (.inr (i2_1, i3_2)) else (if (y7 (11 + i3_2).toNatClampNeg) = (-1) then (if (f_X8_has x0 i3_2) = 0 then (.inl ((i2_1 ||| 0), (i3_2 + 1))) else (.inl ((i2_1 ||| (1 <<< (i3_2 &&& 31))), (i3_2 + 1)))) else (if (f_X8_has x0 (y7 (11 + i3_2).toNatClampNeg)) = 0 then (.inl ((i2_1 ||| 0), (i3_2 + 1))) else (.inl ((i2_1 ||| (1 <<< (i3_2 &&& 31))), (i3_2 + 1))))))
def f_X8_yes (y7 : (Nat → Int32)) (x0 : Int32) : Int32 := (my_t2 (lp (fun (x : Int32 × Int32) => f_X8_yes_st y7 x0 x.1 x.2) default ((((y7 0) : Int32).toInt - (0 : Int32).toInt).toNat + 1) (0, 0)) (fun (i2_1 : Int32) (i3_2 : Int32) => i2_1))
set_option maxHeartbeats 400000 in
set_option maxRecDepth 100000 in
theorem c_X8_yes (l : Launch) (D : va_G) (cy : Nat → ClassId) (g : Nat → Nat) (B : Nat) (a : Nat → Nat) (y0 : Int32) (y1 : Int32) (y2 : Int32) (y3 : Int32) (y4 : Int32) (y5 : Int32) (y6 : Int32) (y7 : (Nat → Int32)) (y8 : (Nat → Int32)) (y9 : (Nat → Int32)) (y10 : (Nat → Int32)) (y11 : (Nat → Int32)) (y12 : (Nat → Int32)) (y13 : (Nat → Int32)) (x0 : Int32) (hm8 : ¬ 8 < (y7 0)) : Met l yX8_yes wsX8_yes ({ frames := 1, cells := 0, slots := 0, locals := 21 }) (rdP D cy g B (wModE cy a y0 y1 y2 y3 y4 y5 y6 y7 y8 y9 y10 y11 y12 y13) [.ref (a 0), .int x0]) (vp_Si (fun r => r = f_X8_yes y7 x0)) 0 0 (fun _ => False) := by
  refine Met.ofW (cc := cX8_yes) (maxL := 5) (ret := (some .int)) (by decide) rfl ?_
  intro p e s m args below meth c s₁ BB hml hv
  obtain ⟨rfl, hP, hK0⟩ := hv
  have hx := BB.exec
  have hb := BB.bytes
  have hr := BB.returns
  have hts := atoms_spec (ws := wsX8_yes) BB.pre
  have hown : s.vm.findClass RX8 = some m.cls := findClass_of_methodNamed BB.named
  have hlocks := BB.notSynchronized
  have S := my_fix hx hb hml hown hts
  have inX8 : ∀ w ∈ wsX80, w ∈ wsX8_yes := fun w h => List.mem_cons_of_mem _ (List.mem_append_right _ h)
  have hS : va_S (fun q => B ≤ q) s.heap s.heap [] := va_S.rf
  have hAB : ∀ q : Nat, (fun q => B ≤ q) q → B ≤ q := fun _ h => h
  have hl := lv_entry ([.ref (a 0), .int x0]) (n := 5) (Nat.le_of_ble_eq_true rfl)
  rw [lg_entry_eq]
  generalize (lg_sl ([.ref (a 0), .int x0]) ++ List.replicate (5 - (lg_sl ([.ref (a 0), .int x0])).length) Slot.unset).toArray = ls at hl ⊢
  have hl : lv_has ls 5 [(0, .ref (a 0)), (1, .int x0)] := hl
  refine lv_iconst (v := 0) hx hb dX8_yes_0 (by decide) ?_
  refine lv_istore_n (lv' := [(2, .int 0), (0, .ref (a 0)), (1, .int x0)]) hx hb dX8_yes_1 rfl hl (by decide) rfl (fun ls hl => ?_)
  refine lv_iconst (v := 0) hx hb dX8_yes_2 (by decide) ?_
  refine lv_istore_n (lv' := [(3, .int 0), (2, .int 0), (0, .ref (a 0)), (1, .int x0)]) hx hb dX8_yes_3 rfl hl (by decide) rfl (fun ls hl => ?_)
  have cont0 : ∀ (i2_1 : Int32) (i3_2 : Int32), lp (fun (x : Int32 × Int32) => f_X8_yes_st y7 x0 x.1 x.2) default ((((y7 0) : Int32).toInt - (0 : Int32).toInt).toNat + 1) (0, 0) = (i2_1, i3_2) → ¬ i3_2 < 0 → ∀ ls : Array Slot, lv_has ls 5 [(0, .ref (a 0)), (1, .int x0), (2, .int i2_1), (3, .int i3_2)] → W p l e (headSpec wsX8_yes ({ frames := 1, cells := 0, slots := 0, locals := 21 } : Room)).room s m ([.ref (a 0), .int x0] : List Value).toArray below meth c s.heap [] 0 0 (MQ below (vp_Si (fun r => r = f_X8_yes y7 x0)) ([.ref (a 0), .int x0] : List Value).toArray s 0 0 (fun _ => False)) (F0 m 67 ls []) := by
    intro i2_1 i3_2 hE0 hj0_0 ls hl
    refine lv_iload_n hx hb dX8_yes_67 rfl (lv_at hl 2 rfl) ?_
    exact W.iret hx hb hr (fun t ht hW => ⟨i2_1, rfl, (show f_X8_yes y7 x0 = i2_1 from by rw [f_X8_yes, hE0, my_t2_eq]).symm, ht⟩) (fun q hq => absurd hq List.not_mem_nil) dX8_yes_68
  have key : ∀ (nf : Nat) (i2_1 : Int32) (i3_2 : Int32), (((y7 0) : Int32).toInt - (i3_2 : Int32).toInt).toNat < nf → lp (fun (x : Int32 × Int32) => f_X8_yes_st y7 x0 x.1 x.2) default nf (i2_1, i3_2) = lp (fun (x : Int32 × Int32) => f_X8_yes_st y7 x0 x.1 x.2) default ((((y7 0) : Int32).toInt - (0 : Int32).toInt).toNat + 1) (0, 0) → ¬ i3_2 < 0 → ∀ ls : Array Slot, lv_has ls 5 [(0, .ref (a 0)), (1, .int x0), (2, .int i2_1), (3, .int i3_2)] → W p l e (headSpec wsX8_yes ({ frames := 1, cells := 0, slots := 0, locals := 21 } : Room)).room s m ([.ref (a 0), .int x0] : List Value).toArray below meth c s.heap [] 0 0 (MQ below (vp_Si (fun r => r = f_X8_yes y7 x0)) ([.ref (a 0), .int x0] : List Value).toArray s 0 0 (fun _ => False)) (F0 m 4 ls []) := by
    intro n0
    induction n0 with
    | zero => intro i2_1 i3_2 hlt; exact absurd hlt (Nat.not_lt_zero _)
    | succ n0 ih0 =>
      intro i2_1 i3_2 hlt0 hF0 hi0_0 ls hl
      refine lv_iload_n hx hb dX8_yes_4 rfl (lv_at hl 3 rfl) ?_
      refine lv_aload_n hx hb dX8_yes_5 rfl (lv_at hl 0 rfl) ?_
      refine va_get (D := D) (ci := 6) (v := .ref (a 1)) (C := RX8) (T := TX8) (N := 14) hx hb hts inX8 hown hK0.1 hP 0 rfl rfl 0 (by decide) (hts (.fieldLink RX8 7 "PivotChamberModel" "s" "[I") (List.mem_of_getElem? (i := 1) rfl)) (fun _ h9 => h9) rfl dX8_yes_6 ?_
      refine lv_iconst (v := 0) hx hb dX8_yes_9 (by decide) ?_
      refine va_iald hx hb hK0.1 hP 1 0 rfl rfl (vp_in_nI (n := 0) (N := 27) (by decide) (by decide)) dX8_yes_10 ?_
      refine W.eq (g2 := F0 m 11 ls [.int (y7 0), .int i3_2]) rfl ?_
      refine lv_icmp_ge (tgt := 67) hx hb dX8_yes_11 (by decide) (fun c_3 => ?_) (fun c_3 => ?_)
      · have hst : f_X8_yes_st y7 x0 i2_1 i3_2 = .inr (i2_1, i3_2) := by rw [f_X8_yes_st, if_pos c_3]
        exact cont0 i2_1 i3_2 (lp_inr hst hF0) hi0_0 _ (lv_sub hl [0, 1, 2, 3] rfl)
      · refine lv_aload_n hx hb dX8_yes_14 rfl (lv_at hl 0 rfl) ?_
        refine va_get (D := D) (ci := 6) (v := .ref (a 1)) (C := RX8) (T := TX8) (N := 14) hx hb hts inX8 hown hK0.1 hP 0 rfl rfl 0 (by decide) (hts (.fieldLink RX8 7 "PivotChamberModel" "s" "[I") (List.mem_of_getElem? (i := 1) rfl)) (fun _ h9 => h9) rfl dX8_yes_15 ?_
        refine lv_bipush (v := 11) hx hb dX8_yes_18 (by decide) ?_
        refine lv_iload_n hx hb dX8_yes_20 rfl (lv_at hl 3 rfl) ?_
        refine lv_iadd hx hb dX8_yes_21 ?_
        refine va_iald hx hb hK0.1 hP 1 0 rfl rfl (ix_loop (K := 8) (N := 27) hi0_0 c_3 hm8 (by decide)) dX8_yes_22 ?_
        refine lv_iconst (v := (-1)) hx hb dX8_yes_23 (by decide) ?_
        refine lv_icmp_ne (tgt := 31) hx hb dX8_yes_24 (by decide) (fun c_4 => ?_) (fun c_4 => ?_)
        · refine lv_aload_n hx hb dX8_yes_31 rfl (lv_at hl 0 rfl) ?_
          refine va_get (D := D) (ci := 6) (v := .ref (a 1)) (C := RX8) (T := TX8) (N := 14) hx hb hts inX8 hown hK0.1 hP 0 rfl rfl 0 (by decide) (hts (.fieldLink RX8 7 "PivotChamberModel" "s" "[I") (List.mem_of_getElem? (i := 1) rfl)) (fun _ h9 => h9) rfl dX8_yes_32 ?_
          refine lv_bipush (v := 11) hx hb dX8_yes_35 (by decide) ?_
          refine lv_iload_n hx hb dX8_yes_37 rfl (lv_at hl 3 rfl) ?_
          refine lv_iadd hx hb dX8_yes_38 ?_
          refine va_iald hx hb hK0.1 hP 1 0 rfl rfl (ix_loop (K := 8) (N := 27) hi0_0 c_3 hm8 (by decide)) dX8_yes_39 ?_
          refine lv_istore (lv' := [(4, .int (y7 (11 + i3_2).toNatClampNeg)), (0, .ref (a 0)), (1, .int x0), (2, .int i2_1), (3, .int i3_2)]) hx hb dX8_yes_40 hl (by decide) rfl (fun ls hl => ?_)
          refine lv_iload_n hx hb dX8_yes_42 rfl (lv_at hl 3 rfl) ?_
          refine lv_iload_n hx hb dX8_yes_43 rfl (lv_at hl 2 rfl) ?_
          refine lv_iload hx hb dX8_yes_44 (lv_at hl 0 rfl) ?_
          refine rd_goi (va_runS (As := [.int x0, .int (y7 (11 + i3_2).toNatClampNeg)]) (rest := [.int i2_1]) S (c_X8_has l D cy g B x0 (y7 (11 + i3_2).toNatClampNeg)) (va_cwS 2 hts gX8_yes_X8_has rfl rfl rfl hd_X8_has_S ⟨Nat.le_of_ble_eq_true rfl, Nat.le_of_ble_eq_true rfl⟩) ⟨rdP_blind, my_preV hK0 hS hAB hP [] rfl⟩ rfl rfl hl.1 rfl (lv_room (Nat.le_of_ble_eq_true rfl)) dX8_yes_46 ⟨Nat.zero_le _, Nat.zero_le _⟩) ?_
          refine lv_if_eq (tgt := 58) hx hb dX8_yes_49 (by decide) (fun c_5 => ?_) (fun c_5 => ?_)
          · refine lv_iconst (v := 0) hx hb dX8_yes_58 (by decide) ?_
            refine lv_ior hx hb dX8_yes_59 ?_
            refine lv_istore_n (lv' := [(2, .int (i2_1 ||| 0)), (4, .int (y7 (11 + i3_2).toNatClampNeg)), (0, .ref (a 0)), (1, .int x0), (3, .int i3_2)]) hx hb dX8_yes_60 rfl hl (by decide) rfl (fun ls hl => ?_)
            refine lv_iinc (v := (i3_2 + 1)) (lv' := [(3, .int (i3_2 + 1)), (2, .int (i2_1 ||| 0)), (4, .int (y7 (11 + i3_2).toNatClampNeg)), (0, .ref (a 0)), (1, .int x0)]) hx hb dX8_yes_61 hl (k := 4) rfl rfl (by decide) rfl (fun ls hl => ?_)
            refine lv_goto (tgt := 4) hx hb dX8_yes_64 (by decide) ?_
            have hst : f_X8_yes_st y7 x0 i2_1 i3_2 = .inl ((i2_1 ||| 0), (i3_2 + 1)) := by rw [f_X8_yes_st, if_neg c_3, if_neg c_4, if_pos c_5]
            have hmu : (((y7 0) : Int32).toInt - ((i3_2 + 1) : Int32).toInt).toNat < (((y7 0) : Int32).toInt - (i3_2 : Int32).toInt).toNat := mu_up c_3
            exact ih0 (i2_1 ||| 0) (i3_2 + 1) (Nat.lt_of_lt_of_le hmu (Nat.le_of_lt_succ hlt0)) (lp_inl hst hF0) (nn_up hi0_0 c_3) _ (lv_sub hl [3, 4, 1, 0] rfl)
          · refine lv_iconst (v := 1) hx hb dX8_yes_52 (by decide) ?_
            refine lv_iload_n hx hb dX8_yes_53 rfl (lv_at hl 4 rfl) ?_
            refine lv_ishl hx hb dX8_yes_54 ?_
            refine lv_goto (tgt := 59) hx hb dX8_yes_55 (by decide) ?_
            refine lv_ior hx hb dX8_yes_59 ?_
            refine lv_istore_n (lv' := [(2, .int (i2_1 ||| (1 <<< (i3_2 &&& 31)))), (4, .int (y7 (11 + i3_2).toNatClampNeg)), (0, .ref (a 0)), (1, .int x0), (3, .int i3_2)]) hx hb dX8_yes_60 rfl hl (by decide) rfl (fun ls hl => ?_)
            refine lv_iinc (v := (i3_2 + 1)) (lv' := [(3, .int (i3_2 + 1)), (2, .int (i2_1 ||| (1 <<< (i3_2 &&& 31)))), (4, .int (y7 (11 + i3_2).toNatClampNeg)), (0, .ref (a 0)), (1, .int x0)]) hx hb dX8_yes_61 hl (k := 4) rfl rfl (by decide) rfl (fun ls hl => ?_)
            refine lv_goto (tgt := 4) hx hb dX8_yes_64 (by decide) ?_
            have hst : f_X8_yes_st y7 x0 i2_1 i3_2 = .inl ((i2_1 ||| (1 <<< (i3_2 &&& 31))), (i3_2 + 1)) := by rw [f_X8_yes_st, if_neg c_3, if_neg c_4, if_neg c_5]
            have hmu : (((y7 0) : Int32).toInt - ((i3_2 + 1) : Int32).toInt).toNat < (((y7 0) : Int32).toInt - (i3_2 : Int32).toInt).toNat := mu_up c_3
            exact ih0 (i2_1 ||| (1 <<< (i3_2 &&& 31))) (i3_2 + 1) (Nat.lt_of_lt_of_le hmu (Nat.le_of_lt_succ hlt0)) (lp_inl hst hF0) (nn_up hi0_0 c_3) _ (lv_sub hl [3, 4, 1, 0] rfl)
        · refine lv_iload_n hx hb dX8_yes_27 rfl (lv_at hl 3 rfl) ?_
          refine lv_goto (tgt := 40) hx hb dX8_yes_28 (by decide) ?_
          refine lv_istore (lv' := [(4, .int i3_2), (0, .ref (a 0)), (1, .int x0), (2, .int i2_1), (3, .int i3_2)]) hx hb dX8_yes_40 hl (by decide) rfl (fun ls hl => ?_)
          refine lv_iload_n hx hb dX8_yes_42 rfl (lv_at hl 3 rfl) ?_
          refine lv_iload_n hx hb dX8_yes_43 rfl (lv_at hl 2 rfl) ?_
          refine lv_iload hx hb dX8_yes_44 (lv_at hl 0 rfl) ?_
          refine rd_goi (va_runS (As := [.int x0, .int i3_2]) (rest := [.int i2_1]) S (c_X8_has l D cy g B x0 i3_2) (va_cwS 2 hts gX8_yes_X8_has rfl rfl rfl hd_X8_has_S ⟨Nat.le_of_ble_eq_true rfl, Nat.le_of_ble_eq_true rfl⟩) ⟨rdP_blind, my_preV hK0 hS hAB hP [] rfl⟩ rfl rfl hl.1 rfl (lv_room (Nat.le_of_ble_eq_true rfl)) dX8_yes_46 ⟨Nat.zero_le _, Nat.zero_le _⟩) ?_
          refine lv_if_eq (tgt := 58) hx hb dX8_yes_49 (by decide) (fun c_6 => ?_) (fun c_6 => ?_)
          · refine lv_iconst (v := 0) hx hb dX8_yes_58 (by decide) ?_
            refine lv_ior hx hb dX8_yes_59 ?_
            refine lv_istore_n (lv' := [(2, .int (i2_1 ||| 0)), (4, .int i3_2), (0, .ref (a 0)), (1, .int x0), (3, .int i3_2)]) hx hb dX8_yes_60 rfl hl (by decide) rfl (fun ls hl => ?_)
            refine lv_iinc (v := (i3_2 + 1)) (lv' := [(3, .int (i3_2 + 1)), (2, .int (i2_1 ||| 0)), (4, .int i3_2), (0, .ref (a 0)), (1, .int x0)]) hx hb dX8_yes_61 hl (k := 4) rfl rfl (by decide) rfl (fun ls hl => ?_)
            refine lv_goto (tgt := 4) hx hb dX8_yes_64 (by decide) ?_
            have hst : f_X8_yes_st y7 x0 i2_1 i3_2 = .inl ((i2_1 ||| 0), (i3_2 + 1)) := by rw [f_X8_yes_st, if_neg c_3, if_pos c_4, if_pos c_6]
            have hmu : (((y7 0) : Int32).toInt - ((i3_2 + 1) : Int32).toInt).toNat < (((y7 0) : Int32).toInt - (i3_2 : Int32).toInt).toNat := mu_up c_3
            exact ih0 (i2_1 ||| 0) (i3_2 + 1) (Nat.lt_of_lt_of_le hmu (Nat.le_of_lt_succ hlt0)) (lp_inl hst hF0) (nn_up hi0_0 c_3) _ (lv_sub hl [3, 4, 1, 0] rfl)
          · refine lv_iconst (v := 1) hx hb dX8_yes_52 (by decide) ?_
            refine lv_iload_n hx hb dX8_yes_53 rfl (lv_at hl 4 rfl) ?_
            refine lv_ishl hx hb dX8_yes_54 ?_
            refine lv_goto (tgt := 59) hx hb dX8_yes_55 (by decide) ?_
            refine lv_ior hx hb dX8_yes_59 ?_
            refine lv_istore_n (lv' := [(2, .int (i2_1 ||| (1 <<< (i3_2 &&& 31)))), (4, .int i3_2), (0, .ref (a 0)), (1, .int x0), (3, .int i3_2)]) hx hb dX8_yes_60 rfl hl (by decide) rfl (fun ls hl => ?_)
            refine lv_iinc (v := (i3_2 + 1)) (lv' := [(3, .int (i3_2 + 1)), (2, .int (i2_1 ||| (1 <<< (i3_2 &&& 31)))), (4, .int i3_2), (0, .ref (a 0)), (1, .int x0)]) hx hb dX8_yes_61 hl (k := 4) rfl rfl (by decide) rfl (fun ls hl => ?_)
            refine lv_goto (tgt := 4) hx hb dX8_yes_64 (by decide) ?_
            have hst : f_X8_yes_st y7 x0 i2_1 i3_2 = .inl ((i2_1 ||| (1 <<< (i3_2 &&& 31))), (i3_2 + 1)) := by rw [f_X8_yes_st, if_neg c_3, if_pos c_4, if_neg c_6]
            have hmu : (((y7 0) : Int32).toInt - ((i3_2 + 1) : Int32).toInt).toNat < (((y7 0) : Int32).toInt - (i3_2 : Int32).toInt).toNat := mu_up c_3
            exact ih0 (i2_1 ||| (1 <<< (i3_2 &&& 31))) (i3_2 + 1) (Nat.lt_of_lt_of_le hmu (Nat.le_of_lt_succ hlt0)) (lp_inl hst hF0) (nn_up hi0_0 c_3) _ (lv_sub hl [3, 4, 1, 0] rfl)
  exact key ((((y7 0) : Int32).toInt - (0 : Int32).toInt).toNat + 1) 0 0 (Nat.lt_succ_self _) rfl (by decide) _ (lv_sub hl [2, 3, 1, 0] rfl)
theorem hd_X8_weightOf_S : yX8_weightOf.cls ≠ "java/lang/invoke/MethodHandle" ∧ yX8_weightOf.cls ≠ "java/lang/invoke/VarHandle" ∧ (parseMethodDescriptor yX8_weightOf.desc).map (fun d => d.parameters.length) = some 1 := by decide +kernel
theorem hd_X8_weightOf_V : yX8_weightOf.cls = RX8 ∧ yX8_weightOf.cls ≠ "java/lang/invoke/MethodHandle" ∧ yX8_weightOf.cls ≠ "java/lang/invoke/VarHandle" ∧ (parseMethodDescriptor yX8_weightOf.desc).map (fun d => d.parameters.length) = some 1 := ⟨rfl, hd_X8_weightOf_S⟩
def f_X8_weightOf_st (y7 : (Nat → Int32)) (x0 : Int32) (i2_1 : Int32) (i3_2 : Int32) : (Int32 × Int32) ⊕ (Int32 × Int32) := (if (y7 0) ≤ i3_2 then (.inr (i2_1, i3_2)) else (if (f_X8_has x0 i3_2) = 0 then (.inl ((i2_1 + 0), (i3_2 + 1))) else (.inl ((i2_1 + (y7 (3 + i3_2).toNatClampNeg)), (i3_2 + 1)))))
def f_X8_weightOf (y7 : (Nat → Int32)) (x0 : Int32) : Int32 := (my_t2 (lp (fun (x : Int32 × Int32) => f_X8_weightOf_st y7 x0 x.1 x.2) default ((((y7 0) : Int32).toInt - (0 : Int32).toInt).toNat + 1) (0, 0)) (fun (i2_1 : Int32) (i3_2 : Int32) => i2_1))
set_option maxHeartbeats 400000 in
set_option maxRecDepth 100000 in
theorem c_X8_weightOf (l : Launch) (D : va_G) (cy : Nat → ClassId) (g : Nat → Nat) (B : Nat) (a : Nat → Nat) (y0 : Int32) (y1 : Int32) (y2 : Int32) (y3 : Int32) (y4 : Int32) (y5 : Int32) (y6 : Int32) (y7 : (Nat → Int32)) (y8 : (Nat → Int32)) (y9 : (Nat → Int32)) (y10 : (Nat → Int32)) (y11 : (Nat → Int32)) (y12 : (Nat → Int32)) (y13 : (Nat → Int32)) (x0 : Int32) (hm8 : ¬ 8 < (y7 0)) : Met l yX8_weightOf wsX8_weightOf ({ frames := 1, cells := 0, slots := 0, locals := 21 }) (rdP D cy g B (wModE cy a y0 y1 y2 y3 y4 y5 y6 y7 y8 y9 y10 y11 y12 y13) [.ref (a 0), .int x0]) (vp_Si (fun r => r = f_X8_weightOf y7 x0)) 0 0 (fun _ => False) := by
  refine Met.ofW (cc := cX8_weightOf) (maxL := 4) (ret := (some .int)) (by decide) rfl ?_
  intro p e s m args below meth c s₁ BB hml hv
  obtain ⟨rfl, hP, hK0⟩ := hv
  have hx := BB.exec
  have hb := BB.bytes
  have hr := BB.returns
  have hts := atoms_spec (ws := wsX8_weightOf) BB.pre
  have hown : s.vm.findClass RX8 = some m.cls := findClass_of_methodNamed BB.named
  have hlocks := BB.notSynchronized
  have S := my_fix hx hb hml hown hts
  have inX8 : ∀ w ∈ wsX80, w ∈ wsX8_weightOf := fun w h => List.mem_cons_of_mem _ (List.mem_append_right _ h)
  have hS : va_S (fun q => B ≤ q) s.heap s.heap [] := va_S.rf
  have hAB : ∀ q : Nat, (fun q => B ≤ q) q → B ≤ q := fun _ h => h
  have hl := lv_entry ([.ref (a 0), .int x0]) (n := 4) (Nat.le_of_ble_eq_true rfl)
  rw [lg_entry_eq]
  generalize (lg_sl ([.ref (a 0), .int x0]) ++ List.replicate (4 - (lg_sl ([.ref (a 0), .int x0])).length) Slot.unset).toArray = ls at hl ⊢
  have hl : lv_has ls 4 [(0, .ref (a 0)), (1, .int x0)] := hl
  refine lv_iconst (v := 0) hx hb dX8_weightOf_0 (by decide) ?_
  refine lv_istore_n (lv' := [(2, .int 0), (0, .ref (a 0)), (1, .int x0)]) hx hb dX8_weightOf_1 rfl hl (by decide) rfl (fun ls hl => ?_)
  refine lv_iconst (v := 0) hx hb dX8_weightOf_2 (by decide) ?_
  refine lv_istore_n (lv' := [(3, .int 0), (2, .int 0), (0, .ref (a 0)), (1, .int x0)]) hx hb dX8_weightOf_3 rfl hl (by decide) rfl (fun ls hl => ?_)
  have cont0 : ∀ (i2_1 : Int32) (i3_2 : Int32), lp (fun (x : Int32 × Int32) => f_X8_weightOf_st y7 x0 x.1 x.2) default ((((y7 0) : Int32).toInt - (0 : Int32).toInt).toNat + 1) (0, 0) = (i2_1, i3_2) → ¬ i3_2 < 0 → ∀ ls : Array Slot, lv_has ls 4 [(0, .ref (a 0)), (1, .int x0), (2, .int i2_1), (3, .int i3_2)] → W p l e (headSpec wsX8_weightOf ({ frames := 1, cells := 0, slots := 0, locals := 21 } : Room)).room s m ([.ref (a 0), .int x0] : List Value).toArray below meth c s.heap [] 0 0 (MQ below (vp_Si (fun r => r = f_X8_weightOf y7 x0)) ([.ref (a 0), .int x0] : List Value).toArray s 0 0 (fun _ => False)) (F0 m 43 ls []) := by
    intro i2_1 i3_2 hE0 hj0_0 ls hl
    refine lv_iload_n hx hb dX8_weightOf_43 rfl (lv_at hl 2 rfl) ?_
    exact W.iret hx hb hr (fun t ht hW => ⟨i2_1, rfl, (show f_X8_weightOf y7 x0 = i2_1 from by rw [f_X8_weightOf, hE0, my_t2_eq]).symm, ht⟩) (fun q hq => absurd hq List.not_mem_nil) dX8_weightOf_44
  have key : ∀ (nf : Nat) (i2_1 : Int32) (i3_2 : Int32), (((y7 0) : Int32).toInt - (i3_2 : Int32).toInt).toNat < nf → lp (fun (x : Int32 × Int32) => f_X8_weightOf_st y7 x0 x.1 x.2) default nf (i2_1, i3_2) = lp (fun (x : Int32 × Int32) => f_X8_weightOf_st y7 x0 x.1 x.2) default ((((y7 0) : Int32).toInt - (0 : Int32).toInt).toNat + 1) (0, 0) → ¬ i3_2 < 0 → ∀ ls : Array Slot, lv_has ls 4 [(0, .ref (a 0)), (1, .int x0), (2, .int i2_1), (3, .int i3_2)] → W p l e (headSpec wsX8_weightOf ({ frames := 1, cells := 0, slots := 0, locals := 21 } : Room)).room s m ([.ref (a 0), .int x0] : List Value).toArray below meth c s.heap [] 0 0 (MQ below (vp_Si (fun r => r = f_X8_weightOf y7 x0)) ([.ref (a 0), .int x0] : List Value).toArray s 0 0 (fun _ => False)) (F0 m 4 ls []) := by
    intro n0
    induction n0 with
    | zero => intro i2_1 i3_2 hlt; exact absurd hlt (Nat.not_lt_zero _)
    | succ n0 ih0 =>
      intro i2_1 i3_2 hlt0 hF0 hi0_0 ls hl
      refine lv_iload_n hx hb dX8_weightOf_4 rfl (lv_at hl 3 rfl) ?_
      refine lv_aload_n hx hb dX8_weightOf_5 rfl (lv_at hl 0 rfl) ?_
      refine va_get (D := D) (ci := 6) (v := .ref (a 1)) (C := RX8) (T := TX8) (N := 14) hx hb hts inX8 hown hK0.1 hP 0 rfl rfl 0 (by decide) (hts (.fieldLink RX8 7 "PivotChamberModel" "s" "[I") (List.mem_of_getElem? (i := 1) rfl)) (fun _ h9 => h9) rfl dX8_weightOf_6 ?_
      refine lv_iconst (v := 0) hx hb dX8_weightOf_9 (by decide) ?_
      refine va_iald hx hb hK0.1 hP 1 0 rfl rfl (vp_in_nI (n := 0) (N := 27) (by decide) (by decide)) dX8_weightOf_10 ?_
      refine W.eq (g2 := F0 m 11 ls [.int (y7 0), .int i3_2]) rfl ?_
      refine lv_icmp_ge (tgt := 43) hx hb dX8_weightOf_11 (by decide) (fun c_3 => ?_) (fun c_3 => ?_)
      · have hst : f_X8_weightOf_st y7 x0 i2_1 i3_2 = .inr (i2_1, i3_2) := by rw [f_X8_weightOf_st, if_pos c_3]
        exact cont0 i2_1 i3_2 (lp_inr hst hF0) hi0_0 _ (lv_sub hl [0, 1, 2, 3] rfl)
      · refine lv_iload_n hx hb dX8_weightOf_14 rfl (lv_at hl 2 rfl) ?_
        refine lv_iload_n hx hb dX8_weightOf_15 rfl (lv_at hl 1 rfl) ?_
        refine lv_iload_n hx hb dX8_weightOf_16 rfl (lv_at hl 3 rfl) ?_
        refine rd_goi (va_runS (As := [.int x0, .int i3_2]) (rest := [.int i2_1]) S (c_X8_has l D cy g B x0 i3_2) (va_cwS 2 hts gX8_weightOf_X8_has rfl rfl rfl hd_X8_has_S ⟨Nat.le_of_ble_eq_true rfl, Nat.le_of_ble_eq_true rfl⟩) ⟨rdP_blind, my_preV hK0 hS hAB hP [] rfl⟩ rfl rfl hl.1 rfl (lv_room (Nat.le_of_ble_eq_true rfl)) dX8_weightOf_17 ⟨Nat.zero_le _, Nat.zero_le _⟩) ?_
        refine lv_if_eq (tgt := 34) hx hb dX8_weightOf_20 (by decide) (fun c_4 => ?_) (fun c_4 => ?_)
        · refine lv_iconst (v := 0) hx hb dX8_weightOf_34 (by decide) ?_
          refine lv_iadd hx hb dX8_weightOf_35 ?_
          refine lv_istore_n (lv' := [(2, .int (i2_1 + 0)), (0, .ref (a 0)), (1, .int x0), (3, .int i3_2)]) hx hb dX8_weightOf_36 rfl hl (by decide) rfl (fun ls hl => ?_)
          refine lv_iinc (v := (i3_2 + 1)) (lv' := [(3, .int (i3_2 + 1)), (2, .int (i2_1 + 0)), (0, .ref (a 0)), (1, .int x0)]) hx hb dX8_weightOf_37 hl (k := 3) rfl rfl (by decide) rfl (fun ls hl => ?_)
          refine lv_goto (tgt := 4) hx hb dX8_weightOf_40 (by decide) ?_
          have hst : f_X8_weightOf_st y7 x0 i2_1 i3_2 = .inl ((i2_1 + 0), (i3_2 + 1)) := by rw [f_X8_weightOf_st, if_neg c_3, if_pos c_4]
          have hmu : (((y7 0) : Int32).toInt - ((i3_2 + 1) : Int32).toInt).toNat < (((y7 0) : Int32).toInt - (i3_2 : Int32).toInt).toNat := mu_up c_3
          exact ih0 (i2_1 + 0) (i3_2 + 1) (Nat.lt_of_lt_of_le hmu (Nat.le_of_lt_succ hlt0)) (lp_inl hst hF0) (nn_up hi0_0 c_3) _ (lv_sub hl [2, 3, 1, 0] rfl)
        · refine lv_aload_n hx hb dX8_weightOf_23 rfl (lv_at hl 0 rfl) ?_
          refine va_get (D := D) (ci := 6) (v := .ref (a 1)) (C := RX8) (T := TX8) (N := 14) hx hb hts inX8 hown hK0.1 hP 0 rfl rfl 0 (by decide) (hts (.fieldLink RX8 7 "PivotChamberModel" "s" "[I") (List.mem_of_getElem? (i := 1) rfl)) (fun _ h9 => h9) rfl dX8_weightOf_24 ?_
          refine lv_iconst (v := 3) hx hb dX8_weightOf_27 (by decide) ?_
          refine lv_iload_n hx hb dX8_weightOf_28 rfl (lv_at hl 3 rfl) ?_
          refine lv_iadd hx hb dX8_weightOf_29 ?_
          refine va_iald hx hb hK0.1 hP 1 0 rfl rfl (ix_loop (K := 8) (N := 27) hi0_0 c_3 hm8 (by decide)) dX8_weightOf_30 ?_
          refine lv_goto (tgt := 35) hx hb dX8_weightOf_31 (by decide) ?_
          refine lv_iadd hx hb dX8_weightOf_35 ?_
          refine lv_istore_n (lv' := [(2, .int (i2_1 + (y7 (3 + i3_2).toNatClampNeg))), (0, .ref (a 0)), (1, .int x0), (3, .int i3_2)]) hx hb dX8_weightOf_36 rfl hl (by decide) rfl (fun ls hl => ?_)
          refine lv_iinc (v := (i3_2 + 1)) (lv' := [(3, .int (i3_2 + 1)), (2, .int (i2_1 + (y7 (3 + i3_2).toNatClampNeg))), (0, .ref (a 0)), (1, .int x0)]) hx hb dX8_weightOf_37 hl (k := 3) rfl rfl (by decide) rfl (fun ls hl => ?_)
          refine lv_goto (tgt := 4) hx hb dX8_weightOf_40 (by decide) ?_
          have hst : f_X8_weightOf_st y7 x0 i2_1 i3_2 = .inl ((i2_1 + (y7 (3 + i3_2).toNatClampNeg)), (i3_2 + 1)) := by rw [f_X8_weightOf_st, if_neg c_3, if_neg c_4]
          have hmu : (((y7 0) : Int32).toInt - ((i3_2 + 1) : Int32).toInt).toNat < (((y7 0) : Int32).toInt - (i3_2 : Int32).toInt).toNat := mu_up c_3
          exact ih0 (i2_1 + (y7 (3 + i3_2).toNatClampNeg)) (i3_2 + 1) (Nat.lt_of_lt_of_le hmu (Nat.le_of_lt_succ hlt0)) (lp_inl hst hF0) (nn_up hi0_0 c_3) _ (lv_sub hl [2, 3, 1, 0] rfl)
  exact key ((((y7 0) : Int32).toInt - (0 : Int32).toInt).toNat + 1) 0 0 (Nat.lt_succ_self _) rfl (by decide) _ (lv_sub hl [2, 3, 1, 0] rfl)
theorem hd_X8_holds_S : yX8_holds.cls ≠ "java/lang/invoke/MethodHandle" ∧ yX8_holds.cls ≠ "java/lang/invoke/VarHandle" ∧ (parseMethodDescriptor yX8_holds.desc).map (fun d => d.parameters.length) = some 2 := by decide +kernel
theorem hd_X8_holds_V : yX8_holds.cls = RX8 ∧ yX8_holds.cls ≠ "java/lang/invoke/MethodHandle" ∧ yX8_holds.cls ≠ "java/lang/invoke/VarHandle" ∧ (parseMethodDescriptor yX8_holds.desc).map (fun d => d.parameters.length) = some 2 := ⟨rfl, hd_X8_holds_S⟩
def f_X8_holds (y7 : (Nat → Int32)) (x0 : Int32) (x1 : Int32) : Int32 := (if (y7 (19 + x0).toNatClampNeg) = 0 then (if (f_X8_ones x1) < (y7 (23 + x0).toNatClampNeg) then 0 else 1) else (if (y7 (19 + x0).toNatClampNeg) = 1 then (f_X8_has x1 (y7 (23 + x0).toNatClampNeg)) else (if (x1 &&& (y7 (23 + x0).toNatClampNeg)) = 0 then 0 else 1)))
theorem z_X8_holds (y7 : (Nat → Int32)) (x0 : Int32) (x1 : Int32) : f_X8_holds y7 x0 x1 = 0 ∨ f_X8_holds y7 x0 x1 = 1 := by
  unfold f_X8_holds
  repeat' split
  all_goals first | exact Or.inl rfl | exact Or.inr rfl | exact z_X8_has _ _
set_option maxHeartbeats 400000 in
set_option maxRecDepth 100000 in
theorem c_X8_holds (l : Launch) (D : va_G) (cy : Nat → ClassId) (g : Nat → Nat) (B : Nat) (a : Nat → Nat) (y0 : Int32) (y1 : Int32) (y2 : Int32) (y3 : Int32) (y4 : Int32) (y5 : Int32) (y6 : Int32) (y7 : (Nat → Int32)) (y8 : (Nat → Int32)) (y9 : (Nat → Int32)) (y10 : (Nat → Int32)) (y11 : (Nat → Int32)) (y12 : (Nat → Int32)) (y13 : (Nat → Int32)) (x0 : Int32) (x1 : Int32) (hR4 : ¬ 4 < (y7 2)) (hx0 : ¬ x0 < 0) (hx1 : ¬ (y7 2) ≤ x0) : Met l yX8_holds wsX8_holds ({ frames := 1, cells := 0, slots := 0, locals := 22 }) (rdP D cy g B (wModE cy a y0 y1 y2 y3 y4 y5 y6 y7 y8 y9 y10 y11 y12 y13) [.ref (a 0), .int x0, .int x1]) (vp_Si (fun r => r = f_X8_holds y7 x0 x1)) 0 0 (fun _ => False) := by
  refine Met.ofW (cc := cX8_holds) (maxL := 4) (ret := (some .boolean)) (by decide) rfl ?_
  intro p e s m args below meth c s₁ BB hml hv
  obtain ⟨rfl, hP, hK0⟩ := hv
  have hx := BB.exec
  have hb := BB.bytes
  have hr := BB.returns
  have hts := atoms_spec (ws := wsX8_holds) BB.pre
  have hown : s.vm.findClass RX8 = some m.cls := findClass_of_methodNamed BB.named
  have hlocks := BB.notSynchronized
  have S := my_fix hx hb hml hown hts
  have inX8 : ∀ w ∈ wsX80, w ∈ wsX8_holds := fun w h => List.mem_cons_of_mem _ (List.mem_append_right _ h)
  have hS : va_S (fun q => B ≤ q) s.heap s.heap [] := va_S.rf
  have hAB : ∀ q : Nat, (fun q => B ≤ q) q → B ≤ q := fun _ h => h
  have hl := lv_entry ([.ref (a 0), .int x0, .int x1]) (n := 4) (Nat.le_of_ble_eq_true rfl)
  rw [lg_entry_eq]
  generalize (lg_sl ([.ref (a 0), .int x0, .int x1]) ++ List.replicate (4 - (lg_sl ([.ref (a 0), .int x0, .int x1])).length) Slot.unset).toArray = ls at hl ⊢
  have hl : lv_has ls 4 [(0, .ref (a 0)), (1, .int x0), (2, .int x1)] := hl
  refine lv_aload_n hx hb dX8_holds_0 rfl (lv_at hl 0 rfl) ?_
  refine va_get (D := D) (ci := 6) (v := .ref (a 1)) (C := RX8) (T := TX8) (N := 14) hx hb hts inX8 hown hK0.1 hP 0 rfl rfl 0 (by decide) (hts (.fieldLink RX8 7 "PivotChamberModel" "s" "[I") (List.mem_of_getElem? (i := 1) rfl)) (fun _ h9 => h9) rfl dX8_holds_1 ?_
  refine lv_bipush (v := 23) hx hb dX8_holds_4 (by decide) ?_
  refine lv_iload_n hx hb dX8_holds_6 rfl (lv_at hl 1 rfl) ?_
  refine lv_iadd hx hb dX8_holds_7 ?_
  refine va_iald hx hb hK0.1 hP 1 0 rfl rfl (ix_loop (K := 4) (N := 27) hx0 hx1 hR4 (by decide)) dX8_holds_8 ?_
  refine lv_istore_n (lv' := [(3, .int (y7 (23 + x0).toNatClampNeg)), (0, .ref (a 0)), (1, .int x0), (2, .int x1)]) hx hb dX8_holds_9 rfl hl (by decide) rfl (fun ls hl => ?_)
  refine lv_aload_n hx hb dX8_holds_10 rfl (lv_at hl 1 rfl) ?_
  refine va_get (D := D) (ci := 6) (v := .ref (a 1)) (C := RX8) (T := TX8) (N := 14) hx hb hts inX8 hown hK0.1 hP 0 rfl rfl 0 (by decide) (hts (.fieldLink RX8 7 "PivotChamberModel" "s" "[I") (List.mem_of_getElem? (i := 1) rfl)) (fun _ h9 => h9) rfl dX8_holds_11 ?_
  refine lv_bipush (v := 19) hx hb dX8_holds_14 (by decide) ?_
  refine lv_iload_n hx hb dX8_holds_16 rfl (lv_at hl 2 rfl) ?_
  refine lv_iadd hx hb dX8_holds_17 ?_
  refine va_iald hx hb hK0.1 hP 1 0 rfl rfl (ix_loop (K := 4) (N := 27) hx0 hx1 hR4 (by decide)) dX8_holds_18 ?_
  refine lv_if_ne (tgt := 38) hx hb dX8_holds_19 (by decide) (fun c_1 => ?_) (fun c_1 => ?_)
  · refine lv_aload_n hx hb dX8_holds_38 rfl (lv_at hl 1 rfl) ?_
    refine va_get (D := D) (ci := 6) (v := .ref (a 1)) (C := RX8) (T := TX8) (N := 14) hx hb hts inX8 hown hK0.1 hP 0 rfl rfl 0 (by decide) (hts (.fieldLink RX8 7 "PivotChamberModel" "s" "[I") (List.mem_of_getElem? (i := 1) rfl)) (fun _ h9 => h9) rfl dX8_holds_39 ?_
    refine lv_bipush (v := 19) hx hb dX8_holds_42 (by decide) ?_
    refine lv_iload_n hx hb dX8_holds_44 rfl (lv_at hl 2 rfl) ?_
    refine lv_iadd hx hb dX8_holds_45 ?_
    refine va_iald hx hb hK0.1 hP 1 0 rfl rfl (ix_loop (K := 4) (N := 27) hx0 hx1 hR4 (by decide)) dX8_holds_46 ?_
    refine lv_iconst (v := 1) hx hb dX8_holds_47 (by decide) ?_
    refine lv_icmp_ne (tgt := 59) hx hb dX8_holds_48 (by decide) (fun c_2 => ?_) (fun c_2 => ?_)
    · refine lv_iload_n hx hb dX8_holds_59 rfl (lv_at hl 3 rfl) ?_
      refine lv_iload_n hx hb dX8_holds_60 rfl (lv_at hl 0 rfl) ?_
      refine lv_iand hx hb dX8_holds_61 ?_
      refine lv_if_eq (tgt := 69) hx hb dX8_holds_62 (by decide) (fun c_3 => ?_) (fun c_3 => ?_)
      · refine lv_iconst (v := 0) hx hb dX8_holds_69 (by decide) ?_
        exact W.zret (ty := .boolean) (v := 0) hx hb hr (my_nz (by decide)) (fun t ht hW => ⟨0, rfl, (show f_X8_holds y7 x0 x1 = 0 from by rw [f_X8_holds, if_neg c_1, if_neg c_2, if_pos c_3]).symm, ht⟩) (fun q hq => absurd hq List.not_mem_nil) dX8_holds_70
      · refine lv_iconst (v := 1) hx hb dX8_holds_65 (by decide) ?_
        refine lv_goto (tgt := 70) hx hb dX8_holds_66 (by decide) ?_
        exact W.zret (ty := .boolean) (v := 1) hx hb hr (my_nz (by decide)) (fun t ht hW => ⟨1, rfl, (show f_X8_holds y7 x0 x1 = 1 from by rw [f_X8_holds, if_neg c_1, if_neg c_2, if_neg c_3]).symm, ht⟩) (fun q hq => absurd hq List.not_mem_nil) dX8_holds_70
    · refine lv_iload_n hx hb dX8_holds_51 rfl (lv_at hl 3 rfl) ?_
      refine lv_iload_n hx hb dX8_holds_52 rfl (lv_at hl 0 rfl) ?_
      refine rd_goi (va_runS (As := [.int x1, .int (y7 (23 + x0).toNatClampNeg)]) (rest := []) S (c_X8_has l D cy g B x1 (y7 (23 + x0).toNatClampNeg)) (va_cwS 2 hts gX8_holds_X8_has rfl rfl rfl hd_X8_has_S ⟨Nat.le_of_ble_eq_true rfl, Nat.le_of_ble_eq_true rfl⟩) ⟨rdP_blind, my_preV hK0 hS hAB hP [] rfl⟩ rfl rfl hl.1 rfl (lv_room (Nat.le_of_ble_eq_true rfl)) dX8_holds_53 ⟨Nat.zero_le _, Nat.zero_le _⟩) ?_
      refine lv_goto (tgt := 70) hx hb dX8_holds_56 (by decide) ?_
      exact W.zret (ty := .boolean) (v := (f_X8_has x1 (y7 (23 + x0).toNatClampNeg))) hx hb hr (my_nz (z_X8_has _ _)) (fun t ht hW => ⟨(f_X8_has x1 (y7 (23 + x0).toNatClampNeg)), rfl, (show f_X8_holds y7 x0 x1 = (f_X8_has x1 (y7 (23 + x0).toNatClampNeg)) from by rw [f_X8_holds, if_neg c_1, if_pos c_2]).symm, ht⟩) (fun q hq => absurd hq List.not_mem_nil) dX8_holds_70
  · refine lv_iload_n hx hb dX8_holds_22 rfl (lv_at hl 3 rfl) ?_
    refine rd_goi (va_runS (As := [.int x1]) (rest := []) S (c_X8_ones l D cy g B x1) (va_cwS 1 hts gX8_holds_X8_ones rfl rfl rfl hd_X8_ones_S ⟨Nat.le_of_ble_eq_true rfl, Nat.le_of_ble_eq_true rfl⟩) ⟨rdP_blind, my_preV hK0 hS hAB hP [] rfl⟩ rfl rfl hl.1 rfl (lv_room (Nat.le_of_ble_eq_true rfl)) dX8_holds_23 ⟨Nat.zero_le _, Nat.zero_le _⟩) ?_
    refine lv_iload_n hx hb dX8_holds_26 rfl (lv_at hl 0 rfl) ?_
    refine lv_icmp_lt (tgt := 34) hx hb dX8_holds_27 (by decide) (fun c_4 => ?_) (fun c_4 => ?_)
    · refine lv_iconst (v := 0) hx hb dX8_holds_34 (by decide) ?_
      refine lv_goto (tgt := 70) hx hb dX8_holds_35 (by decide) ?_
      exact W.zret (ty := .boolean) (v := 0) hx hb hr (my_nz (by decide)) (fun t ht hW => ⟨0, rfl, (show f_X8_holds y7 x0 x1 = 0 from by rw [f_X8_holds, if_pos c_1, if_pos c_4]).symm, ht⟩) (fun q hq => absurd hq List.not_mem_nil) dX8_holds_70
    · refine lv_iconst (v := 1) hx hb dX8_holds_30 (by decide) ?_
      refine lv_goto (tgt := 70) hx hb dX8_holds_31 (by decide) ?_
      exact W.zret (ty := .boolean) (v := 1) hx hb hr (my_nz (by decide)) (fun t ht hW => ⟨1, rfl, (show f_X8_holds y7 x0 x1 = 1 from by rw [f_X8_holds, if_pos c_1, if_neg c_4]).symm, ht⟩) (fun q hq => absurd hq List.not_mem_nil) dX8_holds_70
theorem hd_X8_why_S : yX8_why.cls ≠ "java/lang/invoke/MethodHandle" ∧ yX8_why.cls ≠ "java/lang/invoke/VarHandle" ∧ (parseMethodDescriptor yX8_why.desc).map (fun d => d.parameters.length) = some 2 := by decide +kernel
theorem hd_X8_why_V : yX8_why.cls = RX8 ∧ yX8_why.cls ≠ "java/lang/invoke/MethodHandle" ∧ yX8_why.cls ≠ "java/lang/invoke/VarHandle" ∧ (parseMethodDescriptor yX8_why.desc).map (fun d => d.parameters.length) = some 2 := ⟨rfl, hd_X8_why_S⟩
def f_X8_why_st (y7 : (Nat → Int32)) (x0 : Int32) (i4_2 : Int32) : (Int32) ⊕ (Int32) := (if (y7 2) ≤ i4_2 then (.inr 0) else (if (f_X8_holds y7 i4_2 (f_X8_yes y7 x0)) = 0 then (.inr (2 + i4_2)) else (.inl (i4_2 + 1))))
def f_X8_why (y7 : (Nat → Int32)) (x0 : Int32) (x1 : Int32) : Int32 := (if x1 ≤ (f_X8_weightOf y7 (f_X8_yes y7 x0)) then (lp (fun (x : Int32) => f_X8_why_st y7 x0 x) default ((((y7 2) : Int32).toInt - (0 : Int32).toInt).toNat + 1) 0) else 1)
set_option maxHeartbeats 400000 in
set_option maxRecDepth 100000 in
theorem c_X8_why (l : Launch) (D : va_G) (cy : Nat → ClassId) (g : Nat → Nat) (B : Nat) (a : Nat → Nat) (y0 : Int32) (y1 : Int32) (y2 : Int32) (y3 : Int32) (y4 : Int32) (y5 : Int32) (y6 : Int32) (y7 : (Nat → Int32)) (y8 : (Nat → Int32)) (y9 : (Nat → Int32)) (y10 : (Nat → Int32)) (y11 : (Nat → Int32)) (y12 : (Nat → Int32)) (y13 : (Nat → Int32)) (x0 : Int32) (x1 : Int32) (hm8 : ¬ 8 < (y7 0)) (hR4 : ¬ 4 < (y7 2)) : Met l yX8_why wsX8_why ({ frames := 2, cells := 0, slots := 0, locals := 45 }) (rdP D cy g B (wModE cy a y0 y1 y2 y3 y4 y5 y6 y7 y8 y9 y10 y11 y12 y13) [.ref (a 0), .int x0, .int x1]) (vp_Si (fun r => r = f_X8_why y7 x0 x1)) 0 0 (fun _ => False) := by
  refine Met.ofW (cc := cX8_why) (maxL := 5) (ret := (some .int)) (by decide) rfl ?_
  intro p e s m args below meth c s₁ BB hml hv
  obtain ⟨rfl, hP, hK0⟩ := hv
  have hx := BB.exec
  have hb := BB.bytes
  have hr := BB.returns
  have hts := atoms_spec (ws := wsX8_why) BB.pre
  have hown : s.vm.findClass RX8 = some m.cls := findClass_of_methodNamed BB.named
  have hlocks := BB.notSynchronized
  have S := my_fix hx hb hml hown hts
  have inX8 : ∀ w ∈ wsX80, w ∈ wsX8_why := fun w h => List.mem_cons_of_mem _ (List.mem_append_right _ h)
  have hS : va_S (fun q => B ≤ q) s.heap s.heap [] := va_S.rf
  have hAB : ∀ q : Nat, (fun q => B ≤ q) q → B ≤ q := fun _ h => h
  have hl := lv_entry ([.ref (a 0), .int x0, .int x1]) (n := 5) (Nat.le_of_ble_eq_true rfl)
  rw [lg_entry_eq]
  generalize (lg_sl ([.ref (a 0), .int x0, .int x1]) ++ List.replicate (5 - (lg_sl ([.ref (a 0), .int x0, .int x1])).length) Slot.unset).toArray = ls at hl ⊢
  have hl : lv_has ls 5 [(0, .ref (a 0)), (1, .int x0), (2, .int x1)] := hl
  refine lv_aload_n hx hb dX8_why_0 rfl (lv_at hl 0 rfl) ?_
  refine lv_iload_n hx hb dX8_why_1 rfl (lv_at hl 1 rfl) ?_
  refine rd_goi (va_runV (C := RX8) (As := [.int x0]) (rest := []) S (c_X8_yes l D cy g B a y0 y1 y2 y3 y4 y5 y6 y7 y8 y9 y10 y11 y12 y13 x0 hm8) (cwV 1 hts gX8_why_X8_yes rfl rfl rfl hd_X8_yes_V ⟨Nat.le_of_ble_eq_true rfl, Nat.le_of_ble_eq_true rfl⟩) ⟨rdP_blind, va_recv hK0.1 hP (ci := 6) (q0 := 0) rfl rfl, my_preP hK0 hS hAB hP⟩ rfl rfl hl.1 rfl (lv_room (Nat.le_of_ble_eq_true rfl)) dX8_why_2 ⟨Nat.zero_le _, Nat.zero_le _⟩) ?_
  refine lv_istore_n (lv' := [(3, .int (f_X8_yes y7 x0)), (0, .ref (a 0)), (1, .int x0), (2, .int x1)]) hx hb dX8_why_5 rfl hl (by decide) rfl (fun ls hl => ?_)
  refine lv_aload_n hx hb dX8_why_6 rfl (lv_at hl 1 rfl) ?_
  refine lv_iload_n hx hb dX8_why_7 rfl (lv_at hl 0 rfl) ?_
  refine rd_goi (va_runV (C := RX8) (As := [.int (f_X8_yes y7 x0)]) (rest := []) S (c_X8_weightOf l D cy g B a y0 y1 y2 y3 y4 y5 y6 y7 y8 y9 y10 y11 y12 y13 (f_X8_yes y7 x0) hm8) (cwV 1 hts gX8_why_X8_weightOf rfl rfl rfl hd_X8_weightOf_V ⟨Nat.le_of_ble_eq_true rfl, Nat.le_of_ble_eq_true rfl⟩) ⟨rdP_blind, va_recv hK0.1 hP (ci := 6) (q0 := 0) rfl rfl, my_preP hK0 hS hAB hP⟩ rfl rfl hl.1 rfl (lv_room (Nat.le_of_ble_eq_true rfl)) dX8_why_8 ⟨Nat.zero_le _, Nat.zero_le _⟩) ?_
  refine lv_iload_n hx hb dX8_why_11 rfl (lv_at hl 3 rfl) ?_
  refine lv_icmp_ge (tgt := 17) hx hb dX8_why_12 (by decide) (fun c_1 => ?_) (fun c_1 => ?_)
  · refine lv_iconst (v := 0) hx hb dX8_why_17 (by decide) ?_
    refine lv_istore (lv' := [(4, .int 0), (3, .int (f_X8_yes y7 x0)), (0, .ref (a 0)), (1, .int x0), (2, .int x1)]) hx hb dX8_why_18 hl (by decide) rfl (fun ls hl => ?_)
    have key : ∀ (nf : Nat) (i4_2 : Int32), (((y7 2) : Int32).toInt - (i4_2 : Int32).toInt).toNat < nf → lp (fun (x : Int32) => f_X8_why_st y7 x0 x) default nf i4_2 = lp (fun (x : Int32) => f_X8_why_st y7 x0 x) default ((((y7 2) : Int32).toInt - (0 : Int32).toInt).toNat + 1) 0 → ¬ i4_2 < 0 → ∀ ls : Array Slot, lv_has ls 5 [(0, .ref (a 0)), (1, .int x0), (2, .int x1), (3, .int (f_X8_yes y7 x0)), (4, .int i4_2)] → W p l e (headSpec wsX8_why ({ frames := 2, cells := 0, slots := 0, locals := 45 } : Room)).room s m ([.ref (a 0), .int x0, .int x1] : List Value).toArray below meth c s.heap [] 0 0 (MQ below (vp_Si (fun r => r = f_X8_why y7 x0 x1)) ([.ref (a 0), .int x0, .int x1] : List Value).toArray s 0 0 (fun _ => False)) (F0 m 20 ls []) := by
      intro n0
      induction n0 with
      | zero => intro i4_2 hlt; exact absurd hlt (Nat.not_lt_zero _)
      | succ n0 ih0 =>
        intro i4_2 hlt0 hF0 hi0_0 ls hl
        refine lv_iload hx hb dX8_why_20 (lv_at hl 4 rfl) ?_
        refine lv_aload_n hx hb dX8_why_22 rfl (lv_at hl 0 rfl) ?_
        refine va_get (D := D) (ci := 6) (v := .ref (a 1)) (C := RX8) (T := TX8) (N := 14) hx hb hts inX8 hown hK0.1 hP 0 rfl rfl 0 (by decide) (hts (.fieldLink RX8 7 "PivotChamberModel" "s" "[I") (List.mem_of_getElem? (i := 1) rfl)) (fun _ h9 => h9) rfl dX8_why_23 ?_
        refine lv_iconst (v := 2) hx hb dX8_why_26 (by decide) ?_
        refine va_iald hx hb hK0.1 hP 1 0 rfl rfl (vp_in_nI (n := 2) (N := 27) (by decide) (by decide)) dX8_why_27 ?_
        refine W.eq (g2 := F0 m 28 ls [.int (y7 2), .int i4_2]) rfl ?_
        refine lv_icmp_ge (tgt := 52) hx hb dX8_why_28 (by decide) (fun c_3 => ?_) (fun c_3 => ?_)
        · refine lv_iconst (v := 0) hx hb dX8_why_52 (by decide) ?_
          have hst : f_X8_why_st y7 x0 i4_2 = .inr 0 := by rw [f_X8_why_st, if_pos c_3]
          exact W.iret hx hb hr (fun t ht hW => ⟨0, rfl, (show f_X8_why y7 x0 x1 = 0 from by rw [f_X8_why, if_pos c_1]; exact lp_inr hst hF0).symm, ht⟩) (fun q hq => absurd hq List.not_mem_nil) dX8_why_53
        · refine lv_aload_n hx hb dX8_why_31 rfl (lv_at hl 0 rfl) ?_
          refine lv_iload hx hb dX8_why_32 (lv_at hl 4 rfl) ?_
          refine lv_iload_n hx hb dX8_why_34 rfl (lv_at hl 3 rfl) ?_
          refine rd_goi (va_runV (C := RX8) (As := [.int i4_2, .int (f_X8_yes y7 x0)]) (rest := []) S (c_X8_holds l D cy g B a y0 y1 y2 y3 y4 y5 y6 y7 y8 y9 y10 y11 y12 y13 i4_2 (f_X8_yes y7 x0) hR4 hi0_0 c_3) (cwV 2 hts gX8_why_X8_holds rfl rfl rfl hd_X8_holds_V ⟨Nat.le_of_ble_eq_true rfl, Nat.le_of_ble_eq_true rfl⟩) ⟨rdP_blind, va_recv hK0.1 hP (ci := 6) (q0 := 0) rfl rfl, my_preP hK0 hS hAB hP⟩ rfl rfl hl.1 rfl (lv_room (Nat.le_of_ble_eq_true rfl)) dX8_why_35 ⟨Nat.zero_le _, Nat.zero_le _⟩) ?_
          refine lv_if_ne (tgt := 46) hx hb dX8_why_38 (by decide) (fun c_4 => ?_) (fun c_4 => ?_)
          · refine lv_iinc (v := (i4_2 + 1)) (lv' := [(4, .int (i4_2 + 1)), (0, .ref (a 0)), (1, .int x0), (2, .int x1), (3, .int (f_X8_yes y7 x0))]) hx hb dX8_why_46 hl (k := 4) rfl rfl (by decide) rfl (fun ls hl => ?_)
            refine lv_goto (tgt := 20) hx hb dX8_why_49 (by decide) ?_
            have hst : f_X8_why_st y7 x0 i4_2 = .inl (i4_2 + 1) := by rw [f_X8_why_st, if_neg c_3, if_neg c_4]
            have hmu : (((y7 2) : Int32).toInt - ((i4_2 + 1) : Int32).toInt).toNat < (((y7 2) : Int32).toInt - (i4_2 : Int32).toInt).toNat := mu_up c_3
            exact ih0 (i4_2 + 1) (Nat.lt_of_lt_of_le hmu (Nat.le_of_lt_succ hlt0)) (lp_inl hst hF0) (nn_up hi0_0 c_3) _ (lv_sub hl [1, 2, 3, 4, 0] rfl)
          · refine lv_iconst (v := 2) hx hb dX8_why_41 (by decide) ?_
            refine lv_iload hx hb dX8_why_42 (lv_at hl 4 rfl) ?_
            refine lv_iadd hx hb dX8_why_44 ?_
            have hst : f_X8_why_st y7 x0 i4_2 = .inr (2 + i4_2) := by rw [f_X8_why_st, if_neg c_3, if_pos c_4]
            exact W.iret hx hb hr (fun t ht hW => ⟨(2 + i4_2), rfl, (show f_X8_why y7 x0 x1 = (2 + i4_2) from by rw [f_X8_why, if_pos c_1]; exact lp_inr hst hF0).symm, ht⟩) (fun q hq => absurd hq List.not_mem_nil) dX8_why_45
    exact key ((((y7 2) : Int32).toInt - (0 : Int32).toInt).toNat + 1) 0 (Nat.lt_succ_self _) rfl (by decide) _ (lv_sub hl [2, 3, 4, 1, 0] rfl)
  · refine lv_iconst (v := 1) hx hb dX8_why_15 (by decide) ?_
    exact W.iret hx hb hr (fun t ht hW => ⟨1, rfl, (show f_X8_why y7 x0 x1 = 1 from by rw [f_X8_why, if_neg c_1]).symm, ht⟩) (fun q hq => absurd hq List.not_mem_nil) dX8_why_16
theorem hd_X8_followers_S : yX8_followers.cls ≠ "java/lang/invoke/MethodHandle" ∧ yX8_followers.cls ≠ "java/lang/invoke/VarHandle" ∧ (parseMethodDescriptor yX8_followers.desc).map (fun d => d.parameters.length) = some 1 := by decide +kernel
theorem hd_X8_followers_V : yX8_followers.cls = RX8 ∧ yX8_followers.cls ≠ "java/lang/invoke/MethodHandle" ∧ yX8_followers.cls ≠ "java/lang/invoke/VarHandle" ∧ (parseMethodDescriptor yX8_followers.desc).map (fun d => d.parameters.length) = some 1 := ⟨rfl, hd_X8_followers_S⟩
def f_X8_followers_st (y7 : (Nat → Int32)) (x0 : Int32) (i2_1 : Int32) (i3_2 : Int32) : (Int32 × Int32) ⊕ (Int32 × Int32) := (if (y7 0) ≤ i3_2 then (.inr (i2_1, i3_2)) else (if (y7 (11 + i3_2).toNatClampNeg) = x0 then (.inl ((i2_1 + 1), (i3_2 + 1))) else (.inl ((i2_1 + 0), (i3_2 + 1)))))
def f_X8_followers (y7 : (Nat → Int32)) (x0 : Int32) : Int32 := (my_t2 (lp (fun (x : Int32 × Int32) => f_X8_followers_st y7 x0 x.1 x.2) default ((((y7 0) : Int32).toInt - (0 : Int32).toInt).toNat + 1) (0, 0)) (fun (i2_1 : Int32) (i3_2 : Int32) => i2_1))
set_option maxHeartbeats 400000 in
set_option maxRecDepth 100000 in
theorem c_X8_followers (l : Launch) (D : va_G) (cy : Nat → ClassId) (g : Nat → Nat) (B : Nat) (a : Nat → Nat) (y0 : Int32) (y1 : Int32) (y2 : Int32) (y3 : Int32) (y4 : Int32) (y5 : Int32) (y6 : Int32) (y7 : (Nat → Int32)) (y8 : (Nat → Int32)) (y9 : (Nat → Int32)) (y10 : (Nat → Int32)) (y11 : (Nat → Int32)) (y12 : (Nat → Int32)) (y13 : (Nat → Int32)) (x0 : Int32) (hm8 : ¬ 8 < (y7 0)) : Met l yX8_followers wsX8_followers ({ frames := 0, cells := 0, slots := 0, locals := 0 }) (rdP D cy g B (wModE cy a y0 y1 y2 y3 y4 y5 y6 y7 y8 y9 y10 y11 y12 y13) [.ref (a 0), .int x0]) (vp_Si (fun r => r = f_X8_followers y7 x0)) 0 0 (fun _ => False) := by
  refine Met.ofW (cc := cX8_followers) (maxL := 4) (ret := (some .int)) (by decide) rfl ?_
  intro p e s m args below meth c s₁ BB hml hv
  obtain ⟨rfl, hP, hK0⟩ := hv
  have hx := BB.exec
  have hb := BB.bytes
  have hr := BB.returns
  have hts := atoms_spec (ws := wsX8_followers) BB.pre
  have hown : s.vm.findClass RX8 = some m.cls := findClass_of_methodNamed BB.named
  have hlocks := BB.notSynchronized
  have S := my_fix hx hb hml hown hts
  have inX8 : ∀ w ∈ wsX80, w ∈ wsX8_followers := fun w h => List.mem_cons_of_mem _ (List.mem_append_right _ h)
  have hS : va_S (fun q => B ≤ q) s.heap s.heap [] := va_S.rf
  have hAB : ∀ q : Nat, (fun q => B ≤ q) q → B ≤ q := fun _ h => h
  have hl := lv_entry ([.ref (a 0), .int x0]) (n := 4) (Nat.le_of_ble_eq_true rfl)
  rw [lg_entry_eq]
  generalize (lg_sl ([.ref (a 0), .int x0]) ++ List.replicate (4 - (lg_sl ([.ref (a 0), .int x0])).length) Slot.unset).toArray = ls at hl ⊢
  have hl : lv_has ls 4 [(0, .ref (a 0)), (1, .int x0)] := hl
  refine lv_iconst (v := 0) hx hb dX8_followers_0 (by decide) ?_
  refine lv_istore_n (lv' := [(2, .int 0), (0, .ref (a 0)), (1, .int x0)]) hx hb dX8_followers_1 rfl hl (by decide) rfl (fun ls hl => ?_)
  refine lv_iconst (v := 0) hx hb dX8_followers_2 (by decide) ?_
  refine lv_istore_n (lv' := [(3, .int 0), (2, .int 0), (0, .ref (a 0)), (1, .int x0)]) hx hb dX8_followers_3 rfl hl (by decide) rfl (fun ls hl => ?_)
  have cont0 : ∀ (i2_1 : Int32) (i3_2 : Int32), lp (fun (x : Int32 × Int32) => f_X8_followers_st y7 x0 x.1 x.2) default ((((y7 0) : Int32).toInt - (0 : Int32).toInt).toNat + 1) (0, 0) = (i2_1, i3_2) → ¬ i3_2 < 0 → ∀ ls : Array Slot, lv_has ls 4 [(0, .ref (a 0)), (1, .int x0), (2, .int i2_1), (3, .int i3_2)] → W p l e (headSpec wsX8_followers ({ frames := 0, cells := 0, slots := 0, locals := 0 } : Room)).room s m ([.ref (a 0), .int x0] : List Value).toArray below meth c s.heap [] 0 0 (MQ below (vp_Si (fun r => r = f_X8_followers y7 x0)) ([.ref (a 0), .int x0] : List Value).toArray s 0 0 (fun _ => False)) (F0 m 41 ls []) := by
    intro i2_1 i3_2 hE0 hj0_0 ls hl
    refine lv_iload_n hx hb dX8_followers_41 rfl (lv_at hl 2 rfl) ?_
    exact W.iret hx hb hr (fun t ht hW => ⟨i2_1, rfl, (show f_X8_followers y7 x0 = i2_1 from by rw [f_X8_followers, hE0, my_t2_eq]).symm, ht⟩) (fun q hq => absurd hq List.not_mem_nil) dX8_followers_42
  have key : ∀ (nf : Nat) (i2_1 : Int32) (i3_2 : Int32), (((y7 0) : Int32).toInt - (i3_2 : Int32).toInt).toNat < nf → lp (fun (x : Int32 × Int32) => f_X8_followers_st y7 x0 x.1 x.2) default nf (i2_1, i3_2) = lp (fun (x : Int32 × Int32) => f_X8_followers_st y7 x0 x.1 x.2) default ((((y7 0) : Int32).toInt - (0 : Int32).toInt).toNat + 1) (0, 0) → ¬ i3_2 < 0 → ∀ ls : Array Slot, lv_has ls 4 [(0, .ref (a 0)), (1, .int x0), (2, .int i2_1), (3, .int i3_2)] → W p l e (headSpec wsX8_followers ({ frames := 0, cells := 0, slots := 0, locals := 0 } : Room)).room s m ([.ref (a 0), .int x0] : List Value).toArray below meth c s.heap [] 0 0 (MQ below (vp_Si (fun r => r = f_X8_followers y7 x0)) ([.ref (a 0), .int x0] : List Value).toArray s 0 0 (fun _ => False)) (F0 m 4 ls []) := by
    intro n0
    induction n0 with
    | zero => intro i2_1 i3_2 hlt; exact absurd hlt (Nat.not_lt_zero _)
    | succ n0 ih0 =>
      intro i2_1 i3_2 hlt0 hF0 hi0_0 ls hl
      refine lv_iload_n hx hb dX8_followers_4 rfl (lv_at hl 3 rfl) ?_
      refine lv_aload_n hx hb dX8_followers_5 rfl (lv_at hl 0 rfl) ?_
      refine va_get (D := D) (ci := 6) (v := .ref (a 1)) (C := RX8) (T := TX8) (N := 14) hx hb hts inX8 hown hK0.1 hP 0 rfl rfl 0 (by decide) (hts (.fieldLink RX8 7 "PivotChamberModel" "s" "[I") (List.mem_of_getElem? (i := 1) rfl)) (fun _ h9 => h9) rfl dX8_followers_6 ?_
      refine lv_iconst (v := 0) hx hb dX8_followers_9 (by decide) ?_
      refine va_iald hx hb hK0.1 hP 1 0 rfl rfl (vp_in_nI (n := 0) (N := 27) (by decide) (by decide)) dX8_followers_10 ?_
      refine W.eq (g2 := F0 m 11 ls [.int (y7 0), .int i3_2]) rfl ?_
      refine lv_icmp_ge (tgt := 41) hx hb dX8_followers_11 (by decide) (fun c_3 => ?_) (fun c_3 => ?_)
      · have hst : f_X8_followers_st y7 x0 i2_1 i3_2 = .inr (i2_1, i3_2) := by rw [f_X8_followers_st, if_pos c_3]
        exact cont0 i2_1 i3_2 (lp_inr hst hF0) hi0_0 _ (lv_sub hl [0, 1, 2, 3] rfl)
      · refine lv_iload_n hx hb dX8_followers_14 rfl (lv_at hl 2 rfl) ?_
        refine lv_aload_n hx hb dX8_followers_15 rfl (lv_at hl 0 rfl) ?_
        refine va_get (D := D) (ci := 6) (v := .ref (a 1)) (C := RX8) (T := TX8) (N := 14) hx hb hts inX8 hown hK0.1 hP 0 rfl rfl 0 (by decide) (hts (.fieldLink RX8 7 "PivotChamberModel" "s" "[I") (List.mem_of_getElem? (i := 1) rfl)) (fun _ h9 => h9) rfl dX8_followers_16 ?_
        refine lv_bipush (v := 11) hx hb dX8_followers_19 (by decide) ?_
        refine lv_iload_n hx hb dX8_followers_21 rfl (lv_at hl 3 rfl) ?_
        refine lv_iadd hx hb dX8_followers_22 ?_
        refine va_iald hx hb hK0.1 hP 1 0 rfl rfl (ix_loop (K := 8) (N := 27) hi0_0 c_3 hm8 (by decide)) dX8_followers_23 ?_
        refine lv_iload_n hx hb dX8_followers_24 rfl (lv_at hl 1 rfl) ?_
        refine lv_icmp_ne (tgt := 32) hx hb dX8_followers_25 (by decide) (fun c_4 => ?_) (fun c_4 => ?_)
        · refine lv_iconst (v := 0) hx hb dX8_followers_32 (by decide) ?_
          refine lv_iadd hx hb dX8_followers_33 ?_
          refine lv_istore_n (lv' := [(2, .int (i2_1 + 0)), (0, .ref (a 0)), (1, .int x0), (3, .int i3_2)]) hx hb dX8_followers_34 rfl hl (by decide) rfl (fun ls hl => ?_)
          refine lv_iinc (v := (i3_2 + 1)) (lv' := [(3, .int (i3_2 + 1)), (2, .int (i2_1 + 0)), (0, .ref (a 0)), (1, .int x0)]) hx hb dX8_followers_35 hl (k := 3) rfl rfl (by decide) rfl (fun ls hl => ?_)
          refine lv_goto (tgt := 4) hx hb dX8_followers_38 (by decide) ?_
          have hst : f_X8_followers_st y7 x0 i2_1 i3_2 = .inl ((i2_1 + 0), (i3_2 + 1)) := by rw [f_X8_followers_st, if_neg c_3, if_neg c_4]
          have hmu : (((y7 0) : Int32).toInt - ((i3_2 + 1) : Int32).toInt).toNat < (((y7 0) : Int32).toInt - (i3_2 : Int32).toInt).toNat := mu_up c_3
          exact ih0 (i2_1 + 0) (i3_2 + 1) (Nat.lt_of_lt_of_le hmu (Nat.le_of_lt_succ hlt0)) (lp_inl hst hF0) (nn_up hi0_0 c_3) _ (lv_sub hl [2, 3, 1, 0] rfl)
        · refine lv_iconst (v := 1) hx hb dX8_followers_28 (by decide) ?_
          refine lv_goto (tgt := 33) hx hb dX8_followers_29 (by decide) ?_
          refine lv_iadd hx hb dX8_followers_33 ?_
          refine lv_istore_n (lv' := [(2, .int (i2_1 + 1)), (0, .ref (a 0)), (1, .int x0), (3, .int i3_2)]) hx hb dX8_followers_34 rfl hl (by decide) rfl (fun ls hl => ?_)
          refine lv_iinc (v := (i3_2 + 1)) (lv' := [(3, .int (i3_2 + 1)), (2, .int (i2_1 + 1)), (0, .ref (a 0)), (1, .int x0)]) hx hb dX8_followers_35 hl (k := 3) rfl rfl (by decide) rfl (fun ls hl => ?_)
          refine lv_goto (tgt := 4) hx hb dX8_followers_38 (by decide) ?_
          have hst : f_X8_followers_st y7 x0 i2_1 i3_2 = .inl ((i2_1 + 1), (i3_2 + 1)) := by rw [f_X8_followers_st, if_neg c_3, if_pos c_4]
          have hmu : (((y7 0) : Int32).toInt - ((i3_2 + 1) : Int32).toInt).toNat < (((y7 0) : Int32).toInt - (i3_2 : Int32).toInt).toNat := mu_up c_3
          exact ih0 (i2_1 + 1) (i3_2 + 1) (Nat.lt_of_lt_of_le hmu (Nat.le_of_lt_succ hlt0)) (lp_inl hst hF0) (nn_up hi0_0 c_3) _ (lv_sub hl [2, 3, 1, 0] rfl)
  exact key ((((y7 0) : Int32).toInt - (0 : Int32).toInt).toNat + 1) 0 0 (Nat.lt_succ_self _) rfl (by decide) _ (lv_sub hl [2, 3, 1, 0] rfl)
theorem hd_X8_blocOf_S : yX8_blocOf.cls ≠ "java/lang/invoke/MethodHandle" ∧ yX8_blocOf.cls ≠ "java/lang/invoke/VarHandle" ∧ (parseMethodDescriptor yX8_blocOf.desc).map (fun d => d.parameters.length) = some 1 := by decide +kernel
theorem hd_X8_blocOf_V : yX8_blocOf.cls = RX8 ∧ yX8_blocOf.cls ≠ "java/lang/invoke/MethodHandle" ∧ yX8_blocOf.cls ≠ "java/lang/invoke/VarHandle" ∧ (parseMethodDescriptor yX8_blocOf.desc).map (fun d => d.parameters.length) = some 1 := ⟨rfl, hd_X8_blocOf_S⟩
def f_X8_blocOf (y7 : (Nat → Int32)) (x0 : Int32) : Int32 := (if (f_X8_isPlayer y7 x0) = 0 then 0 else (f_X8_weightOf y7 (f_X8_yes y7 (1 <<< (x0 &&& 31)))))
set_option maxHeartbeats 400000 in
set_option maxRecDepth 100000 in
theorem c_X8_blocOf (l : Launch) (D : va_G) (cy : Nat → ClassId) (g : Nat → Nat) (B : Nat) (a : Nat → Nat) (y0 : Int32) (y1 : Int32) (y2 : Int32) (y3 : Int32) (y4 : Int32) (y5 : Int32) (y6 : Int32) (y7 : (Nat → Int32)) (y8 : (Nat → Int32)) (y9 : (Nat → Int32)) (y10 : (Nat → Int32)) (y11 : (Nat → Int32)) (y12 : (Nat → Int32)) (y13 : (Nat → Int32)) (x0 : Int32) (hm8 : ¬ 8 < (y7 0)) : Met l yX8_blocOf wsX8_blocOf ({ frames := 2, cells := 0, slots := 0, locals := 45 }) (rdP D cy g B (wModE cy a y0 y1 y2 y3 y4 y5 y6 y7 y8 y9 y10 y11 y12 y13) [.ref (a 0), .int x0]) (vp_Si (fun r => r = f_X8_blocOf y7 x0)) 0 0 (fun _ => False) := by
  refine Met.ofW (cc := cX8_blocOf) (maxL := 2) (ret := (some .int)) (by decide) rfl ?_
  intro p e s m args below meth c s₁ BB hml hv
  obtain ⟨rfl, hP, hK0⟩ := hv
  have hx := BB.exec
  have hb := BB.bytes
  have hr := BB.returns
  have hts := atoms_spec (ws := wsX8_blocOf) BB.pre
  have hown : s.vm.findClass RX8 = some m.cls := findClass_of_methodNamed BB.named
  have hlocks := BB.notSynchronized
  have S := my_fix hx hb hml hown hts
  have hS : va_S (fun q => B ≤ q) s.heap s.heap [] := va_S.rf
  have hAB : ∀ q : Nat, (fun q => B ≤ q) q → B ≤ q := fun _ h => h
  have hl := lv_entry ([.ref (a 0), .int x0]) (n := 2) (Nat.le_of_ble_eq_true rfl)
  rw [lg_entry_eq]
  generalize (lg_sl ([.ref (a 0), .int x0]) ++ List.replicate (2 - (lg_sl ([.ref (a 0), .int x0])).length) Slot.unset).toArray = ls at hl ⊢
  have hl : lv_has ls 2 [(0, .ref (a 0)), (1, .int x0)] := hl
  refine lv_aload_n hx hb dX8_blocOf_0 rfl (lv_at hl 0 rfl) ?_
  refine lv_iload_n hx hb dX8_blocOf_1 rfl (lv_at hl 1 rfl) ?_
  refine rd_goi (va_runV (C := RX8) (As := [.int x0]) (rest := []) S (c_X8_isPlayer l D cy g B a y0 y1 y2 y3 y4 y5 y6 y7 y8 y9 y10 y11 y12 y13 x0 hm8) (cwV 1 hts gX8_blocOf_X8_isPlayer rfl rfl rfl hd_X8_isPlayer_V ⟨Nat.le_of_ble_eq_true rfl, Nat.le_of_ble_eq_true rfl⟩) ⟨rdP_blind, va_recv hK0.1 hP (ci := 6) (q0 := 0) rfl rfl, my_preP hK0 hS hAB hP⟩ rfl rfl hl.1 rfl (lv_room (Nat.le_of_ble_eq_true rfl)) dX8_blocOf_2 ⟨Nat.zero_le _, Nat.zero_le _⟩) ?_
  refine lv_if_eq (tgt := 22) hx hb dX8_blocOf_5 (by decide) (fun c_1 => ?_) (fun c_1 => ?_)
  · refine lv_iconst (v := 0) hx hb dX8_blocOf_22 (by decide) ?_
    exact W.iret hx hb hr (fun t ht hW => ⟨0, rfl, (show f_X8_blocOf y7 x0 = 0 from by rw [f_X8_blocOf, if_pos c_1]).symm, ht⟩) (fun q hq => absurd hq List.not_mem_nil) dX8_blocOf_23
  · refine lv_aload_n hx hb dX8_blocOf_8 rfl (lv_at hl 0 rfl) ?_
    refine lv_aload_n hx hb dX8_blocOf_9 rfl (lv_at hl 0 rfl) ?_
    refine lv_iconst (v := 1) hx hb dX8_blocOf_10 (by decide) ?_
    refine lv_iload_n hx hb dX8_blocOf_11 rfl (lv_at hl 1 rfl) ?_
    refine lv_ishl hx hb dX8_blocOf_12 ?_
    refine rd_goi (va_runV (C := RX8) (As := [.int (1 <<< (x0 &&& 31))]) (rest := [.ref (a 0)]) S (c_X8_yes l D cy g B a y0 y1 y2 y3 y4 y5 y6 y7 y8 y9 y10 y11 y12 y13 (1 <<< (x0 &&& 31)) hm8) (cwV 1 hts gX8_blocOf_X8_yes rfl rfl rfl hd_X8_yes_V ⟨Nat.le_of_ble_eq_true rfl, Nat.le_of_ble_eq_true rfl⟩) ⟨rdP_blind, va_recv hK0.1 hP (ci := 6) (q0 := 0) rfl rfl, my_preP hK0 hS hAB hP⟩ rfl rfl hl.1 rfl (lv_room (Nat.le_of_ble_eq_true rfl)) dX8_blocOf_13 ⟨Nat.zero_le _, Nat.zero_le _⟩) ?_
    refine rd_goi (va_runV (C := RX8) (As := [.int (f_X8_yes y7 (1 <<< (x0 &&& 31)))]) (rest := []) S (c_X8_weightOf l D cy g B a y0 y1 y2 y3 y4 y5 y6 y7 y8 y9 y10 y11 y12 y13 (f_X8_yes y7 (1 <<< (x0 &&& 31))) hm8) (cwV 1 hts gX8_blocOf_X8_weightOf rfl rfl rfl hd_X8_weightOf_V ⟨Nat.le_of_ble_eq_true rfl, Nat.le_of_ble_eq_true rfl⟩) ⟨rdP_blind, va_recv hK0.1 hP (ci := 6) (q0 := 0) rfl rfl, my_preP hK0 hS hAB hP⟩ rfl rfl hl.1 rfl (lv_room (Nat.le_of_ble_eq_true rfl)) dX8_blocOf_16 ⟨Nat.zero_le _, Nat.zero_le _⟩) ?_
    refine lv_goto (tgt := 23) hx hb dX8_blocOf_19 (by decide) ?_
    exact W.iret hx hb hr (fun t ht hW => ⟨(f_X8_weightOf y7 (f_X8_yes y7 (1 <<< (x0 &&& 31)))), rfl, (show f_X8_blocOf y7 x0 = (f_X8_weightOf y7 (f_X8_yes y7 (1 <<< (x0 &&& 31)))) from by rw [f_X8_blocOf, if_neg c_1]).symm, ht⟩) (fun q hq => absurd hq List.not_mem_nil) dX8_blocOf_23
theorem hd_X8_alikeRules_S : yX8_alikeRules.cls ≠ "java/lang/invoke/MethodHandle" ∧ yX8_alikeRules.cls ≠ "java/lang/invoke/VarHandle" ∧ (parseMethodDescriptor yX8_alikeRules.desc).map (fun d => d.parameters.length) = some 0 := by decide +kernel
theorem hd_X8_alikeRules_V : yX8_alikeRules.cls = RX8 ∧ yX8_alikeRules.cls ≠ "java/lang/invoke/MethodHandle" ∧ yX8_alikeRules.cls ≠ "java/lang/invoke/VarHandle" ∧ (parseMethodDescriptor yX8_alikeRules.desc).map (fun d => d.parameters.length) = some 0 := ⟨rfl, hd_X8_alikeRules_S⟩
def f_X8_alikeRules_st (y7 : (Nat → Int32)) (i1_1 : Int32) (i2_2 : Int32) : (Int32 × Int32) ⊕ (Int32 × Int32) := (if (y7 2) ≤ i2_2 then (.inr (i1_1, i2_2)) else (if (y7 (19 + i2_2).toNatClampNeg) = (y7 19) then (.inl ((i1_1 + 1), (i2_2 + 1))) else (.inl ((i1_1 + 0), (i2_2 + 1)))))
def f_X8_alikeRules (y7 : (Nat → Int32)) : Int32 := (my_t2 (lp (fun (x : Int32 × Int32) => f_X8_alikeRules_st y7 x.1 x.2) default ((((y7 2) : Int32).toInt - (0 : Int32).toInt).toNat + 1) (0, 0)) (fun (i1_1 : Int32) (i2_2 : Int32) => i1_1))
set_option maxHeartbeats 400000 in
set_option maxRecDepth 100000 in
theorem c_X8_alikeRules (l : Launch) (D : va_G) (cy : Nat → ClassId) (g : Nat → Nat) (B : Nat) (a : Nat → Nat) (y0 : Int32) (y1 : Int32) (y2 : Int32) (y3 : Int32) (y4 : Int32) (y5 : Int32) (y6 : Int32) (y7 : (Nat → Int32)) (y8 : (Nat → Int32)) (y9 : (Nat → Int32)) (y10 : (Nat → Int32)) (y11 : (Nat → Int32)) (y12 : (Nat → Int32)) (y13 : (Nat → Int32)) (hR4 : ¬ 4 < (y7 2)) : Met l yX8_alikeRules wsX8_alikeRules ({ frames := 0, cells := 0, slots := 0, locals := 0 }) (rdP D cy g B (wModE cy a y0 y1 y2 y3 y4 y5 y6 y7 y8 y9 y10 y11 y12 y13) [.ref (a 0)]) (vp_Si (fun r => r = f_X8_alikeRules y7)) 0 0 (fun _ => False) := by
  refine Met.ofW (cc := cX8_alikeRules) (maxL := 3) (ret := (some .int)) (by decide) rfl ?_
  intro p e s m args below meth c s₁ BB hml hv
  obtain ⟨rfl, hP, hK0⟩ := hv
  have hx := BB.exec
  have hb := BB.bytes
  have hr := BB.returns
  have hts := atoms_spec (ws := wsX8_alikeRules) BB.pre
  have hown : s.vm.findClass RX8 = some m.cls := findClass_of_methodNamed BB.named
  have hlocks := BB.notSynchronized
  have S := my_fix hx hb hml hown hts
  have inX8 : ∀ w ∈ wsX80, w ∈ wsX8_alikeRules := fun w h => List.mem_cons_of_mem _ (List.mem_append_right _ h)
  have hS : va_S (fun q => B ≤ q) s.heap s.heap [] := va_S.rf
  have hAB : ∀ q : Nat, (fun q => B ≤ q) q → B ≤ q := fun _ h => h
  have hl := lv_entry ([.ref (a 0)]) (n := 3) (Nat.le_of_ble_eq_true rfl)
  rw [lg_entry_eq]
  generalize (lg_sl ([.ref (a 0)]) ++ List.replicate (3 - (lg_sl ([.ref (a 0)])).length) Slot.unset).toArray = ls at hl ⊢
  have hl : lv_has ls 3 [(0, .ref (a 0))] := hl
  refine lv_iconst (v := 0) hx hb dX8_alikeRules_0 (by decide) ?_
  refine lv_istore_n (lv' := [(1, .int 0), (0, .ref (a 0))]) hx hb dX8_alikeRules_1 rfl hl (by decide) rfl (fun ls hl => ?_)
  refine lv_iconst (v := 0) hx hb dX8_alikeRules_2 (by decide) ?_
  refine lv_istore_n (lv' := [(2, .int 0), (1, .int 0), (0, .ref (a 0))]) hx hb dX8_alikeRules_3 rfl hl (by decide) rfl (fun ls hl => ?_)
  have cont0 : ∀ (i1_1 : Int32) (i2_2 : Int32), lp (fun (x : Int32 × Int32) => f_X8_alikeRules_st y7 x.1 x.2) default ((((y7 2) : Int32).toInt - (0 : Int32).toInt).toNat + 1) (0, 0) = (i1_1, i2_2) → ¬ i2_2 < 0 → ∀ ls : Array Slot, lv_has ls 3 [(0, .ref (a 0)), (1, .int i1_1), (2, .int i2_2)] → W p l e (headSpec wsX8_alikeRules ({ frames := 0, cells := 0, slots := 0, locals := 0 } : Room)).room s m ([.ref (a 0)] : List Value).toArray below meth c s.heap [] 0 0 (MQ below (vp_Si (fun r => r = f_X8_alikeRules y7)) ([.ref (a 0)] : List Value).toArray s 0 0 (fun _ => False)) (F0 m 47 ls []) := by
    intro i1_1 i2_2 hE0 hj0_0 ls hl
    refine lv_iload_n hx hb dX8_alikeRules_47 rfl (lv_at hl 1 rfl) ?_
    exact W.iret hx hb hr (fun t ht hW => ⟨i1_1, rfl, (show f_X8_alikeRules y7 = i1_1 from by rw [f_X8_alikeRules, hE0, my_t2_eq]).symm, ht⟩) (fun q hq => absurd hq List.not_mem_nil) dX8_alikeRules_48
  have key : ∀ (nf : Nat) (i1_1 : Int32) (i2_2 : Int32), (((y7 2) : Int32).toInt - (i2_2 : Int32).toInt).toNat < nf → lp (fun (x : Int32 × Int32) => f_X8_alikeRules_st y7 x.1 x.2) default nf (i1_1, i2_2) = lp (fun (x : Int32 × Int32) => f_X8_alikeRules_st y7 x.1 x.2) default ((((y7 2) : Int32).toInt - (0 : Int32).toInt).toNat + 1) (0, 0) → ¬ i2_2 < 0 → ∀ ls : Array Slot, lv_has ls 3 [(0, .ref (a 0)), (1, .int i1_1), (2, .int i2_2)] → W p l e (headSpec wsX8_alikeRules ({ frames := 0, cells := 0, slots := 0, locals := 0 } : Room)).room s m ([.ref (a 0)] : List Value).toArray below meth c s.heap [] 0 0 (MQ below (vp_Si (fun r => r = f_X8_alikeRules y7)) ([.ref (a 0)] : List Value).toArray s 0 0 (fun _ => False)) (F0 m 4 ls []) := by
    intro n0
    induction n0 with
    | zero => intro i1_1 i2_2 hlt; exact absurd hlt (Nat.not_lt_zero _)
    | succ n0 ih0 =>
      intro i1_1 i2_2 hlt0 hF0 hi0_0 ls hl
      refine lv_iload_n hx hb dX8_alikeRules_4 rfl (lv_at hl 2 rfl) ?_
      refine lv_aload_n hx hb dX8_alikeRules_5 rfl (lv_at hl 0 rfl) ?_
      refine va_get (D := D) (ci := 6) (v := .ref (a 1)) (C := RX8) (T := TX8) (N := 14) hx hb hts inX8 hown hK0.1 hP 0 rfl rfl 0 (by decide) (hts (.fieldLink RX8 7 "PivotChamberModel" "s" "[I") (List.mem_of_getElem? (i := 1) rfl)) (fun _ h9 => h9) rfl dX8_alikeRules_6 ?_
      refine lv_iconst (v := 2) hx hb dX8_alikeRules_9 (by decide) ?_
      refine va_iald hx hb hK0.1 hP 1 0 rfl rfl (vp_in_nI (n := 2) (N := 27) (by decide) (by decide)) dX8_alikeRules_10 ?_
      refine W.eq (g2 := F0 m 11 ls [.int (y7 2), .int i2_2]) rfl ?_
      refine lv_icmp_ge (tgt := 47) hx hb dX8_alikeRules_11 (by decide) (fun c_3 => ?_) (fun c_3 => ?_)
      · have hst : f_X8_alikeRules_st y7 i1_1 i2_2 = .inr (i1_1, i2_2) := by rw [f_X8_alikeRules_st, if_pos c_3]
        exact cont0 i1_1 i2_2 (lp_inr hst hF0) hi0_0 _ (lv_sub hl [0, 1, 2] rfl)
      · refine lv_iload_n hx hb dX8_alikeRules_14 rfl (lv_at hl 1 rfl) ?_
        refine lv_aload_n hx hb dX8_alikeRules_15 rfl (lv_at hl 0 rfl) ?_
        refine va_get (D := D) (ci := 6) (v := .ref (a 1)) (C := RX8) (T := TX8) (N := 14) hx hb hts inX8 hown hK0.1 hP 0 rfl rfl 0 (by decide) (hts (.fieldLink RX8 7 "PivotChamberModel" "s" "[I") (List.mem_of_getElem? (i := 1) rfl)) (fun _ h9 => h9) rfl dX8_alikeRules_16 ?_
        refine lv_bipush (v := 19) hx hb dX8_alikeRules_19 (by decide) ?_
        refine lv_iload_n hx hb dX8_alikeRules_21 rfl (lv_at hl 2 rfl) ?_
        refine lv_iadd hx hb dX8_alikeRules_22 ?_
        refine va_iald hx hb hK0.1 hP 1 0 rfl rfl (ix_loop (K := 4) (N := 27) hi0_0 c_3 hR4 (by decide)) dX8_alikeRules_23 ?_
        refine lv_aload_n hx hb dX8_alikeRules_24 rfl (lv_at hl 0 rfl) ?_
        refine va_get (D := D) (ci := 6) (v := .ref (a 1)) (C := RX8) (T := TX8) (N := 14) hx hb hts inX8 hown hK0.1 hP 0 rfl rfl 0 (by decide) (hts (.fieldLink RX8 7 "PivotChamberModel" "s" "[I") (List.mem_of_getElem? (i := 1) rfl)) (fun _ h9 => h9) rfl dX8_alikeRules_25 ?_
        refine lv_bipush (v := 19) hx hb dX8_alikeRules_28 (by decide) ?_
        refine va_iald hx hb hK0.1 hP 1 0 rfl rfl (vp_in_nI (n := 19) (N := 27) (by decide) (by decide)) dX8_alikeRules_30 ?_
        refine W.eq (g2 := F0 m 31 ls [.int (y7 19), .int (y7 (19 + i2_2).toNatClampNeg), .int i1_1]) rfl ?_
        refine lv_icmp_ne (tgt := 38) hx hb dX8_alikeRules_31 (by decide) (fun c_4 => ?_) (fun c_4 => ?_)
        · refine lv_iconst (v := 0) hx hb dX8_alikeRules_38 (by decide) ?_
          refine lv_iadd hx hb dX8_alikeRules_39 ?_
          refine lv_istore_n (lv' := [(1, .int (i1_1 + 0)), (0, .ref (a 0)), (2, .int i2_2)]) hx hb dX8_alikeRules_40 rfl hl (by decide) rfl (fun ls hl => ?_)
          refine lv_iinc (v := (i2_2 + 1)) (lv' := [(2, .int (i2_2 + 1)), (1, .int (i1_1 + 0)), (0, .ref (a 0))]) hx hb dX8_alikeRules_41 hl (k := 2) rfl rfl (by decide) rfl (fun ls hl => ?_)
          refine lv_goto (tgt := 4) hx hb dX8_alikeRules_44 (by decide) ?_
          have hst : f_X8_alikeRules_st y7 i1_1 i2_2 = .inl ((i1_1 + 0), (i2_2 + 1)) := by rw [f_X8_alikeRules_st, if_neg c_3, if_neg c_4]
          have hmu : (((y7 2) : Int32).toInt - ((i2_2 + 1) : Int32).toInt).toNat < (((y7 2) : Int32).toInt - (i2_2 : Int32).toInt).toNat := mu_up c_3
          exact ih0 (i1_1 + 0) (i2_2 + 1) (Nat.lt_of_lt_of_le hmu (Nat.le_of_lt_succ hlt0)) (lp_inl hst hF0) (nn_up hi0_0 c_3) _ (lv_sub hl [2, 1, 0] rfl)
        · refine lv_iconst (v := 1) hx hb dX8_alikeRules_34 (by decide) ?_
          refine lv_goto (tgt := 39) hx hb dX8_alikeRules_35 (by decide) ?_
          refine lv_iadd hx hb dX8_alikeRules_39 ?_
          refine lv_istore_n (lv' := [(1, .int (i1_1 + 1)), (0, .ref (a 0)), (2, .int i2_2)]) hx hb dX8_alikeRules_40 rfl hl (by decide) rfl (fun ls hl => ?_)
          refine lv_iinc (v := (i2_2 + 1)) (lv' := [(2, .int (i2_2 + 1)), (1, .int (i1_1 + 1)), (0, .ref (a 0))]) hx hb dX8_alikeRules_41 hl (k := 2) rfl rfl (by decide) rfl (fun ls hl => ?_)
          refine lv_goto (tgt := 4) hx hb dX8_alikeRules_44 (by decide) ?_
          have hst : f_X8_alikeRules_st y7 i1_1 i2_2 = .inl ((i1_1 + 1), (i2_2 + 1)) := by rw [f_X8_alikeRules_st, if_neg c_3, if_pos c_4]
          have hmu : (((y7 2) : Int32).toInt - ((i2_2 + 1) : Int32).toInt).toNat < (((y7 2) : Int32).toInt - (i2_2 : Int32).toInt).toNat := mu_up c_3
          exact ih0 (i1_1 + 1) (i2_2 + 1) (Nat.lt_of_lt_of_le hmu (Nat.le_of_lt_succ hlt0)) (lp_inl hst hF0) (nn_up hi0_0 c_3) _ (lv_sub hl [2, 1, 0] rfl)
  exact key ((((y7 2) : Int32).toInt - (0 : Int32).toInt).toNat + 1) 0 0 (Nat.lt_succ_self _) rfl (by decide) _ (lv_sub hl [2, 1, 0] rfl)
theorem hd_X8_ruleOf_S : yX8_ruleOf.cls ≠ "java/lang/invoke/MethodHandle" ∧ yX8_ruleOf.cls ≠ "java/lang/invoke/VarHandle" ∧ (parseMethodDescriptor yX8_ruleOf.desc).map (fun d => d.parameters.length) = some 2 := by decide +kernel
theorem hd_X8_ruleOf_V : yX8_ruleOf.cls = RX8 ∧ yX8_ruleOf.cls ≠ "java/lang/invoke/MethodHandle" ∧ yX8_ruleOf.cls ≠ "java/lang/invoke/VarHandle" ∧ (parseMethodDescriptor yX8_ruleOf.desc).map (fun d => d.parameters.length) = some 2 := ⟨rfl, hd_X8_ruleOf_S⟩
def f_X8_ruleOf (y7 : (Nat → Int32)) (x0 : Int32) (x1 : Int32) : Int32 := (if x1 = 0 then (y7 (19 + x0).toNatClampNeg) else (if x1 = 1 then (y7 (23 + x0).toNatClampNeg) else (if (f_X8_holds y7 x0 ((1 <<< ((y7 0) &&& 31)) - 1)) = 0 then 0 else 1)))
set_option maxHeartbeats 400000 in
set_option maxRecDepth 100000 in
theorem c_X8_ruleOf (l : Launch) (D : va_G) (cy : Nat → ClassId) (g : Nat → Nat) (B : Nat) (a : Nat → Nat) (y0 : Int32) (y1 : Int32) (y2 : Int32) (y3 : Int32) (y4 : Int32) (y5 : Int32) (y6 : Int32) (y7 : (Nat → Int32)) (y8 : (Nat → Int32)) (y9 : (Nat → Int32)) (y10 : (Nat → Int32)) (y11 : (Nat → Int32)) (y12 : (Nat → Int32)) (y13 : (Nat → Int32)) (x0 : Int32) (x1 : Int32) (hR4 : ¬ 4 < (y7 2)) (hx0 : ¬ x0 < 0) (hx1 : ¬ (y7 2) ≤ x0) : Met l yX8_ruleOf wsX8_ruleOf ({ frames := 2, cells := 0, slots := 0, locals := 45 }) (rdP D cy g B (wModE cy a y0 y1 y2 y3 y4 y5 y6 y7 y8 y9 y10 y11 y12 y13) [.ref (a 0), .int x0, .int x1]) (vp_Si (fun r => r = f_X8_ruleOf y7 x0 x1)) 0 0 (fun _ => False) := by
  refine Met.ofW (cc := cX8_ruleOf) (maxL := 3) (ret := (some .int)) (by decide) rfl ?_
  intro p e s m args below meth c s₁ BB hml hv
  obtain ⟨rfl, hP, hK0⟩ := hv
  have hx := BB.exec
  have hb := BB.bytes
  have hr := BB.returns
  have hts := atoms_spec (ws := wsX8_ruleOf) BB.pre
  have hown : s.vm.findClass RX8 = some m.cls := findClass_of_methodNamed BB.named
  have hlocks := BB.notSynchronized
  have S := my_fix hx hb hml hown hts
  have inX8 : ∀ w ∈ wsX80, w ∈ wsX8_ruleOf := fun w h => List.mem_cons_of_mem _ (List.mem_append_right _ h)
  have hS : va_S (fun q => B ≤ q) s.heap s.heap [] := va_S.rf
  have hAB : ∀ q : Nat, (fun q => B ≤ q) q → B ≤ q := fun _ h => h
  have hl := lv_entry ([.ref (a 0), .int x0, .int x1]) (n := 3) (Nat.le_of_ble_eq_true rfl)
  rw [lg_entry_eq]
  generalize (lg_sl ([.ref (a 0), .int x0, .int x1]) ++ List.replicate (3 - (lg_sl ([.ref (a 0), .int x0, .int x1])).length) Slot.unset).toArray = ls at hl ⊢
  have hl : lv_has ls 3 [(0, .ref (a 0)), (1, .int x0), (2, .int x1)] := hl
  refine lv_iload_n hx hb dX8_ruleOf_0 rfl (lv_at hl 2 rfl) ?_
  refine lv_if_ne (tgt := 16) hx hb dX8_ruleOf_1 (by decide) (fun c_1 => ?_) (fun c_1 => ?_)
  · refine lv_iload_n hx hb dX8_ruleOf_16 rfl (lv_at hl 2 rfl) ?_
    refine lv_iconst (v := 1) hx hb dX8_ruleOf_17 (by decide) ?_
    refine lv_icmp_ne (tgt := 33) hx hb dX8_ruleOf_18 (by decide) (fun c_2 => ?_) (fun c_2 => ?_)
    · refine lv_aload_n hx hb dX8_ruleOf_33 rfl (lv_at hl 0 rfl) ?_
      refine lv_iload_n hx hb dX8_ruleOf_34 rfl (lv_at hl 1 rfl) ?_
      refine lv_iconst (v := 1) hx hb dX8_ruleOf_35 (by decide) ?_
      refine lv_aload_n hx hb dX8_ruleOf_36 rfl (lv_at hl 0 rfl) ?_
      refine va_get (D := D) (ci := 6) (v := .ref (a 1)) (C := RX8) (T := TX8) (N := 14) hx hb hts inX8 hown hK0.1 hP 0 rfl rfl 0 (by decide) (hts (.fieldLink RX8 7 "PivotChamberModel" "s" "[I") (List.mem_of_getElem? (i := 1) rfl)) (fun _ h9 => h9) rfl dX8_ruleOf_37 ?_
      refine lv_iconst (v := 0) hx hb dX8_ruleOf_40 (by decide) ?_
      refine va_iald hx hb hK0.1 hP 1 0 rfl rfl (vp_in_nI (n := 0) (N := 27) (by decide) (by decide)) dX8_ruleOf_41 ?_
      refine W.eq (g2 := F0 m 42 ls [.int (y7 0), .int 1, .int x0, .ref (a 0)]) rfl ?_
      refine lv_ishl hx hb dX8_ruleOf_42 ?_
      refine lv_iconst (v := 1) hx hb dX8_ruleOf_43 (by decide) ?_
      refine lv_isub hx hb dX8_ruleOf_44 ?_
      refine rd_goi (va_runV (C := RX8) (As := [.int x0, .int ((1 <<< ((y7 0) &&& 31)) - 1)]) (rest := []) S (c_X8_holds l D cy g B a y0 y1 y2 y3 y4 y5 y6 y7 y8 y9 y10 y11 y12 y13 x0 ((1 <<< ((y7 0) &&& 31)) - 1) hR4 hx0 hx1) (cwV 2 hts gX8_ruleOf_X8_holds rfl rfl rfl hd_X8_holds_V ⟨Nat.le_of_ble_eq_true rfl, Nat.le_of_ble_eq_true rfl⟩) ⟨rdP_blind, va_recv hK0.1 hP (ci := 6) (q0 := 0) rfl rfl, my_preP hK0 hS hAB hP⟩ rfl rfl hl.1 rfl (lv_room (Nat.le_of_ble_eq_true rfl)) dX8_ruleOf_45 ⟨Nat.zero_le _, Nat.zero_le _⟩) ?_
      refine lv_if_eq (tgt := 55) hx hb dX8_ruleOf_48 (by decide) (fun c_3 => ?_) (fun c_3 => ?_)
      · refine lv_iconst (v := 0) hx hb dX8_ruleOf_55 (by decide) ?_
        exact W.iret hx hb hr (fun t ht hW => ⟨0, rfl, (show f_X8_ruleOf y7 x0 x1 = 0 from by rw [f_X8_ruleOf, if_neg c_1, if_neg c_2, if_pos c_3]).symm, ht⟩) (fun q hq => absurd hq List.not_mem_nil) dX8_ruleOf_56
      · refine lv_iconst (v := 1) hx hb dX8_ruleOf_51 (by decide) ?_
        refine lv_goto (tgt := 56) hx hb dX8_ruleOf_52 (by decide) ?_
        exact W.iret hx hb hr (fun t ht hW => ⟨1, rfl, (show f_X8_ruleOf y7 x0 x1 = 1 from by rw [f_X8_ruleOf, if_neg c_1, if_neg c_2, if_neg c_3]).symm, ht⟩) (fun q hq => absurd hq List.not_mem_nil) dX8_ruleOf_56
    · refine lv_aload_n hx hb dX8_ruleOf_21 rfl (lv_at hl 0 rfl) ?_
      refine va_get (D := D) (ci := 6) (v := .ref (a 1)) (C := RX8) (T := TX8) (N := 14) hx hb hts inX8 hown hK0.1 hP 0 rfl rfl 0 (by decide) (hts (.fieldLink RX8 7 "PivotChamberModel" "s" "[I") (List.mem_of_getElem? (i := 1) rfl)) (fun _ h9 => h9) rfl dX8_ruleOf_22 ?_
      refine lv_bipush (v := 23) hx hb dX8_ruleOf_25 (by decide) ?_
      refine lv_iload_n hx hb dX8_ruleOf_27 rfl (lv_at hl 1 rfl) ?_
      refine lv_iadd hx hb dX8_ruleOf_28 ?_
      refine va_iald hx hb hK0.1 hP 1 0 rfl rfl (ix_loop (K := 4) (N := 27) hx0 hx1 hR4 (by decide)) dX8_ruleOf_29 ?_
      refine lv_goto (tgt := 56) hx hb dX8_ruleOf_30 (by decide) ?_
      exact W.iret hx hb hr (fun t ht hW => ⟨(y7 (23 + x0).toNatClampNeg), rfl, (show f_X8_ruleOf y7 x0 x1 = (y7 (23 + x0).toNatClampNeg) from by rw [f_X8_ruleOf, if_neg c_1, if_pos c_2]).symm, ht⟩) (fun q hq => absurd hq List.not_mem_nil) dX8_ruleOf_56
  · refine lv_aload_n hx hb dX8_ruleOf_4 rfl (lv_at hl 0 rfl) ?_
    refine va_get (D := D) (ci := 6) (v := .ref (a 1)) (C := RX8) (T := TX8) (N := 14) hx hb hts inX8 hown hK0.1 hP 0 rfl rfl 0 (by decide) (hts (.fieldLink RX8 7 "PivotChamberModel" "s" "[I") (List.mem_of_getElem? (i := 1) rfl)) (fun _ h9 => h9) rfl dX8_ruleOf_5 ?_
    refine lv_bipush (v := 19) hx hb dX8_ruleOf_8 (by decide) ?_
    refine lv_iload_n hx hb dX8_ruleOf_10 rfl (lv_at hl 1 rfl) ?_
    refine lv_iadd hx hb dX8_ruleOf_11 ?_
    refine va_iald hx hb hK0.1 hP 1 0 rfl rfl (ix_loop (K := 4) (N := 27) hx0 hx1 hR4 (by decide)) dX8_ruleOf_12 ?_
    refine lv_goto (tgt := 56) hx hb dX8_ruleOf_13 (by decide) ?_
    exact W.iret hx hb hr (fun t ht hW => ⟨(y7 (19 + x0).toNatClampNeg), rfl, (show f_X8_ruleOf y7 x0 x1 = (y7 (19 + x0).toNatClampNeg) from by rw [f_X8_ruleOf, if_pos c_1]).symm, ht⟩) (fun q hq => absurd hq List.not_mem_nil) dX8_ruleOf_56
theorem ix_00 : vp_in (0 : Int32) 256 := vp_in_nI (n := 0) (N := 256) (by decide) (by decide)
theorem ply_in {s : Nat → Int32} (hm : ¬ 8 < s 0) : vp_in (f_X8_players s) 256 := by
  unfold f_X8_players
  show vp_in (lp (ρ := Int32 × Int32) _ _ _ _).1 256
  refine lp_inv (I := fun x : Int32 × Int32 => vp_in x.1 256 ∧ ¬ x.2 < 0) (Q := fun x : Int32 × Int32 => vp_in x.1 256) ix_00 ?_ _ _ ⟨ix_00, by decide⟩
  intro x ⟨h1, h2⟩
  unfold f_X8_players_st
  split
  · exact h1
  · rename_i h3
    split
    · refine ⟨?_, nn_up h2 h3⟩
      show vp_in (x.1 ||| 0) 256
      rw [Int32.or_zero]; exact h1
    · exact ⟨ix_or (K := 8) h1 h2 h3 hm (by decide), nn_up h2 h3⟩
theorem ply_0 {s : Nat → Int32} (hm : ¬ 8 < s 0) : ¬ f_X8_players s < 0 := fun h => ply_in hm (Or.inl h)
theorem ply_256 {s : Nat → Int32} (hm : ¬ 8 < s 0) : ¬ 256 ≤ f_X8_players s := fun h => by
  have h1 := (vp_in_iff.mp (ply_in hm)).2
  have h2 := Int32.le_iff_toInt_le.mp h
  have e : (256 : Int32).toInt = 256 := by decide
  omega
