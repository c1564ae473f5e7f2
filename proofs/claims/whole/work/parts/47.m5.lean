theorem hd_X8_swings_S : yX8_swings.cls ≠ "java/lang/invoke/MethodHandle" ∧ yX8_swings.cls ≠ "java/lang/invoke/VarHandle" ∧ (parseMethodDescriptor yX8_swings.desc).map (fun d => d.parameters.length) = some 1 := by decide +kernel
theorem hd_X8_swings_V : yX8_swings.cls = RX8 ∧ yX8_swings.cls ≠ "java/lang/invoke/MethodHandle" ∧ yX8_swings.cls ≠ "java/lang/invoke/VarHandle" ∧ (parseMethodDescriptor yX8_swings.desc).map (fun d => d.parameters.length) = some 1 := ⟨rfl, hd_X8_swings_S⟩
def f_X8_swings_st (y10 : (Nat → Int32)) (x0 : Int32) (i2_1 : Int32) (i3_2 : Int32) : (Int32 × Int32) ⊕ (Int32 × Int32) := (if 256 ≤ i3_2 then (.inr (i2_1, i3_2)) else (if (f_X8_has i3_2 x0) = 0 then (.inl ((i2_1 + 0), (i3_2 + 1))) else (if (y10 i3_2.toNatClampNeg) = 0 then (.inl ((i2_1 + 0), (i3_2 + 1))) else (if (y10 (i3_2 &&& ((1 <<< (x0 &&& 31)) ^^^ (-1))).toNatClampNeg) = 0 then (.inl ((i2_1 + 1), (i3_2 + 1))) else (.inl ((i2_1 + 0), (i3_2 + 1)))))))
def f_X8_swings (y10 : (Nat → Int32)) (x0 : Int32) : Int32 := (my_t2 (lp (fun (x : Int32 × Int32) => f_X8_swings_st y10 x0 x.1 x.2) default (((256 : Int32).toInt - (0 : Int32).toInt).toNat + 1) (0, 0)) (fun (i2_1 : Int32) (i3_2 : Int32) => i2_1))
set_option maxHeartbeats 400000 in
set_option maxRecDepth 100000 in
theorem c_X8_swings (l : Launch) (D : va_G) (cy : Nat → ClassId) (g : Nat → Nat) (B : Nat) (a : Nat → Nat) (y0 : Int32) (y1 : Int32) (y2 : Int32) (y3 : Int32) (y4 : Int32) (y5 : Int32) (y6 : Int32) (y7 : (Nat → Int32)) (y8 : (Nat → Int32)) (y9 : (Nat → Int32)) (y10 : (Nat → Int32)) (y11 : (Nat → Int32)) (y12 : (Nat → Int32)) (y13 : (Nat → Int32)) (x0 : Int32) : Met l yX8_swings wsX8_swings ({ frames := 1, cells := 0, slots := 0, locals := 21 }) (rdP D cy g B (wModE cy a y0 y1 y2 y3 y4 y5 y6 y7 y8 y9 y10 y11 y12 y13) [.ref (a 0), .int x0]) (vp_Si (fun r => r = f_X8_swings y10 x0)) 0 0 (fun _ => False) := by
  refine Met.ofW (cc := cX8_swings) (maxL := 4) (ret := (some .int)) (by decide) rfl ?_
  intro p e s m args below meth c s₁ BB hml hv
  obtain ⟨rfl, hP, hK0⟩ := hv
  have hx := BB.exec
  have hb := BB.bytes
  have hr := BB.returns
  have hts := atoms_spec (ws := wsX8_swings) BB.pre
  have hown : s.vm.findClass RX8 = some m.cls := findClass_of_methodNamed BB.named
  have hlocks := BB.notSynchronized
  have S := my_fix hx hb hml hown hts
  have inX8 : ∀ w ∈ wsX80, w ∈ wsX8_swings := fun w h => List.mem_cons_of_mem _ (List.mem_append_right _ h)
  have hS : va_S (fun q => B ≤ q) s.heap s.heap [] := va_S.rf
  have hAB : ∀ q : Nat, (fun q => B ≤ q) q → B ≤ q := fun _ h => h
  have hl := lv_entry ([.ref (a 0), .int x0]) (n := 4) (Nat.le_of_ble_eq_true rfl)
  rw [lg_entry_eq]
  generalize (lg_sl ([.ref (a 0), .int x0]) ++ List.replicate (4 - (lg_sl ([.ref (a 0), .int x0])).length) Slot.unset).toArray = ls at hl ⊢
  have hl : lv_has ls 4 [(0, .ref (a 0)), (1, .int x0)] := hl
  refine lv_iconst (v := 0) hx hb dX8_swings_0 (by decide) ?_
  refine lv_istore_n (lv' := [(2, .int 0), (0, .ref (a 0)), (1, .int x0)]) hx hb dX8_swings_1 rfl hl (by decide) rfl (fun ls hl => ?_)
  refine lv_iconst (v := 0) hx hb dX8_swings_2 (by decide) ?_
  refine lv_istore_n (lv' := [(3, .int 0), (2, .int 0), (0, .ref (a 0)), (1, .int x0)]) hx hb dX8_swings_3 rfl hl (by decide) rfl (fun ls hl => ?_)
  have cont0 : ∀ (i2_1 : Int32) (i3_2 : Int32), lp (fun (x : Int32 × Int32) => f_X8_swings_st y10 x0 x.1 x.2) default (((256 : Int32).toInt - (0 : Int32).toInt).toNat + 1) (0, 0) = (i2_1, i3_2) → ¬ i3_2 < 0 → ∀ ls : Array Slot, lv_has ls 4 [(0, .ref (a 0)), (1, .int x0), (2, .int i2_1), (3, .int i3_2)] → W p l e (headSpec wsX8_swings ({ frames := 1, cells := 0, slots := 0, locals := 21 } : Room)).room s m ([.ref (a 0), .int x0] : List Value).toArray below meth c s.heap [] 0 0 (MQ below (vp_Si (fun r => r = f_X8_swings y10 x0)) ([.ref (a 0), .int x0] : List Value).toArray s 0 0 (fun _ => False)) (F0 m 57 ls []) := by
    intro i2_1 i3_2 hE0 hj0_0 ls hl
    refine lv_iload_n hx hb dX8_swings_57 rfl (lv_at hl 2 rfl) ?_
    exact W.iret hx hb hr (fun t ht hW => ⟨i2_1, rfl, (show f_X8_swings y10 x0 = i2_1 from by rw [f_X8_swings, hE0, my_t2_eq]).symm, ht⟩) (fun q hq => absurd hq List.not_mem_nil) dX8_swings_58
  have key : ∀ (nf : Nat) (i2_1 : Int32) (i3_2 : Int32), ((256 : Int32).toInt - (i3_2 : Int32).toInt).toNat < nf → lp (fun (x : Int32 × Int32) => f_X8_swings_st y10 x0 x.1 x.2) default nf (i2_1, i3_2) = lp (fun (x : Int32 × Int32) => f_X8_swings_st y10 x0 x.1 x.2) default (((256 : Int32).toInt - (0 : Int32).toInt).toNat + 1) (0, 0) → ¬ i3_2 < 0 → ∀ ls : Array Slot, lv_has ls 4 [(0, .ref (a 0)), (1, .int x0), (2, .int i2_1), (3, .int i3_2)] → W p l e (headSpec wsX8_swings ({ frames := 1, cells := 0, slots := 0, locals := 21 } : Room)).room s m ([.ref (a 0), .int x0] : List Value).toArray below meth c s.heap [] 0 0 (MQ below (vp_Si (fun r => r = f_X8_swings y10 x0)) ([.ref (a 0), .int x0] : List Value).toArray s 0 0 (fun _ => False)) (F0 m 4 ls []) := by
    intro n0
    induction n0 with
    | zero => intro i2_1 i3_2 hlt; exact absurd hlt (Nat.not_lt_zero _)
    | succ n0 ih0 =>
      intro i2_1 i3_2 hlt0 hF0 hi0_0 ls hl
      refine lv_iload_n hx hb dX8_swings_4 rfl (lv_at hl 3 rfl) ?_
      refine lv_sipush (v := 256) hx hb dX8_swings_5 (by decide) ?_
      refine lv_icmp_ge (tgt := 57) hx hb dX8_swings_8 (by decide) (fun c_3 => ?_) (fun c_3 => ?_)
      · have hst : f_X8_swings_st y10 x0 i2_1 i3_2 = .inr (i2_1, i3_2) := by rw [f_X8_swings_st, if_pos c_3]
        exact cont0 i2_1 i3_2 (lp_inr hst hF0) hi0_0 _ (lv_sub hl [0, 1, 2, 3] rfl)
      · refine lv_iload_n hx hb dX8_swings_11 rfl (lv_at hl 2 rfl) ?_
        refine lv_iload_n hx hb dX8_swings_12 rfl (lv_at hl 3 rfl) ?_
        refine lv_iload_n hx hb dX8_swings_13 rfl (lv_at hl 1 rfl) ?_
        refine rd_goi (va_runS (As := [.int i3_2, .int x0]) (rest := [.int i2_1]) S (c_X8_has l D cy g B i3_2 x0) (va_cwS 2 hts gX8_swings_X8_has rfl rfl rfl hd_X8_has_S ⟨Nat.le_of_ble_eq_true rfl, Nat.le_of_ble_eq_true rfl⟩) ⟨rdP_blind, my_preV hK0 hS hAB hP [] rfl⟩ rfl rfl hl.1 rfl (lv_room (Nat.le_of_ble_eq_true rfl)) dX8_swings_14 ⟨Nat.zero_le _, Nat.zero_le _⟩) ?_
        refine lv_if_eq (tgt := 48) hx hb dX8_swings_17 (by decide) (fun c_4 => ?_) (fun c_4 => ?_)
        · refine lv_iconst (v := 0) hx hb dX8_swings_48 (by decide) ?_
          refine lv_iadd hx hb dX8_swings_49 ?_
          refine lv_istore_n (lv' := [(2, .int (i2_1 + 0)), (0, .ref (a 0)), (1, .int x0), (3, .int i3_2)]) hx hb dX8_swings_50 rfl hl (by decide) rfl (fun ls hl => ?_)
          refine lv_iinc (v := (i3_2 + 1)) (lv' := [(3, .int (i3_2 + 1)), (2, .int (i2_1 + 0)), (0, .ref (a 0)), (1, .int x0)]) hx hb dX8_swings_51 hl (k := 3) rfl rfl (by decide) rfl (fun ls hl => ?_)
          refine lv_goto (tgt := 4) hx hb dX8_swings_54 (by decide) ?_
          have hst : f_X8_swings_st y10 x0 i2_1 i3_2 = .inl ((i2_1 + 0), (i3_2 + 1)) := by rw [f_X8_swings_st, if_neg c_3, if_pos c_4]
          have hmu : ((256 : Int32).toInt - ((i3_2 + 1) : Int32).toInt).toNat < ((256 : Int32).toInt - (i3_2 : Int32).toInt).toNat := mu_up c_3
          exact ih0 (i2_1 + 0) (i3_2 + 1) (Nat.lt_of_lt_of_le hmu (Nat.le_of_lt_succ hlt0)) (lp_inl hst hF0) (nn_up hi0_0 c_3) _ (lv_sub hl [2, 3, 1, 0] rfl)
        · refine lv_aload_n hx hb dX8_swings_20 rfl (lv_at hl 0 rfl) ?_
          refine va_get (D := D) (ci := 6) (v := .ref (a 4)) (C := RX8) (T := TX8) (N := 14) hx hb hts inX8 hown hK0.1 hP 0 rfl rfl 7 (by decide) (hts (.fieldLink RX8 19 "PivotChamberModel" "win" "[Z") (List.mem_of_getElem? (i := 1) rfl)) (fun _ h9 => h9) rfl dX8_swings_21 ?_
          refine lv_iload_n hx hb dX8_swings_24 rfl (lv_at hl 3 rfl) ?_
          refine va_zald hx hb hK0.1 hP 4 1 rfl rfl (ix_self (K := 256) (N := 256) hi0_0 c_3 (by decide) (by decide)) dX8_swings_25 ?_
          refine lv_if_eq (tgt := 48) hx hb dX8_swings_26 (by decide) (fun c_5 => ?_) (fun c_5 => ?_)
          · refine lv_iconst (v := 0) hx hb dX8_swings_48 (by decide) ?_
            refine lv_iadd hx hb dX8_swings_49 ?_
            refine lv_istore_n (lv' := [(2, .int (i2_1 + 0)), (0, .ref (a 0)), (1, .int x0), (3, .int i3_2)]) hx hb dX8_swings_50 rfl hl (by decide) rfl (fun ls hl => ?_)
            refine lv_iinc (v := (i3_2 + 1)) (lv' := [(3, .int (i3_2 + 1)), (2, .int (i2_1 + 0)), (0, .ref (a 0)), (1, .int x0)]) hx hb dX8_swings_51 hl (k := 3) rfl rfl (by decide) rfl (fun ls hl => ?_)
            refine lv_goto (tgt := 4) hx hb dX8_swings_54 (by decide) ?_
            have hst : f_X8_swings_st y10 x0 i2_1 i3_2 = .inl ((i2_1 + 0), (i3_2 + 1)) := by rw [f_X8_swings_st, if_neg c_3, if_neg c_4, if_pos c_5]
            have hmu : ((256 : Int32).toInt - ((i3_2 + 1) : Int32).toInt).toNat < ((256 : Int32).toInt - (i3_2 : Int32).toInt).toNat := mu_up c_3
            exact ih0 (i2_1 + 0) (i3_2 + 1) (Nat.lt_of_lt_of_le hmu (Nat.le_of_lt_succ hlt0)) (lp_inl hst hF0) (nn_up hi0_0 c_3) _ (lv_sub hl [2, 3, 1, 0] rfl)
          · refine lv_aload_n hx hb dX8_swings_29 rfl (lv_at hl 0 rfl) ?_
            refine va_get (D := D) (ci := 6) (v := .ref (a 4)) (C := RX8) (T := TX8) (N := 14) hx hb hts inX8 hown hK0.1 hP 0 rfl rfl 7 (by decide) (hts (.fieldLink RX8 19 "PivotChamberModel" "win" "[Z") (List.mem_of_getElem? (i := 1) rfl)) (fun _ h9 => h9) rfl dX8_swings_30 ?_
            refine lv_iload_n hx hb dX8_swings_33 rfl (lv_at hl 3 rfl) ?_
            refine lv_iconst (v := 1) hx hb dX8_swings_34 (by decide) ?_
            refine lv_iload_n hx hb dX8_swings_35 rfl (lv_at hl 1 rfl) ?_
            refine lv_ishl hx hb dX8_swings_36 ?_
            refine lv_iconst (v := (-1)) hx hb dX8_swings_37 (by decide) ?_
            refine lv_ixor hx hb dX8_swings_38 ?_
            refine lv_iand hx hb dX8_swings_39 ?_
            refine va_zald hx hb hK0.1 hP 4 1 rfl rfl (ix_and (ix_self (K := 256) (N := 256) hi0_0 c_3 (by decide) (by decide))) dX8_swings_40 ?_
            refine lv_if_ne (tgt := 48) hx hb dX8_swings_41 (by decide) (fun c_6 => ?_) (fun c_6 => ?_)
            · refine lv_iconst (v := 0) hx hb dX8_swings_48 (by decide) ?_
              refine lv_iadd hx hb dX8_swings_49 ?_
              refine lv_istore_n (lv' := [(2, .int (i2_1 + 0)), (0, .ref (a 0)), (1, .int x0), (3, .int i3_2)]) hx hb dX8_swings_50 rfl hl (by decide) rfl (fun ls hl => ?_)
              refine lv_iinc (v := (i3_2 + 1)) (lv' := [(3, .int (i3_2 + 1)), (2, .int (i2_1 + 0)), (0, .ref (a 0)), (1, .int x0)]) hx hb dX8_swings_51 hl (k := 3) rfl rfl (by decide) rfl (fun ls hl => ?_)
              refine lv_goto (tgt := 4) hx hb dX8_swings_54 (by decide) ?_
              have hst : f_X8_swings_st y10 x0 i2_1 i3_2 = .inl ((i2_1 + 0), (i3_2 + 1)) := by rw [f_X8_swings_st, if_neg c_3, if_neg c_4, if_neg c_5, if_neg c_6]
              have hmu : ((256 : Int32).toInt - ((i3_2 + 1) : Int32).toInt).toNat < ((256 : Int32).toInt - (i3_2 : Int32).toInt).toNat := mu_up c_3
              exact ih0 (i2_1 + 0) (i3_2 + 1) (Nat.lt_of_lt_of_le hmu (Nat.le_of_lt_succ hlt0)) (lp_inl hst hF0) (nn_up hi0_0 c_3) _ (lv_sub hl [2, 3, 1, 0] rfl)
            · refine lv_iconst (v := 1) hx hb dX8_swings_44 (by decide) ?_
              refine lv_goto (tgt := 49) hx hb dX8_swings_45 (by decide) ?_
              refine lv_iadd hx hb dX8_swings_49 ?_
              refine lv_istore_n (lv' := [(2, .int (i2_1 + 1)), (0, .ref (a 0)), (1, .int x0), (3, .int i3_2)]) hx hb dX8_swings_50 rfl hl (by decide) rfl (fun ls hl => ?_)
              refine lv_iinc (v := (i3_2 + 1)) (lv' := [(3, .int (i3_2 + 1)), (2, .int (i2_1 + 1)), (0, .ref (a 0)), (1, .int x0)]) hx hb dX8_swings_51 hl (k := 3) rfl rfl (by decide) rfl (fun ls hl => ?_)
              refine lv_goto (tgt := 4) hx hb dX8_swings_54 (by decide) ?_
              have hst : f_X8_swings_st y10 x0 i2_1 i3_2 = .inl ((i2_1 + 1), (i3_2 + 1)) := by rw [f_X8_swings_st, if_neg c_3, if_neg c_4, if_neg c_5, if_pos c_6]
              have hmu : ((256 : Int32).toInt - ((i3_2 + 1) : Int32).toInt).toNat < ((256 : Int32).toInt - (i3_2 : Int32).toInt).toNat := mu_up c_3
              exact ih0 (i2_1 + 1) (i3_2 + 1) (Nat.lt_of_lt_of_le hmu (Nat.le_of_lt_succ hlt0)) (lp_inl hst hF0) (nn_up hi0_0 c_3) _ (lv_sub hl [2, 3, 1, 0] rfl)
  exact key (((256 : Int32).toInt - (0 : Int32).toInt).toNat + 1) 0 0 (Nat.lt_succ_self _) rfl (by decide) _ (lv_sub hl [2, 3, 1, 0] rfl)
theorem hd_X8_allSwings_S : yX8_allSwings.cls ≠ "java/lang/invoke/MethodHandle" ∧ yX8_allSwings.cls ≠ "java/lang/invoke/VarHandle" ∧ (parseMethodDescriptor yX8_allSwings.desc).map (fun d => d.parameters.length) = some 0 := by decide +kernel
theorem hd_X8_allSwings_V : yX8_allSwings.cls = RX8 ∧ yX8_allSwings.cls ≠ "java/lang/invoke/MethodHandle" ∧ yX8_allSwings.cls ≠ "java/lang/invoke/VarHandle" ∧ (parseMethodDescriptor yX8_allSwings.desc).map (fun d => d.parameters.length) = some 0 := ⟨rfl, hd_X8_allSwings_S⟩
def f_X8_allSwings_st (y10 : (Nat → Int32)) (i1_1 : Int32) (i2_2 : Int32) : (Int32 × Int32) ⊕ (Int32 × Int32) := (if 8 ≤ i2_2 then (.inr (i1_1, i2_2)) else (.inl ((i1_1 + (f_X8_swings y10 i2_2)), (i2_2 + 1))))
def f_X8_allSwings (y10 : (Nat → Int32)) : Int32 := (my_t2 (lp (fun (x : Int32 × Int32) => f_X8_allSwings_st y10 x.1 x.2) default (((8 : Int32).toInt - (0 : Int32).toInt).toNat + 1) (0, 0)) (fun (i1_1 : Int32) (i2_2 : Int32) => i1_1))
set_option maxHeartbeats 400000 in
set_option maxRecDepth 100000 in
theorem c_X8_allSwings (l : Launch) (D : va_G) (cy : Nat → ClassId) (g : Nat → Nat) (B : Nat) (a : Nat → Nat) (y0 : Int32) (y1 : Int32) (y2 : Int32) (y3 : Int32) (y4 : Int32) (y5 : Int32) (y6 : Int32) (y7 : (Nat → Int32)) (y8 : (Nat → Int32)) (y9 : (Nat → Int32)) (y10 : (Nat → Int32)) (y11 : (Nat → Int32)) (y12 : (Nat → Int32)) (y13 : (Nat → Int32)) : Met l yX8_allSwings wsX8_allSwings ({ frames := 2, cells := 0, slots := 0, locals := 44 }) (rdP D cy g B (wModE cy a y0 y1 y2 y3 y4 y5 y6 y7 y8 y9 y10 y11 y12 y13) [.ref (a 0)]) (vp_Si (fun r => r = f_X8_allSwings y10)) 0 0 (fun _ => False) := by
  refine Met.ofW (cc := cX8_allSwings) (maxL := 3) (ret := (some .int)) (by decide) rfl ?_
  intro p e s m args below meth c s₁ BB hml hv
  obtain ⟨rfl, hP, hK0⟩ := hv
  have hx := BB.exec
  have hb := BB.bytes
  have hr := BB.returns
  have hts := atoms_spec (ws := wsX8_allSwings) BB.pre
  have hown : s.vm.findClass RX8 = some m.cls := findClass_of_methodNamed BB.named
  have hlocks := BB.notSynchronized
  have S := my_fix hx hb hml hown hts
  have hS : va_S (fun q => B ≤ q) s.heap s.heap [] := va_S.rf
  have hAB : ∀ q : Nat, (fun q => B ≤ q) q → B ≤ q := fun _ h => h
  have hl := lv_entry ([.ref (a 0)]) (n := 3) (Nat.le_of_ble_eq_true rfl)
  rw [lg_entry_eq]
  generalize (lg_sl ([.ref (a 0)]) ++ List.replicate (3 - (lg_sl ([.ref (a 0)])).length) Slot.unset).toArray = ls at hl ⊢
  have hl : lv_has ls 3 [(0, .ref (a 0))] := hl
  refine lv_iconst (v := 0) hx hb dX8_allSwings_0 (by decide) ?_
  refine lv_istore_n (lv' := [(1, .int 0), (0, .ref (a 0))]) hx hb dX8_allSwings_1 rfl hl (by decide) rfl (fun ls hl => ?_)
  refine lv_iconst (v := 0) hx hb dX8_allSwings_2 (by decide) ?_
  refine lv_istore_n (lv' := [(2, .int 0), (1, .int 0), (0, .ref (a 0))]) hx hb dX8_allSwings_3 rfl hl (by decide) rfl (fun ls hl => ?_)
  have cont0 : ∀ (i1_1 : Int32) (i2_2 : Int32), lp (fun (x : Int32 × Int32) => f_X8_allSwings_st y10 x.1 x.2) default (((8 : Int32).toInt - (0 : Int32).toInt).toNat + 1) (0, 0) = (i1_1, i2_2) → ¬ i2_2 < 0 → ∀ ls : Array Slot, lv_has ls 3 [(0, .ref (a 0)), (1, .int i1_1), (2, .int i2_2)] → W p l e (headSpec wsX8_allSwings ({ frames := 2, cells := 0, slots := 0, locals := 44 } : Room)).room s m ([.ref (a 0)] : List Value).toArray below meth c s.heap [] 0 0 (MQ below (vp_Si (fun r => r = f_X8_allSwings y10)) ([.ref (a 0)] : List Value).toArray s 0 0 (fun _ => False)) (F0 m 24 ls []) := by
    intro i1_1 i2_2 hE0 hj0_0 ls hl
    refine lv_iload_n hx hb dX8_allSwings_24 rfl (lv_at hl 1 rfl) ?_
    exact W.iret hx hb hr (fun t ht hW => ⟨i1_1, rfl, (show f_X8_allSwings y10 = i1_1 from by rw [f_X8_allSwings, hE0, my_t2_eq]).symm, ht⟩) (fun q hq => absurd hq List.not_mem_nil) dX8_allSwings_25
  have key : ∀ (nf : Nat) (i1_1 : Int32) (i2_2 : Int32), ((8 : Int32).toInt - (i2_2 : Int32).toInt).toNat < nf → lp (fun (x : Int32 × Int32) => f_X8_allSwings_st y10 x.1 x.2) default nf (i1_1, i2_2) = lp (fun (x : Int32 × Int32) => f_X8_allSwings_st y10 x.1 x.2) default (((8 : Int32).toInt - (0 : Int32).toInt).toNat + 1) (0, 0) → ¬ i2_2 < 0 → ∀ ls : Array Slot, lv_has ls 3 [(0, .ref (a 0)), (1, .int i1_1), (2, .int i2_2)] → W p l e (headSpec wsX8_allSwings ({ frames := 2, cells := 0, slots := 0, locals := 44 } : Room)).room s m ([.ref (a 0)] : List Value).toArray below meth c s.heap [] 0 0 (MQ below (vp_Si (fun r => r = f_X8_allSwings y10)) ([.ref (a 0)] : List Value).toArray s 0 0 (fun _ => False)) (F0 m 4 ls []) := by
    intro n0
    induction n0 with
    | zero => intro i1_1 i2_2 hlt; exact absurd hlt (Nat.not_lt_zero _)
    | succ n0 ih0 =>
      intro i1_1 i2_2 hlt0 hF0 hi0_0 ls hl
      refine lv_iload_n hx hb dX8_allSwings_4 rfl (lv_at hl 2 rfl) ?_
      refine lv_bipush (v := 8) hx hb dX8_allSwings_5 (by decide) ?_
      refine lv_icmp_ge (tgt := 24) hx hb dX8_allSwings_7 (by decide) (fun c_3 => ?_) (fun c_3 => ?_)
      · have hst : f_X8_allSwings_st y10 i1_1 i2_2 = .inr (i1_1, i2_2) := by rw [f_X8_allSwings_st, if_pos c_3]
        exact cont0 i1_1 i2_2 (lp_inr hst hF0) hi0_0 _ (lv_sub hl [0, 1, 2] rfl)
      · refine lv_iload_n hx hb dX8_allSwings_10 rfl (lv_at hl 1 rfl) ?_
        refine lv_aload_n hx hb dX8_allSwings_11 rfl (lv_at hl 0 rfl) ?_
        refine lv_iload_n hx hb dX8_allSwings_12 rfl (lv_at hl 2 rfl) ?_
        refine rd_goi (va_runV (C := RX8) (As := [.int i2_2]) (rest := [.int i1_1]) S (c_X8_swings l D cy g B a y0 y1 y2 y3 y4 y5 y6 y7 y8 y9 y10 y11 y12 y13 i2_2) (cwV 1 hts gX8_allSwings_X8_swings rfl rfl rfl hd_X8_swings_V ⟨Nat.le_of_ble_eq_true rfl, Nat.le_of_ble_eq_true rfl⟩) ⟨rdP_blind, va_recv hK0.1 hP (ci := 6) (q0 := 0) rfl rfl, my_preP hK0 hS hAB hP⟩ rfl rfl hl.1 rfl (lv_room (Nat.le_of_ble_eq_true rfl)) dX8_allSwings_13 ⟨Nat.zero_le _, Nat.zero_le _⟩) ?_
        refine lv_iadd hx hb dX8_allSwings_16 ?_
        refine lv_istore_n (lv' := [(1, .int (i1_1 + (f_X8_swings y10 i2_2))), (0, .ref (a 0)), (2, .int i2_2)]) hx hb dX8_allSwings_17 rfl hl (by decide) rfl (fun ls hl => ?_)
        refine lv_iinc (v := (i2_2 + 1)) (lv' := [(2, .int (i2_2 + 1)), (1, .int (i1_1 + (f_X8_swings y10 i2_2))), (0, .ref (a 0))]) hx hb dX8_allSwings_18 hl (k := 2) rfl rfl (by decide) rfl (fun ls hl => ?_)
        refine lv_goto (tgt := 4) hx hb dX8_allSwings_21 (by decide) ?_
        have hst : f_X8_allSwings_st y10 i1_1 i2_2 = .inl ((i1_1 + (f_X8_swings y10 i2_2)), (i2_2 + 1)) := by rw [f_X8_allSwings_st, if_neg c_3]
        have hmu : ((8 : Int32).toInt - ((i2_2 + 1) : Int32).toInt).toNat < ((8 : Int32).toInt - (i2_2 : Int32).toInt).toNat := mu_up c_3
        exact ih0 (i1_1 + (f_X8_swings y10 i2_2)) (i2_2 + 1) (Nat.lt_of_lt_of_le hmu (Nat.le_of_lt_succ hlt0)) (lp_inl hst hF0) (nn_up hi0_0 c_3) _ (lv_sub hl [2, 1, 0] rfl)
  exact key (((8 : Int32).toInt - (0 : Int32).toInt).toNat + 1) 0 0 (Nat.lt_succ_self _) rfl (by decide) _ (lv_sub hl [2, 1, 0] rfl)
theorem hd_X8_orders_S : yX8_orders.cls ≠ "java/lang/invoke/MethodHandle" ∧ yX8_orders.cls ≠ "java/lang/invoke/VarHandle" ∧ (parseMethodDescriptor yX8_orders.desc).map (fun d => d.parameters.length) = some 1 := by decide +kernel
theorem hd_X8_orders_V : yX8_orders.cls = RX8 ∧ yX8_orders.cls ≠ "java/lang/invoke/MethodHandle" ∧ yX8_orders.cls ≠ "java/lang/invoke/VarHandle" ∧ (parseMethodDescriptor yX8_orders.desc).map (fun d => d.parameters.length) = some 1 := ⟨rfl, hd_X8_orders_S⟩
def f_X8_orders_st (y4 : Int32) (y10 : (Nat → Int32)) (x0 : Int32) (i2_1 : Int32) (i4_2 : Int32) : (Int32 × Int32) ⊕ (Int32 × Int32) := (if 256 ≤ i4_2 then (.inr (i2_1, i4_2)) else (if (f_X8_has i4_2 x0) = 0 then (.inl ((i2_1 + 0), (i4_2 + 1))) else (if (y10 i4_2.toNatClampNeg) = 0 then (.inl ((i2_1 + 0), (i4_2 + 1))) else (if (y10 (i4_2 &&& ((1 <<< (x0 &&& 31)) ^^^ (-1))).toNatClampNeg) = 0 then (.inl ((i2_1 + ((f_X8_factorial ((f_X8_ones i4_2) - 1)) * (f_X8_factorial ((f_X8_ones y4) - (f_X8_ones i4_2))))), (i4_2 + 1))) else (.inl ((i2_1 + 0), (i4_2 + 1)))))))
def f_X8_orders (y4 : Int32) (y10 : (Nat → Int32)) (x0 : Int32) : Int32 := (my_t2 (lp (fun (x : Int32 × Int32) => f_X8_orders_st y4 y10 x0 x.1 x.2) default (((256 : Int32).toInt - (0 : Int32).toInt).toNat + 1) (0, 0)) (fun (i2_1 : Int32) (i4_2 : Int32) => i2_1))
set_option maxHeartbeats 400000 in
set_option maxRecDepth 100000 in
theorem c_X8_orders (l : Launch) (D : va_G) (cy : Nat → ClassId) (g : Nat → Nat) (B : Nat) (a : Nat → Nat) (y0 : Int32) (y1 : Int32) (y2 : Int32) (y3 : Int32) (y4 : Int32) (y5 : Int32) (y6 : Int32) (y7 : (Nat → Int32)) (y8 : (Nat → Int32)) (y9 : (Nat → Int32)) (y10 : (Nat → Int32)) (y11 : (Nat → Int32)) (y12 : (Nat → Int32)) (y13 : (Nat → Int32)) (x0 : Int32) : Met l yX8_orders wsX8_orders ({ frames := 1, cells := 0, slots := 0, locals := 22 }) (rdP D cy g B (wModE cy a y0 y1 y2 y3 y4 y5 y6 y7 y8 y9 y10 y11 y12 y13) [.ref (a 0), .int x0]) (vp_Si (fun r => r = f_X8_orders y4 y10 x0)) 0 0 (fun _ => False) := by
  refine Met.ofW (cc := cX8_orders) (maxL := 6) (ret := (some .int)) (by decide) rfl ?_
  intro p e s m args below meth c s₁ BB hml hv
  obtain ⟨rfl, hP, hK0⟩ := hv
  have hx := BB.exec
  have hb := BB.bytes
  have hr := BB.returns
  have hts := atoms_spec (ws := wsX8_orders) BB.pre
  have hown : s.vm.findClass RX8 = some m.cls := findClass_of_methodNamed BB.named
  have hlocks := BB.notSynchronized
  have S := my_fix hx hb hml hown hts
  have inX8 : ∀ w ∈ wsX80, w ∈ wsX8_orders := fun w h => List.mem_cons_of_mem _ (List.mem_append_right _ h)
  have hS : va_S (fun q => B ≤ q) s.heap s.heap [] := va_S.rf
  have hAB : ∀ q : Nat, (fun q => B ≤ q) q → B ≤ q := fun _ h => h
  have hl := lv_entry ([.ref (a 0), .int x0]) (n := 6) (Nat.le_of_ble_eq_true rfl)
  rw [lg_entry_eq]
  generalize (lg_sl ([.ref (a 0), .int x0]) ++ List.replicate (6 - (lg_sl ([.ref (a 0), .int x0])).length) Slot.unset).toArray = ls at hl ⊢
  have hl : lv_has ls 6 [(0, .ref (a 0)), (1, .int x0)] := hl
  refine lv_iconst (v := 0) hx hb dX8_orders_0 (by decide) ?_
  refine lv_istore_n (lv' := [(2, .int 0), (0, .ref (a 0)), (1, .int x0)]) hx hb dX8_orders_1 rfl hl (by decide) rfl (fun ls hl => ?_)
  refine lv_aload_n hx hb dX8_orders_2 rfl (lv_at hl 1 rfl) ?_
  refine va_get (D := D) (ci := 6) (v := .int y4) (C := RX8) (T := TX8) (N := 14) hx hb hts inX8 hown hK0.1 hP 0 rfl rfl 8 (by decide) (hts (.fieldLink RX8 71 "PivotChamberModel" "all" "I") (List.mem_of_getElem? (i := 1) rfl)) (fun _ h9 => h9) rfl dX8_orders_3 ?_
  refine rd_goi (va_runS (As := [.int y4]) (rest := []) S (c_X8_ones l D cy g B y4) (va_cwS 1 hts gX8_orders_X8_ones rfl rfl rfl hd_X8_ones_S ⟨Nat.le_of_ble_eq_true rfl, Nat.le_of_ble_eq_true rfl⟩) ⟨rdP_blind, my_preV hK0 hS hAB hP [] rfl⟩ rfl rfl hl.1 rfl (lv_room (Nat.le_of_ble_eq_true rfl)) dX8_orders_6 ⟨Nat.zero_le _, Nat.zero_le _⟩) ?_
  refine lv_istore_n (lv' := [(3, .int (f_X8_ones y4)), (2, .int 0), (0, .ref (a 0)), (1, .int x0)]) hx hb dX8_orders_9 rfl hl (by decide) rfl (fun ls hl => ?_)
  refine lv_iconst (v := 0) hx hb dX8_orders_10 (by decide) ?_
  refine lv_istore (lv' := [(4, .int 0), (3, .int (f_X8_ones y4)), (2, .int 0), (0, .ref (a 0)), (1, .int x0)]) hx hb dX8_orders_11 hl (by decide) rfl (fun ls hl => ?_)
  have cont0 : ∀ (i2_1 : Int32) (i4_2 : Int32), lp (fun (x : Int32 × Int32) => f_X8_orders_st y4 y10 x0 x.1 x.2) default (((256 : Int32).toInt - (0 : Int32).toInt).toNat + 1) (0, 0) = (i2_1, i4_2) → ¬ i4_2 < 0 → ∀ ls : Array Slot, lv_has ls 6 [(0, .ref (a 0)), (1, .int x0), (2, .int i2_1), (3, .int (f_X8_ones y4)), (4, .int i4_2)] → W p l e (headSpec wsX8_orders ({ frames := 1, cells := 0, slots := 0, locals := 22 } : Room)).room s m ([.ref (a 0), .int x0] : List Value).toArray below meth c s.heap [] 0 0 (MQ below (vp_Si (fun r => r = f_X8_orders y4 y10 x0)) ([.ref (a 0), .int x0] : List Value).toArray s 0 0 (fun _ => False)) (F0 m 102 ls []) := by
    intro i2_1 i4_2 hE0 hj0_0 ls hl
    refine lv_iload_n hx hb dX8_orders_102 rfl (lv_at hl 2 rfl) ?_
    exact W.iret hx hb hr (fun t ht hW => ⟨i2_1, rfl, (show f_X8_orders y4 y10 x0 = i2_1 from by rw [f_X8_orders, hE0, my_t2_eq]).symm, ht⟩) (fun q hq => absurd hq List.not_mem_nil) dX8_orders_103
  have key : ∀ (nf : Nat) (i2_1 : Int32) (i4_2 : Int32), ((256 : Int32).toInt - (i4_2 : Int32).toInt).toNat < nf → lp (fun (x : Int32 × Int32) => f_X8_orders_st y4 y10 x0 x.1 x.2) default nf (i2_1, i4_2) = lp (fun (x : Int32 × Int32) => f_X8_orders_st y4 y10 x0 x.1 x.2) default (((256 : Int32).toInt - (0 : Int32).toInt).toNat + 1) (0, 0) → ¬ i4_2 < 0 → ∀ ls : Array Slot, lv_has ls 6 [(0, .ref (a 0)), (1, .int x0), (2, .int i2_1), (3, .int (f_X8_ones y4)), (4, .int i4_2)] → W p l e (headSpec wsX8_orders ({ frames := 1, cells := 0, slots := 0, locals := 22 } : Room)).room s m ([.ref (a 0), .int x0] : List Value).toArray below meth c s.heap [] 0 0 (MQ below (vp_Si (fun r => r = f_X8_orders y4 y10 x0)) ([.ref (a 0), .int x0] : List Value).toArray s 0 0 (fun _ => False)) (F0 m 13 ls []) := by
    intro n0
    induction n0 with
    | zero => intro i2_1 i4_2 hlt; exact absurd hlt (Nat.not_lt_zero _)
    | succ n0 ih0 =>
      intro i2_1 i4_2 hlt0 hF0 hi0_0 ls hl
      refine lv_iload hx hb dX8_orders_13 (lv_at hl 4 rfl) ?_
      refine lv_sipush (v := 256) hx hb dX8_orders_15 (by decide) ?_
      refine lv_icmp_ge (tgt := 102) hx hb dX8_orders_18 (by decide) (fun c_3 => ?_) (fun c_3 => ?_)
      · have hst : f_X8_orders_st y4 y10 x0 i2_1 i4_2 = .inr (i2_1, i4_2) := by rw [f_X8_orders_st, if_pos c_3]
        exact cont0 i2_1 i4_2 (lp_inr hst hF0) hi0_0 _ (lv_sub hl [0, 1, 2, 3, 4] rfl)
      · refine lv_iload hx hb dX8_orders_21 (lv_at hl 4 rfl) ?_
        refine lv_iload_n hx hb dX8_orders_23 rfl (lv_at hl 1 rfl) ?_
        refine rd_goi (va_runS (As := [.int i4_2, .int x0]) (rest := []) S (c_X8_has l D cy g B i4_2 x0) (va_cwS 2 hts gX8_orders_X8_has rfl rfl rfl hd_X8_has_S ⟨Nat.le_of_ble_eq_true rfl, Nat.le_of_ble_eq_true rfl⟩) ⟨rdP_blind, my_preV hK0 hS hAB hP [] rfl⟩ rfl rfl hl.1 rfl (lv_room (Nat.le_of_ble_eq_true rfl)) dX8_orders_24 ⟨Nat.zero_le _, Nat.zero_le _⟩) ?_
        refine lv_if_eq (tgt := 60) hx hb dX8_orders_27 (by decide) (fun c_4 => ?_) (fun c_4 => ?_)
        · refine lv_iconst (v := 0) hx hb dX8_orders_60 (by decide) ?_
          refine lv_istore (lv' := [(5, .int 0), (0, .ref (a 0)), (1, .int x0), (2, .int i2_1), (3, .int (f_X8_ones y4)), (4, .int i4_2)]) hx hb dX8_orders_61 hl (by decide) rfl (fun ls hl => ?_)
          refine lv_iload_n hx hb dX8_orders_63 rfl (lv_at hl 3 rfl) ?_
          refine lv_iload hx hb dX8_orders_64 (lv_at hl 0 rfl) ?_
          refine lv_if_eq (tgt := 93) hx hb dX8_orders_66 (by decide) (fun _ => ?_) (fun h => absurd (by decide) h)
          refine lv_iconst (v := 0) hx hb dX8_orders_93 (by decide) ?_
          refine lv_iadd hx hb dX8_orders_94 ?_
          refine lv_istore_n (lv' := [(2, .int (i2_1 + 0)), (5, .int 0), (0, .ref (a 0)), (1, .int x0), (3, .int (f_X8_ones y4)), (4, .int i4_2)]) hx hb dX8_orders_95 rfl hl (by decide) rfl (fun ls hl => ?_)
          refine lv_iinc (v := (i4_2 + 1)) (lv' := [(4, .int (i4_2 + 1)), (2, .int (i2_1 + 0)), (5, .int 0), (0, .ref (a 0)), (1, .int x0), (3, .int (f_X8_ones y4))]) hx hb dX8_orders_96 hl (k := 5) rfl rfl (by decide) rfl (fun ls hl => ?_)
          refine lv_goto (tgt := 13) hx hb dX8_orders_99 (by decide) ?_
          have hst : f_X8_orders_st y4 y10 x0 i2_1 i4_2 = .inl ((i2_1 + 0), (i4_2 + 1)) := by rw [f_X8_orders_st, if_neg c_3, if_pos c_4]
          have hmu : ((256 : Int32).toInt - ((i4_2 + 1) : Int32).toInt).toNat < ((256 : Int32).toInt - (i4_2 : Int32).toInt).toNat := mu_up c_3
          exact ih0 (i2_1 + 0) (i4_2 + 1) (Nat.lt_of_lt_of_le hmu (Nat.le_of_lt_succ hlt0)) (lp_inl hst hF0) (nn_up hi0_0 c_3) _ (lv_sub hl [3, 4, 1, 5, 0] rfl)
        · refine lv_aload_n hx hb dX8_orders_30 rfl (lv_at hl 0 rfl) ?_
          refine va_get (D := D) (ci := 6) (v := .ref (a 4)) (C := RX8) (T := TX8) (N := 14) hx hb hts inX8 hown hK0.1 hP 0 rfl rfl 7 (by decide) (hts (.fieldLink RX8 19 "PivotChamberModel" "win" "[Z") (List.mem_of_getElem? (i := 2) rfl)) (fun _ h9 => h9) rfl dX8_orders_31 ?_
          refine lv_iload hx hb dX8_orders_34 (lv_at hl 4 rfl) ?_
          refine va_zald hx hb hK0.1 hP 4 1 rfl rfl (ix_self (K := 256) (N := 256) hi0_0 c_3 (by decide) (by decide)) dX8_orders_36 ?_
          refine lv_if_eq (tgt := 60) hx hb dX8_orders_37 (by decide) (fun c_5 => ?_) (fun c_5 => ?_)
          · refine lv_iconst (v := 0) hx hb dX8_orders_60 (by decide) ?_
            refine lv_istore (lv' := [(5, .int 0), (0, .ref (a 0)), (1, .int x0), (2, .int i2_1), (3, .int (f_X8_ones y4)), (4, .int i4_2)]) hx hb dX8_orders_61 hl (by decide) rfl (fun ls hl => ?_)
            refine lv_iload_n hx hb dX8_orders_63 rfl (lv_at hl 3 rfl) ?_
            refine lv_iload hx hb dX8_orders_64 (lv_at hl 0 rfl) ?_
            refine lv_if_eq (tgt := 93) hx hb dX8_orders_66 (by decide) (fun _ => ?_) (fun h => absurd (by decide) h)
            refine lv_iconst (v := 0) hx hb dX8_orders_93 (by decide) ?_
            refine lv_iadd hx hb dX8_orders_94 ?_
            refine lv_istore_n (lv' := [(2, .int (i2_1 + 0)), (5, .int 0), (0, .ref (a 0)), (1, .int x0), (3, .int (f_X8_ones y4)), (4, .int i4_2)]) hx hb dX8_orders_95 rfl hl (by decide) rfl (fun ls hl => ?_)
            refine lv_iinc (v := (i4_2 + 1)) (lv' := [(4, .int (i4_2 + 1)), (2, .int (i2_1 + 0)), (5, .int 0), (0, .ref (a 0)), (1, .int x0), (3, .int (f_X8_ones y4))]) hx hb dX8_orders_96 hl (k := 5) rfl rfl (by decide) rfl (fun ls hl => ?_)
            refine lv_goto (tgt := 13) hx hb dX8_orders_99 (by decide) ?_
            have hst : f_X8_orders_st y4 y10 x0 i2_1 i4_2 = .inl ((i2_1 + 0), (i4_2 + 1)) := by rw [f_X8_orders_st, if_neg c_3, if_neg c_4, if_pos c_5]
            have hmu : ((256 : Int32).toInt - ((i4_2 + 1) : Int32).toInt).toNat < ((256 : Int32).toInt - (i4_2 : Int32).toInt).toNat := mu_up c_3
            exact ih0 (i2_1 + 0) (i4_2 + 1) (Nat.lt_of_lt_of_le hmu (Nat.le_of_lt_succ hlt0)) (lp_inl hst hF0) (nn_up hi0_0 c_3) _ (lv_sub hl [3, 4, 1, 5, 0] rfl)
          · refine lv_aload_n hx hb dX8_orders_40 rfl (lv_at hl 0 rfl) ?_
            refine va_get (D := D) (ci := 6) (v := .ref (a 4)) (C := RX8) (T := TX8) (N := 14) hx hb hts inX8 hown hK0.1 hP 0 rfl rfl 7 (by decide) (hts (.fieldLink RX8 19 "PivotChamberModel" "win" "[Z") (List.mem_of_getElem? (i := 2) rfl)) (fun _ h9 => h9) rfl dX8_orders_41 ?_
            refine lv_iload hx hb dX8_orders_44 (lv_at hl 4 rfl) ?_
            refine lv_iconst (v := 1) hx hb dX8_orders_46 (by decide) ?_
            refine lv_iload_n hx hb dX8_orders_47 rfl (lv_at hl 1 rfl) ?_
            refine lv_ishl hx hb dX8_orders_48 ?_
            refine lv_iconst (v := (-1)) hx hb dX8_orders_49 (by decide) ?_
            refine lv_ixor hx hb dX8_orders_50 ?_
            refine lv_iand hx hb dX8_orders_51 ?_
            refine va_zald hx hb hK0.1 hP 4 1 rfl rfl (ix_and (ix_self (K := 256) (N := 256) hi0_0 c_3 (by decide) (by decide))) dX8_orders_52 ?_
            refine lv_if_ne (tgt := 60) hx hb dX8_orders_53 (by decide) (fun c_6 => ?_) (fun c_6 => ?_)
            · refine lv_iconst (v := 0) hx hb dX8_orders_60 (by decide) ?_
              refine lv_istore (lv' := [(5, .int 0), (0, .ref (a 0)), (1, .int x0), (2, .int i2_1), (3, .int (f_X8_ones y4)), (4, .int i4_2)]) hx hb dX8_orders_61 hl (by decide) rfl (fun ls hl => ?_)
              refine lv_iload_n hx hb dX8_orders_63 rfl (lv_at hl 3 rfl) ?_
              refine lv_iload hx hb dX8_orders_64 (lv_at hl 0 rfl) ?_
              refine lv_if_eq (tgt := 93) hx hb dX8_orders_66 (by decide) (fun _ => ?_) (fun h => absurd (by decide) h)
              refine lv_iconst (v := 0) hx hb dX8_orders_93 (by decide) ?_
              refine lv_iadd hx hb dX8_orders_94 ?_
              refine lv_istore_n (lv' := [(2, .int (i2_1 + 0)), (5, .int 0), (0, .ref (a 0)), (1, .int x0), (3, .int (f_X8_ones y4)), (4, .int i4_2)]) hx hb dX8_orders_95 rfl hl (by decide) rfl (fun ls hl => ?_)
              refine lv_iinc (v := (i4_2 + 1)) (lv' := [(4, .int (i4_2 + 1)), (2, .int (i2_1 + 0)), (5, .int 0), (0, .ref (a 0)), (1, .int x0), (3, .int (f_X8_ones y4))]) hx hb dX8_orders_96 hl (k := 5) rfl rfl (by decide) rfl (fun ls hl => ?_)
              refine lv_goto (tgt := 13) hx hb dX8_orders_99 (by decide) ?_
              have hst : f_X8_orders_st y4 y10 x0 i2_1 i4_2 = .inl ((i2_1 + 0), (i4_2 + 1)) := by rw [f_X8_orders_st, if_neg c_3, if_neg c_4, if_neg c_5, if_neg c_6]
              have hmu : ((256 : Int32).toInt - ((i4_2 + 1) : Int32).toInt).toNat < ((256 : Int32).toInt - (i4_2 : Int32).toInt).toNat := mu_up c_3
              exact ih0 (i2_1 + 0) (i4_2 + 1) (Nat.lt_of_lt_of_le hmu (Nat.le_of_lt_succ hlt0)) (lp_inl hst hF0) (nn_up hi0_0 c_3) _ (lv_sub hl [3, 4, 1, 5, 0] rfl)
            · refine lv_iconst (v := 1) hx hb dX8_orders_56 (by decide) ?_
              refine lv_goto (tgt := 61) hx hb dX8_orders_57 (by decide) ?_
              refine lv_istore (lv' := [(5, .int 1), (0, .ref (a 0)), (1, .int x0), (2, .int i2_1), (3, .int (f_X8_ones y4)), (4, .int i4_2)]) hx hb dX8_orders_61 hl (by decide) rfl (fun ls hl => ?_)
              refine lv_iload_n hx hb dX8_orders_63 rfl (lv_at hl 3 rfl) ?_
              refine lv_iload hx hb dX8_orders_64 (lv_at hl 0 rfl) ?_
              refine lv_if_eq (tgt := 93) hx hb dX8_orders_66 (by decide) (fun h => absurd h (by decide)) (fun _ => ?_)
              refine lv_iload hx hb dX8_orders_69 (lv_at hl 5 rfl) ?_
              refine rd_goi (va_runS (As := [.int i4_2]) (rest := [.int i2_1]) S (c_X8_ones l D cy g B i4_2) (va_cwS 1 hts gX8_orders_X8_ones rfl rfl rfl hd_X8_ones_S ⟨Nat.le_of_ble_eq_true rfl, Nat.le_of_ble_eq_true rfl⟩) ⟨rdP_blind, my_preV hK0 hS hAB hP [] rfl⟩ rfl rfl hl.1 rfl (lv_room (Nat.le_of_ble_eq_true rfl)) dX8_orders_71 ⟨Nat.zero_le _, Nat.zero_le _⟩) ?_
              refine lv_iconst (v := 1) hx hb dX8_orders_74 (by decide) ?_
              refine lv_isub hx hb dX8_orders_75 ?_
              refine rd_goi (va_runS (As := [.int ((f_X8_ones i4_2) - 1)]) (rest := [.int i2_1]) S (c_X8_factorial l D cy g B ((f_X8_ones i4_2) - 1) (ones_b1 _)) (va_cwS 1 hts gX8_orders_X8_factorial rfl rfl rfl hd_X8_factorial_S ⟨Nat.le_of_ble_eq_true rfl, Nat.le_of_ble_eq_true rfl⟩) ⟨rdP_blind, my_preV hK0 hS hAB hP [] rfl⟩ rfl rfl hl.1 rfl (lv_room (Nat.le_of_ble_eq_true rfl)) dX8_orders_76 ⟨Nat.zero_le _, Nat.zero_le _⟩) ?_
              refine lv_iload_n hx hb dX8_orders_79 rfl (lv_at hl 4 rfl) ?_
              refine lv_iload hx hb dX8_orders_80 (lv_at hl 5 rfl) ?_
              refine rd_goi (va_runS (As := [.int i4_2]) (rest := [.int (f_X8_ones y4), .int (f_X8_factorial ((f_X8_ones i4_2) - 1)), .int i2_1]) S (c_X8_ones l D cy g B i4_2) (va_cwS 1 hts gX8_orders_X8_ones rfl rfl rfl hd_X8_ones_S ⟨Nat.le_of_ble_eq_true rfl, Nat.le_of_ble_eq_true rfl⟩) ⟨rdP_blind, my_preV hK0 hS hAB hP [] rfl⟩ rfl rfl hl.1 rfl (lv_room (Nat.le_of_ble_eq_true rfl)) dX8_orders_82 ⟨Nat.zero_le _, Nat.zero_le _⟩) ?_
              refine lv_isub hx hb dX8_orders_85 ?_
              refine rd_goi (va_runS (As := [.int ((f_X8_ones y4) - (f_X8_ones i4_2))]) (rest := [.int (f_X8_factorial ((f_X8_ones i4_2) - 1)), .int i2_1]) S (c_X8_factorial l D cy g B ((f_X8_ones y4) - (f_X8_ones i4_2)) (ones_b2 _ _)) (va_cwS 1 hts gX8_orders_X8_factorial rfl rfl rfl hd_X8_factorial_S ⟨Nat.le_of_ble_eq_true rfl, Nat.le_of_ble_eq_true rfl⟩) ⟨rdP_blind, my_preV hK0 hS hAB hP [] rfl⟩ rfl rfl hl.1 rfl (lv_room (Nat.le_of_ble_eq_true rfl)) dX8_orders_86 ⟨Nat.zero_le _, Nat.zero_le _⟩) ?_
              refine lv_imul hx hb dX8_orders_89 ?_
              refine lv_goto (tgt := 94) hx hb dX8_orders_90 (by decide) ?_
              refine lv_iadd hx hb dX8_orders_94 ?_
              refine lv_istore_n (lv' := [(2, .int (i2_1 + ((f_X8_factorial ((f_X8_ones i4_2) - 1)) * (f_X8_factorial ((f_X8_ones y4) - (f_X8_ones i4_2)))))), (5, .int 1), (0, .ref (a 0)), (1, .int x0), (3, .int (f_X8_ones y4)), (4, .int i4_2)]) hx hb dX8_orders_95 rfl hl (by decide) rfl (fun ls hl => ?_)
              refine lv_iinc (v := (i4_2 + 1)) (lv' := [(4, .int (i4_2 + 1)), (2, .int (i2_1 + ((f_X8_factorial ((f_X8_ones i4_2) - 1)) * (f_X8_factorial ((f_X8_ones y4) - (f_X8_ones i4_2)))))), (5, .int 1), (0, .ref (a 0)), (1, .int x0), (3, .int (f_X8_ones y4))]) hx hb dX8_orders_96 hl (k := 5) rfl rfl (by decide) rfl (fun ls hl => ?_)
              refine lv_goto (tgt := 13) hx hb dX8_orders_99 (by decide) ?_
              have hst : f_X8_orders_st y4 y10 x0 i2_1 i4_2 = .inl ((i2_1 + ((f_X8_factorial ((f_X8_ones i4_2) - 1)) * (f_X8_factorial ((f_X8_ones y4) - (f_X8_ones i4_2))))), (i4_2 + 1)) := by rw [f_X8_orders_st, if_neg c_3, if_neg c_4, if_neg c_5, if_pos c_6]
              have hmu : ((256 : Int32).toInt - ((i4_2 + 1) : Int32).toInt).toNat < ((256 : Int32).toInt - (i4_2 : Int32).toInt).toNat := mu_up c_3
              exact ih0 (i2_1 + ((f_X8_factorial ((f_X8_ones i4_2) - 1)) * (f_X8_factorial ((f_X8_ones y4) - (f_X8_ones i4_2))))) (i4_2 + 1) (Nat.lt_of_lt_of_le hmu (Nat.le_of_lt_succ hlt0)) (lp_inl hst hF0) (nn_up hi0_0 c_3) _ (lv_sub hl [3, 4, 1, 5, 0] rfl)
  exact key (((256 : Int32).toInt - (0 : Int32).toInt).toNat + 1) 0 0 (Nat.lt_succ_self _) rfl (by decide) _ (lv_sub hl [3, 4, 2, 1, 0] rfl)
theorem hd_X8_isNeeded_S : yX8_isNeeded.cls ≠ "java/lang/invoke/MethodHandle" ∧ yX8_isNeeded.cls ≠ "java/lang/invoke/VarHandle" ∧ (parseMethodDescriptor yX8_isNeeded.desc).map (fun d => d.parameters.length) = some 1 := by decide +kernel
theorem hd_X8_isNeeded_V : yX8_isNeeded.cls = RX8 ∧ yX8_isNeeded.cls ≠ "java/lang/invoke/MethodHandle" ∧ yX8_isNeeded.cls ≠ "java/lang/invoke/VarHandle" ∧ (parseMethodDescriptor yX8_isNeeded.desc).map (fun d => d.parameters.length) = some 1 := ⟨rfl, hd_X8_isNeeded_S⟩
def f_X8_isNeeded_st (y10 : (Nat → Int32)) (x0 : Int32) (i2_1 : Int32) (i3_2 : Int32) : (Int32 × Int32) ⊕ (Int32 × Int32) := (if 256 ≤ i3_2 then (.inr (i2_1, i3_2)) else (if i2_1 = 0 then (.inl (0, (i3_2 + 1))) else (if (y10 i3_2.toNatClampNeg) = 0 then (.inl (1, (i3_2 + 1))) else (if (f_X8_has i3_2 x0) = 0 then (.inl (0, (i3_2 + 1))) else (.inl (1, (i3_2 + 1)))))))
def f_X8_isNeeded (y4 : Int32) (y10 : (Nat → Int32)) (x0 : Int32) : Int32 := (my_t2 (lp (fun (x : Int32 × Int32) => f_X8_isNeeded_st y10 x0 x.1 x.2) default (((256 : Int32).toInt - (0 : Int32).toInt).toNat + 1) ((y10 y4.toNatClampNeg), 0)) (fun (i2_1 : Int32) (i3_2 : Int32) => i2_1))
set_option maxHeartbeats 400000 in
set_option maxRecDepth 100000 in
theorem c_X8_isNeeded (l : Launch) (D : va_G) (cy : Nat → ClassId) (g : Nat → Nat) (B : Nat) (a : Nat → Nat) (y0 : Int32) (y1 : Int32) (y2 : Int32) (y3 : Int32) (y4 : Int32) (y5 : Int32) (y6 : Int32) (y7 : (Nat → Int32)) (y8 : (Nat → Int32)) (y9 : (Nat → Int32)) (y10 : (Nat → Int32)) (y11 : (Nat → Int32)) (y12 : (Nat → Int32)) (y13 : (Nat → Int32)) (x0 : Int32) (hwin : ∀ j : Nat, y10 j = 0 ∨ y10 j = 1) (hall0 : ¬ y4 < 0) (hall : ¬ 256 ≤ y4) : Met l yX8_isNeeded wsX8_isNeeded ({ frames := 1, cells := 0, slots := 0, locals := 21 }) (rdP D cy g B (wModE cy a y0 y1 y2 y3 y4 y5 y6 y7 y8 y9 y10 y11 y12 y13) [.ref (a 0), .int x0]) (vp_Si (fun r => r = f_X8_isNeeded y4 y10 x0)) 0 0 (fun _ => False) := by
  refine Met.ofW (cc := cX8_isNeeded) (maxL := 4) (ret := (some .boolean)) (by decide) rfl ?_
  intro p e s m args below meth c s₁ BB hml hv
  obtain ⟨rfl, hP, hK0⟩ := hv
  have hx := BB.exec
  have hb := BB.bytes
  have hr := BB.returns
  have hts := atoms_spec (ws := wsX8_isNeeded) BB.pre
  have hown : s.vm.findClass RX8 = some m.cls := findClass_of_methodNamed BB.named
  have hlocks := BB.notSynchronized
  have S := my_fix hx hb hml hown hts
  have inX8 : ∀ w ∈ wsX80, w ∈ wsX8_isNeeded := fun w h => List.mem_cons_of_mem _ (List.mem_append_right _ h)
  have hS : va_S (fun q => B ≤ q) s.heap s.heap [] := va_S.rf
  have hAB : ∀ q : Nat, (fun q => B ≤ q) q → B ≤ q := fun _ h => h
  have hl := lv_entry ([.ref (a 0), .int x0]) (n := 4) (Nat.le_of_ble_eq_true rfl)
  rw [lg_entry_eq]
  generalize (lg_sl ([.ref (a 0), .int x0]) ++ List.replicate (4 - (lg_sl ([.ref (a 0), .int x0])).length) Slot.unset).toArray = ls at hl ⊢
  have hl : lv_has ls 4 [(0, .ref (a 0)), (1, .int x0)] := hl
  refine lv_aload_n hx hb dX8_isNeeded_0 rfl (lv_at hl 0 rfl) ?_
  refine va_get (D := D) (ci := 6) (v := .ref (a 4)) (C := RX8) (T := TX8) (N := 14) hx hb hts inX8 hown hK0.1 hP 0 rfl rfl 7 (by decide) (hts (.fieldLink RX8 19 "PivotChamberModel" "win" "[Z") (List.mem_of_getElem? (i := 1) rfl)) (fun _ h9 => h9) rfl dX8_isNeeded_1 ?_
  refine lv_aload_n hx hb dX8_isNeeded_4 rfl (lv_at hl 0 rfl) ?_
  refine va_get (D := D) (ci := 6) (v := .int y4) (C := RX8) (T := TX8) (N := 14) hx hb hts inX8 hown hK0.1 hP 0 rfl rfl 8 (by decide) (hts (.fieldLink RX8 71 "PivotChamberModel" "all" "I") (List.mem_of_getElem? (i := 2) rfl)) (fun _ h9 => h9) rfl dX8_isNeeded_5 ?_
  refine va_zald hx hb hK0.1 hP 4 1 rfl rfl (ix_self (K := 256) (N := 256) hall0 hall (by decide) (by decide)) dX8_isNeeded_8 ?_
  refine lv_istore_n (lv' := [(2, .int (y10 y4.toNatClampNeg)), (0, .ref (a 0)), (1, .int x0)]) hx hb dX8_isNeeded_9 rfl hl (by decide) rfl (fun ls hl => ?_)
  refine lv_iconst (v := 0) hx hb dX8_isNeeded_10 (by decide) ?_
  refine lv_istore_n (lv' := [(3, .int 0), (2, .int (y10 y4.toNatClampNeg)), (0, .ref (a 0)), (1, .int x0)]) hx hb dX8_isNeeded_11 rfl hl (by decide) rfl (fun ls hl => ?_)
  have cont0 : ∀ (i2_1 : Int32) (i3_2 : Int32), lp (fun (x : Int32 × Int32) => f_X8_isNeeded_st y10 x0 x.1 x.2) default (((256 : Int32).toInt - (0 : Int32).toInt).toNat + 1) ((y10 y4.toNatClampNeg), 0) = (i2_1, i3_2) → i2_1 = 0 ∨ i2_1 = 1 → ¬ i3_2 < 0 → ∀ ls : Array Slot, lv_has ls 4 [(0, .ref (a 0)), (1, .int x0), (2, .int i2_1), (3, .int i3_2)] → W p l e (headSpec wsX8_isNeeded ({ frames := 1, cells := 0, slots := 0, locals := 21 } : Room)).room s m ([.ref (a 0), .int x0] : List Value).toArray below meth c s.heap [] 0 0 (MQ below (vp_Si (fun r => r = f_X8_isNeeded y4 y10 x0)) ([.ref (a 0), .int x0] : List Value).toArray s 0 0 (fun _ => False)) (F0 m 52 ls []) := by
    intro i2_1 i3_2 hE0 hj0_0 hj0_1 ls hl
    refine lv_iload_n hx hb dX8_isNeeded_52 rfl (lv_at hl 2 rfl) ?_
    exact W.zret (ty := .boolean) (v := i2_1) hx hb hr (my_nz hj0_0) (fun t ht hW => ⟨i2_1, rfl, (show f_X8_isNeeded y4 y10 x0 = i2_1 from by rw [f_X8_isNeeded, hE0, my_t2_eq]).symm, ht⟩) (fun q hq => absurd hq List.not_mem_nil) dX8_isNeeded_53
  have key : ∀ (nf : Nat) (i2_1 : Int32) (i3_2 : Int32), ((256 : Int32).toInt - (i3_2 : Int32).toInt).toNat < nf → lp (fun (x : Int32 × Int32) => f_X8_isNeeded_st y10 x0 x.1 x.2) default nf (i2_1, i3_2) = lp (fun (x : Int32 × Int32) => f_X8_isNeeded_st y10 x0 x.1 x.2) default (((256 : Int32).toInt - (0 : Int32).toInt).toNat + 1) ((y10 y4.toNatClampNeg), 0) → i2_1 = 0 ∨ i2_1 = 1 → ¬ i3_2 < 0 → ∀ ls : Array Slot, lv_has ls 4 [(0, .ref (a 0)), (1, .int x0), (2, .int i2_1), (3, .int i3_2)] → W p l e (headSpec wsX8_isNeeded ({ frames := 1, cells := 0, slots := 0, locals := 21 } : Room)).room s m ([.ref (a 0), .int x0] : List Value).toArray below meth c s.heap [] 0 0 (MQ below (vp_Si (fun r => r = f_X8_isNeeded y4 y10 x0)) ([.ref (a 0), .int x0] : List Value).toArray s 0 0 (fun _ => False)) (F0 m 12 ls []) := by
    intro n0
    induction n0 with
    | zero => intro i2_1 i3_2 hlt; exact absurd hlt (Nat.not_lt_zero _)
    | succ n0 ih0 =>
      intro i2_1 i3_2 hlt0 hF0 hi0_0 hi0_1 ls hl
      refine lv_iload_n hx hb dX8_isNeeded_12 rfl (lv_at hl 3 rfl) ?_
      refine lv_sipush (v := 256) hx hb dX8_isNeeded_13 (by decide) ?_
      refine lv_icmp_ge (tgt := 52) hx hb dX8_isNeeded_16 (by decide) (fun c_3 => ?_) (fun c_3 => ?_)
      · have hst : f_X8_isNeeded_st y10 x0 i2_1 i3_2 = .inr (i2_1, i3_2) := by rw [f_X8_isNeeded_st, if_pos c_3]
        exact cont0 i2_1 i3_2 (lp_inr hst hF0) hi0_0 hi0_1 _ (lv_sub hl [0, 1, 2, 3] rfl)
      · refine lv_iload_n hx hb dX8_isNeeded_19 rfl (lv_at hl 2 rfl) ?_
        refine lv_if_eq (tgt := 44) hx hb dX8_isNeeded_20 (by decide) (fun c_4 => ?_) (fun c_4 => ?_)
        · refine lv_iconst (v := 0) hx hb dX8_isNeeded_44 (by decide) ?_
          refine lv_istore_n (lv' := [(2, .int 0), (0, .ref (a 0)), (1, .int x0), (3, .int i3_2)]) hx hb dX8_isNeeded_45 rfl hl (by decide) rfl (fun ls hl => ?_)
          refine lv_iinc (v := (i3_2 + 1)) (lv' := [(3, .int (i3_2 + 1)), (2, .int 0), (0, .ref (a 0)), (1, .int x0)]) hx hb dX8_isNeeded_46 hl (k := 3) rfl rfl (by decide) rfl (fun ls hl => ?_)
          refine lv_goto (tgt := 12) hx hb dX8_isNeeded_49 (by decide) ?_
          have hst : f_X8_isNeeded_st y10 x0 i2_1 i3_2 = .inl (0, (i3_2 + 1)) := by rw [f_X8_isNeeded_st, if_neg c_3, if_pos c_4]
          have hmu : ((256 : Int32).toInt - ((i3_2 + 1) : Int32).toInt).toNat < ((256 : Int32).toInt - (i3_2 : Int32).toInt).toNat := mu_up c_3
          exact ih0 0 (i3_2 + 1) (Nat.lt_of_lt_of_le hmu (Nat.le_of_lt_succ hlt0)) (lp_inl hst hF0) (by decide) (nn_up hi0_1 c_3) _ (lv_sub hl [2, 3, 1, 0] rfl)
        · refine lv_aload_n hx hb dX8_isNeeded_23 rfl (lv_at hl 0 rfl) ?_
          refine va_get (D := D) (ci := 6) (v := .ref (a 4)) (C := RX8) (T := TX8) (N := 14) hx hb hts inX8 hown hK0.1 hP 0 rfl rfl 7 (by decide) (hts (.fieldLink RX8 19 "PivotChamberModel" "win" "[Z") (List.mem_of_getElem? (i := 1) rfl)) (fun _ h9 => h9) rfl dX8_isNeeded_24 ?_
          refine lv_iload_n hx hb dX8_isNeeded_27 rfl (lv_at hl 3 rfl) ?_
          refine va_zald hx hb hK0.1 hP 4 1 rfl rfl (ix_self (K := 256) (N := 256) hi0_1 c_3 (by decide) (by decide)) dX8_isNeeded_28 ?_
          refine lv_if_eq (tgt := 40) hx hb dX8_isNeeded_29 (by decide) (fun c_5 => ?_) (fun c_5 => ?_)
          · refine lv_iconst (v := 1) hx hb dX8_isNeeded_40 (by decide) ?_
            refine lv_goto (tgt := 45) hx hb dX8_isNeeded_41 (by decide) ?_
            refine lv_istore_n (lv' := [(2, .int 1), (0, .ref (a 0)), (1, .int x0), (3, .int i3_2)]) hx hb dX8_isNeeded_45 rfl hl (by decide) rfl (fun ls hl => ?_)
            refine lv_iinc (v := (i3_2 + 1)) (lv' := [(3, .int (i3_2 + 1)), (2, .int 1), (0, .ref (a 0)), (1, .int x0)]) hx hb dX8_isNeeded_46 hl (k := 3) rfl rfl (by decide) rfl (fun ls hl => ?_)
            refine lv_goto (tgt := 12) hx hb dX8_isNeeded_49 (by decide) ?_
            have hst : f_X8_isNeeded_st y10 x0 i2_1 i3_2 = .inl (1, (i3_2 + 1)) := by rw [f_X8_isNeeded_st, if_neg c_3, if_neg c_4, if_pos c_5]
            have hmu : ((256 : Int32).toInt - ((i3_2 + 1) : Int32).toInt).toNat < ((256 : Int32).toInt - (i3_2 : Int32).toInt).toNat := mu_up c_3
            exact ih0 1 (i3_2 + 1) (Nat.lt_of_lt_of_le hmu (Nat.le_of_lt_succ hlt0)) (lp_inl hst hF0) (by decide) (nn_up hi0_1 c_3) _ (lv_sub hl [2, 3, 1, 0] rfl)
          · refine lv_iload_n hx hb dX8_isNeeded_32 rfl (lv_at hl 3 rfl) ?_
            refine lv_iload_n hx hb dX8_isNeeded_33 rfl (lv_at hl 1 rfl) ?_
            refine rd_goi (va_runS (As := [.int i3_2, .int x0]) (rest := []) S (c_X8_has l D cy g B i3_2 x0) (va_cwS 2 hts gX8_isNeeded_X8_has rfl rfl rfl hd_X8_has_S ⟨Nat.le_of_ble_eq_true rfl, Nat.le_of_ble_eq_true rfl⟩) ⟨rdP_blind, my_preV hK0 hS hAB hP [] rfl⟩ rfl rfl hl.1 rfl (lv_room (Nat.le_of_ble_eq_true rfl)) dX8_isNeeded_34 ⟨Nat.zero_le _, Nat.zero_le _⟩) ?_
            refine lv_if_eq (tgt := 44) hx hb dX8_isNeeded_37 (by decide) (fun c_6 => ?_) (fun c_6 => ?_)
            · refine lv_iconst (v := 0) hx hb dX8_isNeeded_44 (by decide) ?_
              refine lv_istore_n (lv' := [(2, .int 0), (0, .ref (a 0)), (1, .int x0), (3, .int i3_2)]) hx hb dX8_isNeeded_45 rfl hl (by decide) rfl (fun ls hl => ?_)
              refine lv_iinc (v := (i3_2 + 1)) (lv' := [(3, .int (i3_2 + 1)), (2, .int 0), (0, .ref (a 0)), (1, .int x0)]) hx hb dX8_isNeeded_46 hl (k := 3) rfl rfl (by decide) rfl (fun ls hl => ?_)
              refine lv_goto (tgt := 12) hx hb dX8_isNeeded_49 (by decide) ?_
              have hst : f_X8_isNeeded_st y10 x0 i2_1 i3_2 = .inl (0, (i3_2 + 1)) := by rw [f_X8_isNeeded_st, if_neg c_3, if_neg c_4, if_neg c_5, if_pos c_6]
              have hmu : ((256 : Int32).toInt - ((i3_2 + 1) : Int32).toInt).toNat < ((256 : Int32).toInt - (i3_2 : Int32).toInt).toNat := mu_up c_3
              exact ih0 0 (i3_2 + 1) (Nat.lt_of_lt_of_le hmu (Nat.le_of_lt_succ hlt0)) (lp_inl hst hF0) (by decide) (nn_up hi0_1 c_3) _ (lv_sub hl [2, 3, 1, 0] rfl)
            · refine lv_iconst (v := 1) hx hb dX8_isNeeded_40 (by decide) ?_
              refine lv_goto (tgt := 45) hx hb dX8_isNeeded_41 (by decide) ?_
              refine lv_istore_n (lv' := [(2, .int 1), (0, .ref (a 0)), (1, .int x0), (3, .int i3_2)]) hx hb dX8_isNeeded_45 rfl hl (by decide) rfl (fun ls hl => ?_)
              refine lv_iinc (v := (i3_2 + 1)) (lv' := [(3, .int (i3_2 + 1)), (2, .int 1), (0, .ref (a 0)), (1, .int x0)]) hx hb dX8_isNeeded_46 hl (k := 3) rfl rfl (by decide) rfl (fun ls hl => ?_)
              refine lv_goto (tgt := 12) hx hb dX8_isNeeded_49 (by decide) ?_
              have hst : f_X8_isNeeded_st y10 x0 i2_1 i3_2 = .inl (1, (i3_2 + 1)) := by rw [f_X8_isNeeded_st, if_neg c_3, if_neg c_4, if_neg c_5, if_neg c_6]
              have hmu : ((256 : Int32).toInt - ((i3_2 + 1) : Int32).toInt).toNat < ((256 : Int32).toInt - (i3_2 : Int32).toInt).toNat := mu_up c_3
              exact ih0 1 (i3_2 + 1) (Nat.lt_of_lt_of_le hmu (Nat.le_of_lt_succ hlt0)) (lp_inl hst hF0) (by decide) (nn_up hi0_1 c_3) _ (lv_sub hl [2, 3, 1, 0] rfl)
  exact key (((256 : Int32).toInt - (0 : Int32).toInt).toNat + 1) (y10 y4.toNatClampNeg) 0 (Nat.lt_succ_self _) rfl (hwin _) (by decide) _ (lv_sub hl [2, 3, 1, 0] rfl)
theorem hd_X8_isLeast_S : yX8_isLeast.cls ≠ "java/lang/invoke/MethodHandle" ∧ yX8_isLeast.cls ≠ "java/lang/invoke/VarHandle" ∧ (parseMethodDescriptor yX8_isLeast.desc).map (fun d => d.parameters.length) = some 1 := by decide +kernel
theorem hd_X8_isLeast_V : yX8_isLeast.cls = RX8 ∧ yX8_isLeast.cls ≠ "java/lang/invoke/MethodHandle" ∧ yX8_isLeast.cls ≠ "java/lang/invoke/VarHandle" ∧ (parseMethodDescriptor yX8_isLeast.desc).map (fun d => d.parameters.length) = some 1 := ⟨rfl, hd_X8_isLeast_S⟩
def f_X8_isLeast_st (y10 : (Nat → Int32)) (x0 : Int32) (i2_1 : Int32) (i3_2 : Int32) : (Int32 × Int32) ⊕ (Int32 × Int32) := (if 8 ≤ i3_2 then (.inr (i2_1, i3_2)) else (if i2_1 = 0 then (.inl (0, (i3_2 + 1))) else (if (f_X8_has x0 i3_2) = 0 then (.inl (1, (i3_2 + 1))) else (if (y10 (x0 &&& ((1 <<< (i3_2 &&& 31)) ^^^ (-1))).toNatClampNeg) = 0 then (.inl (1, (i3_2 + 1))) else (.inl (0, (i3_2 + 1)))))))
def f_X8_isLeast (y10 : (Nat → Int32)) (x0 : Int32) : Int32 := (my_t2 (lp (fun (x : Int32 × Int32) => f_X8_isLeast_st y10 x0 x.1 x.2) default (((8 : Int32).toInt - (0 : Int32).toInt).toNat + 1) ((y10 x0.toNatClampNeg), 0)) (fun (i2_1 : Int32) (i3_2 : Int32) => i2_1))
set_option maxHeartbeats 400000 in
set_option maxRecDepth 100000 in
theorem c_X8_isLeast (l : Launch) (D : va_G) (cy : Nat → ClassId) (g : Nat → Nat) (B : Nat) (a : Nat → Nat) (y0 : Int32) (y1 : Int32) (y2 : Int32) (y3 : Int32) (y4 : Int32) (y5 : Int32) (y6 : Int32) (y7 : (Nat → Int32)) (y8 : (Nat → Int32)) (y9 : (Nat → Int32)) (y10 : (Nat → Int32)) (y11 : (Nat → Int32)) (y12 : (Nat → Int32)) (y13 : (Nat → Int32)) (x0 : Int32) (hwin : ∀ j : Nat, y10 j = 0 ∨ y10 j = 1) (hi00 : ¬ x0 < 0) (hi0n : ¬ 256 ≤ x0) : Met l yX8_isLeast wsX8_isLeast ({ frames := 1, cells := 0, slots := 0, locals := 21 }) (rdP D cy g B (wModE cy a y0 y1 y2 y3 y4 y5 y6 y7 y8 y9 y10 y11 y12 y13) [.ref (a 0), .int x0]) (vp_Si (fun r => r = f_X8_isLeast y10 x0)) 0 0 (fun _ => False) := by
  refine Met.ofW (cc := cX8_isLeast) (maxL := 4) (ret := (some .boolean)) (by decide) rfl ?_
  intro p e s m args below meth c s₁ BB hml hv
  obtain ⟨rfl, hP, hK0⟩ := hv
  have hx := BB.exec
  have hb := BB.bytes
  have hr := BB.returns
  have hts := atoms_spec (ws := wsX8_isLeast) BB.pre
  have hown : s.vm.findClass RX8 = some m.cls := findClass_of_methodNamed BB.named
  have hlocks := BB.notSynchronized
  have S := my_fix hx hb hml hown hts
  have inX8 : ∀ w ∈ wsX80, w ∈ wsX8_isLeast := fun w h => List.mem_cons_of_mem _ (List.mem_append_right _ h)
  have hS : va_S (fun q => B ≤ q) s.heap s.heap [] := va_S.rf
  have hAB : ∀ q : Nat, (fun q => B ≤ q) q → B ≤ q := fun _ h => h
  have hl := lv_entry ([.ref (a 0), .int x0]) (n := 4) (Nat.le_of_ble_eq_true rfl)
  rw [lg_entry_eq]
  generalize (lg_sl ([.ref (a 0), .int x0]) ++ List.replicate (4 - (lg_sl ([.ref (a 0), .int x0])).length) Slot.unset).toArray = ls at hl ⊢
  have hl : lv_has ls 4 [(0, .ref (a 0)), (1, .int x0)] := hl
  refine lv_aload_n hx hb dX8_isLeast_0 rfl (lv_at hl 0 rfl) ?_
  refine va_get (D := D) (ci := 6) (v := .ref (a 4)) (C := RX8) (T := TX8) (N := 14) hx hb hts inX8 hown hK0.1 hP 0 rfl rfl 7 (by decide) (hts (.fieldLink RX8 19 "PivotChamberModel" "win" "[Z") (List.mem_of_getElem? (i := 1) rfl)) (fun _ h9 => h9) rfl dX8_isLeast_1 ?_
  refine lv_iload_n hx hb dX8_isLeast_4 rfl (lv_at hl 1 rfl) ?_
  refine va_zald hx hb hK0.1 hP 4 1 rfl rfl (ix_self (K := 256) (N := 256) hi00 hi0n (by decide) (by decide)) dX8_isLeast_5 ?_
  refine lv_istore_n (lv' := [(2, .int (y10 x0.toNatClampNeg)), (0, .ref (a 0)), (1, .int x0)]) hx hb dX8_isLeast_6 rfl hl (by decide) rfl (fun ls hl => ?_)
  refine lv_iconst (v := 0) hx hb dX8_isLeast_7 (by decide) ?_
  refine lv_istore_n (lv' := [(3, .int 0), (2, .int (y10 x0.toNatClampNeg)), (0, .ref (a 0)), (1, .int x0)]) hx hb dX8_isLeast_8 rfl hl (by decide) rfl (fun ls hl => ?_)
  have cont0 : ∀ (i2_1 : Int32) (i3_2 : Int32), lp (fun (x : Int32 × Int32) => f_X8_isLeast_st y10 x0 x.1 x.2) default (((8 : Int32).toInt - (0 : Int32).toInt).toNat + 1) ((y10 x0.toNatClampNeg), 0) = (i2_1, i3_2) → i2_1 = 0 ∨ i2_1 = 1 → ¬ i3_2 < 0 → ∀ ls : Array Slot, lv_has ls 4 [(0, .ref (a 0)), (1, .int x0), (2, .int i2_1), (3, .int i3_2)] → W p l e (headSpec wsX8_isLeast ({ frames := 1, cells := 0, slots := 0, locals := 21 } : Room)).room s m ([.ref (a 0), .int x0] : List Value).toArray below meth c s.heap [] 0 0 (MQ below (vp_Si (fun r => r = f_X8_isLeast y10 x0)) ([.ref (a 0), .int x0] : List Value).toArray s 0 0 (fun _ => False)) (F0 m 54 ls []) := by
    intro i2_1 i3_2 hE0 hj0_0 hj0_1 ls hl
    refine lv_iload_n hx hb dX8_isLeast_54 rfl (lv_at hl 2 rfl) ?_
    exact W.zret (ty := .boolean) (v := i2_1) hx hb hr (my_nz hj0_0) (fun t ht hW => ⟨i2_1, rfl, (show f_X8_isLeast y10 x0 = i2_1 from by rw [f_X8_isLeast, hE0, my_t2_eq]).symm, ht⟩) (fun q hq => absurd hq List.not_mem_nil) dX8_isLeast_55
  have key : ∀ (nf : Nat) (i2_1 : Int32) (i3_2 : Int32), ((8 : Int32).toInt - (i3_2 : Int32).toInt).toNat < nf → lp (fun (x : Int32 × Int32) => f_X8_isLeast_st y10 x0 x.1 x.2) default nf (i2_1, i3_2) = lp (fun (x : Int32 × Int32) => f_X8_isLeast_st y10 x0 x.1 x.2) default (((8 : Int32).toInt - (0 : Int32).toInt).toNat + 1) ((y10 x0.toNatClampNeg), 0) → i2_1 = 0 ∨ i2_1 = 1 → ¬ i3_2 < 0 → ∀ ls : Array Slot, lv_has ls 4 [(0, .ref (a 0)), (1, .int x0), (2, .int i2_1), (3, .int i3_2)] → W p l e (headSpec wsX8_isLeast ({ frames := 1, cells := 0, slots := 0, locals := 21 } : Room)).room s m ([.ref (a 0), .int x0] : List Value).toArray below meth c s.heap [] 0 0 (MQ below (vp_Si (fun r => r = f_X8_isLeast y10 x0)) ([.ref (a 0), .int x0] : List Value).toArray s 0 0 (fun _ => False)) (F0 m 9 ls []) := by
    intro n0
    induction n0 with
    | zero => intro i2_1 i3_2 hlt; exact absurd hlt (Nat.not_lt_zero _)
    | succ n0 ih0 =>
      intro i2_1 i3_2 hlt0 hF0 hi0_0 hi0_1 ls hl
      refine lv_iload_n hx hb dX8_isLeast_9 rfl (lv_at hl 3 rfl) ?_
      refine lv_bipush (v := 8) hx hb dX8_isLeast_10 (by decide) ?_
      refine lv_icmp_ge (tgt := 54) hx hb dX8_isLeast_12 (by decide) (fun c_3 => ?_) (fun c_3 => ?_)
      · have hst : f_X8_isLeast_st y10 x0 i2_1 i3_2 = .inr (i2_1, i3_2) := by rw [f_X8_isLeast_st, if_pos c_3]
        exact cont0 i2_1 i3_2 (lp_inr hst hF0) hi0_0 hi0_1 _ (lv_sub hl [0, 1, 2, 3] rfl)
      · refine lv_iload_n hx hb dX8_isLeast_15 rfl (lv_at hl 2 rfl) ?_
        refine lv_if_eq (tgt := 46) hx hb dX8_isLeast_16 (by decide) (fun c_4 => ?_) (fun c_4 => ?_)
        · refine lv_iconst (v := 0) hx hb dX8_isLeast_46 (by decide) ?_
          refine lv_istore_n (lv' := [(2, .int 0), (0, .ref (a 0)), (1, .int x0), (3, .int i3_2)]) hx hb dX8_isLeast_47 rfl hl (by decide) rfl (fun ls hl => ?_)
          refine lv_iinc (v := (i3_2 + 1)) (lv' := [(3, .int (i3_2 + 1)), (2, .int 0), (0, .ref (a 0)), (1, .int x0)]) hx hb dX8_isLeast_48 hl (k := 3) rfl rfl (by decide) rfl (fun ls hl => ?_)
          refine lv_goto (tgt := 9) hx hb dX8_isLeast_51 (by decide) ?_
          have hst : f_X8_isLeast_st y10 x0 i2_1 i3_2 = .inl (0, (i3_2 + 1)) := by rw [f_X8_isLeast_st, if_neg c_3, if_pos c_4]
          have hmu : ((8 : Int32).toInt - ((i3_2 + 1) : Int32).toInt).toNat < ((8 : Int32).toInt - (i3_2 : Int32).toInt).toNat := mu_up c_3
          exact ih0 0 (i3_2 + 1) (Nat.lt_of_lt_of_le hmu (Nat.le_of_lt_succ hlt0)) (lp_inl hst hF0) (by decide) (nn_up hi0_1 c_3) _ (lv_sub hl [2, 3, 1, 0] rfl)
        · refine lv_iload_n hx hb dX8_isLeast_19 rfl (lv_at hl 1 rfl) ?_
          refine lv_iload_n hx hb dX8_isLeast_20 rfl (lv_at hl 3 rfl) ?_
          refine rd_goi (va_runS (As := [.int x0, .int i3_2]) (rest := []) S (c_X8_has l D cy g B x0 i3_2) (va_cwS 2 hts gX8_isLeast_X8_has rfl rfl rfl hd_X8_has_S ⟨Nat.le_of_ble_eq_true rfl, Nat.le_of_ble_eq_true rfl⟩) ⟨rdP_blind, my_preV hK0 hS hAB hP [] rfl⟩ rfl rfl hl.1 rfl (lv_room (Nat.le_of_ble_eq_true rfl)) dX8_isLeast_21 ⟨Nat.zero_le _, Nat.zero_le _⟩) ?_
          refine lv_if_eq (tgt := 42) hx hb dX8_isLeast_24 (by decide) (fun c_5 => ?_) (fun c_5 => ?_)
          · refine lv_iconst (v := 1) hx hb dX8_isLeast_42 (by decide) ?_
            refine lv_goto (tgt := 47) hx hb dX8_isLeast_43 (by decide) ?_
            refine lv_istore_n (lv' := [(2, .int 1), (0, .ref (a 0)), (1, .int x0), (3, .int i3_2)]) hx hb dX8_isLeast_47 rfl hl (by decide) rfl (fun ls hl => ?_)
            refine lv_iinc (v := (i3_2 + 1)) (lv' := [(3, .int (i3_2 + 1)), (2, .int 1), (0, .ref (a 0)), (1, .int x0)]) hx hb dX8_isLeast_48 hl (k := 3) rfl rfl (by decide) rfl (fun ls hl => ?_)
            refine lv_goto (tgt := 9) hx hb dX8_isLeast_51 (by decide) ?_
            have hst : f_X8_isLeast_st y10 x0 i2_1 i3_2 = .inl (1, (i3_2 + 1)) := by rw [f_X8_isLeast_st, if_neg c_3, if_neg c_4, if_pos c_5]
            have hmu : ((8 : Int32).toInt - ((i3_2 + 1) : Int32).toInt).toNat < ((8 : Int32).toInt - (i3_2 : Int32).toInt).toNat := mu_up c_3
            exact ih0 1 (i3_2 + 1) (Nat.lt_of_lt_of_le hmu (Nat.le_of_lt_succ hlt0)) (lp_inl hst hF0) (by decide) (nn_up hi0_1 c_3) _ (lv_sub hl [2, 3, 1, 0] rfl)
          · refine lv_aload_n hx hb dX8_isLeast_27 rfl (lv_at hl 0 rfl) ?_
            refine va_get (D := D) (ci := 6) (v := .ref (a 4)) (C := RX8) (T := TX8) (N := 14) hx hb hts inX8 hown hK0.1 hP 0 rfl rfl 7 (by decide) (hts (.fieldLink RX8 19 "PivotChamberModel" "win" "[Z") (List.mem_of_getElem? (i := 1) rfl)) (fun _ h9 => h9) rfl dX8_isLeast_28 ?_
            refine lv_iload_n hx hb dX8_isLeast_31 rfl (lv_at hl 1 rfl) ?_
            refine lv_iconst (v := 1) hx hb dX8_isLeast_32 (by decide) ?_
            refine lv_iload_n hx hb dX8_isLeast_33 rfl (lv_at hl 3 rfl) ?_
            refine lv_ishl hx hb dX8_isLeast_34 ?_
            refine lv_iconst (v := (-1)) hx hb dX8_isLeast_35 (by decide) ?_
            refine lv_ixor hx hb dX8_isLeast_36 ?_
            refine lv_iand hx hb dX8_isLeast_37 ?_
            refine va_zald hx hb hK0.1 hP 4 1 rfl rfl (ix_and (ix_self (K := 256) (N := 256) hi00 hi0n (by decide) (by decide))) dX8_isLeast_38 ?_
            refine lv_if_ne (tgt := 46) hx hb dX8_isLeast_39 (by decide) (fun c_6 => ?_) (fun c_6 => ?_)
            · refine lv_iconst (v := 0) hx hb dX8_isLeast_46 (by decide) ?_
              refine lv_istore_n (lv' := [(2, .int 0), (0, .ref (a 0)), (1, .int x0), (3, .int i3_2)]) hx hb dX8_isLeast_47 rfl hl (by decide) rfl (fun ls hl => ?_)
              refine lv_iinc (v := (i3_2 + 1)) (lv' := [(3, .int (i3_2 + 1)), (2, .int 0), (0, .ref (a 0)), (1, .int x0)]) hx hb dX8_isLeast_48 hl (k := 3) rfl rfl (by decide) rfl (fun ls hl => ?_)
              refine lv_goto (tgt := 9) hx hb dX8_isLeast_51 (by decide) ?_
              have hst : f_X8_isLeast_st y10 x0 i2_1 i3_2 = .inl (0, (i3_2 + 1)) := by rw [f_X8_isLeast_st, if_neg c_3, if_neg c_4, if_neg c_5, if_neg c_6]
              have hmu : ((8 : Int32).toInt - ((i3_2 + 1) : Int32).toInt).toNat < ((8 : Int32).toInt - (i3_2 : Int32).toInt).toNat := mu_up c_3
              exact ih0 0 (i3_2 + 1) (Nat.lt_of_lt_of_le hmu (Nat.le_of_lt_succ hlt0)) (lp_inl hst hF0) (by decide) (nn_up hi0_1 c_3) _ (lv_sub hl [2, 3, 1, 0] rfl)
            · refine lv_iconst (v := 1) hx hb dX8_isLeast_42 (by decide) ?_
              refine lv_goto (tgt := 47) hx hb dX8_isLeast_43 (by decide) ?_
              refine lv_istore_n (lv' := [(2, .int 1), (0, .ref (a 0)), (1, .int x0), (3, .int i3_2)]) hx hb dX8_isLeast_47 rfl hl (by decide) rfl (fun ls hl => ?_)
              refine lv_iinc (v := (i3_2 + 1)) (lv' := [(3, .int (i3_2 + 1)), (2, .int 1), (0, .ref (a 0)), (1, .int x0)]) hx hb dX8_isLeast_48 hl (k := 3) rfl rfl (by decide) rfl (fun ls hl => ?_)
              refine lv_goto (tgt := 9) hx hb dX8_isLeast_51 (by decide) ?_
              have hst : f_X8_isLeast_st y10 x0 i2_1 i3_2 = .inl (1, (i3_2 + 1)) := by rw [f_X8_isLeast_st, if_neg c_3, if_neg c_4, if_neg c_5, if_pos c_6]
              have hmu : ((8 : Int32).toInt - ((i3_2 + 1) : Int32).toInt).toNat < ((8 : Int32).toInt - (i3_2 : Int32).toInt).toNat := mu_up c_3
              exact ih0 1 (i3_2 + 1) (Nat.lt_of_lt_of_le hmu (Nat.le_of_lt_succ hlt0)) (lp_inl hst hF0) (by decide) (nn_up hi0_1 c_3) _ (lv_sub hl [2, 3, 1, 0] rfl)
  exact key (((8 : Int32).toInt - (0 : Int32).toInt).toNat + 1) (y10 x0.toNatClampNeg) 0 (Nat.lt_succ_self _) rfl (hwin _) (by decide) _ (lv_sub hl [2, 3, 1, 0] rfl)
theorem hd_X8_dummies_S : yX8_dummies.cls ≠ "java/lang/invoke/MethodHandle" ∧ yX8_dummies.cls ≠ "java/lang/invoke/VarHandle" ∧ (parseMethodDescriptor yX8_dummies.desc).map (fun d => d.parameters.length) = some 0 := by decide +kernel
theorem hd_X8_dummies_V : yX8_dummies.cls = RX8 ∧ yX8_dummies.cls ≠ "java/lang/invoke/MethodHandle" ∧ yX8_dummies.cls ≠ "java/lang/invoke/VarHandle" ∧ (parseMethodDescriptor yX8_dummies.desc).map (fun d => d.parameters.length) = some 0 := ⟨rfl, hd_X8_dummies_S⟩
def f_X8_dummies_st (y7 : (Nat → Int32)) (y10 : (Nat → Int32)) (i1_1 : Int32) (i2_2 : Int32) : (Int32 × Int32) ⊕ (Int32 × Int32) := (if (y7 0) ≤ i2_2 then (.inr (i1_1, i2_2)) else (if (f_X8_isPlayer y7 i2_2) = 0 then (.inl ((i1_1 ||| 0), (i2_2 + 1))) else (if (f_X8_swings y10 i2_2) = 0 then (.inl ((i1_1 ||| (1 <<< (i2_2 &&& 31))), (i2_2 + 1))) else (.inl ((i1_1 ||| 0), (i2_2 + 1))))))
def f_X8_dummies (y7 : (Nat → Int32)) (y10 : (Nat → Int32)) : Int32 := (my_t2 (lp (fun (x : Int32 × Int32) => f_X8_dummies_st y7 y10 x.1 x.2) default ((((y7 0) : Int32).toInt - (0 : Int32).toInt).toNat + 1) (0, 0)) (fun (i1_1 : Int32) (i2_2 : Int32) => i1_1))
set_option maxHeartbeats 400000 in
set_option maxRecDepth 100000 in
theorem c_X8_dummies (l : Launch) (D : va_G) (cy : Nat → ClassId) (g : Nat → Nat) (B : Nat) (a : Nat → Nat) (y0 : Int32) (y1 : Int32) (y2 : Int32) (y3 : Int32) (y4 : Int32) (y5 : Int32) (y6 : Int32) (y7 : (Nat → Int32)) (y8 : (Nat → Int32)) (y9 : (Nat → Int32)) (y10 : (Nat → Int32)) (y11 : (Nat → Int32)) (y12 : (Nat → Int32)) (y13 : (Nat → Int32)) (hm8 : ¬ 8 < (y7 0)) : Met l yX8_dummies wsX8_dummies ({ frames := 2, cells := 0, slots := 0, locals := 44 }) (rdP D cy g B (wModE cy a y0 y1 y2 y3 y4 y5 y6 y7 y8 y9 y10 y11 y12 y13) [.ref (a 0)]) (vp_Si (fun r => r = f_X8_dummies y7 y10)) 0 0 (fun _ => False) := by
  refine Met.ofW (cc := cX8_dummies) (maxL := 3) (ret := (some .int)) (by decide) rfl ?_
  intro p e s m args below meth c s₁ BB hml hv
  obtain ⟨rfl, hP, hK0⟩ := hv
  have hx := BB.exec
  have hb := BB.bytes
  have hr := BB.returns
  have hts := atoms_spec (ws := wsX8_dummies) BB.pre
  have hown : s.vm.findClass RX8 = some m.cls := findClass_of_methodNamed BB.named
  have hlocks := BB.notSynchronized
  have S := my_fix hx hb hml hown hts
  have inX8 : ∀ w ∈ wsX80, w ∈ wsX8_dummies := fun w h => List.mem_cons_of_mem _ (List.mem_append_right _ h)
  have hS : va_S (fun q => B ≤ q) s.heap s.heap [] := va_S.rf
  have hAB : ∀ q : Nat, (fun q => B ≤ q) q → B ≤ q := fun _ h => h
  have hl := lv_entry ([.ref (a 0)]) (n := 3) (Nat.le_of_ble_eq_true rfl)
  rw [lg_entry_eq]
  generalize (lg_sl ([.ref (a 0)]) ++ List.replicate (3 - (lg_sl ([.ref (a 0)])).length) Slot.unset).toArray = ls at hl ⊢
  have hl : lv_has ls 3 [(0, .ref (a 0))] := hl
  refine lv_iconst (v := 0) hx hb dX8_dummies_0 (by decide) ?_
  refine lv_istore_n (lv' := [(1, .int 0), (0, .ref (a 0))]) hx hb dX8_dummies_1 rfl hl (by decide) rfl (fun ls hl => ?_)
  refine lv_iconst (v := 0) hx hb dX8_dummies_2 (by decide) ?_
  refine lv_istore_n (lv' := [(2, .int 0), (1, .int 0), (0, .ref (a 0))]) hx hb dX8_dummies_3 rfl hl (by decide) rfl (fun ls hl => ?_)
  have cont0 : ∀ (i1_1 : Int32) (i2_2 : Int32), lp (fun (x : Int32 × Int32) => f_X8_dummies_st y7 y10 x.1 x.2) default ((((y7 0) : Int32).toInt - (0 : Int32).toInt).toNat + 1) (0, 0) = (i1_1, i2_2) → ¬ i2_2 < 0 → ∀ ls : Array Slot, lv_has ls 3 [(0, .ref (a 0)), (1, .int i1_1), (2, .int i2_2)] → W p l e (headSpec wsX8_dummies ({ frames := 2, cells := 0, slots := 0, locals := 44 } : Room)).room s m ([.ref (a 0)] : List Value).toArray below meth c s.heap [] 0 0 (MQ below (vp_Si (fun r => r = f_X8_dummies y7 y10)) ([.ref (a 0)] : List Value).toArray s 0 0 (fun _ => False)) (F0 m 46 ls []) := by
    intro i1_1 i2_2 hE0 hj0_0 ls hl
    refine lv_iload_n hx hb dX8_dummies_46 rfl (lv_at hl 1 rfl) ?_
    exact W.iret hx hb hr (fun t ht hW => ⟨i1_1, rfl, (show f_X8_dummies y7 y10 = i1_1 from by rw [f_X8_dummies, hE0, my_t2_eq]).symm, ht⟩) (fun q hq => absurd hq List.not_mem_nil) dX8_dummies_47
  have key : ∀ (nf : Nat) (i1_1 : Int32) (i2_2 : Int32), (((y7 0) : Int32).toInt - (i2_2 : Int32).toInt).toNat < nf → lp (fun (x : Int32 × Int32) => f_X8_dummies_st y7 y10 x.1 x.2) default nf (i1_1, i2_2) = lp (fun (x : Int32 × Int32) => f_X8_dummies_st y7 y10 x.1 x.2) default ((((y7 0) : Int32).toInt - (0 : Int32).toInt).toNat + 1) (0, 0) → ¬ i2_2 < 0 → ∀ ls : Array Slot, lv_has ls 3 [(0, .ref (a 0)), (1, .int i1_1), (2, .int i2_2)] → W p l e (headSpec wsX8_dummies ({ frames := 2, cells := 0, slots := 0, locals := 44 } : Room)).room s m ([.ref (a 0)] : List Value).toArray below meth c s.heap [] 0 0 (MQ below (vp_Si (fun r => r = f_X8_dummies y7 y10)) ([.ref (a 0)] : List Value).toArray s 0 0 (fun _ => False)) (F0 m 4 ls []) := by
    intro n0
    induction n0 with
    | zero => intro i1_1 i2_2 hlt; exact absurd hlt (Nat.not_lt_zero _)
    | succ n0 ih0 =>
      intro i1_1 i2_2 hlt0 hF0 hi0_0 ls hl
      refine lv_iload_n hx hb dX8_dummies_4 rfl (lv_at hl 2 rfl) ?_
      refine lv_aload_n hx hb dX8_dummies_5 rfl (lv_at hl 0 rfl) ?_
      refine va_get (D := D) (ci := 6) (v := .ref (a 1)) (C := RX8) (T := TX8) (N := 14) hx hb hts inX8 hown hK0.1 hP 0 rfl rfl 0 (by decide) (hts (.fieldLink RX8 7 "PivotChamberModel" "s" "[I") (List.mem_of_getElem? (i := 1) rfl)) (fun _ h9 => h9) rfl dX8_dummies_6 ?_
      refine lv_iconst (v := 0) hx hb dX8_dummies_9 (by decide) ?_
      refine va_iald hx hb hK0.1 hP 1 0 rfl rfl (vp_in_nI (n := 0) (N := 27) (by decide) (by decide)) dX8_dummies_10 ?_
      refine W.eq (g2 := F0 m 11 ls [.int (y7 0), .int i2_2]) rfl ?_
      refine lv_icmp_ge (tgt := 46) hx hb dX8_dummies_11 (by decide) (fun c_3 => ?_) (fun c_3 => ?_)
      · have hst : f_X8_dummies_st y7 y10 i1_1 i2_2 = .inr (i1_1, i2_2) := by rw [f_X8_dummies_st, if_pos c_3]
        exact cont0 i1_1 i2_2 (lp_inr hst hF0) hi0_0 _ (lv_sub hl [0, 1, 2] rfl)
      · refine lv_iload_n hx hb dX8_dummies_14 rfl (lv_at hl 1 rfl) ?_
        refine lv_aload_n hx hb dX8_dummies_15 rfl (lv_at hl 0 rfl) ?_
        refine lv_iload_n hx hb dX8_dummies_16 rfl (lv_at hl 2 rfl) ?_
        refine rd_goi (va_runV (C := RX8) (As := [.int i2_2]) (rest := [.int i1_1]) S (c_X8_isPlayer l D cy g B a y0 y1 y2 y3 y4 y5 y6 y7 y8 y9 y10 y11 y12 y13 i2_2 hm8) (cwV 1 hts gX8_dummies_X8_isPlayer rfl rfl rfl hd_X8_isPlayer_V ⟨Nat.le_of_ble_eq_true rfl, Nat.le_of_ble_eq_true rfl⟩) ⟨rdP_blind, va_recv hK0.1 hP (ci := 6) (q0 := 0) rfl rfl, my_preP hK0 hS hAB hP⟩ rfl rfl hl.1 rfl (lv_room (Nat.le_of_ble_eq_true rfl)) dX8_dummies_17 ⟨Nat.zero_le _, Nat.zero_le _⟩) ?_
        refine lv_if_eq (tgt := 37) hx hb dX8_dummies_20 (by decide) (fun c_4 => ?_) (fun c_4 => ?_)
        · refine lv_iconst (v := 0) hx hb dX8_dummies_37 (by decide) ?_
          refine lv_ior hx hb dX8_dummies_38 ?_
          refine lv_istore_n (lv' := [(1, .int (i1_1 ||| 0)), (0, .ref (a 0)), (2, .int i2_2)]) hx hb dX8_dummies_39 rfl hl (by decide) rfl (fun ls hl => ?_)
          refine lv_iinc (v := (i2_2 + 1)) (lv' := [(2, .int (i2_2 + 1)), (1, .int (i1_1 ||| 0)), (0, .ref (a 0))]) hx hb dX8_dummies_40 hl (k := 2) rfl rfl (by decide) rfl (fun ls hl => ?_)
          refine lv_goto (tgt := 4) hx hb dX8_dummies_43 (by decide) ?_
          have hst : f_X8_dummies_st y7 y10 i1_1 i2_2 = .inl ((i1_1 ||| 0), (i2_2 + 1)) := by rw [f_X8_dummies_st, if_neg c_3, if_pos c_4]
          have hmu : (((y7 0) : Int32).toInt - ((i2_2 + 1) : Int32).toInt).toNat < (((y7 0) : Int32).toInt - (i2_2 : Int32).toInt).toNat := mu_up c_3
          exact ih0 (i1_1 ||| 0) (i2_2 + 1) (Nat.lt_of_lt_of_le hmu (Nat.le_of_lt_succ hlt0)) (lp_inl hst hF0) (nn_up hi0_0 c_3) _ (lv_sub hl [2, 1, 0] rfl)
        · refine lv_aload_n hx hb dX8_dummies_23 rfl (lv_at hl 0 rfl) ?_
          refine lv_iload_n hx hb dX8_dummies_24 rfl (lv_at hl 2 rfl) ?_
          refine rd_goi (va_runV (C := RX8) (As := [.int i2_2]) (rest := [.int i1_1]) S (c_X8_swings l D cy g B a y0 y1 y2 y3 y4 y5 y6 y7 y8 y9 y10 y11 y12 y13 i2_2) (cwV 1 hts gX8_dummies_X8_swings rfl rfl rfl hd_X8_swings_V ⟨Nat.le_of_ble_eq_true rfl, Nat.le_of_ble_eq_true rfl⟩) ⟨rdP_blind, va_recv hK0.1 hP (ci := 6) (q0 := 0) rfl rfl, my_preP hK0 hS hAB hP⟩ rfl rfl hl.1 rfl (lv_room (Nat.le_of_ble_eq_true rfl)) dX8_dummies_25 ⟨Nat.zero_le _, Nat.zero_le _⟩) ?_
          refine lv_if_ne (tgt := 37) hx hb dX8_dummies_28 (by decide) (fun c_5 => ?_) (fun c_5 => ?_)
          · refine lv_iconst (v := 0) hx hb dX8_dummies_37 (by decide) ?_
            refine lv_ior hx hb dX8_dummies_38 ?_
            refine lv_istore_n (lv' := [(1, .int (i1_1 ||| 0)), (0, .ref (a 0)), (2, .int i2_2)]) hx hb dX8_dummies_39 rfl hl (by decide) rfl (fun ls hl => ?_)
            refine lv_iinc (v := (i2_2 + 1)) (lv' := [(2, .int (i2_2 + 1)), (1, .int (i1_1 ||| 0)), (0, .ref (a 0))]) hx hb dX8_dummies_40 hl (k := 2) rfl rfl (by decide) rfl (fun ls hl => ?_)
            refine lv_goto (tgt := 4) hx hb dX8_dummies_43 (by decide) ?_
            have hst : f_X8_dummies_st y7 y10 i1_1 i2_2 = .inl ((i1_1 ||| 0), (i2_2 + 1)) := by rw [f_X8_dummies_st, if_neg c_3, if_neg c_4, if_neg c_5]
            have hmu : (((y7 0) : Int32).toInt - ((i2_2 + 1) : Int32).toInt).toNat < (((y7 0) : Int32).toInt - (i2_2 : Int32).toInt).toNat := mu_up c_3
            exact ih0 (i1_1 ||| 0) (i2_2 + 1) (Nat.lt_of_lt_of_le hmu (Nat.le_of_lt_succ hlt0)) (lp_inl hst hF0) (nn_up (ip_0 c_4) c_3) _ (lv_sub hl [2, 1, 0] rfl)
          · refine lv_iconst (v := 1) hx hb dX8_dummies_31 (by decide) ?_
            refine lv_iload_n hx hb dX8_dummies_32 rfl (lv_at hl 2 rfl) ?_
            refine lv_ishl hx hb dX8_dummies_33 ?_
            refine lv_goto (tgt := 38) hx hb dX8_dummies_34 (by decide) ?_
            refine lv_ior hx hb dX8_dummies_38 ?_
            refine lv_istore_n (lv' := [(1, .int (i1_1 ||| (1 <<< (i2_2 &&& 31)))), (0, .ref (a 0)), (2, .int i2_2)]) hx hb dX8_dummies_39 rfl hl (by decide) rfl (fun ls hl => ?_)
            refine lv_iinc (v := (i2_2 + 1)) (lv' := [(2, .int (i2_2 + 1)), (1, .int (i1_1 ||| (1 <<< (i2_2 &&& 31)))), (0, .ref (a 0))]) hx hb dX8_dummies_40 hl (k := 2) rfl rfl (by decide) rfl (fun ls hl => ?_)
            refine lv_goto (tgt := 4) hx hb dX8_dummies_43 (by decide) ?_
            have hst : f_X8_dummies_st y7 y10 i1_1 i2_2 = .inl ((i1_1 ||| (1 <<< (i2_2 &&& 31))), (i2_2 + 1)) := by rw [f_X8_dummies_st, if_neg c_3, if_neg c_4, if_pos c_5]
            have hmu : (((y7 0) : Int32).toInt - ((i2_2 + 1) : Int32).toInt).toNat < (((y7 0) : Int32).toInt - (i2_2 : Int32).toInt).toNat := mu_up c_3
            exact ih0 (i1_1 ||| (1 <<< (i2_2 &&& 31))) (i2_2 + 1) (Nat.lt_of_lt_of_le hmu (Nat.le_of_lt_succ hlt0)) (lp_inl hst hF0) (nn_up (ip_0 c_4) c_3) _ (lv_sub hl [2, 1, 0] rfl)
  exact key ((((y7 0) : Int32).toInt - (0 : Int32).toInt).toNat + 1) 0 0 (Nat.lt_succ_self _) rfl (by decide) _ (lv_sub hl [2, 1, 0] rfl)
theorem hd_X8_needed_S : yX8_needed.cls ≠ "java/lang/invoke/MethodHandle" ∧ yX8_needed.cls ≠ "java/lang/invoke/VarHandle" ∧ (parseMethodDescriptor yX8_needed.desc).map (fun d => d.parameters.length) = some 0 := by decide +kernel
theorem hd_X8_needed_V : yX8_needed.cls = RX8 ∧ yX8_needed.cls ≠ "java/lang/invoke/MethodHandle" ∧ yX8_needed.cls ≠ "java/lang/invoke/VarHandle" ∧ (parseMethodDescriptor yX8_needed.desc).map (fun d => d.parameters.length) = some 0 := ⟨rfl, hd_X8_needed_S⟩
def f_X8_needed_st (y4 : Int32) (y7 : (Nat → Int32)) (y10 : (Nat → Int32)) (i1_1 : Int32) (i2_2 : Int32) : (Int32 × Int32) ⊕ (Int32 × Int32) := (if (y7 0) ≤ i2_2 then (.inr (i1_1, i2_2)) else (if (f_X8_isPlayer y7 i2_2) = 0 then (.inl ((i1_1 ||| 0), (i2_2 + 1))) else (if (f_X8_isNeeded y4 y10 i2_2) = 0 then (.inl ((i1_1 ||| 0), (i2_2 + 1))) else (.inl ((i1_1 ||| (1 <<< (i2_2 &&& 31))), (i2_2 + 1))))))
def f_X8_needed (y4 : Int32) (y7 : (Nat → Int32)) (y10 : (Nat → Int32)) : Int32 := (my_t2 (lp (fun (x : Int32 × Int32) => f_X8_needed_st y4 y7 y10 x.1 x.2) default ((((y7 0) : Int32).toInt - (0 : Int32).toInt).toNat + 1) (0, 0)) (fun (i1_1 : Int32) (i2_2 : Int32) => i1_1))
set_option maxHeartbeats 400000 in
set_option maxRecDepth 100000 in
theorem c_X8_needed (l : Launch) (D : va_G) (cy : Nat → ClassId) (g : Nat → Nat) (B : Nat) (a : Nat → Nat) (y0 : Int32) (y1 : Int32) (y2 : Int32) (y3 : Int32) (y4 : Int32) (y5 : Int32) (y6 : Int32) (y7 : (Nat → Int32)) (y8 : (Nat → Int32)) (y9 : (Nat → Int32)) (y10 : (Nat → Int32)) (y11 : (Nat → Int32)) (y12 : (Nat → Int32)) (y13 : (Nat → Int32)) (hm8 : ¬ 8 < (y7 0)) (hwin : ∀ j : Nat, y10 j = 0 ∨ y10 j = 1) (hall0 : ¬ y4 < 0) (hall : ¬ 256 ≤ y4) : Met l yX8_needed wsX8_needed ({ frames := 2, cells := 0, slots := 0, locals := 44 }) (rdP D cy g B (wModE cy a y0 y1 y2 y3 y4 y5 y6 y7 y8 y9 y10 y11 y12 y13) [.ref (a 0)]) (vp_Si (fun r => r = f_X8_needed y4 y7 y10)) 0 0 (fun _ => False) := by
  refine Met.ofW (cc := cX8_needed) (maxL := 3) (ret := (some .int)) (by decide) rfl ?_
  intro p e s m args below meth c s₁ BB hml hv
  obtain ⟨rfl, hP, hK0⟩ := hv
  have hx := BB.exec
  have hb := BB.bytes
  have hr := BB.returns
  have hts := atoms_spec (ws := wsX8_needed) BB.pre
  have hown : s.vm.findClass RX8 = some m.cls := findClass_of_methodNamed BB.named
  have hlocks := BB.notSynchronized
  have S := my_fix hx hb hml hown hts
  have inX8 : ∀ w ∈ wsX80, w ∈ wsX8_needed := fun w h => List.mem_cons_of_mem _ (List.mem_append_right _ h)
  have hS : va_S (fun q => B ≤ q) s.heap s.heap [] := va_S.rf
  have hAB : ∀ q : Nat, (fun q => B ≤ q) q → B ≤ q := fun _ h => h
  have hl := lv_entry ([.ref (a 0)]) (n := 3) (Nat.le_of_ble_eq_true rfl)
  rw [lg_entry_eq]
  generalize (lg_sl ([.ref (a 0)]) ++ List.replicate (3 - (lg_sl ([.ref (a 0)])).length) Slot.unset).toArray = ls at hl ⊢
  have hl : lv_has ls 3 [(0, .ref (a 0))] := hl
  refine lv_iconst (v := 0) hx hb dX8_needed_0 (by decide) ?_
  refine lv_istore_n (lv' := [(1, .int 0), (0, .ref (a 0))]) hx hb dX8_needed_1 rfl hl (by decide) rfl (fun ls hl => ?_)
  refine lv_iconst (v := 0) hx hb dX8_needed_2 (by decide) ?_
  refine lv_istore_n (lv' := [(2, .int 0), (1, .int 0), (0, .ref (a 0))]) hx hb dX8_needed_3 rfl hl (by decide) rfl (fun ls hl => ?_)
  have cont0 : ∀ (i1_1 : Int32) (i2_2 : Int32), lp (fun (x : Int32 × Int32) => f_X8_needed_st y4 y7 y10 x.1 x.2) default ((((y7 0) : Int32).toInt - (0 : Int32).toInt).toNat + 1) (0, 0) = (i1_1, i2_2) → ¬ i2_2 < 0 → ∀ ls : Array Slot, lv_has ls 3 [(0, .ref (a 0)), (1, .int i1_1), (2, .int i2_2)] → W p l e (headSpec wsX8_needed ({ frames := 2, cells := 0, slots := 0, locals := 44 } : Room)).room s m ([.ref (a 0)] : List Value).toArray below meth c s.heap [] 0 0 (MQ below (vp_Si (fun r => r = f_X8_needed y4 y7 y10)) ([.ref (a 0)] : List Value).toArray s 0 0 (fun _ => False)) (F0 m 46 ls []) := by
    intro i1_1 i2_2 hE0 hj0_0 ls hl
    refine lv_iload_n hx hb dX8_needed_46 rfl (lv_at hl 1 rfl) ?_
    exact W.iret hx hb hr (fun t ht hW => ⟨i1_1, rfl, (show f_X8_needed y4 y7 y10 = i1_1 from by rw [f_X8_needed, hE0, my_t2_eq]).symm, ht⟩) (fun q hq => absurd hq List.not_mem_nil) dX8_needed_47
  have key : ∀ (nf : Nat) (i1_1 : Int32) (i2_2 : Int32), (((y7 0) : Int32).toInt - (i2_2 : Int32).toInt).toNat < nf → lp (fun (x : Int32 × Int32) => f_X8_needed_st y4 y7 y10 x.1 x.2) default nf (i1_1, i2_2) = lp (fun (x : Int32 × Int32) => f_X8_needed_st y4 y7 y10 x.1 x.2) default ((((y7 0) : Int32).toInt - (0 : Int32).toInt).toNat + 1) (0, 0) → ¬ i2_2 < 0 → ∀ ls : Array Slot, lv_has ls 3 [(0, .ref (a 0)), (1, .int i1_1), (2, .int i2_2)] → W p l e (headSpec wsX8_needed ({ frames := 2, cells := 0, slots := 0, locals := 44 } : Room)).room s m ([.ref (a 0)] : List Value).toArray below meth c s.heap [] 0 0 (MQ below (vp_Si (fun r => r = f_X8_needed y4 y7 y10)) ([.ref (a 0)] : List Value).toArray s 0 0 (fun _ => False)) (F0 m 4 ls []) := by
    intro n0
    induction n0 with
    | zero => intro i1_1 i2_2 hlt; exact absurd hlt (Nat.not_lt_zero _)
    | succ n0 ih0 =>
      intro i1_1 i2_2 hlt0 hF0 hi0_0 ls hl
      refine lv_iload_n hx hb dX8_needed_4 rfl (lv_at hl 2 rfl) ?_
      refine lv_aload_n hx hb dX8_needed_5 rfl (lv_at hl 0 rfl) ?_
      refine va_get (D := D) (ci := 6) (v := .ref (a 1)) (C := RX8) (T := TX8) (N := 14) hx hb hts inX8 hown hK0.1 hP 0 rfl rfl 0 (by decide) (hts (.fieldLink RX8 7 "PivotChamberModel" "s" "[I") (List.mem_of_getElem? (i := 1) rfl)) (fun _ h9 => h9) rfl dX8_needed_6 ?_
      refine lv_iconst (v := 0) hx hb dX8_needed_9 (by decide) ?_
      refine va_iald hx hb hK0.1 hP 1 0 rfl rfl (vp_in_nI (n := 0) (N := 27) (by decide) (by decide)) dX8_needed_10 ?_
      refine W.eq (g2 := F0 m 11 ls [.int (y7 0), .int i2_2]) rfl ?_
      refine lv_icmp_ge (tgt := 46) hx hb dX8_needed_11 (by decide) (fun c_3 => ?_) (fun c_3 => ?_)
      · have hst : f_X8_needed_st y4 y7 y10 i1_1 i2_2 = .inr (i1_1, i2_2) := by rw [f_X8_needed_st, if_pos c_3]
        exact cont0 i1_1 i2_2 (lp_inr hst hF0) hi0_0 _ (lv_sub hl [0, 1, 2] rfl)
      · refine lv_iload_n hx hb dX8_needed_14 rfl (lv_at hl 1 rfl) ?_
        refine lv_aload_n hx hb dX8_needed_15 rfl (lv_at hl 0 rfl) ?_
        refine lv_iload_n hx hb dX8_needed_16 rfl (lv_at hl 2 rfl) ?_
        refine rd_goi (va_runV (C := RX8) (As := [.int i2_2]) (rest := [.int i1_1]) S (c_X8_isPlayer l D cy g B a y0 y1 y2 y3 y4 y5 y6 y7 y8 y9 y10 y11 y12 y13 i2_2 hm8) (cwV 1 hts gX8_needed_X8_isPlayer rfl rfl rfl hd_X8_isPlayer_V ⟨Nat.le_of_ble_eq_true rfl, Nat.le_of_ble_eq_true rfl⟩) ⟨rdP_blind, va_recv hK0.1 hP (ci := 6) (q0 := 0) rfl rfl, my_preP hK0 hS hAB hP⟩ rfl rfl hl.1 rfl (lv_room (Nat.le_of_ble_eq_true rfl)) dX8_needed_17 ⟨Nat.zero_le _, Nat.zero_le _⟩) ?_
        refine lv_if_eq (tgt := 37) hx hb dX8_needed_20 (by decide) (fun c_4 => ?_) (fun c_4 => ?_)
        · refine lv_iconst (v := 0) hx hb dX8_needed_37 (by decide) ?_
          refine lv_ior hx hb dX8_needed_38 ?_
          refine lv_istore_n (lv' := [(1, .int (i1_1 ||| 0)), (0, .ref (a 0)), (2, .int i2_2)]) hx hb dX8_needed_39 rfl hl (by decide) rfl (fun ls hl => ?_)
          refine lv_iinc (v := (i2_2 + 1)) (lv' := [(2, .int (i2_2 + 1)), (1, .int (i1_1 ||| 0)), (0, .ref (a 0))]) hx hb dX8_needed_40 hl (k := 2) rfl rfl (by decide) rfl (fun ls hl => ?_)
          refine lv_goto (tgt := 4) hx hb dX8_needed_43 (by decide) ?_
          have hst : f_X8_needed_st y4 y7 y10 i1_1 i2_2 = .inl ((i1_1 ||| 0), (i2_2 + 1)) := by rw [f_X8_needed_st, if_neg c_3, if_pos c_4]
          have hmu : (((y7 0) : Int32).toInt - ((i2_2 + 1) : Int32).toInt).toNat < (((y7 0) : Int32).toInt - (i2_2 : Int32).toInt).toNat := mu_up c_3
          exact ih0 (i1_1 ||| 0) (i2_2 + 1) (Nat.lt_of_lt_of_le hmu (Nat.le_of_lt_succ hlt0)) (lp_inl hst hF0) (nn_up hi0_0 c_3) _ (lv_sub hl [2, 1, 0] rfl)
        · refine lv_aload_n hx hb dX8_needed_23 rfl (lv_at hl 0 rfl) ?_
          refine lv_iload_n hx hb dX8_needed_24 rfl (lv_at hl 2 rfl) ?_
          refine rd_goi (va_runV (C := RX8) (As := [.int i2_2]) (rest := [.int i1_1]) S (c_X8_isNeeded l D cy g B a y0 y1 y2 y3 y4 y5 y6 y7 y8 y9 y10 y11 y12 y13 i2_2 hwin hall0 hall) (cwV 1 hts gX8_needed_X8_isNeeded rfl rfl rfl hd_X8_isNeeded_V ⟨Nat.le_of_ble_eq_true rfl, Nat.le_of_ble_eq_true rfl⟩) ⟨rdP_blind, va_recv hK0.1 hP (ci := 6) (q0 := 0) rfl rfl, my_preP hK0 hS hAB hP⟩ rfl rfl hl.1 rfl (lv_room (Nat.le_of_ble_eq_true rfl)) dX8_needed_25 ⟨Nat.zero_le _, Nat.zero_le _⟩) ?_
          refine lv_if_eq (tgt := 37) hx hb dX8_needed_28 (by decide) (fun c_5 => ?_) (fun c_5 => ?_)
          · refine lv_iconst (v := 0) hx hb dX8_needed_37 (by decide) ?_
            refine lv_ior hx hb dX8_needed_38 ?_
            refine lv_istore_n (lv' := [(1, .int (i1_1 ||| 0)), (0, .ref (a 0)), (2, .int i2_2)]) hx hb dX8_needed_39 rfl hl (by decide) rfl (fun ls hl => ?_)
            refine lv_iinc (v := (i2_2 + 1)) (lv' := [(2, .int (i2_2 + 1)), (1, .int (i1_1 ||| 0)), (0, .ref (a 0))]) hx hb dX8_needed_40 hl (k := 2) rfl rfl (by decide) rfl (fun ls hl => ?_)
            refine lv_goto (tgt := 4) hx hb dX8_needed_43 (by decide) ?_
            have hst : f_X8_needed_st y4 y7 y10 i1_1 i2_2 = .inl ((i1_1 ||| 0), (i2_2 + 1)) := by rw [f_X8_needed_st, if_neg c_3, if_neg c_4, if_pos c_5]
            have hmu : (((y7 0) : Int32).toInt - ((i2_2 + 1) : Int32).toInt).toNat < (((y7 0) : Int32).toInt - (i2_2 : Int32).toInt).toNat := mu_up c_3
            exact ih0 (i1_1 ||| 0) (i2_2 + 1) (Nat.lt_of_lt_of_le hmu (Nat.le_of_lt_succ hlt0)) (lp_inl hst hF0) (nn_up (ip_0 c_4) c_3) _ (lv_sub hl [2, 1, 0] rfl)
          · refine lv_iconst (v := 1) hx hb dX8_needed_31 (by decide) ?_
            refine lv_iload_n hx hb dX8_needed_32 rfl (lv_at hl 2 rfl) ?_
            refine lv_ishl hx hb dX8_needed_33 ?_
            refine lv_goto (tgt := 38) hx hb dX8_needed_34 (by decide) ?_
            refine lv_ior hx hb dX8_needed_38 ?_
            refine lv_istore_n (lv' := [(1, .int (i1_1 ||| (1 <<< (i2_2 &&& 31)))), (0, .ref (a 0)), (2, .int i2_2)]) hx hb dX8_needed_39 rfl hl (by decide) rfl (fun ls hl => ?_)
            refine lv_iinc (v := (i2_2 + 1)) (lv' := [(2, .int (i2_2 + 1)), (1, .int (i1_1 ||| (1 <<< (i2_2 &&& 31)))), (0, .ref (a 0))]) hx hb dX8_needed_40 hl (k := 2) rfl rfl (by decide) rfl (fun ls hl => ?_)
            refine lv_goto (tgt := 4) hx hb dX8_needed_43 (by decide) ?_
            have hst : f_X8_needed_st y4 y7 y10 i1_1 i2_2 = .inl ((i1_1 ||| (1 <<< (i2_2 &&& 31))), (i2_2 + 1)) := by rw [f_X8_needed_st, if_neg c_3, if_neg c_4, if_neg c_5]
            have hmu : (((y7 0) : Int32).toInt - ((i2_2 + 1) : Int32).toInt).toNat < (((y7 0) : Int32).toInt - (i2_2 : Int32).toInt).toNat := mu_up c_3
            exact ih0 (i1_1 ||| (1 <<< (i2_2 &&& 31))) (i2_2 + 1) (Nat.lt_of_lt_of_le hmu (Nat.le_of_lt_succ hlt0)) (lp_inl hst hF0) (nn_up (ip_0 c_4) c_3) _ (lv_sub hl [2, 1, 0] rfl)
  exact key ((((y7 0) : Int32).toInt - (0 : Int32).toInt).toNat + 1) 0 0 (Nat.lt_succ_self _) rfl (by decide) _ (lv_sub hl [2, 1, 0] rfl)
theorem hd_X8_many_S : yX8_many.cls ≠ "java/lang/invoke/MethodHandle" ∧ yX8_many.cls ≠ "java/lang/invoke/VarHandle" ∧ (parseMethodDescriptor yX8_many.desc).map (fun d => d.parameters.length) = some 1 := by decide +kernel
theorem hd_X8_many_V : yX8_many.cls = RX8 ∧ yX8_many.cls ≠ "java/lang/invoke/MethodHandle" ∧ yX8_many.cls ≠ "java/lang/invoke/VarHandle" ∧ (parseMethodDescriptor yX8_many.desc).map (fun d => d.parameters.length) = some 1 := ⟨rfl, hd_X8_many_S⟩
def f_X8_many_st (y10 : (Nat → Int32)) (x0 : Int32) (i2_1 : Int32) (i3_2 : Int32) : (Int32 × Int32) ⊕ (Int32 × Int32) := (if 256 ≤ i3_2 then (.inr (i2_1, i3_2)) else (if x0 = 0 then (if (y10 i3_2.toNatClampNeg) = 0 then (.inl ((i2_1 + 0), (i3_2 + 1))) else (.inl ((i2_1 + 1), (i3_2 + 1)))) else (if (f_X8_isLeast y10 i3_2) = 0 then (.inl ((i2_1 + 0), (i3_2 + 1))) else (.inl ((i2_1 + 1), (i3_2 + 1))))))
def f_X8_many (y10 : (Nat → Int32)) (x0 : Int32) : Int32 := (my_t2 (lp (fun (x : Int32 × Int32) => f_X8_many_st y10 x0 x.1 x.2) default (((256 : Int32).toInt - (0 : Int32).toInt).toNat + 1) (0, 0)) (fun (i2_1 : Int32) (i3_2 : Int32) => i2_1))
set_option maxHeartbeats 400000 in
set_option maxRecDepth 100000 in
theorem c_X8_many (l : Launch) (D : va_G) (cy : Nat → ClassId) (g : Nat → Nat) (B : Nat) (a : Nat → Nat) (y0 : Int32) (y1 : Int32) (y2 : Int32) (y3 : Int32) (y4 : Int32) (y5 : Int32) (y6 : Int32) (y7 : (Nat → Int32)) (y8 : (Nat → Int32)) (y9 : (Nat → Int32)) (y10 : (Nat → Int32)) (y11 : (Nat → Int32)) (y12 : (Nat → Int32)) (y13 : (Nat → Int32)) (x0 : Int32) (hwin : ∀ j : Nat, y10 j = 0 ∨ y10 j = 1) : Met l yX8_many wsX8_many ({ frames := 2, cells := 0, slots := 0, locals := 44 }) (rdP D cy g B (wModE cy a y0 y1 y2 y3 y4 y5 y6 y7 y8 y9 y10 y11 y12 y13) [.ref (a 0), .int x0]) (vp_Si (fun r => r = f_X8_many y10 x0)) 0 0 (fun _ => False) := by
  refine Met.ofW (cc := cX8_many) (maxL := 4) (ret := (some .int)) (by decide) rfl ?_
  intro p e s m args below meth c s₁ BB hml hv
  obtain ⟨rfl, hP, hK0⟩ := hv
  have hx := BB.exec
  have hb := BB.bytes
  have hr := BB.returns
  have hts := atoms_spec (ws := wsX8_many) BB.pre
  have hown : s.vm.findClass RX8 = some m.cls := findClass_of_methodNamed BB.named
  have hlocks := BB.notSynchronized
  have S := my_fix hx hb hml hown hts
  have inX8 : ∀ w ∈ wsX80, w ∈ wsX8_many := fun w h => List.mem_cons_of_mem _ (List.mem_append_right _ h)
  have hS : va_S (fun q => B ≤ q) s.heap s.heap [] := va_S.rf
  have hAB : ∀ q : Nat, (fun q => B ≤ q) q → B ≤ q := fun _ h => h
  have hl := lv_entry ([.ref (a 0), .int x0]) (n := 4) (Nat.le_of_ble_eq_true rfl)
  rw [lg_entry_eq]
  generalize (lg_sl ([.ref (a 0), .int x0]) ++ List.replicate (4 - (lg_sl ([.ref (a 0), .int x0])).length) Slot.unset).toArray = ls at hl ⊢
  have hl : lv_has ls 4 [(0, .ref (a 0)), (1, .int x0)] := hl
  refine lv_iconst (v := 0) hx hb dX8_many_0 (by decide) ?_
  refine lv_istore_n (lv' := [(2, .int 0), (0, .ref (a 0)), (1, .int x0)]) hx hb dX8_many_1 rfl hl (by decide) rfl (fun ls hl => ?_)
  refine lv_iconst (v := 0) hx hb dX8_many_2 (by decide) ?_
  refine lv_istore_n (lv' := [(3, .int 0), (2, .int 0), (0, .ref (a 0)), (1, .int x0)]) hx hb dX8_many_3 rfl hl (by decide) rfl (fun ls hl => ?_)
  have cont0 : ∀ (i2_1 : Int32) (i3_2 : Int32), lp (fun (x : Int32 × Int32) => f_X8_many_st y10 x0 x.1 x.2) default (((256 : Int32).toInt - (0 : Int32).toInt).toNat + 1) (0, 0) = (i2_1, i3_2) → ¬ i3_2 < 0 → ∀ ls : Array Slot, lv_has ls 4 [(0, .ref (a 0)), (1, .int x0), (2, .int i2_1), (3, .int i3_2)] → W p l e (headSpec wsX8_many ({ frames := 2, cells := 0, slots := 0, locals := 44 } : Room)).room s m ([.ref (a 0), .int x0] : List Value).toArray below meth c s.heap [] 0 0 (MQ below (vp_Si (fun r => r = f_X8_many y10 x0)) ([.ref (a 0), .int x0] : List Value).toArray s 0 0 (fun _ => False)) (F0 m 49 ls []) := by
    intro i2_1 i3_2 hE0 hj0_0 ls hl
    refine lv_iload_n hx hb dX8_many_49 rfl (lv_at hl 2 rfl) ?_
    exact W.iret hx hb hr (fun t ht hW => ⟨i2_1, rfl, (show f_X8_many y10 x0 = i2_1 from by rw [f_X8_many, hE0, my_t2_eq]).symm, ht⟩) (fun q hq => absurd hq List.not_mem_nil) dX8_many_50
  have key : ∀ (nf : Nat) (i2_1 : Int32) (i3_2 : Int32), ((256 : Int32).toInt - (i3_2 : Int32).toInt).toNat < nf → lp (fun (x : Int32 × Int32) => f_X8_many_st y10 x0 x.1 x.2) default nf (i2_1, i3_2) = lp (fun (x : Int32 × Int32) => f_X8_many_st y10 x0 x.1 x.2) default (((256 : Int32).toInt - (0 : Int32).toInt).toNat + 1) (0, 0) → ¬ i3_2 < 0 → ∀ ls : Array Slot, lv_has ls 4 [(0, .ref (a 0)), (1, .int x0), (2, .int i2_1), (3, .int i3_2)] → W p l e (headSpec wsX8_many ({ frames := 2, cells := 0, slots := 0, locals := 44 } : Room)).room s m ([.ref (a 0), .int x0] : List Value).toArray below meth c s.heap [] 0 0 (MQ below (vp_Si (fun r => r = f_X8_many y10 x0)) ([.ref (a 0), .int x0] : List Value).toArray s 0 0 (fun _ => False)) (F0 m 4 ls []) := by
    intro n0
    induction n0 with
    | zero => intro i2_1 i3_2 hlt; exact absurd hlt (Nat.not_lt_zero _)
    | succ n0 ih0 =>
      intro i2_1 i3_2 hlt0 hF0 hi0_0 ls hl
      refine lv_iload_n hx hb dX8_many_4 rfl (lv_at hl 3 rfl) ?_
      refine lv_sipush (v := 256) hx hb dX8_many_5 (by decide) ?_
      refine lv_icmp_ge (tgt := 49) hx hb dX8_many_8 (by decide) (fun c_3 => ?_) (fun c_3 => ?_)
      · have hst : f_X8_many_st y10 x0 i2_1 i3_2 = .inr (i2_1, i3_2) := by rw [f_X8_many_st, if_pos c_3]
        exact cont0 i2_1 i3_2 (lp_inr hst hF0) hi0_0 _ (lv_sub hl [0, 1, 2, 3] rfl)
      · refine lv_iload_n hx hb dX8_many_11 rfl (lv_at hl 2 rfl) ?_
        refine lv_iload_n hx hb dX8_many_12 rfl (lv_at hl 1 rfl) ?_
        refine lv_if_eq (tgt := 27) hx hb dX8_many_13 (by decide) (fun c_4 => ?_) (fun c_4 => ?_)
        · refine lv_aload_n hx hb dX8_many_27 rfl (lv_at hl 0 rfl) ?_
          refine va_get (D := D) (ci := 6) (v := .ref (a 4)) (C := RX8) (T := TX8) (N := 14) hx hb hts inX8 hown hK0.1 hP 0 rfl rfl 7 (by decide) (hts (.fieldLink RX8 19 "PivotChamberModel" "win" "[Z") (List.mem_of_getElem? (i := 1) rfl)) (fun _ h9 => h9) rfl dX8_many_28 ?_
          refine lv_iload_n hx hb dX8_many_31 rfl (lv_at hl 3 rfl) ?_
          refine va_zald hx hb hK0.1 hP 4 1 rfl rfl (ix_self (K := 256) (N := 256) hi0_0 c_3 (by decide) (by decide)) dX8_many_32 ?_
          refine lv_if_eq (tgt := 40) hx hb dX8_many_33 (by decide) (fun c_5 => ?_) (fun c_5 => ?_)
          · refine lv_iconst (v := 0) hx hb dX8_many_40 (by decide) ?_
            refine lv_iadd hx hb dX8_many_41 ?_
            refine lv_istore_n (lv' := [(2, .int (i2_1 + 0)), (0, .ref (a 0)), (1, .int x0), (3, .int i3_2)]) hx hb dX8_many_42 rfl hl (by decide) rfl (fun ls hl => ?_)
            refine lv_iinc (v := (i3_2 + 1)) (lv' := [(3, .int (i3_2 + 1)), (2, .int (i2_1 + 0)), (0, .ref (a 0)), (1, .int x0)]) hx hb dX8_many_43 hl (k := 3) rfl rfl (by decide) rfl (fun ls hl => ?_)
            refine lv_goto (tgt := 4) hx hb dX8_many_46 (by decide) ?_
            have hst : f_X8_many_st y10 x0 i2_1 i3_2 = .inl ((i2_1 + 0), (i3_2 + 1)) := by rw [f_X8_many_st, if_neg c_3, if_pos c_4, if_pos c_5]
            have hmu : ((256 : Int32).toInt - ((i3_2 + 1) : Int32).toInt).toNat < ((256 : Int32).toInt - (i3_2 : Int32).toInt).toNat := mu_up c_3
            exact ih0 (i2_1 + 0) (i3_2 + 1) (Nat.lt_of_lt_of_le hmu (Nat.le_of_lt_succ hlt0)) (lp_inl hst hF0) (nn_up hi0_0 c_3) _ (lv_sub hl [2, 3, 1, 0] rfl)
          · refine lv_iconst (v := 1) hx hb dX8_many_36 (by decide) ?_
            refine lv_goto (tgt := 41) hx hb dX8_many_37 (by decide) ?_
            refine lv_iadd hx hb dX8_many_41 ?_
            refine lv_istore_n (lv' := [(2, .int (i2_1 + 1)), (0, .ref (a 0)), (1, .int x0), (3, .int i3_2)]) hx hb dX8_many_42 rfl hl (by decide) rfl (fun ls hl => ?_)
            refine lv_iinc (v := (i3_2 + 1)) (lv' := [(3, .int (i3_2 + 1)), (2, .int (i2_1 + 1)), (0, .ref (a 0)), (1, .int x0)]) hx hb dX8_many_43 hl (k := 3) rfl rfl (by decide) rfl (fun ls hl => ?_)
            refine lv_goto (tgt := 4) hx hb dX8_many_46 (by decide) ?_
            have hst : f_X8_many_st y10 x0 i2_1 i3_2 = .inl ((i2_1 + 1), (i3_2 + 1)) := by rw [f_X8_many_st, if_neg c_3, if_pos c_4, if_neg c_5]
            have hmu : ((256 : Int32).toInt - ((i3_2 + 1) : Int32).toInt).toNat < ((256 : Int32).toInt - (i3_2 : Int32).toInt).toNat := mu_up c_3
            exact ih0 (i2_1 + 1) (i3_2 + 1) (Nat.lt_of_lt_of_le hmu (Nat.le_of_lt_succ hlt0)) (lp_inl hst hF0) (nn_up hi0_0 c_3) _ (lv_sub hl [2, 3, 1, 0] rfl)
        · refine lv_aload_n hx hb dX8_many_16 rfl (lv_at hl 0 rfl) ?_
          refine lv_iload_n hx hb dX8_many_17 rfl (lv_at hl 3 rfl) ?_
          refine rd_goi (va_runV (C := RX8) (As := [.int i3_2]) (rest := [.int i2_1]) S (c_X8_isLeast l D cy g B a y0 y1 y2 y3 y4 y5 y6 y7 y8 y9 y10 y11 y12 y13 i3_2 hwin hi0_0 c_3) (cwV 1 hts gX8_many_X8_isLeast rfl rfl rfl hd_X8_isLeast_V ⟨Nat.le_of_ble_eq_true rfl, Nat.le_of_ble_eq_true rfl⟩) ⟨rdP_blind, va_recv hK0.1 hP (ci := 6) (q0 := 0) rfl rfl, my_preP hK0 hS hAB hP⟩ rfl rfl hl.1 rfl (lv_room (Nat.le_of_ble_eq_true rfl)) dX8_many_18 ⟨Nat.zero_le _, Nat.zero_le _⟩) ?_
          refine lv_if_eq (tgt := 40) hx hb dX8_many_21 (by decide) (fun c_6 => ?_) (fun c_6 => ?_)
          · refine lv_iconst (v := 0) hx hb dX8_many_40 (by decide) ?_
            refine lv_iadd hx hb dX8_many_41 ?_
            refine lv_istore_n (lv' := [(2, .int (i2_1 + 0)), (0, .ref (a 0)), (1, .int x0), (3, .int i3_2)]) hx hb dX8_many_42 rfl hl (by decide) rfl (fun ls hl => ?_)
            refine lv_iinc (v := (i3_2 + 1)) (lv' := [(3, .int (i3_2 + 1)), (2, .int (i2_1 + 0)), (0, .ref (a 0)), (1, .int x0)]) hx hb dX8_many_43 hl (k := 3) rfl rfl (by decide) rfl (fun ls hl => ?_)
            refine lv_goto (tgt := 4) hx hb dX8_many_46 (by decide) ?_
            have hst : f_X8_many_st y10 x0 i2_1 i3_2 = .inl ((i2_1 + 0), (i3_2 + 1)) := by rw [f_X8_many_st, if_neg c_3, if_neg c_4, if_pos c_6]
            have hmu : ((256 : Int32).toInt - ((i3_2 + 1) : Int32).toInt).toNat < ((256 : Int32).toInt - (i3_2 : Int32).toInt).toNat := mu_up c_3
            exact ih0 (i2_1 + 0) (i3_2 + 1) (Nat.lt_of_lt_of_le hmu (Nat.le_of_lt_succ hlt0)) (lp_inl hst hF0) (nn_up hi0_0 c_3) _ (lv_sub hl [2, 3, 1, 0] rfl)
          · refine lv_goto (tgt := 36) hx hb dX8_many_24 (by decide) ?_
            refine lv_iconst (v := 1) hx hb dX8_many_36 (by decide) ?_
            refine lv_goto (tgt := 41) hx hb dX8_many_37 (by decide) ?_
            refine lv_iadd hx hb dX8_many_41 ?_
            refine lv_istore_n (lv' := [(2, .int (i2_1 + 1)), (0, .ref (a 0)), (1, .int x0), (3, .int i3_2)]) hx hb dX8_many_42 rfl hl (by decide) rfl (fun ls hl => ?_)
            refine lv_iinc (v := (i3_2 + 1)) (lv' := [(3, .int (i3_2 + 1)), (2, .int (i2_1 + 1)), (0, .ref (a 0)), (1, .int x0)]) hx hb dX8_many_43 hl (k := 3) rfl rfl (by decide) rfl (fun ls hl => ?_)
            refine lv_goto (tgt := 4) hx hb dX8_many_46 (by decide) ?_
            have hst : f_X8_many_st y10 x0 i2_1 i3_2 = .inl ((i2_1 + 1), (i3_2 + 1)) := by rw [f_X8_many_st, if_neg c_3, if_neg c_4, if_neg c_6]
            have hmu : ((256 : Int32).toInt - ((i3_2 + 1) : Int32).toInt).toNat < ((256 : Int32).toInt - (i3_2 : Int32).toInt).toNat := mu_up c_3
            exact ih0 (i2_1 + 1) (i3_2 + 1) (Nat.lt_of_lt_of_le hmu (Nat.le_of_lt_succ hlt0)) (lp_inl hst hF0) (nn_up hi0_0 c_3) _ (lv_sub hl [2, 3, 1, 0] rfl)
  exact key (((256 : Int32).toInt - (0 : Int32).toInt).toNat + 1) 0 0 (Nat.lt_succ_self _) rfl (by decide) _ (lv_sub hl [2, 3, 1, 0] rfl)
