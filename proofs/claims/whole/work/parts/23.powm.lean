theorem hd_X3_findYesSayers_S : yX3_findYesSayers.cls ≠ "java/lang/invoke/MethodHandle" ∧ yX3_findYesSayers.cls ≠ "java/lang/invoke/VarHandle" ∧ (parseMethodDescriptor yX3_findYesSayers.desc).map (fun d => d.parameters.length) = some 1 := by decide +kernel
theorem hd_X3_findYesSayers_V : yX3_findYesSayers.cls = RX3 ∧ yX3_findYesSayers.cls ≠ "java/lang/invoke/MethodHandle" ∧ yX3_findYesSayers.cls ≠ "java/lang/invoke/VarHandle" ∧ (parseMethodDescriptor yX3_findYesSayers.desc).map (fun d => d.parameters.length) = some 1 := ⟨rfl, hd_X3_findYesSayers_S⟩
def f_X3_findYesSayers_st1 (v : SetV) (i2_3 : Int32) (i4_6 : Int32) (w06_7 : (Nat → Int32)) : (Int32 × (Nat → Int32)) ⊕ (Int32 × (Nat → Int32)) := (if (2 <<< (i2_3 &&& 31)) ≤ i4_6 then (.inr (i4_6, w06_7)) else (.inl ((i4_6 + 1), (rPut 256 w06_7 i4_6 ((rAt 256 w06_7 (i4_6 - (1 <<< (i2_3 &&& 31)))) ||| (f_X6_blocOf v i2_3))))))
def f_X3_findYesSayers_st (v : SetV) (i2_3 : Int32) (w06_4 : (Nat → Int32)) : (Int32 × (Nat → Int32)) ⊕ (Int32 × (Nat → Int32)) := (if 8 ≤ i2_3 then (.inr (i2_3, w06_4)) else (my_t2 (lp (fun (x : Int32 × (Nat → Int32)) => f_X3_findYesSayers_st1 v i2_3 x.1 x.2) default ((((2 <<< (i2_3 &&& 31)) : Int32).toInt - ((1 <<< (i2_3 &&& 31)) : Int32).toInt).toNat + 1) ((1 <<< (i2_3 &&& 31)), w06_4)) (fun (i4_6 : Int32) (w06_7 : (Nat → Int32)) => (.inl ((i2_3 + 1), w06_7)))))
def f_X3_findYesSayers (w : PowV) (v : SetV) : PowV := (my_t2 (lp (fun (x : Int32 × (Nat → Int32)) => f_X3_findYesSayers_st v x.1 x.2) default (((8 : Int32).toInt - (0 : Int32).toInt).toNat + 1) (0, (f_X4_empty 256 w.2.2.2.2.2.2.1))) (fun (i2_3 : Int32) (w06_4 : (Nat → Int32)) => (w.1, w.2.1, w.2.2.1, w.2.2.2.1, w.2.2.2.2.1, w.2.2.2.2.2.1, w06_4, w.2.2.2.2.2.2.2)))
set_option maxHeartbeats 400000 in
set_option maxRecDepth 100000 in
theorem c_X3_findYesSayers (l : Launch) (D : va_G) (cy : Nat → ClassId) (g : Nat → Nat) (B : Nat) (a : Nat → Nat) (b : Nat → Nat) (w : PowV) (v : SetV) : Met l yX3_findYesSayers wsX3_findYesSayers ({ frames := 3, cells := 0, slots := 0, locals := 65 }) (muP D cy g B (List.flatten [(wPow cy a w), (wSet cy b v)]) [.ref (a 0), .ref (b 0)]) (va_Qv (fun (u : PowV) => f_X3_findYesSayers w v = u) (fun u t => va_P D vwCl (List.flatten [(wPow cy a u), (wSet cy b v)]) t.heap) (muA (List.flatten [(wPow cy a w), (wSet cy b v)]))) 0 0 (muA (List.flatten [(wPow cy a w), (wSet cy b v)])) := by
  refine Met.ofW (cc := cX3_findYesSayers) (maxL := 5) (ret := none) (by decide) rfl ?_
  intro p e s m args below meth c s₁ BB hml hv
  obtain ⟨rfl, hP, hK0, hD0⟩ := hv
  have hx := BB.exec
  have hb := BB.bytes
  have hr := BB.returns
  have hts := atoms_spec (ws := wsX3_findYesSayers) BB.pre
  have hown : s.vm.findClass RX3 = some m.cls := findClass_of_methodNamed BB.named
  have hlocks := BB.notSynchronized
  have S := my_fix hx hb hml hown hts
  have inX3 : ∀ w ∈ wsX30, w ∈ wsX3_findYesSayers := fun w h => List.mem_cons_of_mem _ (List.mem_append_left _ (List.mem_append_left _ (List.mem_append_right _ h)))
  have hAB := muB hD0
  have hD := muD hD0
  generalize hAe : muA (List.flatten [(wPow cy a w), (wSet cy b v)]) = A at hAB hD ⊢
  have hS : va_S A s.heap s.heap [] := va_S.rf
  have hl := lv_entry ([.ref (a 0), .ref (b 0)]) (n := 5) (Nat.le_of_ble_eq_true rfl)
  rw [lg_entry_eq]
  generalize (lg_sl ([.ref (a 0), .ref (b 0)]) ++ List.replicate (5 - (lg_sl ([.ref (a 0), .ref (b 0)])).length) Slot.unset).toArray = ls at hl ⊢
  have hl : lv_has ls 5 [(0, .ref (a 0)), (1, .ref (b 0))] := hl
  refine lv_aload_n hx hb dX3_findYesSayers_0 rfl (lv_at hl 0 rfl) ?_
  refine va_get (D := D) (ci := 1) (v := .ref (a 1)) (C := RX3) (T := TX3) (N := 13) hx hb hts inX3 hown hK0.1 hP 0 rfl rfl 2 (by decide) (hts (.fieldLink RX3 14 "PivotChamber$Power" "yesSayers" "LPivotChamber$Row;") (List.mem_of_getElem? (i := 1) rfl)) (fun _ h9 => h9) rfl dX3_findYesSayers_1 ?_
  refine mu_row (va_runV (C := RX4) (As := []) (rest := []) S (c_X4_empty l D cy g B (a 1) (a 2) 256 w.2.2.2.2.2.2.1 (by decide)) (cwV 0 hts gX3_findYesSayers_X4_empty rfl rfl rfl hd_X4_empty_V ⟨Nat.le_of_ble_eq_true rfl, Nat.le_of_ble_eq_true rfl⟩) ⟨muP_blind, va_recv hK0.1 hP (ci := 2) (q0 := 1) rfl rfl, my_preM hK0 hS hAB hP hD [1, 2] (by decide) rfl⟩ rfl rfl hl.1 rfl (lv_room (Nat.le_of_ble_eq_true rfl)) dX3_findYesSayers_4 ⟨Nat.zero_le _, Nat.zero_le _⟩) hS hP hD [1, 2] rfl (w2 := (List.flatten [(wPowE cy a w.1 w.2.1 w.2.2.1 w.2.2.2.1 w.2.2.2.2.1 w.2.2.2.2.2.1 (f_X4_empty 256 w.2.2.2.2.2.2.1) w.2.2.2.2.2.2.2.1 w.2.2.2.2.2.2.2.2.1 w.2.2.2.2.2.2.2.2.2.1 w.2.2.2.2.2.2.2.2.2.2.1 w.2.2.2.2.2.2.2.2.2.2.2.1 w.2.2.2.2.2.2.2.2.2.2.2.2), (wSet cy b v)])) rfl (fun H locs hP hD hS => ?_)
  refine lv_iconst (v := 0) hx hb dX3_findYesSayers_7 (by decide) ?_
  refine lv_istore_n (lv' := [(2, .int 0), (0, .ref (a 0)), (1, .ref (b 0))]) hx hb dX3_findYesSayers_8 rfl hl (by decide) rfl (fun ls hl => ?_)
  have cont0 : ∀ (i2_3 : Int32) (w06_4 : (Nat → Int32)), lp (fun (x : Int32 × (Nat → Int32)) => f_X3_findYesSayers_st v x.1 x.2) default (((8 : Int32).toInt - (0 : Int32).toInt).toNat + 1) (0, (f_X4_empty 256 w.2.2.2.2.2.2.1)) = (i2_3, w06_4) → ∀ (H : Heap) (locs : List Loc), va_P D vwCl (List.flatten [(wPowE cy a w.1 w.2.1 w.2.2.1 w.2.2.2.1 w.2.2.2.2.1 w.2.2.2.2.2.1 w06_4 w.2.2.2.2.2.2.2.1 w.2.2.2.2.2.2.2.2.1 w.2.2.2.2.2.2.2.2.2.1 w.2.2.2.2.2.2.2.2.2.2.1 w.2.2.2.2.2.2.2.2.2.2.2.1 w.2.2.2.2.2.2.2.2.2.2.2.2), (wSet cy b v)]) H → va_D A (List.flatten [(wPowE cy a w.1 w.2.1 w.2.2.1 w.2.2.2.1 w.2.2.2.2.1 w.2.2.2.2.2.1 w06_4 w.2.2.2.2.2.2.2.1 w.2.2.2.2.2.2.2.2.1 w.2.2.2.2.2.2.2.2.2.1 w.2.2.2.2.2.2.2.2.2.2.1 w.2.2.2.2.2.2.2.2.2.2.2.1 w.2.2.2.2.2.2.2.2.2.2.2.2), (wSet cy b v)]) → va_S A s.heap H locs → ∀ ls : Array Slot, lv_has ls 5 [(0, .ref (a 0)), (1, .ref (b 0)), (2, .int i2_3)] → W p l e (headSpec wsX3_findYesSayers ({ frames := 3, cells := 0, slots := 0, locals := 65 } : Room)).room s m ([.ref (a 0), .ref (b 0)] : List Value).toArray below meth c H locs 0 0 (MQ below (va_Qv (fun (u : PowV) => f_X3_findYesSayers w v = u) (fun u t => va_P D vwCl (List.flatten [(wPow cy a u), (wSet cy b v)]) t.heap) A) ([.ref (a 0), .ref (b 0)] : List Value).toArray s 0 0 A) (F0 m 70 ls []) := by
    intro i2_3 w06_4 hE0 H locs hP hD hS ls hl
    have hP : va_P D vwCl (List.flatten [(wPow cy a (w.1, w.2.1, w.2.2.1, w.2.2.2.1, w.2.2.2.2.1, w.2.2.2.2.2.1, w06_4, w.2.2.2.2.2.2.2)), (wSet cy b v)]) H := by rw [wPow_mk]; exact hP
    have hD : va_D A (List.flatten [(wPow cy a (w.1, w.2.1, w.2.2.1, w.2.2.2.1, w.2.2.2.2.1, w.2.2.2.2.2.1, w06_4, w.2.2.2.2.2.2.2)), (wSet cy b v)]) := by rw [wPow_mk]; exact hD
    exact W.vret hx hb hr (fun t ht hW => ⟨⟨(w.1, w.2.1, w.2.2.1, w.2.2.2.1, w.2.2.2.2.1, w.2.2.2.2.2.1, w06_4, w.2.2.2.2.2.2.2), rfl, (show f_X3_findYesSayers w v = (w.1, w.2.1, w.2.2.1, w.2.2.2.1, w.2.2.2.2.1, w.2.2.2.2.2.1, w06_4, w.2.2.2.2.2.2.2) from by rw [f_X3_findYesSayers, hE0, my_t2_eq]), by show va_P D vwCl _ t.heap; rw [ht]; exact hP⟩, hS.F ht⟩) hS.2.2 dX3_findYesSayers_70
  have key : ∀ (nf : Nat) (i2_3 : Int32) (w06_4 : (Nat → Int32)), ((8 : Int32).toInt - (i2_3 : Int32).toInt).toNat < nf → lp (fun (x : Int32 × (Nat → Int32)) => f_X3_findYesSayers_st v x.1 x.2) default nf (i2_3, w06_4) = lp (fun (x : Int32 × (Nat → Int32)) => f_X3_findYesSayers_st v x.1 x.2) default (((8 : Int32).toInt - (0 : Int32).toInt).toNat + 1) (0, (f_X4_empty 256 w.2.2.2.2.2.2.1)) → ∀ (H : Heap) (locs : List Loc), va_P D vwCl (List.flatten [(wPowE cy a w.1 w.2.1 w.2.2.1 w.2.2.2.1 w.2.2.2.2.1 w.2.2.2.2.2.1 w06_4 w.2.2.2.2.2.2.2.1 w.2.2.2.2.2.2.2.2.1 w.2.2.2.2.2.2.2.2.2.1 w.2.2.2.2.2.2.2.2.2.2.1 w.2.2.2.2.2.2.2.2.2.2.2.1 w.2.2.2.2.2.2.2.2.2.2.2.2), (wSet cy b v)]) H → va_D A (List.flatten [(wPowE cy a w.1 w.2.1 w.2.2.1 w.2.2.2.1 w.2.2.2.2.1 w.2.2.2.2.2.1 w06_4 w.2.2.2.2.2.2.2.1 w.2.2.2.2.2.2.2.2.1 w.2.2.2.2.2.2.2.2.2.1 w.2.2.2.2.2.2.2.2.2.2.1 w.2.2.2.2.2.2.2.2.2.2.2.1 w.2.2.2.2.2.2.2.2.2.2.2.2), (wSet cy b v)]) → va_S A s.heap H locs → ∀ ls : Array Slot, lv_has ls 5 [(0, .ref (a 0)), (1, .ref (b 0)), (2, .int i2_3)] → W p l e (headSpec wsX3_findYesSayers ({ frames := 3, cells := 0, slots := 0, locals := 65 } : Room)).room s m ([.ref (a 0), .ref (b 0)] : List Value).toArray below meth c H locs 0 0 (MQ below (va_Qv (fun (u : PowV) => f_X3_findYesSayers w v = u) (fun u t => va_P D vwCl (List.flatten [(wPow cy a u), (wSet cy b v)]) t.heap) A) ([.ref (a 0), .ref (b 0)] : List Value).toArray s 0 0 A) (F0 m 9 ls []) := by
    intro n0
    induction n0 with
    | zero => intro i2_3 w06_4 hlt; exact absurd hlt (Nat.not_lt_zero _)
    | succ n0 ih0 =>
      intro i2_3 w06_4 hlt0 hF0 H locs hP hD hS ls hl
      refine lv_iload_n hx hb dX3_findYesSayers_9 rfl (lv_at hl 2 rfl) ?_
      refine lv_bipush (v := 8) hx hb dX3_findYesSayers_10 (by decide) ?_
      refine lv_icmp_ge (tgt := 70) hx hb dX3_findYesSayers_12 (by decide) (fun c_5 => ?_) (fun c_5 => ?_)
      · have hst : f_X3_findYesSayers_st v i2_3 w06_4 = .inr (i2_3, w06_4) := by rw [f_X3_findYesSayers_st, if_pos c_5]
        exact cont0 i2_3 w06_4 (lp_inr hst hF0) _ _ hP hD hS _ (lv_sub hl [0, 1, 2] rfl)
      · refine lv_aload_n hx hb dX3_findYesSayers_15 rfl (lv_at hl 1 rfl) ?_
        refine lv_iload_n hx hb dX3_findYesSayers_16 rfl (lv_at hl 2 rfl) ?_
        refine rd_goi (va_runV (C := RX6) (As := [.int i2_3]) (rest := []) S (c_X6_blocOf l D cy g B b v i2_3) (cwV 1 hts gX3_findYesSayers_X6_blocOf rfl rfl rfl hd_X6_blocOf_V ⟨Nat.le_of_ble_eq_true rfl, Nat.le_of_ble_eq_true rfl⟩) ⟨rdP_blind, va_recv hK0.1 hP (ci := 4) (q0 := 15) rfl rfl, my_preP hK0 hS hAB (my_cP hP 1 rfl)⟩ rfl rfl hl.1 rfl (lv_room (Nat.le_of_ble_eq_true rfl)) dX3_findYesSayers_17 ⟨Nat.zero_le _, Nat.zero_le _⟩) ?_
        refine lv_istore_n (lv' := [(3, .int (f_X6_blocOf v i2_3)), (0, .ref (a 0)), (1, .ref (b 0)), (2, .int i2_3)]) hx hb dX3_findYesSayers_20 rfl hl (by decide) rfl (fun ls hl => ?_)
        refine lv_iconst (v := 1) hx hb dX3_findYesSayers_21 (by decide) ?_
        refine lv_iload_n hx hb dX3_findYesSayers_22 rfl (lv_at hl 3 rfl) ?_
        refine lv_ishl hx hb dX3_findYesSayers_23 ?_
        refine lv_istore (lv' := [(4, .int (1 <<< (i2_3 &&& 31))), (3, .int (f_X6_blocOf v i2_3)), (0, .ref (a 0)), (1, .ref (b 0)), (2, .int i2_3)]) hx hb dX3_findYesSayers_24 hl (by decide) rfl (fun ls hl => ?_)
        have cont1 : ∀ (i4_6 : Int32) (w06_7 : (Nat → Int32)), lp (fun (x : Int32 × (Nat → Int32)) => f_X3_findYesSayers_st1 v i2_3 x.1 x.2) default ((((2 <<< (i2_3 &&& 31)) : Int32).toInt - ((1 <<< (i2_3 &&& 31)) : Int32).toInt).toNat + 1) ((1 <<< (i2_3 &&& 31)), w06_4) = (i4_6, w06_7) → ∀ (H : Heap) (locs : List Loc), va_P D vwCl (List.flatten [(wPowE cy a w.1 w.2.1 w.2.2.1 w.2.2.2.1 w.2.2.2.2.1 w.2.2.2.2.2.1 w06_7 w.2.2.2.2.2.2.2.1 w.2.2.2.2.2.2.2.2.1 w.2.2.2.2.2.2.2.2.2.1 w.2.2.2.2.2.2.2.2.2.2.1 w.2.2.2.2.2.2.2.2.2.2.2.1 w.2.2.2.2.2.2.2.2.2.2.2.2), (wSet cy b v)]) H → va_D A (List.flatten [(wPowE cy a w.1 w.2.1 w.2.2.1 w.2.2.2.1 w.2.2.2.2.1 w.2.2.2.2.2.1 w06_7 w.2.2.2.2.2.2.2.1 w.2.2.2.2.2.2.2.2.1 w.2.2.2.2.2.2.2.2.2.1 w.2.2.2.2.2.2.2.2.2.2.1 w.2.2.2.2.2.2.2.2.2.2.2.1 w.2.2.2.2.2.2.2.2.2.2.2.2), (wSet cy b v)]) → va_S A s.heap H locs → ∀ ls : Array Slot, lv_has ls 5 [(0, .ref (a 0)), (1, .ref (b 0)), (2, .int i2_3), (3, .int (f_X6_blocOf v i2_3)), (4, .int i4_6)] → W p l e (headSpec wsX3_findYesSayers ({ frames := 3, cells := 0, slots := 0, locals := 65 } : Room)).room s m ([.ref (a 0), .ref (b 0)] : List Value).toArray below meth c H locs 0 0 (MQ below (va_Qv (fun (u : PowV) => f_X3_findYesSayers w v = u) (fun u t => va_P D vwCl (List.flatten [(wPow cy a u), (wSet cy b v)]) t.heap) A) ([.ref (a 0), .ref (b 0)] : List Value).toArray s 0 0 A) (F0 m 64 ls []) := by
          intro i4_6 w06_7 hE1 H locs hP hD hS ls hl
          refine lv_iinc (v := (i2_3 + 1)) (lv' := [(2, .int (i2_3 + 1)), (0, .ref (a 0)), (1, .ref (b 0)), (3, .int (f_X6_blocOf v i2_3)), (4, .int i4_6)]) hx hb dX3_findYesSayers_64 hl (k := 2) rfl rfl (by decide) rfl (fun ls hl => ?_)
          refine lv_goto (tgt := 9) hx hb dX3_findYesSayers_67 (by decide) ?_
          have hst : f_X3_findYesSayers_st v i2_3 w06_4 = .inl ((i2_3 + 1), w06_7) := by rw [f_X3_findYesSayers_st, if_neg c_5, hE1, my_t2_eq]
          have hmu : ((8 : Int32).toInt - ((i2_3 + 1) : Int32).toInt).toNat < ((8 : Int32).toInt - (i2_3 : Int32).toInt).toNat := mu_up c_5
          exact ih0 (i2_3 + 1) w06_7 (Nat.lt_of_lt_of_le hmu (Nat.le_of_lt_succ hlt0)) (lp_inl hst hF0) _ _ hP hD hS _ (lv_sub hl [1, 2, 0] rfl)
        have key : ∀ (nf : Nat) (i4_6 : Int32) (w06_7 : (Nat → Int32)), (((2 <<< (i2_3 &&& 31)) : Int32).toInt - (i4_6 : Int32).toInt).toNat < nf → lp (fun (x : Int32 × (Nat → Int32)) => f_X3_findYesSayers_st1 v i2_3 x.1 x.2) default nf (i4_6, w06_7) = lp (fun (x : Int32 × (Nat → Int32)) => f_X3_findYesSayers_st1 v i2_3 x.1 x.2) default ((((2 <<< (i2_3 &&& 31)) : Int32).toInt - ((1 <<< (i2_3 &&& 31)) : Int32).toInt).toNat + 1) ((1 <<< (i2_3 &&& 31)), w06_4) → ∀ (H : Heap) (locs : List Loc), va_P D vwCl (List.flatten [(wPowE cy a w.1 w.2.1 w.2.2.1 w.2.2.2.1 w.2.2.2.2.1 w.2.2.2.2.2.1 w06_7 w.2.2.2.2.2.2.2.1 w.2.2.2.2.2.2.2.2.1 w.2.2.2.2.2.2.2.2.2.1 w.2.2.2.2.2.2.2.2.2.2.1 w.2.2.2.2.2.2.2.2.2.2.2.1 w.2.2.2.2.2.2.2.2.2.2.2.2), (wSet cy b v)]) H → va_D A (List.flatten [(wPowE cy a w.1 w.2.1 w.2.2.1 w.2.2.2.1 w.2.2.2.2.1 w.2.2.2.2.2.1 w06_7 w.2.2.2.2.2.2.2.1 w.2.2.2.2.2.2.2.2.1 w.2.2.2.2.2.2.2.2.2.1 w.2.2.2.2.2.2.2.2.2.2.1 w.2.2.2.2.2.2.2.2.2.2.2.1 w.2.2.2.2.2.2.2.2.2.2.2.2), (wSet cy b v)]) → va_S A s.heap H locs → ∀ ls : Array Slot, lv_has ls 5 [(0, .ref (a 0)), (1, .ref (b 0)), (2, .int i2_3), (3, .int (f_X6_blocOf v i2_3)), (4, .int i4_6)] → W p l e (headSpec wsX3_findYesSayers ({ frames := 3, cells := 0, slots := 0, locals := 65 } : Room)).room s m ([.ref (a 0), .ref (b 0)] : List Value).toArray below meth c H locs 0 0 (MQ below (va_Qv (fun (u : PowV) => f_X3_findYesSayers w v = u) (fun u t => va_P D vwCl (List.flatten [(wPow cy a u), (wSet cy b v)]) t.heap) A) ([.ref (a 0), .ref (b 0)] : List Value).toArray s 0 0 A) (F0 m 26 ls []) := by
          intro n1
          induction n1 with
          | zero => intro i4_6 w06_7 hlt; exact absurd hlt (Nat.not_lt_zero _)
          | succ n1 ih1 =>
            intro i4_6 w06_7 hlt1 hF1 H locs hP hD hS ls hl
            refine lv_iload hx hb dX3_findYesSayers_26 (lv_at hl 4 rfl) ?_
            refine lv_iconst (v := 2) hx hb dX3_findYesSayers_28 (by decide) ?_
            refine lv_iload_n hx hb dX3_findYesSayers_29 rfl (lv_at hl 2 rfl) ?_
            refine lv_ishl hx hb dX3_findYesSayers_30 ?_
            refine lv_icmp_ge (tgt := 64) hx hb dX3_findYesSayers_31 (by decide) (fun c_8 => ?_) (fun c_8 => ?_)
            · have hst : f_X3_findYesSayers_st1 v i2_3 i4_6 w06_7 = .inr (i4_6, w06_7) := by rw [f_X3_findYesSayers_st1, if_pos c_8]
              exact cont1 i4_6 w06_7 (lp_inr hst hF1) _ _ hP hD hS _ (lv_sub hl [0, 1, 2, 3, 4] rfl)
            · refine lv_aload_n hx hb dX3_findYesSayers_34 rfl (lv_at hl 0 rfl) ?_
              refine va_get (D := D) (ci := 1) (v := .ref (a 1)) (C := RX3) (T := TX3) (N := 13) hx hb hts inX3 hown hK0.1 hP 0 rfl rfl 2 (by decide) (hts (.fieldLink RX3 14 "PivotChamber$Power" "yesSayers" "LPivotChamber$Row;") (List.mem_of_getElem? (i := 1) rfl)) (fun _ h9 => h9) rfl dX3_findYesSayers_35 ?_
              refine lv_iload hx hb dX3_findYesSayers_38 (lv_at hl 4 rfl) ?_
              refine lv_aload_n hx hb dX3_findYesSayers_40 rfl (lv_at hl 0 rfl) ?_
              refine va_get (D := D) (ci := 1) (v := .ref (a 1)) (C := RX3) (T := TX3) (N := 13) hx hb hts inX3 hown hK0.1 hP 0 rfl rfl 2 (by decide) (hts (.fieldLink RX3 14 "PivotChamber$Power" "yesSayers" "LPivotChamber$Row;") (List.mem_of_getElem? (i := 1) rfl)) (fun _ h9 => h9) rfl dX3_findYesSayers_41 ?_
              refine lv_iload hx hb dX3_findYesSayers_44 (lv_at hl 4 rfl) ?_
              refine lv_iconst (v := 1) hx hb dX3_findYesSayers_46 (by decide) ?_
              refine lv_iload_n hx hb dX3_findYesSayers_47 rfl (lv_at hl 2 rfl) ?_
              refine lv_ishl hx hb dX3_findYesSayers_48 ?_
              refine lv_isub hx hb dX3_findYesSayers_49 ?_
              refine rd_goi (va_runV (C := RX4) (As := [.int (i4_6 - (1 <<< (i2_3 &&& 31)))]) (rest := [.int i4_6, .ref (a 1)]) S (c_X4_at l D cy g B (a 1) (a 2) 256 w06_7 (i4_6 - (1 <<< (i2_3 &&& 31))) (by decide)) (cwV 1 hts gX3_findYesSayers_X4_at rfl rfl rfl hd_X4_at_V ⟨Nat.le_of_ble_eq_true rfl, Nat.le_of_ble_eq_true rfl⟩) ⟨rdP_blind, va_recv hK0.1 hP (ci := 2) (q0 := 1) rfl rfl, my_preV hK0 hS hAB hP [1, 2] rfl⟩ rfl rfl hl.1 rfl (lv_room (Nat.le_of_ble_eq_true rfl)) dX3_findYesSayers_50 ⟨Nat.zero_le _, Nat.zero_le _⟩) ?_
              refine lv_iload_n hx hb dX3_findYesSayers_53 rfl (lv_at hl 3 rfl) ?_
              refine lv_ior hx hb dX3_findYesSayers_54 ?_
              refine mu_row (va_runV (C := RX4) (As := [.int i4_6, .int ((rAt 256 w06_7 (i4_6 - (1 <<< (i2_3 &&& 31)))) ||| (f_X6_blocOf v i2_3))]) (rest := []) S (c_X4_put l D cy g B (a 1) (a 2) 256 w06_7 i4_6 ((rAt 256 w06_7 (i4_6 - (1 <<< (i2_3 &&& 31)))) ||| (f_X6_blocOf v i2_3)) (by decide)) (cwV 2 hts gX3_findYesSayers_X4_put rfl rfl rfl hd_X4_put_V ⟨Nat.le_of_ble_eq_true rfl, Nat.le_of_ble_eq_true rfl⟩) ⟨muP_blind, va_recv hK0.1 hP (ci := 2) (q0 := 1) rfl rfl, my_preM hK0 hS hAB hP hD [1, 2] (by decide) rfl⟩ rfl rfl hl.1 rfl (lv_room (Nat.le_of_ble_eq_true rfl)) dX3_findYesSayers_55 ⟨Nat.zero_le _, Nat.zero_le _⟩) hS hP hD [1, 2] rfl (w2 := (List.flatten [(wPowE cy a w.1 w.2.1 w.2.2.1 w.2.2.2.1 w.2.2.2.2.1 w.2.2.2.2.2.1 (rPut 256 w06_7 i4_6 ((rAt 256 w06_7 (i4_6 - (1 <<< (i2_3 &&& 31)))) ||| (f_X6_blocOf v i2_3))) w.2.2.2.2.2.2.2.1 w.2.2.2.2.2.2.2.2.1 w.2.2.2.2.2.2.2.2.2.1 w.2.2.2.2.2.2.2.2.2.2.1 w.2.2.2.2.2.2.2.2.2.2.2.1 w.2.2.2.2.2.2.2.2.2.2.2.2), (wSet cy b v)])) rfl (fun H locs hP hD hS => ?_)
              refine lv_iinc (v := (i4_6 + 1)) (lv' := [(4, .int (i4_6 + 1)), (0, .ref (a 0)), (1, .ref (b 0)), (2, .int i2_3), (3, .int (f_X6_blocOf v i2_3))]) hx hb dX3_findYesSayers_58 hl (k := 4) rfl rfl (by decide) rfl (fun ls hl => ?_)
              refine lv_goto (tgt := 26) hx hb dX3_findYesSayers_61 (by decide) ?_
              have hst : f_X3_findYesSayers_st1 v i2_3 i4_6 w06_7 = .inl ((i4_6 + 1), (rPut 256 w06_7 i4_6 ((rAt 256 w06_7 (i4_6 - (1 <<< (i2_3 &&& 31)))) ||| (f_X6_blocOf v i2_3)))) := by rw [f_X3_findYesSayers_st1, if_neg c_8]
              have hmu : (((2 <<< (i2_3 &&& 31)) : Int32).toInt - ((i4_6 + 1) : Int32).toInt).toNat < (((2 <<< (i2_3 &&& 31)) : Int32).toInt - (i4_6 : Int32).toInt).toNat := mu_up c_8
              exact ih1 (i4_6 + 1) (rPut 256 w06_7 i4_6 ((rAt 256 w06_7 (i4_6 - (1 <<< (i2_3 &&& 31)))) ||| (f_X6_blocOf v i2_3))) (Nat.lt_of_lt_of_le hmu (Nat.le_of_lt_succ hlt1)) (lp_inl hst hF1) _ _ hP hD hS _ (lv_sub hl [1, 2, 3, 4, 0] rfl)
        exact key ((((2 <<< (i2_3 &&& 31)) : Int32).toInt - ((1 <<< (i2_3 &&& 31)) : Int32).toInt).toNat + 1) (1 <<< (i2_3 &&& 31)) w06_4 (Nat.lt_succ_self _) rfl _ _ hP hD hS _ (lv_sub hl [2, 3, 4, 1, 0] rfl)
  exact key (((8 : Int32).toInt - (0 : Int32).toInt).toNat + 1) 0 (f_X4_empty 256 w.2.2.2.2.2.2.1) (Nat.lt_succ_self _) rfl _ _ hP hD hS _ (lv_sub hl [1, 2, 0] rfl)
theorem hd_X3_findStrengths_S : yX3_findStrengths.cls ≠ "java/lang/invoke/MethodHandle" ∧ yX3_findStrengths.cls ≠ "java/lang/invoke/VarHandle" ∧ (parseMethodDescriptor yX3_findStrengths.desc).map (fun d => d.parameters.length) = some 1 := by decide +kernel
theorem hd_X3_findStrengths_V : yX3_findStrengths.cls = RX3 ∧ yX3_findStrengths.cls ≠ "java/lang/invoke/MethodHandle" ∧ yX3_findStrengths.cls ≠ "java/lang/invoke/VarHandle" ∧ (parseMethodDescriptor yX3_findStrengths.desc).map (fun d => d.parameters.length) = some 1 := ⟨rfl, hd_X3_findStrengths_S⟩
def f_X3_findStrengths_st (w : PowV) (v : SetV) (i3_3 : Int32) (w07_4 : (Nat → Int32)) : (Int32 × (Nat → Int32)) ⊕ (Int32 × (Nat → Int32)) := (if (f_X6_everybody v) < i3_3 then (.inr (i3_3, w07_4)) else (if 256 ≤ i3_3 then (.inr (i3_3, w07_4)) else (if (f_X6_firstBrokenRule v (rAt 256 w.2.2.2.2.2.2.1 i3_3)) = (-1) then (.inl ((i3_3 + 1), (rPut 256 w07_4 i3_3 (f_X6_weightOf v (rAt 256 w.2.2.2.2.2.2.1 i3_3))))) else (.inl ((i3_3 + 1), (rPut 256 w07_4 i3_3 0))))))
def f_X3_findStrengths (w : PowV) (v : SetV) : PowV := (my_t2 (lp (fun (x : Int32 × (Nat → Int32)) => f_X3_findStrengths_st w v x.1 x.2) default (((256 : Int32).toInt - (0 : Int32).toInt).toNat + 1) (0, (f_X4_empty 256 w.2.2.2.2.2.2.2.1))) (fun (i3_3 : Int32) (w07_4 : (Nat → Int32)) => (w.1, w.2.1, w.2.2.1, w.2.2.2.1, w.2.2.2.2.1, w.2.2.2.2.2.1, w.2.2.2.2.2.2.1, w07_4, w.2.2.2.2.2.2.2.2)))
set_option maxHeartbeats 400000 in
set_option maxRecDepth 100000 in
theorem c_X3_findStrengths (l : Launch) (D : va_G) (cy : Nat → ClassId) (g : Nat → Nat) (B : Nat) (a : Nat → Nat) (b : Nat → Nat) (w : PowV) (v : SetV) : Met l yX3_findStrengths wsX3_findStrengths ({ frames := 3, cells := 0, slots := 0, locals := 66 }) (muP D cy g B (List.flatten [(wPow cy a w), (wSet cy b v)]) [.ref (a 0), .ref (b 0)]) (va_Qv (fun (u : PowV) => f_X3_findStrengths w v = u) (fun u t => va_P D vwCl (List.flatten [(wPow cy a u), (wSet cy b v)]) t.heap) (muA (List.flatten [(wPow cy a w), (wSet cy b v)]))) 0 0 (muA (List.flatten [(wPow cy a w), (wSet cy b v)])) := by
  refine Met.ofW (cc := cX3_findStrengths) (maxL := 5) (ret := none) (by decide) rfl ?_
  intro p e s m args below meth c s₁ BB hml hv
  obtain ⟨rfl, hP, hK0, hD0⟩ := hv
  have hx := BB.exec
  have hb := BB.bytes
  have hr := BB.returns
  have hts := atoms_spec (ws := wsX3_findStrengths) BB.pre
  have hown : s.vm.findClass RX3 = some m.cls := findClass_of_methodNamed BB.named
  have hlocks := BB.notSynchronized
  have S := my_fix hx hb hml hown hts
  have inX3 : ∀ w ∈ wsX30, w ∈ wsX3_findStrengths := fun w h => List.mem_cons_of_mem _ (List.mem_append_left _ (List.mem_append_left _ (List.mem_append_right _ h)))
  have hAB := muB hD0
  have hD := muD hD0
  generalize hAe : muA (List.flatten [(wPow cy a w), (wSet cy b v)]) = A at hAB hD ⊢
  have hS : va_S A s.heap s.heap [] := va_S.rf
  have hl := lv_entry ([.ref (a 0), .ref (b 0)]) (n := 5) (Nat.le_of_ble_eq_true rfl)
  rw [lg_entry_eq]
  generalize (lg_sl ([.ref (a 0), .ref (b 0)]) ++ List.replicate (5 - (lg_sl ([.ref (a 0), .ref (b 0)])).length) Slot.unset).toArray = ls at hl ⊢
  have hl : lv_has ls 5 [(0, .ref (a 0)), (1, .ref (b 0))] := hl
  refine lv_aload_n hx hb dX3_findStrengths_0 rfl (lv_at hl 0 rfl) ?_
  refine va_get (D := D) (ci := 1) (v := .ref (a 3)) (C := RX3) (T := TX3) (N := 13) hx hb hts inX3 hown hK0.1 hP 0 rfl rfl 3 (by decide) (hts (.fieldLink RX3 20 "PivotChamber$Power" "strengths" "LPivotChamber$Row;") (List.mem_of_getElem? (i := 1) rfl)) (fun _ h9 => h9) rfl dX3_findStrengths_1 ?_
  refine mu_row (va_runV (C := RX4) (As := []) (rest := []) S (c_X4_empty l D cy g B (a 3) (a 4) 256 w.2.2.2.2.2.2.2.1 (by decide)) (cwV 0 hts gX3_findStrengths_X4_empty rfl rfl rfl hd_X4_empty_V ⟨Nat.le_of_ble_eq_true rfl, Nat.le_of_ble_eq_true rfl⟩) ⟨muP_blind, va_recv hK0.1 hP (ci := 2) (q0 := 3) rfl rfl, my_preM hK0 hS hAB hP hD [3, 4] (by decide) rfl⟩ rfl rfl hl.1 rfl (lv_room (Nat.le_of_ble_eq_true rfl)) dX3_findStrengths_4 ⟨Nat.zero_le _, Nat.zero_le _⟩) hS hP hD [3, 4] rfl (w2 := (List.flatten [(wPowE cy a w.1 w.2.1 w.2.2.1 w.2.2.2.1 w.2.2.2.2.1 w.2.2.2.2.2.1 w.2.2.2.2.2.2.1 (f_X4_empty 256 w.2.2.2.2.2.2.2.1) w.2.2.2.2.2.2.2.2.1 w.2.2.2.2.2.2.2.2.2.1 w.2.2.2.2.2.2.2.2.2.2.1 w.2.2.2.2.2.2.2.2.2.2.2.1 w.2.2.2.2.2.2.2.2.2.2.2.2), (wSet cy b v)])) rfl (fun H locs hP hD hS => ?_)
  refine lv_aload_n hx hb dX3_findStrengths_7 rfl (lv_at hl 1 rfl) ?_
  refine rd_goi (va_runV (C := RX6) (As := []) (rest := []) S (c_X6_everybody l D cy g B b v) (cwV 0 hts gX3_findStrengths_X6_everybody rfl rfl rfl hd_X6_everybody_V ⟨Nat.le_of_ble_eq_true rfl, Nat.le_of_ble_eq_true rfl⟩) ⟨rdP_blind, va_recv hK0.1 hP (ci := 4) (q0 := 15) rfl rfl, my_preP hK0 hS hAB (my_cP hP 1 rfl)⟩ rfl rfl hl.1 rfl (lv_room (Nat.le_of_ble_eq_true rfl)) dX3_findStrengths_8 ⟨Nat.zero_le _, Nat.zero_le _⟩) ?_
  refine lv_istore_n (lv' := [(2, .int (f_X6_everybody v)), (0, .ref (a 0)), (1, .ref (b 0))]) hx hb dX3_findStrengths_11 rfl hl (by decide) rfl (fun ls hl => ?_)
  refine lv_iconst (v := 0) hx hb dX3_findStrengths_12 (by decide) ?_
  refine lv_istore_n (lv' := [(3, .int 0), (2, .int (f_X6_everybody v)), (0, .ref (a 0)), (1, .ref (b 0))]) hx hb dX3_findStrengths_13 rfl hl (by decide) rfl (fun ls hl => ?_)
  have cont0 : ∀ (i3_3 : Int32) (w07_4 : (Nat → Int32)), lp (fun (x : Int32 × (Nat → Int32)) => f_X3_findStrengths_st w v x.1 x.2) default (((256 : Int32).toInt - (0 : Int32).toInt).toNat + 1) (0, (f_X4_empty 256 w.2.2.2.2.2.2.2.1)) = (i3_3, w07_4) → ∀ (H : Heap) (locs : List Loc), va_P D vwCl (List.flatten [(wPowE cy a w.1 w.2.1 w.2.2.1 w.2.2.2.1 w.2.2.2.2.1 w.2.2.2.2.2.1 w.2.2.2.2.2.2.1 w07_4 w.2.2.2.2.2.2.2.2.1 w.2.2.2.2.2.2.2.2.2.1 w.2.2.2.2.2.2.2.2.2.2.1 w.2.2.2.2.2.2.2.2.2.2.2.1 w.2.2.2.2.2.2.2.2.2.2.2.2), (wSet cy b v)]) H → va_D A (List.flatten [(wPowE cy a w.1 w.2.1 w.2.2.1 w.2.2.2.1 w.2.2.2.2.1 w.2.2.2.2.2.1 w.2.2.2.2.2.2.1 w07_4 w.2.2.2.2.2.2.2.2.1 w.2.2.2.2.2.2.2.2.2.1 w.2.2.2.2.2.2.2.2.2.2.1 w.2.2.2.2.2.2.2.2.2.2.2.1 w.2.2.2.2.2.2.2.2.2.2.2.2), (wSet cy b v)]) → va_S A s.heap H locs → ∀ ls : Array Slot, lv_has ls 5 [(0, .ref (a 0)), (1, .ref (b 0)), (2, .int (f_X6_everybody v)), (3, .int i3_3)] → W p l e (headSpec wsX3_findStrengths ({ frames := 3, cells := 0, slots := 0, locals := 66 } : Room)).room s m ([.ref (a 0), .ref (b 0)] : List Value).toArray below meth c H locs 0 0 (MQ below (va_Qv (fun (u : PowV) => f_X3_findStrengths w v = u) (fun u t => va_P D vwCl (List.flatten [(wPow cy a u), (wSet cy b v)]) t.heap) A) ([.ref (a 0), .ref (b 0)] : List Value).toArray s 0 0 A) (F0 m 70 ls []) := by
    intro i3_3 w07_4 hE0 H locs hP hD hS ls hl
    have hP : va_P D vwCl (List.flatten [(wPow cy a (w.1, w.2.1, w.2.2.1, w.2.2.2.1, w.2.2.2.2.1, w.2.2.2.2.2.1, w.2.2.2.2.2.2.1, w07_4, w.2.2.2.2.2.2.2.2)), (wSet cy b v)]) H := by rw [wPow_mk]; exact hP
    have hD : va_D A (List.flatten [(wPow cy a (w.1, w.2.1, w.2.2.1, w.2.2.2.1, w.2.2.2.2.1, w.2.2.2.2.2.1, w.2.2.2.2.2.2.1, w07_4, w.2.2.2.2.2.2.2.2)), (wSet cy b v)]) := by rw [wPow_mk]; exact hD
    exact W.vret hx hb hr (fun t ht hW => ⟨⟨(w.1, w.2.1, w.2.2.1, w.2.2.2.1, w.2.2.2.2.1, w.2.2.2.2.2.1, w.2.2.2.2.2.2.1, w07_4, w.2.2.2.2.2.2.2.2), rfl, (show f_X3_findStrengths w v = (w.1, w.2.1, w.2.2.1, w.2.2.2.1, w.2.2.2.2.1, w.2.2.2.2.2.1, w.2.2.2.2.2.2.1, w07_4, w.2.2.2.2.2.2.2.2) from by rw [f_X3_findStrengths, hE0, my_t2_eq]), by show va_P D vwCl _ t.heap; rw [ht]; exact hP⟩, hS.F ht⟩) hS.2.2 dX3_findStrengths_70
  have key : ∀ (nf : Nat) (i3_3 : Int32) (w07_4 : (Nat → Int32)), ((256 : Int32).toInt - (i3_3 : Int32).toInt).toNat < nf → lp (fun (x : Int32 × (Nat → Int32)) => f_X3_findStrengths_st w v x.1 x.2) default nf (i3_3, w07_4) = lp (fun (x : Int32 × (Nat → Int32)) => f_X3_findStrengths_st w v x.1 x.2) default (((256 : Int32).toInt - (0 : Int32).toInt).toNat + 1) (0, (f_X4_empty 256 w.2.2.2.2.2.2.2.1)) → ∀ (H : Heap) (locs : List Loc), va_P D vwCl (List.flatten [(wPowE cy a w.1 w.2.1 w.2.2.1 w.2.2.2.1 w.2.2.2.2.1 w.2.2.2.2.2.1 w.2.2.2.2.2.2.1 w07_4 w.2.2.2.2.2.2.2.2.1 w.2.2.2.2.2.2.2.2.2.1 w.2.2.2.2.2.2.2.2.2.2.1 w.2.2.2.2.2.2.2.2.2.2.2.1 w.2.2.2.2.2.2.2.2.2.2.2.2), (wSet cy b v)]) H → va_D A (List.flatten [(wPowE cy a w.1 w.2.1 w.2.2.1 w.2.2.2.1 w.2.2.2.2.1 w.2.2.2.2.2.1 w.2.2.2.2.2.2.1 w07_4 w.2.2.2.2.2.2.2.2.1 w.2.2.2.2.2.2.2.2.2.1 w.2.2.2.2.2.2.2.2.2.2.1 w.2.2.2.2.2.2.2.2.2.2.2.1 w.2.2.2.2.2.2.2.2.2.2.2.2), (wSet cy b v)]) → va_S A s.heap H locs → ∀ ls : Array Slot, lv_has ls 5 [(0, .ref (a 0)), (1, .ref (b 0)), (2, .int (f_X6_everybody v)), (3, .int i3_3)] → W p l e (headSpec wsX3_findStrengths ({ frames := 3, cells := 0, slots := 0, locals := 66 } : Room)).room s m ([.ref (a 0), .ref (b 0)] : List Value).toArray below meth c H locs 0 0 (MQ below (va_Qv (fun (u : PowV) => f_X3_findStrengths w v = u) (fun u t => va_P D vwCl (List.flatten [(wPow cy a u), (wSet cy b v)]) t.heap) A) ([.ref (a 0), .ref (b 0)] : List Value).toArray s 0 0 A) (F0 m 14 ls []) := by
    intro n0
    induction n0 with
    | zero => intro i3_3 w07_4 hlt; exact absurd hlt (Nat.not_lt_zero _)
    | succ n0 ih0 =>
      intro i3_3 w07_4 hlt0 hF0 H locs hP hD hS ls hl
      refine lv_iload_n hx hb dX3_findStrengths_14 rfl (lv_at hl 3 rfl) ?_
      refine lv_iload_n hx hb dX3_findStrengths_15 rfl (lv_at hl 2 rfl) ?_
      refine lv_icmp_gt (tgt := 70) hx hb dX3_findStrengths_16 (by decide) (fun c_5 => ?_) (fun c_5 => ?_)
      · have hst : f_X3_findStrengths_st w v i3_3 w07_4 = .inr (i3_3, w07_4) := by rw [f_X3_findStrengths_st, if_pos c_5]
        exact cont0 i3_3 w07_4 (lp_inr hst hF0) _ _ hP hD hS _ (lv_sub hl [0, 1, 2, 3] rfl)
      · refine lv_iload_n hx hb dX3_findStrengths_19 rfl (lv_at hl 3 rfl) ?_
        refine lv_sipush (v := 256) hx hb dX3_findStrengths_20 (by decide) ?_
        refine lv_icmp_ge (tgt := 70) hx hb dX3_findStrengths_23 (by decide) (fun c_6 => ?_) (fun c_6 => ?_)
        · have hst : f_X3_findStrengths_st w v i3_3 w07_4 = .inr (i3_3, w07_4) := by rw [f_X3_findStrengths_st, if_neg c_5, if_pos c_6]
          exact cont0 i3_3 w07_4 (lp_inr hst hF0) _ _ hP hD hS _ (lv_sub hl [0, 1, 2, 3] rfl)
        · refine lv_aload_n hx hb dX3_findStrengths_26 rfl (lv_at hl 0 rfl) ?_
          refine va_get (D := D) (ci := 1) (v := .ref (a 1)) (C := RX3) (T := TX3) (N := 13) hx hb hts inX3 hown hK0.1 hP 0 rfl rfl 2 (by decide) (hts (.fieldLink RX3 14 "PivotChamber$Power" "yesSayers" "LPivotChamber$Row;") (List.mem_of_getElem? (i := 2) rfl)) (fun _ h9 => h9) rfl dX3_findStrengths_27 ?_
          refine lv_iload_n hx hb dX3_findStrengths_30 rfl (lv_at hl 3 rfl) ?_
          refine rd_goi (va_runV (C := RX4) (As := [.int i3_3]) (rest := []) S (c_X4_at l D cy g B (a 1) (a 2) 256 w.2.2.2.2.2.2.1 i3_3 (by decide)) (cwV 1 hts gX3_findStrengths_X4_at rfl rfl rfl hd_X4_at_V ⟨Nat.le_of_ble_eq_true rfl, Nat.le_of_ble_eq_true rfl⟩) ⟨rdP_blind, va_recv hK0.1 hP (ci := 2) (q0 := 1) rfl rfl, my_preV hK0 hS hAB hP [1, 2] rfl⟩ rfl rfl hl.1 rfl (lv_room (Nat.le_of_ble_eq_true rfl)) dX3_findStrengths_31 ⟨Nat.zero_le _, Nat.zero_le _⟩) ?_
          refine lv_istore (lv' := [(4, .int (rAt 256 w.2.2.2.2.2.2.1 i3_3)), (0, .ref (a 0)), (1, .ref (b 0)), (2, .int (f_X6_everybody v)), (3, .int i3_3)]) hx hb dX3_findStrengths_34 hl (by decide) rfl (fun ls hl => ?_)
          refine lv_aload_n hx hb dX3_findStrengths_36 rfl (lv_at hl 1 rfl) ?_
          refine va_get (D := D) (ci := 1) (v := .ref (a 3)) (C := RX3) (T := TX3) (N := 13) hx hb hts inX3 hown hK0.1 hP 0 rfl rfl 3 (by decide) (hts (.fieldLink RX3 20 "PivotChamber$Power" "strengths" "LPivotChamber$Row;") (List.mem_of_getElem? (i := 1) rfl)) (fun _ h9 => h9) rfl dX3_findStrengths_37 ?_
          refine lv_iload_n hx hb dX3_findStrengths_40 rfl (lv_at hl 4 rfl) ?_
          refine lv_aload_n hx hb dX3_findStrengths_41 rfl (lv_at hl 2 rfl) ?_
          refine lv_iload hx hb dX3_findStrengths_42 (lv_at hl 0 rfl) ?_
          refine rd_goi (va_runV (C := RX6) (As := [.int (rAt 256 w.2.2.2.2.2.2.1 i3_3)]) (rest := [.int i3_3, .ref (a 3)]) S (c_X6_firstBrokenRule l D cy g B b v (rAt 256 w.2.2.2.2.2.2.1 i3_3)) (cwV 1 hts gX3_findStrengths_X6_firstBrokenRule rfl rfl rfl hd_X6_firstBrokenRule_V ⟨Nat.le_of_ble_eq_true rfl, Nat.le_of_ble_eq_true rfl⟩) ⟨rdP_blind, va_recv hK0.1 hP (ci := 4) (q0 := 15) rfl rfl, my_preP hK0 hS hAB (my_cP hP 1 rfl)⟩ rfl rfl hl.1 rfl (lv_room (Nat.le_of_ble_eq_true rfl)) dX3_findStrengths_44 ⟨Nat.zero_le _, Nat.zero_le _⟩) ?_
          refine lv_iconst (v := (-1)) hx hb dX3_findStrengths_47 (by decide) ?_
          refine lv_icmp_ne (tgt := 60) hx hb dX3_findStrengths_48 (by decide) (fun c_7 => ?_) (fun c_7 => ?_)
          · refine lv_iconst (v := 0) hx hb dX3_findStrengths_60 (by decide) ?_
            refine mu_row (va_runV (C := RX4) (As := [.int i3_3, .int 0]) (rest := []) S (c_X4_put l D cy g B (a 3) (a 4) 256 w07_4 i3_3 0 (by decide)) (cwV 2 hts gX3_findStrengths_X4_put rfl rfl rfl hd_X4_put_V ⟨Nat.le_of_ble_eq_true rfl, Nat.le_of_ble_eq_true rfl⟩) ⟨muP_blind, va_recv hK0.1 hP (ci := 2) (q0 := 3) rfl rfl, my_preM hK0 hS hAB hP hD [3, 4] (by decide) rfl⟩ rfl rfl hl.1 rfl (lv_room (Nat.le_of_ble_eq_true rfl)) dX3_findStrengths_61 ⟨Nat.zero_le _, Nat.zero_le _⟩) hS hP hD [3, 4] rfl (w2 := (List.flatten [(wPowE cy a w.1 w.2.1 w.2.2.1 w.2.2.2.1 w.2.2.2.2.1 w.2.2.2.2.2.1 w.2.2.2.2.2.2.1 (rPut 256 w07_4 i3_3 0) w.2.2.2.2.2.2.2.2.1 w.2.2.2.2.2.2.2.2.2.1 w.2.2.2.2.2.2.2.2.2.2.1 w.2.2.2.2.2.2.2.2.2.2.2.1 w.2.2.2.2.2.2.2.2.2.2.2.2), (wSet cy b v)])) rfl (fun H locs hP hD hS => ?_)
            refine lv_iinc (v := (i3_3 + 1)) (lv' := [(3, .int (i3_3 + 1)), (4, .int (rAt 256 w.2.2.2.2.2.2.1 i3_3)), (0, .ref (a 0)), (1, .ref (b 0)), (2, .int (f_X6_everybody v))]) hx hb dX3_findStrengths_64 hl (k := 4) rfl rfl (by decide) rfl (fun ls hl => ?_)
            refine lv_goto (tgt := 14) hx hb dX3_findStrengths_67 (by decide) ?_
            have hst : f_X3_findStrengths_st w v i3_3 w07_4 = .inl ((i3_3 + 1), (rPut 256 w07_4 i3_3 0)) := by rw [f_X3_findStrengths_st, if_neg c_5, if_neg c_6, if_neg c_7]
            have hmu : ((256 : Int32).toInt - ((i3_3 + 1) : Int32).toInt).toNat < ((256 : Int32).toInt - (i3_3 : Int32).toInt).toNat := mu_up c_6
            exact ih0 (i3_3 + 1) (rPut 256 w07_4 i3_3 0) (Nat.lt_of_lt_of_le hmu (Nat.le_of_lt_succ hlt0)) (lp_inl hst hF0) _ _ hP hD hS _ (lv_sub hl [2, 3, 4, 0] rfl)
          · refine lv_aload_n hx hb dX3_findStrengths_51 rfl (lv_at hl 2 rfl) ?_
            refine lv_iload hx hb dX3_findStrengths_52 (lv_at hl 0 rfl) ?_
            refine rd_goi (va_runV (C := RX6) (As := [.int (rAt 256 w.2.2.2.2.2.2.1 i3_3)]) (rest := [.int i3_3, .ref (a 3)]) S (c_X6_weightOf l D cy g B b v (rAt 256 w.2.2.2.2.2.2.1 i3_3)) (cwV 1 hts gX3_findStrengths_X6_weightOf rfl rfl rfl hd_X6_weightOf_V ⟨Nat.le_of_ble_eq_true rfl, Nat.le_of_ble_eq_true rfl⟩) ⟨rdP_blind, va_recv hK0.1 hP (ci := 4) (q0 := 15) rfl rfl, my_preP hK0 hS hAB (my_cP hP 1 rfl)⟩ rfl rfl hl.1 rfl (lv_room (Nat.le_of_ble_eq_true rfl)) dX3_findStrengths_54 ⟨Nat.zero_le _, Nat.zero_le _⟩) ?_
            refine lv_goto (tgt := 61) hx hb dX3_findStrengths_57 (by decide) ?_
            refine mu_row (va_runV (C := RX4) (As := [.int i3_3, .int (f_X6_weightOf v (rAt 256 w.2.2.2.2.2.2.1 i3_3))]) (rest := []) S (c_X4_put l D cy g B (a 3) (a 4) 256 w07_4 i3_3 (f_X6_weightOf v (rAt 256 w.2.2.2.2.2.2.1 i3_3)) (by decide)) (cwV 2 hts gX3_findStrengths_X4_put rfl rfl rfl hd_X4_put_V ⟨Nat.le_of_ble_eq_true rfl, Nat.le_of_ble_eq_true rfl⟩) ⟨muP_blind, va_recv hK0.1 hP (ci := 2) (q0 := 3) rfl rfl, my_preM hK0 hS hAB hP hD [3, 4] (by decide) rfl⟩ rfl rfl hl.1 rfl (lv_room (Nat.le_of_ble_eq_true rfl)) dX3_findStrengths_61 ⟨Nat.zero_le _, Nat.zero_le _⟩) hS hP hD [3, 4] rfl (w2 := (List.flatten [(wPowE cy a w.1 w.2.1 w.2.2.1 w.2.2.2.1 w.2.2.2.2.1 w.2.2.2.2.2.1 w.2.2.2.2.2.2.1 (rPut 256 w07_4 i3_3 (f_X6_weightOf v (rAt 256 w.2.2.2.2.2.2.1 i3_3))) w.2.2.2.2.2.2.2.2.1 w.2.2.2.2.2.2.2.2.2.1 w.2.2.2.2.2.2.2.2.2.2.1 w.2.2.2.2.2.2.2.2.2.2.2.1 w.2.2.2.2.2.2.2.2.2.2.2.2), (wSet cy b v)])) rfl (fun H locs hP hD hS => ?_)
            refine lv_iinc (v := (i3_3 + 1)) (lv' := [(3, .int (i3_3 + 1)), (4, .int (rAt 256 w.2.2.2.2.2.2.1 i3_3)), (0, .ref (a 0)), (1, .ref (b 0)), (2, .int (f_X6_everybody v))]) hx hb dX3_findStrengths_64 hl (k := 4) rfl rfl (by decide) rfl (fun ls hl => ?_)
            refine lv_goto (tgt := 14) hx hb dX3_findStrengths_67 (by decide) ?_
            have hst : f_X3_findStrengths_st w v i3_3 w07_4 = .inl ((i3_3 + 1), (rPut 256 w07_4 i3_3 (f_X6_weightOf v (rAt 256 w.2.2.2.2.2.2.1 i3_3)))) := by rw [f_X3_findStrengths_st, if_neg c_5, if_neg c_6, if_pos c_7]
            have hmu : ((256 : Int32).toInt - ((i3_3 + 1) : Int32).toInt).toNat < ((256 : Int32).toInt - (i3_3 : Int32).toInt).toNat := mu_up c_6
            exact ih0 (i3_3 + 1) (rPut 256 w07_4 i3_3 (f_X6_weightOf v (rAt 256 w.2.2.2.2.2.2.1 i3_3))) (Nat.lt_of_lt_of_le hmu (Nat.le_of_lt_succ hlt0)) (lp_inl hst hF0) _ _ hP hD hS _ (lv_sub hl [2, 3, 4, 0] rfl)
  exact key (((256 : Int32).toInt - (0 : Int32).toInt).toNat + 1) 0 (f_X4_empty 256 w.2.2.2.2.2.2.2.1) (Nat.lt_succ_self _) rfl _ _ hP hD hS _ (lv_sub hl [2, 3, 1, 0] rfl)
theorem hd_X3_countWinning_S : yX3_countWinning.cls ≠ "java/lang/invoke/MethodHandle" ∧ yX3_countWinning.cls ≠ "java/lang/invoke/VarHandle" ∧ (parseMethodDescriptor yX3_countWinning.desc).map (fun d => d.parameters.length) = some 1 := by decide +kernel
theorem hd_X3_countWinning_V : yX3_countWinning.cls = RX3 ∧ yX3_countWinning.cls ≠ "java/lang/invoke/MethodHandle" ∧ yX3_countWinning.cls ≠ "java/lang/invoke/VarHandle" ∧ (parseMethodDescriptor yX3_countWinning.desc).map (fun d => d.parameters.length) = some 1 := ⟨rfl, hd_X3_countWinning_S⟩
def f_X3_countWinning_st (w : PowV) (x0 : Int32) (i4_1 : Int32) (i5_2 : Int32) (w09_3 : (Nat → Int32)) (w010_4 : (Nat → Int32)) : (Int32 × Int32 × (Nat → Int32) × (Nat → Int32)) ⊕ (Int32 × Int32 × (Nat → Int32) × (Nat → Int32)) := (if 8 ≤ i5_2 then (.inr (i4_1, i5_2, w09_3, w010_4)) else (if (f_X7_contains x0 i5_2) = 0 then (.inl (i4_1, (i5_2 + 1), w09_3, w010_4)) else (if (f_X3_isWinning (w.1, w.2.1, (w.2.2.1 + 1), (w.2.2.2.1 &&& x0), w.2.2.2.2.1, w.2.2.2.2.2.1, w.2.2.2.2.2.2.1, w.2.2.2.2.2.2.2.1, w.2.2.2.2.2.2.2.2.1, w09_3, w010_4, w.2.2.2.2.2.2.2.2.2.2.2) (x0 &&& ((1 <<< (i5_2 &&& 31)) ^^^ (-1)))) = 0 then (.inl ((i4_1 + 1), (i5_2 + 1), (rRaise 8 w09_3 i5_2 1), (rRaise 8 w010_4 i5_2 ((f_X7_factorial ((f_J6_bitCount_0f7a4 x0) - 1)) * (f_X7_factorial ((f_X3_playerCount (w.1, w.2.1, (w.2.2.1 + 1), (w.2.2.2.1 &&& x0), w.2.2.2.2)) - (f_J6_bitCount_0f7a4 x0))))))) else (.inl (i4_1, (i5_2 + 1), w09_3, w010_4)))))
def f_X3_countWinning (w : PowV) (x0 : Int32) : PowV := (my_t4 (lp (fun (x : Int32 × Int32 × (Nat → Int32) × (Nat → Int32)) => f_X3_countWinning_st w x0 x.1 x.2.1 x.2.2.1 x.2.2.2) default (((8 : Int32).toInt - (0 : Int32).toInt).toNat + 1) (0, 0, w.2.2.2.2.2.2.2.2.2.1, w.2.2.2.2.2.2.2.2.2.2.1)) (fun (i4_1 : Int32) (i5_2 : Int32) (w09_3 : (Nat → Int32)) (w010_4 : (Nat → Int32)) => (if i4_1 = (f_J6_bitCount_0f7a4 x0) then (w.1, w.2.1, (w.2.2.1 + 1), (w.2.2.2.1 &&& x0), (w.2.2.2.2.1 + 1), (w.2.2.2.2.2.1 + i4_1), w.2.2.2.2.2.2.1, w.2.2.2.2.2.2.2.1, (rPut 256 w.2.2.2.2.2.2.2.2.1 w.2.2.2.2.1 x0), w09_3, w010_4, w.2.2.2.2.2.2.2.2.2.2.2) else (w.1, w.2.1, (w.2.2.1 + 1), (w.2.2.2.1 &&& x0), w.2.2.2.2.1, (w.2.2.2.2.2.1 + i4_1), w.2.2.2.2.2.2.1, w.2.2.2.2.2.2.2.1, w.2.2.2.2.2.2.2.2.1, w09_3, w010_4, w.2.2.2.2.2.2.2.2.2.2.2))))
set_option maxHeartbeats 400000 in
set_option maxRecDepth 100000 in
theorem c_X3_countWinning (l : Launch) (D : va_G) (cy : Nat → ClassId) (g : Nat → Nat) (B : Nat) (a : Nat → Nat) (w : PowV) (x0 : Int32) : Met l yX3_countWinning wsX3_countWinning ({ frames := 2, cells := 0, slots := 0, locals := 42 }) (muP D cy g B (wPow cy a w) [.ref (a 0), .int x0]) (va_Qv (fun (u : PowV) => f_X3_countWinning w x0 = u) (fun u t => va_P D vwCl (wPow cy a u) t.heap) (muA (wPow cy a w))) 0 0 (muA (wPow cy a w)) := by
  refine Met.ofW (cc := cX3_countWinning) (maxL := 6) (ret := none) (by decide) rfl ?_
  intro p e s m args below meth c s₁ BB hml hv
  obtain ⟨rfl, hP, hK0, hD0⟩ := hv
  have hx := BB.exec
  have hb := BB.bytes
  have hr := BB.returns
  have hts := atoms_spec (ws := wsX3_countWinning) BB.pre
  have hown : s.vm.findClass RX3 = some m.cls := findClass_of_methodNamed BB.named
  have hlocks := BB.notSynchronized
  have S := my_fix hx hb hml hown hts
  have inX3 : ∀ w ∈ wsX30, w ∈ wsX3_countWinning := fun w h => List.mem_cons_of_mem _ (List.mem_append_left _ (List.mem_append_right _ h))
  have hAB := muB hD0
  have hD := muD hD0
  generalize hAe : muA (wPow cy a w) = A at hAB hD ⊢
  have hS : va_S A s.heap s.heap [] := va_S.rf
  have hl := lv_entry ([.ref (a 0), .int x0]) (n := 6) (Nat.le_of_ble_eq_true rfl)
  rw [lg_entry_eq]
  generalize (lg_sl ([.ref (a 0), .int x0]) ++ List.replicate (6 - (lg_sl ([.ref (a 0), .int x0])).length) Slot.unset).toArray = ls at hl ⊢
  have hl : lv_has ls 6 [(0, .ref (a 0)), (1, .int x0)] := hl
  refine lv_aload_n hx hb dX3_countWinning_0 rfl (lv_at hl 0 rfl) ?_
  refine lv_dup hx hb dX3_countWinning_1 rfl ?_
  refine va_get (D := D) (ci := 1) (v := .int w.2.2.1) (C := RX3) (T := TX3) (N := 13) hx hb hts inX3 hown hK0.1 hP 0 rfl rfl 4 (by decide) (hts (.fieldLink RX3 58 "PivotChamber$Power" "winningCount" "I") (List.mem_of_getElem? (i := 1) rfl)) (fun _ h9 => h9) rfl dX3_countWinning_2 ?_
  refine lv_iconst (v := 1) hx hb dX3_countWinning_5 (by decide) ?_
  refine lv_iadd hx hb dX3_countWinning_6 ?_
  refine va_put (D := D) (ci := 1) (v := .int (w.2.2.1 + 1)) (ty := .int) (C := RX3) (T := TX3) (N := 13) hx hb hts inX3 tyX3 tyX3_ok nmX3 hown hK0.1 hP hD hS 0 rfl rfl 4 (by decide) (hts (.fieldLink RX3 58 "PivotChamber$Power" "winningCount" "I") (List.mem_of_getElem? (i := 1) rfl)) (fun _ h9 => h9) rfl (by decide +kernel) rfl rfl (Nat.le_of_ble_eq_true rfl) dX3_countWinning_7 (fun H locs hP hD hS => ?_)
  have hP : va_P D vwCl (wPowE cy a w.1 w.2.1 (w.2.2.1 + 1) w.2.2.2.1 w.2.2.2.2.1 w.2.2.2.2.2.1 w.2.2.2.2.2.2.1 w.2.2.2.2.2.2.2.1 w.2.2.2.2.2.2.2.2.1 w.2.2.2.2.2.2.2.2.2.1 w.2.2.2.2.2.2.2.2.2.2.1 w.2.2.2.2.2.2.2.2.2.2.2.1 w.2.2.2.2.2.2.2.2.2.2.2.2) H := hP
  have hD : va_D A (wPowE cy a w.1 w.2.1 (w.2.2.1 + 1) w.2.2.2.1 w.2.2.2.2.1 w.2.2.2.2.2.1 w.2.2.2.2.2.2.1 w.2.2.2.2.2.2.2.1 w.2.2.2.2.2.2.2.2.1 w.2.2.2.2.2.2.2.2.2.1 w.2.2.2.2.2.2.2.2.2.2.1 w.2.2.2.2.2.2.2.2.2.2.2.1 w.2.2.2.2.2.2.2.2.2.2.2.2) := hD
  refine lv_aload_n hx hb dX3_countWinning_10 rfl (lv_at hl 0 rfl) ?_
  refine lv_dup hx hb dX3_countWinning_11 rfl ?_
  refine va_get (D := D) (ci := 1) (v := .int w.2.2.2.1) (C := RX3) (T := TX3) (N := 13) hx hb hts inX3 hown hK0.1 hP 0 rfl rfl 5 (by decide) (hts (.fieldLink RX3 61 "PivotChamber$Power" "inAllWinning" "I") (List.mem_of_getElem? (i := 2) rfl)) (fun _ h9 => h9) rfl dX3_countWinning_12 ?_
  refine lv_iload_n hx hb dX3_countWinning_15 rfl (lv_at hl 1 rfl) ?_
  refine lv_iand hx hb dX3_countWinning_16 ?_
  refine va_put (D := D) (ci := 1) (v := .int (w.2.2.2.1 &&& x0)) (ty := .int) (C := RX3) (T := TX3) (N := 13) hx hb hts inX3 tyX3 tyX3_ok nmX3 hown hK0.1 hP hD hS 0 rfl rfl 5 (by decide) (hts (.fieldLink RX3 61 "PivotChamber$Power" "inAllWinning" "I") (List.mem_of_getElem? (i := 2) rfl)) (fun _ h9 => h9) rfl (by decide +kernel) rfl rfl (Nat.le_of_ble_eq_true rfl) dX3_countWinning_17 (fun H locs hP hD hS => ?_)
  have hP : va_P D vwCl (wPowE cy a w.1 w.2.1 (w.2.2.1 + 1) (w.2.2.2.1 &&& x0) w.2.2.2.2.1 w.2.2.2.2.2.1 w.2.2.2.2.2.2.1 w.2.2.2.2.2.2.2.1 w.2.2.2.2.2.2.2.2.1 w.2.2.2.2.2.2.2.2.2.1 w.2.2.2.2.2.2.2.2.2.2.1 w.2.2.2.2.2.2.2.2.2.2.2.1 w.2.2.2.2.2.2.2.2.2.2.2.2) H := hP
  have hD : va_D A (wPowE cy a w.1 w.2.1 (w.2.2.1 + 1) (w.2.2.2.1 &&& x0) w.2.2.2.2.1 w.2.2.2.2.2.1 w.2.2.2.2.2.2.1 w.2.2.2.2.2.2.2.1 w.2.2.2.2.2.2.2.2.1 w.2.2.2.2.2.2.2.2.2.1 w.2.2.2.2.2.2.2.2.2.2.1 w.2.2.2.2.2.2.2.2.2.2.2.1 w.2.2.2.2.2.2.2.2.2.2.2.2) := hD
  refine lv_iload_n hx hb dX3_countWinning_20 rfl (lv_at hl 1 rfl) ?_
  refine rd_goi (va_runS (As := [.int x0]) (rest := []) S (c_J6_bitCount_0f7a4 l D cy g B x0) (va_cwS 1 hts gX3_countWinning_J6_bitCount_0f7a4 rfl rfl rfl hd_J6_bitCount_0f7a4_S ⟨Nat.le_of_ble_eq_true rfl, Nat.le_of_ble_eq_true rfl⟩) ⟨rdP_blind, my_preV hK0 hS hAB hP [] rfl⟩ rfl rfl hl.1 rfl (lv_room (Nat.le_of_ble_eq_true rfl)) dX3_countWinning_21 ⟨Nat.zero_le _, Nat.zero_le _⟩) ?_
  refine lv_istore_n (lv' := [(2, .int (f_J6_bitCount_0f7a4 x0)), (0, .ref (a 0)), (1, .int x0)]) hx hb dX3_countWinning_24 rfl hl (by decide) rfl (fun ls hl => ?_)
  refine lv_iload_n hx hb dX3_countWinning_25 rfl (lv_at hl 0 rfl) ?_
  refine lv_iconst (v := 1) hx hb dX3_countWinning_26 (by decide) ?_
  refine lv_isub hx hb dX3_countWinning_27 ?_
  refine rd_goi (va_runSN (As := [.int ((f_J6_bitCount_0f7a4 x0) - 1)]) (rest := []) S (c_X7_factorial l D cy g B ((f_J6_bitCount_0f7a4 x0) - 1)) ⟨va_cnB 1 hts gX3_countWinning_X7_factorial_n108 rfl rfl rfl (hK0.2.1.1.m 3 rfl) (hts (.initialized RX7) (List.mem_of_getElem? (i := 16) rfl)) hd_X7_factorial_S ⟨Nat.le_of_ble_eq_true rfl, Nat.le_of_ble_eq_true rfl⟩, (hts (.static yX7_factorial) (List.mem_of_getElem? (i := 15) rfl)), trivial⟩ ⟨rdP_blind, my_preV hK0 hS hAB hP [] rfl⟩ rfl rfl hl.1 rfl (lv_room (Nat.le_of_ble_eq_true rfl)) dX3_countWinning_28 ⟨Nat.zero_le _, Nat.zero_le _⟩) ?_
  refine lv_aload_n hx hb dX3_countWinning_31 rfl (lv_at hl 1 rfl) ?_
  have hP : va_P D vwCl (wPow cy a (w.1, w.2.1, (w.2.2.1 + 1), (w.2.2.2.1 &&& x0), w.2.2.2.2)) H := by rw [wPow_mk]; exact hP
  have hD : va_D A (wPow cy a (w.1, w.2.1, (w.2.2.1 + 1), (w.2.2.2.1 &&& x0), w.2.2.2.2)) := by rw [wPow_mk]; exact hD
  refine rd_goi (va_runV (C := RX3) (As := []) (rest := [.int (f_X7_factorial ((f_J6_bitCount_0f7a4 x0) - 1))]) S (c_X3_playerCount l D cy g B a (w.1, w.2.1, (w.2.2.1 + 1), (w.2.2.2.1 &&& x0), w.2.2.2.2)) (cwV 0 hts gX3_countWinning_X3_playerCount rfl rfl rfl hd_X3_playerCount_V ⟨Nat.le_of_ble_eq_true rfl, Nat.le_of_ble_eq_true rfl⟩) ⟨rdP_blind, va_recv hK0.1 hP (ci := 1) (q0 := 0) rfl rfl, my_preP hK0 hS hAB hP⟩ rfl rfl hl.1 rfl (lv_room (Nat.le_of_ble_eq_true rfl)) dX3_countWinning_32 ⟨Nat.zero_le _, Nat.zero_le _⟩) ?_
  refine lv_iload_n hx hb dX3_countWinning_35 rfl (lv_at hl 0 rfl) ?_
  refine lv_isub hx hb dX3_countWinning_36 ?_
  refine rd_goi (va_runSN (As := [.int ((f_X3_playerCount (w.1, w.2.1, (w.2.2.1 + 1), (w.2.2.2.1 &&& x0), w.2.2.2.2)) - (f_J6_bitCount_0f7a4 x0))]) (rest := [.int (f_X7_factorial ((f_J6_bitCount_0f7a4 x0) - 1))]) S (c_X7_factorial l D cy g B ((f_X3_playerCount (w.1, w.2.1, (w.2.2.1 + 1), (w.2.2.2.1 &&& x0), w.2.2.2.2)) - (f_J6_bitCount_0f7a4 x0))) ⟨va_cnB 1 hts gX3_countWinning_X7_factorial_n108 rfl rfl rfl (hK0.2.1.1.m 3 rfl) (hts (.initialized RX7) (List.mem_of_getElem? (i := 16) rfl)) hd_X7_factorial_S ⟨Nat.le_of_ble_eq_true rfl, Nat.le_of_ble_eq_true rfl⟩, (hts (.static yX7_factorial) (List.mem_of_getElem? (i := 15) rfl)), trivial⟩ ⟨rdP_blind, my_preV hK0 hS hAB hP [] rfl⟩ rfl rfl hl.1 rfl (lv_room (Nat.le_of_ble_eq_true rfl)) dX3_countWinning_37 ⟨Nat.zero_le _, Nat.zero_le _⟩) ?_
  refine lv_imul hx hb dX3_countWinning_40 ?_
  refine lv_istore_n (lv' := [(3, .int ((f_X7_factorial ((f_J6_bitCount_0f7a4 x0) - 1)) * (f_X7_factorial ((f_X3_playerCount (w.1, w.2.1, (w.2.2.1 + 1), (w.2.2.2.1 &&& x0), w.2.2.2.2)) - (f_J6_bitCount_0f7a4 x0))))), (2, .int (f_J6_bitCount_0f7a4 x0)), (0, .ref (a 0)), (1, .int x0)]) hx hb dX3_countWinning_41 rfl hl (by decide) rfl (fun ls hl => ?_)
  refine lv_iconst (v := 0) hx hb dX3_countWinning_42 (by decide) ?_
  refine lv_istore (lv' := [(4, .int 0), (3, .int ((f_X7_factorial ((f_J6_bitCount_0f7a4 x0) - 1)) * (f_X7_factorial ((f_X3_playerCount (w.1, w.2.1, (w.2.2.1 + 1), (w.2.2.2.1 &&& x0), w.2.2.2.2)) - (f_J6_bitCount_0f7a4 x0))))), (2, .int (f_J6_bitCount_0f7a4 x0)), (0, .ref (a 0)), (1, .int x0)]) hx hb dX3_countWinning_43 hl (by decide) rfl (fun ls hl => ?_)
  refine lv_iconst (v := 0) hx hb dX3_countWinning_45 (by decide) ?_
  refine lv_istore (lv' := [(5, .int 0), (4, .int 0), (3, .int ((f_X7_factorial ((f_J6_bitCount_0f7a4 x0) - 1)) * (f_X7_factorial ((f_X3_playerCount (w.1, w.2.1, (w.2.2.1 + 1), (w.2.2.2.1 &&& x0), w.2.2.2.2)) - (f_J6_bitCount_0f7a4 x0))))), (2, .int (f_J6_bitCount_0f7a4 x0)), (0, .ref (a 0)), (1, .int x0)]) hx hb dX3_countWinning_46 hl (by decide) rfl (fun ls hl => ?_)
  have cont0 : ∀ (i4_1 : Int32) (i5_2 : Int32) (w09_3 : (Nat → Int32)) (w010_4 : (Nat → Int32)), lp (fun (x : Int32 × Int32 × (Nat → Int32) × (Nat → Int32)) => f_X3_countWinning_st w x0 x.1 x.2.1 x.2.2.1 x.2.2.2) default (((8 : Int32).toInt - (0 : Int32).toInt).toNat + 1) (0, 0, w.2.2.2.2.2.2.2.2.2.1, w.2.2.2.2.2.2.2.2.2.2.1) = (i4_1, i5_2, w09_3, w010_4) → ∀ (H : Heap) (locs : List Loc), va_P D vwCl (wPowE cy a w.1 w.2.1 (w.2.2.1 + 1) (w.2.2.2.1 &&& x0) w.2.2.2.2.1 w.2.2.2.2.2.1 w.2.2.2.2.2.2.1 w.2.2.2.2.2.2.2.1 w.2.2.2.2.2.2.2.2.1 w09_3 w010_4 w.2.2.2.2.2.2.2.2.2.2.2.1 w.2.2.2.2.2.2.2.2.2.2.2.2) H → va_D A (wPowE cy a w.1 w.2.1 (w.2.2.1 + 1) (w.2.2.2.1 &&& x0) w.2.2.2.2.1 w.2.2.2.2.2.1 w.2.2.2.2.2.2.1 w.2.2.2.2.2.2.2.1 w.2.2.2.2.2.2.2.2.1 w09_3 w010_4 w.2.2.2.2.2.2.2.2.2.2.2.1 w.2.2.2.2.2.2.2.2.2.2.2.2) → va_S A s.heap H locs → ∀ ls : Array Slot, lv_has ls 6 [(0, .ref (a 0)), (1, .int x0), (2, .int (f_J6_bitCount_0f7a4 x0)), (3, .int ((f_X7_factorial ((f_J6_bitCount_0f7a4 x0) - 1)) * (f_X7_factorial ((f_X3_playerCount (w.1, w.2.1, (w.2.2.1 + 1), (w.2.2.2.1 &&& x0), w.2.2.2.2)) - (f_J6_bitCount_0f7a4 x0))))), (4, .int i4_1), (5, .int i5_2)] → W p l e (headSpec wsX3_countWinning ({ frames := 2, cells := 0, slots := 0, locals := 42 } : Room)).room s m ([.ref (a 0), .int x0] : List Value).toArray below meth c H locs 0 0 (MQ below (va_Qv (fun (u : PowV) => f_X3_countWinning w x0 = u) (fun u t => va_P D vwCl (wPow cy a u) t.heap) A) ([.ref (a 0), .int x0] : List Value).toArray s 0 0 A) (F0 m 108 ls []) := by
    intro i4_1 i5_2 w09_3 w010_4 hE0 H locs hP hD hS ls hl
    refine lv_aload_n hx hb dX3_countWinning_108 rfl (lv_at hl 0 rfl) ?_
    refine lv_dup hx hb dX3_countWinning_109 rfl ?_
    refine va_get (D := D) (ci := 1) (v := .int w.2.2.2.2.2.1) (C := RX3) (T := TX3) (N := 13) hx hb hts inX3 hown hK0.1 hP 0 rfl rfl 10 (by decide) (hts (.fieldLink RX3 67 "PivotChamber$Power" "allSwings" "I") (List.mem_of_getElem? (i := 5) rfl)) (fun _ h9 => h9) rfl dX3_countWinning_110 ?_
    refine lv_iload hx hb dX3_countWinning_113 (lv_at hl 4 rfl) ?_
    refine lv_iadd hx hb dX3_countWinning_115 ?_
    refine va_put (D := D) (ci := 1) (v := .int (w.2.2.2.2.2.1 + i4_1)) (ty := .int) (C := RX3) (T := TX3) (N := 13) hx hb hts inX3 tyX3 tyX3_ok nmX3 hown hK0.1 hP hD hS 0 rfl rfl 10 (by decide) (hts (.fieldLink RX3 67 "PivotChamber$Power" "allSwings" "I") (List.mem_of_getElem? (i := 5) rfl)) (fun _ h9 => h9) rfl (by decide +kernel) rfl rfl (Nat.le_of_ble_eq_true rfl) dX3_countWinning_116 (fun H locs hP hD hS => ?_)
    have hP : va_P D vwCl (wPowE cy a w.1 w.2.1 (w.2.2.1 + 1) (w.2.2.2.1 &&& x0) w.2.2.2.2.1 (w.2.2.2.2.2.1 + i4_1) w.2.2.2.2.2.2.1 w.2.2.2.2.2.2.2.1 w.2.2.2.2.2.2.2.2.1 w09_3 w010_4 w.2.2.2.2.2.2.2.2.2.2.2.1 w.2.2.2.2.2.2.2.2.2.2.2.2) H := hP
    have hD : va_D A (wPowE cy a w.1 w.2.1 (w.2.2.1 + 1) (w.2.2.2.1 &&& x0) w.2.2.2.2.1 (w.2.2.2.2.2.1 + i4_1) w.2.2.2.2.2.2.1 w.2.2.2.2.2.2.2.1 w.2.2.2.2.2.2.2.2.1 w09_3 w010_4 w.2.2.2.2.2.2.2.2.2.2.2.1 w.2.2.2.2.2.2.2.2.2.2.2.2) := hD
    refine lv_iload hx hb dX3_countWinning_119 (lv_at hl 4 rfl) ?_
    refine lv_iload_n hx hb dX3_countWinning_121 rfl (lv_at hl 2 rfl) ?_
    refine lv_icmp_ne (tgt := 147) hx hb dX3_countWinning_122 (by decide) (fun c_5 => ?_) (fun c_5 => ?_)
    · have hP : va_P D vwCl (wPow cy a (w.1, w.2.1, (w.2.2.1 + 1), (w.2.2.2.1 &&& x0), w.2.2.2.2.1, (w.2.2.2.2.2.1 + i4_1), w.2.2.2.2.2.2.1, w.2.2.2.2.2.2.2.1, w.2.2.2.2.2.2.2.2.1, w09_3, w010_4, w.2.2.2.2.2.2.2.2.2.2.2)) H := by rw [wPow_mk]; exact hP
      have hD : va_D A (wPow cy a (w.1, w.2.1, (w.2.2.1 + 1), (w.2.2.2.1 &&& x0), w.2.2.2.2.1, (w.2.2.2.2.2.1 + i4_1), w.2.2.2.2.2.2.1, w.2.2.2.2.2.2.2.1, w.2.2.2.2.2.2.2.2.1, w09_3, w010_4, w.2.2.2.2.2.2.2.2.2.2.2)) := by rw [wPow_mk]; exact hD
      exact W.vret hx hb hr (fun t ht hW => ⟨⟨(w.1, w.2.1, (w.2.2.1 + 1), (w.2.2.2.1 &&& x0), w.2.2.2.2.1, (w.2.2.2.2.2.1 + i4_1), w.2.2.2.2.2.2.1, w.2.2.2.2.2.2.2.1, w.2.2.2.2.2.2.2.2.1, w09_3, w010_4, w.2.2.2.2.2.2.2.2.2.2.2), rfl, (show f_X3_countWinning w x0 = (w.1, w.2.1, (w.2.2.1 + 1), (w.2.2.2.1 &&& x0), w.2.2.2.2.1, (w.2.2.2.2.2.1 + i4_1), w.2.2.2.2.2.2.1, w.2.2.2.2.2.2.2.1, w.2.2.2.2.2.2.2.2.1, w09_3, w010_4, w.2.2.2.2.2.2.2.2.2.2.2) from by rw [f_X3_countWinning, hE0, my_t4_eq, if_neg c_5]), by show va_P D vwCl _ t.heap; rw [ht]; exact hP⟩, hS.F ht⟩) hS.2.2 dX3_countWinning_147
    · refine lv_aload_n hx hb dX3_countWinning_125 rfl (lv_at hl 0 rfl) ?_
      refine va_get (D := D) (ci := 1) (v := .ref (a 5)) (C := RX3) (T := TX3) (N := 13) hx hb hts inX3 hown hK0.1 hP 0 rfl rfl 7 (by decide) (hts (.fieldLink RX3 23 "PivotChamber$Power" "leastSets" "LPivotChamber$Row;") (List.mem_of_getElem? (i := 6) rfl)) (fun _ h9 => h9) rfl dX3_countWinning_126 ?_
      refine lv_aload_n hx hb dX3_countWinning_129 rfl (lv_at hl 0 rfl) ?_
      refine va_get (D := D) (ci := 1) (v := .int w.2.2.2.2.1) (C := RX3) (T := TX3) (N := 13) hx hb hts inX3 hown hK0.1 hP 0 rfl rfl 6 (by decide) (hts (.fieldLink RX3 64 "PivotChamber$Power" "leastCount" "I") (List.mem_of_getElem? (i := 7) rfl)) (fun _ h9 => h9) rfl dX3_countWinning_130 ?_
      refine lv_iload_n hx hb dX3_countWinning_133 rfl (lv_at hl 1 rfl) ?_
      refine mu_row (va_runV (C := RX4) (As := [.int w.2.2.2.2.1, .int x0]) (rest := []) S (c_X4_put l D cy g B (a 5) (a 6) 256 w.2.2.2.2.2.2.2.2.1 w.2.2.2.2.1 x0 (by decide)) (cwV 2 hts gX3_countWinning_X4_put rfl rfl rfl hd_X4_put_V ⟨Nat.le_of_ble_eq_true rfl, Nat.le_of_ble_eq_true rfl⟩) ⟨muP_blind, va_recv hK0.1 hP (ci := 2) (q0 := 5) rfl rfl, my_preM hK0 hS hAB hP hD [5, 6] (by decide) rfl⟩ rfl rfl hl.1 rfl (lv_room (Nat.le_of_ble_eq_true rfl)) dX3_countWinning_134 ⟨Nat.zero_le _, Nat.zero_le _⟩) hS hP hD [5, 6] rfl (w2 := (wPowE cy a w.1 w.2.1 (w.2.2.1 + 1) (w.2.2.2.1 &&& x0) w.2.2.2.2.1 (w.2.2.2.2.2.1 + i4_1) w.2.2.2.2.2.2.1 w.2.2.2.2.2.2.2.1 (rPut 256 w.2.2.2.2.2.2.2.2.1 w.2.2.2.2.1 x0) w09_3 w010_4 w.2.2.2.2.2.2.2.2.2.2.2.1 w.2.2.2.2.2.2.2.2.2.2.2.2)) rfl (fun H locs hP hD hS => ?_)
      refine lv_aload_n hx hb dX3_countWinning_137 rfl (lv_at hl 0 rfl) ?_
      refine lv_dup hx hb dX3_countWinning_138 rfl ?_
      refine va_get (D := D) (ci := 1) (v := .int w.2.2.2.2.1) (C := RX3) (T := TX3) (N := 13) hx hb hts inX3 hown hK0.1 hP 0 rfl rfl 6 (by decide) (hts (.fieldLink RX3 64 "PivotChamber$Power" "leastCount" "I") (List.mem_of_getElem? (i := 7) rfl)) (fun _ h9 => h9) rfl dX3_countWinning_139 ?_
      refine lv_iconst (v := 1) hx hb dX3_countWinning_142 (by decide) ?_
      refine lv_iadd hx hb dX3_countWinning_143 ?_
      refine va_put (D := D) (ci := 1) (v := .int (w.2.2.2.2.1 + 1)) (ty := .int) (C := RX3) (T := TX3) (N := 13) hx hb hts inX3 tyX3 tyX3_ok nmX3 hown hK0.1 hP hD hS 0 rfl rfl 6 (by decide) (hts (.fieldLink RX3 64 "PivotChamber$Power" "leastCount" "I") (List.mem_of_getElem? (i := 7) rfl)) (fun _ h9 => h9) rfl (by decide +kernel) rfl rfl (Nat.le_of_ble_eq_true rfl) dX3_countWinning_144 (fun H locs hP hD hS => ?_)
      have hP : va_P D vwCl (wPowE cy a w.1 w.2.1 (w.2.2.1 + 1) (w.2.2.2.1 &&& x0) (w.2.2.2.2.1 + 1) (w.2.2.2.2.2.1 + i4_1) w.2.2.2.2.2.2.1 w.2.2.2.2.2.2.2.1 (rPut 256 w.2.2.2.2.2.2.2.2.1 w.2.2.2.2.1 x0) w09_3 w010_4 w.2.2.2.2.2.2.2.2.2.2.2.1 w.2.2.2.2.2.2.2.2.2.2.2.2) H := hP
      have hD : va_D A (wPowE cy a w.1 w.2.1 (w.2.2.1 + 1) (w.2.2.2.1 &&& x0) (w.2.2.2.2.1 + 1) (w.2.2.2.2.2.1 + i4_1) w.2.2.2.2.2.2.1 w.2.2.2.2.2.2.2.1 (rPut 256 w.2.2.2.2.2.2.2.2.1 w.2.2.2.2.1 x0) w09_3 w010_4 w.2.2.2.2.2.2.2.2.2.2.2.1 w.2.2.2.2.2.2.2.2.2.2.2.2) := hD
      have hP : va_P D vwCl (wPow cy a (w.1, w.2.1, (w.2.2.1 + 1), (w.2.2.2.1 &&& x0), (w.2.2.2.2.1 + 1), (w.2.2.2.2.2.1 + i4_1), w.2.2.2.2.2.2.1, w.2.2.2.2.2.2.2.1, (rPut 256 w.2.2.2.2.2.2.2.2.1 w.2.2.2.2.1 x0), w09_3, w010_4, w.2.2.2.2.2.2.2.2.2.2.2)) H := by rw [wPow_mk]; exact hP
      have hD : va_D A (wPow cy a (w.1, w.2.1, (w.2.2.1 + 1), (w.2.2.2.1 &&& x0), (w.2.2.2.2.1 + 1), (w.2.2.2.2.2.1 + i4_1), w.2.2.2.2.2.2.1, w.2.2.2.2.2.2.2.1, (rPut 256 w.2.2.2.2.2.2.2.2.1 w.2.2.2.2.1 x0), w09_3, w010_4, w.2.2.2.2.2.2.2.2.2.2.2)) := by rw [wPow_mk]; exact hD
      exact W.vret hx hb hr (fun t ht hW => ⟨⟨(w.1, w.2.1, (w.2.2.1 + 1), (w.2.2.2.1 &&& x0), (w.2.2.2.2.1 + 1), (w.2.2.2.2.2.1 + i4_1), w.2.2.2.2.2.2.1, w.2.2.2.2.2.2.2.1, (rPut 256 w.2.2.2.2.2.2.2.2.1 w.2.2.2.2.1 x0), w09_3, w010_4, w.2.2.2.2.2.2.2.2.2.2.2), rfl, (show f_X3_countWinning w x0 = (w.1, w.2.1, (w.2.2.1 + 1), (w.2.2.2.1 &&& x0), (w.2.2.2.2.1 + 1), (w.2.2.2.2.2.1 + i4_1), w.2.2.2.2.2.2.1, w.2.2.2.2.2.2.2.1, (rPut 256 w.2.2.2.2.2.2.2.2.1 w.2.2.2.2.1 x0), w09_3, w010_4, w.2.2.2.2.2.2.2.2.2.2.2) from by rw [f_X3_countWinning, hE0, my_t4_eq, if_pos c_5]), by show va_P D vwCl _ t.heap; rw [ht]; exact hP⟩, hS.F ht⟩) hS.2.2 dX3_countWinning_147
  have key : ∀ (nf : Nat) (i4_1 : Int32) (i5_2 : Int32) (w09_3 : (Nat → Int32)) (w010_4 : (Nat → Int32)), ((8 : Int32).toInt - (i5_2 : Int32).toInt).toNat < nf → lp (fun (x : Int32 × Int32 × (Nat → Int32) × (Nat → Int32)) => f_X3_countWinning_st w x0 x.1 x.2.1 x.2.2.1 x.2.2.2) default nf (i4_1, i5_2, w09_3, w010_4) = lp (fun (x : Int32 × Int32 × (Nat → Int32) × (Nat → Int32)) => f_X3_countWinning_st w x0 x.1 x.2.1 x.2.2.1 x.2.2.2) default (((8 : Int32).toInt - (0 : Int32).toInt).toNat + 1) (0, 0, w.2.2.2.2.2.2.2.2.2.1, w.2.2.2.2.2.2.2.2.2.2.1) → ∀ (H : Heap) (locs : List Loc), va_P D vwCl (wPowE cy a w.1 w.2.1 (w.2.2.1 + 1) (w.2.2.2.1 &&& x0) w.2.2.2.2.1 w.2.2.2.2.2.1 w.2.2.2.2.2.2.1 w.2.2.2.2.2.2.2.1 w.2.2.2.2.2.2.2.2.1 w09_3 w010_4 w.2.2.2.2.2.2.2.2.2.2.2.1 w.2.2.2.2.2.2.2.2.2.2.2.2) H → va_D A (wPowE cy a w.1 w.2.1 (w.2.2.1 + 1) (w.2.2.2.1 &&& x0) w.2.2.2.2.1 w.2.2.2.2.2.1 w.2.2.2.2.2.2.1 w.2.2.2.2.2.2.2.1 w.2.2.2.2.2.2.2.2.1 w09_3 w010_4 w.2.2.2.2.2.2.2.2.2.2.2.1 w.2.2.2.2.2.2.2.2.2.2.2.2) → va_S A s.heap H locs → ∀ ls : Array Slot, lv_has ls 6 [(0, .ref (a 0)), (1, .int x0), (2, .int (f_J6_bitCount_0f7a4 x0)), (3, .int ((f_X7_factorial ((f_J6_bitCount_0f7a4 x0) - 1)) * (f_X7_factorial ((f_X3_playerCount (w.1, w.2.1, (w.2.2.1 + 1), (w.2.2.2.1 &&& x0), w.2.2.2.2)) - (f_J6_bitCount_0f7a4 x0))))), (4, .int i4_1), (5, .int i5_2)] → W p l e (headSpec wsX3_countWinning ({ frames := 2, cells := 0, slots := 0, locals := 42 } : Room)).room s m ([.ref (a 0), .int x0] : List Value).toArray below meth c H locs 0 0 (MQ below (va_Qv (fun (u : PowV) => f_X3_countWinning w x0 = u) (fun u t => va_P D vwCl (wPow cy a u) t.heap) A) ([.ref (a 0), .int x0] : List Value).toArray s 0 0 A) (F0 m 48 ls []) := by
    intro n0
    induction n0 with
    | zero => intro i4_1 i5_2 w09_3 w010_4 hlt; exact absurd hlt (Nat.not_lt_zero _)
    | succ n0 ih0 =>
      intro i4_1 i5_2 w09_3 w010_4 hlt0 hF0 H locs hP hD hS ls hl
      refine lv_iload hx hb dX3_countWinning_48 (lv_at hl 5 rfl) ?_
      refine lv_bipush (v := 8) hx hb dX3_countWinning_50 (by decide) ?_
      refine lv_icmp_ge (tgt := 108) hx hb dX3_countWinning_52 (by decide) (fun c_8 => ?_) (fun c_8 => ?_)
      · have hst : f_X3_countWinning_st w x0 i4_1 i5_2 w09_3 w010_4 = .inr (i4_1, i5_2, w09_3, w010_4) := by rw [f_X3_countWinning_st, if_pos c_8]
        exact cont0 i4_1 i5_2 w09_3 w010_4 (lp_inr hst hF0) _ _ hP hD hS _ (lv_sub hl [0, 1, 2, 3, 4, 5] rfl)
      · refine lv_iload_n hx hb dX3_countWinning_55 rfl (lv_at hl 1 rfl) ?_
        refine lv_iload hx hb dX3_countWinning_56 (lv_at hl 5 rfl) ?_
        refine rd_goi (va_runSN (As := [.int x0, .int i5_2]) (rest := []) S (c_X7_contains l D cy g B x0 i5_2) ⟨va_cnB 2 hts gX3_countWinning_X7_contains_n114 rfl rfl rfl (hK0.2.1.1.m 4 rfl) (hts (.initialized RX7) (List.mem_of_getElem? (i := 16) rfl)) hd_X7_contains_S ⟨Nat.le_of_ble_eq_true rfl, Nat.le_of_ble_eq_true rfl⟩, (hts (.static yX7_contains) (List.mem_of_getElem? (i := 25) rfl)), trivial⟩ ⟨rdP_blind, my_preV hK0 hS hAB hP [] rfl⟩ rfl rfl hl.1 rfl (lv_room (Nat.le_of_ble_eq_true rfl)) dX3_countWinning_58 ⟨Nat.zero_le _, Nat.zero_le _⟩) ?_
        refine lv_if_eq (tgt := 102) hx hb dX3_countWinning_61 (by decide) (fun c_9 => ?_) (fun c_9 => ?_)
        · refine lv_iinc (v := (i5_2 + 1)) (lv' := [(5, .int (i5_2 + 1)), (0, .ref (a 0)), (1, .int x0), (2, .int (f_J6_bitCount_0f7a4 x0)), (3, .int ((f_X7_factorial ((f_J6_bitCount_0f7a4 x0) - 1)) * (f_X7_factorial ((f_X3_playerCount (w.1, w.2.1, (w.2.2.1 + 1), (w.2.2.2.1 &&& x0), w.2.2.2.2)) - (f_J6_bitCount_0f7a4 x0))))), (4, .int i4_1)]) hx hb dX3_countWinning_102 hl (k := 5) rfl rfl (by decide) rfl (fun ls hl => ?_)
          refine lv_goto (tgt := 48) hx hb dX3_countWinning_105 (by decide) ?_
          have hst : f_X3_countWinning_st w x0 i4_1 i5_2 w09_3 w010_4 = .inl (i4_1, (i5_2 + 1), w09_3, w010_4) := by rw [f_X3_countWinning_st, if_neg c_8, if_pos c_9]
          have hmu : ((8 : Int32).toInt - ((i5_2 + 1) : Int32).toInt).toNat < ((8 : Int32).toInt - (i5_2 : Int32).toInt).toNat := mu_up c_8
          exact ih0 i4_1 (i5_2 + 1) w09_3 w010_4 (Nat.lt_of_lt_of_le hmu (Nat.le_of_lt_succ hlt0)) (lp_inl hst hF0) _ _ hP hD hS _ (lv_sub hl [1, 2, 3, 4, 5, 0] rfl)
        · refine lv_aload_n hx hb dX3_countWinning_64 rfl (lv_at hl 0 rfl) ?_
          refine lv_iload_n hx hb dX3_countWinning_65 rfl (lv_at hl 1 rfl) ?_
          refine lv_iconst (v := 1) hx hb dX3_countWinning_66 (by decide) ?_
          refine lv_iload hx hb dX3_countWinning_67 (lv_at hl 5 rfl) ?_
          refine lv_ishl hx hb dX3_countWinning_69 ?_
          refine lv_iconst (v := (-1)) hx hb dX3_countWinning_70 (by decide) ?_
          refine lv_ixor hx hb dX3_countWinning_71 ?_
          refine lv_iand hx hb dX3_countWinning_72 ?_
          have hP : va_P D vwCl (wPow cy a (w.1, w.2.1, (w.2.2.1 + 1), (w.2.2.2.1 &&& x0), w.2.2.2.2.1, w.2.2.2.2.2.1, w.2.2.2.2.2.2.1, w.2.2.2.2.2.2.2.1, w.2.2.2.2.2.2.2.2.1, w09_3, w010_4, w.2.2.2.2.2.2.2.2.2.2.2)) H := by rw [wPow_mk]; exact hP
          have hD : va_D A (wPow cy a (w.1, w.2.1, (w.2.2.1 + 1), (w.2.2.2.1 &&& x0), w.2.2.2.2.1, w.2.2.2.2.2.1, w.2.2.2.2.2.2.1, w.2.2.2.2.2.2.2.1, w.2.2.2.2.2.2.2.2.1, w09_3, w010_4, w.2.2.2.2.2.2.2.2.2.2.2)) := by rw [wPow_mk]; exact hD
          refine rd_goi (va_runV (C := RX3) (As := [.int (x0 &&& ((1 <<< (i5_2 &&& 31)) ^^^ (-1)))]) (rest := []) S (c_X3_isWinning l D cy g B a (w.1, w.2.1, (w.2.2.1 + 1), (w.2.2.2.1 &&& x0), w.2.2.2.2.1, w.2.2.2.2.2.1, w.2.2.2.2.2.2.1, w.2.2.2.2.2.2.2.1, w.2.2.2.2.2.2.2.2.1, w09_3, w010_4, w.2.2.2.2.2.2.2.2.2.2.2) (x0 &&& ((1 <<< (i5_2 &&& 31)) ^^^ (-1)))) (cwV 1 hts gX3_countWinning_X3_isWinning rfl rfl rfl hd_X3_isWinning_V ⟨Nat.le_of_ble_eq_true rfl, Nat.le_of_ble_eq_true rfl⟩) ⟨rdP_blind, va_recv hK0.1 hP (ci := 1) (q0 := 0) rfl rfl, my_preP hK0 hS hAB hP⟩ rfl rfl hl.1 rfl (lv_room (Nat.le_of_ble_eq_true rfl)) dX3_countWinning_73 ⟨Nat.zero_le _, Nat.zero_le _⟩) ?_
          refine lv_if_ne (tgt := 102) hx hb dX3_countWinning_76 (by decide) (fun c_10 => ?_) (fun c_10 => ?_)
          · refine lv_iinc (v := (i5_2 + 1)) (lv' := [(5, .int (i5_2 + 1)), (0, .ref (a 0)), (1, .int x0), (2, .int (f_J6_bitCount_0f7a4 x0)), (3, .int ((f_X7_factorial ((f_J6_bitCount_0f7a4 x0) - 1)) * (f_X7_factorial ((f_X3_playerCount (w.1, w.2.1, (w.2.2.1 + 1), (w.2.2.2.1 &&& x0), w.2.2.2.2)) - (f_J6_bitCount_0f7a4 x0))))), (4, .int i4_1)]) hx hb dX3_countWinning_102 hl (k := 5) rfl rfl (by decide) rfl (fun ls hl => ?_)
            refine lv_goto (tgt := 48) hx hb dX3_countWinning_105 (by decide) ?_
            have hst : f_X3_countWinning_st w x0 i4_1 i5_2 w09_3 w010_4 = .inl (i4_1, (i5_2 + 1), w09_3, w010_4) := by rw [f_X3_countWinning_st, if_neg c_8, if_neg c_9, if_neg c_10]
            have hmu : ((8 : Int32).toInt - ((i5_2 + 1) : Int32).toInt).toNat < ((8 : Int32).toInt - (i5_2 : Int32).toInt).toNat := mu_up c_8
            exact ih0 i4_1 (i5_2 + 1) w09_3 w010_4 (Nat.lt_of_lt_of_le hmu (Nat.le_of_lt_succ hlt0)) (lp_inl hst hF0) _ _ hP hD hS _ (lv_sub hl [1, 2, 3, 4, 5, 0] rfl)
          · refine lv_iinc (v := (i4_1 + 1)) (lv' := [(4, .int (i4_1 + 1)), (0, .ref (a 0)), (1, .int x0), (2, .int (f_J6_bitCount_0f7a4 x0)), (3, .int ((f_X7_factorial ((f_J6_bitCount_0f7a4 x0) - 1)) * (f_X7_factorial ((f_X3_playerCount (w.1, w.2.1, (w.2.2.1 + 1), (w.2.2.2.1 &&& x0), w.2.2.2.2)) - (f_J6_bitCount_0f7a4 x0))))), (5, .int i5_2)]) hx hb dX3_countWinning_79 hl (k := 4) rfl rfl (by decide) rfl (fun ls hl => ?_)
            refine lv_aload_n hx hb dX3_countWinning_82 rfl (lv_at hl 1 rfl) ?_
            refine va_get (D := D) (ci := 1) (v := .ref (a 7)) (C := RX3) (T := TX3) (N := 13) hx hb hts inX3 hown hK0.1 hP 0 rfl rfl 8 (by decide) (hts (.fieldLink RX3 26 "PivotChamber$Power" "swings" "LPivotChamber$Row;") (List.mem_of_getElem? (i := 3) rfl)) (fun _ h9 => h9) rfl dX3_countWinning_83 ?_
            refine lv_iload hx hb dX3_countWinning_86 (lv_at hl 5 rfl) ?_
            refine lv_iconst (v := 1) hx hb dX3_countWinning_88 (by decide) ?_
            refine mu_row (va_runV (C := RX4) (As := [.int i5_2, .int 1]) (rest := []) S (c_X4_raise l D cy g B (a 7) (a 8) 8 w09_3 i5_2 1 (by decide)) (cwV 2 hts gX3_countWinning_X4_raise rfl rfl rfl hd_X4_raise_V ⟨Nat.le_of_ble_eq_true rfl, Nat.le_of_ble_eq_true rfl⟩) ⟨muP_blind, va_recv hK0.1 hP (ci := 2) (q0 := 7) rfl rfl, my_preM hK0 hS hAB hP hD [7, 8] (by decide) rfl⟩ rfl rfl hl.1 rfl (lv_room (Nat.le_of_ble_eq_true rfl)) dX3_countWinning_89 ⟨Nat.zero_le _, Nat.zero_le _⟩) hS hP hD [7, 8] rfl (w2 := (wPowE cy a w.1 w.2.1 (w.2.2.1 + 1) (w.2.2.2.1 &&& x0) w.2.2.2.2.1 w.2.2.2.2.2.1 w.2.2.2.2.2.2.1 w.2.2.2.2.2.2.2.1 w.2.2.2.2.2.2.2.2.1 (rRaise 8 w09_3 i5_2 1) w010_4 w.2.2.2.2.2.2.2.2.2.2.2.1 w.2.2.2.2.2.2.2.2.2.2.2.2)) rfl (fun H locs hP hD hS => ?_)
            refine lv_aload_n hx hb dX3_countWinning_92 rfl (lv_at hl 1 rfl) ?_
            refine va_get (D := D) (ci := 1) (v := .ref (a 9)) (C := RX3) (T := TX3) (N := 13) hx hb hts inX3 hown hK0.1 hP 0 rfl rfl 9 (by decide) (hts (.fieldLink RX3 29 "PivotChamber$Power" "orders" "LPivotChamber$Row;") (List.mem_of_getElem? (i := 4) rfl)) (fun _ h9 => h9) rfl dX3_countWinning_93 ?_
            refine lv_iload hx hb dX3_countWinning_96 (lv_at hl 5 rfl) ?_
            refine lv_iload_n hx hb dX3_countWinning_98 rfl (lv_at hl 4 rfl) ?_
            refine mu_row (va_runV (C := RX4) (As := [.int i5_2, .int ((f_X7_factorial ((f_J6_bitCount_0f7a4 x0) - 1)) * (f_X7_factorial ((f_X3_playerCount (w.1, w.2.1, (w.2.2.1 + 1), (w.2.2.2.1 &&& x0), w.2.2.2.2)) - (f_J6_bitCount_0f7a4 x0))))]) (rest := []) S (c_X4_raise l D cy g B (a 9) (a 10) 8 w010_4 i5_2 ((f_X7_factorial ((f_J6_bitCount_0f7a4 x0) - 1)) * (f_X7_factorial ((f_X3_playerCount (w.1, w.2.1, (w.2.2.1 + 1), (w.2.2.2.1 &&& x0), w.2.2.2.2)) - (f_J6_bitCount_0f7a4 x0)))) (by decide)) (cwV 2 hts gX3_countWinning_X4_raise rfl rfl rfl hd_X4_raise_V ⟨Nat.le_of_ble_eq_true rfl, Nat.le_of_ble_eq_true rfl⟩) ⟨muP_blind, va_recv hK0.1 hP (ci := 2) (q0 := 9) rfl rfl, my_preM hK0 hS hAB hP hD [9, 10] (by decide) rfl⟩ rfl rfl hl.1 rfl (lv_room (Nat.le_of_ble_eq_true rfl)) dX3_countWinning_99 ⟨Nat.zero_le _, Nat.zero_le _⟩) hS hP hD [9, 10] rfl (w2 := (wPowE cy a w.1 w.2.1 (w.2.2.1 + 1) (w.2.2.2.1 &&& x0) w.2.2.2.2.1 w.2.2.2.2.2.1 w.2.2.2.2.2.2.1 w.2.2.2.2.2.2.2.1 w.2.2.2.2.2.2.2.2.1 (rRaise 8 w09_3 i5_2 1) (rRaise 8 w010_4 i5_2 ((f_X7_factorial ((f_J6_bitCount_0f7a4 x0) - 1)) * (f_X7_factorial ((f_X3_playerCount (w.1, w.2.1, (w.2.2.1 + 1), (w.2.2.2.1 &&& x0), w.2.2.2.2)) - (f_J6_bitCount_0f7a4 x0))))) w.2.2.2.2.2.2.2.2.2.2.2.1 w.2.2.2.2.2.2.2.2.2.2.2.2)) rfl (fun H locs hP hD hS => ?_)
            refine lv_iinc (v := (i5_2 + 1)) (lv' := [(5, .int (i5_2 + 1)), (4, .int (i4_1 + 1)), (0, .ref (a 0)), (1, .int x0), (2, .int (f_J6_bitCount_0f7a4 x0)), (3, .int ((f_X7_factorial ((f_J6_bitCount_0f7a4 x0) - 1)) * (f_X7_factorial ((f_X3_playerCount (w.1, w.2.1, (w.2.2.1 + 1), (w.2.2.2.1 &&& x0), w.2.2.2.2)) - (f_J6_bitCount_0f7a4 x0)))))]) hx hb dX3_countWinning_102 hl (k := 5) rfl rfl (by decide) rfl (fun ls hl => ?_)
            refine lv_goto (tgt := 48) hx hb dX3_countWinning_105 (by decide) ?_
            have hst : f_X3_countWinning_st w x0 i4_1 i5_2 w09_3 w010_4 = .inl ((i4_1 + 1), (i5_2 + 1), (rRaise 8 w09_3 i5_2 1), (rRaise 8 w010_4 i5_2 ((f_X7_factorial ((f_J6_bitCount_0f7a4 x0) - 1)) * (f_X7_factorial ((f_X3_playerCount (w.1, w.2.1, (w.2.2.1 + 1), (w.2.2.2.1 &&& x0), w.2.2.2.2)) - (f_J6_bitCount_0f7a4 x0)))))) := by rw [f_X3_countWinning_st, if_neg c_8, if_neg c_9, if_pos c_10]
            have hmu : ((8 : Int32).toInt - ((i5_2 + 1) : Int32).toInt).toNat < ((8 : Int32).toInt - (i5_2 : Int32).toInt).toNat := mu_up c_8
            exact ih0 (i4_1 + 1) (i5_2 + 1) (rRaise 8 w09_3 i5_2 1) (rRaise 8 w010_4 i5_2 ((f_X7_factorial ((f_J6_bitCount_0f7a4 x0) - 1)) * (f_X7_factorial ((f_X3_playerCount (w.1, w.2.1, (w.2.2.1 + 1), (w.2.2.2.1 &&& x0), w.2.2.2.2)) - (f_J6_bitCount_0f7a4 x0))))) (Nat.lt_of_lt_of_le hmu (Nat.le_of_lt_succ hlt0)) (lp_inl hst hF0) _ _ hP hD hS _ (lv_sub hl [2, 3, 4, 5, 1, 0] rfl)
  exact key (((8 : Int32).toInt - (0 : Int32).toInt).toNat + 1) 0 0 w.2.2.2.2.2.2.2.2.2.1 w.2.2.2.2.2.2.2.2.2.2.1 (Nat.lt_succ_self _) rfl _ _ hP hD hS _ (lv_sub hl [4, 5, 3, 2, 1, 0] rfl)
theorem hd_X3_measure_S : yX3_measure.cls ≠ "java/lang/invoke/MethodHandle" ∧ yX3_measure.cls ≠ "java/lang/invoke/VarHandle" ∧ (parseMethodDescriptor yX3_measure.desc).map (fun d => d.parameters.length) = some 1 := by decide +kernel
theorem hd_X3_measure_V : yX3_measure.cls = RX3 ∧ yX3_measure.cls ≠ "java/lang/invoke/MethodHandle" ∧ yX3_measure.cls ≠ "java/lang/invoke/VarHandle" ∧ (parseMethodDescriptor yX3_measure.desc).map (fun d => d.parameters.length) = some 1 := ⟨rfl, hd_X3_measure_S⟩
def f_X3_measure_st  (i2_9 : Int32) (w0_10 : PowV) : (Int32 × PowV) ⊕ (Int32 × PowV) := (if 256 ≤ i2_9 then (.inr (i2_9, w0_10)) else (if (f_X3_isSetOfPlayers w0_10 i2_9) = 0 then (.inl ((i2_9 + 1), w0_10)) else (if (f_X3_isWinning w0_10 i2_9) = 0 then (.inl ((i2_9 + 1), w0_10)) else (my_l (f_X3_countWinning w0_10 i2_9) (fun (u_14 : PowV) => (.inl ((i2_9 + 1), u_14)))))))
def f_X3_measure (w : PowV) (v : SetV) : PowV := (my_l (f_X3_findYesSayers ((f_X6_players v), v.2.1, w.2.2) v) (fun (u_1 : PowV) => (my_l (f_X3_findStrengths u_1 v) (fun (u_3 : PowV) => (my_t2 (lp (fun (x : Int32 × PowV) => f_X3_measure_st x.1 x.2) default (((256 : Int32).toInt - (0 : Int32).toInt).toNat + 1) (0, (u_3.1, u_3.2.1, 0, u_3.1, 0, 0, u_3.2.2.2.2.2.2.1, u_3.2.2.2.2.2.2.2.1, u_3.2.2.2.2.2.2.2.2.1, (f_X4_empty 8 u_3.2.2.2.2.2.2.2.2.2.1), (f_X4_empty 8 u_3.2.2.2.2.2.2.2.2.2.2.1), u_3.2.2.2.2.2.2.2.2.2.2.2))) (fun (i2_9 : Int32) (w0_10 : PowV) => w0_10))))))
set_option maxHeartbeats 3200000 in
set_option maxRecDepth 100000 in
theorem c_X3_measure (l : Launch) (D : va_G) (cy : Nat → ClassId) (g : Nat → Nat) (B : Nat) (a : Nat → Nat) (b : Nat → Nat) (w : PowV) (v : SetV) : Met l yX3_measure wsX3_measure ({ frames := 4, cells := 0, slots := 0, locals := 90 }) (muP D cy g B (List.flatten [(wPow cy a w), (wSet cy b v)]) [.ref (a 0), .ref (b 0)]) (va_Qv (fun (u : PowV) => f_X3_measure w v = u) (fun u t => va_P D vwCl (List.flatten [(wPow cy a u), (wSet cy b v)]) t.heap) (muA (List.flatten [(wPow cy a w), (wSet cy b v)]))) 0 0 (muA (List.flatten [(wPow cy a w), (wSet cy b v)])) := by
  refine Met.ofW (cc := cX3_measure) (maxL := 3) (ret := none) (by decide) rfl ?_
  intro p e s m args below meth c s₁ BB hml hv
  obtain ⟨rfl, hP, hK0, hD0⟩ := hv
  have hx := BB.exec
  have hb := BB.bytes
  have hr := BB.returns
  have hts := atoms_spec (ws := wsX3_measure) BB.pre
  have hown : s.vm.findClass RX3 = some m.cls := findClass_of_methodNamed BB.named
  have hlocks := BB.notSynchronized
  have S := my_fix hx hb hml hown hts
  have inX3 : ∀ w ∈ wsX30, w ∈ wsX3_measure := fun w h => List.mem_cons_of_mem _ (List.mem_append_left _ (List.mem_append_left _ (List.mem_append_right _ h)))
  have inX6 : ∀ w ∈ wsX60, w ∈ wsX3_measure := fun w h => List.mem_cons_of_mem _ (List.mem_append_left _ (List.mem_append_right _ h))
  have hAB := muB hD0
  have hD := muD hD0
  generalize hAe : muA (List.flatten [(wPow cy a w), (wSet cy b v)]) = A at hAB hD ⊢
  have hS : va_S A s.heap s.heap [] := va_S.rf
  have hl := lv_entry ([.ref (a 0), .ref (b 0)]) (n := 3) (Nat.le_of_ble_eq_true rfl)
  rw [lg_entry_eq]
  generalize (lg_sl ([.ref (a 0), .ref (b 0)]) ++ List.replicate (3 - (lg_sl ([.ref (a 0), .ref (b 0)])).length) Slot.unset).toArray = ls at hl ⊢
  have hl : lv_has ls 3 [(0, .ref (a 0)), (1, .ref (b 0))] := hl
  refine lv_aload_n hx hb dX3_measure_0 rfl (lv_at hl 0 rfl) ?_
  refine lv_aload_n hx hb dX3_measure_1 rfl (lv_at hl 1 rfl) ?_
  refine rd_goi (va_runV (C := RX6) (As := []) (rest := [.ref (a 0)]) S (c_X6_players l D cy g B b v) (cwV 0 hts gX3_measure_X6_players rfl rfl rfl hd_X6_players_V ⟨Nat.le_of_ble_eq_true rfl, Nat.le_of_ble_eq_true rfl⟩) ⟨rdP_blind, va_recv hK0.1 hP (ci := 4) (q0 := 15) rfl rfl, my_preP hK0 hS hAB (my_cP hP 1 rfl)⟩ rfl rfl hl.1 rfl (lv_room (Nat.le_of_ble_eq_true rfl)) dX3_measure_2 ⟨Nat.zero_le _, Nat.zero_le _⟩) ?_
  refine va_put (D := D) (ci := 1) (v := .int (f_X6_players v)) (ty := .int) (C := RX3) (T := TX3) (N := 13) hx hb hts inX3 tyX3 tyX3_ok nmX3 hown hK0.1 hP hD hS 0 rfl rfl 0 (by decide) (hts (.fieldLink RX3 44 "PivotChamber$Power" "players" "I") (List.mem_of_getElem? (i := 1) rfl)) (fun _ h9 => h9) rfl (by decide +kernel) rfl rfl (Nat.le_of_ble_eq_true rfl) dX3_measure_5 (fun H locs hP hD hS => ?_)
  have hP : va_P D vwCl (List.flatten [(wPowE cy a (f_X6_players v) w.2.1 w.2.2.1 w.2.2.2.1 w.2.2.2.2.1 w.2.2.2.2.2.1 w.2.2.2.2.2.2.1 w.2.2.2.2.2.2.2.1 w.2.2.2.2.2.2.2.2.1 w.2.2.2.2.2.2.2.2.2.1 w.2.2.2.2.2.2.2.2.2.2.1 w.2.2.2.2.2.2.2.2.2.2.2.1 w.2.2.2.2.2.2.2.2.2.2.2.2), (wSet cy b v)]) H := hP
  have hD : va_D A (List.flatten [(wPowE cy a (f_X6_players v) w.2.1 w.2.2.1 w.2.2.2.1 w.2.2.2.2.1 w.2.2.2.2.2.1 w.2.2.2.2.2.2.1 w.2.2.2.2.2.2.2.1 w.2.2.2.2.2.2.2.2.1 w.2.2.2.2.2.2.2.2.2.1 w.2.2.2.2.2.2.2.2.2.2.1 w.2.2.2.2.2.2.2.2.2.2.2.1 w.2.2.2.2.2.2.2.2.2.2.2.2), (wSet cy b v)]) := hD
  refine lv_aload_n hx hb dX3_measure_8 rfl (lv_at hl 0 rfl) ?_
  refine lv_aload_n hx hb dX3_measure_9 rfl (lv_at hl 1 rfl) ?_
  refine va_getN (D := D) (ci := 4) (v := .int v.2.1) (C := RX6) (T := TX6) (N := 7) (host := "PivotChamber") hx hb hts inX6 hown hK0.1 hP 15 rfl rfl 3 (by decide) (va_Nw.use rfl (hK0.2.1.1.f 17 rfl)) (fun _ h9 => h9) rfl dX3_measure_10 ?_
  refine va_put (D := D) (ci := 1) (v := .int v.2.1) (ty := .int) (C := RX3) (T := TX3) (N := 13) hx hb hts inX3 tyX3 tyX3_ok nmX3 hown hK0.1 hP hD hS 0 rfl rfl 1 (by decide) (hts (.fieldLink RX3 50 "PivotChamber$Power" "quota" "I") (List.mem_of_getElem? (i := 2) rfl)) (fun _ h9 => h9) rfl (by decide +kernel) rfl rfl (Nat.le_of_ble_eq_true rfl) dX3_measure_13 (fun H locs hP hD hS => ?_)
  have hP : va_P D vwCl (List.flatten [(wPowE cy a (f_X6_players v) v.2.1 w.2.2.1 w.2.2.2.1 w.2.2.2.2.1 w.2.2.2.2.2.1 w.2.2.2.2.2.2.1 w.2.2.2.2.2.2.2.1 w.2.2.2.2.2.2.2.2.1 w.2.2.2.2.2.2.2.2.2.1 w.2.2.2.2.2.2.2.2.2.2.1 w.2.2.2.2.2.2.2.2.2.2.2.1 w.2.2.2.2.2.2.2.2.2.2.2.2), (wSet cy b v)]) H := hP
  have hD : va_D A (List.flatten [(wPowE cy a (f_X6_players v) v.2.1 w.2.2.1 w.2.2.2.1 w.2.2.2.2.1 w.2.2.2.2.2.1 w.2.2.2.2.2.2.1 w.2.2.2.2.2.2.2.1 w.2.2.2.2.2.2.2.2.1 w.2.2.2.2.2.2.2.2.2.1 w.2.2.2.2.2.2.2.2.2.2.1 w.2.2.2.2.2.2.2.2.2.2.2.1 w.2.2.2.2.2.2.2.2.2.2.2.2), (wSet cy b v)]) := hD
  refine lv_aload_n hx hb dX3_measure_16 rfl (lv_at hl 0 rfl) ?_
  refine lv_aload_n hx hb dX3_measure_17 rfl (lv_at hl 1 rfl) ?_
  have hP : va_P D vwCl (List.flatten [(wPow cy a ((f_X6_players v), v.2.1, w.2.2)), (wSet cy b v)]) H := by rw [wPow_mk]; exact hP
  have hD : va_D A (List.flatten [(wPow cy a ((f_X6_players v), v.2.1, w.2.2)), (wSet cy b v)]) := by rw [wPow_mk]; exact hD
  refine mu_allv (wf := fun (u_1 : PowV) => (List.flatten [(wPow cy a u_1), (wSet cy b v)])) (va_runV (C := RX3) (As := [.ref (b 0)]) (rest := []) S (c_X3_findYesSayers l D cy g B a b ((f_X6_players v), v.2.1, w.2.2) v) (cwV 1 hts gX3_measure_X3_findYesSayers rfl rfl rfl hd_X3_findYesSayers_V ⟨Nat.le_of_ble_eq_true rfl, Nat.le_of_ble_eq_true rfl⟩) ⟨muP_blind, va_recv hK0.1 hP (ci := 1) (q0 := 0) rfl rfl, my_preA hK0 hS hAB hP hD⟩ rfl rfl hl.1 rfl (lv_room (Nat.le_of_ble_eq_true rfl)) dX3_measure_18 ⟨Nat.zero_le _, Nat.zero_le _⟩) hS hD (fun _ => my_flat_adr (by simp only [List.map_cons, List.map_nil, adrSet, adrSetE, adrPow, adrPowE, adrTxt, adrTxtE, adrSav, adrSavE, adrPCo, adrMod, adrModE])) (fun u_1 H locs hw_2 hP hD hS => ?_)
  refine lv_aload_n hx hb dX3_measure_21 rfl (lv_at hl 0 rfl) ?_
  refine lv_aload_n hx hb dX3_measure_22 rfl (lv_at hl 1 rfl) ?_
  refine mu_allv (wf := fun (u_3 : PowV) => (List.flatten [(wPow cy a u_3), (wSet cy b v)])) (va_runV (C := RX3) (As := [.ref (b 0)]) (rest := []) S (c_X3_findStrengths l D cy g B a b u_1 v) (cwV 1 hts gX3_measure_X3_findStrengths rfl rfl rfl hd_X3_findStrengths_V ⟨Nat.le_of_ble_eq_true rfl, Nat.le_of_ble_eq_true rfl⟩) ⟨muP_blind, va_recv hK0.1 hP (ci := 1) (q0 := 0) rfl rfl, my_preA hK0 hS hAB hP hD⟩ rfl rfl hl.1 rfl (lv_room (Nat.le_of_ble_eq_true rfl)) dX3_measure_23 ⟨Nat.zero_le _, Nat.zero_le _⟩) hS hD (fun _ => my_flat_adr (by simp only [List.map_cons, List.map_nil, adrSet, adrSetE, adrPow, adrPowE, adrTxt, adrTxtE, adrSav, adrSavE, adrPCo, adrMod, adrModE])) (fun u_3 H locs hw_4 hP hD hS => ?_)
  refine lv_aload_n hx hb dX3_measure_26 rfl (lv_at hl 0 rfl) ?_
  refine lv_iconst (v := 0) hx hb dX3_measure_27 (by decide) ?_
  refine va_put (D := D) (ci := 1) (v := .int 0) (ty := .int) (C := RX3) (T := TX3) (N := 13) hx hb hts inX3 tyX3 tyX3_ok nmX3 hown hK0.1 hP hD hS 0 rfl rfl 4 (by decide) (hts (.fieldLink RX3 58 "PivotChamber$Power" "winningCount" "I") (List.mem_of_getElem? (i := 3) rfl)) (fun _ h9 => h9) rfl (by decide +kernel) rfl rfl (Nat.le_of_ble_eq_true rfl) dX3_measure_28 (fun H locs hP hD hS => ?_)
  have hP : va_P D vwCl (List.flatten [(wPowE cy a u_3.1 u_3.2.1 0 u_3.2.2.2.1 u_3.2.2.2.2.1 u_3.2.2.2.2.2.1 u_3.2.2.2.2.2.2.1 u_3.2.2.2.2.2.2.2.1 u_3.2.2.2.2.2.2.2.2.1 u_3.2.2.2.2.2.2.2.2.2.1 u_3.2.2.2.2.2.2.2.2.2.2.1 u_3.2.2.2.2.2.2.2.2.2.2.2.1 u_3.2.2.2.2.2.2.2.2.2.2.2.2), (wSet cy b v)]) H := hP
  have hD : va_D A (List.flatten [(wPowE cy a u_3.1 u_3.2.1 0 u_3.2.2.2.1 u_3.2.2.2.2.1 u_3.2.2.2.2.2.1 u_3.2.2.2.2.2.2.1 u_3.2.2.2.2.2.2.2.1 u_3.2.2.2.2.2.2.2.2.1 u_3.2.2.2.2.2.2.2.2.2.1 u_3.2.2.2.2.2.2.2.2.2.2.1 u_3.2.2.2.2.2.2.2.2.2.2.2.1 u_3.2.2.2.2.2.2.2.2.2.2.2.2), (wSet cy b v)]) := hD
  refine lv_aload_n hx hb dX3_measure_31 rfl (lv_at hl 0 rfl) ?_
  refine lv_aload_n hx hb dX3_measure_32 rfl (lv_at hl 0 rfl) ?_
  refine va_get (D := D) (ci := 1) (v := .int u_3.1) (C := RX3) (T := TX3) (N := 13) hx hb hts inX3 hown hK0.1 hP 0 rfl rfl 0 (by decide) (hts (.fieldLink RX3 44 "PivotChamber$Power" "players" "I") (List.mem_of_getElem? (i := 1) rfl)) (fun _ h9 => h9) rfl dX3_measure_33 ?_
  refine va_put (D := D) (ci := 1) (v := .int u_3.1) (ty := .int) (C := RX3) (T := TX3) (N := 13) hx hb hts inX3 tyX3 tyX3_ok nmX3 hown hK0.1 hP hD hS 0 rfl rfl 5 (by decide) (hts (.fieldLink RX3 61 "PivotChamber$Power" "inAllWinning" "I") (List.mem_of_getElem? (i := 4) rfl)) (fun _ h9 => h9) rfl (by decide +kernel) rfl rfl (Nat.le_of_ble_eq_true rfl) dX3_measure_36 (fun H locs hP hD hS => ?_)
  have hP : va_P D vwCl (List.flatten [(wPowE cy a u_3.1 u_3.2.1 0 u_3.1 u_3.2.2.2.2.1 u_3.2.2.2.2.2.1 u_3.2.2.2.2.2.2.1 u_3.2.2.2.2.2.2.2.1 u_3.2.2.2.2.2.2.2.2.1 u_3.2.2.2.2.2.2.2.2.2.1 u_3.2.2.2.2.2.2.2.2.2.2.1 u_3.2.2.2.2.2.2.2.2.2.2.2.1 u_3.2.2.2.2.2.2.2.2.2.2.2.2), (wSet cy b v)]) H := hP
  have hD : va_D A (List.flatten [(wPowE cy a u_3.1 u_3.2.1 0 u_3.1 u_3.2.2.2.2.1 u_3.2.2.2.2.2.1 u_3.2.2.2.2.2.2.1 u_3.2.2.2.2.2.2.2.1 u_3.2.2.2.2.2.2.2.2.1 u_3.2.2.2.2.2.2.2.2.2.1 u_3.2.2.2.2.2.2.2.2.2.2.1 u_3.2.2.2.2.2.2.2.2.2.2.2.1 u_3.2.2.2.2.2.2.2.2.2.2.2.2), (wSet cy b v)]) := hD
  refine lv_aload_n hx hb dX3_measure_39 rfl (lv_at hl 0 rfl) ?_
  refine lv_iconst (v := 0) hx hb dX3_measure_40 (by decide) ?_
  refine va_put (D := D) (ci := 1) (v := .int 0) (ty := .int) (C := RX3) (T := TX3) (N := 13) hx hb hts inX3 tyX3 tyX3_ok nmX3 hown hK0.1 hP hD hS 0 rfl rfl 6 (by decide) (hts (.fieldLink RX3 64 "PivotChamber$Power" "leastCount" "I") (List.mem_of_getElem? (i := 5) rfl)) (fun _ h9 => h9) rfl (by decide +kernel) rfl rfl (Nat.le_of_ble_eq_true rfl) dX3_measure_41 (fun H locs hP hD hS => ?_)
  have hP : va_P D vwCl (List.flatten [(wPowE cy a u_3.1 u_3.2.1 0 u_3.1 0 u_3.2.2.2.2.2.1 u_3.2.2.2.2.2.2.1 u_3.2.2.2.2.2.2.2.1 u_3.2.2.2.2.2.2.2.2.1 u_3.2.2.2.2.2.2.2.2.2.1 u_3.2.2.2.2.2.2.2.2.2.2.1 u_3.2.2.2.2.2.2.2.2.2.2.2.1 u_3.2.2.2.2.2.2.2.2.2.2.2.2), (wSet cy b v)]) H := hP
  have hD : va_D A (List.flatten [(wPowE cy a u_3.1 u_3.2.1 0 u_3.1 0 u_3.2.2.2.2.2.1 u_3.2.2.2.2.2.2.1 u_3.2.2.2.2.2.2.2.1 u_3.2.2.2.2.2.2.2.2.1 u_3.2.2.2.2.2.2.2.2.2.1 u_3.2.2.2.2.2.2.2.2.2.2.1 u_3.2.2.2.2.2.2.2.2.2.2.2.1 u_3.2.2.2.2.2.2.2.2.2.2.2.2), (wSet cy b v)]) := hD
  refine lv_aload_n hx hb dX3_measure_44 rfl (lv_at hl 0 rfl) ?_
  refine lv_iconst (v := 0) hx hb dX3_measure_45 (by decide) ?_
  refine va_put (D := D) (ci := 1) (v := .int 0) (ty := .int) (C := RX3) (T := TX3) (N := 13) hx hb hts inX3 tyX3 tyX3_ok nmX3 hown hK0.1 hP hD hS 0 rfl rfl 10 (by decide) (hts (.fieldLink RX3 67 "PivotChamber$Power" "allSwings" "I") (List.mem_of_getElem? (i := 6) rfl)) (fun _ h9 => h9) rfl (by decide +kernel) rfl rfl (Nat.le_of_ble_eq_true rfl) dX3_measure_46 (fun H locs hP hD hS => ?_)
  have hP : va_P D vwCl (List.flatten [(wPowE cy a u_3.1 u_3.2.1 0 u_3.1 0 0 u_3.2.2.2.2.2.2.1 u_3.2.2.2.2.2.2.2.1 u_3.2.2.2.2.2.2.2.2.1 u_3.2.2.2.2.2.2.2.2.2.1 u_3.2.2.2.2.2.2.2.2.2.2.1 u_3.2.2.2.2.2.2.2.2.2.2.2.1 u_3.2.2.2.2.2.2.2.2.2.2.2.2), (wSet cy b v)]) H := hP
  have hD : va_D A (List.flatten [(wPowE cy a u_3.1 u_3.2.1 0 u_3.1 0 0 u_3.2.2.2.2.2.2.1 u_3.2.2.2.2.2.2.2.1 u_3.2.2.2.2.2.2.2.2.1 u_3.2.2.2.2.2.2.2.2.2.1 u_3.2.2.2.2.2.2.2.2.2.2.1 u_3.2.2.2.2.2.2.2.2.2.2.2.1 u_3.2.2.2.2.2.2.2.2.2.2.2.2), (wSet cy b v)]) := hD
  refine lv_aload_n hx hb dX3_measure_49 rfl (lv_at hl 0 rfl) ?_
  refine va_get (D := D) (ci := 1) (v := .ref (a 7)) (C := RX3) (T := TX3) (N := 13) hx hb hts inX3 hown hK0.1 hP 0 rfl rfl 8 (by decide) (hts (.fieldLink RX3 26 "PivotChamber$Power" "swings" "LPivotChamber$Row;") (List.mem_of_getElem? (i := 7) rfl)) (fun _ h9 => h9) rfl dX3_measure_50 ?_
  refine mu_row (va_runV (C := RX4) (As := []) (rest := []) S (c_X4_empty l D cy g B (a 7) (a 8) 8 u_3.2.2.2.2.2.2.2.2.2.1 (by decide)) (cwV 0 hts gX3_measure_X4_empty rfl rfl rfl hd_X4_empty_V ⟨Nat.le_of_ble_eq_true rfl, Nat.le_of_ble_eq_true rfl⟩) ⟨muP_blind, va_recv hK0.1 hP (ci := 2) (q0 := 7) rfl rfl, my_preM hK0 hS hAB hP hD [7, 8] (by decide) rfl⟩ rfl rfl hl.1 rfl (lv_room (Nat.le_of_ble_eq_true rfl)) dX3_measure_53 ⟨Nat.zero_le _, Nat.zero_le _⟩) hS hP hD [7, 8] rfl (w2 := (List.flatten [(wPowE cy a u_3.1 u_3.2.1 0 u_3.1 0 0 u_3.2.2.2.2.2.2.1 u_3.2.2.2.2.2.2.2.1 u_3.2.2.2.2.2.2.2.2.1 (f_X4_empty 8 u_3.2.2.2.2.2.2.2.2.2.1) u_3.2.2.2.2.2.2.2.2.2.2.1 u_3.2.2.2.2.2.2.2.2.2.2.2.1 u_3.2.2.2.2.2.2.2.2.2.2.2.2), (wSet cy b v)])) rfl (fun H locs hP hD hS => ?_)
  refine lv_aload_n hx hb dX3_measure_56 rfl (lv_at hl 0 rfl) ?_
  refine va_get (D := D) (ci := 1) (v := .ref (a 9)) (C := RX3) (T := TX3) (N := 13) hx hb hts inX3 hown hK0.1 hP 0 rfl rfl 9 (by decide) (hts (.fieldLink RX3 29 "PivotChamber$Power" "orders" "LPivotChamber$Row;") (List.mem_of_getElem? (i := 8) rfl)) (fun _ h9 => h9) rfl dX3_measure_57 ?_
  refine mu_row (va_runV (C := RX4) (As := []) (rest := []) S (c_X4_empty l D cy g B (a 9) (a 10) 8 u_3.2.2.2.2.2.2.2.2.2.2.1 (by decide)) (cwV 0 hts gX3_measure_X4_empty rfl rfl rfl hd_X4_empty_V ⟨Nat.le_of_ble_eq_true rfl, Nat.le_of_ble_eq_true rfl⟩) ⟨muP_blind, va_recv hK0.1 hP (ci := 2) (q0 := 9) rfl rfl, my_preM hK0 hS hAB hP hD [9, 10] (by decide) rfl⟩ rfl rfl hl.1 rfl (lv_room (Nat.le_of_ble_eq_true rfl)) dX3_measure_60 ⟨Nat.zero_le _, Nat.zero_le _⟩) hS hP hD [9, 10] rfl (w2 := (List.flatten [(wPowE cy a u_3.1 u_3.2.1 0 u_3.1 0 0 u_3.2.2.2.2.2.2.1 u_3.2.2.2.2.2.2.2.1 u_3.2.2.2.2.2.2.2.2.1 (f_X4_empty 8 u_3.2.2.2.2.2.2.2.2.2.1) (f_X4_empty 8 u_3.2.2.2.2.2.2.2.2.2.2.1) u_3.2.2.2.2.2.2.2.2.2.2.2.1 u_3.2.2.2.2.2.2.2.2.2.2.2.2), (wSet cy b v)])) rfl (fun H locs hP hD hS => ?_)
  refine lv_iconst (v := 0) hx hb dX3_measure_63 (by decide) ?_
  refine lv_istore_n (lv' := [(2, .int 0), (0, .ref (a 0)), (1, .ref (b 0))]) hx hb dX3_measure_64 rfl hl (by decide) rfl (fun ls hl => ?_)
  have hP : va_P D vwCl (List.flatten [(wPow cy a (u_3.1, u_3.2.1, 0, u_3.1, 0, 0, u_3.2.2.2.2.2.2.1, u_3.2.2.2.2.2.2.2.1, u_3.2.2.2.2.2.2.2.2.1, (f_X4_empty 8 u_3.2.2.2.2.2.2.2.2.2.1), (f_X4_empty 8 u_3.2.2.2.2.2.2.2.2.2.2.1), u_3.2.2.2.2.2.2.2.2.2.2.2)), (wSet cy b v)]) H := by rw [wPow_mk]; exact hP
  have hD : va_D A (List.flatten [(wPow cy a (u_3.1, u_3.2.1, 0, u_3.1, 0, 0, u_3.2.2.2.2.2.2.1, u_3.2.2.2.2.2.2.2.1, u_3.2.2.2.2.2.2.2.2.1, (f_X4_empty 8 u_3.2.2.2.2.2.2.2.2.2.1), (f_X4_empty 8 u_3.2.2.2.2.2.2.2.2.2.2.1), u_3.2.2.2.2.2.2.2.2.2.2.2)), (wSet cy b v)]) := by rw [wPow_mk]; exact hD
  have cont0 : ∀ (i2_9 : Int32) (w0_10 : PowV), lp (fun (x : Int32 × PowV) => f_X3_measure_st x.1 x.2) default (((256 : Int32).toInt - (0 : Int32).toInt).toNat + 1) (0, (u_3.1, u_3.2.1, 0, u_3.1, 0, 0, u_3.2.2.2.2.2.2.1, u_3.2.2.2.2.2.2.2.1, u_3.2.2.2.2.2.2.2.2.1, (f_X4_empty 8 u_3.2.2.2.2.2.2.2.2.2.1), (f_X4_empty 8 u_3.2.2.2.2.2.2.2.2.2.2.1), u_3.2.2.2.2.2.2.2.2.2.2.2)) = (i2_9, w0_10) → ∀ (H : Heap) (locs : List Loc), va_P D vwCl (List.flatten [(wPow cy a w0_10), (wSet cy b v)]) H → va_D A (List.flatten [(wPow cy a w0_10), (wSet cy b v)]) → va_S A s.heap H locs → ∀ ls : Array Slot, lv_has ls 3 [(0, .ref (a 0)), (1, .ref (b 0)), (2, .int i2_9)] → W p l e (headSpec wsX3_measure ({ frames := 4, cells := 0, slots := 0, locals := 90 } : Room)).room s m ([.ref (a 0), .ref (b 0)] : List Value).toArray below meth c H locs 0 0 (MQ below (va_Qv (fun (u : PowV) => f_X3_measure w v = u) (fun u t => va_P D vwCl (List.flatten [(wPow cy a u), (wSet cy b v)]) t.heap) A) ([.ref (a 0), .ref (b 0)] : List Value).toArray s 0 0 A) (F0 m 99 ls []) := by
    intro i2_9 w0_10 hE0 H locs hP hD hS ls hl
    exact W.vret hx hb hr (fun t ht hW => ⟨⟨w0_10, rfl, (show f_X3_measure w v = w0_10 from by rw [f_X3_measure, hw_2, my_l_eq, hw_4, my_l_eq, hE0, my_t2_eq]), by show va_P D vwCl _ t.heap; rw [ht]; exact hP⟩, hS.F ht⟩) hS.2.2 dX3_measure_99
  have key : ∀ (nf : Nat) (i2_9 : Int32) (w0_10 : PowV), ((256 : Int32).toInt - (i2_9 : Int32).toInt).toNat < nf → lp (fun (x : Int32 × PowV) => f_X3_measure_st x.1 x.2) default nf (i2_9, w0_10) = lp (fun (x : Int32 × PowV) => f_X3_measure_st x.1 x.2) default (((256 : Int32).toInt - (0 : Int32).toInt).toNat + 1) (0, (u_3.1, u_3.2.1, 0, u_3.1, 0, 0, u_3.2.2.2.2.2.2.1, u_3.2.2.2.2.2.2.2.1, u_3.2.2.2.2.2.2.2.2.1, (f_X4_empty 8 u_3.2.2.2.2.2.2.2.2.2.1), (f_X4_empty 8 u_3.2.2.2.2.2.2.2.2.2.2.1), u_3.2.2.2.2.2.2.2.2.2.2.2)) → ∀ (H : Heap) (locs : List Loc), va_P D vwCl (List.flatten [(wPow cy a w0_10), (wSet cy b v)]) H → va_D A (List.flatten [(wPow cy a w0_10), (wSet cy b v)]) → va_S A s.heap H locs → ∀ ls : Array Slot, lv_has ls 3 [(0, .ref (a 0)), (1, .ref (b 0)), (2, .int i2_9)] → W p l e (headSpec wsX3_measure ({ frames := 4, cells := 0, slots := 0, locals := 90 } : Room)).room s m ([.ref (a 0), .ref (b 0)] : List Value).toArray below meth c H locs 0 0 (MQ below (va_Qv (fun (u : PowV) => f_X3_measure w v = u) (fun u t => va_P D vwCl (List.flatten [(wPow cy a u), (wSet cy b v)]) t.heap) A) ([.ref (a 0), .ref (b 0)] : List Value).toArray s 0 0 A) (F0 m 65 ls []) := by
    intro n0
    induction n0 with
    | zero => intro i2_9 w0_10 hlt; exact absurd hlt (Nat.not_lt_zero _)
    | succ n0 ih0 =>
      intro i2_9 w0_10 hlt0 hF0 H locs hP hD hS ls hl
      refine lv_iload_n hx hb dX3_measure_65 rfl (lv_at hl 2 rfl) ?_
      refine lv_sipush (v := 256) hx hb dX3_measure_66 (by decide) ?_
      refine lv_icmp_ge (tgt := 99) hx hb dX3_measure_69 (by decide) (fun c_11 => ?_) (fun c_11 => ?_)
      · have hst : f_X3_measure_st i2_9 w0_10 = .inr (i2_9, w0_10) := by rw [f_X3_measure_st, if_pos c_11]
        exact cont0 i2_9 w0_10 (lp_inr hst hF0) _ _ hP hD hS _ (lv_sub hl [0, 1, 2] rfl)
      · refine lv_aload_n hx hb dX3_measure_72 rfl (lv_at hl 0 rfl) ?_
        refine lv_iload_n hx hb dX3_measure_73 rfl (lv_at hl 2 rfl) ?_
        refine rd_goi (va_runV (C := RX3) (As := [.int i2_9]) (rest := []) S (c_X3_isSetOfPlayers l D cy g B a w0_10 i2_9) (cwV 1 hts gX3_measure_X3_isSetOfPlayers rfl rfl rfl hd_X3_isSetOfPlayers_V ⟨Nat.le_of_ble_eq_true rfl, Nat.le_of_ble_eq_true rfl⟩) ⟨rdP_blind, va_recv hK0.1 hP (ci := 1) (q0 := 0) rfl rfl, my_preP hK0 hS hAB (my_cP hP 0 rfl)⟩ rfl rfl hl.1 rfl (lv_room (Nat.le_of_ble_eq_true rfl)) dX3_measure_74 ⟨Nat.zero_le _, Nat.zero_le _⟩) ?_
        refine lv_if_eq (tgt := 93) hx hb dX3_measure_77 (by decide) (fun c_12 => ?_) (fun c_12 => ?_)
        · refine lv_iinc (v := (i2_9 + 1)) (lv' := [(2, .int (i2_9 + 1)), (0, .ref (a 0)), (1, .ref (b 0))]) hx hb dX3_measure_93 hl (k := 2) rfl rfl (by decide) rfl (fun ls hl => ?_)
          refine lv_goto (tgt := 65) hx hb dX3_measure_96 (by decide) ?_
          have hst : f_X3_measure_st i2_9 w0_10 = .inl ((i2_9 + 1), w0_10) := by rw [f_X3_measure_st, if_neg c_11, if_pos c_12]
          have hmu : ((256 : Int32).toInt - ((i2_9 + 1) : Int32).toInt).toNat < ((256 : Int32).toInt - (i2_9 : Int32).toInt).toNat := mu_up c_11
          exact ih0 (i2_9 + 1) w0_10 (Nat.lt_of_lt_of_le hmu (Nat.le_of_lt_succ hlt0)) (lp_inl hst hF0) _ _ hP hD hS _ (lv_sub hl [1, 2, 0] rfl)
        · refine lv_aload_n hx hb dX3_measure_80 rfl (lv_at hl 0 rfl) ?_
          refine lv_iload_n hx hb dX3_measure_81 rfl (lv_at hl 2 rfl) ?_
          refine rd_goi (va_runV (C := RX3) (As := [.int i2_9]) (rest := []) S (c_X3_isWinning l D cy g B a w0_10 i2_9) (cwV 1 hts gX3_measure_X3_isWinning rfl rfl rfl hd_X3_isWinning_V ⟨Nat.le_of_ble_eq_true rfl, Nat.le_of_ble_eq_true rfl⟩) ⟨rdP_blind, va_recv hK0.1 hP (ci := 1) (q0 := 0) rfl rfl, my_preP hK0 hS hAB (my_cP hP 0 rfl)⟩ rfl rfl hl.1 rfl (lv_room (Nat.le_of_ble_eq_true rfl)) dX3_measure_82 ⟨Nat.zero_le _, Nat.zero_le _⟩) ?_
          refine lv_if_eq (tgt := 93) hx hb dX3_measure_85 (by decide) (fun c_13 => ?_) (fun c_13 => ?_)
          · refine lv_iinc (v := (i2_9 + 1)) (lv' := [(2, .int (i2_9 + 1)), (0, .ref (a 0)), (1, .ref (b 0))]) hx hb dX3_measure_93 hl (k := 2) rfl rfl (by decide) rfl (fun ls hl => ?_)
            refine lv_goto (tgt := 65) hx hb dX3_measure_96 (by decide) ?_
            have hst : f_X3_measure_st i2_9 w0_10 = .inl ((i2_9 + 1), w0_10) := by rw [f_X3_measure_st, if_neg c_11, if_neg c_12, if_pos c_13]
            have hmu : ((256 : Int32).toInt - ((i2_9 + 1) : Int32).toInt).toNat < ((256 : Int32).toInt - (i2_9 : Int32).toInt).toNat := mu_up c_11
            exact ih0 (i2_9 + 1) w0_10 (Nat.lt_of_lt_of_le hmu (Nat.le_of_lt_succ hlt0)) (lp_inl hst hF0) _ _ hP hD hS _ (lv_sub hl [1, 2, 0] rfl)
          · refine lv_aload_n hx hb dX3_measure_88 rfl (lv_at hl 0 rfl) ?_
            refine lv_iload_n hx hb dX3_measure_89 rfl (lv_at hl 2 rfl) ?_
            refine mu_compv (wcs := [(wPow cy a w0_10)]) (wns := fun (u_14 : PowV) => [(wPow cy a u_14)]) (W2 := fun (u_14 : PowV) => [(wPow cy a u_14), (wSet cy b v)]) (va_runV (C := RX3) (As := [.int i2_9]) (rest := []) S (c_X3_countWinning l D cy g B a w0_10 i2_9) (cwV 1 hts gX3_measure_X3_countWinning rfl rfl rfl hd_X3_countWinning_V ⟨Nat.le_of_ble_eq_true rfl, Nat.le_of_ble_eq_true rfl⟩) ⟨muP_blind, va_recv hK0.1 hP (ci := 1) (q0 := 0) rfl rfl, my_preC (wcs := [(wPow cy a w0_10)]) hK0 hS hAB hP hD [0] (by decide) rfl (List.append_nil _)⟩ rfl rfl hl.1 rfl (lv_room (Nat.le_of_ble_eq_true rfl)) dX3_measure_90 ⟨Nat.zero_le _, Nat.zero_le _⟩) hS hP hD [0] rfl (List.append_nil _) (fun _ => List.append_nil _) (fun _ => by simp only [List.map_cons, List.map_nil, adrSet, adrSetE, adrPow, adrPowE, adrTxt, adrTxtE, adrSav, adrSavE, adrPCo, adrMod, adrModE]) (fun _ => rfl) (fun u_14 H locs hw_15 hP hD hS => ?_)
            refine lv_iinc (v := (i2_9 + 1)) (lv' := [(2, .int (i2_9 + 1)), (0, .ref (a 0)), (1, .ref (b 0))]) hx hb dX3_measure_93 hl (k := 2) rfl rfl (by decide) rfl (fun ls hl => ?_)
            refine lv_goto (tgt := 65) hx hb dX3_measure_96 (by decide) ?_
            have hst : f_X3_measure_st i2_9 w0_10 = .inl ((i2_9 + 1), u_14) := by rw [f_X3_measure_st, if_neg c_11, if_neg c_12, if_neg c_13, hw_15, my_l_eq]
            have hmu : ((256 : Int32).toInt - ((i2_9 + 1) : Int32).toInt).toNat < ((256 : Int32).toInt - (i2_9 : Int32).toInt).toNat := mu_up c_11
            exact ih0 (i2_9 + 1) u_14 (Nat.lt_of_lt_of_le hmu (Nat.le_of_lt_succ hlt0)) (lp_inl hst hF0) _ _ hP hD hS _ (lv_sub hl [1, 2, 0] rfl)
  exact key (((256 : Int32).toInt - (0 : Int32).toInt).toNat + 1) 0 (u_3.1, u_3.2.1, 0, u_3.1, 0, 0, u_3.2.2.2.2.2.2.1, u_3.2.2.2.2.2.2.2.1, u_3.2.2.2.2.2.2.2.2.1, (f_X4_empty 8 u_3.2.2.2.2.2.2.2.2.2.1), (f_X4_empty 8 u_3.2.2.2.2.2.2.2.2.2.2.1), u_3.2.2.2.2.2.2.2.2.2.2.2) (Nat.lt_succ_self _) rfl _ _ hP hD hS _ (lv_sub hl [1, 2, 0] rfl)
theorem hd_X3_countSwung_S : yX3_countSwung.cls ≠ "java/lang/invoke/MethodHandle" ∧ yX3_countSwung.cls ≠ "java/lang/invoke/VarHandle" ∧ (parseMethodDescriptor yX3_countSwung.desc).map (fun d => d.parameters.length) = some 3 := by decide +kernel
theorem hd_X3_countSwung_V : yX3_countSwung.cls = RX3 ∧ yX3_countSwung.cls ≠ "java/lang/invoke/MethodHandle" ∧ yX3_countSwung.cls ≠ "java/lang/invoke/VarHandle" ∧ (parseMethodDescriptor yX3_countSwung.desc).map (fun d => d.parameters.length) = some 3 := ⟨rfl, hd_X3_countSwung_S⟩
def f_X3_countSwung_own (w : PowV) (x1 : Int32) (x2 : Int32) : PowV := (w.1, w.2.1, w.2.2.1, w.2.2.2.1, w.2.2.2.2.1, w.2.2.2.2.2.1, w.2.2.2.2.2.2.1, w.2.2.2.2.2.2.2.1, w.2.2.2.2.2.2.2.2.1, w.2.2.2.2.2.2.2.2.2.1, w.2.2.2.2.2.2.2.2.2.2.1, (rRaise 402 (rRaise 402 w.2.2.2.2.2.2.2.2.2.2.2.1 ((rAt 256 w.2.2.2.2.2.2.2.1 (x1 &&& ((1 <<< (x2 &&& 31)) ^^^ (-1)))) + 1) 1) ((rAt 256 w.2.2.2.2.2.2.2.1 x1) + 1) (-1)), w.2.2.2.2.2.2.2.2.2.2.2.2)
set_option maxHeartbeats 400000 in
set_option maxRecDepth 100000 in
theorem c_X3_countSwung_own (l : Launch) (D : va_G) (cy : Nat → ClassId) (g : Nat → Nat) (B : Nat) (a : Nat → Nat) (w : PowV) (x1 : Int32) (x2 : Int32) : Met l yX3_countSwung wsX3_countSwung ({ frames := 1, cells := 0, slots := 0, locals := 22 }) (muP D cy g B (wPow cy a w) [.ref (a 0), .ref (a 11), .int x1, .int x2]) (va_Qv (fun (u : PowV) => f_X3_countSwung_own w x1 x2 = u) (fun u t => va_P D vwCl (wPow cy a u) t.heap) (muA (wPow cy a w))) 0 0 (muA (wPow cy a w)) := by
  refine Met.ofW (cc := cX3_countSwung) (maxL := 4) (ret := none) (by decide) rfl ?_
  intro p e s m args below meth c s₁ BB hml hv
  obtain ⟨rfl, hP, hK0, hD0⟩ := hv
  have hx := BB.exec
  have hb := BB.bytes
  have hr := BB.returns
  have hts := atoms_spec (ws := wsX3_countSwung) BB.pre
  have hown : s.vm.findClass RX3 = some m.cls := findClass_of_methodNamed BB.named
  have hlocks := BB.notSynchronized
  have S := my_fix hx hb hml hown hts
  have inX3 : ∀ w ∈ wsX30, w ∈ wsX3_countSwung := fun w h => List.mem_cons_of_mem _ (List.mem_append_left _ (List.mem_append_right _ h))
  have hAB := muB hD0
  have hD := muD hD0
  generalize hAe : muA (wPow cy a w) = A at hAB hD ⊢
  have hS : va_S A s.heap s.heap [] := va_S.rf
  have hl := lv_entry ([.ref (a 0), .ref (a 11), .int x1, .int x2]) (n := 4) (Nat.le_of_ble_eq_true rfl)
  rw [lg_entry_eq]
  generalize (lg_sl ([.ref (a 0), .ref (a 11), .int x1, .int x2]) ++ List.replicate (4 - (lg_sl ([.ref (a 0), .ref (a 11), .int x1, .int x2])).length) Slot.unset).toArray = ls at hl ⊢
  have hl : lv_has ls 4 [(0, .ref (a 0)), (1, .ref (a 11)), (2, .int x1), (3, .int x2)] := hl
  refine lv_aload_n hx hb dX3_countSwung_0 rfl (lv_at hl 1 rfl) ?_
  refine lv_aload_n hx hb dX3_countSwung_1 rfl (lv_at hl 0 rfl) ?_
  refine va_get (D := D) (ci := 1) (v := .ref (a 3)) (C := RX3) (T := TX3) (N := 13) hx hb hts inX3 hown hK0.1 hP 0 rfl rfl 3 (by decide) (hts (.fieldLink RX3 20 "PivotChamber$Power" "strengths" "LPivotChamber$Row;") (List.mem_of_getElem? (i := 1) rfl)) (fun _ h9 => h9) rfl dX3_countSwung_2 ?_
  refine lv_iload_n hx hb dX3_countSwung_5 rfl (lv_at hl 2 rfl) ?_
  refine lv_iconst (v := 1) hx hb dX3_countSwung_6 (by decide) ?_
  refine lv_iload_n hx hb dX3_countSwung_7 rfl (lv_at hl 3 rfl) ?_
  refine lv_ishl hx hb dX3_countSwung_8 ?_
  refine lv_iconst (v := (-1)) hx hb dX3_countSwung_9 (by decide) ?_
  refine lv_ixor hx hb dX3_countSwung_10 ?_
  refine lv_iand hx hb dX3_countSwung_11 ?_
  refine rd_goi (va_runV (C := RX4) (As := [.int (x1 &&& ((1 <<< (x2 &&& 31)) ^^^ (-1)))]) (rest := [.ref (a 11)]) S (c_X4_at l D cy g B (a 3) (a 4) 256 w.2.2.2.2.2.2.2.1 (x1 &&& ((1 <<< (x2 &&& 31)) ^^^ (-1))) (by decide)) (cwV 1 hts gX3_countSwung_X4_at rfl rfl rfl hd_X4_at_V ⟨Nat.le_of_ble_eq_true rfl, Nat.le_of_ble_eq_true rfl⟩) ⟨rdP_blind, va_recv hK0.1 hP (ci := 2) (q0 := 3) rfl rfl, my_preV hK0 hS hAB hP [3, 4] rfl⟩ rfl rfl hl.1 rfl (lv_room (Nat.le_of_ble_eq_true rfl)) dX3_countSwung_12 ⟨Nat.zero_le _, Nat.zero_le _⟩) ?_
  refine lv_iconst (v := 1) hx hb dX3_countSwung_15 (by decide) ?_
  refine lv_iadd hx hb dX3_countSwung_16 ?_
  refine lv_iconst (v := 1) hx hb dX3_countSwung_17 (by decide) ?_
  refine mu_row (va_runV (C := RX4) (As := [.int ((rAt 256 w.2.2.2.2.2.2.2.1 (x1 &&& ((1 <<< (x2 &&& 31)) ^^^ (-1)))) + 1), .int 1]) (rest := []) S (c_X4_raise l D cy g B (a 11) (a 12) 402 w.2.2.2.2.2.2.2.2.2.2.2.1 ((rAt 256 w.2.2.2.2.2.2.2.1 (x1 &&& ((1 <<< (x2 &&& 31)) ^^^ (-1)))) + 1) 1 (by decide)) (cwV 2 hts gX3_countSwung_X4_raise rfl rfl rfl hd_X4_raise_V ⟨Nat.le_of_ble_eq_true rfl, Nat.le_of_ble_eq_true rfl⟩) ⟨muP_blind, va_recv hK0.1 hP (ci := 2) (q0 := 11) rfl rfl, my_preM hK0 hS hAB hP hD [11, 12] (by decide) rfl⟩ rfl rfl hl.1 rfl (lv_room (Nat.le_of_ble_eq_true rfl)) dX3_countSwung_18 ⟨Nat.zero_le _, Nat.zero_le _⟩) hS hP hD [11, 12] rfl (w2 := (wPowE cy a w.1 w.2.1 w.2.2.1 w.2.2.2.1 w.2.2.2.2.1 w.2.2.2.2.2.1 w.2.2.2.2.2.2.1 w.2.2.2.2.2.2.2.1 w.2.2.2.2.2.2.2.2.1 w.2.2.2.2.2.2.2.2.2.1 w.2.2.2.2.2.2.2.2.2.2.1 (rRaise 402 w.2.2.2.2.2.2.2.2.2.2.2.1 ((rAt 256 w.2.2.2.2.2.2.2.1 (x1 &&& ((1 <<< (x2 &&& 31)) ^^^ (-1)))) + 1) 1) w.2.2.2.2.2.2.2.2.2.2.2.2)) rfl (fun H locs hP hD hS => ?_)
  refine lv_aload_n hx hb dX3_countSwung_21 rfl (lv_at hl 1 rfl) ?_
  refine lv_aload_n hx hb dX3_countSwung_22 rfl (lv_at hl 0 rfl) ?_
  refine va_get (D := D) (ci := 1) (v := .ref (a 3)) (C := RX3) (T := TX3) (N := 13) hx hb hts inX3 hown hK0.1 hP 0 rfl rfl 3 (by decide) (hts (.fieldLink RX3 20 "PivotChamber$Power" "strengths" "LPivotChamber$Row;") (List.mem_of_getElem? (i := 1) rfl)) (fun _ h9 => h9) rfl dX3_countSwung_23 ?_
  refine lv_iload_n hx hb dX3_countSwung_26 rfl (lv_at hl 2 rfl) ?_
  refine rd_goi (va_runV (C := RX4) (As := [.int x1]) (rest := [.ref (a 11)]) S (c_X4_at l D cy g B (a 3) (a 4) 256 w.2.2.2.2.2.2.2.1 x1 (by decide)) (cwV 1 hts gX3_countSwung_X4_at rfl rfl rfl hd_X4_at_V ⟨Nat.le_of_ble_eq_true rfl, Nat.le_of_ble_eq_true rfl⟩) ⟨rdP_blind, va_recv hK0.1 hP (ci := 2) (q0 := 3) rfl rfl, my_preV hK0 hS hAB hP [3, 4] rfl⟩ rfl rfl hl.1 rfl (lv_room (Nat.le_of_ble_eq_true rfl)) dX3_countSwung_27 ⟨Nat.zero_le _, Nat.zero_le _⟩) ?_
  refine lv_iconst (v := 1) hx hb dX3_countSwung_30 (by decide) ?_
  refine lv_iadd hx hb dX3_countSwung_31 ?_
  refine lv_iconst (v := (-1)) hx hb dX3_countSwung_32 (by decide) ?_
  refine mu_row (va_runV (C := RX4) (As := [.int ((rAt 256 w.2.2.2.2.2.2.2.1 x1) + 1), .int (-1)]) (rest := []) S (c_X4_raise l D cy g B (a 11) (a 12) 402 (rRaise 402 w.2.2.2.2.2.2.2.2.2.2.2.1 ((rAt 256 w.2.2.2.2.2.2.2.1 (x1 &&& ((1 <<< (x2 &&& 31)) ^^^ (-1)))) + 1) 1) ((rAt 256 w.2.2.2.2.2.2.2.1 x1) + 1) (-1) (by decide)) (cwV 2 hts gX3_countSwung_X4_raise rfl rfl rfl hd_X4_raise_V ⟨Nat.le_of_ble_eq_true rfl, Nat.le_of_ble_eq_true rfl⟩) ⟨muP_blind, va_recv hK0.1 hP (ci := 2) (q0 := 11) rfl rfl, my_preM hK0 hS hAB hP hD [11, 12] (by decide) rfl⟩ rfl rfl hl.1 rfl (lv_room (Nat.le_of_ble_eq_true rfl)) dX3_countSwung_33 ⟨Nat.zero_le _, Nat.zero_le _⟩) hS hP hD [11, 12] rfl (w2 := (wPowE cy a w.1 w.2.1 w.2.2.1 w.2.2.2.1 w.2.2.2.2.1 w.2.2.2.2.2.1 w.2.2.2.2.2.2.1 w.2.2.2.2.2.2.2.1 w.2.2.2.2.2.2.2.2.1 w.2.2.2.2.2.2.2.2.2.1 w.2.2.2.2.2.2.2.2.2.2.1 (rRaise 402 (rRaise 402 w.2.2.2.2.2.2.2.2.2.2.2.1 ((rAt 256 w.2.2.2.2.2.2.2.1 (x1 &&& ((1 <<< (x2 &&& 31)) ^^^ (-1)))) + 1) 1) ((rAt 256 w.2.2.2.2.2.2.2.1 x1) + 1) (-1)) w.2.2.2.2.2.2.2.2.2.2.2.2)) rfl (fun H locs hP hD hS => ?_)
  have hP : va_P D vwCl (wPow cy a (w.1, w.2.1, w.2.2.1, w.2.2.2.1, w.2.2.2.2.1, w.2.2.2.2.2.1, w.2.2.2.2.2.2.1, w.2.2.2.2.2.2.2.1, w.2.2.2.2.2.2.2.2.1, w.2.2.2.2.2.2.2.2.2.1, w.2.2.2.2.2.2.2.2.2.2.1, (rRaise 402 (rRaise 402 w.2.2.2.2.2.2.2.2.2.2.2.1 ((rAt 256 w.2.2.2.2.2.2.2.1 (x1 &&& ((1 <<< (x2 &&& 31)) ^^^ (-1)))) + 1) 1) ((rAt 256 w.2.2.2.2.2.2.2.1 x1) + 1) (-1)), w.2.2.2.2.2.2.2.2.2.2.2.2)) H := by rw [wPow_mk]; exact hP
  have hD : va_D A (wPow cy a (w.1, w.2.1, w.2.2.1, w.2.2.2.1, w.2.2.2.2.1, w.2.2.2.2.2.1, w.2.2.2.2.2.2.1, w.2.2.2.2.2.2.2.1, w.2.2.2.2.2.2.2.2.1, w.2.2.2.2.2.2.2.2.2.1, w.2.2.2.2.2.2.2.2.2.2.1, (rRaise 402 (rRaise 402 w.2.2.2.2.2.2.2.2.2.2.2.1 ((rAt 256 w.2.2.2.2.2.2.2.1 (x1 &&& ((1 <<< (x2 &&& 31)) ^^^ (-1)))) + 1) 1) ((rAt 256 w.2.2.2.2.2.2.2.1 x1) + 1) (-1)), w.2.2.2.2.2.2.2.2.2.2.2.2)) := by rw [wPow_mk]; exact hD
  exact W.vret hx hb hr (fun t ht hW => ⟨⟨(w.1, w.2.1, w.2.2.1, w.2.2.2.1, w.2.2.2.2.1, w.2.2.2.2.2.1, w.2.2.2.2.2.2.1, w.2.2.2.2.2.2.2.1, w.2.2.2.2.2.2.2.2.1, w.2.2.2.2.2.2.2.2.2.1, w.2.2.2.2.2.2.2.2.2.2.1, (rRaise 402 (rRaise 402 w.2.2.2.2.2.2.2.2.2.2.2.1 ((rAt 256 w.2.2.2.2.2.2.2.1 (x1 &&& ((1 <<< (x2 &&& 31)) ^^^ (-1)))) + 1) 1) ((rAt 256 w.2.2.2.2.2.2.2.1 x1) + 1) (-1)), w.2.2.2.2.2.2.2.2.2.2.2.2), rfl, (show f_X3_countSwung_own w x1 x2 = (w.1, w.2.1, w.2.2.1, w.2.2.2.1, w.2.2.2.2.1, w.2.2.2.2.2.1, w.2.2.2.2.2.2.1, w.2.2.2.2.2.2.2.1, w.2.2.2.2.2.2.2.2.1, w.2.2.2.2.2.2.2.2.2.1, w.2.2.2.2.2.2.2.2.2.2.1, (rRaise 402 (rRaise 402 w.2.2.2.2.2.2.2.2.2.2.2.1 ((rAt 256 w.2.2.2.2.2.2.2.1 (x1 &&& ((1 <<< (x2 &&& 31)) ^^^ (-1)))) + 1) 1) ((rAt 256 w.2.2.2.2.2.2.2.1 x1) + 1) (-1)), w.2.2.2.2.2.2.2.2.2.2.2.2) from by rw [f_X3_countSwung_own]), by show va_P D vwCl _ t.heap; rw [ht]; exact hP⟩, hS.F ht⟩) hS.2.2 dX3_countSwung_36
def f_X3_countSwung_all (w : PowV) (x1 : Int32) (x2 : Int32) : PowV := (w.1, w.2.1, w.2.2.1, w.2.2.2.1, w.2.2.2.2.1, w.2.2.2.2.2.1, w.2.2.2.2.2.2.1, w.2.2.2.2.2.2.2.1, w.2.2.2.2.2.2.2.2.1, w.2.2.2.2.2.2.2.2.2.1, w.2.2.2.2.2.2.2.2.2.2.1, w.2.2.2.2.2.2.2.2.2.2.2.1, (rRaise 402 (rRaise 402 w.2.2.2.2.2.2.2.2.2.2.2.2 ((rAt 256 w.2.2.2.2.2.2.2.1 (x1 &&& ((1 <<< (x2 &&& 31)) ^^^ (-1)))) + 1) 1) ((rAt 256 w.2.2.2.2.2.2.2.1 x1) + 1) (-1)))
set_option maxHeartbeats 400000 in
set_option maxRecDepth 100000 in
theorem c_X3_countSwung_all (l : Launch) (D : va_G) (cy : Nat → ClassId) (g : Nat → Nat) (B : Nat) (a : Nat → Nat) (w : PowV) (x1 : Int32) (x2 : Int32) : Met l yX3_countSwung wsX3_countSwung ({ frames := 1, cells := 0, slots := 0, locals := 22 }) (muP D cy g B (wPow cy a w) [.ref (a 0), .ref (a 13), .int x1, .int x2]) (va_Qv (fun (u : PowV) => f_X3_countSwung_all w x1 x2 = u) (fun u t => va_P D vwCl (wPow cy a u) t.heap) (muA (wPow cy a w))) 0 0 (muA (wPow cy a w)) := by
  refine Met.ofW (cc := cX3_countSwung) (maxL := 4) (ret := none) (by decide) rfl ?_
  intro p e s m args below meth c s₁ BB hml hv
  obtain ⟨rfl, hP, hK0, hD0⟩ := hv
  have hx := BB.exec
  have hb := BB.bytes
  have hr := BB.returns
  have hts := atoms_spec (ws := wsX3_countSwung) BB.pre
  have hown : s.vm.findClass RX3 = some m.cls := findClass_of_methodNamed BB.named
  have hlocks := BB.notSynchronized
  have S := my_fix hx hb hml hown hts
  have inX3 : ∀ w ∈ wsX30, w ∈ wsX3_countSwung := fun w h => List.mem_cons_of_mem _ (List.mem_append_left _ (List.mem_append_right _ h))
  have hAB := muB hD0
  have hD := muD hD0
  generalize hAe : muA (wPow cy a w) = A at hAB hD ⊢
  have hS : va_S A s.heap s.heap [] := va_S.rf
  have hl := lv_entry ([.ref (a 0), .ref (a 13), .int x1, .int x2]) (n := 4) (Nat.le_of_ble_eq_true rfl)
  rw [lg_entry_eq]
  generalize (lg_sl ([.ref (a 0), .ref (a 13), .int x1, .int x2]) ++ List.replicate (4 - (lg_sl ([.ref (a 0), .ref (a 13), .int x1, .int x2])).length) Slot.unset).toArray = ls at hl ⊢
  have hl : lv_has ls 4 [(0, .ref (a 0)), (1, .ref (a 13)), (2, .int x1), (3, .int x2)] := hl
  refine lv_aload_n hx hb dX3_countSwung_0 rfl (lv_at hl 1 rfl) ?_
  refine lv_aload_n hx hb dX3_countSwung_1 rfl (lv_at hl 0 rfl) ?_
  refine va_get (D := D) (ci := 1) (v := .ref (a 3)) (C := RX3) (T := TX3) (N := 13) hx hb hts inX3 hown hK0.1 hP 0 rfl rfl 3 (by decide) (hts (.fieldLink RX3 20 "PivotChamber$Power" "strengths" "LPivotChamber$Row;") (List.mem_of_getElem? (i := 1) rfl)) (fun _ h9 => h9) rfl dX3_countSwung_2 ?_
  refine lv_iload_n hx hb dX3_countSwung_5 rfl (lv_at hl 2 rfl) ?_
  refine lv_iconst (v := 1) hx hb dX3_countSwung_6 (by decide) ?_
  refine lv_iload_n hx hb dX3_countSwung_7 rfl (lv_at hl 3 rfl) ?_
  refine lv_ishl hx hb dX3_countSwung_8 ?_
  refine lv_iconst (v := (-1)) hx hb dX3_countSwung_9 (by decide) ?_
  refine lv_ixor hx hb dX3_countSwung_10 ?_
  refine lv_iand hx hb dX3_countSwung_11 ?_
  refine rd_goi (va_runV (C := RX4) (As := [.int (x1 &&& ((1 <<< (x2 &&& 31)) ^^^ (-1)))]) (rest := [.ref (a 13)]) S (c_X4_at l D cy g B (a 3) (a 4) 256 w.2.2.2.2.2.2.2.1 (x1 &&& ((1 <<< (x2 &&& 31)) ^^^ (-1))) (by decide)) (cwV 1 hts gX3_countSwung_X4_at rfl rfl rfl hd_X4_at_V ⟨Nat.le_of_ble_eq_true rfl, Nat.le_of_ble_eq_true rfl⟩) ⟨rdP_blind, va_recv hK0.1 hP (ci := 2) (q0 := 3) rfl rfl, my_preV hK0 hS hAB hP [3, 4] rfl⟩ rfl rfl hl.1 rfl (lv_room (Nat.le_of_ble_eq_true rfl)) dX3_countSwung_12 ⟨Nat.zero_le _, Nat.zero_le _⟩) ?_
  refine lv_iconst (v := 1) hx hb dX3_countSwung_15 (by decide) ?_
  refine lv_iadd hx hb dX3_countSwung_16 ?_
  refine lv_iconst (v := 1) hx hb dX3_countSwung_17 (by decide) ?_
  refine mu_row (va_runV (C := RX4) (As := [.int ((rAt 256 w.2.2.2.2.2.2.2.1 (x1 &&& ((1 <<< (x2 &&& 31)) ^^^ (-1)))) + 1), .int 1]) (rest := []) S (c_X4_raise l D cy g B (a 13) (a 14) 402 w.2.2.2.2.2.2.2.2.2.2.2.2 ((rAt 256 w.2.2.2.2.2.2.2.1 (x1 &&& ((1 <<< (x2 &&& 31)) ^^^ (-1)))) + 1) 1 (by decide)) (cwV 2 hts gX3_countSwung_X4_raise rfl rfl rfl hd_X4_raise_V ⟨Nat.le_of_ble_eq_true rfl, Nat.le_of_ble_eq_true rfl⟩) ⟨muP_blind, va_recv hK0.1 hP (ci := 2) (q0 := 13) rfl rfl, my_preM hK0 hS hAB hP hD [13, 14] (by decide) rfl⟩ rfl rfl hl.1 rfl (lv_room (Nat.le_of_ble_eq_true rfl)) dX3_countSwung_18 ⟨Nat.zero_le _, Nat.zero_le _⟩) hS hP hD [13, 14] rfl (w2 := (wPowE cy a w.1 w.2.1 w.2.2.1 w.2.2.2.1 w.2.2.2.2.1 w.2.2.2.2.2.1 w.2.2.2.2.2.2.1 w.2.2.2.2.2.2.2.1 w.2.2.2.2.2.2.2.2.1 w.2.2.2.2.2.2.2.2.2.1 w.2.2.2.2.2.2.2.2.2.2.1 w.2.2.2.2.2.2.2.2.2.2.2.1 (rRaise 402 w.2.2.2.2.2.2.2.2.2.2.2.2 ((rAt 256 w.2.2.2.2.2.2.2.1 (x1 &&& ((1 <<< (x2 &&& 31)) ^^^ (-1)))) + 1) 1))) rfl (fun H locs hP hD hS => ?_)
  refine lv_aload_n hx hb dX3_countSwung_21 rfl (lv_at hl 1 rfl) ?_
  refine lv_aload_n hx hb dX3_countSwung_22 rfl (lv_at hl 0 rfl) ?_
  refine va_get (D := D) (ci := 1) (v := .ref (a 3)) (C := RX3) (T := TX3) (N := 13) hx hb hts inX3 hown hK0.1 hP 0 rfl rfl 3 (by decide) (hts (.fieldLink RX3 20 "PivotChamber$Power" "strengths" "LPivotChamber$Row;") (List.mem_of_getElem? (i := 1) rfl)) (fun _ h9 => h9) rfl dX3_countSwung_23 ?_
  refine lv_iload_n hx hb dX3_countSwung_26 rfl (lv_at hl 2 rfl) ?_
  refine rd_goi (va_runV (C := RX4) (As := [.int x1]) (rest := [.ref (a 13)]) S (c_X4_at l D cy g B (a 3) (a 4) 256 w.2.2.2.2.2.2.2.1 x1 (by decide)) (cwV 1 hts gX3_countSwung_X4_at rfl rfl rfl hd_X4_at_V ⟨Nat.le_of_ble_eq_true rfl, Nat.le_of_ble_eq_true rfl⟩) ⟨rdP_blind, va_recv hK0.1 hP (ci := 2) (q0 := 3) rfl rfl, my_preV hK0 hS hAB hP [3, 4] rfl⟩ rfl rfl hl.1 rfl (lv_room (Nat.le_of_ble_eq_true rfl)) dX3_countSwung_27 ⟨Nat.zero_le _, Nat.zero_le _⟩) ?_
  refine lv_iconst (v := 1) hx hb dX3_countSwung_30 (by decide) ?_
  refine lv_iadd hx hb dX3_countSwung_31 ?_
  refine lv_iconst (v := (-1)) hx hb dX3_countSwung_32 (by decide) ?_
  refine mu_row (va_runV (C := RX4) (As := [.int ((rAt 256 w.2.2.2.2.2.2.2.1 x1) + 1), .int (-1)]) (rest := []) S (c_X4_raise l D cy g B (a 13) (a 14) 402 (rRaise 402 w.2.2.2.2.2.2.2.2.2.2.2.2 ((rAt 256 w.2.2.2.2.2.2.2.1 (x1 &&& ((1 <<< (x2 &&& 31)) ^^^ (-1)))) + 1) 1) ((rAt 256 w.2.2.2.2.2.2.2.1 x1) + 1) (-1) (by decide)) (cwV 2 hts gX3_countSwung_X4_raise rfl rfl rfl hd_X4_raise_V ⟨Nat.le_of_ble_eq_true rfl, Nat.le_of_ble_eq_true rfl⟩) ⟨muP_blind, va_recv hK0.1 hP (ci := 2) (q0 := 13) rfl rfl, my_preM hK0 hS hAB hP hD [13, 14] (by decide) rfl⟩ rfl rfl hl.1 rfl (lv_room (Nat.le_of_ble_eq_true rfl)) dX3_countSwung_33 ⟨Nat.zero_le _, Nat.zero_le _⟩) hS hP hD [13, 14] rfl (w2 := (wPowE cy a w.1 w.2.1 w.2.2.1 w.2.2.2.1 w.2.2.2.2.1 w.2.2.2.2.2.1 w.2.2.2.2.2.2.1 w.2.2.2.2.2.2.2.1 w.2.2.2.2.2.2.2.2.1 w.2.2.2.2.2.2.2.2.2.1 w.2.2.2.2.2.2.2.2.2.2.1 w.2.2.2.2.2.2.2.2.2.2.2.1 (rRaise 402 (rRaise 402 w.2.2.2.2.2.2.2.2.2.2.2.2 ((rAt 256 w.2.2.2.2.2.2.2.1 (x1 &&& ((1 <<< (x2 &&& 31)) ^^^ (-1)))) + 1) 1) ((rAt 256 w.2.2.2.2.2.2.2.1 x1) + 1) (-1)))) rfl (fun H locs hP hD hS => ?_)
  have hP : va_P D vwCl (wPow cy a (w.1, w.2.1, w.2.2.1, w.2.2.2.1, w.2.2.2.2.1, w.2.2.2.2.2.1, w.2.2.2.2.2.2.1, w.2.2.2.2.2.2.2.1, w.2.2.2.2.2.2.2.2.1, w.2.2.2.2.2.2.2.2.2.1, w.2.2.2.2.2.2.2.2.2.2.1, w.2.2.2.2.2.2.2.2.2.2.2.1, (rRaise 402 (rRaise 402 w.2.2.2.2.2.2.2.2.2.2.2.2 ((rAt 256 w.2.2.2.2.2.2.2.1 (x1 &&& ((1 <<< (x2 &&& 31)) ^^^ (-1)))) + 1) 1) ((rAt 256 w.2.2.2.2.2.2.2.1 x1) + 1) (-1)))) H := by rw [wPow_mk]; exact hP
  have hD : va_D A (wPow cy a (w.1, w.2.1, w.2.2.1, w.2.2.2.1, w.2.2.2.2.1, w.2.2.2.2.2.1, w.2.2.2.2.2.2.1, w.2.2.2.2.2.2.2.1, w.2.2.2.2.2.2.2.2.1, w.2.2.2.2.2.2.2.2.2.1, w.2.2.2.2.2.2.2.2.2.2.1, w.2.2.2.2.2.2.2.2.2.2.2.1, (rRaise 402 (rRaise 402 w.2.2.2.2.2.2.2.2.2.2.2.2 ((rAt 256 w.2.2.2.2.2.2.2.1 (x1 &&& ((1 <<< (x2 &&& 31)) ^^^ (-1)))) + 1) 1) ((rAt 256 w.2.2.2.2.2.2.2.1 x1) + 1) (-1)))) := by rw [wPow_mk]; exact hD
  exact W.vret hx hb hr (fun t ht hW => ⟨⟨(w.1, w.2.1, w.2.2.1, w.2.2.2.1, w.2.2.2.2.1, w.2.2.2.2.2.1, w.2.2.2.2.2.2.1, w.2.2.2.2.2.2.2.1, w.2.2.2.2.2.2.2.2.1, w.2.2.2.2.2.2.2.2.2.1, w.2.2.2.2.2.2.2.2.2.2.1, w.2.2.2.2.2.2.2.2.2.2.2.1, (rRaise 402 (rRaise 402 w.2.2.2.2.2.2.2.2.2.2.2.2 ((rAt 256 w.2.2.2.2.2.2.2.1 (x1 &&& ((1 <<< (x2 &&& 31)) ^^^ (-1)))) + 1) 1) ((rAt 256 w.2.2.2.2.2.2.2.1 x1) + 1) (-1))), rfl, (show f_X3_countSwung_all w x1 x2 = (w.1, w.2.1, w.2.2.1, w.2.2.2.1, w.2.2.2.2.1, w.2.2.2.2.2.1, w.2.2.2.2.2.2.1, w.2.2.2.2.2.2.2.1, w.2.2.2.2.2.2.2.2.1, w.2.2.2.2.2.2.2.2.2.1, w.2.2.2.2.2.2.2.2.2.2.1, w.2.2.2.2.2.2.2.2.2.2.2.1, (rRaise 402 (rRaise 402 w.2.2.2.2.2.2.2.2.2.2.2.2 ((rAt 256 w.2.2.2.2.2.2.2.1 (x1 &&& ((1 <<< (x2 &&& 31)) ^^^ (-1)))) + 1) 1) ((rAt 256 w.2.2.2.2.2.2.2.1 x1) + 1) (-1))) from by rw [f_X3_countSwung_all]), by show va_P D vwCl _ t.heap; rw [ht]; exact hP⟩, hS.F ht⟩) hS.2.2 dX3_countSwung_36
theorem hd_X3_countSteps_S : yX3_countSteps.cls ≠ "java/lang/invoke/MethodHandle" ∧ yX3_countSteps.cls ≠ "java/lang/invoke/VarHandle" ∧ (parseMethodDescriptor yX3_countSteps.desc).map (fun d => d.parameters.length) = some 2 := by decide +kernel
theorem hd_X3_countSteps_V : yX3_countSteps.cls = RX3 ∧ yX3_countSteps.cls ≠ "java/lang/invoke/MethodHandle" ∧ yX3_countSteps.cls ≠ "java/lang/invoke/VarHandle" ∧ (parseMethodDescriptor yX3_countSteps.desc).map (fun d => d.parameters.length) = some 2 := ⟨rfl, hd_X3_countSteps_S⟩
def f_X3_countSteps_st (x0 : Int32) (x1 : Int32) (i3_1 : Int32) (w0_2 : PowV) : (Int32 × PowV) ⊕ (Int32 × PowV) := (if 8 ≤ i3_1 then (.inr (i3_1, w0_2)) else (if (f_X7_contains x0 i3_1) = 0 then (.inl ((i3_1 + 1), w0_2)) else (my_l (f_X3_countSwung_all w0_2 x0 i3_1) (fun (u_5 : PowV) => (if i3_1 = x1 then (my_l (f_X3_countSwung_own u_5 x0 i3_1) (fun (u_8 : PowV) => (.inl ((i3_1 + 1), u_8)))) else (.inl ((i3_1 + 1), u_5)))))))
def f_X3_countSteps (w : PowV) (x0 : Int32) (x1 : Int32) : PowV := (my_t2 (lp (fun (x : Int32 × PowV) => f_X3_countSteps_st x0 x1 x.1 x.2) default (((8 : Int32).toInt - (0 : Int32).toInt).toNat + 1) (0, w)) (fun (i3_1 : Int32) (w0_2 : PowV) => w0_2))
set_option maxHeartbeats 400000 in
set_option maxRecDepth 100000 in
theorem c_X3_countSteps (l : Launch) (D : va_G) (cy : Nat → ClassId) (g : Nat → Nat) (B : Nat) (a : Nat → Nat) (w : PowV) (x0 : Int32) (x1 : Int32) : Met l yX3_countSteps wsX3_countSteps ({ frames := 2, cells := 0, slots := 0, locals := 45 }) (muP D cy g B (wPow cy a w) [.ref (a 0), .int x0, .int x1]) (va_Qv (fun (u : PowV) => f_X3_countSteps w x0 x1 = u) (fun u t => va_P D vwCl (wPow cy a u) t.heap) (muA (wPow cy a w))) 0 0 (muA (wPow cy a w)) := by
  refine Met.ofW (cc := cX3_countSteps) (maxL := 4) (ret := none) (by decide) rfl ?_
  intro p e s m args below meth c s₁ BB hml hv
  obtain ⟨rfl, hP, hK0, hD0⟩ := hv
  have hx := BB.exec
  have hb := BB.bytes
  have hr := BB.returns
  have hts := atoms_spec (ws := wsX3_countSteps) BB.pre
  have hown : s.vm.findClass RX3 = some m.cls := findClass_of_methodNamed BB.named
  have hlocks := BB.notSynchronized
  have S := my_fix hx hb hml hown hts
  have inX3 : ∀ w ∈ wsX30, w ∈ wsX3_countSteps := fun w h => List.mem_cons_of_mem _ (List.mem_append_left _ (List.mem_append_right _ h))
  have hAB := muB hD0
  have hD := muD hD0
  generalize hAe : muA (wPow cy a w) = A at hAB hD ⊢
  have hS : va_S A s.heap s.heap [] := va_S.rf
  have hl := lv_entry ([.ref (a 0), .int x0, .int x1]) (n := 4) (Nat.le_of_ble_eq_true rfl)
  rw [lg_entry_eq]
  generalize (lg_sl ([.ref (a 0), .int x0, .int x1]) ++ List.replicate (4 - (lg_sl ([.ref (a 0), .int x0, .int x1])).length) Slot.unset).toArray = ls at hl ⊢
  have hl : lv_has ls 4 [(0, .ref (a 0)), (1, .int x0), (2, .int x1)] := hl
  refine lv_iconst (v := 0) hx hb dX3_countSteps_0 (by decide) ?_
  refine lv_istore_n (lv' := [(3, .int 0), (0, .ref (a 0)), (1, .int x0), (2, .int x1)]) hx hb dX3_countSteps_1 rfl hl (by decide) rfl (fun ls hl => ?_)
  have cont0 : ∀ (i3_1 : Int32) (w0_2 : PowV), lp (fun (x : Int32 × PowV) => f_X3_countSteps_st x0 x1 x.1 x.2) default (((8 : Int32).toInt - (0 : Int32).toInt).toNat + 1) (0, w) = (i3_1, w0_2) → ∀ (H : Heap) (locs : List Loc), va_P D vwCl (wPow cy a w0_2) H → va_D A (wPow cy a w0_2) → va_S A s.heap H locs → ∀ ls : Array Slot, lv_has ls 4 [(0, .ref (a 0)), (1, .int x0), (2, .int x1), (3, .int i3_1)] → W p l e (headSpec wsX3_countSteps ({ frames := 2, cells := 0, slots := 0, locals := 45 } : Room)).room s m ([.ref (a 0), .int x0, .int x1] : List Value).toArray below meth c H locs 0 0 (MQ below (va_Qv (fun (u : PowV) => f_X3_countSteps w x0 x1 = u) (fun u t => va_P D vwCl (wPow cy a u) t.heap) A) ([.ref (a 0), .int x0, .int x1] : List Value).toArray s 0 0 A) (F0 m 47 ls []) := by
    intro i3_1 w0_2 hE0 H locs hP hD hS ls hl
    exact W.vret hx hb hr (fun t ht hW => ⟨⟨w0_2, rfl, (show f_X3_countSteps w x0 x1 = w0_2 from by rw [f_X3_countSteps, hE0, my_t2_eq]), by show va_P D vwCl _ t.heap; rw [ht]; exact hP⟩, hS.F ht⟩) hS.2.2 dX3_countSteps_47
  have key : ∀ (nf : Nat) (i3_1 : Int32) (w0_2 : PowV), ((8 : Int32).toInt - (i3_1 : Int32).toInt).toNat < nf → lp (fun (x : Int32 × PowV) => f_X3_countSteps_st x0 x1 x.1 x.2) default nf (i3_1, w0_2) = lp (fun (x : Int32 × PowV) => f_X3_countSteps_st x0 x1 x.1 x.2) default (((8 : Int32).toInt - (0 : Int32).toInt).toNat + 1) (0, w) → ∀ (H : Heap) (locs : List Loc), va_P D vwCl (wPow cy a w0_2) H → va_D A (wPow cy a w0_2) → va_S A s.heap H locs → ∀ ls : Array Slot, lv_has ls 4 [(0, .ref (a 0)), (1, .int x0), (2, .int x1), (3, .int i3_1)] → W p l e (headSpec wsX3_countSteps ({ frames := 2, cells := 0, slots := 0, locals := 45 } : Room)).room s m ([.ref (a 0), .int x0, .int x1] : List Value).toArray below meth c H locs 0 0 (MQ below (va_Qv (fun (u : PowV) => f_X3_countSteps w x0 x1 = u) (fun u t => va_P D vwCl (wPow cy a u) t.heap) A) ([.ref (a 0), .int x0, .int x1] : List Value).toArray s 0 0 A) (F0 m 2 ls []) := by
    intro n0
    induction n0 with
    | zero => intro i3_1 w0_2 hlt; exact absurd hlt (Nat.not_lt_zero _)
    | succ n0 ih0 =>
      intro i3_1 w0_2 hlt0 hF0 H locs hP hD hS ls hl
      refine lv_iload_n hx hb dX3_countSteps_2 rfl (lv_at hl 3 rfl) ?_
      refine lv_bipush (v := 8) hx hb dX3_countSteps_3 (by decide) ?_
      refine lv_icmp_ge (tgt := 47) hx hb dX3_countSteps_5 (by decide) (fun c_3 => ?_) (fun c_3 => ?_)
      · have hst : f_X3_countSteps_st x0 x1 i3_1 w0_2 = .inr (i3_1, w0_2) := by rw [f_X3_countSteps_st, if_pos c_3]
        exact cont0 i3_1 w0_2 (lp_inr hst hF0) _ _ hP hD hS _ (lv_sub hl [0, 1, 2, 3] rfl)
      · refine lv_iload_n hx hb dX3_countSteps_8 rfl (lv_at hl 1 rfl) ?_
        refine lv_iload_n hx hb dX3_countSteps_9 rfl (lv_at hl 3 rfl) ?_
        refine rd_goi (va_runSN (As := [.int x0, .int i3_1]) (rest := []) S (c_X7_contains l D cy g B x0 i3_1) ⟨va_cnB 2 hts gX3_countSteps_X7_contains_n114 rfl rfl rfl (hK0.2.1.1.m 4 rfl) (hts (.initialized RX7) (List.mem_of_getElem? (i := 4) rfl)) hd_X7_contains_S ⟨Nat.le_of_ble_eq_true rfl, Nat.le_of_ble_eq_true rfl⟩, (hts (.static yX7_contains) (List.mem_of_getElem? (i := 3) rfl)), trivial⟩ ⟨rdP_blind, my_preV hK0 hS hAB hP [] rfl⟩ rfl rfl hl.1 rfl (lv_room (Nat.le_of_ble_eq_true rfl)) dX3_countSteps_10 ⟨Nat.zero_le _, Nat.zero_le _⟩) ?_
        refine lv_if_eq (tgt := 41) hx hb dX3_countSteps_13 (by decide) (fun c_4 => ?_) (fun c_4 => ?_)
        · refine lv_iinc (v := (i3_1 + 1)) (lv' := [(3, .int (i3_1 + 1)), (0, .ref (a 0)), (1, .int x0), (2, .int x1)]) hx hb dX3_countSteps_41 hl (k := 3) rfl rfl (by decide) rfl (fun ls hl => ?_)
          refine lv_goto (tgt := 2) hx hb dX3_countSteps_44 (by decide) ?_
          have hst : f_X3_countSteps_st x0 x1 i3_1 w0_2 = .inl ((i3_1 + 1), w0_2) := by rw [f_X3_countSteps_st, if_neg c_3, if_pos c_4]
          have hmu : ((8 : Int32).toInt - ((i3_1 + 1) : Int32).toInt).toNat < ((8 : Int32).toInt - (i3_1 : Int32).toInt).toNat := mu_up c_3
          exact ih0 (i3_1 + 1) w0_2 (Nat.lt_of_lt_of_le hmu (Nat.le_of_lt_succ hlt0)) (lp_inl hst hF0) _ _ hP hD hS _ (lv_sub hl [1, 2, 3, 0] rfl)
        · refine lv_aload_n hx hb dX3_countSteps_16 rfl (lv_at hl 0 rfl) ?_
          refine lv_aload_n hx hb dX3_countSteps_17 rfl (lv_at hl 0 rfl) ?_
          refine va_get (D := D) (ci := 1) (v := .ref (a 13)) (C := RX3) (T := TX3) (N := 13) hx hb hts inX3 hown hK0.1 hP 0 rfl rfl 12 (by decide) (hts (.fieldLink RX3 35 "PivotChamber$Power" "allSteps" "LPivotChamber$Row;") (List.mem_of_getElem? (i := 1) rfl)) (fun _ h9 => h9) rfl dX3_countSteps_18 ?_
          refine lv_iload_n hx hb dX3_countSteps_21 rfl (lv_at hl 1 rfl) ?_
          refine lv_iload_n hx hb dX3_countSteps_22 rfl (lv_at hl 3 rfl) ?_
          refine mu_allv (wf := fun (u_5 : PowV) => (wPow cy a u_5)) (va_runV (C := RX3) (As := [.ref (a 13), .int x0, .int i3_1]) (rest := []) S (c_X3_countSwung_all l D cy g B a w0_2 x0 i3_1) (cwV 3 hts gX3_countSteps_X3_countSwung rfl rfl rfl hd_X3_countSwung_V ⟨Nat.le_of_ble_eq_true rfl, Nat.le_of_ble_eq_true rfl⟩) ⟨muP_blind, va_recv hK0.1 hP (ci := 1) (q0 := 0) rfl rfl, my_preA hK0 hS hAB hP hD⟩ rfl rfl hl.1 rfl (lv_room (Nat.le_of_ble_eq_true rfl)) dX3_countSteps_23 ⟨Nat.zero_le _, Nat.zero_le _⟩) hS hD (fun _ => by simp only [List.map_cons, List.map_nil, adrSet, adrSetE, adrPow, adrPowE, adrTxt, adrTxtE, adrSav, adrSavE, adrPCo, adrMod, adrModE]) (fun u_5 H locs hw_6 hP hD hS => ?_)
          refine lv_iload_n hx hb dX3_countSteps_26 rfl (lv_at hl 3 rfl) ?_
          refine lv_iload_n hx hb dX3_countSteps_27 rfl (lv_at hl 2 rfl) ?_
          refine lv_icmp_ne (tgt := 41) hx hb dX3_countSteps_28 (by decide) (fun c_7 => ?_) (fun c_7 => ?_)
          · refine lv_iinc (v := (i3_1 + 1)) (lv' := [(3, .int (i3_1 + 1)), (0, .ref (a 0)), (1, .int x0), (2, .int x1)]) hx hb dX3_countSteps_41 hl (k := 3) rfl rfl (by decide) rfl (fun ls hl => ?_)
            refine lv_goto (tgt := 2) hx hb dX3_countSteps_44 (by decide) ?_
            have hst : f_X3_countSteps_st x0 x1 i3_1 w0_2 = .inl ((i3_1 + 1), u_5) := by rw [f_X3_countSteps_st, if_neg c_3, if_neg c_4, hw_6, my_l_eq, if_neg c_7]
            have hmu : ((8 : Int32).toInt - ((i3_1 + 1) : Int32).toInt).toNat < ((8 : Int32).toInt - (i3_1 : Int32).toInt).toNat := mu_up c_3
            exact ih0 (i3_1 + 1) u_5 (Nat.lt_of_lt_of_le hmu (Nat.le_of_lt_succ hlt0)) (lp_inl hst hF0) _ _ hP hD hS _ (lv_sub hl [1, 2, 3, 0] rfl)
          · refine lv_aload_n hx hb dX3_countSteps_31 rfl (lv_at hl 0 rfl) ?_
            refine lv_aload_n hx hb dX3_countSteps_32 rfl (lv_at hl 0 rfl) ?_
            refine va_get (D := D) (ci := 1) (v := .ref (a 11)) (C := RX3) (T := TX3) (N := 13) hx hb hts inX3 hown hK0.1 hP 0 rfl rfl 11 (by decide) (hts (.fieldLink RX3 32 "PivotChamber$Power" "ownSteps" "LPivotChamber$Row;") (List.mem_of_getElem? (i := 2) rfl)) (fun _ h9 => h9) rfl dX3_countSteps_33 ?_
            refine lv_iload_n hx hb dX3_countSteps_36 rfl (lv_at hl 1 rfl) ?_
            refine lv_iload_n hx hb dX3_countSteps_37 rfl (lv_at hl 3 rfl) ?_
            refine mu_allv (wf := fun (u_8 : PowV) => (wPow cy a u_8)) (va_runV (C := RX3) (As := [.ref (a 11), .int x0, .int i3_1]) (rest := []) S (c_X3_countSwung_own l D cy g B a u_5 x0 i3_1) (cwV 3 hts gX3_countSteps_X3_countSwung rfl rfl rfl hd_X3_countSwung_V ⟨Nat.le_of_ble_eq_true rfl, Nat.le_of_ble_eq_true rfl⟩) ⟨muP_blind, va_recv hK0.1 hP (ci := 1) (q0 := 0) rfl rfl, my_preA hK0 hS hAB hP hD⟩ rfl rfl hl.1 rfl (lv_room (Nat.le_of_ble_eq_true rfl)) dX3_countSteps_38 ⟨Nat.zero_le _, Nat.zero_le _⟩) hS hD (fun _ => by simp only [List.map_cons, List.map_nil, adrSet, adrSetE, adrPow, adrPowE, adrTxt, adrTxtE, adrSav, adrSavE, adrPCo, adrMod, adrModE]) (fun u_8 H locs hw_9 hP hD hS => ?_)
            refine lv_iinc (v := (i3_1 + 1)) (lv' := [(3, .int (i3_1 + 1)), (0, .ref (a 0)), (1, .int x0), (2, .int x1)]) hx hb dX3_countSteps_41 hl (k := 3) rfl rfl (by decide) rfl (fun ls hl => ?_)
            refine lv_goto (tgt := 2) hx hb dX3_countSteps_44 (by decide) ?_
            have hst : f_X3_countSteps_st x0 x1 i3_1 w0_2 = .inl ((i3_1 + 1), u_8) := by rw [f_X3_countSteps_st, if_neg c_3, if_neg c_4, hw_6, my_l_eq, if_pos c_7, hw_9, my_l_eq]
            have hmu : ((8 : Int32).toInt - ((i3_1 + 1) : Int32).toInt).toNat < ((8 : Int32).toInt - (i3_1 : Int32).toInt).toNat := mu_up c_3
            exact ih0 (i3_1 + 1) u_8 (Nat.lt_of_lt_of_le hmu (Nat.le_of_lt_succ hlt0)) (lp_inl hst hF0) _ _ hP hD hS _ (lv_sub hl [1, 2, 3, 0] rfl)
  exact key (((8 : Int32).toInt - (0 : Int32).toInt).toNat + 1) 0 w (Nat.lt_succ_self _) rfl _ _ hP hD hS _ (lv_sub hl [1, 2, 3, 0] rfl)
theorem hd_X3_findSteps_S : yX3_findSteps.cls ≠ "java/lang/invoke/MethodHandle" ∧ yX3_findSteps.cls ≠ "java/lang/invoke/VarHandle" ∧ (parseMethodDescriptor yX3_findSteps.desc).map (fun d => d.parameters.length) = some 1 := by decide +kernel
theorem hd_X3_findSteps_V : yX3_findSteps.cls = RX3 ∧ yX3_findSteps.cls ≠ "java/lang/invoke/MethodHandle" ∧ yX3_findSteps.cls ≠ "java/lang/invoke/VarHandle" ∧ (parseMethodDescriptor yX3_findSteps.desc).map (fun d => d.parameters.length) = some 1 := ⟨rfl, hd_X3_findSteps_S⟩
def f_X3_findSteps_st (x0 : Int32) (i2_5 : Int32) (w0_6 : PowV) : (Int32 × PowV) ⊕ (Int32 × PowV) := (if 256 ≤ i2_5 then (.inr (i2_5, w0_6)) else (if (f_X3_isSetOfPlayers w0_6 i2_5) = 0 then (.inl ((i2_5 + 1), w0_6)) else (my_l (f_X3_countSteps w0_6 i2_5 x0) (fun (u_9 : PowV) => (.inl ((i2_5 + 1), u_9))))))
def f_X3_findSteps (w : PowV) (x0 : Int32) : PowV := (my_t2 (lp (fun (x : Int32 × PowV) => f_X3_findSteps_st x0 x.1 x.2) default (((256 : Int32).toInt - (0 : Int32).toInt).toNat + 1) (0, (w.1, w.2.1, w.2.2.1, w.2.2.2.1, w.2.2.2.2.1, w.2.2.2.2.2.1, w.2.2.2.2.2.2.1, w.2.2.2.2.2.2.2.1, w.2.2.2.2.2.2.2.2.1, w.2.2.2.2.2.2.2.2.2.1, w.2.2.2.2.2.2.2.2.2.2.1, (f_X4_empty 402 w.2.2.2.2.2.2.2.2.2.2.2.1), (f_X4_empty 402 w.2.2.2.2.2.2.2.2.2.2.2.2)))) (fun (i2_5 : Int32) (w0_6 : PowV) => w0_6))
set_option maxHeartbeats 400000 in
set_option maxRecDepth 100000 in
theorem c_X3_findSteps (l : Launch) (D : va_G) (cy : Nat → ClassId) (g : Nat → Nat) (B : Nat) (a : Nat → Nat) (w : PowV) (x0 : Int32) : Met l yX3_findSteps wsX3_findSteps ({ frames := 3, cells := 0, slots := 0, locals := 68 }) (muP D cy g B (wPow cy a w) [.ref (a 0), .int x0]) (va_Qv (fun (u : PowV) => f_X3_findSteps w x0 = u) (fun u t => va_P D vwCl (wPow cy a u) t.heap) (muA (wPow cy a w))) 0 0 (muA (wPow cy a w)) := by
  refine Met.ofW (cc := cX3_findSteps) (maxL := 3) (ret := none) (by decide) rfl ?_
  intro p e s m args below meth c s₁ BB hml hv
  obtain ⟨rfl, hP, hK0, hD0⟩ := hv
  have hx := BB.exec
  have hb := BB.bytes
  have hr := BB.returns
  have hts := atoms_spec (ws := wsX3_findSteps) BB.pre
  have hown : s.vm.findClass RX3 = some m.cls := findClass_of_methodNamed BB.named
  have hlocks := BB.notSynchronized
  have S := my_fix hx hb hml hown hts
  have inX3 : ∀ w ∈ wsX30, w ∈ wsX3_findSteps := fun w h => List.mem_cons_of_mem _ (List.mem_append_left _ (List.mem_append_right _ h))
  have hAB := muB hD0
  have hD := muD hD0
  generalize hAe : muA (wPow cy a w) = A at hAB hD ⊢
  have hS : va_S A s.heap s.heap [] := va_S.rf
  have hl := lv_entry ([.ref (a 0), .int x0]) (n := 3) (Nat.le_of_ble_eq_true rfl)
  rw [lg_entry_eq]
  generalize (lg_sl ([.ref (a 0), .int x0]) ++ List.replicate (3 - (lg_sl ([.ref (a 0), .int x0])).length) Slot.unset).toArray = ls at hl ⊢
  have hl : lv_has ls 3 [(0, .ref (a 0)), (1, .int x0)] := hl
  refine lv_aload_n hx hb dX3_findSteps_0 rfl (lv_at hl 0 rfl) ?_
  refine va_get (D := D) (ci := 1) (v := .ref (a 11)) (C := RX3) (T := TX3) (N := 13) hx hb hts inX3 hown hK0.1 hP 0 rfl rfl 11 (by decide) (hts (.fieldLink RX3 32 "PivotChamber$Power" "ownSteps" "LPivotChamber$Row;") (List.mem_of_getElem? (i := 1) rfl)) (fun _ h9 => h9) rfl dX3_findSteps_1 ?_
  refine mu_row (va_runV (C := RX4) (As := []) (rest := []) S (c_X4_empty l D cy g B (a 11) (a 12) 402 w.2.2.2.2.2.2.2.2.2.2.2.1 (by decide)) (cwV 0 hts gX3_findSteps_X4_empty rfl rfl rfl hd_X4_empty_V ⟨Nat.le_of_ble_eq_true rfl, Nat.le_of_ble_eq_true rfl⟩) ⟨muP_blind, va_recv hK0.1 hP (ci := 2) (q0 := 11) rfl rfl, my_preM hK0 hS hAB hP hD [11, 12] (by decide) rfl⟩ rfl rfl hl.1 rfl (lv_room (Nat.le_of_ble_eq_true rfl)) dX3_findSteps_4 ⟨Nat.zero_le _, Nat.zero_le _⟩) hS hP hD [11, 12] rfl (w2 := (wPowE cy a w.1 w.2.1 w.2.2.1 w.2.2.2.1 w.2.2.2.2.1 w.2.2.2.2.2.1 w.2.2.2.2.2.2.1 w.2.2.2.2.2.2.2.1 w.2.2.2.2.2.2.2.2.1 w.2.2.2.2.2.2.2.2.2.1 w.2.2.2.2.2.2.2.2.2.2.1 (f_X4_empty 402 w.2.2.2.2.2.2.2.2.2.2.2.1) w.2.2.2.2.2.2.2.2.2.2.2.2)) rfl (fun H locs hP hD hS => ?_)
  refine lv_aload_n hx hb dX3_findSteps_7 rfl (lv_at hl 0 rfl) ?_
  refine va_get (D := D) (ci := 1) (v := .ref (a 13)) (C := RX3) (T := TX3) (N := 13) hx hb hts inX3 hown hK0.1 hP 0 rfl rfl 12 (by decide) (hts (.fieldLink RX3 35 "PivotChamber$Power" "allSteps" "LPivotChamber$Row;") (List.mem_of_getElem? (i := 2) rfl)) (fun _ h9 => h9) rfl dX3_findSteps_8 ?_
  refine mu_row (va_runV (C := RX4) (As := []) (rest := []) S (c_X4_empty l D cy g B (a 13) (a 14) 402 w.2.2.2.2.2.2.2.2.2.2.2.2 (by decide)) (cwV 0 hts gX3_findSteps_X4_empty rfl rfl rfl hd_X4_empty_V ⟨Nat.le_of_ble_eq_true rfl, Nat.le_of_ble_eq_true rfl⟩) ⟨muP_blind, va_recv hK0.1 hP (ci := 2) (q0 := 13) rfl rfl, my_preM hK0 hS hAB hP hD [13, 14] (by decide) rfl⟩ rfl rfl hl.1 rfl (lv_room (Nat.le_of_ble_eq_true rfl)) dX3_findSteps_11 ⟨Nat.zero_le _, Nat.zero_le _⟩) hS hP hD [13, 14] rfl (w2 := (wPowE cy a w.1 w.2.1 w.2.2.1 w.2.2.2.1 w.2.2.2.2.1 w.2.2.2.2.2.1 w.2.2.2.2.2.2.1 w.2.2.2.2.2.2.2.1 w.2.2.2.2.2.2.2.2.1 w.2.2.2.2.2.2.2.2.2.1 w.2.2.2.2.2.2.2.2.2.2.1 (f_X4_empty 402 w.2.2.2.2.2.2.2.2.2.2.2.1) (f_X4_empty 402 w.2.2.2.2.2.2.2.2.2.2.2.2))) rfl (fun H locs hP hD hS => ?_)
  refine lv_iconst (v := 0) hx hb dX3_findSteps_14 (by decide) ?_
  refine lv_istore_n (lv' := [(2, .int 0), (0, .ref (a 0)), (1, .int x0)]) hx hb dX3_findSteps_15 rfl hl (by decide) rfl (fun ls hl => ?_)
  have hP : va_P D vwCl (wPow cy a (w.1, w.2.1, w.2.2.1, w.2.2.2.1, w.2.2.2.2.1, w.2.2.2.2.2.1, w.2.2.2.2.2.2.1, w.2.2.2.2.2.2.2.1, w.2.2.2.2.2.2.2.2.1, w.2.2.2.2.2.2.2.2.2.1, w.2.2.2.2.2.2.2.2.2.2.1, (f_X4_empty 402 w.2.2.2.2.2.2.2.2.2.2.2.1), (f_X4_empty 402 w.2.2.2.2.2.2.2.2.2.2.2.2))) H := by rw [wPow_mk]; exact hP
  have hD : va_D A (wPow cy a (w.1, w.2.1, w.2.2.1, w.2.2.2.1, w.2.2.2.2.1, w.2.2.2.2.2.1, w.2.2.2.2.2.2.1, w.2.2.2.2.2.2.2.1, w.2.2.2.2.2.2.2.2.1, w.2.2.2.2.2.2.2.2.2.1, w.2.2.2.2.2.2.2.2.2.2.1, (f_X4_empty 402 w.2.2.2.2.2.2.2.2.2.2.2.1), (f_X4_empty 402 w.2.2.2.2.2.2.2.2.2.2.2.2))) := by rw [wPow_mk]; exact hD
  have cont0 : ∀ (i2_5 : Int32) (w0_6 : PowV), lp (fun (x : Int32 × PowV) => f_X3_findSteps_st x0 x.1 x.2) default (((256 : Int32).toInt - (0 : Int32).toInt).toNat + 1) (0, (w.1, w.2.1, w.2.2.1, w.2.2.2.1, w.2.2.2.2.1, w.2.2.2.2.2.1, w.2.2.2.2.2.2.1, w.2.2.2.2.2.2.2.1, w.2.2.2.2.2.2.2.2.1, w.2.2.2.2.2.2.2.2.2.1, w.2.2.2.2.2.2.2.2.2.2.1, (f_X4_empty 402 w.2.2.2.2.2.2.2.2.2.2.2.1), (f_X4_empty 402 w.2.2.2.2.2.2.2.2.2.2.2.2))) = (i2_5, w0_6) → ∀ (H : Heap) (locs : List Loc), va_P D vwCl (wPow cy a w0_6) H → va_D A (wPow cy a w0_6) → va_S A s.heap H locs → ∀ ls : Array Slot, lv_has ls 3 [(0, .ref (a 0)), (1, .int x0), (2, .int i2_5)] → W p l e (headSpec wsX3_findSteps ({ frames := 3, cells := 0, slots := 0, locals := 68 } : Room)).room s m ([.ref (a 0), .int x0] : List Value).toArray below meth c H locs 0 0 (MQ below (va_Qv (fun (u : PowV) => f_X3_findSteps w x0 = u) (fun u t => va_P D vwCl (wPow cy a u) t.heap) A) ([.ref (a 0), .int x0] : List Value).toArray s 0 0 A) (F0 m 43 ls []) := by
    intro i2_5 w0_6 hE0 H locs hP hD hS ls hl
    exact W.vret hx hb hr (fun t ht hW => ⟨⟨w0_6, rfl, (show f_X3_findSteps w x0 = w0_6 from by rw [f_X3_findSteps, hE0, my_t2_eq]), by show va_P D vwCl _ t.heap; rw [ht]; exact hP⟩, hS.F ht⟩) hS.2.2 dX3_findSteps_43
  have key : ∀ (nf : Nat) (i2_5 : Int32) (w0_6 : PowV), ((256 : Int32).toInt - (i2_5 : Int32).toInt).toNat < nf → lp (fun (x : Int32 × PowV) => f_X3_findSteps_st x0 x.1 x.2) default nf (i2_5, w0_6) = lp (fun (x : Int32 × PowV) => f_X3_findSteps_st x0 x.1 x.2) default (((256 : Int32).toInt - (0 : Int32).toInt).toNat + 1) (0, (w.1, w.2.1, w.2.2.1, w.2.2.2.1, w.2.2.2.2.1, w.2.2.2.2.2.1, w.2.2.2.2.2.2.1, w.2.2.2.2.2.2.2.1, w.2.2.2.2.2.2.2.2.1, w.2.2.2.2.2.2.2.2.2.1, w.2.2.2.2.2.2.2.2.2.2.1, (f_X4_empty 402 w.2.2.2.2.2.2.2.2.2.2.2.1), (f_X4_empty 402 w.2.2.2.2.2.2.2.2.2.2.2.2))) → ∀ (H : Heap) (locs : List Loc), va_P D vwCl (wPow cy a w0_6) H → va_D A (wPow cy a w0_6) → va_S A s.heap H locs → ∀ ls : Array Slot, lv_has ls 3 [(0, .ref (a 0)), (1, .int x0), (2, .int i2_5)] → W p l e (headSpec wsX3_findSteps ({ frames := 3, cells := 0, slots := 0, locals := 68 } : Room)).room s m ([.ref (a 0), .int x0] : List Value).toArray below meth c H locs 0 0 (MQ below (va_Qv (fun (u : PowV) => f_X3_findSteps w x0 = u) (fun u t => va_P D vwCl (wPow cy a u) t.heap) A) ([.ref (a 0), .int x0] : List Value).toArray s 0 0 A) (F0 m 16 ls []) := by
    intro n0
    induction n0 with
    | zero => intro i2_5 w0_6 hlt; exact absurd hlt (Nat.not_lt_zero _)
    | succ n0 ih0 =>
      intro i2_5 w0_6 hlt0 hF0 H locs hP hD hS ls hl
      refine lv_iload_n hx hb dX3_findSteps_16 rfl (lv_at hl 2 rfl) ?_
      refine lv_sipush (v := 256) hx hb dX3_findSteps_17 (by decide) ?_
      refine lv_icmp_ge (tgt := 43) hx hb dX3_findSteps_20 (by decide) (fun c_7 => ?_) (fun c_7 => ?_)
      · have hst : f_X3_findSteps_st x0 i2_5 w0_6 = .inr (i2_5, w0_6) := by rw [f_X3_findSteps_st, if_pos c_7]
        exact cont0 i2_5 w0_6 (lp_inr hst hF0) _ _ hP hD hS _ (lv_sub hl [0, 1, 2] rfl)
      · refine lv_aload_n hx hb dX3_findSteps_23 rfl (lv_at hl 0 rfl) ?_
        refine lv_iload_n hx hb dX3_findSteps_24 rfl (lv_at hl 2 rfl) ?_
        refine rd_goi (va_runV (C := RX3) (As := [.int i2_5]) (rest := []) S (c_X3_isSetOfPlayers l D cy g B a w0_6 i2_5) (cwV 1 hts gX3_findSteps_X3_isSetOfPlayers rfl rfl rfl hd_X3_isSetOfPlayers_V ⟨Nat.le_of_ble_eq_true rfl, Nat.le_of_ble_eq_true rfl⟩) ⟨rdP_blind, va_recv hK0.1 hP (ci := 1) (q0 := 0) rfl rfl, my_preP hK0 hS hAB hP⟩ rfl rfl hl.1 rfl (lv_room (Nat.le_of_ble_eq_true rfl)) dX3_findSteps_25 ⟨Nat.zero_le _, Nat.zero_le _⟩) ?_
        refine lv_if_eq (tgt := 37) hx hb dX3_findSteps_28 (by decide) (fun c_8 => ?_) (fun c_8 => ?_)
        · refine lv_iinc (v := (i2_5 + 1)) (lv' := [(2, .int (i2_5 + 1)), (0, .ref (a 0)), (1, .int x0)]) hx hb dX3_findSteps_37 hl (k := 2) rfl rfl (by decide) rfl (fun ls hl => ?_)
          refine lv_goto (tgt := 16) hx hb dX3_findSteps_40 (by decide) ?_
          have hst : f_X3_findSteps_st x0 i2_5 w0_6 = .inl ((i2_5 + 1), w0_6) := by rw [f_X3_findSteps_st, if_neg c_7, if_pos c_8]
          have hmu : ((256 : Int32).toInt - ((i2_5 + 1) : Int32).toInt).toNat < ((256 : Int32).toInt - (i2_5 : Int32).toInt).toNat := mu_up c_7
          exact ih0 (i2_5 + 1) w0_6 (Nat.lt_of_lt_of_le hmu (Nat.le_of_lt_succ hlt0)) (lp_inl hst hF0) _ _ hP hD hS _ (lv_sub hl [1, 2, 0] rfl)
        · refine lv_aload_n hx hb dX3_findSteps_31 rfl (lv_at hl 0 rfl) ?_
          refine lv_iload_n hx hb dX3_findSteps_32 rfl (lv_at hl 2 rfl) ?_
          refine lv_iload_n hx hb dX3_findSteps_33 rfl (lv_at hl 1 rfl) ?_
          refine mu_allv (wf := fun (u_9 : PowV) => (wPow cy a u_9)) (va_runV (C := RX3) (As := [.int i2_5, .int x0]) (rest := []) S (c_X3_countSteps l D cy g B a w0_6 i2_5 x0) (cwV 2 hts gX3_findSteps_X3_countSteps rfl rfl rfl hd_X3_countSteps_V ⟨Nat.le_of_ble_eq_true rfl, Nat.le_of_ble_eq_true rfl⟩) ⟨muP_blind, va_recv hK0.1 hP (ci := 1) (q0 := 0) rfl rfl, my_preA hK0 hS hAB hP hD⟩ rfl rfl hl.1 rfl (lv_room (Nat.le_of_ble_eq_true rfl)) dX3_findSteps_34 ⟨Nat.zero_le _, Nat.zero_le _⟩) hS hD (fun _ => by simp only [List.map_cons, List.map_nil, adrSet, adrSetE, adrPow, adrPowE, adrTxt, adrTxtE, adrSav, adrSavE, adrPCo, adrMod, adrModE]) (fun u_9 H locs hw_10 hP hD hS => ?_)
          refine lv_iinc (v := (i2_5 + 1)) (lv' := [(2, .int (i2_5 + 1)), (0, .ref (a 0)), (1, .int x0)]) hx hb dX3_findSteps_37 hl (k := 2) rfl rfl (by decide) rfl (fun ls hl => ?_)
          refine lv_goto (tgt := 16) hx hb dX3_findSteps_40 (by decide) ?_
          have hst : f_X3_findSteps_st x0 i2_5 w0_6 = .inl ((i2_5 + 1), u_9) := by rw [f_X3_findSteps_st, if_neg c_7, if_neg c_8, hw_10, my_l_eq]
          have hmu : ((256 : Int32).toInt - ((i2_5 + 1) : Int32).toInt).toNat < ((256 : Int32).toInt - (i2_5 : Int32).toInt).toNat := mu_up c_7
          exact ih0 (i2_5 + 1) u_9 (Nat.lt_of_lt_of_le hmu (Nat.le_of_lt_succ hlt0)) (lp_inl hst hF0) _ _ hP hD hS _ (lv_sub hl [1, 2, 0] rfl)
  exact key (((256 : Int32).toInt - (0 : Int32).toInt).toNat + 1) 0 (w.1, w.2.1, w.2.2.1, w.2.2.2.1, w.2.2.2.2.1, w.2.2.2.2.2.1, w.2.2.2.2.2.2.1, w.2.2.2.2.2.2.2.1, w.2.2.2.2.2.2.2.2.1, w.2.2.2.2.2.2.2.2.2.1, w.2.2.2.2.2.2.2.2.2.2.1, (f_X4_empty 402 w.2.2.2.2.2.2.2.2.2.2.2.1), (f_X4_empty 402 w.2.2.2.2.2.2.2.2.2.2.2.2)) (Nat.lt_succ_self _) rfl _ _ hP hD hS _ (lv_sub hl [1, 2, 0] rfl)
theorem hd_X3_bestQuotaFor_S : yX3_bestQuotaFor.cls ≠ "java/lang/invoke/MethodHandle" ∧ yX3_bestQuotaFor.cls ≠ "java/lang/invoke/VarHandle" ∧ (parseMethodDescriptor yX3_bestQuotaFor.desc).map (fun d => d.parameters.length) = some 2 := by decide +kernel
theorem hd_X3_bestQuotaFor_V : yX3_bestQuotaFor.cls = RX3 ∧ yX3_bestQuotaFor.cls ≠ "java/lang/invoke/MethodHandle" ∧ yX3_bestQuotaFor.cls ≠ "java/lang/invoke/VarHandle" ∧ (parseMethodDescriptor yX3_bestQuotaFor.desc).map (fun d => d.parameters.length) = some 2 := ⟨rfl, hd_X3_bestQuotaFor_S⟩
def f_X3_bestQuotaFor_st (x1 : Int32) (u_1 : PowV) (i3_3 : Int32) (i4_4 : Int32) (i5_5 : Int32) (i6_6 : Int32) (i7_7 : Int32) (i8_8 : Int32) : (Int32 × Int32 × Int32 × Int32 × Int32 × Int32) ⊕ (Int32 × Int32 × Int32 × Int32 × Int32 × Int32) := (if 400 < i8_8 then (.inr (i3_3, i4_4, i5_5, i6_6, i7_7, i8_8)) else (if x1 < i8_8 then (.inr (i3_3, i4_4, i5_5, i6_6, i7_7, i8_8)) else (if ((i3_3 + (rAt 402 u_1.2.2.2.2.2.2.2.2.2.2.2.1 i8_8)) * i7_7) ≤ (i6_6 * (i4_4 + (rAt 402 u_1.2.2.2.2.2.2.2.2.2.2.2.2 i8_8))) then (.inl ((i3_3 + (rAt 402 u_1.2.2.2.2.2.2.2.2.2.2.2.1 i8_8)), (i4_4 + (rAt 402 u_1.2.2.2.2.2.2.2.2.2.2.2.2 i8_8)), i5_5, i6_6, i7_7, (i8_8 + 1))) else (.inl ((i3_3 + (rAt 402 u_1.2.2.2.2.2.2.2.2.2.2.2.1 i8_8)), (i4_4 + (rAt 402 u_1.2.2.2.2.2.2.2.2.2.2.2.2 i8_8)), i8_8, (i3_3 + (rAt 402 u_1.2.2.2.2.2.2.2.2.2.2.2.1 i8_8)), (i4_4 + (rAt 402 u_1.2.2.2.2.2.2.2.2.2.2.2.2 i8_8)), (i8_8 + 1))))))
def f_X3_bestQuotaFor (w : PowV) (x0 : Int32) (x1 : Int32) : Int32 × PowV := (my_l (f_X3_findSteps w x0) (fun (u_1 : PowV) => (my_t6 (lp (fun (x : Int32 × Int32 × Int32 × Int32 × Int32 × Int32) => f_X3_bestQuotaFor_st x1 u_1 x.1 x.2.1 x.2.2.1 x.2.2.2.1 x.2.2.2.2.1 x.2.2.2.2.2) default (((400 : Int32).toInt + 1 - (1 : Int32).toInt).toNat + 1) (0, 0, (-1), 0, 1, 1)) (fun (i3_3 : Int32) (i4_4 : Int32) (i5_5 : Int32) (i6_6 : Int32) (i7_7 : Int32) (i8_8 : Int32) => (i5_5, u_1)))))
set_option maxHeartbeats 3200000 in
set_option maxRecDepth 100000 in
theorem c_X3_bestQuotaFor (l : Launch) (D : va_G) (cy : Nat → ClassId) (g : Nat → Nat) (B : Nat) (a : Nat → Nat) (w : PowV) (x0 : Int32) (x1 : Int32) : Met l yX3_bestQuotaFor wsX3_bestQuotaFor ({ frames := 4, cells := 0, slots := 0, locals := 90 }) (muP D cy g B (wPow cy a w) [.ref (a 0), .int x0, .int x1]) (va_Qi (fun (r : Int32) (u : PowV) => f_X3_bestQuotaFor w x0 x1 = (r, u)) (fun u t => va_P D vwCl (wPow cy a u) t.heap) (muA (wPow cy a w))) 0 0 (muA (wPow cy a w)) := by
  refine Met.ofW (cc := cX3_bestQuotaFor) (maxL := 9) (ret := (some .int)) (by decide) rfl ?_
  intro p e s m args below meth c s₁ BB hml hv
  obtain ⟨rfl, hP, hK0, hD0⟩ := hv
  have hx := BB.exec
  have hb := BB.bytes
  have hr := BB.returns
  have hts := atoms_spec (ws := wsX3_bestQuotaFor) BB.pre
  have hown : s.vm.findClass RX3 = some m.cls := findClass_of_methodNamed BB.named
  have hlocks := BB.notSynchronized
  have S := my_fix hx hb hml hown hts
  have inX3 : ∀ w ∈ wsX30, w ∈ wsX3_bestQuotaFor := fun w h => List.mem_cons_of_mem _ (List.mem_append_left _ (List.mem_append_right _ h))
  have hAB := muB hD0
  have hD := muD hD0
  generalize hAe : muA (wPow cy a w) = A at hAB hD ⊢
  have hS : va_S A s.heap s.heap [] := va_S.rf
  have hl := lv_entry ([.ref (a 0), .int x0, .int x1]) (n := 9) (Nat.le_of_ble_eq_true rfl)
  rw [lg_entry_eq]
  generalize (lg_sl ([.ref (a 0), .int x0, .int x1]) ++ List.replicate (9 - (lg_sl ([.ref (a 0), .int x0, .int x1])).length) Slot.unset).toArray = ls at hl ⊢
  have hl : lv_has ls 9 [(0, .ref (a 0)), (1, .int x0), (2, .int x1)] := hl
  refine lv_aload_n hx hb dX3_bestQuotaFor_0 rfl (lv_at hl 0 rfl) ?_
  refine lv_iload_n hx hb dX3_bestQuotaFor_1 rfl (lv_at hl 1 rfl) ?_
  refine mu_allv (wf := fun (u_1 : PowV) => (wPow cy a u_1)) (va_runV (C := RX3) (As := [.int x0]) (rest := []) S (c_X3_findSteps l D cy g B a w x0) (cwV 1 hts gX3_bestQuotaFor_X3_findSteps rfl rfl rfl hd_X3_findSteps_V ⟨Nat.le_of_ble_eq_true rfl, Nat.le_of_ble_eq_true rfl⟩) ⟨muP_blind, va_recv hK0.1 hP (ci := 1) (q0 := 0) rfl rfl, my_preA hK0 hS hAB hP hD⟩ rfl rfl hl.1 rfl (lv_room (Nat.le_of_ble_eq_true rfl)) dX3_bestQuotaFor_2 ⟨Nat.zero_le _, Nat.zero_le _⟩) hS hD (fun _ => by simp only [List.map_cons, List.map_nil, adrSet, adrSetE, adrPow, adrPowE, adrTxt, adrTxtE, adrSav, adrSavE, adrPCo, adrMod, adrModE]) (fun u_1 H locs hw_2 hP hD hS => ?_)
  refine lv_iconst (v := 0) hx hb dX3_bestQuotaFor_5 (by decide) ?_
  refine lv_istore_n (lv' := [(3, .int 0), (0, .ref (a 0)), (1, .int x0), (2, .int x1)]) hx hb dX3_bestQuotaFor_6 rfl hl (by decide) rfl (fun ls hl => ?_)
  refine lv_iconst (v := 0) hx hb dX3_bestQuotaFor_7 (by decide) ?_
  refine lv_istore (lv' := [(4, .int 0), (3, .int 0), (0, .ref (a 0)), (1, .int x0), (2, .int x1)]) hx hb dX3_bestQuotaFor_8 hl (by decide) rfl (fun ls hl => ?_)
  refine lv_iconst (v := (-1)) hx hb dX3_bestQuotaFor_10 (by decide) ?_
  refine lv_istore (lv' := [(5, .int (-1)), (4, .int 0), (3, .int 0), (0, .ref (a 0)), (1, .int x0), (2, .int x1)]) hx hb dX3_bestQuotaFor_11 hl (by decide) rfl (fun ls hl => ?_)
  refine lv_iconst (v := 0) hx hb dX3_bestQuotaFor_13 (by decide) ?_
  refine lv_istore (lv' := [(6, .int 0), (5, .int (-1)), (4, .int 0), (3, .int 0), (0, .ref (a 0)), (1, .int x0), (2, .int x1)]) hx hb dX3_bestQuotaFor_14 hl (by decide) rfl (fun ls hl => ?_)
  refine lv_iconst (v := 1) hx hb dX3_bestQuotaFor_16 (by decide) ?_
  refine lv_istore (lv' := [(7, .int 1), (6, .int 0), (5, .int (-1)), (4, .int 0), (3, .int 0), (0, .ref (a 0)), (1, .int x0), (2, .int x1)]) hx hb dX3_bestQuotaFor_17 hl (by decide) rfl (fun ls hl => ?_)
  refine lv_iconst (v := 1) hx hb dX3_bestQuotaFor_19 (by decide) ?_
  refine lv_istore (lv' := [(8, .int 1), (7, .int 1), (6, .int 0), (5, .int (-1)), (4, .int 0), (3, .int 0), (0, .ref (a 0)), (1, .int x0), (2, .int x1)]) hx hb dX3_bestQuotaFor_20 hl (by decide) rfl (fun ls hl => ?_)
  have cont0 : ∀ (i3_3 : Int32) (i4_4 : Int32) (i5_5 : Int32) (i6_6 : Int32) (i7_7 : Int32) (i8_8 : Int32), lp (fun (x : Int32 × Int32 × Int32 × Int32 × Int32 × Int32) => f_X3_bestQuotaFor_st x1 u_1 x.1 x.2.1 x.2.2.1 x.2.2.2.1 x.2.2.2.2.1 x.2.2.2.2.2) default (((400 : Int32).toInt + 1 - (1 : Int32).toInt).toNat + 1) (0, 0, (-1), 0, 1, 1) = (i3_3, i4_4, i5_5, i6_6, i7_7, i8_8) → ∀ ls : Array Slot, lv_has ls 9 [(0, .ref (a 0)), (1, .int x0), (2, .int x1), (3, .int i3_3), (4, .int i4_4), (5, .int i5_5), (6, .int i6_6), (7, .int i7_7), (8, .int i8_8)] → W p l e (headSpec wsX3_bestQuotaFor ({ frames := 4, cells := 0, slots := 0, locals := 90 } : Room)).room s m ([.ref (a 0), .int x0, .int x1] : List Value).toArray below meth c H locs 0 0 (MQ below (va_Qi (fun (r : Int32) (u : PowV) => f_X3_bestQuotaFor w x0 x1 = (r, u)) (fun u t => va_P D vwCl (wPow cy a u) t.heap) A) ([.ref (a 0), .int x0, .int x1] : List Value).toArray s 0 0 A) (F0 m 91 ls []) := by
    intro i3_3 i4_4 i5_5 i6_6 i7_7 i8_8 hE0 ls hl
    refine lv_iload hx hb dX3_bestQuotaFor_91 (lv_at hl 5 rfl) ?_
    exact W.iret hx hb hr (fun t ht hW => ⟨⟨i5_5, u_1, rfl, (show f_X3_bestQuotaFor w x0 x1 = (i5_5, u_1) from by rw [f_X3_bestQuotaFor, hw_2, my_l_eq, hE0, my_t6_eq]), by show va_P D vwCl _ t.heap; rw [ht]; exact hP⟩, hS.F ht⟩) hS.2.2 dX3_bestQuotaFor_93
  have key : ∀ (nf : Nat) (i3_3 : Int32) (i4_4 : Int32) (i5_5 : Int32) (i6_6 : Int32) (i7_7 : Int32) (i8_8 : Int32), ((400 : Int32).toInt + 1 - (i8_8 : Int32).toInt).toNat < nf → lp (fun (x : Int32 × Int32 × Int32 × Int32 × Int32 × Int32) => f_X3_bestQuotaFor_st x1 u_1 x.1 x.2.1 x.2.2.1 x.2.2.2.1 x.2.2.2.2.1 x.2.2.2.2.2) default nf (i3_3, i4_4, i5_5, i6_6, i7_7, i8_8) = lp (fun (x : Int32 × Int32 × Int32 × Int32 × Int32 × Int32) => f_X3_bestQuotaFor_st x1 u_1 x.1 x.2.1 x.2.2.1 x.2.2.2.1 x.2.2.2.2.1 x.2.2.2.2.2) default (((400 : Int32).toInt + 1 - (1 : Int32).toInt).toNat + 1) (0, 0, (-1), 0, 1, 1) → ∀ ls : Array Slot, lv_has ls 9 [(0, .ref (a 0)), (1, .int x0), (2, .int x1), (3, .int i3_3), (4, .int i4_4), (5, .int i5_5), (6, .int i6_6), (7, .int i7_7), (8, .int i8_8)] → W p l e (headSpec wsX3_bestQuotaFor ({ frames := 4, cells := 0, slots := 0, locals := 90 } : Room)).room s m ([.ref (a 0), .int x0, .int x1] : List Value).toArray below meth c H locs 0 0 (MQ below (va_Qi (fun (r : Int32) (u : PowV) => f_X3_bestQuotaFor w x0 x1 = (r, u)) (fun u t => va_P D vwCl (wPow cy a u) t.heap) A) ([.ref (a 0), .int x0, .int x1] : List Value).toArray s 0 0 A) (F0 m 22 ls []) := by
    intro n0
    induction n0 with
    | zero => intro i3_3 i4_4 i5_5 i6_6 i7_7 i8_8 hlt; exact absurd hlt (Nat.not_lt_zero _)
    | succ n0 ih0 =>
      intro i3_3 i4_4 i5_5 i6_6 i7_7 i8_8 hlt0 hF0 ls hl
      refine lv_iload hx hb dX3_bestQuotaFor_22 (lv_at hl 8 rfl) ?_
      refine lv_sipush (v := 400) hx hb dX3_bestQuotaFor_24 (by decide) ?_
      refine lv_icmp_gt (tgt := 91) hx hb dX3_bestQuotaFor_27 (by decide) (fun c_9 => ?_) (fun c_9 => ?_)
      · have hst : f_X3_bestQuotaFor_st x1 u_1 i3_3 i4_4 i5_5 i6_6 i7_7 i8_8 = .inr (i3_3, i4_4, i5_5, i6_6, i7_7, i8_8) := by rw [f_X3_bestQuotaFor_st, if_pos c_9]
        exact cont0 i3_3 i4_4 i5_5 i6_6 i7_7 i8_8 (lp_inr hst hF0) _ (lv_sub hl [0, 1, 2, 3, 4, 5, 6, 7, 8] rfl)
      · refine lv_iload hx hb dX3_bestQuotaFor_30 (lv_at hl 8 rfl) ?_
        refine lv_iload_n hx hb dX3_bestQuotaFor_32 rfl (lv_at hl 2 rfl) ?_
        refine lv_icmp_gt (tgt := 91) hx hb dX3_bestQuotaFor_33 (by decide) (fun c_10 => ?_) (fun c_10 => ?_)
        · have hst : f_X3_bestQuotaFor_st x1 u_1 i3_3 i4_4 i5_5 i6_6 i7_7 i8_8 = .inr (i3_3, i4_4, i5_5, i6_6, i7_7, i8_8) := by rw [f_X3_bestQuotaFor_st, if_neg c_9, if_pos c_10]
          exact cont0 i3_3 i4_4 i5_5 i6_6 i7_7 i8_8 (lp_inr hst hF0) _ (lv_sub hl [0, 1, 2, 3, 4, 5, 6, 7, 8] rfl)
        · refine lv_iload_n hx hb dX3_bestQuotaFor_36 rfl (lv_at hl 3 rfl) ?_
          refine lv_aload_n hx hb dX3_bestQuotaFor_37 rfl (lv_at hl 0 rfl) ?_
          refine va_get (D := D) (ci := 1) (v := .ref (a 11)) (C := RX3) (T := TX3) (N := 13) hx hb hts inX3 hown hK0.1 hP 0 rfl rfl 11 (by decide) (hts (.fieldLink RX3 32 "PivotChamber$Power" "ownSteps" "LPivotChamber$Row;") (List.mem_of_getElem? (i := 1) rfl)) (fun _ h9 => h9) rfl dX3_bestQuotaFor_38 ?_
          refine lv_iload hx hb dX3_bestQuotaFor_41 (lv_at hl 8 rfl) ?_
          refine rd_goi (va_runV (C := RX4) (As := [.int i8_8]) (rest := [.int i3_3]) S (c_X4_at l D cy g B (a 11) (a 12) 402 u_1.2.2.2.2.2.2.2.2.2.2.2.1 i8_8 (by decide)) (cwV 1 hts gX3_bestQuotaFor_X4_at rfl rfl rfl hd_X4_at_V ⟨Nat.le_of_ble_eq_true rfl, Nat.le_of_ble_eq_true rfl⟩) ⟨rdP_blind, va_recv hK0.1 hP (ci := 2) (q0 := 11) rfl rfl, my_preV hK0 hS hAB hP [11, 12] rfl⟩ rfl rfl hl.1 rfl (lv_room (Nat.le_of_ble_eq_true rfl)) dX3_bestQuotaFor_43 ⟨Nat.zero_le _, Nat.zero_le _⟩) ?_
          refine lv_iadd hx hb dX3_bestQuotaFor_46 ?_
          refine lv_istore_n (lv' := [(3, .int (i3_3 + (rAt 402 u_1.2.2.2.2.2.2.2.2.2.2.2.1 i8_8))), (0, .ref (a 0)), (1, .int x0), (2, .int x1), (4, .int i4_4), (5, .int i5_5), (6, .int i6_6), (7, .int i7_7), (8, .int i8_8)]) hx hb dX3_bestQuotaFor_47 rfl hl (by decide) rfl (fun ls hl => ?_)
          refine lv_iload hx hb dX3_bestQuotaFor_48 (lv_at hl 4 rfl) ?_
          refine lv_aload_n hx hb dX3_bestQuotaFor_50 rfl (lv_at hl 1 rfl) ?_
          refine va_get (D := D) (ci := 1) (v := .ref (a 13)) (C := RX3) (T := TX3) (N := 13) hx hb hts inX3 hown hK0.1 hP 0 rfl rfl 12 (by decide) (hts (.fieldLink RX3 35 "PivotChamber$Power" "allSteps" "LPivotChamber$Row;") (List.mem_of_getElem? (i := 2) rfl)) (fun _ h9 => h9) rfl dX3_bestQuotaFor_51 ?_
          refine lv_iload hx hb dX3_bestQuotaFor_54 (lv_at hl 8 rfl) ?_
          refine rd_goi (va_runV (C := RX4) (As := [.int i8_8]) (rest := [.int i4_4]) S (c_X4_at l D cy g B (a 13) (a 14) 402 u_1.2.2.2.2.2.2.2.2.2.2.2.2 i8_8 (by decide)) (cwV 1 hts gX3_bestQuotaFor_X4_at rfl rfl rfl hd_X4_at_V ⟨Nat.le_of_ble_eq_true rfl, Nat.le_of_ble_eq_true rfl⟩) ⟨rdP_blind, va_recv hK0.1 hP (ci := 2) (q0 := 13) rfl rfl, my_preV hK0 hS hAB hP [13, 14] rfl⟩ rfl rfl hl.1 rfl (lv_room (Nat.le_of_ble_eq_true rfl)) dX3_bestQuotaFor_56 ⟨Nat.zero_le _, Nat.zero_le _⟩) ?_
          refine lv_iadd hx hb dX3_bestQuotaFor_59 ?_
          refine lv_istore (lv' := [(4, .int (i4_4 + (rAt 402 u_1.2.2.2.2.2.2.2.2.2.2.2.2 i8_8))), (3, .int (i3_3 + (rAt 402 u_1.2.2.2.2.2.2.2.2.2.2.2.1 i8_8))), (0, .ref (a 0)), (1, .int x0), (2, .int x1), (5, .int i5_5), (6, .int i6_6), (7, .int i7_7), (8, .int i8_8)]) hx hb dX3_bestQuotaFor_60 hl (by decide) rfl (fun ls hl => ?_)
          refine lv_iload_n hx hb dX3_bestQuotaFor_62 rfl (lv_at hl 1 rfl) ?_
          refine lv_iload hx hb dX3_bestQuotaFor_63 (lv_at hl 7 rfl) ?_
          refine lv_imul hx hb dX3_bestQuotaFor_65 ?_
          refine lv_iload hx hb dX3_bestQuotaFor_66 (lv_at hl 6 rfl) ?_
          refine lv_iload hx hb dX3_bestQuotaFor_68 (lv_at hl 0 rfl) ?_
          refine lv_imul hx hb dX3_bestQuotaFor_70 ?_
          refine lv_icmp_le (tgt := 85) hx hb dX3_bestQuotaFor_71 (by decide) (fun c_11 => ?_) (fun c_11 => ?_)
          · refine lv_iinc (v := (i8_8 + 1)) (lv' := [(8, .int (i8_8 + 1)), (4, .int (i4_4 + (rAt 402 u_1.2.2.2.2.2.2.2.2.2.2.2.2 i8_8))), (3, .int (i3_3 + (rAt 402 u_1.2.2.2.2.2.2.2.2.2.2.2.1 i8_8))), (0, .ref (a 0)), (1, .int x0), (2, .int x1), (5, .int i5_5), (6, .int i6_6), (7, .int i7_7)]) hx hb dX3_bestQuotaFor_85 hl (k := 8) rfl rfl (by decide) rfl (fun ls hl => ?_)
            refine lv_goto (tgt := 22) hx hb dX3_bestQuotaFor_88 (by decide) ?_
            have hst : f_X3_bestQuotaFor_st x1 u_1 i3_3 i4_4 i5_5 i6_6 i7_7 i8_8 = .inl ((i3_3 + (rAt 402 u_1.2.2.2.2.2.2.2.2.2.2.2.1 i8_8)), (i4_4 + (rAt 402 u_1.2.2.2.2.2.2.2.2.2.2.2.2 i8_8)), i5_5, i6_6, i7_7, (i8_8 + 1)) := by rw [f_X3_bestQuotaFor_st, if_neg c_9, if_neg c_10, if_pos c_11]
            have hmu : ((400 : Int32).toInt + 1 - ((i8_8 + 1) : Int32).toInt).toNat < ((400 : Int32).toInt + 1 - (i8_8 : Int32).toInt).toNat := mu_le c_9 (by decide)
            exact ih0 (i3_3 + (rAt 402 u_1.2.2.2.2.2.2.2.2.2.2.2.1 i8_8)) (i4_4 + (rAt 402 u_1.2.2.2.2.2.2.2.2.2.2.2.2 i8_8)) i5_5 i6_6 i7_7 (i8_8 + 1) (Nat.lt_of_lt_of_le hmu (Nat.le_of_lt_succ hlt0)) (lp_inl hst hF0) _ (lv_sub hl [3, 4, 5, 2, 1, 6, 7, 8, 0] rfl)
          · refine lv_iload hx hb dX3_bestQuotaFor_74 (lv_at hl 8 rfl) ?_
            refine lv_istore (lv' := [(5, .int i8_8), (4, .int (i4_4 + (rAt 402 u_1.2.2.2.2.2.2.2.2.2.2.2.2 i8_8))), (3, .int (i3_3 + (rAt 402 u_1.2.2.2.2.2.2.2.2.2.2.2.1 i8_8))), (0, .ref (a 0)), (1, .int x0), (2, .int x1), (6, .int i6_6), (7, .int i7_7), (8, .int i8_8)]) hx hb dX3_bestQuotaFor_76 hl (by decide) rfl (fun ls hl => ?_)
            refine lv_iload_n hx hb dX3_bestQuotaFor_78 rfl (lv_at hl 2 rfl) ?_
            refine lv_istore (lv' := [(6, .int (i3_3 + (rAt 402 u_1.2.2.2.2.2.2.2.2.2.2.2.1 i8_8))), (5, .int i8_8), (4, .int (i4_4 + (rAt 402 u_1.2.2.2.2.2.2.2.2.2.2.2.2 i8_8))), (3, .int (i3_3 + (rAt 402 u_1.2.2.2.2.2.2.2.2.2.2.2.1 i8_8))), (0, .ref (a 0)), (1, .int x0), (2, .int x1), (7, .int i7_7), (8, .int i8_8)]) hx hb dX3_bestQuotaFor_79 hl (by decide) rfl (fun ls hl => ?_)
            refine lv_iload hx hb dX3_bestQuotaFor_81 (lv_at hl 2 rfl) ?_
            refine lv_istore (lv' := [(7, .int (i4_4 + (rAt 402 u_1.2.2.2.2.2.2.2.2.2.2.2.2 i8_8))), (6, .int (i3_3 + (rAt 402 u_1.2.2.2.2.2.2.2.2.2.2.2.1 i8_8))), (5, .int i8_8), (4, .int (i4_4 + (rAt 402 u_1.2.2.2.2.2.2.2.2.2.2.2.2 i8_8))), (3, .int (i3_3 + (rAt 402 u_1.2.2.2.2.2.2.2.2.2.2.2.1 i8_8))), (0, .ref (a 0)), (1, .int x0), (2, .int x1), (8, .int i8_8)]) hx hb dX3_bestQuotaFor_83 hl (by decide) rfl (fun ls hl => ?_)
            refine lv_iinc (v := (i8_8 + 1)) (lv' := [(8, .int (i8_8 + 1)), (7, .int (i4_4 + (rAt 402 u_1.2.2.2.2.2.2.2.2.2.2.2.2 i8_8))), (6, .int (i3_3 + (rAt 402 u_1.2.2.2.2.2.2.2.2.2.2.2.1 i8_8))), (5, .int i8_8), (4, .int (i4_4 + (rAt 402 u_1.2.2.2.2.2.2.2.2.2.2.2.2 i8_8))), (3, .int (i3_3 + (rAt 402 u_1.2.2.2.2.2.2.2.2.2.2.2.1 i8_8))), (0, .ref (a 0)), (1, .int x0), (2, .int x1)]) hx hb dX3_bestQuotaFor_85 hl (k := 8) rfl rfl (by decide) rfl (fun ls hl => ?_)
            refine lv_goto (tgt := 22) hx hb dX3_bestQuotaFor_88 (by decide) ?_
            have hst : f_X3_bestQuotaFor_st x1 u_1 i3_3 i4_4 i5_5 i6_6 i7_7 i8_8 = .inl ((i3_3 + (rAt 402 u_1.2.2.2.2.2.2.2.2.2.2.2.1 i8_8)), (i4_4 + (rAt 402 u_1.2.2.2.2.2.2.2.2.2.2.2.2 i8_8)), i8_8, (i3_3 + (rAt 402 u_1.2.2.2.2.2.2.2.2.2.2.2.1 i8_8)), (i4_4 + (rAt 402 u_1.2.2.2.2.2.2.2.2.2.2.2.2 i8_8)), (i8_8 + 1)) := by rw [f_X3_bestQuotaFor_st, if_neg c_9, if_neg c_10, if_neg c_11]
            have hmu : ((400 : Int32).toInt + 1 - ((i8_8 + 1) : Int32).toInt).toNat < ((400 : Int32).toInt + 1 - (i8_8 : Int32).toInt).toNat := mu_le c_9 (by decide)
            exact ih0 (i3_3 + (rAt 402 u_1.2.2.2.2.2.2.2.2.2.2.2.1 i8_8)) (i4_4 + (rAt 402 u_1.2.2.2.2.2.2.2.2.2.2.2.2 i8_8)) i8_8 (i3_3 + (rAt 402 u_1.2.2.2.2.2.2.2.2.2.2.2.1 i8_8)) (i4_4 + (rAt 402 u_1.2.2.2.2.2.2.2.2.2.2.2.2 i8_8)) (i8_8 + 1) (Nat.lt_of_lt_of_le hmu (Nat.le_of_lt_succ hlt0)) (lp_inl hst hF0) _ (lv_sub hl [6, 7, 8, 5, 4, 3, 2, 1, 0] rfl)
  exact key (((400 : Int32).toInt + 1 - (1 : Int32).toInt).toNat + 1) 0 0 (-1) 0 1 1 (Nat.lt_succ_self _) rfl _ (lv_sub hl [6, 7, 8, 5, 4, 3, 2, 1, 0] rfl)
