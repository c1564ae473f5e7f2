theorem hd_X8_lays_S : yX8_lays.cls ≠ "java/lang/invoke/MethodHandle" ∧ yX8_lays.cls ≠ "java/lang/invoke/VarHandle" ∧ (parseMethodDescriptor yX8_lays.desc).map (fun d => d.parameters.length) = some 1 := by decide +kernel
theorem hd_X8_lays_V : yX8_lays.cls = RX8 ∧ yX8_lays.cls ≠ "java/lang/invoke/MethodHandle" ∧ yX8_lays.cls ≠ "java/lang/invoke/VarHandle" ∧ (parseMethodDescriptor yX8_lays.desc).map (fun d => d.parameters.length) = some 1 := ⟨rfl, hd_X8_lays_S⟩
def f_X8_lays_st (y7 : (Nat → Int32)) (x0 : Int32) (i2_1 : Int32) (w010_2 : (Nat → Int32)) : (Int32 × (Nat → Int32)) ⊕ (Int32 × (Nat → Int32)) := (if 256 ≤ i2_1 then (.inr (i2_1, w010_2)) else (if (i2_1 &&& ((f_X8_players y7) ^^^ (-1))) = 0 then (if (f_X8_why y7 i2_1 x0) = 0 then (.inl ((i2_1 + 1), (upd w010_2 i2_1.toNatClampNeg 1))) else (.inl ((i2_1 + 1), (upd w010_2 i2_1.toNatClampNeg 0)))) else (.inl ((i2_1 + 1), (upd w010_2 i2_1.toNatClampNeg 0)))))
def f_X8_lays (y7 : (Nat → Int32)) (y10 : (Nat → Int32)) (x0 : Int32) : Int32 × (Nat → Int32) := (my_t2 (lp (fun (x : Int32 × (Nat → Int32)) => f_X8_lays_st y7 x0 x.1 x.2) default (((256 : Int32).toInt - (0 : Int32).toInt).toNat + 1) (0, y10)) (fun (i2_1 : Int32) (w010_2 : (Nat → Int32)) => ((f_X8_players y7), w010_2)))
set_option maxHeartbeats 400000 in
set_option maxRecDepth 100000 in
theorem c_X8_lays (l : Launch) (D : va_G) (cy : Nat → ClassId) (g : Nat → Nat) (B : Nat) (a : Nat → Nat) (y0 : Int32) (y1 : Int32) (y2 : Int32) (y3 : Int32) (y4 : Int32) (y5 : Int32) (y6 : Int32) (y7 : (Nat → Int32)) (y8 : (Nat → Int32)) (y9 : (Nat → Int32)) (y10 : (Nat → Int32)) (y11 : (Nat → Int32)) (y12 : (Nat → Int32)) (y13 : (Nat → Int32)) (x0 : Int32) (hm8 : ¬ 8 < (y7 0)) (hR4 : ¬ 4 < (y7 2)) : Met l yX8_lays wsX8_lays ({ frames := 3, cells := 0, slots := 0, locals := 69 }) (muP D cy g B (wModE cy a y0 y1 y2 y3 y4 y5 y6 y7 y8 y9 y10 y11 y12 y13) [.ref (a 0), .int x0]) (va_Qv (fun (u : Int32 × (Nat → Int32)) => f_X8_lays y7 y10 x0 = u) (fun u t => va_P D vwCl (wModE cy a y0 y1 y2 y3 u.1 y5 y6 y7 y8 y9 u.2 y11 y12 y13) t.heap) (muA (wModE cy a y0 y1 y2 y3 y4 y5 y6 y7 y8 y9 y10 y11 y12 y13))) 0 0 (muA (wModE cy a y0 y1 y2 y3 y4 y5 y6 y7 y8 y9 y10 y11 y12 y13)) := by
  refine Met.ofW (cc := cX8_lays) (maxL := 3) (ret := none) (by decide) rfl ?_
  intro p e s m args below meth c s₁ BB hml hv
  obtain ⟨rfl, hP, hK0, hD0⟩ := hv
  have hx := BB.exec
  have hb := BB.bytes
  have hr := BB.returns
  have hts := atoms_spec (ws := wsX8_lays) BB.pre
  have hown : s.vm.findClass RX8 = some m.cls := findClass_of_methodNamed BB.named
  have hlocks := BB.notSynchronized
  have S := my_fix hx hb hml hown hts
  have inX8 : ∀ w ∈ wsX80, w ∈ wsX8_lays := fun w h => List.mem_cons_of_mem _ (List.mem_append_right _ h)
  have hAB := muB hD0
  have hD := muD hD0
  generalize hAe : muA (wModE cy a y0 y1 y2 y3 y4 y5 y6 y7 y8 y9 y10 y11 y12 y13) = A at hAB hD ⊢
  have hS : va_S A s.heap s.heap [] := va_S.rf
  have hl := lv_entry ([.ref (a 0), .int x0]) (n := 3) (Nat.le_of_ble_eq_true rfl)
  rw [lg_entry_eq]
  generalize (lg_sl ([.ref (a 0), .int x0]) ++ List.replicate (3 - (lg_sl ([.ref (a 0), .int x0])).length) Slot.unset).toArray = ls at hl ⊢
  have hl : lv_has ls 3 [(0, .ref (a 0)), (1, .int x0)] := hl
  refine lv_aload_n hx hb dX8_lays_0 rfl (lv_at hl 0 rfl) ?_
  refine lv_aload_n hx hb dX8_lays_1 rfl (lv_at hl 0 rfl) ?_
  refine rd_goi (va_runV (C := RX8) (As := []) (rest := [.ref (a 0)]) S (c_X8_players l D cy g B a y0 y1 y2 y3 y4 y5 y6 y7 y8 y9 y10 y11 y12 y13 hm8) (cwV 0 hts gX8_lays_X8_players rfl rfl rfl hd_X8_players_V ⟨Nat.le_of_ble_eq_true rfl, Nat.le_of_ble_eq_true rfl⟩) ⟨rdP_blind, va_recv hK0.1 hP (ci := 6) (q0 := 0) rfl rfl, my_preP hK0 hS hAB hP⟩ rfl rfl hl.1 rfl (lv_room (Nat.le_of_ble_eq_true rfl)) dX8_lays_2 ⟨Nat.zero_le _, Nat.zero_le _⟩) ?_
  refine va_put (D := D) (ci := 6) (v := .int (f_X8_players y7)) (ty := .int) (C := RX8) (T := TX8) (N := 14) hx hb hts inX8 tyX8 tyX8_ok nmX8 hown hK0.1 hP hD hS 0 rfl rfl 8 (by decide) (hts (.fieldLink RX8 71 "PivotChamberModel" "all" "I") (List.mem_of_getElem? (i := 1) rfl)) (fun _ h9 => h9) rfl (by decide +kernel) rfl rfl (Nat.le_of_ble_eq_true rfl) dX8_lays_5 (fun H locs hP hD hS => ?_)
  have hP : va_P D vwCl (wModE cy a y0 y1 y2 y3 (f_X8_players y7) y5 y6 y7 y8 y9 y10 y11 y12 y13) H := hP
  have hD : va_D A (wModE cy a y0 y1 y2 y3 (f_X8_players y7) y5 y6 y7 y8 y9 y10 y11 y12 y13) := hD
  refine lv_iconst (v := 0) hx hb dX8_lays_8 (by decide) ?_
  refine lv_istore_n (lv' := [(2, .int 0), (0, .ref (a 0)), (1, .int x0)]) hx hb dX8_lays_9 rfl hl (by decide) rfl (fun ls hl => ?_)
  have cont0 : ∀ (i2_1 : Int32) (w010_2 : (Nat → Int32)), lp (fun (x : Int32 × (Nat → Int32)) => f_X8_lays_st y7 x0 x.1 x.2) default (((256 : Int32).toInt - (0 : Int32).toInt).toNat + 1) (0, y10) = (i2_1, w010_2) → ¬ i2_1 < 0 → ∀ (H : Heap) (locs : List Loc), va_P D vwCl (wModE cy a y0 y1 y2 y3 (f_X8_players y7) y5 y6 y7 y8 y9 w010_2 y11 y12 y13) H → va_D A (wModE cy a y0 y1 y2 y3 (f_X8_players y7) y5 y6 y7 y8 y9 w010_2 y11 y12 y13) → va_S A s.heap H locs → ∀ ls : Array Slot, lv_has ls 3 [(0, .ref (a 0)), (1, .int x0), (2, .int i2_1)] → W p l e (headSpec wsX8_lays ({ frames := 3, cells := 0, slots := 0, locals := 69 } : Room)).room s m ([.ref (a 0), .int x0] : List Value).toArray below meth c H locs 0 0 (MQ below (va_Qv (fun (u : Int32 × (Nat → Int32)) => f_X8_lays y7 y10 x0 = u) (fun u t => va_P D vwCl (wModE cy a y0 y1 y2 y3 u.1 y5 y6 y7 y8 y9 u.2 y11 y12 y13) t.heap) A) ([.ref (a 0), .int x0] : List Value).toArray s 0 0 A) (F0 m 54 ls []) := by
    intro i2_1 w010_2 hE0 hj0_0 H locs hP hD hS ls hl
    have hP : va_P D vwCl (wModE cy a y0 y1 y2 y3 (f_X8_players y7) y5 y6 y7 y8 y9 w010_2 y11 y12 y13) H := hP
    have hD : va_D A (wModE cy a y0 y1 y2 y3 (f_X8_players y7) y5 y6 y7 y8 y9 w010_2 y11 y12 y13) := hD
    exact W.vret hx hb hr (fun t ht hW => ⟨⟨((f_X8_players y7), w010_2), rfl, (show f_X8_lays y7 y10 x0 = ((f_X8_players y7), w010_2) from by rw [f_X8_lays, hE0, my_t2_eq]), by show va_P D vwCl _ t.heap; rw [ht]; exact hP⟩, hS.F ht⟩) hS.2.2 dX8_lays_54
  have key : ∀ (nf : Nat) (i2_1 : Int32) (w010_2 : (Nat → Int32)), ((256 : Int32).toInt - (i2_1 : Int32).toInt).toNat < nf → lp (fun (x : Int32 × (Nat → Int32)) => f_X8_lays_st y7 x0 x.1 x.2) default nf (i2_1, w010_2) = lp (fun (x : Int32 × (Nat → Int32)) => f_X8_lays_st y7 x0 x.1 x.2) default (((256 : Int32).toInt - (0 : Int32).toInt).toNat + 1) (0, y10) → ¬ i2_1 < 0 → ∀ (H : Heap) (locs : List Loc), va_P D vwCl (wModE cy a y0 y1 y2 y3 (f_X8_players y7) y5 y6 y7 y8 y9 w010_2 y11 y12 y13) H → va_D A (wModE cy a y0 y1 y2 y3 (f_X8_players y7) y5 y6 y7 y8 y9 w010_2 y11 y12 y13) → va_S A s.heap H locs → ∀ ls : Array Slot, lv_has ls 3 [(0, .ref (a 0)), (1, .int x0), (2, .int i2_1)] → W p l e (headSpec wsX8_lays ({ frames := 3, cells := 0, slots := 0, locals := 69 } : Room)).room s m ([.ref (a 0), .int x0] : List Value).toArray below meth c H locs 0 0 (MQ below (va_Qv (fun (u : Int32 × (Nat → Int32)) => f_X8_lays y7 y10 x0 = u) (fun u t => va_P D vwCl (wModE cy a y0 y1 y2 y3 u.1 y5 y6 y7 y8 y9 u.2 y11 y12 y13) t.heap) A) ([.ref (a 0), .int x0] : List Value).toArray s 0 0 A) (F0 m 10 ls []) := by
    intro n0
    induction n0 with
    | zero => intro i2_1 w010_2 hlt; exact absurd hlt (Nat.not_lt_zero _)
    | succ n0 ih0 =>
      intro i2_1 w010_2 hlt0 hF0 hi0_0 H locs hP hD hS ls hl
      refine lv_iload_n hx hb dX8_lays_10 rfl (lv_at hl 2 rfl) ?_
      refine lv_sipush (v := 256) hx hb dX8_lays_11 (by decide) ?_
      refine lv_icmp_ge (tgt := 54) hx hb dX8_lays_14 (by decide) (fun c_3 => ?_) (fun c_3 => ?_)
      · have hst : f_X8_lays_st y7 x0 i2_1 w010_2 = .inr (i2_1, w010_2) := by rw [f_X8_lays_st, if_pos c_3]
        exact cont0 i2_1 w010_2 (lp_inr hst hF0) hi0_0 _ _ hP hD hS _ (lv_sub hl [0, 1, 2] rfl)
      · refine lv_aload_n hx hb dX8_lays_17 rfl (lv_at hl 0 rfl) ?_
        refine va_get (D := D) (ci := 6) (v := .ref (a 4)) (C := RX8) (T := TX8) (N := 14) hx hb hts inX8 hown hK0.1 hP 0 rfl rfl 7 (by decide) (hts (.fieldLink RX8 19 "PivotChamberModel" "win" "[Z") (List.mem_of_getElem? (i := 2) rfl)) (fun _ h9 => h9) rfl dX8_lays_18 ?_
        refine lv_iload_n hx hb dX8_lays_21 rfl (lv_at hl 2 rfl) ?_
        refine lv_iload_n hx hb dX8_lays_22 rfl (lv_at hl 2 rfl) ?_
        refine lv_aload_n hx hb dX8_lays_23 rfl (lv_at hl 0 rfl) ?_
        refine va_get (D := D) (ci := 6) (v := .int (f_X8_players y7)) (C := RX8) (T := TX8) (N := 14) hx hb hts inX8 hown hK0.1 hP 0 rfl rfl 8 (by decide) (hts (.fieldLink RX8 71 "PivotChamberModel" "all" "I") (List.mem_of_getElem? (i := 1) rfl)) (fun _ h9 => h9) rfl dX8_lays_24 ?_
        refine lv_iconst (v := (-1)) hx hb dX8_lays_27 (by decide) ?_
        refine lv_ixor hx hb dX8_lays_28 ?_
        refine lv_iand hx hb dX8_lays_29 ?_
        refine lv_if_ne (tgt := 46) hx hb dX8_lays_30 (by decide) (fun c_4 => ?_) (fun c_4 => ?_)
        · refine lv_iconst (v := 0) hx hb dX8_lays_46 (by decide) ?_
          refine va_zast hx hb hK0.1 hP hD hS 4 1 rfl rfl (ix_self (K := 256) (N := 256) hi0_0 c_3 (by decide) (by decide)) dX8_lays_47 (fun H locs hP hD hS => ?_)
          have hP : va_P D vwCl (wModE cy a y0 y1 y2 y3 (f_X8_players y7) y5 y6 y7 y8 y9 (upd w010_2 i2_1.toNatClampNeg 0) y11 y12 y13) H := hP
          have hD : va_D A (wModE cy a y0 y1 y2 y3 (f_X8_players y7) y5 y6 y7 y8 y9 (upd w010_2 i2_1.toNatClampNeg 0) y11 y12 y13) := hD
          refine lv_iinc (v := (i2_1 + 1)) (lv' := [(2, .int (i2_1 + 1)), (0, .ref (a 0)), (1, .int x0)]) hx hb dX8_lays_48 hl (k := 2) rfl rfl (by decide) rfl (fun ls hl => ?_)
          refine lv_goto (tgt := 10) hx hb dX8_lays_51 (by decide) ?_
          have hst : f_X8_lays_st y7 x0 i2_1 w010_2 = .inl ((i2_1 + 1), (upd w010_2 i2_1.toNatClampNeg 0)) := by rw [f_X8_lays_st, if_neg c_3, if_neg c_4]
          have hmu : ((256 : Int32).toInt - ((i2_1 + 1) : Int32).toInt).toNat < ((256 : Int32).toInt - (i2_1 : Int32).toInt).toNat := mu_up c_3
          exact ih0 (i2_1 + 1) (upd w010_2 i2_1.toNatClampNeg 0) (Nat.lt_of_lt_of_le hmu (Nat.le_of_lt_succ hlt0)) (lp_inl hst hF0) (nn_up hi0_0 c_3) _ _ hP hD hS _ (lv_sub hl [1, 2, 0] rfl)
        · refine lv_aload_n hx hb dX8_lays_33 rfl (lv_at hl 0 rfl) ?_
          refine lv_iload_n hx hb dX8_lays_34 rfl (lv_at hl 2 rfl) ?_
          refine lv_iload_n hx hb dX8_lays_35 rfl (lv_at hl 1 rfl) ?_
          refine rd_goi (va_runV (C := RX8) (As := [.int i2_1, .int x0]) (rest := [.int i2_1, .ref (a 4)]) S (c_X8_why l D cy g B a y0 y1 y2 y3 (f_X8_players y7) y5 y6 y7 y8 y9 w010_2 y11 y12 y13 i2_1 x0 hm8 hR4) (cwV 2 hts gX8_lays_X8_why rfl rfl rfl hd_X8_why_V ⟨Nat.le_of_ble_eq_true rfl, Nat.le_of_ble_eq_true rfl⟩) ⟨rdP_blind, va_recv hK0.1 hP (ci := 6) (q0 := 0) rfl rfl, my_preP hK0 hS hAB hP⟩ rfl rfl hl.1 rfl (lv_room (Nat.le_of_ble_eq_true rfl)) dX8_lays_36 ⟨Nat.zero_le _, Nat.zero_le _⟩) ?_
          refine lv_if_ne (tgt := 46) hx hb dX8_lays_39 (by decide) (fun c_5 => ?_) (fun c_5 => ?_)
          · refine lv_iconst (v := 0) hx hb dX8_lays_46 (by decide) ?_
            refine va_zast hx hb hK0.1 hP hD hS 4 1 rfl rfl (ix_self (K := 256) (N := 256) hi0_0 c_3 (by decide) (by decide)) dX8_lays_47 (fun H locs hP hD hS => ?_)
            have hP : va_P D vwCl (wModE cy a y0 y1 y2 y3 (f_X8_players y7) y5 y6 y7 y8 y9 (upd w010_2 i2_1.toNatClampNeg 0) y11 y12 y13) H := hP
            have hD : va_D A (wModE cy a y0 y1 y2 y3 (f_X8_players y7) y5 y6 y7 y8 y9 (upd w010_2 i2_1.toNatClampNeg 0) y11 y12 y13) := hD
            refine lv_iinc (v := (i2_1 + 1)) (lv' := [(2, .int (i2_1 + 1)), (0, .ref (a 0)), (1, .int x0)]) hx hb dX8_lays_48 hl (k := 2) rfl rfl (by decide) rfl (fun ls hl => ?_)
            refine lv_goto (tgt := 10) hx hb dX8_lays_51 (by decide) ?_
            have hst : f_X8_lays_st y7 x0 i2_1 w010_2 = .inl ((i2_1 + 1), (upd w010_2 i2_1.toNatClampNeg 0)) := by rw [f_X8_lays_st, if_neg c_3, if_pos c_4, if_neg c_5]
            have hmu : ((256 : Int32).toInt - ((i2_1 + 1) : Int32).toInt).toNat < ((256 : Int32).toInt - (i2_1 : Int32).toInt).toNat := mu_up c_3
            exact ih0 (i2_1 + 1) (upd w010_2 i2_1.toNatClampNeg 0) (Nat.lt_of_lt_of_le hmu (Nat.le_of_lt_succ hlt0)) (lp_inl hst hF0) (nn_up hi0_0 c_3) _ _ hP hD hS _ (lv_sub hl [1, 2, 0] rfl)
          · refine lv_iconst (v := 1) hx hb dX8_lays_42 (by decide) ?_
            refine lv_goto (tgt := 47) hx hb dX8_lays_43 (by decide) ?_
            refine va_zast hx hb hK0.1 hP hD hS 4 1 rfl rfl (ix_self (K := 256) (N := 256) hi0_0 c_3 (by decide) (by decide)) dX8_lays_47 (fun H locs hP hD hS => ?_)
            have hP : va_P D vwCl (wModE cy a y0 y1 y2 y3 (f_X8_players y7) y5 y6 y7 y8 y9 (upd w010_2 i2_1.toNatClampNeg 1) y11 y12 y13) H := hP
            have hD : va_D A (wModE cy a y0 y1 y2 y3 (f_X8_players y7) y5 y6 y7 y8 y9 (upd w010_2 i2_1.toNatClampNeg 1) y11 y12 y13) := hD
            refine lv_iinc (v := (i2_1 + 1)) (lv' := [(2, .int (i2_1 + 1)), (0, .ref (a 0)), (1, .int x0)]) hx hb dX8_lays_48 hl (k := 2) rfl rfl (by decide) rfl (fun ls hl => ?_)
            refine lv_goto (tgt := 10) hx hb dX8_lays_51 (by decide) ?_
            have hst : f_X8_lays_st y7 x0 i2_1 w010_2 = .inl ((i2_1 + 1), (upd w010_2 i2_1.toNatClampNeg 1)) := by rw [f_X8_lays_st, if_neg c_3, if_pos c_4, if_pos c_5]
            have hmu : ((256 : Int32).toInt - ((i2_1 + 1) : Int32).toInt).toNat < ((256 : Int32).toInt - (i2_1 : Int32).toInt).toNat := mu_up c_3
            exact ih0 (i2_1 + 1) (upd w010_2 i2_1.toNatClampNeg 1) (Nat.lt_of_lt_of_le hmu (Nat.le_of_lt_succ hlt0)) (lp_inl hst hF0) (nn_up hi0_0 c_3) _ _ hP hD hS _ (lv_sub hl [1, 2, 0] rfl)
  exact key (((256 : Int32).toInt - (0 : Int32).toInt).toNat + 1) 0 y10 (Nat.lt_succ_self _) rfl (by decide) _ _ hP hD hS _ (lv_sub hl [1, 2, 0] rfl)
theorem lays_0 {s w : Nat → Int32} {q : Int32} {u : Int32 × (Nat → Int32)} (hm : ¬ 8 < s 0) (h : f_X8_lays s w q = u) : ¬ u.1 < 0 := by
  subst h; exact ply_0 hm
theorem lays_256 {s w : Nat → Int32} {q : Int32} {u : Int32 × (Nat → Int32)} (hm : ¬ 8 < s 0) (h : f_X8_lays s w q = u) : ¬ 256 ≤ u.1 := by
  subst h; exact ply_256 hm
theorem lays_bool {s w : Nat → Int32} {q : Int32} {u : Int32 × (Nat → Int32)} (hw : ∀ j : Nat, w j = 0 ∨ w j = 1) (h : f_X8_lays s w q = u) : ∀ j : Nat, u.2 j = 0 ∨ u.2 j = 1 := by
  subst h
  unfold f_X8_lays
  show ∀ j, (lp (ρ := Int32 × (Nat → Int32)) _ _ _ _).2 j = 0 ∨ (lp (ρ := Int32 × (Nat → Int32)) _ _ _ _).2 j = 1
  refine lp_inv (I := fun x : Int32 × (Nat → Int32) => ∀ j : Nat, x.2 j = 0 ∨ x.2 j = 1) (Q := fun x : Int32 × (Nat → Int32) => ∀ j : Nat, x.2 j = 0 ∨ x.2 j = 1) (fun j => Or.inl rfl) ?_ _ _ hw
  intro x hx
  unfold f_X8_lays_st
  have hu : ∀ (k : Nat) (v : Int32), (v = 0 ∨ v = 1) → ∀ j : Nat, upd x.2 k v j = 0 ∨ upd x.2 k v j = 1 := by
    intro k v hv j
    simp only [upd]
    split
    · exact hv
    · exact hx j
  split
  · exact hx
  · split
    · split
      · exact hu _ _ (by decide)
      · exact hu _ _ (by decide)
    · exact hu _ _ (by decide)
