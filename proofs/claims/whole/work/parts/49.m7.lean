theorem sv_a {p : Int32} (h : p = 4) : ¬ (p - 1) < 0 := by subst h; decide
theorem sv_b {p : Int32} (h : p = 4) : ¬ 3 < (p - 1) := by subst h; decide
theorem sv_c {p : Int32} (h : ¬ 4 < p) (h4 : ¬ p = 4) : ¬ 3 < p := by
  intro h3
  have e3 : (3 : Int32).toInt = 3 := by decide
  have e4 : (4 : Int32).toInt = 4 := by decide
  have a := Int32.lt_iff_toInt_lt.mp h3
  have b : ¬ (4 : Int32).toInt < p.toInt := fun z => h (Int32.lt_iff_toInt_lt.mpr z)
  exact h4 (Int32.toInt_inj.mp (by omega))
theorem lt_of_ne {b K : Int32} (h : ¬ K < b) (hn : ¬ b = K) : b < K := by
  rcases Int32.lt_or_le b K with h1 | h1
  · exact h1
  · rcases Int32.lt_or_eq_of_le h1 with h2 | h2
    · exact absurd h2 h
    · exact absurd h2.symm hn
theorem dr_3 {b x : Int32} (h : ¬ 4 < b) (h0 : ¬ x < 0) (hx : x < b) : ¬ 3 < b - 1 := by
  intro h3
  have e3 : (3 : Int32).toInt = 3 := by decide
  have e4 : (4 : Int32).toInt = 4 := by decide
  have e1 : (1 : Int32).toInt = 1 := by decide
  have a := Int32.lt_iff_toInt_lt.mp h3
  have b4 : ¬ (4 : Int32).toInt < b.toInt := fun z => h (Int32.lt_iff_toInt_lt.mpr z)
  have c0 := nn_toInt h0
  have d := Int32.lt_iff_toInt_lt.mp hx
  have e : (b - 1).toInt = b.toInt - 1 := by
    rw [Int32.toInt_sub, e1]
    show Int.bmod _ 4294967296 = _
    rw [Int.bmod_eq_of_le (by omega) (by omega)]
  omega
theorem hd_X8_saves_S : yX8_saves.cls ≠ "java/lang/invoke/MethodHandle" ∧ yX8_saves.cls ≠ "java/lang/invoke/VarHandle" ∧ (parseMethodDescriptor yX8_saves.desc).map (fun d => d.parameters.length) = some 0 := by decide +kernel
theorem hd_X8_saves_V : yX8_saves.cls = RX8 ∧ yX8_saves.cls ≠ "java/lang/invoke/MethodHandle" ∧ yX8_saves.cls ≠ "java/lang/invoke/VarHandle" ∧ (parseMethodDescriptor yX8_saves.desc).map (fun d => d.parameters.length) = some 0 := ⟨rfl, hd_X8_saves_S⟩
def f_X8_saves_st (y0 : Int32) (y7 : (Nat → Int32)) (i1_3 : Int32) (w08_4 : (Nat → Int32)) : (Int32 × (Nat → Int32)) ⊕ (Int32 × (Nat → Int32)) := (if 27 ≤ i1_3 then (.inr (i1_3, w08_4)) else (.inl ((i1_3 + 1), (upd w08_4 ((27 * y0) + i1_3).toNatClampNeg (y7 i1_3.toNatClampNeg)))))
def f_X8_saves_st2 (y0 : Int32) (y7 : (Nat → Int32)) (i1_8 : Int32) (w08_9 : (Nat → Int32)) : (Int32 × (Nat → Int32)) ⊕ (Int32 × (Nat → Int32)) := (if 27 ≤ i1_8 then (.inr (i1_8, w08_9)) else (.inl ((i1_8 + 1), (upd w08_9 ((27 * (y0 - 1)) + i1_8).toNatClampNeg (y7 i1_8.toNatClampNeg)))))
def f_X8_saves_st1  (i1_6 : Int32) (w08_7 : (Nat → Int32)) : (Int32 × (Nat → Int32)) ⊕ (Int32 × (Nat → Int32)) := (if 81 ≤ i1_6 then (.inr (i1_6, w08_7)) else (.inl ((i1_6 + 1), (upd w08_7 i1_6.toNatClampNeg (w08_7 (i1_6 + 27).toNatClampNeg)))))
def f_X8_saves (y0 : Int32) (y1 : Int32) (y7 : (Nat → Int32)) (y8 : (Nat → Int32)) : Int32 × (Nat → Int32) := (if y1 = 0 then (if y0 = 4 then (my_t2 (lp (fun (x : Int32 × (Nat → Int32)) => f_X8_saves_st1 x.1 x.2) default (((81 : Int32).toInt - (0 : Int32).toInt).toNat + 1) (0, y8)) (fun (i1_6 : Int32) (w08_7 : (Nat → Int32)) => (my_t2 (lp (fun (x : Int32 × (Nat → Int32)) => f_X8_saves_st2 y0 y7 x.1 x.2) default (((27 : Int32).toInt - (0 : Int32).toInt).toNat + 1) (0, w08_7)) (fun (i1_8 : Int32) (w08_9 : (Nat → Int32)) => (((y0 - 1) + 1), w08_9))))) else (my_t2 (lp (fun (x : Int32 × (Nat → Int32)) => f_X8_saves_st y0 y7 x.1 x.2) default (((27 : Int32).toInt - (0 : Int32).toInt).toNat + 1) (0, y8)) (fun (i1_3 : Int32) (w08_4 : (Nat → Int32)) => ((y0 + 1), w08_4)))) else (y0, y8))
set_option maxHeartbeats 400000 in
set_option maxRecDepth 100000 in
theorem c_X8_saves (l : Launch) (D : va_G) (cy : Nat → ClassId) (g : Nat → Nat) (B : Nat) (a : Nat → Nat) (y0 : Int32) (y1 : Int32) (y2 : Int32) (y3 : Int32) (y4 : Int32) (y5 : Int32) (y6 : Int32) (y7 : (Nat → Int32)) (y8 : (Nat → Int32)) (y9 : (Nat → Int32)) (y10 : (Nat → Int32)) (y11 : (Nat → Int32)) (y12 : (Nat → Int32)) (y13 : (Nat → Int32)) (hpa0 : ¬ y0 < 0) (hpa4 : ¬ 4 < y0) : Met l yX8_saves wsX8_saves ({ frames := 0, cells := 0, slots := 0, locals := 0 }) (muP D cy g B (wModE cy a y0 y1 y2 y3 y4 y5 y6 y7 y8 y9 y10 y11 y12 y13) [.ref (a 0)]) (va_Qv (fun (u : Int32 × (Nat → Int32)) => f_X8_saves y0 y1 y7 y8 = u) (fun u t => va_P D vwCl (wModE cy a u.1 y1 y2 y3 y4 y5 y6 y7 u.2 y9 y10 y11 y12 y13) t.heap) (muA (wModE cy a y0 y1 y2 y3 y4 y5 y6 y7 y8 y9 y10 y11 y12 y13))) 0 0 (muA (wModE cy a y0 y1 y2 y3 y4 y5 y6 y7 y8 y9 y10 y11 y12 y13)) := by
  refine Met.ofW (cc := cX8_saves) (maxL := 2) (ret := none) (by decide) rfl ?_
  intro p e s m args below meth c s₁ BB hml hv
  obtain ⟨rfl, hP, hK0, hD0⟩ := hv
  have hx := BB.exec
  have hb := BB.bytes
  have hr := BB.returns
  have hts := atoms_spec (ws := wsX8_saves) BB.pre
  have hown : s.vm.findClass RX8 = some m.cls := findClass_of_methodNamed BB.named
  have hlocks := BB.notSynchronized
  have S := my_fix hx hb hml hown hts
  have inX8 : ∀ w ∈ wsX80, w ∈ wsX8_saves := fun w h => List.mem_cons_of_mem _ (List.mem_append_right _ h)
  have hAB := muB hD0
  have hD := muD hD0
  generalize hAe : muA (wModE cy a y0 y1 y2 y3 y4 y5 y6 y7 y8 y9 y10 y11 y12 y13) = A at hAB hD ⊢
  have hS : va_S A s.heap s.heap [] := va_S.rf
  have hl := lv_entry ([.ref (a 0)]) (n := 2) (Nat.le_of_ble_eq_true rfl)
  rw [lg_entry_eq]
  generalize (lg_sl ([.ref (a 0)]) ++ List.replicate (2 - (lg_sl ([.ref (a 0)])).length) Slot.unset).toArray = ls at hl ⊢
  have hl : lv_has ls 2 [(0, .ref (a 0))] := hl
  refine lv_aload_n hx hb dX8_saves_0 rfl (lv_at hl 0 rfl) ?_
  refine va_get (D := D) (ci := 6) (v := .int y1) (C := RX8) (T := TX8) (N := 14) hx hb hts inX8 hown hK0.1 hP 0 rfl rfl 3 (by decide) (hts (.fieldLink RX8 36 "PivotChamberModel" "runs" "Z") (List.mem_of_getElem? (i := 1) rfl)) (fun _ h9 => h9) rfl dX8_saves_1 ?_
  refine lv_if_eq (tgt := 8) hx hb dX8_saves_4 (by decide) (fun c_1 => ?_) (fun c_1 => ?_)
  · refine lv_aload_n hx hb dX8_saves_8 rfl (lv_at hl 0 rfl) ?_
    refine va_get (D := D) (ci := 6) (v := .int y0) (C := RX8) (T := TX8) (N := 14) hx hb hts inX8 hown hK0.1 hP 0 rfl rfl 2 (by decide) (hts (.fieldLink RX8 40 "PivotChamberModel" "pasts" "I") (List.mem_of_getElem? (i := 2) rfl)) (fun _ h9 => h9) rfl dX8_saves_9 ?_
    refine lv_iconst (v := 4) hx hb dX8_saves_12 (by decide) ?_
    refine lv_icmp_ne (tgt := 55) hx hb dX8_saves_13 (by decide) (fun c_2 => ?_) (fun c_2 => ?_)
    · refine lv_iconst (v := 0) hx hb dX8_saves_55 (by decide) ?_
      refine lv_istore_n (lv' := [(1, .int 0), (0, .ref (a 0))]) hx hb dX8_saves_56 rfl hl (by decide) rfl (fun ls hl => ?_)
      have cont0 : ∀ (i1_3 : Int32) (w08_4 : (Nat → Int32)), lp (fun (x : Int32 × (Nat → Int32)) => f_X8_saves_st y0 y7 x.1 x.2) default (((27 : Int32).toInt - (0 : Int32).toInt).toNat + 1) (0, y8) = (i1_3, w08_4) → ¬ i1_3 < 0 → ∀ (H : Heap) (locs : List Loc), va_P D vwCl (wModE cy a y0 y1 y2 y3 y4 y5 y6 y7 w08_4 y9 y10 y11 y12 y13) H → va_D A (wModE cy a y0 y1 y2 y3 y4 y5 y6 y7 w08_4 y9 y10 y11 y12 y13) → va_S A s.heap H locs → ∀ ls : Array Slot, lv_has ls 2 [(0, .ref (a 0)), (1, .int i1_3)] → W p l e (headSpec wsX8_saves ({ frames := 0, cells := 0, slots := 0, locals := 0 } : Room)).room s m ([.ref (a 0)] : List Value).toArray below meth c H locs 0 0 (MQ below (va_Qv (fun (u : Int32 × (Nat → Int32)) => f_X8_saves y0 y1 y7 y8 = u) (fun u t => va_P D vwCl (wModE cy a u.1 y1 y2 y3 y4 y5 y6 y7 u.2 y9 y10 y11 y12 y13) t.heap) A) ([.ref (a 0)] : List Value).toArray s 0 0 A) (F0 m 89 ls []) := by
        intro i1_3 w08_4 hE0 hj0_0 H locs hP hD hS ls hl
        refine lv_aload_n hx hb dX8_saves_89 rfl (lv_at hl 0 rfl) ?_
        refine lv_dup hx hb dX8_saves_90 rfl ?_
        refine va_get (D := D) (ci := 6) (v := .int y0) (C := RX8) (T := TX8) (N := 14) hx hb hts inX8 hown hK0.1 hP 0 rfl rfl 2 (by decide) (hts (.fieldLink RX8 40 "PivotChamberModel" "pasts" "I") (List.mem_of_getElem? (i := 2) rfl)) (fun _ h9 => h9) rfl dX8_saves_91 ?_
        refine lv_iconst (v := 1) hx hb dX8_saves_94 (by decide) ?_
        refine lv_iadd hx hb dX8_saves_95 ?_
        refine va_put (D := D) (ci := 6) (v := .int (y0 + 1)) (ty := .int) (C := RX8) (T := TX8) (N := 14) hx hb hts inX8 tyX8 tyX8_ok nmX8 hown hK0.1 hP hD hS 0 rfl rfl 2 (by decide) (hts (.fieldLink RX8 40 "PivotChamberModel" "pasts" "I") (List.mem_of_getElem? (i := 2) rfl)) (fun _ h9 => h9) rfl (by decide +kernel) rfl rfl (Nat.le_of_ble_eq_true rfl) dX8_saves_96 (fun H locs hP hD hS => ?_)
        have hP : va_P D vwCl (wModE cy a (y0 + 1) y1 y2 y3 y4 y5 y6 y7 w08_4 y9 y10 y11 y12 y13) H := hP
        have hD : va_D A (wModE cy a (y0 + 1) y1 y2 y3 y4 y5 y6 y7 w08_4 y9 y10 y11 y12 y13) := hD
        have hP : va_P D vwCl (wModE cy a (y0 + 1) y1 y2 y3 y4 y5 y6 y7 w08_4 y9 y10 y11 y12 y13) H := hP
        have hD : va_D A (wModE cy a (y0 + 1) y1 y2 y3 y4 y5 y6 y7 w08_4 y9 y10 y11 y12 y13) := hD
        exact W.vret hx hb hr (fun t ht hW => ⟨⟨((y0 + 1), w08_4), rfl, (show f_X8_saves y0 y1 y7 y8 = ((y0 + 1), w08_4) from by rw [f_X8_saves, if_pos c_1, if_neg c_2, hE0, my_t2_eq]), by show va_P D vwCl _ t.heap; rw [ht]; exact hP⟩, hS.F ht⟩) hS.2.2 dX8_saves_99
      have key : ∀ (nf : Nat) (i1_3 : Int32) (w08_4 : (Nat → Int32)), ((27 : Int32).toInt - (i1_3 : Int32).toInt).toNat < nf → lp (fun (x : Int32 × (Nat → Int32)) => f_X8_saves_st y0 y7 x.1 x.2) default nf (i1_3, w08_4) = lp (fun (x : Int32 × (Nat → Int32)) => f_X8_saves_st y0 y7 x.1 x.2) default (((27 : Int32).toInt - (0 : Int32).toInt).toNat + 1) (0, y8) → ¬ i1_3 < 0 → ∀ (H : Heap) (locs : List Loc), va_P D vwCl (wModE cy a y0 y1 y2 y3 y4 y5 y6 y7 w08_4 y9 y10 y11 y12 y13) H → va_D A (wModE cy a y0 y1 y2 y3 y4 y5 y6 y7 w08_4 y9 y10 y11 y12 y13) → va_S A s.heap H locs → ∀ ls : Array Slot, lv_has ls 2 [(0, .ref (a 0)), (1, .int i1_3)] → W p l e (headSpec wsX8_saves ({ frames := 0, cells := 0, slots := 0, locals := 0 } : Room)).room s m ([.ref (a 0)] : List Value).toArray below meth c H locs 0 0 (MQ below (va_Qv (fun (u : Int32 × (Nat → Int32)) => f_X8_saves y0 y1 y7 y8 = u) (fun u t => va_P D vwCl (wModE cy a u.1 y1 y2 y3 y4 y5 y6 y7 u.2 y9 y10 y11 y12 y13) t.heap) A) ([.ref (a 0)] : List Value).toArray s 0 0 A) (F0 m 57 ls []) := by
        intro n0
        induction n0 with
        | zero => intro i1_3 w08_4 hlt; exact absurd hlt (Nat.not_lt_zero _)
        | succ n0 ih0 =>
          intro i1_3 w08_4 hlt0 hF0 hi0_0 H locs hP hD hS ls hl
          refine lv_iload_n hx hb dX8_saves_57 rfl (lv_at hl 1 rfl) ?_
          refine lv_bipush (v := 27) hx hb dX8_saves_58 (by decide) ?_
          refine lv_icmp_ge (tgt := 89) hx hb dX8_saves_60 (by decide) (fun c_5 => ?_) (fun c_5 => ?_)
          · have hst : f_X8_saves_st y0 y7 i1_3 w08_4 = .inr (i1_3, w08_4) := by rw [f_X8_saves_st, if_pos c_5]
            exact cont0 i1_3 w08_4 (lp_inr hst hF0) hi0_0 _ _ hP hD hS _ (lv_sub hl [0, 1] rfl)
          · refine lv_aload_n hx hb dX8_saves_63 rfl (lv_at hl 0 rfl) ?_
            refine va_get (D := D) (ci := 6) (v := .ref (a 2)) (C := RX8) (T := TX8) (N := 14) hx hb hts inX8 hown hK0.1 hP 0 rfl rfl 1 (by decide) (hts (.fieldLink RX8 13 "PivotChamberModel" "past" "[I") (List.mem_of_getElem? (i := 3) rfl)) (fun _ h9 => h9) rfl dX8_saves_64 ?_
            refine lv_bipush (v := 27) hx hb dX8_saves_67 (by decide) ?_
            refine lv_aload_n hx hb dX8_saves_69 rfl (lv_at hl 0 rfl) ?_
            refine va_get (D := D) (ci := 6) (v := .int y0) (C := RX8) (T := TX8) (N := 14) hx hb hts inX8 hown hK0.1 hP 0 rfl rfl 2 (by decide) (hts (.fieldLink RX8 40 "PivotChamberModel" "pasts" "I") (List.mem_of_getElem? (i := 2) rfl)) (fun _ h9 => h9) rfl dX8_saves_70 ?_
            refine lv_imul hx hb dX8_saves_73 ?_
            refine lv_iload_n hx hb dX8_saves_74 rfl (lv_at hl 1 rfl) ?_
            refine lv_iadd hx hb dX8_saves_75 ?_
            refine lv_aload_n hx hb dX8_saves_76 rfl (lv_at hl 0 rfl) ?_
            refine va_get (D := D) (ci := 6) (v := .ref (a 1)) (C := RX8) (T := TX8) (N := 14) hx hb hts inX8 hown hK0.1 hP 0 rfl rfl 0 (by decide) (hts (.fieldLink RX8 7 "PivotChamberModel" "s" "[I") (List.mem_of_getElem? (i := 4) rfl)) (fun _ h9 => h9) rfl dX8_saves_77 ?_
            refine lv_iload_n hx hb dX8_saves_80 rfl (lv_at hl 1 rfl) ?_
            refine va_iald hx hb hK0.1 hP 1 0 rfl rfl (ix_self (K := 27) (N := 27) hi0_0 c_5 (by decide) (by decide)) dX8_saves_81 ?_
            refine va_iast hx hb hK0.1 hP hD hS 2 0 rfl rfl (ix_27 hpa0 (sv_c hpa4 c_2) hi0_0 c_5) dX8_saves_82 (fun H locs hP hD hS => ?_)
            have hP : va_P D vwCl (wModE cy a y0 y1 y2 y3 y4 y5 y6 y7 (upd w08_4 ((27 * y0) + i1_3).toNatClampNeg (y7 i1_3.toNatClampNeg)) y9 y10 y11 y12 y13) H := hP
            have hD : va_D A (wModE cy a y0 y1 y2 y3 y4 y5 y6 y7 (upd w08_4 ((27 * y0) + i1_3).toNatClampNeg (y7 i1_3.toNatClampNeg)) y9 y10 y11 y12 y13) := hD
            refine lv_iinc (v := (i1_3 + 1)) (lv' := [(1, .int (i1_3 + 1)), (0, .ref (a 0))]) hx hb dX8_saves_83 hl (k := 1) rfl rfl (by decide) rfl (fun ls hl => ?_)
            refine lv_goto (tgt := 57) hx hb dX8_saves_86 (by decide) ?_
            have hst : f_X8_saves_st y0 y7 i1_3 w08_4 = .inl ((i1_3 + 1), (upd w08_4 ((27 * y0) + i1_3).toNatClampNeg (y7 i1_3.toNatClampNeg))) := by rw [f_X8_saves_st, if_neg c_5]
            have hmu : ((27 : Int32).toInt - ((i1_3 + 1) : Int32).toInt).toNat < ((27 : Int32).toInt - (i1_3 : Int32).toInt).toNat := mu_up c_5
            exact ih0 (i1_3 + 1) (upd w08_4 ((27 * y0) + i1_3).toNatClampNeg (y7 i1_3.toNatClampNeg)) (Nat.lt_of_lt_of_le hmu (Nat.le_of_lt_succ hlt0)) (lp_inl hst hF0) (nn_up hi0_0 c_5) _ _ hP hD hS _ (lv_sub hl [1, 0] rfl)
      exact key (((27 : Int32).toInt - (0 : Int32).toInt).toNat + 1) 0 y8 (Nat.lt_succ_self _) rfl (by decide) _ _ hP hD hS _ (lv_sub hl [1, 0] rfl)
    · refine lv_iconst (v := 0) hx hb dX8_saves_16 (by decide) ?_
      refine lv_istore_n (lv' := [(1, .int 0), (0, .ref (a 0))]) hx hb dX8_saves_17 rfl hl (by decide) rfl (fun ls hl => ?_)
      have cont1 : ∀ (i1_6 : Int32) (w08_7 : (Nat → Int32)), lp (fun (x : Int32 × (Nat → Int32)) => f_X8_saves_st1 x.1 x.2) default (((81 : Int32).toInt - (0 : Int32).toInt).toNat + 1) (0, y8) = (i1_6, w08_7) → ¬ i1_6 < 0 → ∀ (H : Heap) (locs : List Loc), va_P D vwCl (wModE cy a y0 y1 y2 y3 y4 y5 y6 y7 w08_7 y9 y10 y11 y12 y13) H → va_D A (wModE cy a y0 y1 y2 y3 y4 y5 y6 y7 w08_7 y9 y10 y11 y12 y13) → va_S A s.heap H locs → ∀ ls : Array Slot, lv_has ls 2 [(0, .ref (a 0)), (1, .int i1_6)] → W p l e (headSpec wsX8_saves ({ frames := 0, cells := 0, slots := 0, locals := 0 } : Room)).room s m ([.ref (a 0)] : List Value).toArray below meth c H locs 0 0 (MQ below (va_Qv (fun (u : Int32 × (Nat → Int32)) => f_X8_saves y0 y1 y7 y8 = u) (fun u t => va_P D vwCl (wModE cy a u.1 y1 y2 y3 y4 y5 y6 y7 u.2 y9 y10 y11 y12 y13) t.heap) A) ([.ref (a 0)] : List Value).toArray s 0 0 A) (F0 m 45 ls []) := by
        intro i1_6 w08_7 hE1 hj1_0 H locs hP hD hS ls hl
        refine lv_aload_n hx hb dX8_saves_45 rfl (lv_at hl 0 rfl) ?_
        refine lv_dup hx hb dX8_saves_46 rfl ?_
        refine va_get (D := D) (ci := 6) (v := .int y0) (C := RX8) (T := TX8) (N := 14) hx hb hts inX8 hown hK0.1 hP 0 rfl rfl 2 (by decide) (hts (.fieldLink RX8 40 "PivotChamberModel" "pasts" "I") (List.mem_of_getElem? (i := 2) rfl)) (fun _ h9 => h9) rfl dX8_saves_47 ?_
        refine lv_iconst (v := 1) hx hb dX8_saves_50 (by decide) ?_
        refine lv_isub hx hb dX8_saves_51 ?_
        refine va_put (D := D) (ci := 6) (v := .int (y0 - 1)) (ty := .int) (C := RX8) (T := TX8) (N := 14) hx hb hts inX8 tyX8 tyX8_ok nmX8 hown hK0.1 hP hD hS 0 rfl rfl 2 (by decide) (hts (.fieldLink RX8 40 "PivotChamberModel" "pasts" "I") (List.mem_of_getElem? (i := 2) rfl)) (fun _ h9 => h9) rfl (by decide +kernel) rfl rfl (Nat.le_of_ble_eq_true rfl) dX8_saves_52 (fun H locs hP hD hS => ?_)
        have hP : va_P D vwCl (wModE cy a (y0 - 1) y1 y2 y3 y4 y5 y6 y7 w08_7 y9 y10 y11 y12 y13) H := hP
        have hD : va_D A (wModE cy a (y0 - 1) y1 y2 y3 y4 y5 y6 y7 w08_7 y9 y10 y11 y12 y13) := hD
        refine lv_iconst (v := 0) hx hb dX8_saves_55 (by decide) ?_
        refine lv_istore_n (lv' := [(1, .int 0), (0, .ref (a 0))]) hx hb dX8_saves_56 rfl hl (by decide) rfl (fun ls hl => ?_)
        have cont2 : ∀ (i1_8 : Int32) (w08_9 : (Nat → Int32)), lp (fun (x : Int32 × (Nat → Int32)) => f_X8_saves_st2 y0 y7 x.1 x.2) default (((27 : Int32).toInt - (0 : Int32).toInt).toNat + 1) (0, w08_7) = (i1_8, w08_9) → ¬ i1_8 < 0 → ∀ (H : Heap) (locs : List Loc), va_P D vwCl (wModE cy a (y0 - 1) y1 y2 y3 y4 y5 y6 y7 w08_9 y9 y10 y11 y12 y13) H → va_D A (wModE cy a (y0 - 1) y1 y2 y3 y4 y5 y6 y7 w08_9 y9 y10 y11 y12 y13) → va_S A s.heap H locs → ∀ ls : Array Slot, lv_has ls 2 [(0, .ref (a 0)), (1, .int i1_8)] → W p l e (headSpec wsX8_saves ({ frames := 0, cells := 0, slots := 0, locals := 0 } : Room)).room s m ([.ref (a 0)] : List Value).toArray below meth c H locs 0 0 (MQ below (va_Qv (fun (u : Int32 × (Nat → Int32)) => f_X8_saves y0 y1 y7 y8 = u) (fun u t => va_P D vwCl (wModE cy a u.1 y1 y2 y3 y4 y5 y6 y7 u.2 y9 y10 y11 y12 y13) t.heap) A) ([.ref (a 0)] : List Value).toArray s 0 0 A) (F0 m 89 ls []) := by
          intro i1_8 w08_9 hE2 hj2_0 H locs hP hD hS ls hl
          refine lv_aload_n hx hb dX8_saves_89 rfl (lv_at hl 0 rfl) ?_
          refine lv_dup hx hb dX8_saves_90 rfl ?_
          refine va_get (D := D) (ci := 6) (v := .int (y0 - 1)) (C := RX8) (T := TX8) (N := 14) hx hb hts inX8 hown hK0.1 hP 0 rfl rfl 2 (by decide) (hts (.fieldLink RX8 40 "PivotChamberModel" "pasts" "I") (List.mem_of_getElem? (i := 2) rfl)) (fun _ h9 => h9) rfl dX8_saves_91 ?_
          refine lv_iconst (v := 1) hx hb dX8_saves_94 (by decide) ?_
          refine lv_iadd hx hb dX8_saves_95 ?_
          refine va_put (D := D) (ci := 6) (v := .int ((y0 - 1) + 1)) (ty := .int) (C := RX8) (T := TX8) (N := 14) hx hb hts inX8 tyX8 tyX8_ok nmX8 hown hK0.1 hP hD hS 0 rfl rfl 2 (by decide) (hts (.fieldLink RX8 40 "PivotChamberModel" "pasts" "I") (List.mem_of_getElem? (i := 2) rfl)) (fun _ h9 => h9) rfl (by decide +kernel) rfl rfl (Nat.le_of_ble_eq_true rfl) dX8_saves_96 (fun H locs hP hD hS => ?_)
          have hP : va_P D vwCl (wModE cy a ((y0 - 1) + 1) y1 y2 y3 y4 y5 y6 y7 w08_9 y9 y10 y11 y12 y13) H := hP
          have hD : va_D A (wModE cy a ((y0 - 1) + 1) y1 y2 y3 y4 y5 y6 y7 w08_9 y9 y10 y11 y12 y13) := hD
          have hP : va_P D vwCl (wModE cy a ((y0 - 1) + 1) y1 y2 y3 y4 y5 y6 y7 w08_9 y9 y10 y11 y12 y13) H := hP
          have hD : va_D A (wModE cy a ((y0 - 1) + 1) y1 y2 y3 y4 y5 y6 y7 w08_9 y9 y10 y11 y12 y13) := hD
          exact W.vret hx hb hr (fun t ht hW => ⟨⟨(((y0 - 1) + 1), w08_9), rfl, (show f_X8_saves y0 y1 y7 y8 = (((y0 - 1) + 1), w08_9) from by rw [f_X8_saves, if_pos c_1, if_pos c_2, hE1, my_t2_eq, hE2, my_t2_eq]), by show va_P D vwCl _ t.heap; rw [ht]; exact hP⟩, hS.F ht⟩) hS.2.2 dX8_saves_99
        have key : ∀ (nf : Nat) (i1_8 : Int32) (w08_9 : (Nat → Int32)), ((27 : Int32).toInt - (i1_8 : Int32).toInt).toNat < nf → lp (fun (x : Int32 × (Nat → Int32)) => f_X8_saves_st2 y0 y7 x.1 x.2) default nf (i1_8, w08_9) = lp (fun (x : Int32 × (Nat → Int32)) => f_X8_saves_st2 y0 y7 x.1 x.2) default (((27 : Int32).toInt - (0 : Int32).toInt).toNat + 1) (0, w08_7) → ¬ i1_8 < 0 → ∀ (H : Heap) (locs : List Loc), va_P D vwCl (wModE cy a (y0 - 1) y1 y2 y3 y4 y5 y6 y7 w08_9 y9 y10 y11 y12 y13) H → va_D A (wModE cy a (y0 - 1) y1 y2 y3 y4 y5 y6 y7 w08_9 y9 y10 y11 y12 y13) → va_S A s.heap H locs → ∀ ls : Array Slot, lv_has ls 2 [(0, .ref (a 0)), (1, .int i1_8)] → W p l e (headSpec wsX8_saves ({ frames := 0, cells := 0, slots := 0, locals := 0 } : Room)).room s m ([.ref (a 0)] : List Value).toArray below meth c H locs 0 0 (MQ below (va_Qv (fun (u : Int32 × (Nat → Int32)) => f_X8_saves y0 y1 y7 y8 = u) (fun u t => va_P D vwCl (wModE cy a u.1 y1 y2 y3 y4 y5 y6 y7 u.2 y9 y10 y11 y12 y13) t.heap) A) ([.ref (a 0)] : List Value).toArray s 0 0 A) (F0 m 57 ls []) := by
          intro n2
          induction n2 with
          | zero => intro i1_8 w08_9 hlt; exact absurd hlt (Nat.not_lt_zero _)
          | succ n2 ih2 =>
            intro i1_8 w08_9 hlt2 hF2 hi2_0 H locs hP hD hS ls hl
            refine lv_iload_n hx hb dX8_saves_57 rfl (lv_at hl 1 rfl) ?_
            refine lv_bipush (v := 27) hx hb dX8_saves_58 (by decide) ?_
            refine lv_icmp_ge (tgt := 89) hx hb dX8_saves_60 (by decide) (fun c_10 => ?_) (fun c_10 => ?_)
            · have hst : f_X8_saves_st2 y0 y7 i1_8 w08_9 = .inr (i1_8, w08_9) := by rw [f_X8_saves_st2, if_pos c_10]
              exact cont2 i1_8 w08_9 (lp_inr hst hF2) hi2_0 _ _ hP hD hS _ (lv_sub hl [0, 1] rfl)
            · refine lv_aload_n hx hb dX8_saves_63 rfl (lv_at hl 0 rfl) ?_
              refine va_get (D := D) (ci := 6) (v := .ref (a 2)) (C := RX8) (T := TX8) (N := 14) hx hb hts inX8 hown hK0.1 hP 0 rfl rfl 1 (by decide) (hts (.fieldLink RX8 13 "PivotChamberModel" "past" "[I") (List.mem_of_getElem? (i := 3) rfl)) (fun _ h9 => h9) rfl dX8_saves_64 ?_
              refine lv_bipush (v := 27) hx hb dX8_saves_67 (by decide) ?_
              refine lv_aload_n hx hb dX8_saves_69 rfl (lv_at hl 0 rfl) ?_
              refine va_get (D := D) (ci := 6) (v := .int (y0 - 1)) (C := RX8) (T := TX8) (N := 14) hx hb hts inX8 hown hK0.1 hP 0 rfl rfl 2 (by decide) (hts (.fieldLink RX8 40 "PivotChamberModel" "pasts" "I") (List.mem_of_getElem? (i := 2) rfl)) (fun _ h9 => h9) rfl dX8_saves_70 ?_
              refine lv_imul hx hb dX8_saves_73 ?_
              refine lv_iload_n hx hb dX8_saves_74 rfl (lv_at hl 1 rfl) ?_
              refine lv_iadd hx hb dX8_saves_75 ?_
              refine lv_aload_n hx hb dX8_saves_76 rfl (lv_at hl 0 rfl) ?_
              refine va_get (D := D) (ci := 6) (v := .ref (a 1)) (C := RX8) (T := TX8) (N := 14) hx hb hts inX8 hown hK0.1 hP 0 rfl rfl 0 (by decide) (hts (.fieldLink RX8 7 "PivotChamberModel" "s" "[I") (List.mem_of_getElem? (i := 4) rfl)) (fun _ h9 => h9) rfl dX8_saves_77 ?_
              refine lv_iload_n hx hb dX8_saves_80 rfl (lv_at hl 1 rfl) ?_
              refine va_iald hx hb hK0.1 hP 1 0 rfl rfl (ix_self (K := 27) (N := 27) hi2_0 c_10 (by decide) (by decide)) dX8_saves_81 ?_
              refine va_iast hx hb hK0.1 hP hD hS 2 0 rfl rfl (ix_27 (sv_a c_2) (sv_b c_2) hi2_0 c_10) dX8_saves_82 (fun H locs hP hD hS => ?_)
              have hP : va_P D vwCl (wModE cy a (y0 - 1) y1 y2 y3 y4 y5 y6 y7 (upd w08_9 ((27 * (y0 - 1)) + i1_8).toNatClampNeg (y7 i1_8.toNatClampNeg)) y9 y10 y11 y12 y13) H := hP
              have hD : va_D A (wModE cy a (y0 - 1) y1 y2 y3 y4 y5 y6 y7 (upd w08_9 ((27 * (y0 - 1)) + i1_8).toNatClampNeg (y7 i1_8.toNatClampNeg)) y9 y10 y11 y12 y13) := hD
              refine lv_iinc (v := (i1_8 + 1)) (lv' := [(1, .int (i1_8 + 1)), (0, .ref (a 0))]) hx hb dX8_saves_83 hl (k := 1) rfl rfl (by decide) rfl (fun ls hl => ?_)
              refine lv_goto (tgt := 57) hx hb dX8_saves_86 (by decide) ?_
              have hst : f_X8_saves_st2 y0 y7 i1_8 w08_9 = .inl ((i1_8 + 1), (upd w08_9 ((27 * (y0 - 1)) + i1_8).toNatClampNeg (y7 i1_8.toNatClampNeg))) := by rw [f_X8_saves_st2, if_neg c_10]
              have hmu : ((27 : Int32).toInt - ((i1_8 + 1) : Int32).toInt).toNat < ((27 : Int32).toInt - (i1_8 : Int32).toInt).toNat := mu_up c_10
              exact ih2 (i1_8 + 1) (upd w08_9 ((27 * (y0 - 1)) + i1_8).toNatClampNeg (y7 i1_8.toNatClampNeg)) (Nat.lt_of_lt_of_le hmu (Nat.le_of_lt_succ hlt2)) (lp_inl hst hF2) (nn_up hi2_0 c_10) _ _ hP hD hS _ (lv_sub hl [1, 0] rfl)
        exact key (((27 : Int32).toInt - (0 : Int32).toInt).toNat + 1) 0 w08_7 (Nat.lt_succ_self _) rfl (by decide) _ _ hP hD hS _ (lv_sub hl [1, 0] rfl)
      have key : ∀ (nf : Nat) (i1_6 : Int32) (w08_7 : (Nat → Int32)), ((81 : Int32).toInt - (i1_6 : Int32).toInt).toNat < nf → lp (fun (x : Int32 × (Nat → Int32)) => f_X8_saves_st1 x.1 x.2) default nf (i1_6, w08_7) = lp (fun (x : Int32 × (Nat → Int32)) => f_X8_saves_st1 x.1 x.2) default (((81 : Int32).toInt - (0 : Int32).toInt).toNat + 1) (0, y8) → ¬ i1_6 < 0 → ∀ (H : Heap) (locs : List Loc), va_P D vwCl (wModE cy a y0 y1 y2 y3 y4 y5 y6 y7 w08_7 y9 y10 y11 y12 y13) H → va_D A (wModE cy a y0 y1 y2 y3 y4 y5 y6 y7 w08_7 y9 y10 y11 y12 y13) → va_S A s.heap H locs → ∀ ls : Array Slot, lv_has ls 2 [(0, .ref (a 0)), (1, .int i1_6)] → W p l e (headSpec wsX8_saves ({ frames := 0, cells := 0, slots := 0, locals := 0 } : Room)).room s m ([.ref (a 0)] : List Value).toArray below meth c H locs 0 0 (MQ below (va_Qv (fun (u : Int32 × (Nat → Int32)) => f_X8_saves y0 y1 y7 y8 = u) (fun u t => va_P D vwCl (wModE cy a u.1 y1 y2 y3 y4 y5 y6 y7 u.2 y9 y10 y11 y12 y13) t.heap) A) ([.ref (a 0)] : List Value).toArray s 0 0 A) (F0 m 18 ls []) := by
        intro n1
        induction n1 with
        | zero => intro i1_6 w08_7 hlt; exact absurd hlt (Nat.not_lt_zero _)
        | succ n1 ih1 =>
          intro i1_6 w08_7 hlt1 hF1 hi1_0 H locs hP hD hS ls hl
          refine lv_iload_n hx hb dX8_saves_18 rfl (lv_at hl 1 rfl) ?_
          refine lv_bipush (v := 81) hx hb dX8_saves_19 (by decide) ?_
          refine lv_icmp_ge (tgt := 45) hx hb dX8_saves_21 (by decide) (fun c_11 => ?_) (fun c_11 => ?_)
          · have hst : f_X8_saves_st1 i1_6 w08_7 = .inr (i1_6, w08_7) := by rw [f_X8_saves_st1, if_pos c_11]
            exact cont1 i1_6 w08_7 (lp_inr hst hF1) hi1_0 _ _ hP hD hS _ (lv_sub hl [0, 1] rfl)
          · refine lv_aload_n hx hb dX8_saves_24 rfl (lv_at hl 0 rfl) ?_
            refine va_get (D := D) (ci := 6) (v := .ref (a 2)) (C := RX8) (T := TX8) (N := 14) hx hb hts inX8 hown hK0.1 hP 0 rfl rfl 1 (by decide) (hts (.fieldLink RX8 13 "PivotChamberModel" "past" "[I") (List.mem_of_getElem? (i := 3) rfl)) (fun _ h9 => h9) rfl dX8_saves_25 ?_
            refine lv_iload_n hx hb dX8_saves_28 rfl (lv_at hl 1 rfl) ?_
            refine lv_aload_n hx hb dX8_saves_29 rfl (lv_at hl 0 rfl) ?_
            refine va_get (D := D) (ci := 6) (v := .ref (a 2)) (C := RX8) (T := TX8) (N := 14) hx hb hts inX8 hown hK0.1 hP 0 rfl rfl 1 (by decide) (hts (.fieldLink RX8 13 "PivotChamberModel" "past" "[I") (List.mem_of_getElem? (i := 3) rfl)) (fun _ h9 => h9) rfl dX8_saves_30 ?_
            refine lv_iload_n hx hb dX8_saves_33 rfl (lv_at hl 1 rfl) ?_
            refine lv_bipush (v := 27) hx hb dX8_saves_34 (by decide) ?_
            refine lv_iadd hx hb dX8_saves_36 ?_
            refine va_iald hx hb hK0.1 hP 2 0 rfl rfl (ix_loopR (K := 81) (N := 108) hi1_0 c_11 (by decide) (by decide)) dX8_saves_37 ?_
            refine va_iast hx hb hK0.1 hP hD hS 2 0 rfl rfl (ix_self (K := 81) (N := 108) hi1_0 c_11 (by decide) (by decide)) dX8_saves_38 (fun H locs hP hD hS => ?_)
            have hP : va_P D vwCl (wModE cy a y0 y1 y2 y3 y4 y5 y6 y7 (upd w08_7 i1_6.toNatClampNeg (w08_7 (i1_6 + 27).toNatClampNeg)) y9 y10 y11 y12 y13) H := hP
            have hD : va_D A (wModE cy a y0 y1 y2 y3 y4 y5 y6 y7 (upd w08_7 i1_6.toNatClampNeg (w08_7 (i1_6 + 27).toNatClampNeg)) y9 y10 y11 y12 y13) := hD
            refine lv_iinc (v := (i1_6 + 1)) (lv' := [(1, .int (i1_6 + 1)), (0, .ref (a 0))]) hx hb dX8_saves_39 hl (k := 1) rfl rfl (by decide) rfl (fun ls hl => ?_)
            refine lv_goto (tgt := 18) hx hb dX8_saves_42 (by decide) ?_
            have hst : f_X8_saves_st1 i1_6 w08_7 = .inl ((i1_6 + 1), (upd w08_7 i1_6.toNatClampNeg (w08_7 (i1_6 + 27).toNatClampNeg))) := by rw [f_X8_saves_st1, if_neg c_11]
            have hmu : ((81 : Int32).toInt - ((i1_6 + 1) : Int32).toInt).toNat < ((81 : Int32).toInt - (i1_6 : Int32).toInt).toNat := mu_up c_11
            exact ih1 (i1_6 + 1) (upd w08_7 i1_6.toNatClampNeg (w08_7 (i1_6 + 27).toNatClampNeg)) (Nat.lt_of_lt_of_le hmu (Nat.le_of_lt_succ hlt1)) (lp_inl hst hF1) (nn_up hi1_0 c_11) _ _ hP hD hS _ (lv_sub hl [1, 0] rfl)
      exact key (((81 : Int32).toInt - (0 : Int32).toInt).toNat + 1) 0 y8 (Nat.lt_succ_self _) rfl (by decide) _ _ hP hD hS _ (lv_sub hl [1, 0] rfl)
  · have hP : va_P D vwCl (wModE cy a y0 y1 y2 y3 y4 y5 y6 y7 y8 y9 y10 y11 y12 y13) s.heap := hP
    have hD : va_D A (wModE cy a y0 y1 y2 y3 y4 y5 y6 y7 y8 y9 y10 y11 y12 y13) := hD
    exact W.vret hx hb hr (fun t ht hW => ⟨⟨(y0, y8), rfl, (show f_X8_saves y0 y1 y7 y8 = (y0, y8) from by rw [f_X8_saves, if_neg c_1]), by show va_P D vwCl _ t.heap; rw [ht]; exact hP⟩, hS.F ht⟩) hS.2.2 dX8_saves_7
