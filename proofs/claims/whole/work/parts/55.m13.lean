/-! part 55: the text of the reference -/
def my_t8 {α0 α1 α2 α3 α4 α5 α6 α7 γ : Type} (x : α0 × α1 × α2 × α3 × α4 × α5 × α6 × α7) (k : α0 → α1 → α2 → α3 → α4 → α5 → α6 → α7 → γ) : γ := k x.1 x.2.1 x.2.2.1 x.2.2.2.1 x.2.2.2.2.1 x.2.2.2.2.2.1 x.2.2.2.2.2.2.1 x.2.2.2.2.2.2.2
theorem my_t8_eq {α0 α1 α2 α3 α4 α5 α6 α7 γ : Type} (z0 : α0) (z1 : α1) (z2 : α2) (z3 : α3) (z4 : α4) (z5 : α5) (z6 : α6) (z7 : α7) (k : α0 → α1 → α2 → α3 → α4 → α5 → α6 → α7 → γ) : my_t8 (z0, z1, z2, z3, z4, z5, z6, z7) k = k z0 z1 z2 z3 z4 z5 z6 z7 := rfl
def my_t9 {α0 α1 α2 α3 α4 α5 α6 α7 α8 γ : Type} (x : α0 × α1 × α2 × α3 × α4 × α5 × α6 × α7 × α8) (k : α0 → α1 → α2 → α3 → α4 → α5 → α6 → α7 → α8 → γ) : γ := k x.1 x.2.1 x.2.2.1 x.2.2.2.1 x.2.2.2.2.1 x.2.2.2.2.2.1 x.2.2.2.2.2.2.1 x.2.2.2.2.2.2.2.1 x.2.2.2.2.2.2.2.2
theorem my_t9_eq {α0 α1 α2 α3 α4 α5 α6 α7 α8 γ : Type} (z0 : α0) (z1 : α1) (z2 : α2) (z3 : α3) (z4 : α4) (z5 : α5) (z6 : α6) (z7 : α7) (z8 : α8) (k : α0 → α1 → α2 → α3 → α4 → α5 → α6 → α7 → α8 → γ) : my_t9 (z0, z1, z2, z3, z4, z5, z6, z7, z8) k = k z0 z1 z2 z3 z4 z5 z6 z7 z8 := rfl
theorem my_l_inv {α γ : Type} {x : α} {k : α → γ} (P : α → Prop) (Q : γ → Prop) (h : P x) (hk : ∀ a, P a → Q (k a)) : Q (my_l x k) := hk _ h
theorem my_b_inv {α β γ : Type} {x : α × β} {k : α → β → γ} (P : α → β → Prop) (Q : γ → Prop) (h : P x.1 x.2) (hk : ∀ a b, P a b → Q (k a b)) : Q (my_b x k) := hk _ _ h
theorem my_t2_inv {α β γ : Type} {x : α × β} {k : α → β → γ} (P : α → β → Prop) (Q : γ → Prop) (h : P x.1 x.2) (hk : ∀ a b, P a b → Q (k a b)) : Q (my_t2 x k) := hk _ _ h
theorem my_t4_inv {α0 α1 α2 α3 γ : Type} {x : α0 × α1 × α2 × α3} {k : α0 → α1 → α2 → α3 → γ} (P : α0 → α1 → α2 → α3 → Prop) (Q : γ → Prop) (h : P x.1 x.2.1 x.2.2.1 x.2.2.2) (hk : ∀ a b c d, P a b c d → Q (k a b c d)) : Q (my_t4 x k) := hk _ _ _ _ h
theorem lp_inm {σ ρ : Type} {f : σ → σ ⊕ ρ} {d : ρ} {I : σ → Prop} {Q : ρ → Prop} (μ : σ → Nat) (h : ∀ x, I x → Sum.elim (fun y => I y ∧ μ y < μ x) Q (f x)) : ∀ (n : Nat) (x : σ), I x → μ x < n → Q (lp f d n x)
  | 0, _, _, hn => absurd hn (Nat.not_lt_zero _)
  | n + 1, x, hx, hn => by
    have h1 := h x hx
    rw [lp]
    cases hf : f x with
    | inl y => rw [hf] at h1; exact lp_inm μ h n y h1.1 (Nat.lt_of_lt_of_le h1.2 (Nat.le_of_lt_succ hn))
    | inr r => rw [hf] at h1; exact h1
theorem i32_hi (x : Int32) : x.toInt < 2147483648 := by have := x.toInt_lt; simpa using this
theorem i32_lo (x : Int32) : -2147483648 ≤ x.toInt := by have := x.le_toInt; simpa using this
theorem i32_c0 : (0 : Int32).toInt = 0 := by decide
theorem i32_c1 : (1 : Int32).toInt = 1 := by decide
theorem i32_c4 : (4 : Int32).toInt = 4 := by decide
theorem i32_c8 : (8 : Int32).toInt = 8 := by decide
theorem inc_toInt {i b : Int32} (h : i < b) : (i + 1).toInt = i.toInt + 1 := by
  have h1 := Int32.lt_iff_toInt_lt.mp h
  have h2 := i32_hi b
  have h3 := i32_lo i
  have h4 := i32_c1
  rw [i32_add (by omega) (by omega), h4]
theorem le_up {i b : Int32} (h : i < b) : ¬ b < i + 1 := fun h3 => by
  have h1 := Int32.lt_iff_toInt_lt.mp h
  have h2 := inc_toInt h
  have h4 := Int32.lt_iff_toInt_lt.mp h3
  omega
theorem le_tr {b a K : Int32} (h : ¬ b < a) (hK : ¬ K < b) : ¬ K < a := fun h3 => by
  have h1 : ¬ b.toInt < a.toInt := fun z => h (Int32.lt_iff_toInt_lt.mpr z)
  have h2 : ¬ K.toInt < b.toInt := fun z => hK (Int32.lt_iff_toInt_lt.mpr z)
  have h4 := Int32.lt_iff_toInt_lt.mp h3
  omega
def ft_mu (t f s : Int32) : Nat := if f = 0 then 0 else (t.toInt - s.toInt).toNat + 1
theorem ft_dec {t f s r u : Int32} (hf : ¬ f = 0) (hc : ¬ t ≤ s) (hr : ¬ r = 0 → s < u) : (ft_mu t r u) < (ft_mu t f s) := by
  unfold ft_mu
  rw [if_neg hf]
  have h1 : s.toInt < t.toInt := Int32.lt_iff_toInt_lt.mp (Int32.not_le.mp hc)
  by_cases h : r = 0
  · rw [if_pos h]; omega
  · rw [if_neg h]
    have h2 := Int32.lt_iff_toInt_lt.mp (hr h)
    omega
theorem hd_X8_isAt_S : yX8_isAt.cls ≠ "java/lang/invoke/MethodHandle" ∧ yX8_isAt.cls ≠ "java/lang/invoke/VarHandle" ∧ (parseMethodDescriptor yX8_isAt.desc).map (fun d => d.parameters.length) = some 2 := by decide +kernel
theorem hd_X8_isAt_V : yX8_isAt.cls = RX8 ∧ yX8_isAt.cls ≠ "java/lang/invoke/MethodHandle" ∧ yX8_isAt.cls ≠ "java/lang/invoke/VarHandle" ∧ (parseMethodDescriptor yX8_isAt.desc).map (fun d => d.parameters.length) = some 2 := ⟨rfl, hd_X8_isAt_S⟩
def f_X8_isAt (y2 : Int32) (y5 : Int32) (y9 : (Nat → Int32)) (x0 : Int32) (x1 : Int32) : Int32 := (if y2 ≤ y5 then 0 else (if (f_X8_in (y9 y5.toNatClampNeg) x0 x1) = 0 then 0 else 1))
theorem z_X8_isAt (y2 : Int32) (y5 : Int32) (y9 : (Nat → Int32)) (x0 : Int32) (x1 : Int32) : f_X8_isAt y2 y5 y9 x0 x1 = 0 ∨ f_X8_isAt y2 y5 y9 x0 x1 = 1 := by
  unfold f_X8_isAt
  repeat' split
  all_goals first | exact Or.inl rfl | exact Or.inr rfl | exact z_X8_in _ _ _
set_option maxHeartbeats 400000 in
set_option maxRecDepth 100000 in
theorem c_X8_isAt (l : Launch) (D : va_G) (cy : Nat → ClassId) (g : Nat → Nat) (B : Nat) (a : Nat → Nat) (y0 : Int32) (y1 : Int32) (y2 : Int32) (y3 : Int32) (y4 : Int32) (y5 : Int32) (y6 : Int32) (y7 : (Nat → Int32)) (y8 : (Nat → Int32)) (y9 : (Nat → Int32)) (y10 : (Nat → Int32)) (y11 : (Nat → Int32)) (y12 : (Nat → Int32)) (y13 : (Nat → Int32)) (x0 : Int32) (x1 : Int32) (hsp0 : ¬ y5 < 0) (hty : ¬ 150 < y2) : Met l yX8_isAt wsX8_isAt ({ frames := 1, cells := 0, slots := 0, locals := 22 }) (rdP D cy g B (wModE cy a y0 y1 y2 y3 y4 y5 y6 y7 y8 y9 y10 y11 y12 y13) [.ref (a 0), .int x0, .int x1]) (vp_Si (fun r => r = f_X8_isAt y2 y5 y9 x0 x1)) 0 0 (fun _ => False) := by
  refine Met.ofW (cc := cX8_isAt) (maxL := 3) (ret := (some .boolean)) (by decide) rfl ?_
  intro p e s m args below meth c s₁ BB hml hv
  obtain ⟨rfl, hP, hK0⟩ := hv
  have hx := BB.exec
  have hb := BB.bytes
  have hr := BB.returns
  have hts := atoms_spec (ws := wsX8_isAt) BB.pre
  have hown : s.vm.findClass RX8 = some m.cls := findClass_of_methodNamed BB.named
  have hlocks := BB.notSynchronized
  have S := my_fix hx hb hml hown hts
  have inX8 : ∀ w ∈ wsX80, w ∈ wsX8_isAt := fun w h => List.mem_cons_of_mem _ (List.mem_append_right _ h)
  have hS : va_S (fun q => B ≤ q) s.heap s.heap [] := va_S.rf
  have hAB : ∀ q : Nat, (fun q => B ≤ q) q → B ≤ q := fun _ h => h
  have hl := lv_entry ([.ref (a 0), .int x0, .int x1]) (n := 3) (Nat.le_of_ble_eq_true rfl)
  rw [lg_entry_eq]
  generalize (lg_sl ([.ref (a 0), .int x0, .int x1]) ++ List.replicate (3 - (lg_sl ([.ref (a 0), .int x0, .int x1])).length) Slot.unset).toArray = ls at hl ⊢
  have hl : lv_has ls 3 [(0, .ref (a 0)), (1, .int x0), (2, .int x1)] := hl
  refine lv_aload_n hx hb dX8_isAt_0 rfl (lv_at hl 0 rfl) ?_
  refine va_get (D := D) (ci := 6) (v := .int y5) (C := RX8) (T := TX8) (N := 14) hx hb hts inX8 hown hK0.1 hP 0 rfl rfl 11 (by decide) (hts (.fieldLink RX8 164 "PivotChamberModel" "spot" "I") (List.mem_of_getElem? (i := 1) rfl)) (fun _ h9 => h9) rfl dX8_isAt_1 ?_
  refine lv_aload_n hx hb dX8_isAt_4 rfl (lv_at hl 0 rfl) ?_
  refine va_get (D := D) (ci := 6) (v := .int y2) (C := RX8) (T := TX8) (N := 14) hx hb hts inX8 hown hK0.1 hP 0 rfl rfl 5 (by decide) (hts (.fieldLink RX8 141 "PivotChamberModel" "typed" "I") (List.mem_of_getElem? (i := 2) rfl)) (fun _ h9 => h9) rfl dX8_isAt_5 ?_
  refine lv_icmp_ge (tgt := 32) hx hb dX8_isAt_8 (by decide) (fun c_1 => ?_) (fun c_1 => ?_)
  · refine lv_iconst (v := 0) hx hb dX8_isAt_32 (by decide) ?_
    exact W.zret (ty := .boolean) (v := 0) hx hb hr (my_nz (by decide)) (fun t ht hW => ⟨0, rfl, (show f_X8_isAt y2 y5 y9 x0 x1 = 0 from by rw [f_X8_isAt, if_pos c_1]).symm, ht⟩) (fun q hq => absurd hq List.not_mem_nil) dX8_isAt_33
  · refine lv_aload_n hx hb dX8_isAt_11 rfl (lv_at hl 0 rfl) ?_
    refine va_get (D := D) (ci := 6) (v := .ref (a 3)) (C := RX8) (T := TX8) (N := 14) hx hb hts inX8 hown hK0.1 hP 0 rfl rfl 4 (by decide) (hts (.fieldLink RX8 16 "PivotChamberModel" "text" "[I") (List.mem_of_getElem? (i := 3) rfl)) (fun _ h9 => h9) rfl dX8_isAt_12 ?_
    refine lv_aload_n hx hb dX8_isAt_15 rfl (lv_at hl 0 rfl) ?_
    refine va_get (D := D) (ci := 6) (v := .int y5) (C := RX8) (T := TX8) (N := 14) hx hb hts inX8 hown hK0.1 hP 0 rfl rfl 11 (by decide) (hts (.fieldLink RX8 164 "PivotChamberModel" "spot" "I") (List.mem_of_getElem? (i := 1) rfl)) (fun _ h9 => h9) rfl dX8_isAt_16 ?_
    refine va_iald hx hb hK0.1 hP 3 0 rfl rfl (ix_self (K := 150) (N := 150) hsp0 c_1 hty (by decide)) dX8_isAt_19 ?_
    refine lv_iload_n hx hb dX8_isAt_20 rfl (lv_at hl 1 rfl) ?_
    refine lv_iload_n hx hb dX8_isAt_21 rfl (lv_at hl 2 rfl) ?_
    refine rd_goi (va_runS (As := [.int (y9 y5.toNatClampNeg), .int x0, .int x1]) (rest := []) S (c_X8_in l D cy g B (y9 y5.toNatClampNeg) x0 x1) (va_cwS 3 hts gX8_isAt_X8_in rfl rfl rfl hd_X8_in_S ⟨Nat.le_of_ble_eq_true rfl, Nat.le_of_ble_eq_true rfl⟩) ⟨rdP_blind, my_preV hK0 hS hAB hP [] rfl⟩ rfl rfl hl.1 rfl (lv_room (Nat.le_of_ble_eq_true rfl)) dX8_isAt_22 ⟨Nat.zero_le _, Nat.zero_le _⟩) ?_
    refine lv_if_eq (tgt := 32) hx hb dX8_isAt_25 (by decide) (fun c_2 => ?_) (fun c_2 => ?_)
    · refine lv_iconst (v := 0) hx hb dX8_isAt_32 (by decide) ?_
      exact W.zret (ty := .boolean) (v := 0) hx hb hr (my_nz (by decide)) (fun t ht hW => ⟨0, rfl, (show f_X8_isAt y2 y5 y9 x0 x1 = 0 from by rw [f_X8_isAt, if_neg c_1, if_pos c_2]).symm, ht⟩) (fun q hq => absurd hq List.not_mem_nil) dX8_isAt_33
    · refine lv_iconst (v := 1) hx hb dX8_isAt_28 (by decide) ?_
      refine lv_goto (tgt := 33) hx hb dX8_isAt_29 (by decide) ?_
      exact W.zret (ty := .boolean) (v := 1) hx hb hr (my_nz (by decide)) (fun t ht hW => ⟨1, rfl, (show f_X8_isAt y2 y5 y9 x0 x1 = 1 from by rw [f_X8_isAt, if_neg c_1, if_neg c_2]).symm, ht⟩) (fun q hq => absurd hq List.not_mem_nil) dX8_isAt_33
theorem ia_1 {t s : Int32} {x : Nat → Int32} {a b : Int32} (h : ¬ f_X8_isAt t s x a b = 0) : s < t := by
  unfold f_X8_isAt at h
  by_cases h1 : t ≤ s
  · rw [if_pos h1] at h; exact absurd rfl h
  · exact Int32.not_le.mp h1
theorem hd_X8_skips_S : yX8_skips.cls ≠ "java/lang/invoke/MethodHandle" ∧ yX8_skips.cls ≠ "java/lang/invoke/VarHandle" ∧ (parseMethodDescriptor yX8_skips.desc).map (fun d => d.parameters.length) = some 0 := by decide +kernel
theorem hd_X8_skips_V : yX8_skips.cls = RX8 ∧ yX8_skips.cls ≠ "java/lang/invoke/MethodHandle" ∧ yX8_skips.cls ≠ "java/lang/invoke/VarHandle" ∧ (parseMethodDescriptor yX8_skips.desc).map (fun d => d.parameters.length) = some 0 := ⟨rfl, hd_X8_skips_S⟩
def f_X8_skips_st (y2 : Int32) (y9 : (Nat → Int32)) (w05_1 : Int32) : (Int32) ⊕ (Int32) := (if (f_X8_isAt y2 w05_1 y9 32 32) = 0 then (.inr w05_1) else (.inl (w05_1 + 1)))
def f_X8_skips (y2 : Int32) (y5 : Int32) (y9 : (Nat → Int32)) : Int32 := (my_l (lp (fun (x : Int32) => f_X8_skips_st y2 y9 x) default (((y2 : Int32).toInt - (y5 : Int32).toInt).toNat + 1) y5) (fun (w05_1 : Int32) => w05_1))
set_option maxHeartbeats 400000 in
set_option maxRecDepth 100000 in
theorem c_X8_skips (l : Launch) (D : va_G) (cy : Nat → ClassId) (g : Nat → Nat) (B : Nat) (a : Nat → Nat) (y0 : Int32) (y1 : Int32) (y2 : Int32) (y3 : Int32) (y4 : Int32) (y5 : Int32) (y6 : Int32) (y7 : (Nat → Int32)) (y8 : (Nat → Int32)) (y9 : (Nat → Int32)) (y10 : (Nat → Int32)) (y11 : (Nat → Int32)) (y12 : (Nat → Int32)) (y13 : (Nat → Int32)) (hsp0 : ¬ y5 < 0) (hty : ¬ 150 < y2) (hsl : ¬ y2 < y5) : Met l yX8_skips wsX8_skips ({ frames := 2, cells := 0, slots := 0, locals := 44 }) (muP D cy g B (wModE cy a y0 y1 y2 y3 y4 y5 y6 y7 y8 y9 y10 y11 y12 y13) [.ref (a 0)]) (va_Qv (fun (u : Int32) => f_X8_skips y2 y5 y9 = u) (fun u t => va_P D vwCl (wModE cy a y0 y1 y2 y3 y4 u y6 y7 y8 y9 y10 y11 y12 y13) t.heap) (muA (wModE cy a y0 y1 y2 y3 y4 y5 y6 y7 y8 y9 y10 y11 y12 y13))) 0 0 (muA (wModE cy a y0 y1 y2 y3 y4 y5 y6 y7 y8 y9 y10 y11 y12 y13)) := by
  refine Met.ofW (cc := cX8_skips) (maxL := 1) (ret := none) (by decide) rfl ?_
  intro p e s m args below meth c s₁ BB hml hv
  obtain ⟨rfl, hP, hK0, hD0⟩ := hv
  have hx := BB.exec
  have hb := BB.bytes
  have hr := BB.returns
  have hts := atoms_spec (ws := wsX8_skips) BB.pre
  have hown : s.vm.findClass RX8 = some m.cls := findClass_of_methodNamed BB.named
  have hlocks := BB.notSynchronized
  have S := my_fix hx hb hml hown hts
  have inX8 : ∀ w ∈ wsX80, w ∈ wsX8_skips := fun w h => List.mem_cons_of_mem _ (List.mem_append_right _ h)
  have hAB := muB hD0
  have hD := muD hD0
  generalize hAe : muA (wModE cy a y0 y1 y2 y3 y4 y5 y6 y7 y8 y9 y10 y11 y12 y13) = A at hAB hD ⊢
  have hS : va_S A s.heap s.heap [] := va_S.rf
  have hl := lv_entry ([.ref (a 0)]) (n := 1) (Nat.le_of_ble_eq_true rfl)
  rw [lg_entry_eq]
  generalize (lg_sl ([.ref (a 0)]) ++ List.replicate (1 - (lg_sl ([.ref (a 0)])).length) Slot.unset).toArray = ls at hl ⊢
  have hl : lv_has ls 1 [(0, .ref (a 0))] := hl
  have cont0 : ∀ (w05_1 : Int32), lp (fun (x : Int32) => f_X8_skips_st y2 y9 x) default (((y2 : Int32).toInt - (y5 : Int32).toInt).toNat + 1) y5 = w05_1 → ¬ w05_1 < 0 → ¬ y2 < w05_1 → ∀ (H : Heap) (locs : List Loc), va_P D vwCl (wModE cy a y0 y1 y2 y3 y4 w05_1 y6 y7 y8 y9 y10 y11 y12 y13) H → va_D A (wModE cy a y0 y1 y2 y3 y4 w05_1 y6 y7 y8 y9 y10 y11 y12 y13) → va_S A s.heap H locs → ∀ ls : Array Slot, lv_has ls 1 [(0, .ref (a 0))] → W p l e (headSpec wsX8_skips ({ frames := 2, cells := 0, slots := 0, locals := 44 } : Room)).room s m ([.ref (a 0)] : List Value).toArray below meth c H locs 0 0 (MQ below (va_Qv (fun (u : Int32) => f_X8_skips y2 y5 y9 = u) (fun u t => va_P D vwCl (wModE cy a y0 y1 y2 y3 y4 u y6 y7 y8 y9 y10 y11 y12 y13) t.heap) A) ([.ref (a 0)] : List Value).toArray s 0 0 A) (F0 m 24 ls []) := by
    intro w05_1 hE0 hj0_0 hj0_1 H locs hP hD hS ls hl
    have hP : va_P D vwCl (wModE cy a y0 y1 y2 y3 y4 w05_1 y6 y7 y8 y9 y10 y11 y12 y13) H := hP
    have hD : va_D A (wModE cy a y0 y1 y2 y3 y4 w05_1 y6 y7 y8 y9 y10 y11 y12 y13) := hD
    exact W.vret hx hb hr (fun t ht hW => ⟨⟨w05_1, rfl, (show f_X8_skips y2 y5 y9 = w05_1 from by rw [f_X8_skips, hE0, my_l_eq]), by show va_P D vwCl _ t.heap; rw [ht]; exact hP⟩, hS.F ht⟩) hS.2.2 dX8_skips_24
  have key : ∀ (nf : Nat) (w05_1 : Int32), ((y2 : Int32).toInt - (w05_1 : Int32).toInt).toNat < nf → lp (fun (x : Int32) => f_X8_skips_st y2 y9 x) default nf w05_1 = lp (fun (x : Int32) => f_X8_skips_st y2 y9 x) default (((y2 : Int32).toInt - (y5 : Int32).toInt).toNat + 1) y5 → ¬ w05_1 < 0 → ¬ y2 < w05_1 → ∀ (H : Heap) (locs : List Loc), va_P D vwCl (wModE cy a y0 y1 y2 y3 y4 w05_1 y6 y7 y8 y9 y10 y11 y12 y13) H → va_D A (wModE cy a y0 y1 y2 y3 y4 w05_1 y6 y7 y8 y9 y10 y11 y12 y13) → va_S A s.heap H locs → ∀ ls : Array Slot, lv_has ls 1 [(0, .ref (a 0))] → W p l e (headSpec wsX8_skips ({ frames := 2, cells := 0, slots := 0, locals := 44 } : Room)).room s m ([.ref (a 0)] : List Value).toArray below meth c H locs 0 0 (MQ below (va_Qv (fun (u : Int32) => f_X8_skips y2 y5 y9 = u) (fun u t => va_P D vwCl (wModE cy a y0 y1 y2 y3 y4 u y6 y7 y8 y9 y10 y11 y12 y13) t.heap) A) ([.ref (a 0)] : List Value).toArray s 0 0 A) (F0 m 0 ls []) := by
    intro n0
    induction n0 with
    | zero => intro w05_1 hlt; exact absurd hlt (Nat.not_lt_zero _)
    | succ n0 ih0 =>
      intro w05_1 hlt0 hF0 hi0_0 hi0_1 H locs hP hD hS ls hl
      refine lv_aload_n hx hb dX8_skips_0 rfl (lv_at hl 0 rfl) ?_
      refine lv_bipush (v := 32) hx hb dX8_skips_1 (by decide) ?_
      refine lv_bipush (v := 32) hx hb dX8_skips_3 (by decide) ?_
      refine rd_goi (va_runV (C := RX8) (As := [.int 32, .int 32]) (rest := []) S (c_X8_isAt l D cy g B a y0 y1 y2 y3 y4 w05_1 y6 y7 y8 y9 y10 y11 y12 y13 32 32 hi0_0 hty) (cwV 2 hts gX8_skips_X8_isAt rfl rfl rfl hd_X8_isAt_V ⟨Nat.le_of_ble_eq_true rfl, Nat.le_of_ble_eq_true rfl⟩) ⟨rdP_blind, va_recv hK0.1 hP (ci := 6) (q0 := 0) rfl rfl, my_preP hK0 hS hAB hP⟩ rfl rfl hl.1 rfl (lv_room (Nat.le_of_ble_eq_true rfl)) dX8_skips_5 ⟨Nat.zero_le _, Nat.zero_le _⟩) ?_
      refine lv_if_eq (tgt := 24) hx hb dX8_skips_8 (by decide) (fun c_2 => ?_) (fun c_2 => ?_)
      · have hst : f_X8_skips_st y2 y9 w05_1 = .inr w05_1 := by rw [f_X8_skips_st, if_pos c_2]
        exact cont0 w05_1 (lp_inr hst hF0) hi0_0 hi0_1 _ _ hP hD hS _ (lv_sub hl [0] rfl)
      · refine lv_aload_n hx hb dX8_skips_11 rfl (lv_at hl 0 rfl) ?_
        refine lv_dup hx hb dX8_skips_12 rfl ?_
        refine va_get (D := D) (ci := 6) (v := .int w05_1) (C := RX8) (T := TX8) (N := 14) hx hb hts inX8 hown hK0.1 hP 0 rfl rfl 11 (by decide) (hts (.fieldLink RX8 164 "PivotChamberModel" "spot" "I") (List.mem_of_getElem? (i := 1) rfl)) (fun _ h9 => h9) rfl dX8_skips_13 ?_
        refine lv_iconst (v := 1) hx hb dX8_skips_16 (by decide) ?_
        refine lv_iadd hx hb dX8_skips_17 ?_
        refine va_put (D := D) (ci := 6) (v := .int (w05_1 + 1)) (ty := .int) (C := RX8) (T := TX8) (N := 14) hx hb hts inX8 tyX8 tyX8_ok nmX8 hown hK0.1 hP hD hS 0 rfl rfl 11 (by decide) (hts (.fieldLink RX8 164 "PivotChamberModel" "spot" "I") (List.mem_of_getElem? (i := 1) rfl)) (fun _ h9 => h9) rfl (by decide +kernel) rfl rfl (Nat.le_of_ble_eq_true rfl) dX8_skips_18 (fun H locs hP hD hS => ?_)
        have hP : va_P D vwCl (wModE cy a y0 y1 y2 y3 y4 (w05_1 + 1) y6 y7 y8 y9 y10 y11 y12 y13) H := hP
        have hD : va_D A (wModE cy a y0 y1 y2 y3 y4 (w05_1 + 1) y6 y7 y8 y9 y10 y11 y12 y13) := hD
        refine lv_goto (tgt := 0) hx hb dX8_skips_21 (by decide) ?_
        have hst : f_X8_skips_st y2 y9 w05_1 = .inl (w05_1 + 1) := by rw [f_X8_skips_st, if_neg c_2]
        have hmu : ((y2 : Int32).toInt - ((w05_1 + 1) : Int32).toInt).toNat < ((y2 : Int32).toInt - (w05_1 : Int32).toInt).toNat := mu_up (Int32.not_le.mpr (ia_1 c_2))
        exact ih0 (w05_1 + 1) (Nat.lt_of_lt_of_le hmu (Nat.le_of_lt_succ hlt0)) (lp_inl hst hF0) (nn_up hi0_0 (Int32.not_le.mpr (ia_1 c_2))) (le_up (ia_1 c_2)) _ _ hP hD hS _ (lv_sub hl [0] rfl)
  exact key (((y2 : Int32).toInt - (y5 : Int32).toInt).toNat + 1) y5 (Nat.lt_succ_self _) rfl hsp0 hsl _ _ hP hD hS _ (lv_sub hl [0] rfl)
theorem sk_inv {I : Int32 → Prop} {t s : Int32} {x : Nat → Int32} (hs : I s) (hst : ∀ w, w < t → I w → I (w + 1)) : I (f_X8_skips t s x) := by
  unfold f_X8_skips
  refine my_l_inv I I ?_ (fun _ h => h)
  refine lp_inm (I := I) (Q := I) (fun w : Int32 => (t.toInt - w.toInt).toNat) ?_ _ _ hs (Nat.lt_succ_self _)
  intro w hw
  unfold f_X8_skips_st
  split
  · exact hw
  · rename_i h
    have h1 := ia_1 h
    exact ⟨hst w h1 hw, mu_up (Int32.not_le.mpr h1)⟩
theorem sp_0 (t w : Int32) (h : w < t) (h0 : ¬ w < 0) : ¬ w + 1 < 0 := nn_up h0 (Int32.not_le.mpr h)
theorem sp_1 (t w : Int32) (h : w < t) (_ : ¬ t < w) : ¬ t < w + 1 := le_up h
theorem sk_0 {t s u : Int32} {x : Nat → Int32} (h0 : ¬ s < 0) (h : f_X8_skips t s x = u) : ¬ u < 0 := by
  subst h; exact sk_inv (I := fun w => ¬ w < 0) h0 (sp_0 t)
theorem sk_1 {t s u : Int32} {x : Nat → Int32} (h0 : ¬ t < s) (h : f_X8_skips t s x = u) : ¬ t < u := by
  subst h; exact sk_inv (I := fun w => ¬ t < w) h0 (sp_1 t)
theorem hd_X8_wordOf_S : yX8_wordOf.cls ≠ "java/lang/invoke/MethodHandle" ∧ yX8_wordOf.cls ≠ "java/lang/invoke/VarHandle" ∧ (parseMethodDescriptor yX8_wordOf.desc).map (fun d => d.parameters.length) = some 2 := by decide +kernel
theorem hd_X8_wordOf_V : yX8_wordOf.cls = RX8 ∧ yX8_wordOf.cls ≠ "java/lang/invoke/MethodHandle" ∧ yX8_wordOf.cls ≠ "java/lang/invoke/VarHandle" ∧ (parseMethodDescriptor yX8_wordOf.desc).map (fun d => d.parameters.length) = some 2 := ⟨rfl, hd_X8_wordOf_S⟩
def f_X8_wordOf_st (y9 : (Nat → Int32)) (x1 : Int32) (i3_1 : Int64) (i5_2 : Int32) : (Int64 × Int32) ⊕ (Int64 × Int32) := (if x1 ≤ i5_2 then (.inr (i3_1, i5_2)) else (.inl (((((27 * i3_1) + (Int32.toInt64 (y9 i5_2.toNatClampNeg))) - 97) + 1), (i5_2 + 1))))
def f_X8_wordOf (y9 : (Nat → Int32)) (x0 : Int32) (x1 : Int32) : Int64 := (my_t2 (lp (fun (x : Int64 × Int32) => f_X8_wordOf_st y9 x1 x.1 x.2) default (((x1 : Int32).toInt - (x0 : Int32).toInt).toNat + 1) (0, x0)) (fun (i3_1 : Int64) (i5_2 : Int32) => (if (x1 - x0) ≤ 6 then i3_1 else 0)))
set_option maxHeartbeats 400000 in
set_option maxRecDepth 100000 in
theorem c_X8_wordOf (l : Launch) (D : va_G) (cy : Nat → ClassId) (g : Nat → Nat) (B : Nat) (a : Nat → Nat) (y0 : Int32) (y1 : Int32) (y2 : Int32) (y3 : Int32) (y4 : Int32) (y5 : Int32) (y6 : Int32) (y7 : (Nat → Int32)) (y8 : (Nat → Int32)) (y9 : (Nat → Int32)) (y10 : (Nat → Int32)) (y11 : (Nat → Int32)) (y12 : (Nat → Int32)) (y13 : (Nat → Int32)) (x0 : Int32) (x1 : Int32) (hx0 : ¬ x0 < 0) (hx1 : ¬ 150 < x1) : Met l yX8_wordOf wsX8_wordOf ({ frames := 0, cells := 0, slots := 0, locals := 0 }) (rdP D cy g B (wModE cy a y0 y1 y2 y3 y4 y5 y6 y7 y8 y9 y10 y11 y12 y13) [.ref (a 0), .int x0, .int x1]) (vp_Sl (fun r => r = f_X8_wordOf y9 x0 x1)) 0 0 (fun _ => False) := by
  refine Met.ofW (cc := cX8_wordOf) (maxL := 6) (ret := (some .long)) (by decide) rfl ?_
  intro p e s m args below meth c s₁ BB hml hv
  obtain ⟨rfl, hP, hK0⟩ := hv
  have hx := BB.exec
  have hb := BB.bytes
  have hr := BB.returns
  have hts := atoms_spec (ws := wsX8_wordOf) BB.pre
  have hown : s.vm.findClass RX8 = some m.cls := findClass_of_methodNamed BB.named
  have hlocks := BB.notSynchronized
  have S := my_fix hx hb hml hown hts
  have inX8 : ∀ w ∈ wsX80, w ∈ wsX8_wordOf := fun w h => List.mem_cons_of_mem _ (List.mem_append_right _ h)
  have hS : va_S (fun q => B ≤ q) s.heap s.heap [] := va_S.rf
  have hAB : ∀ q : Nat, (fun q => B ≤ q) q → B ≤ q := fun _ h => h
  have hl := lv_entry ([.ref (a 0), .int x0, .int x1]) (n := 6) (Nat.le_of_ble_eq_true rfl)
  rw [lg_entry_eq]
  generalize (lg_sl ([.ref (a 0), .int x0, .int x1]) ++ List.replicate (6 - (lg_sl ([.ref (a 0), .int x0, .int x1])).length) Slot.unset).toArray = ls at hl ⊢
  have hl : lv_has ls 6 [(0, .ref (a 0)), (1, .int x0), (2, .int x1)] := hl
  refine lv_lconst (v := 0) hx hb dX8_wordOf_0 (by decide) ?_
  refine lv_lstore_n (lv' := [(3, .long 0), (0, .ref (a 0)), (1, .int x0), (2, .int x1)]) hx hb dX8_wordOf_1 rfl hl (by decide) rfl (fun ls hl => ?_)
  refine lv_iload_n hx hb dX8_wordOf_2 rfl (lv_at hl 2 rfl) ?_
  refine lv_istore (lv' := [(5, .int x0), (3, .long 0), (0, .ref (a 0)), (1, .int x0), (2, .int x1)]) hx hb dX8_wordOf_3 hl (by decide) rfl (fun ls hl => ?_)
  have cont0 : ∀ (i3_1 : Int64) (i5_2 : Int32), lp (fun (x : Int64 × Int32) => f_X8_wordOf_st y9 x1 x.1 x.2) default (((x1 : Int32).toInt - (x0 : Int32).toInt).toNat + 1) (0, x0) = (i3_1, i5_2) → ¬ i5_2 < 0 → ∀ ls : Array Slot, lv_has ls 6 [(0, .ref (a 0)), (1, .int x0), (2, .int x1), (3, .long i3_1), (5, .int i5_2)] → W p l e (headSpec wsX8_wordOf ({ frames := 0, cells := 0, slots := 0, locals := 0 } : Room)).room s m ([.ref (a 0), .int x0, .int x1] : List Value).toArray below meth c s.heap [] 0 0 (MQ below (vp_Sl (fun r => r = f_X8_wordOf y9 x0 x1)) ([.ref (a 0), .int x0, .int x1] : List Value).toArray s 0 0 (fun _ => False)) (F0 m 38 ls []) := by
    intro i3_1 i5_2 hE0 hj0_0 ls hl
    refine lv_iload_n hx hb dX8_wordOf_38 rfl (lv_at hl 2 rfl) ?_
    refine lv_iload_n hx hb dX8_wordOf_39 rfl (lv_at hl 1 rfl) ?_
    refine lv_isub hx hb dX8_wordOf_40 ?_
    refine lv_bipush (v := 6) hx hb dX8_wordOf_41 (by decide) ?_
    refine lv_icmp_le (tgt := 50) hx hb dX8_wordOf_43 (by decide) (fun c_3 => ?_) (fun c_3 => ?_)
    · refine lv_lload_n hx hb dX8_wordOf_50 rfl (lv_at hl 3 rfl) ?_
      exact W.lret hx hb hr (fun t ht hW => ⟨i3_1, rfl, (show f_X8_wordOf y9 x0 x1 = i3_1 from by rw [f_X8_wordOf, hE0, my_t2_eq, if_pos c_3]).symm, ht⟩) (fun q hq => absurd hq List.not_mem_nil) dX8_wordOf_51
    · refine lv_lconst (v := 0) hx hb dX8_wordOf_46 (by decide) ?_
      refine lv_goto (tgt := 51) hx hb dX8_wordOf_47 (by decide) ?_
      exact W.lret hx hb hr (fun t ht hW => ⟨0, rfl, (show f_X8_wordOf y9 x0 x1 = 0 from by rw [f_X8_wordOf, hE0, my_t2_eq, if_neg c_3]).symm, ht⟩) (fun q hq => absurd hq List.not_mem_nil) dX8_wordOf_51
  have key : ∀ (nf : Nat) (i3_1 : Int64) (i5_2 : Int32), ((x1 : Int32).toInt - (i5_2 : Int32).toInt).toNat < nf → lp (fun (x : Int64 × Int32) => f_X8_wordOf_st y9 x1 x.1 x.2) default nf (i3_1, i5_2) = lp (fun (x : Int64 × Int32) => f_X8_wordOf_st y9 x1 x.1 x.2) default (((x1 : Int32).toInt - (x0 : Int32).toInt).toNat + 1) (0, x0) → ¬ i5_2 < 0 → ∀ ls : Array Slot, lv_has ls 6 [(0, .ref (a 0)), (1, .int x0), (2, .int x1), (3, .long i3_1), (5, .int i5_2)] → W p l e (headSpec wsX8_wordOf ({ frames := 0, cells := 0, slots := 0, locals := 0 } : Room)).room s m ([.ref (a 0), .int x0, .int x1] : List Value).toArray below meth c s.heap [] 0 0 (MQ below (vp_Sl (fun r => r = f_X8_wordOf y9 x0 x1)) ([.ref (a 0), .int x0, .int x1] : List Value).toArray s 0 0 (fun _ => False)) (F0 m 5 ls []) := by
    intro n0
    induction n0 with
    | zero => intro i3_1 i5_2 hlt; exact absurd hlt (Nat.not_lt_zero _)
    | succ n0 ih0 =>
      intro i3_1 i5_2 hlt0 hF0 hi0_0 ls hl
      refine lv_iload hx hb dX8_wordOf_5 (lv_at hl 4 rfl) ?_
      refine lv_iload_n hx hb dX8_wordOf_7 rfl (lv_at hl 2 rfl) ?_
      refine lv_icmp_ge (tgt := 38) hx hb dX8_wordOf_8 (by decide) (fun c_4 => ?_) (fun c_4 => ?_)
      · have hst : f_X8_wordOf_st y9 x1 i3_1 i5_2 = .inr (i3_1, i5_2) := by rw [f_X8_wordOf_st, if_pos c_4]
        exact cont0 i3_1 i5_2 (lp_inr hst hF0) hi0_0 _ (lv_sub hl [0, 1, 2, 3, 4] rfl)
      · refine lv_ldc2 hx hb hown (hts (.constantLong RX8 170 (27)) (List.mem_of_getElem? (i := 1) rfl)) dX8_wordOf_11 ?_
        refine lv_lload_n hx hb dX8_wordOf_14 rfl (lv_at hl 3 rfl) ?_
        refine lv_lmul hx hb dX8_wordOf_15 ?_
        refine lv_aload_n hx hb dX8_wordOf_16 rfl (lv_at hl 0 rfl) ?_
        refine va_get (D := D) (ci := 6) (v := .ref (a 3)) (C := RX8) (T := TX8) (N := 14) hx hb hts inX8 hown hK0.1 hP 0 rfl rfl 4 (by decide) (hts (.fieldLink RX8 16 "PivotChamberModel" "text" "[I") (List.mem_of_getElem? (i := 2) rfl)) (fun _ h9 => h9) rfl dX8_wordOf_17 ?_
        refine lv_iload hx hb dX8_wordOf_20 (lv_at hl 4 rfl) ?_
        refine va_iald hx hb hK0.1 hP 3 0 rfl rfl (ix_self (K := 150) (N := 150) hi0_0 c_4 hx1 (by decide)) dX8_wordOf_22 ?_
        refine lv_i2l (v := (Int32.toInt64 (y9 i5_2.toNatClampNeg))) hx hb dX8_wordOf_23 rfl ?_
        refine lv_ladd hx hb dX8_wordOf_24 ?_
        refine lv_ldc2 hx hb hown (hts (.constantLong RX8 172 (97)) (List.mem_of_getElem? (i := 3) rfl)) dX8_wordOf_25 ?_
        refine lv_lsub hx hb dX8_wordOf_28 ?_
        refine lv_lconst (v := 1) hx hb dX8_wordOf_29 (by decide) ?_
        refine lv_ladd hx hb dX8_wordOf_30 ?_
        refine lv_lstore_n (lv' := [(3, .long ((((27 * i3_1) + (Int32.toInt64 (y9 i5_2.toNatClampNeg))) - 97) + 1)), (0, .ref (a 0)), (1, .int x0), (2, .int x1), (5, .int i5_2)]) hx hb dX8_wordOf_31 rfl hl (by decide) rfl (fun ls hl => ?_)
        refine lv_iinc (v := (i5_2 + 1)) (lv' := [(5, .int (i5_2 + 1)), (3, .long ((((27 * i3_1) + (Int32.toInt64 (y9 i5_2.toNatClampNeg))) - 97) + 1)), (0, .ref (a 0)), (1, .int x0), (2, .int x1)]) hx hb dX8_wordOf_32 hl (k := 4) rfl rfl (by decide) rfl (fun ls hl => ?_)
        refine lv_goto (tgt := 5) hx hb dX8_wordOf_35 (by decide) ?_
        have hst : f_X8_wordOf_st y9 x1 i3_1 i5_2 = .inl (((((27 * i3_1) + (Int32.toInt64 (y9 i5_2.toNatClampNeg))) - 97) + 1), (i5_2 + 1)) := by rw [f_X8_wordOf_st, if_neg c_4]
        have hmu : ((x1 : Int32).toInt - ((i5_2 + 1) : Int32).toInt).toNat < ((x1 : Int32).toInt - (i5_2 : Int32).toInt).toNat := mu_up c_4
        exact ih0 ((((27 * i3_1) + (Int32.toInt64 (y9 i5_2.toNatClampNeg))) - 97) + 1) (i5_2 + 1) (Nat.lt_of_lt_of_le hmu (Nat.le_of_lt_succ hlt0)) (lp_inl hst hF0) (nn_up hi0_0 c_4) _ (lv_sub hl [2, 3, 4, 1, 0] rfl)
  exact key (((x1 : Int32).toInt - (x0 : Int32).toInt).toNat + 1) 0 x0 (Nat.lt_succ_self _) rfl hx0 _ (lv_sub hl [2, 3, 4, 1, 0] rfl)
theorem hd_X8_code_S : yX8_code.cls ≠ "java/lang/invoke/MethodHandle" ∧ yX8_code.cls ≠ "java/lang/invoke/VarHandle" ∧ (parseMethodDescriptor yX8_code.desc).map (fun d => d.parameters.length) = some 6 := by decide +kernel
theorem hd_X8_code_V : yX8_code.cls = RX8 ∧ yX8_code.cls ≠ "java/lang/invoke/MethodHandle" ∧ yX8_code.cls ≠ "java/lang/invoke/VarHandle" ∧ (parseMethodDescriptor yX8_code.desc).map (fun d => d.parameters.length) = some 6 := ⟨rfl, hd_X8_code_S⟩
def f_X8_code_st (x0 : Int32) (x1 : Int32) (x2 : Int32) (x3 : Int32) (x4 : Int32) (x5 : Int32) (i6_1 : Int64) (i8_2 : Int32) : (Int64 × Int32) ⊕ (Int64 × Int32) := (if 6 ≤ i8_2 then (.inr (i6_1, i8_2)) else (if i8_2 = 0 then (if x0 ≤ 0 then (.inl (i6_1, (i8_2 + 1))) else (.inl (((((27 * i6_1) + (Int32.toInt64 x0)) - 97) + 1), (i8_2 + 1)))) else (if i8_2 = 1 then (if x1 ≤ 0 then (.inl (i6_1, (i8_2 + 1))) else (.inl (((((27 * i6_1) + (Int32.toInt64 x1)) - 97) + 1), (i8_2 + 1)))) else (if i8_2 = 2 then (if x2 ≤ 0 then (.inl (i6_1, (i8_2 + 1))) else (.inl (((((27 * i6_1) + (Int32.toInt64 x2)) - 97) + 1), (i8_2 + 1)))) else (if i8_2 = 3 then (if x3 ≤ 0 then (.inl (i6_1, (i8_2 + 1))) else (.inl (((((27 * i6_1) + (Int32.toInt64 x3)) - 97) + 1), (i8_2 + 1)))) else (if i8_2 = 4 then (if x4 ≤ 0 then (.inl (i6_1, (i8_2 + 1))) else (.inl (((((27 * i6_1) + (Int32.toInt64 x4)) - 97) + 1), (i8_2 + 1)))) else (if x5 ≤ 0 then (.inl (i6_1, (i8_2 + 1))) else (.inl (((((27 * i6_1) + (Int32.toInt64 x5)) - 97) + 1), (i8_2 + 1))))))))))
def f_X8_code (x0 : Int32) (x1 : Int32) (x2 : Int32) (x3 : Int32) (x4 : Int32) (x5 : Int32) : Int64 := (my_t2 (lp (fun (x : Int64 × Int32) => f_X8_code_st x0 x1 x2 x3 x4 x5 x.1 x.2) default (((6 : Int32).toInt - (0 : Int32).toInt).toNat + 1) (0, 0)) (fun (i6_1 : Int64) (i8_2 : Int32) => i6_1))
set_option maxHeartbeats 1600000 in
set_option maxRecDepth 100000 in
theorem c_X8_code (l : Launch) (D : va_G) (cy : Nat → ClassId) (g : Nat → Nat) (B : Nat)  (x0 : Int32) (x1 : Int32) (x2 : Int32) (x3 : Int32) (x4 : Int32) (x5 : Int32) : Met l yX8_code wsX8_code ({ frames := 0, cells := 0, slots := 0, locals := 0 }) (rdP D cy g B ([] : va_W) [.int x0, .int x1, .int x2, .int x3, .int x4, .int x5]) (vp_Sl (fun r => r = f_X8_code x0 x1 x2 x3 x4 x5)) 0 0 (fun _ => False) := by
  refine Met.ofW (cc := cX8_code) (maxL := 10) (ret := (some .long)) (by decide) rfl ?_
  intro p e s m args below meth c s₁ BB hml hv
  obtain ⟨rfl, hP, hK0⟩ := hv
  have hx := BB.exec
  have hb := BB.bytes
  have hr := BB.returns
  have hts := atoms_spec (ws := wsX8_code) BB.pre
  have hown : s.vm.findClass RX8 = some m.cls := findClass_of_methodNamed BB.named
  have hlocks := BB.notSynchronized
  have S := my_fix hx hb hml hown hts
  have hS : va_S (fun q => B ≤ q) s.heap s.heap [] := va_S.rf
  have hAB : ∀ q : Nat, (fun q => B ≤ q) q → B ≤ q := fun _ h => h
  have hl := lv_entry ([.int x0, .int x1, .int x2, .int x3, .int x4, .int x5]) (n := 10) (Nat.le_of_ble_eq_true rfl)
  rw [lg_entry_eq]
  generalize (lg_sl ([.int x0, .int x1, .int x2, .int x3, .int x4, .int x5]) ++ List.replicate (10 - (lg_sl ([.int x0, .int x1, .int x2, .int x3, .int x4, .int x5])).length) Slot.unset).toArray = ls at hl ⊢
  have hl : lv_has ls 10 [(0, .int x0), (1, .int x1), (2, .int x2), (3, .int x3), (4, .int x4), (5, .int x5)] := hl
  refine lv_lconst (v := 0) hx hb dX8_code_0 (by decide) ?_
  refine lv_lstore (lv' := [(6, .long 0), (0, .int x0), (1, .int x1), (2, .int x2), (3, .int x3), (4, .int x4), (5, .int x5)]) hx hb dX8_code_1 hl (by decide) rfl (fun ls hl => ?_)
  refine lv_iconst (v := 0) hx hb dX8_code_3 (by decide) ?_
  refine lv_istore (lv' := [(8, .int 0), (6, .long 0), (0, .int x0), (1, .int x1), (2, .int x2), (3, .int x3), (4, .int x4), (5, .int x5)]) hx hb dX8_code_4 hl (by decide) rfl (fun ls hl => ?_)
  have cont0 : ∀ (i6_1 : Int64) (i8_2 : Int32), lp (fun (x : Int64 × Int32) => f_X8_code_st x0 x1 x2 x3 x4 x5 x.1 x.2) default (((6 : Int32).toInt - (0 : Int32).toInt).toNat + 1) (0, 0) = (i6_1, i8_2) → ¬ i8_2 < 0 → ∀ ls : Array Slot, lv_has ls 10 [(0, .int x0), (1, .int x1), (2, .int x2), (3, .int x3), (4, .int x4), (5, .int x5), (6, .long i6_1), (8, .int i8_2)] → W p l e (headSpec wsX8_code ({ frames := 0, cells := 0, slots := 0, locals := 0 } : Room)).room s m ([.int x0, .int x1, .int x2, .int x3, .int x4, .int x5] : List Value).toArray below meth c s.heap [] 0 0 (MQ below (vp_Sl (fun r => r = f_X8_code x0 x1 x2 x3 x4 x5)) ([.int x0, .int x1, .int x2, .int x3, .int x4, .int x5] : List Value).toArray s 0 0 (fun _ => False)) (F0 m 101 ls []) := by
    intro i6_1 i8_2 hE0 hj0_0 ls hl
    refine lv_lload hx hb dX8_code_101 (lv_at hl 6 rfl) ?_
    exact W.lret hx hb hr (fun t ht hW => ⟨i6_1, rfl, (show f_X8_code x0 x1 x2 x3 x4 x5 = i6_1 from by rw [f_X8_code, hE0, my_t2_eq]).symm, ht⟩) (fun q hq => absurd hq List.not_mem_nil) dX8_code_103
  have key : ∀ (nf : Nat) (i6_1 : Int64) (i8_2 : Int32), ((6 : Int32).toInt - (i8_2 : Int32).toInt).toNat < nf → lp (fun (x : Int64 × Int32) => f_X8_code_st x0 x1 x2 x3 x4 x5 x.1 x.2) default nf (i6_1, i8_2) = lp (fun (x : Int64 × Int32) => f_X8_code_st x0 x1 x2 x3 x4 x5 x.1 x.2) default (((6 : Int32).toInt - (0 : Int32).toInt).toNat + 1) (0, 0) → ¬ i8_2 < 0 → ∀ ls : Array Slot, lv_has ls 10 [(0, .int x0), (1, .int x1), (2, .int x2), (3, .int x3), (4, .int x4), (5, .int x5), (6, .long i6_1), (8, .int i8_2)] → W p l e (headSpec wsX8_code ({ frames := 0, cells := 0, slots := 0, locals := 0 } : Room)).room s m ([.int x0, .int x1, .int x2, .int x3, .int x4, .int x5] : List Value).toArray below meth c s.heap [] 0 0 (MQ below (vp_Sl (fun r => r = f_X8_code x0 x1 x2 x3 x4 x5)) ([.int x0, .int x1, .int x2, .int x3, .int x4, .int x5] : List Value).toArray s 0 0 (fun _ => False)) (F0 m 6 ls []) := by
    intro n0
    induction n0 with
    | zero => intro i6_1 i8_2 hlt; exact absurd hlt (Nat.not_lt_zero _)
    | succ n0 ih0 =>
      intro i6_1 i8_2 hlt0 hF0 hi0_0 ls hl
      refine lv_iload hx hb dX8_code_6 (lv_at hl 7 rfl) ?_
      refine lv_bipush (v := 6) hx hb dX8_code_8 (by decide) ?_
      refine lv_icmp_ge (tgt := 101) hx hb dX8_code_10 (by decide) (fun c_3 => ?_) (fun c_3 => ?_)
      · have hst : f_X8_code_st x0 x1 x2 x3 x4 x5 i6_1 i8_2 = .inr (i6_1, i8_2) := by rw [f_X8_code_st, if_pos c_3]
        exact cont0 i6_1 i8_2 (lp_inr hst hF0) hi0_0 _ (lv_sub hl [0, 1, 2, 3, 4, 5, 6, 7] rfl)
      · refine lv_iload hx hb dX8_code_13 (lv_at hl 7 rfl) ?_
        refine lv_if_ne (tgt := 22) hx hb dX8_code_15 (by decide) (fun c_4 => ?_) (fun c_4 => ?_)
        · refine lv_iload hx hb dX8_code_22 (lv_at hl 7 rfl) ?_
          refine lv_iconst (v := 1) hx hb dX8_code_24 (by decide) ?_
          refine lv_icmp_ne (tgt := 32) hx hb dX8_code_25 (by decide) (fun c_5 => ?_) (fun c_5 => ?_)
          · refine lv_iload hx hb dX8_code_32 (lv_at hl 7 rfl) ?_
            refine lv_iconst (v := 2) hx hb dX8_code_34 (by decide) ?_
            refine lv_icmp_ne (tgt := 42) hx hb dX8_code_35 (by decide) (fun c_6 => ?_) (fun c_6 => ?_)
            · refine lv_iload hx hb dX8_code_42 (lv_at hl 7 rfl) ?_
              refine lv_iconst (v := 3) hx hb dX8_code_44 (by decide) ?_
              refine lv_icmp_ne (tgt := 52) hx hb dX8_code_45 (by decide) (fun c_7 => ?_) (fun c_7 => ?_)
              · refine lv_iload hx hb dX8_code_52 (lv_at hl 7 rfl) ?_
                refine lv_iconst (v := 4) hx hb dX8_code_54 (by decide) ?_
                refine lv_icmp_ne (tgt := 63) hx hb dX8_code_55 (by decide) (fun c_8 => ?_) (fun c_8 => ?_)
                · refine lv_iload hx hb dX8_code_63 (lv_at hl 5 rfl) ?_
                  refine lv_istore (lv' := [(9, .int x5), (0, .int x0), (1, .int x1), (2, .int x2), (3, .int x3), (4, .int x4), (5, .int x5), (6, .long i6_1), (8, .int i8_2)]) hx hb dX8_code_65 hl (by decide) rfl (fun ls hl => ?_)
                  refine lv_iload hx hb dX8_code_67 (lv_at hl 0 rfl) ?_
                  refine lv_if_le (tgt := 91) hx hb dX8_code_69 (by decide) (fun c_9 => ?_) (fun c_9 => ?_)
                  · refine lv_lload hx hb dX8_code_91 (lv_at hl 7 rfl) ?_
                    refine lv_lstore (lv' := [(6, .long i6_1), (9, .int x5), (0, .int x0), (1, .int x1), (2, .int x2), (3, .int x3), (4, .int x4), (5, .int x5), (8, .int i8_2)]) hx hb dX8_code_93 hl (by decide) rfl (fun ls hl => ?_)
                    refine lv_iinc (v := (i8_2 + 1)) (lv' := [(8, .int (i8_2 + 1)), (6, .long i6_1), (9, .int x5), (0, .int x0), (1, .int x1), (2, .int x2), (3, .int x3), (4, .int x4), (5, .int x5)]) hx hb dX8_code_95 hl (k := 8) rfl rfl (by decide) rfl (fun ls hl => ?_)
                    refine lv_goto (tgt := 6) hx hb dX8_code_98 (by decide) ?_
                    have hst : f_X8_code_st x0 x1 x2 x3 x4 x5 i6_1 i8_2 = .inl (i6_1, (i8_2 + 1)) := by rw [f_X8_code_st, if_neg c_3, if_neg c_4, if_neg c_5, if_neg c_6, if_neg c_7, if_neg c_8, if_pos c_9]
                    have hmu : ((6 : Int32).toInt - ((i8_2 + 1) : Int32).toInt).toNat < ((6 : Int32).toInt - (i8_2 : Int32).toInt).toNat := mu_up c_3
                    exact ih0 i6_1 (i8_2 + 1) (Nat.lt_of_lt_of_le hmu (Nat.le_of_lt_succ hlt0)) (lp_inl hst hF0) (nn_up hi0_0 c_3) _ (lv_sub hl [3, 4, 5, 6, 7, 8, 1, 0] rfl)
                  · refine lv_ldc2 hx hb hown (hts (.constantLong RX8 170 (27)) (List.mem_of_getElem? (i := 1) rfl)) dX8_code_72 ?_
                    refine lv_lload hx hb dX8_code_75 (lv_at hl 7 rfl) ?_
                    refine lv_lmul hx hb dX8_code_77 ?_
                    refine lv_iload hx hb dX8_code_78 (lv_at hl 0 rfl) ?_
                    refine lv_i2l (v := (Int32.toInt64 x5)) hx hb dX8_code_80 rfl ?_
                    refine lv_ladd hx hb dX8_code_81 ?_
                    refine lv_ldc2 hx hb hown (hts (.constantLong RX8 172 (97)) (List.mem_of_getElem? (i := 2) rfl)) dX8_code_82 ?_
                    refine lv_lsub hx hb dX8_code_85 ?_
                    refine lv_lconst (v := 1) hx hb dX8_code_86 (by decide) ?_
                    refine lv_ladd hx hb dX8_code_87 ?_
                    refine lv_goto (tgt := 93) hx hb dX8_code_88 (by decide) ?_
                    refine lv_lstore (lv' := [(6, .long ((((27 * i6_1) + (Int32.toInt64 x5)) - 97) + 1)), (9, .int x5), (0, .int x0), (1, .int x1), (2, .int x2), (3, .int x3), (4, .int x4), (5, .int x5), (8, .int i8_2)]) hx hb dX8_code_93 hl (by decide) rfl (fun ls hl => ?_)
                    refine lv_iinc (v := (i8_2 + 1)) (lv' := [(8, .int (i8_2 + 1)), (6, .long ((((27 * i6_1) + (Int32.toInt64 x5)) - 97) + 1)), (9, .int x5), (0, .int x0), (1, .int x1), (2, .int x2), (3, .int x3), (4, .int x4), (5, .int x5)]) hx hb dX8_code_95 hl (k := 8) rfl rfl (by decide) rfl (fun ls hl => ?_)
                    refine lv_goto (tgt := 6) hx hb dX8_code_98 (by decide) ?_
                    have hst : f_X8_code_st x0 x1 x2 x3 x4 x5 i6_1 i8_2 = .inl (((((27 * i6_1) + (Int32.toInt64 x5)) - 97) + 1), (i8_2 + 1)) := by rw [f_X8_code_st, if_neg c_3, if_neg c_4, if_neg c_5, if_neg c_6, if_neg c_7, if_neg c_8, if_neg c_9]
                    have hmu : ((6 : Int32).toInt - ((i8_2 + 1) : Int32).toInt).toNat < ((6 : Int32).toInt - (i8_2 : Int32).toInt).toNat := mu_up c_3
                    exact ih0 ((((27 * i6_1) + (Int32.toInt64 x5)) - 97) + 1) (i8_2 + 1) (Nat.lt_of_lt_of_le hmu (Nat.le_of_lt_succ hlt0)) (lp_inl hst hF0) (nn_up hi0_0 c_3) _ (lv_sub hl [3, 4, 5, 6, 7, 8, 1, 0] rfl)
                · refine lv_iload hx hb dX8_code_58 (lv_at hl 4 rfl) ?_
                  refine lv_goto (tgt := 65) hx hb dX8_code_60 (by decide) ?_
                  refine lv_istore (lv' := [(9, .int x4), (0, .int x0), (1, .int x1), (2, .int x2), (3, .int x3), (4, .int x4), (5, .int x5), (6, .long i6_1), (8, .int i8_2)]) hx hb dX8_code_65 hl (by decide) rfl (fun ls hl => ?_)
                  refine lv_iload hx hb dX8_code_67 (lv_at hl 0 rfl) ?_
                  refine lv_if_le (tgt := 91) hx hb dX8_code_69 (by decide) (fun c_10 => ?_) (fun c_10 => ?_)
                  · refine lv_lload hx hb dX8_code_91 (lv_at hl 7 rfl) ?_
                    refine lv_lstore (lv' := [(6, .long i6_1), (9, .int x4), (0, .int x0), (1, .int x1), (2, .int x2), (3, .int x3), (4, .int x4), (5, .int x5), (8, .int i8_2)]) hx hb dX8_code_93 hl (by decide) rfl (fun ls hl => ?_)
                    refine lv_iinc (v := (i8_2 + 1)) (lv' := [(8, .int (i8_2 + 1)), (6, .long i6_1), (9, .int x4), (0, .int x0), (1, .int x1), (2, .int x2), (3, .int x3), (4, .int x4), (5, .int x5)]) hx hb dX8_code_95 hl (k := 8) rfl rfl (by decide) rfl (fun ls hl => ?_)
                    refine lv_goto (tgt := 6) hx hb dX8_code_98 (by decide) ?_
                    have hst : f_X8_code_st x0 x1 x2 x3 x4 x5 i6_1 i8_2 = .inl (i6_1, (i8_2 + 1)) := by rw [f_X8_code_st, if_neg c_3, if_neg c_4, if_neg c_5, if_neg c_6, if_neg c_7, if_pos c_8, if_pos c_10]
                    have hmu : ((6 : Int32).toInt - ((i8_2 + 1) : Int32).toInt).toNat < ((6 : Int32).toInt - (i8_2 : Int32).toInt).toNat := mu_up c_3
                    exact ih0 i6_1 (i8_2 + 1) (Nat.lt_of_lt_of_le hmu (Nat.le_of_lt_succ hlt0)) (lp_inl hst hF0) (nn_up hi0_0 c_3) _ (lv_sub hl [3, 4, 5, 6, 7, 8, 1, 0] rfl)
                  · refine lv_ldc2 hx hb hown (hts (.constantLong RX8 170 (27)) (List.mem_of_getElem? (i := 1) rfl)) dX8_code_72 ?_
                    refine lv_lload hx hb dX8_code_75 (lv_at hl 7 rfl) ?_
                    refine lv_lmul hx hb dX8_code_77 ?_
                    refine lv_iload hx hb dX8_code_78 (lv_at hl 0 rfl) ?_
                    refine lv_i2l (v := (Int32.toInt64 x4)) hx hb dX8_code_80 rfl ?_
                    refine lv_ladd hx hb dX8_code_81 ?_
                    refine lv_ldc2 hx hb hown (hts (.constantLong RX8 172 (97)) (List.mem_of_getElem? (i := 2) rfl)) dX8_code_82 ?_
                    refine lv_lsub hx hb dX8_code_85 ?_
                    refine lv_lconst (v := 1) hx hb dX8_code_86 (by decide) ?_
                    refine lv_ladd hx hb dX8_code_87 ?_
                    refine lv_goto (tgt := 93) hx hb dX8_code_88 (by decide) ?_
                    refine lv_lstore (lv' := [(6, .long ((((27 * i6_1) + (Int32.toInt64 x4)) - 97) + 1)), (9, .int x4), (0, .int x0), (1, .int x1), (2, .int x2), (3, .int x3), (4, .int x4), (5, .int x5), (8, .int i8_2)]) hx hb dX8_code_93 hl (by decide) rfl (fun ls hl => ?_)
                    refine lv_iinc (v := (i8_2 + 1)) (lv' := [(8, .int (i8_2 + 1)), (6, .long ((((27 * i6_1) + (Int32.toInt64 x4)) - 97) + 1)), (9, .int x4), (0, .int x0), (1, .int x1), (2, .int x2), (3, .int x3), (4, .int x4), (5, .int x5)]) hx hb dX8_code_95 hl (k := 8) rfl rfl (by decide) rfl (fun ls hl => ?_)
                    refine lv_goto (tgt := 6) hx hb dX8_code_98 (by decide) ?_
                    have hst : f_X8_code_st x0 x1 x2 x3 x4 x5 i6_1 i8_2 = .inl (((((27 * i6_1) + (Int32.toInt64 x4)) - 97) + 1), (i8_2 + 1)) := by rw [f_X8_code_st, if_neg c_3, if_neg c_4, if_neg c_5, if_neg c_6, if_neg c_7, if_pos c_8, if_neg c_10]
                    have hmu : ((6 : Int32).toInt - ((i8_2 + 1) : Int32).toInt).toNat < ((6 : Int32).toInt - (i8_2 : Int32).toInt).toNat := mu_up c_3
                    exact ih0 ((((27 * i6_1) + (Int32.toInt64 x4)) - 97) + 1) (i8_2 + 1) (Nat.lt_of_lt_of_le hmu (Nat.le_of_lt_succ hlt0)) (lp_inl hst hF0) (nn_up hi0_0 c_3) _ (lv_sub hl [3, 4, 5, 6, 7, 8, 1, 0] rfl)
              · refine lv_iload_n hx hb dX8_code_48 rfl (lv_at hl 3 rfl) ?_
                refine lv_goto (tgt := 65) hx hb dX8_code_49 (by decide) ?_
                refine lv_istore (lv' := [(9, .int x3), (0, .int x0), (1, .int x1), (2, .int x2), (3, .int x3), (4, .int x4), (5, .int x5), (6, .long i6_1), (8, .int i8_2)]) hx hb dX8_code_65 hl (by decide) rfl (fun ls hl => ?_)
                refine lv_iload hx hb dX8_code_67 (lv_at hl 0 rfl) ?_
                refine lv_if_le (tgt := 91) hx hb dX8_code_69 (by decide) (fun c_11 => ?_) (fun c_11 => ?_)
                · refine lv_lload hx hb dX8_code_91 (lv_at hl 7 rfl) ?_
                  refine lv_lstore (lv' := [(6, .long i6_1), (9, .int x3), (0, .int x0), (1, .int x1), (2, .int x2), (3, .int x3), (4, .int x4), (5, .int x5), (8, .int i8_2)]) hx hb dX8_code_93 hl (by decide) rfl (fun ls hl => ?_)
                  refine lv_iinc (v := (i8_2 + 1)) (lv' := [(8, .int (i8_2 + 1)), (6, .long i6_1), (9, .int x3), (0, .int x0), (1, .int x1), (2, .int x2), (3, .int x3), (4, .int x4), (5, .int x5)]) hx hb dX8_code_95 hl (k := 8) rfl rfl (by decide) rfl (fun ls hl => ?_)
                  refine lv_goto (tgt := 6) hx hb dX8_code_98 (by decide) ?_
                  have hst : f_X8_code_st x0 x1 x2 x3 x4 x5 i6_1 i8_2 = .inl (i6_1, (i8_2 + 1)) := by rw [f_X8_code_st, if_neg c_3, if_neg c_4, if_neg c_5, if_neg c_6, if_pos c_7, if_pos c_11]
                  have hmu : ((6 : Int32).toInt - ((i8_2 + 1) : Int32).toInt).toNat < ((6 : Int32).toInt - (i8_2 : Int32).toInt).toNat := mu_up c_3
                  exact ih0 i6_1 (i8_2 + 1) (Nat.lt_of_lt_of_le hmu (Nat.le_of_lt_succ hlt0)) (lp_inl hst hF0) (nn_up hi0_0 c_3) _ (lv_sub hl [3, 4, 5, 6, 7, 8, 1, 0] rfl)
                · refine lv_ldc2 hx hb hown (hts (.constantLong RX8 170 (27)) (List.mem_of_getElem? (i := 1) rfl)) dX8_code_72 ?_
                  refine lv_lload hx hb dX8_code_75 (lv_at hl 7 rfl) ?_
                  refine lv_lmul hx hb dX8_code_77 ?_
                  refine lv_iload hx hb dX8_code_78 (lv_at hl 0 rfl) ?_
                  refine lv_i2l (v := (Int32.toInt64 x3)) hx hb dX8_code_80 rfl ?_
                  refine lv_ladd hx hb dX8_code_81 ?_
                  refine lv_ldc2 hx hb hown (hts (.constantLong RX8 172 (97)) (List.mem_of_getElem? (i := 2) rfl)) dX8_code_82 ?_
                  refine lv_lsub hx hb dX8_code_85 ?_
                  refine lv_lconst (v := 1) hx hb dX8_code_86 (by decide) ?_
                  refine lv_ladd hx hb dX8_code_87 ?_
                  refine lv_goto (tgt := 93) hx hb dX8_code_88 (by decide) ?_
                  refine lv_lstore (lv' := [(6, .long ((((27 * i6_1) + (Int32.toInt64 x3)) - 97) + 1)), (9, .int x3), (0, .int x0), (1, .int x1), (2, .int x2), (3, .int x3), (4, .int x4), (5, .int x5), (8, .int i8_2)]) hx hb dX8_code_93 hl (by decide) rfl (fun ls hl => ?_)
                  refine lv_iinc (v := (i8_2 + 1)) (lv' := [(8, .int (i8_2 + 1)), (6, .long ((((27 * i6_1) + (Int32.toInt64 x3)) - 97) + 1)), (9, .int x3), (0, .int x0), (1, .int x1), (2, .int x2), (3, .int x3), (4, .int x4), (5, .int x5)]) hx hb dX8_code_95 hl (k := 8) rfl rfl (by decide) rfl (fun ls hl => ?_)
                  refine lv_goto (tgt := 6) hx hb dX8_code_98 (by decide) ?_
                  have hst : f_X8_code_st x0 x1 x2 x3 x4 x5 i6_1 i8_2 = .inl (((((27 * i6_1) + (Int32.toInt64 x3)) - 97) + 1), (i8_2 + 1)) := by rw [f_X8_code_st, if_neg c_3, if_neg c_4, if_neg c_5, if_neg c_6, if_pos c_7, if_neg c_11]
                  have hmu : ((6 : Int32).toInt - ((i8_2 + 1) : Int32).toInt).toNat < ((6 : Int32).toInt - (i8_2 : Int32).toInt).toNat := mu_up c_3
                  exact ih0 ((((27 * i6_1) + (Int32.toInt64 x3)) - 97) + 1) (i8_2 + 1) (Nat.lt_of_lt_of_le hmu (Nat.le_of_lt_succ hlt0)) (lp_inl hst hF0) (nn_up hi0_0 c_3) _ (lv_sub hl [3, 4, 5, 6, 7, 8, 1, 0] rfl)
            · refine lv_iload_n hx hb dX8_code_38 rfl (lv_at hl 2 rfl) ?_
              refine lv_goto (tgt := 65) hx hb dX8_code_39 (by decide) ?_
              refine lv_istore (lv' := [(9, .int x2), (0, .int x0), (1, .int x1), (2, .int x2), (3, .int x3), (4, .int x4), (5, .int x5), (6, .long i6_1), (8, .int i8_2)]) hx hb dX8_code_65 hl (by decide) rfl (fun ls hl => ?_)
              refine lv_iload hx hb dX8_code_67 (lv_at hl 0 rfl) ?_
              refine lv_if_le (tgt := 91) hx hb dX8_code_69 (by decide) (fun c_12 => ?_) (fun c_12 => ?_)
              · refine lv_lload hx hb dX8_code_91 (lv_at hl 7 rfl) ?_
                refine lv_lstore (lv' := [(6, .long i6_1), (9, .int x2), (0, .int x0), (1, .int x1), (2, .int x2), (3, .int x3), (4, .int x4), (5, .int x5), (8, .int i8_2)]) hx hb dX8_code_93 hl (by decide) rfl (fun ls hl => ?_)
                refine lv_iinc (v := (i8_2 + 1)) (lv' := [(8, .int (i8_2 + 1)), (6, .long i6_1), (9, .int x2), (0, .int x0), (1, .int x1), (2, .int x2), (3, .int x3), (4, .int x4), (5, .int x5)]) hx hb dX8_code_95 hl (k := 8) rfl rfl (by decide) rfl (fun ls hl => ?_)
                refine lv_goto (tgt := 6) hx hb dX8_code_98 (by decide) ?_
                have hst : f_X8_code_st x0 x1 x2 x3 x4 x5 i6_1 i8_2 = .inl (i6_1, (i8_2 + 1)) := by rw [f_X8_code_st, if_neg c_3, if_neg c_4, if_neg c_5, if_pos c_6, if_pos c_12]
                have hmu : ((6 : Int32).toInt - ((i8_2 + 1) : Int32).toInt).toNat < ((6 : Int32).toInt - (i8_2 : Int32).toInt).toNat := mu_up c_3
                exact ih0 i6_1 (i8_2 + 1) (Nat.lt_of_lt_of_le hmu (Nat.le_of_lt_succ hlt0)) (lp_inl hst hF0) (nn_up hi0_0 c_3) _ (lv_sub hl [3, 4, 5, 6, 7, 8, 1, 0] rfl)
              · refine lv_ldc2 hx hb hown (hts (.constantLong RX8 170 (27)) (List.mem_of_getElem? (i := 1) rfl)) dX8_code_72 ?_
                refine lv_lload hx hb dX8_code_75 (lv_at hl 7 rfl) ?_
                refine lv_lmul hx hb dX8_code_77 ?_
                refine lv_iload hx hb dX8_code_78 (lv_at hl 0 rfl) ?_
                refine lv_i2l (v := (Int32.toInt64 x2)) hx hb dX8_code_80 rfl ?_
                refine lv_ladd hx hb dX8_code_81 ?_
                refine lv_ldc2 hx hb hown (hts (.constantLong RX8 172 (97)) (List.mem_of_getElem? (i := 2) rfl)) dX8_code_82 ?_
                refine lv_lsub hx hb dX8_code_85 ?_
                refine lv_lconst (v := 1) hx hb dX8_code_86 (by decide) ?_
                refine lv_ladd hx hb dX8_code_87 ?_
                refine lv_goto (tgt := 93) hx hb dX8_code_88 (by decide) ?_
                refine lv_lstore (lv' := [(6, .long ((((27 * i6_1) + (Int32.toInt64 x2)) - 97) + 1)), (9, .int x2), (0, .int x0), (1, .int x1), (2, .int x2), (3, .int x3), (4, .int x4), (5, .int x5), (8, .int i8_2)]) hx hb dX8_code_93 hl (by decide) rfl (fun ls hl => ?_)
                refine lv_iinc (v := (i8_2 + 1)) (lv' := [(8, .int (i8_2 + 1)), (6, .long ((((27 * i6_1) + (Int32.toInt64 x2)) - 97) + 1)), (9, .int x2), (0, .int x0), (1, .int x1), (2, .int x2), (3, .int x3), (4, .int x4), (5, .int x5)]) hx hb dX8_code_95 hl (k := 8) rfl rfl (by decide) rfl (fun ls hl => ?_)
                refine lv_goto (tgt := 6) hx hb dX8_code_98 (by decide) ?_
                have hst : f_X8_code_st x0 x1 x2 x3 x4 x5 i6_1 i8_2 = .inl (((((27 * i6_1) + (Int32.toInt64 x2)) - 97) + 1), (i8_2 + 1)) := by rw [f_X8_code_st, if_neg c_3, if_neg c_4, if_neg c_5, if_pos c_6, if_neg c_12]
                have hmu : ((6 : Int32).toInt - ((i8_2 + 1) : Int32).toInt).toNat < ((6 : Int32).toInt - (i8_2 : Int32).toInt).toNat := mu_up c_3
                exact ih0 ((((27 * i6_1) + (Int32.toInt64 x2)) - 97) + 1) (i8_2 + 1) (Nat.lt_of_lt_of_le hmu (Nat.le_of_lt_succ hlt0)) (lp_inl hst hF0) (nn_up hi0_0 c_3) _ (lv_sub hl [3, 4, 5, 6, 7, 8, 1, 0] rfl)
          · refine lv_iload_n hx hb dX8_code_28 rfl (lv_at hl 1 rfl) ?_
            refine lv_goto (tgt := 65) hx hb dX8_code_29 (by decide) ?_
            refine lv_istore (lv' := [(9, .int x1), (0, .int x0), (1, .int x1), (2, .int x2), (3, .int x3), (4, .int x4), (5, .int x5), (6, .long i6_1), (8, .int i8_2)]) hx hb dX8_code_65 hl (by decide) rfl (fun ls hl => ?_)
            refine lv_iload hx hb dX8_code_67 (lv_at hl 0 rfl) ?_
            refine lv_if_le (tgt := 91) hx hb dX8_code_69 (by decide) (fun c_13 => ?_) (fun c_13 => ?_)
            · refine lv_lload hx hb dX8_code_91 (lv_at hl 7 rfl) ?_
              refine lv_lstore (lv' := [(6, .long i6_1), (9, .int x1), (0, .int x0), (1, .int x1), (2, .int x2), (3, .int x3), (4, .int x4), (5, .int x5), (8, .int i8_2)]) hx hb dX8_code_93 hl (by decide) rfl (fun ls hl => ?_)
              refine lv_iinc (v := (i8_2 + 1)) (lv' := [(8, .int (i8_2 + 1)), (6, .long i6_1), (9, .int x1), (0, .int x0), (1, .int x1), (2, .int x2), (3, .int x3), (4, .int x4), (5, .int x5)]) hx hb dX8_code_95 hl (k := 8) rfl rfl (by decide) rfl (fun ls hl => ?_)
              refine lv_goto (tgt := 6) hx hb dX8_code_98 (by decide) ?_
              have hst : f_X8_code_st x0 x1 x2 x3 x4 x5 i6_1 i8_2 = .inl (i6_1, (i8_2 + 1)) := by rw [f_X8_code_st, if_neg c_3, if_neg c_4, if_pos c_5, if_pos c_13]
              have hmu : ((6 : Int32).toInt - ((i8_2 + 1) : Int32).toInt).toNat < ((6 : Int32).toInt - (i8_2 : Int32).toInt).toNat := mu_up c_3
              exact ih0 i6_1 (i8_2 + 1) (Nat.lt_of_lt_of_le hmu (Nat.le_of_lt_succ hlt0)) (lp_inl hst hF0) (nn_up hi0_0 c_3) _ (lv_sub hl [3, 4, 5, 6, 7, 8, 1, 0] rfl)
            · refine lv_ldc2 hx hb hown (hts (.constantLong RX8 170 (27)) (List.mem_of_getElem? (i := 1) rfl)) dX8_code_72 ?_
              refine lv_lload hx hb dX8_code_75 (lv_at hl 7 rfl) ?_
              refine lv_lmul hx hb dX8_code_77 ?_
              refine lv_iload hx hb dX8_code_78 (lv_at hl 0 rfl) ?_
              refine lv_i2l (v := (Int32.toInt64 x1)) hx hb dX8_code_80 rfl ?_
              refine lv_ladd hx hb dX8_code_81 ?_
              refine lv_ldc2 hx hb hown (hts (.constantLong RX8 172 (97)) (List.mem_of_getElem? (i := 2) rfl)) dX8_code_82 ?_
              refine lv_lsub hx hb dX8_code_85 ?_
              refine lv_lconst (v := 1) hx hb dX8_code_86 (by decide) ?_
              refine lv_ladd hx hb dX8_code_87 ?_
              refine lv_goto (tgt := 93) hx hb dX8_code_88 (by decide) ?_
              refine lv_lstore (lv' := [(6, .long ((((27 * i6_1) + (Int32.toInt64 x1)) - 97) + 1)), (9, .int x1), (0, .int x0), (1, .int x1), (2, .int x2), (3, .int x3), (4, .int x4), (5, .int x5), (8, .int i8_2)]) hx hb dX8_code_93 hl (by decide) rfl (fun ls hl => ?_)
              refine lv_iinc (v := (i8_2 + 1)) (lv' := [(8, .int (i8_2 + 1)), (6, .long ((((27 * i6_1) + (Int32.toInt64 x1)) - 97) + 1)), (9, .int x1), (0, .int x0), (1, .int x1), (2, .int x2), (3, .int x3), (4, .int x4), (5, .int x5)]) hx hb dX8_code_95 hl (k := 8) rfl rfl (by decide) rfl (fun ls hl => ?_)
              refine lv_goto (tgt := 6) hx hb dX8_code_98 (by decide) ?_
              have hst : f_X8_code_st x0 x1 x2 x3 x4 x5 i6_1 i8_2 = .inl (((((27 * i6_1) + (Int32.toInt64 x1)) - 97) + 1), (i8_2 + 1)) := by rw [f_X8_code_st, if_neg c_3, if_neg c_4, if_pos c_5, if_neg c_13]
              have hmu : ((6 : Int32).toInt - ((i8_2 + 1) : Int32).toInt).toNat < ((6 : Int32).toInt - (i8_2 : Int32).toInt).toNat := mu_up c_3
              exact ih0 ((((27 * i6_1) + (Int32.toInt64 x1)) - 97) + 1) (i8_2 + 1) (Nat.lt_of_lt_of_le hmu (Nat.le_of_lt_succ hlt0)) (lp_inl hst hF0) (nn_up hi0_0 c_3) _ (lv_sub hl [3, 4, 5, 6, 7, 8, 1, 0] rfl)
        · refine lv_iload_n hx hb dX8_code_18 rfl (lv_at hl 0 rfl) ?_
          refine lv_goto (tgt := 65) hx hb dX8_code_19 (by decide) ?_
          refine lv_istore (lv' := [(9, .int x0), (0, .int x0), (1, .int x1), (2, .int x2), (3, .int x3), (4, .int x4), (5, .int x5), (6, .long i6_1), (8, .int i8_2)]) hx hb dX8_code_65 hl (by decide) rfl (fun ls hl => ?_)
          refine lv_iload hx hb dX8_code_67 (lv_at hl 0 rfl) ?_
          refine lv_if_le (tgt := 91) hx hb dX8_code_69 (by decide) (fun c_14 => ?_) (fun c_14 => ?_)
          · refine lv_lload hx hb dX8_code_91 (lv_at hl 7 rfl) ?_
            refine lv_lstore (lv' := [(6, .long i6_1), (9, .int x0), (0, .int x0), (1, .int x1), (2, .int x2), (3, .int x3), (4, .int x4), (5, .int x5), (8, .int i8_2)]) hx hb dX8_code_93 hl (by decide) rfl (fun ls hl => ?_)
            refine lv_iinc (v := (i8_2 + 1)) (lv' := [(8, .int (i8_2 + 1)), (6, .long i6_1), (9, .int x0), (0, .int x0), (1, .int x1), (2, .int x2), (3, .int x3), (4, .int x4), (5, .int x5)]) hx hb dX8_code_95 hl (k := 8) rfl rfl (by decide) rfl (fun ls hl => ?_)
            refine lv_goto (tgt := 6) hx hb dX8_code_98 (by decide) ?_
            have hst : f_X8_code_st x0 x1 x2 x3 x4 x5 i6_1 i8_2 = .inl (i6_1, (i8_2 + 1)) := by rw [f_X8_code_st, if_neg c_3, if_pos c_4, if_pos c_14]
            have hmu : ((6 : Int32).toInt - ((i8_2 + 1) : Int32).toInt).toNat < ((6 : Int32).toInt - (i8_2 : Int32).toInt).toNat := mu_up c_3
            exact ih0 i6_1 (i8_2 + 1) (Nat.lt_of_lt_of_le hmu (Nat.le_of_lt_succ hlt0)) (lp_inl hst hF0) (nn_up hi0_0 c_3) _ (lv_sub hl [3, 4, 5, 6, 7, 8, 1, 0] rfl)
          · refine lv_ldc2 hx hb hown (hts (.constantLong RX8 170 (27)) (List.mem_of_getElem? (i := 1) rfl)) dX8_code_72 ?_
            refine lv_lload hx hb dX8_code_75 (lv_at hl 7 rfl) ?_
            refine lv_lmul hx hb dX8_code_77 ?_
            refine lv_iload hx hb dX8_code_78 (lv_at hl 0 rfl) ?_
            refine lv_i2l (v := (Int32.toInt64 x0)) hx hb dX8_code_80 rfl ?_
            refine lv_ladd hx hb dX8_code_81 ?_
            refine lv_ldc2 hx hb hown (hts (.constantLong RX8 172 (97)) (List.mem_of_getElem? (i := 2) rfl)) dX8_code_82 ?_
            refine lv_lsub hx hb dX8_code_85 ?_
            refine lv_lconst (v := 1) hx hb dX8_code_86 (by decide) ?_
            refine lv_ladd hx hb dX8_code_87 ?_
            refine lv_goto (tgt := 93) hx hb dX8_code_88 (by decide) ?_
            refine lv_lstore (lv' := [(6, .long ((((27 * i6_1) + (Int32.toInt64 x0)) - 97) + 1)), (9, .int x0), (0, .int x0), (1, .int x1), (2, .int x2), (3, .int x3), (4, .int x4), (5, .int x5), (8, .int i8_2)]) hx hb dX8_code_93 hl (by decide) rfl (fun ls hl => ?_)
            refine lv_iinc (v := (i8_2 + 1)) (lv' := [(8, .int (i8_2 + 1)), (6, .long ((((27 * i6_1) + (Int32.toInt64 x0)) - 97) + 1)), (9, .int x0), (0, .int x0), (1, .int x1), (2, .int x2), (3, .int x3), (4, .int x4), (5, .int x5)]) hx hb dX8_code_95 hl (k := 8) rfl rfl (by decide) rfl (fun ls hl => ?_)
            refine lv_goto (tgt := 6) hx hb dX8_code_98 (by decide) ?_
            have hst : f_X8_code_st x0 x1 x2 x3 x4 x5 i6_1 i8_2 = .inl (((((27 * i6_1) + (Int32.toInt64 x0)) - 97) + 1), (i8_2 + 1)) := by rw [f_X8_code_st, if_neg c_3, if_pos c_4, if_neg c_14]
            have hmu : ((6 : Int32).toInt - ((i8_2 + 1) : Int32).toInt).toNat < ((6 : Int32).toInt - (i8_2 : Int32).toInt).toNat := mu_up c_3
            exact ih0 ((((27 * i6_1) + (Int32.toInt64 x0)) - 97) + 1) (i8_2 + 1) (Nat.lt_of_lt_of_le hmu (Nat.le_of_lt_succ hlt0)) (lp_inl hst hF0) (nn_up hi0_0 c_3) _ (lv_sub hl [3, 4, 5, 6, 7, 8, 1, 0] rfl)
  exact key (((6 : Int32).toInt - (0 : Int32).toInt).toNat + 1) 0 0 (Nat.lt_succ_self _) rfl (by decide) _ (lv_sub hl [2, 3, 4, 5, 6, 7, 1, 0] rfl)
theorem hd_X8_commandOf_S : yX8_commandOf.cls ≠ "java/lang/invoke/MethodHandle" ∧ yX8_commandOf.cls ≠ "java/lang/invoke/VarHandle" ∧ (parseMethodDescriptor yX8_commandOf.desc).map (fun d => d.parameters.length) = some 1 := by decide +kernel
theorem hd_X8_commandOf_V : yX8_commandOf.cls = RX8 ∧ yX8_commandOf.cls ≠ "java/lang/invoke/MethodHandle" ∧ yX8_commandOf.cls ≠ "java/lang/invoke/VarHandle" ∧ (parseMethodDescriptor yX8_commandOf.desc).map (fun d => d.parameters.length) = some 1 := ⟨rfl, hd_X8_commandOf_S⟩
def f_X8_commandOf (x0 : Int64) : Int32 := (if (lg_cmp x0 (f_X8_code 97 100 100 0 0 0)) = 0 then 0 else (if (lg_cmp x0 (f_X8_code 119 101 105 103 104 116)) = 0 then 1 else (if (lg_cmp x0 (f_X8_code 113 117 111 116 97 0)) = 0 then 2 else (if (lg_cmp x0 (f_X8_code 102 111 108 108 111 119)) = 0 then 3 else (if (lg_cmp x0 (f_X8_code 108 101 97 118 101 0)) = 0 then 4 else (if (lg_cmp x0 (f_X8_code 114 117 108 101 0 0)) = 0 then 5 else (if (lg_cmp x0 (f_X8_code 100 114 111 112 0 0)) = 0 then 6 else (-1))))))))
set_option maxHeartbeats 400000 in
set_option maxRecDepth 100000 in
theorem c_X8_commandOf (l : Launch) (D : va_G) (cy : Nat → ClassId) (g : Nat → Nat) (B : Nat)  (x0 : Int64) : Met l yX8_commandOf wsX8_commandOf ({ frames := 1, cells := 0, slots := 0, locals := 29 }) (rdP D cy g B ([] : va_W) [.long x0]) (vp_Si (fun r => r = f_X8_commandOf x0)) 0 0 (fun _ => False) := by
  refine Met.ofW (cc := cX8_commandOf) (maxL := 2) (ret := (some .int)) (by decide) rfl ?_
  intro p e s m args below meth c s₁ BB hml hv
  obtain ⟨rfl, hP, hK0⟩ := hv
  have hx := BB.exec
  have hb := BB.bytes
  have hr := BB.returns
  have hts := atoms_spec (ws := wsX8_commandOf) BB.pre
  have hown : s.vm.findClass RX8 = some m.cls := findClass_of_methodNamed BB.named
  have hlocks := BB.notSynchronized
  have S := my_fix hx hb hml hown hts
  have hS : va_S (fun q => B ≤ q) s.heap s.heap [] := va_S.rf
  have hAB : ∀ q : Nat, (fun q => B ≤ q) q → B ≤ q := fun _ h => h
  have hl := lv_entry ([.long x0]) (n := 2) (Nat.le_of_ble_eq_true rfl)
  rw [lg_entry_eq]
  generalize (lg_sl ([.long x0]) ++ List.replicate (2 - (lg_sl ([.long x0])).length) Slot.unset).toArray = ls at hl ⊢
  have hl : lv_has ls 2 [(0, .long x0)] := hl
  refine lv_lload_n hx hb dX8_commandOf_0 rfl (lv_at hl 0 rfl) ?_
  refine lv_bipush (v := 97) hx hb dX8_commandOf_1 (by decide) ?_
  refine lv_bipush (v := 100) hx hb dX8_commandOf_3 (by decide) ?_
  refine lv_bipush (v := 100) hx hb dX8_commandOf_5 (by decide) ?_
  refine lv_iconst (v := 0) hx hb dX8_commandOf_7 (by decide) ?_
  refine lv_iconst (v := 0) hx hb dX8_commandOf_8 (by decide) ?_
  refine lv_iconst (v := 0) hx hb dX8_commandOf_9 (by decide) ?_
  refine rd_gol (va_runS (As := [.int 97, .int 100, .int 100, .int 0, .int 0, .int 0]) (rest := [.long x0]) S (c_X8_code l D cy g B 97 100 100 0 0 0) (va_cwS 6 hts gX8_commandOf_X8_code rfl rfl rfl hd_X8_code_S ⟨Nat.le_of_ble_eq_true rfl, Nat.le_of_ble_eq_true rfl⟩) ⟨rdP_blind, my_preV hK0 hS hAB hP [] rfl⟩ rfl rfl hl.1 rfl (lv_room (Nat.le_of_ble_eq_true rfl)) dX8_commandOf_10 ⟨Nat.zero_le _, Nat.zero_le _⟩) ?_
  refine W.lcmp hx hb dX8_commandOf_13 ?_
  refine lv_if_ne (tgt := 19) hx hb dX8_commandOf_14 (by decide) (fun c_1 => ?_) (fun c_1 => ?_)
  · refine lv_lload_n hx hb dX8_commandOf_19 rfl (lv_at hl 0 rfl) ?_
    refine lv_bipush (v := 119) hx hb dX8_commandOf_20 (by decide) ?_
    refine lv_bipush (v := 101) hx hb dX8_commandOf_22 (by decide) ?_
    refine lv_bipush (v := 105) hx hb dX8_commandOf_24 (by decide) ?_
    refine lv_bipush (v := 103) hx hb dX8_commandOf_26 (by decide) ?_
    refine lv_bipush (v := 104) hx hb dX8_commandOf_28 (by decide) ?_
    refine lv_bipush (v := 116) hx hb dX8_commandOf_30 (by decide) ?_
    refine rd_gol (va_runS (As := [.int 119, .int 101, .int 105, .int 103, .int 104, .int 116]) (rest := [.long x0]) S (c_X8_code l D cy g B 119 101 105 103 104 116) (va_cwS 6 hts gX8_commandOf_X8_code rfl rfl rfl hd_X8_code_S ⟨Nat.le_of_ble_eq_true rfl, Nat.le_of_ble_eq_true rfl⟩) ⟨rdP_blind, my_preV hK0 hS hAB hP [] rfl⟩ rfl rfl hl.1 rfl (lv_room (Nat.le_of_ble_eq_true rfl)) dX8_commandOf_32 ⟨Nat.zero_le _, Nat.zero_le _⟩) ?_
    refine W.lcmp hx hb dX8_commandOf_35 ?_
    refine lv_if_ne (tgt := 41) hx hb dX8_commandOf_36 (by decide) (fun c_2 => ?_) (fun c_2 => ?_)
    · refine lv_lload_n hx hb dX8_commandOf_41 rfl (lv_at hl 0 rfl) ?_
      refine lv_bipush (v := 113) hx hb dX8_commandOf_42 (by decide) ?_
      refine lv_bipush (v := 117) hx hb dX8_commandOf_44 (by decide) ?_
      refine lv_bipush (v := 111) hx hb dX8_commandOf_46 (by decide) ?_
      refine lv_bipush (v := 116) hx hb dX8_commandOf_48 (by decide) ?_
      refine lv_bipush (v := 97) hx hb dX8_commandOf_50 (by decide) ?_
      refine lv_iconst (v := 0) hx hb dX8_commandOf_52 (by decide) ?_
      refine rd_gol (va_runS (As := [.int 113, .int 117, .int 111, .int 116, .int 97, .int 0]) (rest := [.long x0]) S (c_X8_code l D cy g B 113 117 111 116 97 0) (va_cwS 6 hts gX8_commandOf_X8_code rfl rfl rfl hd_X8_code_S ⟨Nat.le_of_ble_eq_true rfl, Nat.le_of_ble_eq_true rfl⟩) ⟨rdP_blind, my_preV hK0 hS hAB hP [] rfl⟩ rfl rfl hl.1 rfl (lv_room (Nat.le_of_ble_eq_true rfl)) dX8_commandOf_53 ⟨Nat.zero_le _, Nat.zero_le _⟩) ?_
      refine W.lcmp hx hb dX8_commandOf_56 ?_
      refine lv_if_ne (tgt := 62) hx hb dX8_commandOf_57 (by decide) (fun c_3 => ?_) (fun c_3 => ?_)
      · refine lv_lload_n hx hb dX8_commandOf_62 rfl (lv_at hl 0 rfl) ?_
        refine lv_bipush (v := 102) hx hb dX8_commandOf_63 (by decide) ?_
        refine lv_bipush (v := 111) hx hb dX8_commandOf_65 (by decide) ?_
        refine lv_bipush (v := 108) hx hb dX8_commandOf_67 (by decide) ?_
        refine lv_bipush (v := 108) hx hb dX8_commandOf_69 (by decide) ?_
        refine lv_bipush (v := 111) hx hb dX8_commandOf_71 (by decide) ?_
        refine lv_bipush (v := 119) hx hb dX8_commandOf_73 (by decide) ?_
        refine rd_gol (va_runS (As := [.int 102, .int 111, .int 108, .int 108, .int 111, .int 119]) (rest := [.long x0]) S (c_X8_code l D cy g B 102 111 108 108 111 119) (va_cwS 6 hts gX8_commandOf_X8_code rfl rfl rfl hd_X8_code_S ⟨Nat.le_of_ble_eq_true rfl, Nat.le_of_ble_eq_true rfl⟩) ⟨rdP_blind, my_preV hK0 hS hAB hP [] rfl⟩ rfl rfl hl.1 rfl (lv_room (Nat.le_of_ble_eq_true rfl)) dX8_commandOf_75 ⟨Nat.zero_le _, Nat.zero_le _⟩) ?_
        refine W.lcmp hx hb dX8_commandOf_78 ?_
        refine lv_if_ne (tgt := 84) hx hb dX8_commandOf_79 (by decide) (fun c_4 => ?_) (fun c_4 => ?_)
        · refine lv_lload_n hx hb dX8_commandOf_84 rfl (lv_at hl 0 rfl) ?_
          refine lv_bipush (v := 108) hx hb dX8_commandOf_85 (by decide) ?_
          refine lv_bipush (v := 101) hx hb dX8_commandOf_87 (by decide) ?_
          refine lv_bipush (v := 97) hx hb dX8_commandOf_89 (by decide) ?_
          refine lv_bipush (v := 118) hx hb dX8_commandOf_91 (by decide) ?_
          refine lv_bipush (v := 101) hx hb dX8_commandOf_93 (by decide) ?_
          refine lv_iconst (v := 0) hx hb dX8_commandOf_95 (by decide) ?_
          refine rd_gol (va_runS (As := [.int 108, .int 101, .int 97, .int 118, .int 101, .int 0]) (rest := [.long x0]) S (c_X8_code l D cy g B 108 101 97 118 101 0) (va_cwS 6 hts gX8_commandOf_X8_code rfl rfl rfl hd_X8_code_S ⟨Nat.le_of_ble_eq_true rfl, Nat.le_of_ble_eq_true rfl⟩) ⟨rdP_blind, my_preV hK0 hS hAB hP [] rfl⟩ rfl rfl hl.1 rfl (lv_room (Nat.le_of_ble_eq_true rfl)) dX8_commandOf_96 ⟨Nat.zero_le _, Nat.zero_le _⟩) ?_
          refine W.lcmp hx hb dX8_commandOf_99 ?_
          refine lv_if_ne (tgt := 105) hx hb dX8_commandOf_100 (by decide) (fun c_5 => ?_) (fun c_5 => ?_)
          · refine lv_lload_n hx hb dX8_commandOf_105 rfl (lv_at hl 0 rfl) ?_
            refine lv_bipush (v := 114) hx hb dX8_commandOf_106 (by decide) ?_
            refine lv_bipush (v := 117) hx hb dX8_commandOf_108 (by decide) ?_
            refine lv_bipush (v := 108) hx hb dX8_commandOf_110 (by decide) ?_
            refine lv_bipush (v := 101) hx hb dX8_commandOf_112 (by decide) ?_
            refine lv_iconst (v := 0) hx hb dX8_commandOf_114 (by decide) ?_
            refine lv_iconst (v := 0) hx hb dX8_commandOf_115 (by decide) ?_
            refine rd_gol (va_runS (As := [.int 114, .int 117, .int 108, .int 101, .int 0, .int 0]) (rest := [.long x0]) S (c_X8_code l D cy g B 114 117 108 101 0 0) (va_cwS 6 hts gX8_commandOf_X8_code rfl rfl rfl hd_X8_code_S ⟨Nat.le_of_ble_eq_true rfl, Nat.le_of_ble_eq_true rfl⟩) ⟨rdP_blind, my_preV hK0 hS hAB hP [] rfl⟩ rfl rfl hl.1 rfl (lv_room (Nat.le_of_ble_eq_true rfl)) dX8_commandOf_116 ⟨Nat.zero_le _, Nat.zero_le _⟩) ?_
            refine W.lcmp hx hb dX8_commandOf_119 ?_
            refine lv_if_ne (tgt := 127) hx hb dX8_commandOf_120 (by decide) (fun c_6 => ?_) (fun c_6 => ?_)
            · refine lv_lload_n hx hb dX8_commandOf_127 rfl (lv_at hl 0 rfl) ?_
              refine lv_bipush (v := 100) hx hb dX8_commandOf_128 (by decide) ?_
              refine lv_bipush (v := 114) hx hb dX8_commandOf_130 (by decide) ?_
              refine lv_bipush (v := 111) hx hb dX8_commandOf_132 (by decide) ?_
              refine lv_bipush (v := 112) hx hb dX8_commandOf_134 (by decide) ?_
              refine lv_iconst (v := 0) hx hb dX8_commandOf_136 (by decide) ?_
              refine lv_iconst (v := 0) hx hb dX8_commandOf_137 (by decide) ?_
              refine rd_gol (va_runS (As := [.int 100, .int 114, .int 111, .int 112, .int 0, .int 0]) (rest := [.long x0]) S (c_X8_code l D cy g B 100 114 111 112 0 0) (va_cwS 6 hts gX8_commandOf_X8_code rfl rfl rfl hd_X8_code_S ⟨Nat.le_of_ble_eq_true rfl, Nat.le_of_ble_eq_true rfl⟩) ⟨rdP_blind, my_preV hK0 hS hAB hP [] rfl⟩ rfl rfl hl.1 rfl (lv_room (Nat.le_of_ble_eq_true rfl)) dX8_commandOf_138 ⟨Nat.zero_le _, Nat.zero_le _⟩) ?_
              refine W.lcmp hx hb dX8_commandOf_141 ?_
              refine lv_if_ne (tgt := 150) hx hb dX8_commandOf_142 (by decide) (fun c_7 => ?_) (fun c_7 => ?_)
              · refine lv_iconst (v := (-1)) hx hb dX8_commandOf_150 (by decide) ?_
                exact W.iret hx hb hr (fun t ht hW => ⟨(-1), rfl, (show f_X8_commandOf x0 = (-1) from by rw [f_X8_commandOf, if_neg c_1, if_neg c_2, if_neg c_3, if_neg c_4, if_neg c_5, if_neg c_6, if_neg c_7]).symm, ht⟩) (fun q hq => absurd hq List.not_mem_nil) dX8_commandOf_151
              · refine lv_bipush (v := 6) hx hb dX8_commandOf_145 (by decide) ?_
                refine lv_goto (tgt := 151) hx hb dX8_commandOf_147 (by decide) ?_
                exact W.iret hx hb hr (fun t ht hW => ⟨6, rfl, (show f_X8_commandOf x0 = 6 from by rw [f_X8_commandOf, if_neg c_1, if_neg c_2, if_neg c_3, if_neg c_4, if_neg c_5, if_neg c_6, if_pos c_7]).symm, ht⟩) (fun q hq => absurd hq List.not_mem_nil) dX8_commandOf_151
            · refine lv_iconst (v := 5) hx hb dX8_commandOf_123 (by decide) ?_
              refine lv_goto (tgt := 151) hx hb dX8_commandOf_124 (by decide) ?_
              exact W.iret hx hb hr (fun t ht hW => ⟨5, rfl, (show f_X8_commandOf x0 = 5 from by rw [f_X8_commandOf, if_neg c_1, if_neg c_2, if_neg c_3, if_neg c_4, if_neg c_5, if_pos c_6]).symm, ht⟩) (fun q hq => absurd hq List.not_mem_nil) dX8_commandOf_151
          · refine lv_iconst (v := 4) hx hb dX8_commandOf_103 (by decide) ?_
            exact W.iret hx hb hr (fun t ht hW => ⟨4, rfl, (show f_X8_commandOf x0 = 4 from by rw [f_X8_commandOf, if_neg c_1, if_neg c_2, if_neg c_3, if_neg c_4, if_pos c_5]).symm, ht⟩) (fun q hq => absurd hq List.not_mem_nil) dX8_commandOf_104
        · refine lv_iconst (v := 3) hx hb dX8_commandOf_82 (by decide) ?_
          exact W.iret hx hb hr (fun t ht hW => ⟨3, rfl, (show f_X8_commandOf x0 = 3 from by rw [f_X8_commandOf, if_neg c_1, if_neg c_2, if_neg c_3, if_pos c_4]).symm, ht⟩) (fun q hq => absurd hq List.not_mem_nil) dX8_commandOf_83
      · refine lv_iconst (v := 2) hx hb dX8_commandOf_60 (by decide) ?_
        exact W.iret hx hb hr (fun t ht hW => ⟨2, rfl, (show f_X8_commandOf x0 = 2 from by rw [f_X8_commandOf, if_neg c_1, if_neg c_2, if_pos c_3]).symm, ht⟩) (fun q hq => absurd hq List.not_mem_nil) dX8_commandOf_61
    · refine lv_iconst (v := 1) hx hb dX8_commandOf_39 (by decide) ?_
      exact W.iret hx hb hr (fun t ht hW => ⟨1, rfl, (show f_X8_commandOf x0 = 1 from by rw [f_X8_commandOf, if_neg c_1, if_pos c_2]).symm, ht⟩) (fun q hq => absurd hq List.not_mem_nil) dX8_commandOf_40
  · refine lv_iconst (v := 0) hx hb dX8_commandOf_17 (by decide) ?_
    exact W.iret hx hb hr (fun t ht hW => ⟨0, rfl, (show f_X8_commandOf x0 = 0 from by rw [f_X8_commandOf, if_pos c_1]).symm, ht⟩) (fun q hq => absurd hq List.not_mem_nil) dX8_commandOf_18
theorem hd_X8_number_S : yX8_number.cls ≠ "java/lang/invoke/MethodHandle" ∧ yX8_number.cls ≠ "java/lang/invoke/VarHandle" ∧ (parseMethodDescriptor yX8_number.desc).map (fun d => d.parameters.length) = some 1 := by decide +kernel
theorem hd_X8_number_V : yX8_number.cls = RX8 ∧ yX8_number.cls ≠ "java/lang/invoke/MethodHandle" ∧ yX8_number.cls ≠ "java/lang/invoke/VarHandle" ∧ (parseMethodDescriptor yX8_number.desc).map (fun d => d.parameters.length) = some 1 := ⟨rfl, hd_X8_number_S⟩
def f_X8_number_st (y2 : Int32) (y9 : (Nat → Int32)) (x0 : Int32) (u_2 : Int32) (w05_6 : Int32) (w013_7 : (Nat → Int32)) : (Int32 × (Nat → Int32)) ⊕ (Int32 × (Nat → Int32)) := (if (f_X8_isAt y2 w05_6 y9 48 57) = 0 then (.inr (w05_6, w013_7)) else (if 3 ≤ (w05_6 - u_2) then (.inr (w05_6, w013_7)) else (.inl ((w05_6 + 1), (upd w013_7 x0.toNatClampNeg (((10 * (w013_7 x0.toNatClampNeg)) + (y9 w05_6.toNatClampNeg)) - 48))))))
def f_X8_number (y2 : Int32) (y5 : Int32) (y9 : (Nat → Int32)) (y13 : (Nat → Int32)) (x0 : Int32) : Int32 × (Int32 × (Nat → Int32)) := (if (f_X8_isAt y2 y5 y9 32 32) = 0 then (0, (y5, y13)) else (my_l (f_X8_skips y2 y5 y9) (fun (u_2 : Int32) => (my_t2 (lp (fun (x : Int32 × (Nat → Int32)) => f_X8_number_st y2 y9 x0 u_2 x.1 x.2) default (((y2 : Int32).toInt - (u_2 : Int32).toInt).toNat + 1) (u_2, (upd y13 x0.toNatClampNeg 0))) (fun (w05_6 : Int32) (w013_7 : (Nat → Int32)) => (if w05_6 ≤ u_2 then (0, (w05_6, w013_7)) else (if (f_X8_isAt y2 w05_6 y9 48 57) = 0 then (1, (w05_6, w013_7)) else (0, (w05_6, w013_7)))))))))
set_option maxHeartbeats 400000 in
set_option maxRecDepth 100000 in
theorem c_X8_number (l : Launch) (D : va_G) (cy : Nat → ClassId) (g : Nat → Nat) (B : Nat) (a : Nat → Nat) (y0 : Int32) (y1 : Int32) (y2 : Int32) (y3 : Int32) (y4 : Int32) (y5 : Int32) (y6 : Int32) (y7 : (Nat → Int32)) (y8 : (Nat → Int32)) (y9 : (Nat → Int32)) (y10 : (Nat → Int32)) (y11 : (Nat → Int32)) (y12 : (Nat → Int32)) (y13 : (Nat → Int32)) (x0 : Int32) (hsp0 : ¬ y5 < 0) (hty : ¬ 150 < y2) (hsl : ¬ y2 < y5) (hx0 : ¬ x0 < 0) (hx1 : ¬ 2 ≤ x0) : Met l yX8_number wsX8_number ({ frames := 3, cells := 0, slots := 0, locals := 64 }) (muP D cy g B (wModE cy a y0 y1 y2 y3 y4 y5 y6 y7 y8 y9 y10 y11 y12 y13) [.ref (a 0), .int x0]) (va_Qi (fun (r : Int32) (u : Int32 × (Nat → Int32)) => f_X8_number y2 y5 y9 y13 x0 = (r, u)) (fun u t => va_P D vwCl (wModE cy a y0 y1 y2 y3 y4 u.1 y6 y7 y8 y9 y10 y11 y12 u.2) t.heap) (muA (wModE cy a y0 y1 y2 y3 y4 y5 y6 y7 y8 y9 y10 y11 y12 y13))) 0 0 (muA (wModE cy a y0 y1 y2 y3 y4 y5 y6 y7 y8 y9 y10 y11 y12 y13)) := by
  refine Met.ofW (cc := cX8_number) (maxL := 3) (ret := (some .boolean)) (by decide) rfl ?_
  intro p e s m args below meth c s₁ BB hml hv
  obtain ⟨rfl, hP, hK0, hD0⟩ := hv
  have hx := BB.exec
  have hb := BB.bytes
  have hr := BB.returns
  have hts := atoms_spec (ws := wsX8_number) BB.pre
  have hown : s.vm.findClass RX8 = some m.cls := findClass_of_methodNamed BB.named
  have hlocks := BB.notSynchronized
  have S := my_fix hx hb hml hown hts
  have inX8 : ∀ w ∈ wsX80, w ∈ wsX8_number := fun w h => List.mem_cons_of_mem _ (List.mem_append_right _ h)
  have hAB := muB hD0
  have hD := muD hD0
  generalize hAe : muA (wModE cy a y0 y1 y2 y3 y4 y5 y6 y7 y8 y9 y10 y11 y12 y13) = A at hAB hD ⊢
  have hS : va_S A s.heap s.heap [] := va_S.rf
  have hl := lv_entry ([.ref (a 0), .int x0]) (n := 3) (Nat.le_of_ble_eq_true rfl)
  rw [lg_entry_eq]
  generalize (lg_sl ([.ref (a 0), .int x0]) ++ List.replicate (3 - (lg_sl ([.ref (a 0), .int x0])).length) Slot.unset).toArray = ls at hl ⊢
  have hl : lv_has ls 3 [(0, .ref (a 0)), (1, .int x0)] := hl
  refine lv_aload_n hx hb dX8_number_0 rfl (lv_at hl 0 rfl) ?_
  refine lv_bipush (v := 32) hx hb dX8_number_1 (by decide) ?_
  refine lv_bipush (v := 32) hx hb dX8_number_3 (by decide) ?_
  refine rd_goi (va_runV (C := RX8) (As := [.int 32, .int 32]) (rest := []) S (c_X8_isAt l D cy g B a y0 y1 y2 y3 y4 y5 y6 y7 y8 y9 y10 y11 y12 y13 32 32 hsp0 hty) (cwV 2 hts gX8_number_X8_isAt rfl rfl rfl hd_X8_isAt_V ⟨Nat.le_of_ble_eq_true rfl, Nat.le_of_ble_eq_true rfl⟩) ⟨rdP_blind, va_recv hK0.1 hP (ci := 6) (q0 := 0) rfl rfl, my_preP hK0 hS hAB hP⟩ rfl rfl hl.1 rfl (lv_room (Nat.le_of_ble_eq_true rfl)) dX8_number_5 ⟨Nat.zero_le _, Nat.zero_le _⟩) ?_
  refine lv_if_ne (tgt := 13) hx hb dX8_number_8 (by decide) (fun c_1 => ?_) (fun c_1 => ?_)
  · refine lv_aload_n hx hb dX8_number_13 rfl (lv_at hl 0 rfl) ?_
    refine mu_allv (wf := fun (u_2 : Int32) => (wModE cy a y0 y1 y2 y3 y4 u_2 y6 y7 y8 y9 y10 y11 y12 y13)) (va_runV (C := RX8) (As := []) (rest := []) S (c_X8_skips l D cy g B a y0 y1 y2 y3 y4 y5 y6 y7 y8 y9 y10 y11 y12 y13 hsp0 hty hsl) (cwV 0 hts gX8_number_X8_skips rfl rfl rfl hd_X8_skips_V ⟨Nat.le_of_ble_eq_true rfl, Nat.le_of_ble_eq_true rfl⟩) ⟨muP_blind, va_recv hK0.1 hP (ci := 6) (q0 := 0) rfl rfl, my_preA hK0 hS hAB hP hD⟩ rfl rfl hl.1 rfl (lv_room (Nat.le_of_ble_eq_true rfl)) dX8_number_14 ⟨Nat.zero_le _, Nat.zero_le _⟩) hS hD (fun _ => by simp only [List.map_cons, List.map_nil, adrSet, adrSetE, adrPow, adrPowE, adrTxt, adrTxtE, adrSav, adrSavE, adrPCo, adrMod, adrModE]) (fun u_2 H locs hw_3 hP hD hS => ?_)
    have ha_4 : ¬ u_2 < 0 := sk_0 hsp0 hw_3
    have ha_5 : ¬ y2 < u_2 := sk_1 hsl hw_3
    refine lv_aload_n hx hb dX8_number_17 rfl (lv_at hl 0 rfl) ?_
    refine va_get (D := D) (ci := 6) (v := .int u_2) (C := RX8) (T := TX8) (N := 14) hx hb hts inX8 hown hK0.1 hP 0 rfl rfl 11 (by decide) (hts (.fieldLink RX8 164 "PivotChamberModel" "spot" "I") (List.mem_of_getElem? (i := 1) rfl)) (fun _ h9 => h9) rfl dX8_number_18 ?_
    refine lv_istore_n (lv' := [(2, .int u_2), (0, .ref (a 0)), (1, .int x0)]) hx hb dX8_number_21 rfl hl (by decide) rfl (fun ls hl => ?_)
    refine lv_aload_n hx hb dX8_number_22 rfl (lv_at hl 1 rfl) ?_
    refine va_get (D := D) (ci := 6) (v := .ref (a 7)) (C := RX8) (T := TX8) (N := 14) hx hb hts inX8 hown hK0.1 hP 0 rfl rfl 13 (by decide) (hts (.fieldLink RX8 29 "PivotChamberModel" "read" "[I") (List.mem_of_getElem? (i := 2) rfl)) (fun _ h9 => h9) rfl dX8_number_23 ?_
    refine lv_iload_n hx hb dX8_number_26 rfl (lv_at hl 2 rfl) ?_
    refine lv_iconst (v := 0) hx hb dX8_number_27 (by decide) ?_
    refine va_iast hx hb hK0.1 hP hD hS 7 0 rfl rfl (ix_self (K := 2) (N := 2) hx0 hx1 (by decide) (by decide)) dX8_number_28 (fun H locs hP hD hS => ?_)
    have hP : va_P D vwCl (wModE cy a y0 y1 y2 y3 y4 u_2 y6 y7 y8 y9 y10 y11 y12 (upd y13 x0.toNatClampNeg 0)) H := hP
    have hD : va_D A (wModE cy a y0 y1 y2 y3 y4 u_2 y6 y7 y8 y9 y10 y11 y12 (upd y13 x0.toNatClampNeg 0)) := hD
    have cont0 : ∀ (w05_6 : Int32) (w013_7 : (Nat → Int32)), lp (fun (x : Int32 × (Nat → Int32)) => f_X8_number_st y2 y9 x0 u_2 x.1 x.2) default (((y2 : Int32).toInt - (u_2 : Int32).toInt).toNat + 1) (u_2, (upd y13 x0.toNatClampNeg 0)) = (w05_6, w013_7) → ¬ w05_6 < 0 → ¬ y2 < w05_6 → ∀ (H : Heap) (locs : List Loc), va_P D vwCl (wModE cy a y0 y1 y2 y3 y4 w05_6 y6 y7 y8 y9 y10 y11 y12 w013_7) H → va_D A (wModE cy a y0 y1 y2 y3 y4 w05_6 y6 y7 y8 y9 y10 y11 y12 w013_7) → va_S A s.heap H locs → ∀ ls : Array Slot, lv_has ls 3 [(0, .ref (a 0)), (1, .int x0), (2, .int u_2)] → W p l e (headSpec wsX8_number ({ frames := 3, cells := 0, slots := 0, locals := 64 } : Room)).room s m ([.ref (a 0), .int x0] : List Value).toArray below meth c H locs 0 0 (MQ below (va_Qi (fun (r : Int32) (u : Int32 × (Nat → Int32)) => f_X8_number y2 y5 y9 y13 x0 = (r, u)) (fun u t => va_P D vwCl (wModE cy a y0 y1 y2 y3 y4 u.1 y6 y7 y8 y9 y10 y11 y12 u.2) t.heap) A) ([.ref (a 0), .int x0] : List Value).toArray s 0 0 A) (F0 m 91 ls []) := by
      intro w05_6 w013_7 hE0 hj0_0 hj0_1 H locs hP hD hS ls hl
      refine lv_aload_n hx hb dX8_number_91 rfl (lv_at hl 0 rfl) ?_
      refine va_get (D := D) (ci := 6) (v := .int w05_6) (C := RX8) (T := TX8) (N := 14) hx hb hts inX8 hown hK0.1 hP 0 rfl rfl 11 (by decide) (hts (.fieldLink RX8 164 "PivotChamberModel" "spot" "I") (List.mem_of_getElem? (i := 1) rfl)) (fun _ h9 => h9) rfl dX8_number_92 ?_
      refine lv_iload_n hx hb dX8_number_95 rfl (lv_at hl 2 rfl) ?_
      refine lv_icmp_le (tgt := 114) hx hb dX8_number_96 (by decide) (fun c_8 => ?_) (fun c_8 => ?_)
      · refine lv_iconst (v := 0) hx hb dX8_number_114 (by decide) ?_
        have hP : va_P D vwCl (wModE cy a y0 y1 y2 y3 y4 w05_6 y6 y7 y8 y9 y10 y11 y12 w013_7) H := hP
        have hD : va_D A (wModE cy a y0 y1 y2 y3 y4 w05_6 y6 y7 y8 y9 y10 y11 y12 w013_7) := hD
        exact W.zret (ty := .boolean) (v := 0) hx hb hr (my_nz (by decide)) (fun t ht hW => ⟨⟨0, (w05_6, w013_7), rfl, (show f_X8_number y2 y5 y9 y13 x0 = (0, (w05_6, w013_7)) from by rw [f_X8_number, if_neg c_1, hw_3, my_l_eq, hE0, my_t2_eq, if_pos c_8]), by show va_P D vwCl _ t.heap; rw [ht]; exact hP⟩, hS.F ht⟩) hS.2.2 dX8_number_115
      · refine lv_aload_n hx hb dX8_number_99 rfl (lv_at hl 0 rfl) ?_
        refine lv_bipush (v := 48) hx hb dX8_number_100 (by decide) ?_
        refine lv_bipush (v := 57) hx hb dX8_number_102 (by decide) ?_
        refine rd_goi (va_runV (C := RX8) (As := [.int 48, .int 57]) (rest := []) S (c_X8_isAt l D cy g B a y0 y1 y2 y3 y4 w05_6 y6 y7 y8 y9 y10 y11 y12 w013_7 48 57 hj0_0 hty) (cwV 2 hts gX8_number_X8_isAt rfl rfl rfl hd_X8_isAt_V ⟨Nat.le_of_ble_eq_true rfl, Nat.le_of_ble_eq_true rfl⟩) ⟨rdP_blind, va_recv hK0.1 hP (ci := 6) (q0 := 0) rfl rfl, my_preP hK0 hS hAB hP⟩ rfl rfl hl.1 rfl (lv_room (Nat.le_of_ble_eq_true rfl)) dX8_number_104 ⟨Nat.zero_le _, Nat.zero_le _⟩) ?_
        refine lv_if_ne (tgt := 114) hx hb dX8_number_107 (by decide) (fun c_9 => ?_) (fun c_9 => ?_)
        · refine lv_iconst (v := 0) hx hb dX8_number_114 (by decide) ?_
          have hP : va_P D vwCl (wModE cy a y0 y1 y2 y3 y4 w05_6 y6 y7 y8 y9 y10 y11 y12 w013_7) H := hP
          have hD : va_D A (wModE cy a y0 y1 y2 y3 y4 w05_6 y6 y7 y8 y9 y10 y11 y12 w013_7) := hD
          exact W.zret (ty := .boolean) (v := 0) hx hb hr (my_nz (by decide)) (fun t ht hW => ⟨⟨0, (w05_6, w013_7), rfl, (show f_X8_number y2 y5 y9 y13 x0 = (0, (w05_6, w013_7)) from by rw [f_X8_number, if_neg c_1, hw_3, my_l_eq, hE0, my_t2_eq, if_neg c_8, if_neg c_9]), by show va_P D vwCl _ t.heap; rw [ht]; exact hP⟩, hS.F ht⟩) hS.2.2 dX8_number_115
        · refine lv_iconst (v := 1) hx hb dX8_number_110 (by decide) ?_
          refine lv_goto (tgt := 115) hx hb dX8_number_111 (by decide) ?_
          have hP : va_P D vwCl (wModE cy a y0 y1 y2 y3 y4 w05_6 y6 y7 y8 y9 y10 y11 y12 w013_7) H := hP
          have hD : va_D A (wModE cy a y0 y1 y2 y3 y4 w05_6 y6 y7 y8 y9 y10 y11 y12 w013_7) := hD
          exact W.zret (ty := .boolean) (v := 1) hx hb hr (my_nz (by decide)) (fun t ht hW => ⟨⟨1, (w05_6, w013_7), rfl, (show f_X8_number y2 y5 y9 y13 x0 = (1, (w05_6, w013_7)) from by rw [f_X8_number, if_neg c_1, hw_3, my_l_eq, hE0, my_t2_eq, if_neg c_8, if_pos c_9]), by show va_P D vwCl _ t.heap; rw [ht]; exact hP⟩, hS.F ht⟩) hS.2.2 dX8_number_115
    have key : ∀ (nf : Nat) (w05_6 : Int32) (w013_7 : (Nat → Int32)), ((y2 : Int32).toInt - (w05_6 : Int32).toInt).toNat < nf → lp (fun (x : Int32 × (Nat → Int32)) => f_X8_number_st y2 y9 x0 u_2 x.1 x.2) default nf (w05_6, w013_7) = lp (fun (x : Int32 × (Nat → Int32)) => f_X8_number_st y2 y9 x0 u_2 x.1 x.2) default (((y2 : Int32).toInt - (u_2 : Int32).toInt).toNat + 1) (u_2, (upd y13 x0.toNatClampNeg 0)) → ¬ w05_6 < 0 → ¬ y2 < w05_6 → ∀ (H : Heap) (locs : List Loc), va_P D vwCl (wModE cy a y0 y1 y2 y3 y4 w05_6 y6 y7 y8 y9 y10 y11 y12 w013_7) H → va_D A (wModE cy a y0 y1 y2 y3 y4 w05_6 y6 y7 y8 y9 y10 y11 y12 w013_7) → va_S A s.heap H locs → ∀ ls : Array Slot, lv_has ls 3 [(0, .ref (a 0)), (1, .int x0), (2, .int u_2)] → W p l e (headSpec wsX8_number ({ frames := 3, cells := 0, slots := 0, locals := 64 } : Room)).room s m ([.ref (a 0), .int x0] : List Value).toArray below meth c H locs 0 0 (MQ below (va_Qi (fun (r : Int32) (u : Int32 × (Nat → Int32)) => f_X8_number y2 y5 y9 y13 x0 = (r, u)) (fun u t => va_P D vwCl (wModE cy a y0 y1 y2 y3 y4 u.1 y6 y7 y8 y9 y10 y11 y12 u.2) t.heap) A) ([.ref (a 0), .int x0] : List Value).toArray s 0 0 A) (F0 m 29 ls []) := by
      intro n0
      induction n0 with
      | zero => intro w05_6 w013_7 hlt; exact absurd hlt (Nat.not_lt_zero _)
      | succ n0 ih0 =>
        intro w05_6 w013_7 hlt0 hF0 hi0_0 hi0_1 H locs hP hD hS ls hl
        refine lv_aload_n hx hb dX8_number_29 rfl (lv_at hl 0 rfl) ?_
        refine lv_bipush (v := 48) hx hb dX8_number_30 (by decide) ?_
        refine lv_bipush (v := 57) hx hb dX8_number_32 (by decide) ?_
        refine rd_goi (va_runV (C := RX8) (As := [.int 48, .int 57]) (rest := []) S (c_X8_isAt l D cy g B a y0 y1 y2 y3 y4 w05_6 y6 y7 y8 y9 y10 y11 y12 w013_7 48 57 hi0_0 hty) (cwV 2 hts gX8_number_X8_isAt rfl rfl rfl hd_X8_isAt_V ⟨Nat.le_of_ble_eq_true rfl, Nat.le_of_ble_eq_true rfl⟩) ⟨rdP_blind, va_recv hK0.1 hP (ci := 6) (q0 := 0) rfl rfl, my_preP hK0 hS hAB hP⟩ rfl rfl hl.1 rfl (lv_room (Nat.le_of_ble_eq_true rfl)) dX8_number_34 ⟨Nat.zero_le _, Nat.zero_le _⟩) ?_
        refine lv_if_eq (tgt := 91) hx hb dX8_number_37 (by decide) (fun c_10 => ?_) (fun c_10 => ?_)
        · have hst : f_X8_number_st y2 y9 x0 u_2 w05_6 w013_7 = .inr (w05_6, w013_7) := by rw [f_X8_number_st, if_pos c_10]
          exact cont0 w05_6 w013_7 (lp_inr hst hF0) hi0_0 hi0_1 _ _ hP hD hS _ (lv_sub hl [0, 1, 2] rfl)
        · refine lv_aload_n hx hb dX8_number_40 rfl (lv_at hl 0 rfl) ?_
          refine va_get (D := D) (ci := 6) (v := .int w05_6) (C := RX8) (T := TX8) (N := 14) hx hb hts inX8 hown hK0.1 hP 0 rfl rfl 11 (by decide) (hts (.fieldLink RX8 164 "PivotChamberModel" "spot" "I") (List.mem_of_getElem? (i := 1) rfl)) (fun _ h9 => h9) rfl dX8_number_41 ?_
          refine lv_iload_n hx hb dX8_number_44 rfl (lv_at hl 2 rfl) ?_
          refine lv_isub hx hb dX8_number_45 ?_
          refine lv_iconst (v := 3) hx hb dX8_number_46 (by decide) ?_
          refine lv_icmp_ge (tgt := 91) hx hb dX8_number_47 (by decide) (fun c_11 => ?_) (fun c_11 => ?_)
          · have hst : f_X8_number_st y2 y9 x0 u_2 w05_6 w013_7 = .inr (w05_6, w013_7) := by rw [f_X8_number_st, if_neg c_10, if_pos c_11]
            exact cont0 w05_6 w013_7 (lp_inr hst hF0) hi0_0 hi0_1 _ _ hP hD hS _ (lv_sub hl [0, 1, 2] rfl)
          · refine lv_aload_n hx hb dX8_number_50 rfl (lv_at hl 0 rfl) ?_
            refine va_get (D := D) (ci := 6) (v := .ref (a 7)) (C := RX8) (T := TX8) (N := 14) hx hb hts inX8 hown hK0.1 hP 0 rfl rfl 13 (by decide) (hts (.fieldLink RX8 29 "PivotChamberModel" "read" "[I") (List.mem_of_getElem? (i := 2) rfl)) (fun _ h9 => h9) rfl dX8_number_51 ?_
            refine lv_iload_n hx hb dX8_number_54 rfl (lv_at hl 1 rfl) ?_
            refine lv_bipush (v := 10) hx hb dX8_number_55 (by decide) ?_
            refine lv_aload_n hx hb dX8_number_57 rfl (lv_at hl 0 rfl) ?_
            refine va_get (D := D) (ci := 6) (v := .ref (a 7)) (C := RX8) (T := TX8) (N := 14) hx hb hts inX8 hown hK0.1 hP 0 rfl rfl 13 (by decide) (hts (.fieldLink RX8 29 "PivotChamberModel" "read" "[I") (List.mem_of_getElem? (i := 2) rfl)) (fun _ h9 => h9) rfl dX8_number_58 ?_
            refine lv_iload_n hx hb dX8_number_61 rfl (lv_at hl 1 rfl) ?_
            refine va_iald hx hb hK0.1 hP 7 0 rfl rfl (ix_self (K := 2) (N := 2) hx0 hx1 (by decide) (by decide)) dX8_number_62 ?_
            refine lv_imul hx hb dX8_number_63 ?_
            refine lv_aload_n hx hb dX8_number_64 rfl (lv_at hl 0 rfl) ?_
            refine va_get (D := D) (ci := 6) (v := .ref (a 3)) (C := RX8) (T := TX8) (N := 14) hx hb hts inX8 hown hK0.1 hP 0 rfl rfl 4 (by decide) (hts (.fieldLink RX8 16 "PivotChamberModel" "text" "[I") (List.mem_of_getElem? (i := 3) rfl)) (fun _ h9 => h9) rfl dX8_number_65 ?_
            refine lv_aload_n hx hb dX8_number_68 rfl (lv_at hl 0 rfl) ?_
            refine va_get (D := D) (ci := 6) (v := .int w05_6) (C := RX8) (T := TX8) (N := 14) hx hb hts inX8 hown hK0.1 hP 0 rfl rfl 11 (by decide) (hts (.fieldLink RX8 164 "PivotChamberModel" "spot" "I") (List.mem_of_getElem? (i := 1) rfl)) (fun _ h9 => h9) rfl dX8_number_69 ?_
            refine va_iald hx hb hK0.1 hP 3 0 rfl rfl (ix_self (K := 150) (N := 150) hi0_0 (Int32.not_le.mpr (ia_1 c_10)) hty (by decide)) dX8_number_72 ?_
            refine lv_iadd hx hb dX8_number_73 ?_
            refine lv_bipush (v := 48) hx hb dX8_number_74 (by decide) ?_
            refine lv_isub hx hb dX8_number_76 ?_
            refine va_iast hx hb hK0.1 hP hD hS 7 0 rfl rfl (ix_self (K := 2) (N := 2) hx0 hx1 (by decide) (by decide)) dX8_number_77 (fun H locs hP hD hS => ?_)
            have hP : va_P D vwCl (wModE cy a y0 y1 y2 y3 y4 w05_6 y6 y7 y8 y9 y10 y11 y12 (upd w013_7 x0.toNatClampNeg (((10 * (w013_7 x0.toNatClampNeg)) + (y9 w05_6.toNatClampNeg)) - 48))) H := hP
            have hD : va_D A (wModE cy a y0 y1 y2 y3 y4 w05_6 y6 y7 y8 y9 y10 y11 y12 (upd w013_7 x0.toNatClampNeg (((10 * (w013_7 x0.toNatClampNeg)) + (y9 w05_6.toNatClampNeg)) - 48))) := hD
            refine lv_aload_n hx hb dX8_number_78 rfl (lv_at hl 0 rfl) ?_
            refine lv_dup hx hb dX8_number_79 rfl ?_
            refine va_get (D := D) (ci := 6) (v := .int w05_6) (C := RX8) (T := TX8) (N := 14) hx hb hts inX8 hown hK0.1 hP 0 rfl rfl 11 (by decide) (hts (.fieldLink RX8 164 "PivotChamberModel" "spot" "I") (List.mem_of_getElem? (i := 1) rfl)) (fun _ h9 => h9) rfl dX8_number_80 ?_
            refine lv_iconst (v := 1) hx hb dX8_number_83 (by decide) ?_
            refine lv_iadd hx hb dX8_number_84 ?_
            refine va_put (D := D) (ci := 6) (v := .int (w05_6 + 1)) (ty := .int) (C := RX8) (T := TX8) (N := 14) hx hb hts inX8 tyX8 tyX8_ok nmX8 hown hK0.1 hP hD hS 0 rfl rfl 11 (by decide) (hts (.fieldLink RX8 164 "PivotChamberModel" "spot" "I") (List.mem_of_getElem? (i := 1) rfl)) (fun _ h9 => h9) rfl (by decide +kernel) rfl rfl (Nat.le_of_ble_eq_true rfl) dX8_number_85 (fun H locs hP hD hS => ?_)
            have hP : va_P D vwCl (wModE cy a y0 y1 y2 y3 y4 (w05_6 + 1) y6 y7 y8 y9 y10 y11 y12 (upd w013_7 x0.toNatClampNeg (((10 * (w013_7 x0.toNatClampNeg)) + (y9 w05_6.toNatClampNeg)) - 48))) H := hP
            have hD : va_D A (wModE cy a y0 y1 y2 y3 y4 (w05_6 + 1) y6 y7 y8 y9 y10 y11 y12 (upd w013_7 x0.toNatClampNeg (((10 * (w013_7 x0.toNatClampNeg)) + (y9 w05_6.toNatClampNeg)) - 48))) := hD
            refine lv_goto (tgt := 29) hx hb dX8_number_88 (by decide) ?_
            have hst : f_X8_number_st y2 y9 x0 u_2 w05_6 w013_7 = .inl ((w05_6 + 1), (upd w013_7 x0.toNatClampNeg (((10 * (w013_7 x0.toNatClampNeg)) + (y9 w05_6.toNatClampNeg)) - 48))) := by rw [f_X8_number_st, if_neg c_10, if_neg c_11]
            have hmu : ((y2 : Int32).toInt - ((w05_6 + 1) : Int32).toInt).toNat < ((y2 : Int32).toInt - (w05_6 : Int32).toInt).toNat := mu_up (Int32.not_le.mpr (ia_1 c_10))
            exact ih0 (w05_6 + 1) (upd w013_7 x0.toNatClampNeg (((10 * (w013_7 x0.toNatClampNeg)) + (y9 w05_6.toNatClampNeg)) - 48)) (Nat.lt_of_lt_of_le hmu (Nat.le_of_lt_succ hlt0)) (lp_inl hst hF0) (nn_up hi0_0 (Int32.not_le.mpr (ia_1 c_10))) (le_up (ia_1 c_10)) _ _ hP hD hS _ (lv_sub hl [0, 1, 2] rfl)
    exact key (((y2 : Int32).toInt - (u_2 : Int32).toInt).toNat + 1) u_2 (upd y13 x0.toNatClampNeg 0) (Nat.lt_succ_self _) rfl ha_4 ha_5 _ _ hP hD hS _ (lv_sub hl [1, 2, 0] rfl)
  · refine lv_iconst (v := 0) hx hb dX8_number_11 (by decide) ?_
    have hP : va_P D vwCl (wModE cy a y0 y1 y2 y3 y4 y5 y6 y7 y8 y9 y10 y11 y12 y13) s.heap := hP
    have hD : va_D A (wModE cy a y0 y1 y2 y3 y4 y5 y6 y7 y8 y9 y10 y11 y12 y13) := hD
    exact W.zret (ty := .boolean) (v := 0) hx hb hr (my_nz (by decide)) (fun t ht hW => ⟨⟨0, (y5, y13), rfl, (show f_X8_number y2 y5 y9 y13 x0 = (0, (y5, y13)) from by rw [f_X8_number, if_pos c_1]), by show va_P D vwCl _ t.heap; rw [ht]; exact hP⟩, hS.F ht⟩) hS.2.2 dX8_number_12
theorem nu_inv {I : Int32 → Prop} {t s k : Int32} {x y : Nat → Int32} (hs : I s) (hst : ∀ w, w < t → I w → I (w + 1)) : I (f_X8_number t s x y k).2.1 := by
  unfold f_X8_number
  split
  · exact hs
  · refine my_l_inv I (fun z : Int32 × (Int32 × (Nat → Int32)) => I z.2.1) (sk_inv hs hst) ?_
    intro u hu
    refine my_t2_inv (fun a _ => I a) (fun z : Int32 × (Int32 × (Nat → Int32)) => I z.2.1) ?_ ?_
    · refine lp_inm (I := fun z : Int32 × (Nat → Int32) => I z.1) (Q := fun z : Int32 × (Nat → Int32) => I z.1) (fun z : Int32 × (Nat → Int32) => (t.toInt - z.1.toInt).toNat) ?_ _ _ hu (Nat.lt_succ_self _)
      intro z hz
      unfold f_X8_number_st
      split
      · exact hz
      · rename_i h
        have h3 := ia_1 h
        split
        · exact hz
        · exact ⟨hst _ h3 hz, mu_up (Int32.not_le.mpr h3)⟩
    · intro a b ha
      try dsimp only
      split
      · exact ha
      · split
        · exact ha
        · exact ha
theorem nu_0 {t s k r : Int32} {x y : Nat → Int32} {u : Int32 × (Nat → Int32)} (h0 : ¬ s < 0) (h : f_X8_number t s x y k = (r, u)) : ¬ u.1 < 0 := by
  have h1 := nu_inv (I := fun w => ¬ w < 0) (t := t) (s := s) (k := k) (x := x) (y := y) h0 (sp_0 t)
  rw [h] at h1; exact h1
theorem nu_1 {t s k r : Int32} {x y : Nat → Int32} {u : Int32 × (Nat → Int32)} (h0 : ¬ t < s) (h : f_X8_number t s x y k = (r, u)) : ¬ t < u.1 := by
  have h1 := nu_inv (I := fun w => ¬ t < w) (t := t) (s := s) (k := k) (x := x) (y := y) h0 (sp_1 t)
  rw [h] at h1; exact h1
