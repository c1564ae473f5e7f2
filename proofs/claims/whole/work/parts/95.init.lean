/-! part 95: the constructors -/
abbrev zF : Nat → Int32 := fun _ => 0
/-- what a constructor is told of the tables -/
def ctK (D : va_G) (cy : Nat → ClassId) (U : State) : Prop := va_K D vwCl (tyv cy) U ∧ nestOK U ∧ va_AO "PivotChamber$Setting" U
theorem ctK.warm {D : va_G} {cy : Nat → ClassId} {s U : State} (hW : s.WarmedH U.vm) (h : ctK D cy s) : ctK D cy U := ⟨h.1.moved hW.alike, h.2.1.warm hW, h.2.2.moved hW.alike⟩
def ctP (D : va_G) (cy : Nat → ClassId) (wc : va_W) (av : List Value) (sz : Nat) : Array Value → State → Prop := va_Pc av (fun U => U.heap.size = sz ∧ va_P D vwCl wc U.heap ∧ ctK D cy U ∧ va_D (fun _ => True) wc)
theorem ctP_blind {D : va_G} {cy : Nat → ClassId} {wc : va_W} {av : List Value} {sz : Nat} : FrameBlind (ctP D cy wc av sz) := by
  intro a U g' mk h
  exact ⟨h.1, h.2.1, h.2.2.1, ⟨va_K.moved (u := U) (U := U.calling g' mk a) (Vm.Alike.refl U.vm) h.2.2.2.1.1, nestOK.same (u := U) (U := U.calling g' mk a) rfl h.2.2.2.1.2.1, va_AO.moved (u := U) (U := U.calling g' mk a) (Vm.Alike.refl U.vm) h.2.2.2.1.2.2⟩, h.2.2.2.2⟩
theorem ty_int {D : va_G} {cl : List vw_C} {cy : Nat → ClassId} {U : State} {cA : ClassId} (h : va_K D cl (tyv cy ++ [(cA, .int)]) U) : cA = cy 0 := by
  have h1 : U.vm.findClass ("[" ++ (FieldType.int).toString) = some cA := (h.2 5 _ rfl).2
  have h2 : U.vm.findClass ("[" ++ (FieldType.int).toString) = some (cy 0) := (h.2 0 _ rfl).2
  exact Option.some.inj (h1.symm.trans h2)
theorem ty_boolean {D : va_G} {cl : List vw_C} {cy : Nat → ClassId} {U : State} {cA : ClassId} (h : va_K D cl (tyv cy ++ [(cA, .boolean)]) U) : cA = cy 1 := by
  have h1 : U.vm.findClass ("[" ++ (FieldType.boolean).toString) = some cA := (h.2 5 _ rfl).2
  have h2 : U.vm.findClass ("[" ++ (FieldType.boolean).toString) = some (cy 1) := (h.2 1 _ rfl).2
  exact Option.some.inj (h1.symm.trans h2)
theorem ty_set {D : va_G} {cl : List vw_C} {cy : Nat → ClassId} {U : State} {cA : ClassId} (h : va_K D cl (tyv cy ++ [(cA, .object "PivotChamber$Setting")]) U) : cA = cy 2 := by
  obtain ⟨_, _, _, _, _, h1⟩ := (h.2 5 _ rfl).2
  obtain ⟨_, _, _, _, _, h2⟩ := (h.2 2 _ rfl).2
  exact Option.some.inj (h1.symm.trans h2)
def ad (l : List Nat) : Nat → Nat := fun k => l.getD k 0
set_option maxHeartbeats 1000000 in
set_option maxRecDepth 100000 in
theorem c_X4_init (l : Launch) (D : va_G) (cy : Nat → ClassId) (h0 : Nat) (x : Int32) (n : Nat) (sz : Nat) (hx0 : ¬ x < 0) (hxn : x.toNatClampNeg = n) (hn : n ≤ 402) : Met l yX4_init wsX4_init ({ frames := 1, cells := 1, slots := n, locals := 12 }) (ctP D cy [(h0, .inr (2, [.null]))] [.ref h0, .int x] sz) (va_Qv (fun _ : Nat => True) (fun u t => va_P D vwCl (wRow cy h0 u n zF) t.heap ∧ va_D (va_A [(h0, .inr (2, [.null]))] sz) (wRow cy h0 u n zF)) (va_A [(h0, .inr (2, [.null]))] sz)) 1 n (va_A [(h0, .inr (2, [.null]))] sz) := by
  refine Met.ofW (cc := cX4_init) (maxL := 2) (ret := none) (by decide) rfl ?_
  intro p e s m args below meth c s₁ BB hml hv
  obtain ⟨rfl, hsz, hP, hK, hD0⟩ := hv
  have hx := BB.exec
  have hb := BB.bytes
  have hr := BB.returns
  have hts := atoms_spec (ws := wsX4_init) BB.pre
  have hown : s.vm.findClass RX4 = some m.cls := findClass_of_methodNamed BB.named
  have hlocks := BB.notSynchronized
  have hin : meth.name = "<init>" := (name_of_methodNamed BB.named BB.method).1
  subst hsz
  have hD := hD0.self (sz := s.heap.size)
  generalize hAe : va_A [(h0, .inr (2, [.null]))] s.heap.size = A at hD ⊢
  have hA : ∀ q : Nat, s.heap.size ≤ q → A q := fun q h => by rw [← hAe]; exact Or.inr h
  have hS : va_S A s.heap s.heap [] := va_S.rf
  have hP : va_P D vwCl [(h0, .inr (2, [.null]))] s.heap := hP
  have hl := lv_entry ([.ref h0, .int x]) (n := 2) (Nat.le_of_ble_eq_true rfl)
  rw [lg_entry_eq]
  generalize (lg_sl ([.ref h0, .int x]) ++ List.replicate (2 - (lg_sl ([.ref h0, .int x])).length) Slot.unset).toArray = ls at hl ⊢
  have hl : lv_has ls 2 [(0, .ref h0), (1, .int x)] := hl
  refine lv_aload_n hx hb dX4_init_0 rfl (lv_at hl 0 rfl) ?_
  refine W.objInit hx hb hown (hts (.methodLink RX4 1 objectInit) (by decide +kernel)) (hts (.instanceMethod objectInit) (by decide +kernel)) (hts _ (List.mem_of_getElem? (i := 3) rfl)) rfl (by rw [hml]; exact hl.1) rfl dX4_init_1 (Nat.le_of_ble_eq_true rfl) (Nat.le_of_ble_eq_true rfl) ?_
  refine W.eq (g2 := F0 m 4 ls []) rfl ?_
  refine lv_aload_n hx hb dX4_init_4 rfl (lv_at hl 0 rfl) ?_
  refine lv_iload_n hx hb dX4_init_5 rfl (lv_at hl 1 rfl) ?_
  refine lv_if_ge (tgt := 13) hx hb dX4_init_6 (by decide) (fun _ => ?_) (fun h9 => absurd (Int32.not_lt.mp hx0) h9)
  refine lv_iload_n hx hb dX4_init_13 rfl (lv_at hl 1 rfl) ?_
  refine va_newa (atype := .int) (a0 := (n, .inl zF)) hx hb (hts (.arrayClass .int) (by decide +kernel)) rfl hK.1 hP hD hS hA (fun _ => rfl) hx0 hxn (show n * 4 ≤ 536870912 by omega) (Nat.le_of_ble_eq_true rfl) (show 0 + n ≤ n by omega) dX4_init_14 (fun q1 cA H hK9 hP hD hS => ?_)
  obtain rfl := ty_int hK9
  have hP : va_P D vwCl [(h0, .inr (2, [.null])), (q1, .inl (cy 0, (n, .inl zF)))] H := hP
  have hD : va_D A [(h0, .inr (2, [.null])), (q1, .inl (cy 0, (n, .inl zF)))] := hD
  refine va_putF (D := D) (ci := 2) (v := .ref q1) (ty := .array .int) (C := RX4) (T := TX4) (N := 1) hx hb hts (by decide +kernel) tyX4 tyX4_ok nmX4 hown hK.1 hP hD hS 0 rfl rfl 0 (by decide) (hts (.fieldLink RX4 7 "PivotChamber$Row" "cells" "[I") (by decide +kernel)) (fun _ h9 => h9) rfl hin rfl (by decide +kernel) rfl rfl (Nat.le_of_ble_eq_true rfl) dX4_init_16 (fun H locs hP hD hS => ?_)
  have hP : va_P D vwCl [(h0, .inr (2, [.ref q1])), (q1, .inl (cy 0, (n, .inl zF)))] H := hP
  have hD : va_D A [(h0, .inr (2, [.ref q1])), (q1, .inl (cy 0, (n, .inl zF)))] := hD
  have hP9 := hP.sub (ws' := (wRow cy h0 q1 n zF)) [0, 1] rfl
  have hD9 := hD.sub (ws' := (wRow cy h0 q1 n zF)) [0, 1] (by decide) rfl
  refine W.widen (k := 1) (n := n) (by omega) (by omega) ?_
  exact W.vret hx hb hr (fun t ht hW => ⟨⟨q1, rfl, trivial, by rw [ht]; exact hP9, hD9⟩, hS.F ht⟩) hS.2.2 dX4_init_19
set_option maxHeartbeats 1000000 in
set_option maxRecDepth 100000 in
theorem c_X6_init (l : Launch) (D : va_G) (cy : Nat → ClassId) (h0 : Nat) (sz : Nat) : Met l yX6_init wsX6_init ({ frames := 2, cells := 8, slots := 28, locals := 33 }) (ctP D cy [(h0, .inr (4, [.int 0, .null, .null, .int 0, .int 0, .null, .null]))] [.ref h0] sz) (va_Qv (fun _ : Nat → Nat => True) (fun u t => u 0 = h0 ∧ va_P D vwCl (wSet cy u (0, 1, 0, zF, zF, zF, zF)) t.heap ∧ va_D (va_A [(h0, .inr (4, [.int 0, .null, .null, .int 0, .int 0, .null, .null]))] sz) (wSet cy u (0, 1, 0, zF, zF, zF, zF))) (va_A [(h0, .inr (4, [.int 0, .null, .null, .int 0, .int 0, .null, .null]))] sz)) 8 28 (va_A [(h0, .inr (4, [.int 0, .null, .null, .int 0, .int 0, .null, .null]))] sz) := by
  refine Met.ofW (cc := cX6_init) (maxL := 1) (ret := none) (by decide) rfl ?_
  intro p e s m args below meth c s₁ BB hml hv
  obtain ⟨rfl, hsz, hP, hK, hD0⟩ := hv
  have hx := BB.exec
  have hb := BB.bytes
  have hr := BB.returns
  have hts := atoms_spec (ws := wsX6_init) BB.pre
  have hown : s.vm.findClass RX6 = some m.cls := findClass_of_methodNamed BB.named
  have hlocks := BB.notSynchronized
  have hin : meth.name = "<init>" := (name_of_methodNamed BB.named BB.method).1
  subst hsz
  have hD := hD0.self (sz := s.heap.size)
  generalize hAe : va_A [(h0, .inr (4, [.int 0, .null, .null, .int 0, .int 0, .null, .null]))] s.heap.size = A at hD ⊢
  have hA : ∀ q : Nat, s.heap.size ≤ q → A q := fun q h => by rw [← hAe]; exact Or.inr h
  have hS : va_S A s.heap s.heap [] := va_S.rf
  have hP : va_P D vwCl [(h0, .inr (4, [.int 0, .null, .null, .int 0, .int 0, .null, .null]))] s.heap := hP
  have hl := lv_entry ([.ref h0]) (n := 1) (Nat.le_of_ble_eq_true rfl)
  rw [lg_entry_eq]
  generalize (lg_sl ([.ref h0]) ++ List.replicate (1 - (lg_sl ([.ref h0])).length) Slot.unset).toArray = ls at hl ⊢
  have hl : lv_has ls 1 [(0, .ref h0)] := hl
  refine lv_aload_n hx hb dX6_init_0 rfl (lv_at hl 0 rfl) ?_
  refine W.objInit hx hb hown (hts (.methodLink RX6 3 objectInit) (by decide +kernel)) (hts (.instanceMethod objectInit) (by decide +kernel)) (hts _ (List.mem_of_getElem? (i := 3) rfl)) rfl (by rw [hml]; exact hl.1) rfl dX6_init_1 (Nat.le_of_ble_eq_true rfl) (Nat.le_of_ble_eq_true rfl) ?_
  refine W.eq (g2 := F0 m 4 ls []) rfl ?_
  refine lv_aload_n hx hb dX6_init_4 rfl (lv_at hl 0 rfl) ?_
  refine va_new (ci := 2) (fs := [.null]) (C := RX4) (T := TX4) (N := 1) hx hb hts (by decide +kernel) tyX4 tyX4_ok hown (hts (.classLink RX6 9 RX4) (by decide +kernel)) (hts (.instantiable RX4 1) (by decide +kernel)) (hts (.initialized RX4) (by decide +kernel)) hK.1 hP hD hS hA rfl (fun j hj => by rcases (show j = 0 by omega) with rfl <;> rfl) (Nat.le_of_ble_eq_true rfl) (Nat.le_of_ble_eq_true rfl) dX6_init_5 (fun q1 H hP hD hS => ?_)
  have hP : va_P D vwCl [(h0, .inr (4, [.int 0, .null, .null, .int 0, .int 0, .null, .null])), (q1, .inr (2, [.null]))] H := hP
  have hD : va_D A [(h0, .inr (4, [.int 0, .null, .null, .int 0, .int 0, .null, .null])), (q1, .inr (2, [.null]))] := hD
  refine W.widen (k := 1) (n := 1) (Nat.le_of_ble_eq_true rfl) (Nat.le_of_ble_eq_true rfl) ?_
  refine lv_dup hx hb dX6_init_8 rfl ?_
  refine lv_bipush (v := 8) hx hb dX6_init_9 (by decide) ?_
  have hPc := hP.sub (ws' := [(q1, .inr (2, [.null]))]) [1] rfl
  have hDc := hD.sub (ws' := [(q1, .inr (2, [.null]))]) [1] (by decide) rfl
  have hFc := va_free (wc := [(q1, .inr (2, [.null]))]) hD hS hA [1] rfl
  refine va_callv (va_runI (As := [.int 8]) (rest := [.ref q1, .ref h0]) ⟨hx, hb, hml, hown, hts⟩ (c_X4_init l D cy q1 8 8 H.size (by decide) (by decide) (by decide)) (cwI 1 hts gX6_init_X4_init rfl rfl rfl (hts (.initialized RX4) (by decide +kernel)) (hts (.methodLink RX6 11 yX4_init) (by decide +kernel)) (hts (.instanceMethod yX4_init) (by decide +kernel)) rfl (by decide +kernel) ⟨Nat.le_of_ble_eq_true rfl, Nat.le_of_ble_eq_true rfl⟩) ⟨ctP_blind, fun U hU hW => ⟨rfl, by rw [hU], by rw [hU]; exact hPc, hK.warm hW, hDc.weaken (fun _ _ _ _ => trivial)⟩⟩ rfl rfl hl.1 rfl (lv_room (Nat.le_of_ble_eq_true rfl)) dX6_init_11 ⟨Nat.le_of_ble_eq_true rfl, Nat.le_of_ble_eq_true rfl⟩) hS (fun q _ h => hFc q h) hFc (fun u t H1 locs ht hvm hw hB hz1 hk1 hS => ?_)
  obtain ⟨z2, rfl⟩ : ∃ z, z = u := ⟨_, rfl⟩
  obtain ⟨hP1, hD1⟩ := hB
  rw [ht] at hP1
  obtain ⟨hP, hD⟩ := va_join (wr := [(h0, .inr (4, [.int 0, .null, .null, .int 0, .int 0, .null, .null]))]) (w1 := [(q1, .inr (2, [.ref z2])), (z2, .inl (cy 0, (8, .inl zF)))]) hP hD [1] [0] rfl rfl (by decide) (by decide) hk1 hFc hP1 hD1
  generalize H1 = H at hP hS ⊢
  have hP : va_P D vwCl [(h0, .inr (4, [.int 0, .null, .null, .int 0, .int 0, .null, .null])), (q1, .inr (2, [.ref z2])), (z2, .inl (cy 0, (8, .inl zF)))] H := hP
  have hD : va_D A [(h0, .inr (4, [.int 0, .null, .null, .int 0, .int 0, .null, .null])), (q1, .inr (2, [.ref z2])), (z2, .inl (cy 0, (8, .inl zF)))] := hD
  refine W.widen (k := 2) (n := 9) (Nat.le_of_ble_eq_true rfl) (Nat.le_of_ble_eq_true rfl) ?_
  refine va_putF (D := D) (ci := 4) (v := .ref q1) (ty := .object "PivotChamber$Row") (C := RX6) (T := TX6) (N := 7) hx hb hts (by decide +kernel) tyX6 tyX6_ok nmX6 hown hK.1 hP hD hS 0 rfl rfl 1 (by decide) (hts (.fieldLink RX6 14 "PivotChamber$Setting" "weights" "LPivotChamber$Row;") (by decide +kernel)) (fun _ h9 => h9) rfl hin rfl (by decide +kernel) rfl rfl (Nat.le_of_ble_eq_true rfl) dX6_init_14 (fun H locs hP hD hS => ?_)
  have hP : va_P D vwCl [(h0, .inr (4, [.int 0, .ref q1, .null, .int 0, .int 0, .null, .null])), (q1, .inr (2, [.ref z2])), (z2, .inl (cy 0, (8, .inl zF)))] H := hP
  have hD : va_D A [(h0, .inr (4, [.int 0, .ref q1, .null, .int 0, .int 0, .null, .null])), (q1, .inr (2, [.ref z2])), (z2, .inl (cy 0, (8, .inl zF)))] := hD
  refine lv_aload_n hx hb dX6_init_17 rfl (lv_at hl 0 rfl) ?_
  refine va_new (ci := 2) (fs := [.null]) (C := RX4) (T := TX4) (N := 1) hx hb hts (by decide +kernel) tyX4 tyX4_ok hown (hts (.classLink RX6 9 RX4) (by decide +kernel)) (hts (.instantiable RX4 1) (by decide +kernel)) (hts (.initialized RX4) (by decide +kernel)) hK.1 hP hD hS hA rfl (fun j hj => by rcases (show j = 0 by omega) with rfl <;> rfl) (Nat.le_of_ble_eq_true rfl) (Nat.le_of_ble_eq_true rfl) dX6_init_18 (fun q3 H hP hD hS => ?_)
  have hP : va_P D vwCl [(h0, .inr (4, [.int 0, .ref q1, .null, .int 0, .int 0, .null, .null])), (q1, .inr (2, [.ref z2])), (z2, .inl (cy 0, (8, .inl zF))), (q3, .inr (2, [.null]))] H := hP
  have hD : va_D A [(h0, .inr (4, [.int 0, .ref q1, .null, .int 0, .int 0, .null, .null])), (q1, .inr (2, [.ref z2])), (z2, .inl (cy 0, (8, .inl zF))), (q3, .inr (2, [.null]))] := hD
  refine W.widen (k := 3) (n := 10) (Nat.le_of_ble_eq_true rfl) (Nat.le_of_ble_eq_true rfl) ?_
  refine lv_dup hx hb dX6_init_21 rfl ?_
  refine lv_bipush (v := 8) hx hb dX6_init_22 (by decide) ?_
  have hPc := hP.sub (ws' := [(q3, .inr (2, [.null]))]) [3] rfl
  have hDc := hD.sub (ws' := [(q3, .inr (2, [.null]))]) [3] (by decide) rfl
  have hFc := va_free (wc := [(q3, .inr (2, [.null]))]) hD hS hA [3] rfl
  refine va_callv (va_runI (As := [.int 8]) (rest := [.ref q3, .ref h0]) ⟨hx, hb, hml, hown, hts⟩ (c_X4_init l D cy q3 8 8 H.size (by decide) (by decide) (by decide)) (cwI 1 hts gX6_init_X4_init rfl rfl rfl (hts (.initialized RX4) (by decide +kernel)) (hts (.methodLink RX6 11 yX4_init) (by decide +kernel)) (hts (.instanceMethod yX4_init) (by decide +kernel)) rfl (by decide +kernel) ⟨Nat.le_of_ble_eq_true rfl, Nat.le_of_ble_eq_true rfl⟩) ⟨ctP_blind, fun U hU hW => ⟨rfl, by rw [hU], by rw [hU]; exact hPc, hK.warm hW, hDc.weaken (fun _ _ _ _ => trivial)⟩⟩ rfl rfl hl.1 rfl (lv_room (Nat.le_of_ble_eq_true rfl)) dX6_init_24 ⟨Nat.le_of_ble_eq_true rfl, Nat.le_of_ble_eq_true rfl⟩) hS (fun q _ h => hFc q h) hFc (fun u t H1 locs ht hvm hw hB hz1 hk1 hS => ?_)
  obtain ⟨z4, rfl⟩ : ∃ z, z = u := ⟨_, rfl⟩
  obtain ⟨hP1, hD1⟩ := hB
  rw [ht] at hP1
  obtain ⟨hP, hD⟩ := va_join (wr := [(h0, .inr (4, [.int 0, .ref q1, .null, .int 0, .int 0, .null, .null])), (q1, .inr (2, [.ref z2])), (z2, .inl (cy 0, (8, .inl zF)))]) (w1 := [(q3, .inr (2, [.ref z4])), (z4, .inl (cy 0, (8, .inl zF)))]) hP hD [3] [0, 1, 2] rfl rfl (by decide) (by decide) hk1 hFc hP1 hD1
  generalize H1 = H at hP hS ⊢
  have hP : va_P D vwCl [(h0, .inr (4, [.int 0, .ref q1, .null, .int 0, .int 0, .null, .null])), (q1, .inr (2, [.ref z2])), (z2, .inl (cy 0, (8, .inl zF))), (q3, .inr (2, [.ref z4])), (z4, .inl (cy 0, (8, .inl zF)))] H := hP
  have hD : va_D A [(h0, .inr (4, [.int 0, .ref q1, .null, .int 0, .int 0, .null, .null])), (q1, .inr (2, [.ref z2])), (z2, .inl (cy 0, (8, .inl zF))), (q3, .inr (2, [.ref z4])), (z4, .inl (cy 0, (8, .inl zF)))] := hD
  refine W.widen (k := 4) (n := 18) (Nat.le_of_ble_eq_true rfl) (Nat.le_of_ble_eq_true rfl) ?_
  refine va_putF (D := D) (ci := 4) (v := .ref q3) (ty := .object "PivotChamber$Row") (C := RX6) (T := TX6) (N := 7) hx hb hts (by decide +kernel) tyX6 tyX6_ok nmX6 hown hK.1 hP hD hS 0 rfl rfl 2 (by decide) (hts (.fieldLink RX6 20 "PivotChamber$Setting" "leaders" "LPivotChamber$Row;") (by decide +kernel)) (fun _ h9 => h9) rfl hin rfl (by decide +kernel) rfl rfl (Nat.le_of_ble_eq_true rfl) dX6_init_27 (fun H locs hP hD hS => ?_)
  have hP : va_P D vwCl [(h0, .inr (4, [.int 0, .ref q1, .ref q3, .int 0, .int 0, .null, .null])), (q1, .inr (2, [.ref z2])), (z2, .inl (cy 0, (8, .inl zF))), (q3, .inr (2, [.ref z4])), (z4, .inl (cy 0, (8, .inl zF)))] H := hP
  have hD : va_D A [(h0, .inr (4, [.int 0, .ref q1, .ref q3, .int 0, .int 0, .null, .null])), (q1, .inr (2, [.ref z2])), (z2, .inl (cy 0, (8, .inl zF))), (q3, .inr (2, [.ref z4])), (z4, .inl (cy 0, (8, .inl zF)))] := hD
  refine lv_aload_n hx hb dX6_init_30 rfl (lv_at hl 0 rfl) ?_
  refine lv_iconst (v := 1) hx hb dX6_init_31 (by decide) ?_
  refine va_put (D := D) (ci := 4) (v := .int 1) (ty := .int) (C := RX6) (T := TX6) (N := 7) hx hb hts (by decide +kernel) tyX6 tyX6_ok nmX6 hown hK.1 hP hD hS 0 rfl rfl 3 (by decide) (hts (.fieldLink RX6 23 "PivotChamber$Setting" "quota" "I") (by decide +kernel)) (fun _ h9 => h9) rfl (by decide +kernel) rfl rfl (Nat.le_of_ble_eq_true rfl) dX6_init_32 (fun H locs hP hD hS => ?_)
  have hP : va_P D vwCl [(h0, .inr (4, [.int 0, .ref q1, .ref q3, .int 1, .int 0, .null, .null])), (q1, .inr (2, [.ref z2])), (z2, .inl (cy 0, (8, .inl zF))), (q3, .inr (2, [.ref z4])), (z4, .inl (cy 0, (8, .inl zF)))] H := hP
  have hD : va_D A [(h0, .inr (4, [.int 0, .ref q1, .ref q3, .int 1, .int 0, .null, .null])), (q1, .inr (2, [.ref z2])), (z2, .inl (cy 0, (8, .inl zF))), (q3, .inr (2, [.ref z4])), (z4, .inl (cy 0, (8, .inl zF)))] := hD
  refine lv_aload_n hx hb dX6_init_35 rfl (lv_at hl 0 rfl) ?_
  refine va_new (ci := 2) (fs := [.null]) (C := RX4) (T := TX4) (N := 1) hx hb hts (by decide +kernel) tyX4 tyX4_ok hown (hts (.classLink RX6 9 RX4) (by decide +kernel)) (hts (.instantiable RX4 1) (by decide +kernel)) (hts (.initialized RX4) (by decide +kernel)) hK.1 hP hD hS hA rfl (fun j hj => by rcases (show j = 0 by omega) with rfl <;> rfl) (Nat.le_of_ble_eq_true rfl) (Nat.le_of_ble_eq_true rfl) dX6_init_36 (fun q5 H hP hD hS => ?_)
  have hP : va_P D vwCl [(h0, .inr (4, [.int 0, .ref q1, .ref q3, .int 1, .int 0, .null, .null])), (q1, .inr (2, [.ref z2])), (z2, .inl (cy 0, (8, .inl zF))), (q3, .inr (2, [.ref z4])), (z4, .inl (cy 0, (8, .inl zF))), (q5, .inr (2, [.null]))] H := hP
  have hD : va_D A [(h0, .inr (4, [.int 0, .ref q1, .ref q3, .int 1, .int 0, .null, .null])), (q1, .inr (2, [.ref z2])), (z2, .inl (cy 0, (8, .inl zF))), (q3, .inr (2, [.ref z4])), (z4, .inl (cy 0, (8, .inl zF))), (q5, .inr (2, [.null]))] := hD
  refine W.widen (k := 5) (n := 19) (Nat.le_of_ble_eq_true rfl) (Nat.le_of_ble_eq_true rfl) ?_
  refine lv_dup hx hb dX6_init_39 rfl ?_
  refine lv_iconst (v := 4) hx hb dX6_init_40 (by decide) ?_
  have hPc := hP.sub (ws' := [(q5, .inr (2, [.null]))]) [5] rfl
  have hDc := hD.sub (ws' := [(q5, .inr (2, [.null]))]) [5] (by decide) rfl
  have hFc := va_free (wc := [(q5, .inr (2, [.null]))]) hD hS hA [5] rfl
  refine va_callv (va_runI (As := [.int 4]) (rest := [.ref q5, .ref h0]) ⟨hx, hb, hml, hown, hts⟩ (c_X4_init l D cy q5 4 4 H.size (by decide) (by decide) (by decide)) (cwI 1 hts gX6_init_X4_init rfl rfl rfl (hts (.initialized RX4) (by decide +kernel)) (hts (.methodLink RX6 11 yX4_init) (by decide +kernel)) (hts (.instanceMethod yX4_init) (by decide +kernel)) rfl (by decide +kernel) ⟨Nat.le_of_ble_eq_true rfl, Nat.le_of_ble_eq_true rfl⟩) ⟨ctP_blind, fun U hU hW => ⟨rfl, by rw [hU], by rw [hU]; exact hPc, hK.warm hW, hDc.weaken (fun _ _ _ _ => trivial)⟩⟩ rfl rfl hl.1 rfl (lv_room (Nat.le_of_ble_eq_true rfl)) dX6_init_41 ⟨Nat.le_of_ble_eq_true rfl, Nat.le_of_ble_eq_true rfl⟩) hS (fun q _ h => hFc q h) hFc (fun u t H1 locs ht hvm hw hB hz1 hk1 hS => ?_)
  obtain ⟨z6, rfl⟩ : ∃ z, z = u := ⟨_, rfl⟩
  obtain ⟨hP1, hD1⟩ := hB
  rw [ht] at hP1
  obtain ⟨hP, hD⟩ := va_join (wr := [(h0, .inr (4, [.int 0, .ref q1, .ref q3, .int 1, .int 0, .null, .null])), (q1, .inr (2, [.ref z2])), (z2, .inl (cy 0, (8, .inl zF))), (q3, .inr (2, [.ref z4])), (z4, .inl (cy 0, (8, .inl zF)))]) (w1 := [(q5, .inr (2, [.ref z6])), (z6, .inl (cy 0, (4, .inl zF)))]) hP hD [5] [0, 1, 2, 3, 4] rfl rfl (by decide) (by decide) hk1 hFc hP1 hD1
  generalize H1 = H at hP hS ⊢
  have hP : va_P D vwCl [(h0, .inr (4, [.int 0, .ref q1, .ref q3, .int 1, .int 0, .null, .null])), (q1, .inr (2, [.ref z2])), (z2, .inl (cy 0, (8, .inl zF))), (q3, .inr (2, [.ref z4])), (z4, .inl (cy 0, (8, .inl zF))), (q5, .inr (2, [.ref z6])), (z6, .inl (cy 0, (4, .inl zF)))] H := hP
  have hD : va_D A [(h0, .inr (4, [.int 0, .ref q1, .ref q3, .int 1, .int 0, .null, .null])), (q1, .inr (2, [.ref z2])), (z2, .inl (cy 0, (8, .inl zF))), (q3, .inr (2, [.ref z4])), (z4, .inl (cy 0, (8, .inl zF))), (q5, .inr (2, [.ref z6])), (z6, .inl (cy 0, (4, .inl zF)))] := hD
  refine W.widen (k := 6) (n := 23) (Nat.le_of_ble_eq_true rfl) (Nat.le_of_ble_eq_true rfl) ?_
  refine va_putF (D := D) (ci := 4) (v := .ref q5) (ty := .object "PivotChamber$Row") (C := RX6) (T := TX6) (N := 7) hx hb hts (by decide +kernel) tyX6 tyX6_ok nmX6 hown hK.1 hP hD hS 0 rfl rfl 5 (by decide) (hts (.fieldLink RX6 27 "PivotChamber$Setting" "kinds" "LPivotChamber$Row;") (by decide +kernel)) (fun _ h9 => h9) rfl hin rfl (by decide +kernel) rfl rfl (Nat.le_of_ble_eq_true rfl) dX6_init_44 (fun H locs hP hD hS => ?_)
  have hP : va_P D vwCl [(h0, .inr (4, [.int 0, .ref q1, .ref q3, .int 1, .int 0, .ref q5, .null])), (q1, .inr (2, [.ref z2])), (z2, .inl (cy 0, (8, .inl zF))), (q3, .inr (2, [.ref z4])), (z4, .inl (cy 0, (8, .inl zF))), (q5, .inr (2, [.ref z6])), (z6, .inl (cy 0, (4, .inl zF)))] H := hP
  have hD : va_D A [(h0, .inr (4, [.int 0, .ref q1, .ref q3, .int 1, .int 0, .ref q5, .null])), (q1, .inr (2, [.ref z2])), (z2, .inl (cy 0, (8, .inl zF))), (q3, .inr (2, [.ref z4])), (z4, .inl (cy 0, (8, .inl zF))), (q5, .inr (2, [.ref z6])), (z6, .inl (cy 0, (4, .inl zF)))] := hD
  refine lv_aload_n hx hb dX6_init_47 rfl (lv_at hl 0 rfl) ?_
  refine va_new (ci := 2) (fs := [.null]) (C := RX4) (T := TX4) (N := 1) hx hb hts (by decide +kernel) tyX4 tyX4_ok hown (hts (.classLink RX6 9 RX4) (by decide +kernel)) (hts (.instantiable RX4 1) (by decide +kernel)) (hts (.initialized RX4) (by decide +kernel)) hK.1 hP hD hS hA rfl (fun j hj => by rcases (show j = 0 by omega) with rfl <;> rfl) (Nat.le_of_ble_eq_true rfl) (Nat.le_of_ble_eq_true rfl) dX6_init_48 (fun q7 H hP hD hS => ?_)
  have hP : va_P D vwCl [(h0, .inr (4, [.int 0, .ref q1, .ref q3, .int 1, .int 0, .ref q5, .null])), (q1, .inr (2, [.ref z2])), (z2, .inl (cy 0, (8, .inl zF))), (q3, .inr (2, [.ref z4])), (z4, .inl (cy 0, (8, .inl zF))), (q5, .inr (2, [.ref z6])), (z6, .inl (cy 0, (4, .inl zF))), (q7, .inr (2, [.null]))] H := hP
  have hD : va_D A [(h0, .inr (4, [.int 0, .ref q1, .ref q3, .int 1, .int 0, .ref q5, .null])), (q1, .inr (2, [.ref z2])), (z2, .inl (cy 0, (8, .inl zF))), (q3, .inr (2, [.ref z4])), (z4, .inl (cy 0, (8, .inl zF))), (q5, .inr (2, [.ref z6])), (z6, .inl (cy 0, (4, .inl zF))), (q7, .inr (2, [.null]))] := hD
  refine W.widen (k := 7) (n := 24) (Nat.le_of_ble_eq_true rfl) (Nat.le_of_ble_eq_true rfl) ?_
  refine lv_dup hx hb dX6_init_51 rfl ?_
  refine lv_iconst (v := 4) hx hb dX6_init_52 (by decide) ?_
  have hPc := hP.sub (ws' := [(q7, .inr (2, [.null]))]) [7] rfl
  have hDc := hD.sub (ws' := [(q7, .inr (2, [.null]))]) [7] (by decide) rfl
  have hFc := va_free (wc := [(q7, .inr (2, [.null]))]) hD hS hA [7] rfl
  refine va_callv (va_runI (As := [.int 4]) (rest := [.ref q7, .ref h0]) ⟨hx, hb, hml, hown, hts⟩ (c_X4_init l D cy q7 4 4 H.size (by decide) (by decide) (by decide)) (cwI 1 hts gX6_init_X4_init rfl rfl rfl (hts (.initialized RX4) (by decide +kernel)) (hts (.methodLink RX6 11 yX4_init) (by decide +kernel)) (hts (.instanceMethod yX4_init) (by decide +kernel)) rfl (by decide +kernel) ⟨Nat.le_of_ble_eq_true rfl, Nat.le_of_ble_eq_true rfl⟩) ⟨ctP_blind, fun U hU hW => ⟨rfl, by rw [hU], by rw [hU]; exact hPc, hK.warm hW, hDc.weaken (fun _ _ _ _ => trivial)⟩⟩ rfl rfl hl.1 rfl (lv_room (Nat.le_of_ble_eq_true rfl)) dX6_init_53 ⟨Nat.le_of_ble_eq_true rfl, Nat.le_of_ble_eq_true rfl⟩) hS (fun q _ h => hFc q h) hFc (fun u t H1 locs ht hvm hw hB hz1 hk1 hS => ?_)
  obtain ⟨z8, rfl⟩ : ∃ z, z = u := ⟨_, rfl⟩
  obtain ⟨hP1, hD1⟩ := hB
  rw [ht] at hP1
  obtain ⟨hP, hD⟩ := va_join (wr := [(h0, .inr (4, [.int 0, .ref q1, .ref q3, .int 1, .int 0, .ref q5, .null])), (q1, .inr (2, [.ref z2])), (z2, .inl (cy 0, (8, .inl zF))), (q3, .inr (2, [.ref z4])), (z4, .inl (cy 0, (8, .inl zF))), (q5, .inr (2, [.ref z6])), (z6, .inl (cy 0, (4, .inl zF)))]) (w1 := [(q7, .inr (2, [.ref z8])), (z8, .inl (cy 0, (4, .inl zF)))]) hP hD [7] [0, 1, 2, 3, 4, 5, 6] rfl rfl (by decide) (by decide) hk1 hFc hP1 hD1
  generalize H1 = H at hP hS ⊢
  have hP : va_P D vwCl [(h0, .inr (4, [.int 0, .ref q1, .ref q3, .int 1, .int 0, .ref q5, .null])), (q1, .inr (2, [.ref z2])), (z2, .inl (cy 0, (8, .inl zF))), (q3, .inr (2, [.ref z4])), (z4, .inl (cy 0, (8, .inl zF))), (q5, .inr (2, [.ref z6])), (z6, .inl (cy 0, (4, .inl zF))), (q7, .inr (2, [.ref z8])), (z8, .inl (cy 0, (4, .inl zF)))] H := hP
  have hD : va_D A [(h0, .inr (4, [.int 0, .ref q1, .ref q3, .int 1, .int 0, .ref q5, .null])), (q1, .inr (2, [.ref z2])), (z2, .inl (cy 0, (8, .inl zF))), (q3, .inr (2, [.ref z4])), (z4, .inl (cy 0, (8, .inl zF))), (q5, .inr (2, [.ref z6])), (z6, .inl (cy 0, (4, .inl zF))), (q7, .inr (2, [.ref z8])), (z8, .inl (cy 0, (4, .inl zF)))] := hD
  refine W.widen (k := 8) (n := 28) (Nat.le_of_ble_eq_true rfl) (Nat.le_of_ble_eq_true rfl) ?_
  refine va_putF (D := D) (ci := 4) (v := .ref q7) (ty := .object "PivotChamber$Row") (C := RX6) (T := TX6) (N := 7) hx hb hts (by decide +kernel) tyX6 tyX6_ok nmX6 hown hK.1 hP hD hS 0 rfl rfl 6 (by decide) (hts (.fieldLink RX6 30 "PivotChamber$Setting" "values" "LPivotChamber$Row;") (by decide +kernel)) (fun _ h9 => h9) rfl hin rfl (by decide +kernel) rfl rfl (Nat.le_of_ble_eq_true rfl) dX6_init_56 (fun H locs hP hD hS => ?_)
  have hP : va_P D vwCl [(h0, .inr (4, [.int 0, .ref q1, .ref q3, .int 1, .int 0, .ref q5, .ref q7])), (q1, .inr (2, [.ref z2])), (z2, .inl (cy 0, (8, .inl zF))), (q3, .inr (2, [.ref z4])), (z4, .inl (cy 0, (8, .inl zF))), (q5, .inr (2, [.ref z6])), (z6, .inl (cy 0, (4, .inl zF))), (q7, .inr (2, [.ref z8])), (z8, .inl (cy 0, (4, .inl zF)))] H := hP
  have hD : va_D A [(h0, .inr (4, [.int 0, .ref q1, .ref q3, .int 1, .int 0, .ref q5, .ref q7])), (q1, .inr (2, [.ref z2])), (z2, .inl (cy 0, (8, .inl zF))), (q3, .inr (2, [.ref z4])), (z4, .inl (cy 0, (8, .inl zF))), (q5, .inr (2, [.ref z6])), (z6, .inl (cy 0, (4, .inl zF))), (q7, .inr (2, [.ref z8])), (z8, .inl (cy 0, (4, .inl zF)))] := hD
  have ha : (ad [h0, q1, z2, q3, z4, q5, z6, q7, z8]) 0 = h0 := rfl
  have hP9 := hP.sub (ws' := (wSet cy (ad [h0, q1, z2, q3, z4, q5, z6, q7, z8]) (0, 1, 0, zF, zF, zF, zF))) [0, 1, 2, 3, 4, 5, 6, 7, 8] rfl
  have hD9 := hD.sub (ws' := (wSet cy (ad [h0, q1, z2, q3, z4, q5, z6, q7, z8]) (0, 1, 0, zF, zF, zF, zF))) [0, 1, 2, 3, 4, 5, 6, 7, 8] (by decide) rfl
  refine W.widen (k := 8) (n := 28) (by omega) (by omega) ?_
  exact W.vret hx hb hr (fun t ht hW => ⟨⟨ad [h0, q1, z2, q3, z4, q5, z6, q7, z8], rfl, trivial, rfl, by rw [ht]; exact hP9, hD9⟩, hS.F ht⟩) hS.2.2 dX6_init_59
set_option maxHeartbeats 1000000 in
set_option maxRecDepth 100000 in
theorem c_X3_init (l : Launch) (D : va_G) (cy : Nat → ClassId) (h0 : Nat) (sz : Nat) : Met l yX3_init wsX3_init ({ frames := 2, cells := 14, slots := 1595, locals := 33 }) (ctP D cy [(h0, .inr (1, [.int 0, .int 0, .null, .null, .int 0, .int 0, .int 0, .null, .null, .null, .int 0, .null, .null]))] [.ref h0] sz) (va_Qv (fun _ : Nat → Nat => True) (fun u t => u 0 = h0 ∧ va_P D vwCl (wPow cy u (0, 0, 0, 0, 0, 0, zF, zF, zF, zF, zF, zF, zF)) t.heap ∧ va_D (va_A [(h0, .inr (1, [.int 0, .int 0, .null, .null, .int 0, .int 0, .int 0, .null, .null, .null, .int 0, .null, .null]))] sz) (wPow cy u (0, 0, 0, 0, 0, 0, zF, zF, zF, zF, zF, zF, zF))) (va_A [(h0, .inr (1, [.int 0, .int 0, .null, .null, .int 0, .int 0, .int 0, .null, .null, .null, .int 0, .null, .null]))] sz)) 14 1595 (va_A [(h0, .inr (1, [.int 0, .int 0, .null, .null, .int 0, .int 0, .int 0, .null, .null, .null, .int 0, .null, .null]))] sz) := by
  refine Met.ofW (cc := cX3_init) (maxL := 1) (ret := none) (by decide) rfl ?_
  intro p e s m args below meth c s₁ BB hml hv
  obtain ⟨rfl, hsz, hP, hK, hD0⟩ := hv
  have hx := BB.exec
  have hb := BB.bytes
  have hr := BB.returns
  have hts := atoms_spec (ws := wsX3_init) BB.pre
  have hown : s.vm.findClass RX3 = some m.cls := findClass_of_methodNamed BB.named
  have hlocks := BB.notSynchronized
  have hin : meth.name = "<init>" := (name_of_methodNamed BB.named BB.method).1
  subst hsz
  have hD := hD0.self (sz := s.heap.size)
  generalize hAe : va_A [(h0, .inr (1, [.int 0, .int 0, .null, .null, .int 0, .int 0, .int 0, .null, .null, .null, .int 0, .null, .null]))] s.heap.size = A at hD ⊢
  have hA : ∀ q : Nat, s.heap.size ≤ q → A q := fun q h => by rw [← hAe]; exact Or.inr h
  have hS : va_S A s.heap s.heap [] := va_S.rf
  have hP : va_P D vwCl [(h0, .inr (1, [.int 0, .int 0, .null, .null, .int 0, .int 0, .int 0, .null, .null, .null, .int 0, .null, .null]))] s.heap := hP
  have hl := lv_entry ([.ref h0]) (n := 1) (Nat.le_of_ble_eq_true rfl)
  rw [lg_entry_eq]
  generalize (lg_sl ([.ref h0]) ++ List.replicate (1 - (lg_sl ([.ref h0])).length) Slot.unset).toArray = ls at hl ⊢
  have hl : lv_has ls 1 [(0, .ref h0)] := hl
  refine lv_aload_n hx hb dX3_init_0 rfl (lv_at hl 0 rfl) ?_
  refine W.objInit hx hb hown (hts (.methodLink RX3 3 objectInit) (by decide +kernel)) (hts (.instanceMethod objectInit) (by decide +kernel)) (hts _ (List.mem_of_getElem? (i := 3) rfl)) rfl (by rw [hml]; exact hl.1) rfl dX3_init_1 (Nat.le_of_ble_eq_true rfl) (Nat.le_of_ble_eq_true rfl) ?_
  refine W.eq (g2 := F0 m 4 ls []) rfl ?_
  refine lv_aload_n hx hb dX3_init_4 rfl (lv_at hl 0 rfl) ?_
  refine va_new (ci := 2) (fs := [.null]) (C := RX4) (T := TX4) (N := 1) hx hb hts (by decide +kernel) tyX4 tyX4_ok hown (hts (.classLink RX3 9 RX4) (by decide +kernel)) (hts (.instantiable RX4 1) (by decide +kernel)) (hts (.initialized RX4) (by decide +kernel)) hK.1 hP hD hS hA rfl (fun j hj => by rcases (show j = 0 by omega) with rfl <;> rfl) (Nat.le_of_ble_eq_true rfl) (Nat.le_of_ble_eq_true rfl) dX3_init_5 (fun q1 H hP hD hS => ?_)
  have hP : va_P D vwCl [(h0, .inr (1, [.int 0, .int 0, .null, .null, .int 0, .int 0, .int 0, .null, .null, .null, .int 0, .null, .null])), (q1, .inr (2, [.null]))] H := hP
  have hD : va_D A [(h0, .inr (1, [.int 0, .int 0, .null, .null, .int 0, .int 0, .int 0, .null, .null, .null, .int 0, .null, .null])), (q1, .inr (2, [.null]))] := hD
  refine W.widen (k := 1) (n := 1) (Nat.le_of_ble_eq_true rfl) (Nat.le_of_ble_eq_true rfl) ?_
  refine lv_dup hx hb dX3_init_8 rfl ?_
  refine lv_sipush (v := 256) hx hb dX3_init_9 (by decide) ?_
  have hPc := hP.sub (ws' := [(q1, .inr (2, [.null]))]) [1] rfl
  have hDc := hD.sub (ws' := [(q1, .inr (2, [.null]))]) [1] (by decide) rfl
  have hFc := va_free (wc := [(q1, .inr (2, [.null]))]) hD hS hA [1] rfl
  refine va_callv (va_runI (As := [.int 256]) (rest := [.ref q1, .ref h0]) ⟨hx, hb, hml, hown, hts⟩ (c_X4_init l D cy q1 256 256 H.size (by decide) (by decide) (by decide)) (cwI 1 hts gX3_init_X4_init rfl rfl rfl (hts (.initialized RX4) (by decide +kernel)) (hts (.methodLink RX3 11 yX4_init) (by decide +kernel)) (hts (.instanceMethod yX4_init) (by decide +kernel)) rfl (by decide +kernel) ⟨Nat.le_of_ble_eq_true rfl, Nat.le_of_ble_eq_true rfl⟩) ⟨ctP_blind, fun U hU hW => ⟨rfl, by rw [hU], by rw [hU]; exact hPc, hK.warm hW, hDc.weaken (fun _ _ _ _ => trivial)⟩⟩ rfl rfl hl.1 rfl (lv_room (Nat.le_of_ble_eq_true rfl)) dX3_init_12 ⟨Nat.le_of_ble_eq_true rfl, Nat.le_of_ble_eq_true rfl⟩) hS (fun q _ h => hFc q h) hFc (fun u t H1 locs ht hvm hw hB hz1 hk1 hS => ?_)
  obtain ⟨z2, rfl⟩ : ∃ z, z = u := ⟨_, rfl⟩
  obtain ⟨hP1, hD1⟩ := hB
  rw [ht] at hP1
  obtain ⟨hP, hD⟩ := va_join (wr := [(h0, .inr (1, [.int 0, .int 0, .null, .null, .int 0, .int 0, .int 0, .null, .null, .null, .int 0, .null, .null]))]) (w1 := [(q1, .inr (2, [.ref z2])), (z2, .inl (cy 0, (256, .inl zF)))]) hP hD [1] [0] rfl rfl (by decide) (by decide) hk1 hFc hP1 hD1
  generalize H1 = H at hP hS ⊢
  have hP : va_P D vwCl [(h0, .inr (1, [.int 0, .int 0, .null, .null, .int 0, .int 0, .int 0, .null, .null, .null, .int 0, .null, .null])), (q1, .inr (2, [.ref z2])), (z2, .inl (cy 0, (256, .inl zF)))] H := hP
  have hD : va_D A [(h0, .inr (1, [.int 0, .int 0, .null, .null, .int 0, .int 0, .int 0, .null, .null, .null, .int 0, .null, .null])), (q1, .inr (2, [.ref z2])), (z2, .inl (cy 0, (256, .inl zF)))] := hD
  refine W.widen (k := 2) (n := 257) (Nat.le_of_ble_eq_true rfl) (Nat.le_of_ble_eq_true rfl) ?_
  refine va_putF (D := D) (ci := 1) (v := .ref q1) (ty := .object "PivotChamber$Row") (C := RX3) (T := TX3) (N := 13) hx hb hts (by decide +kernel) tyX3 tyX3_ok nmX3 hown hK.1 hP hD hS 0 rfl rfl 2 (by decide) (hts (.fieldLink RX3 14 "PivotChamber$Power" "yesSayers" "LPivotChamber$Row;") (by decide +kernel)) (fun _ h9 => h9) rfl hin rfl (by decide +kernel) rfl rfl (Nat.le_of_ble_eq_true rfl) dX3_init_15 (fun H locs hP hD hS => ?_)
  have hP : va_P D vwCl [(h0, .inr (1, [.int 0, .int 0, .ref q1, .null, .int 0, .int 0, .int 0, .null, .null, .null, .int 0, .null, .null])), (q1, .inr (2, [.ref z2])), (z2, .inl (cy 0, (256, .inl zF)))] H := hP
  have hD : va_D A [(h0, .inr (1, [.int 0, .int 0, .ref q1, .null, .int 0, .int 0, .int 0, .null, .null, .null, .int 0, .null, .null])), (q1, .inr (2, [.ref z2])), (z2, .inl (cy 0, (256, .inl zF)))] := hD
  refine lv_aload_n hx hb dX3_init_18 rfl (lv_at hl 0 rfl) ?_
  refine va_new (ci := 2) (fs := [.null]) (C := RX4) (T := TX4) (N := 1) hx hb hts (by decide +kernel) tyX4 tyX4_ok hown (hts (.classLink RX3 9 RX4) (by decide +kernel)) (hts (.instantiable RX4 1) (by decide +kernel)) (hts (.initialized RX4) (by decide +kernel)) hK.1 hP hD hS hA rfl (fun j hj => by rcases (show j = 0 by omega) with rfl <;> rfl) (Nat.le_of_ble_eq_true rfl) (Nat.le_of_ble_eq_true rfl) dX3_init_19 (fun q3 H hP hD hS => ?_)
  have hP : va_P D vwCl [(h0, .inr (1, [.int 0, .int 0, .ref q1, .null, .int 0, .int 0, .int 0, .null, .null, .null, .int 0, .null, .null])), (q1, .inr (2, [.ref z2])), (z2, .inl (cy 0, (256, .inl zF))), (q3, .inr (2, [.null]))] H := hP
  have hD : va_D A [(h0, .inr (1, [.int 0, .int 0, .ref q1, .null, .int 0, .int 0, .int 0, .null, .null, .null, .int 0, .null, .null])), (q1, .inr (2, [.ref z2])), (z2, .inl (cy 0, (256, .inl zF))), (q3, .inr (2, [.null]))] := hD
  refine W.widen (k := 3) (n := 258) (Nat.le_of_ble_eq_true rfl) (Nat.le_of_ble_eq_true rfl) ?_
  refine lv_dup hx hb dX3_init_22 rfl ?_
  refine lv_sipush (v := 256) hx hb dX3_init_23 (by decide) ?_
  have hPc := hP.sub (ws' := [(q3, .inr (2, [.null]))]) [3] rfl
  have hDc := hD.sub (ws' := [(q3, .inr (2, [.null]))]) [3] (by decide) rfl
  have hFc := va_free (wc := [(q3, .inr (2, [.null]))]) hD hS hA [3] rfl
  refine va_callv (va_runI (As := [.int 256]) (rest := [.ref q3, .ref h0]) ⟨hx, hb, hml, hown, hts⟩ (c_X4_init l D cy q3 256 256 H.size (by decide) (by decide) (by decide)) (cwI 1 hts gX3_init_X4_init rfl rfl rfl (hts (.initialized RX4) (by decide +kernel)) (hts (.methodLink RX3 11 yX4_init) (by decide +kernel)) (hts (.instanceMethod yX4_init) (by decide +kernel)) rfl (by decide +kernel) ⟨Nat.le_of_ble_eq_true rfl, Nat.le_of_ble_eq_true rfl⟩) ⟨ctP_blind, fun U hU hW => ⟨rfl, by rw [hU], by rw [hU]; exact hPc, hK.warm hW, hDc.weaken (fun _ _ _ _ => trivial)⟩⟩ rfl rfl hl.1 rfl (lv_room (Nat.le_of_ble_eq_true rfl)) dX3_init_26 ⟨Nat.le_of_ble_eq_true rfl, Nat.le_of_ble_eq_true rfl⟩) hS (fun q _ h => hFc q h) hFc (fun u t H1 locs ht hvm hw hB hz1 hk1 hS => ?_)
  obtain ⟨z4, rfl⟩ : ∃ z, z = u := ⟨_, rfl⟩
  obtain ⟨hP1, hD1⟩ := hB
  rw [ht] at hP1
  obtain ⟨hP, hD⟩ := va_join (wr := [(h0, .inr (1, [.int 0, .int 0, .ref q1, .null, .int 0, .int 0, .int 0, .null, .null, .null, .int 0, .null, .null])), (q1, .inr (2, [.ref z2])), (z2, .inl (cy 0, (256, .inl zF)))]) (w1 := [(q3, .inr (2, [.ref z4])), (z4, .inl (cy 0, (256, .inl zF)))]) hP hD [3] [0, 1, 2] rfl rfl (by decide) (by decide) hk1 hFc hP1 hD1
  generalize H1 = H at hP hS ⊢
  have hP : va_P D vwCl [(h0, .inr (1, [.int 0, .int 0, .ref q1, .null, .int 0, .int 0, .int 0, .null, .null, .null, .int 0, .null, .null])), (q1, .inr (2, [.ref z2])), (z2, .inl (cy 0, (256, .inl zF))), (q3, .inr (2, [.ref z4])), (z4, .inl (cy 0, (256, .inl zF)))] H := hP
  have hD : va_D A [(h0, .inr (1, [.int 0, .int 0, .ref q1, .null, .int 0, .int 0, .int 0, .null, .null, .null, .int 0, .null, .null])), (q1, .inr (2, [.ref z2])), (z2, .inl (cy 0, (256, .inl zF))), (q3, .inr (2, [.ref z4])), (z4, .inl (cy 0, (256, .inl zF)))] := hD
  refine W.widen (k := 4) (n := 514) (Nat.le_of_ble_eq_true rfl) (Nat.le_of_ble_eq_true rfl) ?_
  refine va_putF (D := D) (ci := 1) (v := .ref q3) (ty := .object "PivotChamber$Row") (C := RX3) (T := TX3) (N := 13) hx hb hts (by decide +kernel) tyX3 tyX3_ok nmX3 hown hK.1 hP hD hS 0 rfl rfl 3 (by decide) (hts (.fieldLink RX3 20 "PivotChamber$Power" "strengths" "LPivotChamber$Row;") (by decide +kernel)) (fun _ h9 => h9) rfl hin rfl (by decide +kernel) rfl rfl (Nat.le_of_ble_eq_true rfl) dX3_init_29 (fun H locs hP hD hS => ?_)
  have hP : va_P D vwCl [(h0, .inr (1, [.int 0, .int 0, .ref q1, .ref q3, .int 0, .int 0, .int 0, .null, .null, .null, .int 0, .null, .null])), (q1, .inr (2, [.ref z2])), (z2, .inl (cy 0, (256, .inl zF))), (q3, .inr (2, [.ref z4])), (z4, .inl (cy 0, (256, .inl zF)))] H := hP
  have hD : va_D A [(h0, .inr (1, [.int 0, .int 0, .ref q1, .ref q3, .int 0, .int 0, .int 0, .null, .null, .null, .int 0, .null, .null])), (q1, .inr (2, [.ref z2])), (z2, .inl (cy 0, (256, .inl zF))), (q3, .inr (2, [.ref z4])), (z4, .inl (cy 0, (256, .inl zF)))] := hD
  refine lv_aload_n hx hb dX3_init_32 rfl (lv_at hl 0 rfl) ?_
  refine va_new (ci := 2) (fs := [.null]) (C := RX4) (T := TX4) (N := 1) hx hb hts (by decide +kernel) tyX4 tyX4_ok hown (hts (.classLink RX3 9 RX4) (by decide +kernel)) (hts (.instantiable RX4 1) (by decide +kernel)) (hts (.initialized RX4) (by decide +kernel)) hK.1 hP hD hS hA rfl (fun j hj => by rcases (show j = 0 by omega) with rfl <;> rfl) (Nat.le_of_ble_eq_true rfl) (Nat.le_of_ble_eq_true rfl) dX3_init_33 (fun q5 H hP hD hS => ?_)
  have hP : va_P D vwCl [(h0, .inr (1, [.int 0, .int 0, .ref q1, .ref q3, .int 0, .int 0, .int 0, .null, .null, .null, .int 0, .null, .null])), (q1, .inr (2, [.ref z2])), (z2, .inl (cy 0, (256, .inl zF))), (q3, .inr (2, [.ref z4])), (z4, .inl (cy 0, (256, .inl zF))), (q5, .inr (2, [.null]))] H := hP
  have hD : va_D A [(h0, .inr (1, [.int 0, .int 0, .ref q1, .ref q3, .int 0, .int 0, .int 0, .null, .null, .null, .int 0, .null, .null])), (q1, .inr (2, [.ref z2])), (z2, .inl (cy 0, (256, .inl zF))), (q3, .inr (2, [.ref z4])), (z4, .inl (cy 0, (256, .inl zF))), (q5, .inr (2, [.null]))] := hD
  refine W.widen (k := 5) (n := 515) (Nat.le_of_ble_eq_true rfl) (Nat.le_of_ble_eq_true rfl) ?_
  refine lv_dup hx hb dX3_init_36 rfl ?_
  refine lv_sipush (v := 256) hx hb dX3_init_37 (by decide) ?_
  have hPc := hP.sub (ws' := [(q5, .inr (2, [.null]))]) [5] rfl
  have hDc := hD.sub (ws' := [(q5, .inr (2, [.null]))]) [5] (by decide) rfl
  have hFc := va_free (wc := [(q5, .inr (2, [.null]))]) hD hS hA [5] rfl
  refine va_callv (va_runI (As := [.int 256]) (rest := [.ref q5, .ref h0]) ⟨hx, hb, hml, hown, hts⟩ (c_X4_init l D cy q5 256 256 H.size (by decide) (by decide) (by decide)) (cwI 1 hts gX3_init_X4_init rfl rfl rfl (hts (.initialized RX4) (by decide +kernel)) (hts (.methodLink RX3 11 yX4_init) (by decide +kernel)) (hts (.instanceMethod yX4_init) (by decide +kernel)) rfl (by decide +kernel) ⟨Nat.le_of_ble_eq_true rfl, Nat.le_of_ble_eq_true rfl⟩) ⟨ctP_blind, fun U hU hW => ⟨rfl, by rw [hU], by rw [hU]; exact hPc, hK.warm hW, hDc.weaken (fun _ _ _ _ => trivial)⟩⟩ rfl rfl hl.1 rfl (lv_room (Nat.le_of_ble_eq_true rfl)) dX3_init_40 ⟨Nat.le_of_ble_eq_true rfl, Nat.le_of_ble_eq_true rfl⟩) hS (fun q _ h => hFc q h) hFc (fun u t H1 locs ht hvm hw hB hz1 hk1 hS => ?_)
  obtain ⟨z6, rfl⟩ : ∃ z, z = u := ⟨_, rfl⟩
  obtain ⟨hP1, hD1⟩ := hB
  rw [ht] at hP1
  obtain ⟨hP, hD⟩ := va_join (wr := [(h0, .inr (1, [.int 0, .int 0, .ref q1, .ref q3, .int 0, .int 0, .int 0, .null, .null, .null, .int 0, .null, .null])), (q1, .inr (2, [.ref z2])), (z2, .inl (cy 0, (256, .inl zF))), (q3, .inr (2, [.ref z4])), (z4, .inl (cy 0, (256, .inl zF)))]) (w1 := [(q5, .inr (2, [.ref z6])), (z6, .inl (cy 0, (256, .inl zF)))]) hP hD [5] [0, 1, 2, 3, 4] rfl rfl (by decide) (by decide) hk1 hFc hP1 hD1
  generalize H1 = H at hP hS ⊢
  have hP : va_P D vwCl [(h0, .inr (1, [.int 0, .int 0, .ref q1, .ref q3, .int 0, .int 0, .int 0, .null, .null, .null, .int 0, .null, .null])), (q1, .inr (2, [.ref z2])), (z2, .inl (cy 0, (256, .inl zF))), (q3, .inr (2, [.ref z4])), (z4, .inl (cy 0, (256, .inl zF))), (q5, .inr (2, [.ref z6])), (z6, .inl (cy 0, (256, .inl zF)))] H := hP
  have hD : va_D A [(h0, .inr (1, [.int 0, .int 0, .ref q1, .ref q3, .int 0, .int 0, .int 0, .null, .null, .null, .int 0, .null, .null])), (q1, .inr (2, [.ref z2])), (z2, .inl (cy 0, (256, .inl zF))), (q3, .inr (2, [.ref z4])), (z4, .inl (cy 0, (256, .inl zF))), (q5, .inr (2, [.ref z6])), (z6, .inl (cy 0, (256, .inl zF)))] := hD
  refine W.widen (k := 6) (n := 771) (Nat.le_of_ble_eq_true rfl) (Nat.le_of_ble_eq_true rfl) ?_
  refine va_putF (D := D) (ci := 1) (v := .ref q5) (ty := .object "PivotChamber$Row") (C := RX3) (T := TX3) (N := 13) hx hb hts (by decide +kernel) tyX3 tyX3_ok nmX3 hown hK.1 hP hD hS 0 rfl rfl 7 (by decide) (hts (.fieldLink RX3 23 "PivotChamber$Power" "leastSets" "LPivotChamber$Row;") (by decide +kernel)) (fun _ h9 => h9) rfl hin rfl (by decide +kernel) rfl rfl (Nat.le_of_ble_eq_true rfl) dX3_init_43 (fun H locs hP hD hS => ?_)
  have hP : va_P D vwCl [(h0, .inr (1, [.int 0, .int 0, .ref q1, .ref q3, .int 0, .int 0, .int 0, .ref q5, .null, .null, .int 0, .null, .null])), (q1, .inr (2, [.ref z2])), (z2, .inl (cy 0, (256, .inl zF))), (q3, .inr (2, [.ref z4])), (z4, .inl (cy 0, (256, .inl zF))), (q5, .inr (2, [.ref z6])), (z6, .inl (cy 0, (256, .inl zF)))] H := hP
  have hD : va_D A [(h0, .inr (1, [.int 0, .int 0, .ref q1, .ref q3, .int 0, .int 0, .int 0, .ref q5, .null, .null, .int 0, .null, .null])), (q1, .inr (2, [.ref z2])), (z2, .inl (cy 0, (256, .inl zF))), (q3, .inr (2, [.ref z4])), (z4, .inl (cy 0, (256, .inl zF))), (q5, .inr (2, [.ref z6])), (z6, .inl (cy 0, (256, .inl zF)))] := hD
  refine lv_aload_n hx hb dX3_init_46 rfl (lv_at hl 0 rfl) ?_
  refine va_new (ci := 2) (fs := [.null]) (C := RX4) (T := TX4) (N := 1) hx hb hts (by decide +kernel) tyX4 tyX4_ok hown (hts (.classLink RX3 9 RX4) (by decide +kernel)) (hts (.instantiable RX4 1) (by decide +kernel)) (hts (.initialized RX4) (by decide +kernel)) hK.1 hP hD hS hA rfl (fun j hj => by rcases (show j = 0 by omega) with rfl <;> rfl) (Nat.le_of_ble_eq_true rfl) (Nat.le_of_ble_eq_true rfl) dX3_init_47 (fun q7 H hP hD hS => ?_)
  have hP : va_P D vwCl [(h0, .inr (1, [.int 0, .int 0, .ref q1, .ref q3, .int 0, .int 0, .int 0, .ref q5, .null, .null, .int 0, .null, .null])), (q1, .inr (2, [.ref z2])), (z2, .inl (cy 0, (256, .inl zF))), (q3, .inr (2, [.ref z4])), (z4, .inl (cy 0, (256, .inl zF))), (q5, .inr (2, [.ref z6])), (z6, .inl (cy 0, (256, .inl zF))), (q7, .inr (2, [.null]))] H := hP
  have hD : va_D A [(h0, .inr (1, [.int 0, .int 0, .ref q1, .ref q3, .int 0, .int 0, .int 0, .ref q5, .null, .null, .int 0, .null, .null])), (q1, .inr (2, [.ref z2])), (z2, .inl (cy 0, (256, .inl zF))), (q3, .inr (2, [.ref z4])), (z4, .inl (cy 0, (256, .inl zF))), (q5, .inr (2, [.ref z6])), (z6, .inl (cy 0, (256, .inl zF))), (q7, .inr (2, [.null]))] := hD
  refine W.widen (k := 7) (n := 772) (Nat.le_of_ble_eq_true rfl) (Nat.le_of_ble_eq_true rfl) ?_
  refine lv_dup hx hb dX3_init_50 rfl ?_
  refine lv_bipush (v := 8) hx hb dX3_init_51 (by decide) ?_
  have hPc := hP.sub (ws' := [(q7, .inr (2, [.null]))]) [7] rfl
  have hDc := hD.sub (ws' := [(q7, .inr (2, [.null]))]) [7] (by decide) rfl
  have hFc := va_free (wc := [(q7, .inr (2, [.null]))]) hD hS hA [7] rfl
  refine va_callv (va_runI (As := [.int 8]) (rest := [.ref q7, .ref h0]) ⟨hx, hb, hml, hown, hts⟩ (c_X4_init l D cy q7 8 8 H.size (by decide) (by decide) (by decide)) (cwI 1 hts gX3_init_X4_init rfl rfl rfl (hts (.initialized RX4) (by decide +kernel)) (hts (.methodLink RX3 11 yX4_init) (by decide +kernel)) (hts (.instanceMethod yX4_init) (by decide +kernel)) rfl (by decide +kernel) ⟨Nat.le_of_ble_eq_true rfl, Nat.le_of_ble_eq_true rfl⟩) ⟨ctP_blind, fun U hU hW => ⟨rfl, by rw [hU], by rw [hU]; exact hPc, hK.warm hW, hDc.weaken (fun _ _ _ _ => trivial)⟩⟩ rfl rfl hl.1 rfl (lv_room (Nat.le_of_ble_eq_true rfl)) dX3_init_53 ⟨Nat.le_of_ble_eq_true rfl, Nat.le_of_ble_eq_true rfl⟩) hS (fun q _ h => hFc q h) hFc (fun u t H1 locs ht hvm hw hB hz1 hk1 hS => ?_)
  obtain ⟨z8, rfl⟩ : ∃ z, z = u := ⟨_, rfl⟩
  obtain ⟨hP1, hD1⟩ := hB
  rw [ht] at hP1
  obtain ⟨hP, hD⟩ := va_join (wr := [(h0, .inr (1, [.int 0, .int 0, .ref q1, .ref q3, .int 0, .int 0, .int 0, .ref q5, .null, .null, .int 0, .null, .null])), (q1, .inr (2, [.ref z2])), (z2, .inl (cy 0, (256, .inl zF))), (q3, .inr (2, [.ref z4])), (z4, .inl (cy 0, (256, .inl zF))), (q5, .inr (2, [.ref z6])), (z6, .inl (cy 0, (256, .inl zF)))]) (w1 := [(q7, .inr (2, [.ref z8])), (z8, .inl (cy 0, (8, .inl zF)))]) hP hD [7] [0, 1, 2, 3, 4, 5, 6] rfl rfl (by decide) (by decide) hk1 hFc hP1 hD1
  generalize H1 = H at hP hS ⊢
  have hP : va_P D vwCl [(h0, .inr (1, [.int 0, .int 0, .ref q1, .ref q3, .int 0, .int 0, .int 0, .ref q5, .null, .null, .int 0, .null, .null])), (q1, .inr (2, [.ref z2])), (z2, .inl (cy 0, (256, .inl zF))), (q3, .inr (2, [.ref z4])), (z4, .inl (cy 0, (256, .inl zF))), (q5, .inr (2, [.ref z6])), (z6, .inl (cy 0, (256, .inl zF))), (q7, .inr (2, [.ref z8])), (z8, .inl (cy 0, (8, .inl zF)))] H := hP
  have hD : va_D A [(h0, .inr (1, [.int 0, .int 0, .ref q1, .ref q3, .int 0, .int 0, .int 0, .ref q5, .null, .null, .int 0, .null, .null])), (q1, .inr (2, [.ref z2])), (z2, .inl (cy 0, (256, .inl zF))), (q3, .inr (2, [.ref z4])), (z4, .inl (cy 0, (256, .inl zF))), (q5, .inr (2, [.ref z6])), (z6, .inl (cy 0, (256, .inl zF))), (q7, .inr (2, [.ref z8])), (z8, .inl (cy 0, (8, .inl zF)))] := hD
  refine W.widen (k := 8) (n := 780) (Nat.le_of_ble_eq_true rfl) (Nat.le_of_ble_eq_true rfl) ?_
  refine va_putF (D := D) (ci := 1) (v := .ref q7) (ty := .object "PivotChamber$Row") (C := RX3) (T := TX3) (N := 13) hx hb hts (by decide +kernel) tyX3 tyX3_ok nmX3 hown hK.1 hP hD hS 0 rfl rfl 8 (by decide) (hts (.fieldLink RX3 26 "PivotChamber$Power" "swings" "LPivotChamber$Row;") (by decide +kernel)) (fun _ h9 => h9) rfl hin rfl (by decide +kernel) rfl rfl (Nat.le_of_ble_eq_true rfl) dX3_init_56 (fun H locs hP hD hS => ?_)
  have hP : va_P D vwCl [(h0, .inr (1, [.int 0, .int 0, .ref q1, .ref q3, .int 0, .int 0, .int 0, .ref q5, .ref q7, .null, .int 0, .null, .null])), (q1, .inr (2, [.ref z2])), (z2, .inl (cy 0, (256, .inl zF))), (q3, .inr (2, [.ref z4])), (z4, .inl (cy 0, (256, .inl zF))), (q5, .inr (2, [.ref z6])), (z6, .inl (cy 0, (256, .inl zF))), (q7, .inr (2, [.ref z8])), (z8, .inl (cy 0, (8, .inl zF)))] H := hP
  have hD : va_D A [(h0, .inr (1, [.int 0, .int 0, .ref q1, .ref q3, .int 0, .int 0, .int 0, .ref q5, .ref q7, .null, .int 0, .null, .null])), (q1, .inr (2, [.ref z2])), (z2, .inl (cy 0, (256, .inl zF))), (q3, .inr (2, [.ref z4])), (z4, .inl (cy 0, (256, .inl zF))), (q5, .inr (2, [.ref z6])), (z6, .inl (cy 0, (256, .inl zF))), (q7, .inr (2, [.ref z8])), (z8, .inl (cy 0, (8, .inl zF)))] := hD
  refine lv_aload_n hx hb dX3_init_59 rfl (lv_at hl 0 rfl) ?_
  refine va_new (ci := 2) (fs := [.null]) (C := RX4) (T := TX4) (N := 1) hx hb hts (by decide +kernel) tyX4 tyX4_ok hown (hts (.classLink RX3 9 RX4) (by decide +kernel)) (hts (.instantiable RX4 1) (by decide +kernel)) (hts (.initialized RX4) (by decide +kernel)) hK.1 hP hD hS hA rfl (fun j hj => by rcases (show j = 0 by omega) with rfl <;> rfl) (Nat.le_of_ble_eq_true rfl) (Nat.le_of_ble_eq_true rfl) dX3_init_60 (fun q9 H hP hD hS => ?_)
  have hP : va_P D vwCl [(h0, .inr (1, [.int 0, .int 0, .ref q1, .ref q3, .int 0, .int 0, .int 0, .ref q5, .ref q7, .null, .int 0, .null, .null])), (q1, .inr (2, [.ref z2])), (z2, .inl (cy 0, (256, .inl zF))), (q3, .inr (2, [.ref z4])), (z4, .inl (cy 0, (256, .inl zF))), (q5, .inr (2, [.ref z6])), (z6, .inl (cy 0, (256, .inl zF))), (q7, .inr (2, [.ref z8])), (z8, .inl (cy 0, (8, .inl zF))), (q9, .inr (2, [.null]))] H := hP
  have hD : va_D A [(h0, .inr (1, [.int 0, .int 0, .ref q1, .ref q3, .int 0, .int 0, .int 0, .ref q5, .ref q7, .null, .int 0, .null, .null])), (q1, .inr (2, [.ref z2])), (z2, .inl (cy 0, (256, .inl zF))), (q3, .inr (2, [.ref z4])), (z4, .inl (cy 0, (256, .inl zF))), (q5, .inr (2, [.ref z6])), (z6, .inl (cy 0, (256, .inl zF))), (q7, .inr (2, [.ref z8])), (z8, .inl (cy 0, (8, .inl zF))), (q9, .inr (2, [.null]))] := hD
  refine W.widen (k := 9) (n := 781) (Nat.le_of_ble_eq_true rfl) (Nat.le_of_ble_eq_true rfl) ?_
  refine lv_dup hx hb dX3_init_63 rfl ?_
  refine lv_bipush (v := 8) hx hb dX3_init_64 (by decide) ?_
  have hPc := hP.sub (ws' := [(q9, .inr (2, [.null]))]) [9] rfl
  have hDc := hD.sub (ws' := [(q9, .inr (2, [.null]))]) [9] (by decide) rfl
  have hFc := va_free (wc := [(q9, .inr (2, [.null]))]) hD hS hA [9] rfl
  refine va_callv (va_runI (As := [.int 8]) (rest := [.ref q9, .ref h0]) ⟨hx, hb, hml, hown, hts⟩ (c_X4_init l D cy q9 8 8 H.size (by decide) (by decide) (by decide)) (cwI 1 hts gX3_init_X4_init rfl rfl rfl (hts (.initialized RX4) (by decide +kernel)) (hts (.methodLink RX3 11 yX4_init) (by decide +kernel)) (hts (.instanceMethod yX4_init) (by decide +kernel)) rfl (by decide +kernel) ⟨Nat.le_of_ble_eq_true rfl, Nat.le_of_ble_eq_true rfl⟩) ⟨ctP_blind, fun U hU hW => ⟨rfl, by rw [hU], by rw [hU]; exact hPc, hK.warm hW, hDc.weaken (fun _ _ _ _ => trivial)⟩⟩ rfl rfl hl.1 rfl (lv_room (Nat.le_of_ble_eq_true rfl)) dX3_init_66 ⟨Nat.le_of_ble_eq_true rfl, Nat.le_of_ble_eq_true rfl⟩) hS (fun q _ h => hFc q h) hFc (fun u t H1 locs ht hvm hw hB hz1 hk1 hS => ?_)
  obtain ⟨z10, rfl⟩ : ∃ z, z = u := ⟨_, rfl⟩
  obtain ⟨hP1, hD1⟩ := hB
  rw [ht] at hP1
  obtain ⟨hP, hD⟩ := va_join (wr := [(h0, .inr (1, [.int 0, .int 0, .ref q1, .ref q3, .int 0, .int 0, .int 0, .ref q5, .ref q7, .null, .int 0, .null, .null])), (q1, .inr (2, [.ref z2])), (z2, .inl (cy 0, (256, .inl zF))), (q3, .inr (2, [.ref z4])), (z4, .inl (cy 0, (256, .inl zF))), (q5, .inr (2, [.ref z6])), (z6, .inl (cy 0, (256, .inl zF))), (q7, .inr (2, [.ref z8])), (z8, .inl (cy 0, (8, .inl zF)))]) (w1 := [(q9, .inr (2, [.ref z10])), (z10, .inl (cy 0, (8, .inl zF)))]) hP hD [9] [0, 1, 2, 3, 4, 5, 6, 7, 8] rfl rfl (by decide) (by decide) hk1 hFc hP1 hD1
  generalize H1 = H at hP hS ⊢
  have hP : va_P D vwCl [(h0, .inr (1, [.int 0, .int 0, .ref q1, .ref q3, .int 0, .int 0, .int 0, .ref q5, .ref q7, .null, .int 0, .null, .null])), (q1, .inr (2, [.ref z2])), (z2, .inl (cy 0, (256, .inl zF))), (q3, .inr (2, [.ref z4])), (z4, .inl (cy 0, (256, .inl zF))), (q5, .inr (2, [.ref z6])), (z6, .inl (cy 0, (256, .inl zF))), (q7, .inr (2, [.ref z8])), (z8, .inl (cy 0, (8, .inl zF))), (q9, .inr (2, [.ref z10])), (z10, .inl (cy 0, (8, .inl zF)))] H := hP
  have hD : va_D A [(h0, .inr (1, [.int 0, .int 0, .ref q1, .ref q3, .int 0, .int 0, .int 0, .ref q5, .ref q7, .null, .int 0, .null, .null])), (q1, .inr (2, [.ref z2])), (z2, .inl (cy 0, (256, .inl zF))), (q3, .inr (2, [.ref z4])), (z4, .inl (cy 0, (256, .inl zF))), (q5, .inr (2, [.ref z6])), (z6, .inl (cy 0, (256, .inl zF))), (q7, .inr (2, [.ref z8])), (z8, .inl (cy 0, (8, .inl zF))), (q9, .inr (2, [.ref z10])), (z10, .inl (cy 0, (8, .inl zF)))] := hD
  refine W.widen (k := 10) (n := 789) (Nat.le_of_ble_eq_true rfl) (Nat.le_of_ble_eq_true rfl) ?_
  refine va_putF (D := D) (ci := 1) (v := .ref q9) (ty := .object "PivotChamber$Row") (C := RX3) (T := TX3) (N := 13) hx hb hts (by decide +kernel) tyX3 tyX3_ok nmX3 hown hK.1 hP hD hS 0 rfl rfl 9 (by decide) (hts (.fieldLink RX3 29 "PivotChamber$Power" "orders" "LPivotChamber$Row;") (by decide +kernel)) (fun _ h9 => h9) rfl hin rfl (by decide +kernel) rfl rfl (Nat.le_of_ble_eq_true rfl) dX3_init_69 (fun H locs hP hD hS => ?_)
  have hP : va_P D vwCl [(h0, .inr (1, [.int 0, .int 0, .ref q1, .ref q3, .int 0, .int 0, .int 0, .ref q5, .ref q7, .ref q9, .int 0, .null, .null])), (q1, .inr (2, [.ref z2])), (z2, .inl (cy 0, (256, .inl zF))), (q3, .inr (2, [.ref z4])), (z4, .inl (cy 0, (256, .inl zF))), (q5, .inr (2, [.ref z6])), (z6, .inl (cy 0, (256, .inl zF))), (q7, .inr (2, [.ref z8])), (z8, .inl (cy 0, (8, .inl zF))), (q9, .inr (2, [.ref z10])), (z10, .inl (cy 0, (8, .inl zF)))] H := hP
  have hD : va_D A [(h0, .inr (1, [.int 0, .int 0, .ref q1, .ref q3, .int 0, .int 0, .int 0, .ref q5, .ref q7, .ref q9, .int 0, .null, .null])), (q1, .inr (2, [.ref z2])), (z2, .inl (cy 0, (256, .inl zF))), (q3, .inr (2, [.ref z4])), (z4, .inl (cy 0, (256, .inl zF))), (q5, .inr (2, [.ref z6])), (z6, .inl (cy 0, (256, .inl zF))), (q7, .inr (2, [.ref z8])), (z8, .inl (cy 0, (8, .inl zF))), (q9, .inr (2, [.ref z10])), (z10, .inl (cy 0, (8, .inl zF)))] := hD
  refine lv_aload_n hx hb dX3_init_72 rfl (lv_at hl 0 rfl) ?_
  refine va_new (ci := 2) (fs := [.null]) (C := RX4) (T := TX4) (N := 1) hx hb hts (by decide +kernel) tyX4 tyX4_ok hown (hts (.classLink RX3 9 RX4) (by decide +kernel)) (hts (.instantiable RX4 1) (by decide +kernel)) (hts (.initialized RX4) (by decide +kernel)) hK.1 hP hD hS hA rfl (fun j hj => by rcases (show j = 0 by omega) with rfl <;> rfl) (Nat.le_of_ble_eq_true rfl) (Nat.le_of_ble_eq_true rfl) dX3_init_73 (fun q11 H hP hD hS => ?_)
  have hP : va_P D vwCl [(h0, .inr (1, [.int 0, .int 0, .ref q1, .ref q3, .int 0, .int 0, .int 0, .ref q5, .ref q7, .ref q9, .int 0, .null, .null])), (q1, .inr (2, [.ref z2])), (z2, .inl (cy 0, (256, .inl zF))), (q3, .inr (2, [.ref z4])), (z4, .inl (cy 0, (256, .inl zF))), (q5, .inr (2, [.ref z6])), (z6, .inl (cy 0, (256, .inl zF))), (q7, .inr (2, [.ref z8])), (z8, .inl (cy 0, (8, .inl zF))), (q9, .inr (2, [.ref z10])), (z10, .inl (cy 0, (8, .inl zF))), (q11, .inr (2, [.null]))] H := hP
  have hD : va_D A [(h0, .inr (1, [.int 0, .int 0, .ref q1, .ref q3, .int 0, .int 0, .int 0, .ref q5, .ref q7, .ref q9, .int 0, .null, .null])), (q1, .inr (2, [.ref z2])), (z2, .inl (cy 0, (256, .inl zF))), (q3, .inr (2, [.ref z4])), (z4, .inl (cy 0, (256, .inl zF))), (q5, .inr (2, [.ref z6])), (z6, .inl (cy 0, (256, .inl zF))), (q7, .inr (2, [.ref z8])), (z8, .inl (cy 0, (8, .inl zF))), (q9, .inr (2, [.ref z10])), (z10, .inl (cy 0, (8, .inl zF))), (q11, .inr (2, [.null]))] := hD
  refine W.widen (k := 11) (n := 790) (Nat.le_of_ble_eq_true rfl) (Nat.le_of_ble_eq_true rfl) ?_
  refine lv_dup hx hb dX3_init_76 rfl ?_
  refine lv_sipush (v := 402) hx hb dX3_init_77 (by decide) ?_
  have hPc := hP.sub (ws' := [(q11, .inr (2, [.null]))]) [11] rfl
  have hDc := hD.sub (ws' := [(q11, .inr (2, [.null]))]) [11] (by decide) rfl
  have hFc := va_free (wc := [(q11, .inr (2, [.null]))]) hD hS hA [11] rfl
  refine va_callv (va_runI (As := [.int 402]) (rest := [.ref q11, .ref h0]) ⟨hx, hb, hml, hown, hts⟩ (c_X4_init l D cy q11 402 402 H.size (by decide) (by decide) (by decide)) (cwI 1 hts gX3_init_X4_init rfl rfl rfl (hts (.initialized RX4) (by decide +kernel)) (hts (.methodLink RX3 11 yX4_init) (by decide +kernel)) (hts (.instanceMethod yX4_init) (by decide +kernel)) rfl (by decide +kernel) ⟨Nat.le_of_ble_eq_true rfl, Nat.le_of_ble_eq_true rfl⟩) ⟨ctP_blind, fun U hU hW => ⟨rfl, by rw [hU], by rw [hU]; exact hPc, hK.warm hW, hDc.weaken (fun _ _ _ _ => trivial)⟩⟩ rfl rfl hl.1 rfl (lv_room (Nat.le_of_ble_eq_true rfl)) dX3_init_80 ⟨Nat.le_of_ble_eq_true rfl, Nat.le_of_ble_eq_true rfl⟩) hS (fun q _ h => hFc q h) hFc (fun u t H1 locs ht hvm hw hB hz1 hk1 hS => ?_)
  obtain ⟨z12, rfl⟩ : ∃ z, z = u := ⟨_, rfl⟩
  obtain ⟨hP1, hD1⟩ := hB
  rw [ht] at hP1
  obtain ⟨hP, hD⟩ := va_join (wr := [(h0, .inr (1, [.int 0, .int 0, .ref q1, .ref q3, .int 0, .int 0, .int 0, .ref q5, .ref q7, .ref q9, .int 0, .null, .null])), (q1, .inr (2, [.ref z2])), (z2, .inl (cy 0, (256, .inl zF))), (q3, .inr (2, [.ref z4])), (z4, .inl (cy 0, (256, .inl zF))), (q5, .inr (2, [.ref z6])), (z6, .inl (cy 0, (256, .inl zF))), (q7, .inr (2, [.ref z8])), (z8, .inl (cy 0, (8, .inl zF))), (q9, .inr (2, [.ref z10])), (z10, .inl (cy 0, (8, .inl zF)))]) (w1 := [(q11, .inr (2, [.ref z12])), (z12, .inl (cy 0, (402, .inl zF)))]) hP hD [11] [0, 1, 2, 3, 4, 5, 6, 7, 8, 9, 10] rfl rfl (by decide) (by decide) hk1 hFc hP1 hD1
  generalize H1 = H at hP hS ⊢
  have hP : va_P D vwCl [(h0, .inr (1, [.int 0, .int 0, .ref q1, .ref q3, .int 0, .int 0, .int 0, .ref q5, .ref q7, .ref q9, .int 0, .null, .null])), (q1, .inr (2, [.ref z2])), (z2, .inl (cy 0, (256, .inl zF))), (q3, .inr (2, [.ref z4])), (z4, .inl (cy 0, (256, .inl zF))), (q5, .inr (2, [.ref z6])), (z6, .inl (cy 0, (256, .inl zF))), (q7, .inr (2, [.ref z8])), (z8, .inl (cy 0, (8, .inl zF))), (q9, .inr (2, [.ref z10])), (z10, .inl (cy 0, (8, .inl zF))), (q11, .inr (2, [.ref z12])), (z12, .inl (cy 0, (402, .inl zF)))] H := hP
  have hD : va_D A [(h0, .inr (1, [.int 0, .int 0, .ref q1, .ref q3, .int 0, .int 0, .int 0, .ref q5, .ref q7, .ref q9, .int 0, .null, .null])), (q1, .inr (2, [.ref z2])), (z2, .inl (cy 0, (256, .inl zF))), (q3, .inr (2, [.ref z4])), (z4, .inl (cy 0, (256, .inl zF))), (q5, .inr (2, [.ref z6])), (z6, .inl (cy 0, (256, .inl zF))), (q7, .inr (2, [.ref z8])), (z8, .inl (cy 0, (8, .inl zF))), (q9, .inr (2, [.ref z10])), (z10, .inl (cy 0, (8, .inl zF))), (q11, .inr (2, [.ref z12])), (z12, .inl (cy 0, (402, .inl zF)))] := hD
  refine W.widen (k := 12) (n := 1192) (Nat.le_of_ble_eq_true rfl) (Nat.le_of_ble_eq_true rfl) ?_
  refine va_putF (D := D) (ci := 1) (v := .ref q11) (ty := .object "PivotChamber$Row") (C := RX3) (T := TX3) (N := 13) hx hb hts (by decide +kernel) tyX3 tyX3_ok nmX3 hown hK.1 hP hD hS 0 rfl rfl 11 (by decide) (hts (.fieldLink RX3 32 "PivotChamber$Power" "ownSteps" "LPivotChamber$Row;") (by decide +kernel)) (fun _ h9 => h9) rfl hin rfl (by decide +kernel) rfl rfl (Nat.le_of_ble_eq_true rfl) dX3_init_83 (fun H locs hP hD hS => ?_)
  have hP : va_P D vwCl [(h0, .inr (1, [.int 0, .int 0, .ref q1, .ref q3, .int 0, .int 0, .int 0, .ref q5, .ref q7, .ref q9, .int 0, .ref q11, .null])), (q1, .inr (2, [.ref z2])), (z2, .inl (cy 0, (256, .inl zF))), (q3, .inr (2, [.ref z4])), (z4, .inl (cy 0, (256, .inl zF))), (q5, .inr (2, [.ref z6])), (z6, .inl (cy 0, (256, .inl zF))), (q7, .inr (2, [.ref z8])), (z8, .inl (cy 0, (8, .inl zF))), (q9, .inr (2, [.ref z10])), (z10, .inl (cy 0, (8, .inl zF))), (q11, .inr (2, [.ref z12])), (z12, .inl (cy 0, (402, .inl zF)))] H := hP
  have hD : va_D A [(h0, .inr (1, [.int 0, .int 0, .ref q1, .ref q3, .int 0, .int 0, .int 0, .ref q5, .ref q7, .ref q9, .int 0, .ref q11, .null])), (q1, .inr (2, [.ref z2])), (z2, .inl (cy 0, (256, .inl zF))), (q3, .inr (2, [.ref z4])), (z4, .inl (cy 0, (256, .inl zF))), (q5, .inr (2, [.ref z6])), (z6, .inl (cy 0, (256, .inl zF))), (q7, .inr (2, [.ref z8])), (z8, .inl (cy 0, (8, .inl zF))), (q9, .inr (2, [.ref z10])), (z10, .inl (cy 0, (8, .inl zF))), (q11, .inr (2, [.ref z12])), (z12, .inl (cy 0, (402, .inl zF)))] := hD
  refine lv_aload_n hx hb dX3_init_86 rfl (lv_at hl 0 rfl) ?_
  refine va_new (ci := 2) (fs := [.null]) (C := RX4) (T := TX4) (N := 1) hx hb hts (by decide +kernel) tyX4 tyX4_ok hown (hts (.classLink RX3 9 RX4) (by decide +kernel)) (hts (.instantiable RX4 1) (by decide +kernel)) (hts (.initialized RX4) (by decide +kernel)) hK.1 hP hD hS hA rfl (fun j hj => by rcases (show j = 0 by omega) with rfl <;> rfl) (Nat.le_of_ble_eq_true rfl) (Nat.le_of_ble_eq_true rfl) dX3_init_87 (fun q13 H hP hD hS => ?_)
  have hP : va_P D vwCl [(h0, .inr (1, [.int 0, .int 0, .ref q1, .ref q3, .int 0, .int 0, .int 0, .ref q5, .ref q7, .ref q9, .int 0, .ref q11, .null])), (q1, .inr (2, [.ref z2])), (z2, .inl (cy 0, (256, .inl zF))), (q3, .inr (2, [.ref z4])), (z4, .inl (cy 0, (256, .inl zF))), (q5, .inr (2, [.ref z6])), (z6, .inl (cy 0, (256, .inl zF))), (q7, .inr (2, [.ref z8])), (z8, .inl (cy 0, (8, .inl zF))), (q9, .inr (2, [.ref z10])), (z10, .inl (cy 0, (8, .inl zF))), (q11, .inr (2, [.ref z12])), (z12, .inl (cy 0, (402, .inl zF))), (q13, .inr (2, [.null]))] H := hP
  have hD : va_D A [(h0, .inr (1, [.int 0, .int 0, .ref q1, .ref q3, .int 0, .int 0, .int 0, .ref q5, .ref q7, .ref q9, .int 0, .ref q11, .null])), (q1, .inr (2, [.ref z2])), (z2, .inl (cy 0, (256, .inl zF))), (q3, .inr (2, [.ref z4])), (z4, .inl (cy 0, (256, .inl zF))), (q5, .inr (2, [.ref z6])), (z6, .inl (cy 0, (256, .inl zF))), (q7, .inr (2, [.ref z8])), (z8, .inl (cy 0, (8, .inl zF))), (q9, .inr (2, [.ref z10])), (z10, .inl (cy 0, (8, .inl zF))), (q11, .inr (2, [.ref z12])), (z12, .inl (cy 0, (402, .inl zF))), (q13, .inr (2, [.null]))] := hD
  refine W.widen (k := 13) (n := 1193) (Nat.le_of_ble_eq_true rfl) (Nat.le_of_ble_eq_true rfl) ?_
  refine lv_dup hx hb dX3_init_90 rfl ?_
  refine lv_sipush (v := 402) hx hb dX3_init_91 (by decide) ?_
  have hPc := hP.sub (ws' := [(q13, .inr (2, [.null]))]) [13] rfl
  have hDc := hD.sub (ws' := [(q13, .inr (2, [.null]))]) [13] (by decide) rfl
  have hFc := va_free (wc := [(q13, .inr (2, [.null]))]) hD hS hA [13] rfl
  refine va_callv (va_runI (As := [.int 402]) (rest := [.ref q13, .ref h0]) ⟨hx, hb, hml, hown, hts⟩ (c_X4_init l D cy q13 402 402 H.size (by decide) (by decide) (by decide)) (cwI 1 hts gX3_init_X4_init rfl rfl rfl (hts (.initialized RX4) (by decide +kernel)) (hts (.methodLink RX3 11 yX4_init) (by decide +kernel)) (hts (.instanceMethod yX4_init) (by decide +kernel)) rfl (by decide +kernel) ⟨Nat.le_of_ble_eq_true rfl, Nat.le_of_ble_eq_true rfl⟩) ⟨ctP_blind, fun U hU hW => ⟨rfl, by rw [hU], by rw [hU]; exact hPc, hK.warm hW, hDc.weaken (fun _ _ _ _ => trivial)⟩⟩ rfl rfl hl.1 rfl (lv_room (Nat.le_of_ble_eq_true rfl)) dX3_init_94 ⟨Nat.le_of_ble_eq_true rfl, Nat.le_of_ble_eq_true rfl⟩) hS (fun q _ h => hFc q h) hFc (fun u t H1 locs ht hvm hw hB hz1 hk1 hS => ?_)
  obtain ⟨z14, rfl⟩ : ∃ z, z = u := ⟨_, rfl⟩
  obtain ⟨hP1, hD1⟩ := hB
  rw [ht] at hP1
  obtain ⟨hP, hD⟩ := va_join (wr := [(h0, .inr (1, [.int 0, .int 0, .ref q1, .ref q3, .int 0, .int 0, .int 0, .ref q5, .ref q7, .ref q9, .int 0, .ref q11, .null])), (q1, .inr (2, [.ref z2])), (z2, .inl (cy 0, (256, .inl zF))), (q3, .inr (2, [.ref z4])), (z4, .inl (cy 0, (256, .inl zF))), (q5, .inr (2, [.ref z6])), (z6, .inl (cy 0, (256, .inl zF))), (q7, .inr (2, [.ref z8])), (z8, .inl (cy 0, (8, .inl zF))), (q9, .inr (2, [.ref z10])), (z10, .inl (cy 0, (8, .inl zF))), (q11, .inr (2, [.ref z12])), (z12, .inl (cy 0, (402, .inl zF)))]) (w1 := [(q13, .inr (2, [.ref z14])), (z14, .inl (cy 0, (402, .inl zF)))]) hP hD [13] [0, 1, 2, 3, 4, 5, 6, 7, 8, 9, 10, 11, 12] rfl rfl (by decide) (by decide) hk1 hFc hP1 hD1
  generalize H1 = H at hP hS ⊢
  have hP : va_P D vwCl [(h0, .inr (1, [.int 0, .int 0, .ref q1, .ref q3, .int 0, .int 0, .int 0, .ref q5, .ref q7, .ref q9, .int 0, .ref q11, .null])), (q1, .inr (2, [.ref z2])), (z2, .inl (cy 0, (256, .inl zF))), (q3, .inr (2, [.ref z4])), (z4, .inl (cy 0, (256, .inl zF))), (q5, .inr (2, [.ref z6])), (z6, .inl (cy 0, (256, .inl zF))), (q7, .inr (2, [.ref z8])), (z8, .inl (cy 0, (8, .inl zF))), (q9, .inr (2, [.ref z10])), (z10, .inl (cy 0, (8, .inl zF))), (q11, .inr (2, [.ref z12])), (z12, .inl (cy 0, (402, .inl zF))), (q13, .inr (2, [.ref z14])), (z14, .inl (cy 0, (402, .inl zF)))] H := hP
  have hD : va_D A [(h0, .inr (1, [.int 0, .int 0, .ref q1, .ref q3, .int 0, .int 0, .int 0, .ref q5, .ref q7, .ref q9, .int 0, .ref q11, .null])), (q1, .inr (2, [.ref z2])), (z2, .inl (cy 0, (256, .inl zF))), (q3, .inr (2, [.ref z4])), (z4, .inl (cy 0, (256, .inl zF))), (q5, .inr (2, [.ref z6])), (z6, .inl (cy 0, (256, .inl zF))), (q7, .inr (2, [.ref z8])), (z8, .inl (cy 0, (8, .inl zF))), (q9, .inr (2, [.ref z10])), (z10, .inl (cy 0, (8, .inl zF))), (q11, .inr (2, [.ref z12])), (z12, .inl (cy 0, (402, .inl zF))), (q13, .inr (2, [.ref z14])), (z14, .inl (cy 0, (402, .inl zF)))] := hD
  refine W.widen (k := 14) (n := 1595) (Nat.le_of_ble_eq_true rfl) (Nat.le_of_ble_eq_true rfl) ?_
  refine va_putF (D := D) (ci := 1) (v := .ref q13) (ty := .object "PivotChamber$Row") (C := RX3) (T := TX3) (N := 13) hx hb hts (by decide +kernel) tyX3 tyX3_ok nmX3 hown hK.1 hP hD hS 0 rfl rfl 12 (by decide) (hts (.fieldLink RX3 35 "PivotChamber$Power" "allSteps" "LPivotChamber$Row;") (by decide +kernel)) (fun _ h9 => h9) rfl hin rfl (by decide +kernel) rfl rfl (Nat.le_of_ble_eq_true rfl) dX3_init_97 (fun H locs hP hD hS => ?_)
  have hP : va_P D vwCl [(h0, .inr (1, [.int 0, .int 0, .ref q1, .ref q3, .int 0, .int 0, .int 0, .ref q5, .ref q7, .ref q9, .int 0, .ref q11, .ref q13])), (q1, .inr (2, [.ref z2])), (z2, .inl (cy 0, (256, .inl zF))), (q3, .inr (2, [.ref z4])), (z4, .inl (cy 0, (256, .inl zF))), (q5, .inr (2, [.ref z6])), (z6, .inl (cy 0, (256, .inl zF))), (q7, .inr (2, [.ref z8])), (z8, .inl (cy 0, (8, .inl zF))), (q9, .inr (2, [.ref z10])), (z10, .inl (cy 0, (8, .inl zF))), (q11, .inr (2, [.ref z12])), (z12, .inl (cy 0, (402, .inl zF))), (q13, .inr (2, [.ref z14])), (z14, .inl (cy 0, (402, .inl zF)))] H := hP
  have hD : va_D A [(h0, .inr (1, [.int 0, .int 0, .ref q1, .ref q3, .int 0, .int 0, .int 0, .ref q5, .ref q7, .ref q9, .int 0, .ref q11, .ref q13])), (q1, .inr (2, [.ref z2])), (z2, .inl (cy 0, (256, .inl zF))), (q3, .inr (2, [.ref z4])), (z4, .inl (cy 0, (256, .inl zF))), (q5, .inr (2, [.ref z6])), (z6, .inl (cy 0, (256, .inl zF))), (q7, .inr (2, [.ref z8])), (z8, .inl (cy 0, (8, .inl zF))), (q9, .inr (2, [.ref z10])), (z10, .inl (cy 0, (8, .inl zF))), (q11, .inr (2, [.ref z12])), (z12, .inl (cy 0, (402, .inl zF))), (q13, .inr (2, [.ref z14])), (z14, .inl (cy 0, (402, .inl zF)))] := hD
  have ha : (ad [h0, q1, z2, q3, z4, q5, z6, q7, z8, q9, z10, q11, z12, q13, z14]) 0 = h0 := rfl
  have hP9 := hP.sub (ws' := (wPow cy (ad [h0, q1, z2, q3, z4, q5, z6, q7, z8, q9, z10, q11, z12, q13, z14]) (0, 0, 0, 0, 0, 0, zF, zF, zF, zF, zF, zF, zF))) [0, 1, 2, 3, 4, 5, 6, 7, 8, 9, 10, 11, 12, 13, 14] rfl
  have hD9 := hD.sub (ws' := (wPow cy (ad [h0, q1, z2, q3, z4, q5, z6, q7, z8, q9, z10, q11, z12, q13, z14]) (0, 0, 0, 0, 0, 0, zF, zF, zF, zF, zF, zF, zF))) [0, 1, 2, 3, 4, 5, 6, 7, 8, 9, 10, 11, 12, 13, 14] (by decide) rfl
  refine W.widen (k := 14) (n := 1595) (by omega) (by omega) ?_
  exact W.vret hx hb hr (fun t ht hW => ⟨⟨ad [h0, q1, z2, q3, z4, q5, z6, q7, z8, q9, z10, q11, z12, q13, z14], rfl, trivial, rfl, by rw [ht]; exact hP9, hD9⟩, hS.F ht⟩) hS.2.2 dX3_init_100
set_option maxHeartbeats 1000000 in
set_option maxRecDepth 100000 in
theorem c_X2_init (l : Launch) (D : va_G) (cy : Nat → ClassId) (g : Nat → Nat) (h0 : Nat) (sz : Nat) : Met l yX2_init wsX2_init ({ frames := 2, cells := 2, slots := 151, locals := 33 }) (ctP D cy [(h0, .inr (0, [.null, .int 0, .int 0, .null, .int 0, .int 0]))] [.ref h0] sz) (va_Qv (fun _ : Nat → Nat => True) (fun u t => u 0 = h0 ∧ va_P D vwCl (wTxt cy g u (0, 0, 0, 0, 7, zF)) t.heap ∧ va_D (va_A [(h0, .inr (0, [.null, .int 0, .int 0, .null, .int 0, .int 0]))] sz) (wTxt cy g u (0, 0, 0, 0, 7, zF))) (va_A [(h0, .inr (0, [.null, .int 0, .int 0, .null, .int 0, .int 0]))] sz)) 2 151 (va_A [(h0, .inr (0, [.null, .int 0, .int 0, .null, .int 0, .int 0]))] sz) := by
  refine Met.ofW (cc := cX2_init) (maxL := 1) (ret := none) (by decide) rfl ?_
  intro p e s m args below meth c s₁ BB hml hv
  obtain ⟨rfl, hsz, hP, hK, hD0⟩ := hv
  have hx := BB.exec
  have hb := BB.bytes
  have hr := BB.returns
  have hts := atoms_spec (ws := wsX2_init) BB.pre
  have hown : s.vm.findClass RX2 = some m.cls := findClass_of_methodNamed BB.named
  have hlocks := BB.notSynchronized
  have hin : meth.name = "<init>" := (name_of_methodNamed BB.named BB.method).1
  subst hsz
  have hD := hD0.self (sz := s.heap.size)
  generalize hAe : va_A [(h0, .inr (0, [.null, .int 0, .int 0, .null, .int 0, .int 0]))] s.heap.size = A at hD ⊢
  have hA : ∀ q : Nat, s.heap.size ≤ q → A q := fun q h => by rw [← hAe]; exact Or.inr h
  have hS : va_S A s.heap s.heap [] := va_S.rf
  have hP : va_P D vwCl [(h0, .inr (0, [.null, .int 0, .int 0, .null, .int 0, .int 0]))] s.heap := hP
  have hl := lv_entry ([.ref h0]) (n := 1) (Nat.le_of_ble_eq_true rfl)
  rw [lg_entry_eq]
  generalize (lg_sl ([.ref h0]) ++ List.replicate (1 - (lg_sl ([.ref h0])).length) Slot.unset).toArray = ls at hl ⊢
  have hl : lv_has ls 1 [(0, .ref h0)] := hl
  refine lv_aload_n hx hb dX2_init_0 rfl (lv_at hl 0 rfl) ?_
  refine W.objInit hx hb hown (hts (.methodLink RX2 3 objectInit) (by decide +kernel)) (hts (.instanceMethod objectInit) (by decide +kernel)) (hts _ (List.mem_of_getElem? (i := 3) rfl)) rfl (by rw [hml]; exact hl.1) rfl dX2_init_1 (Nat.le_of_ble_eq_true rfl) (Nat.le_of_ble_eq_true rfl) ?_
  refine W.eq (g2 := F0 m 4 ls []) rfl ?_
  refine lv_aload_n hx hb dX2_init_4 rfl (lv_at hl 0 rfl) ?_
  refine va_new (ci := 2) (fs := [.null]) (C := RX4) (T := TX4) (N := 1) hx hb hts (by decide +kernel) tyX4 tyX4_ok hown (hts (.classLink RX2 9 RX4) (by decide +kernel)) (hts (.instantiable RX4 1) (by decide +kernel)) (hts (.initialized RX4) (by decide +kernel)) hK.1 hP hD hS hA rfl (fun j hj => by rcases (show j = 0 by omega) with rfl <;> rfl) (Nat.le_of_ble_eq_true rfl) (Nat.le_of_ble_eq_true rfl) dX2_init_5 (fun q1 H hP hD hS => ?_)
  have hP : va_P D vwCl [(h0, .inr (0, [.null, .int 0, .int 0, .null, .int 0, .int 0])), (q1, .inr (2, [.null]))] H := hP
  have hD : va_D A [(h0, .inr (0, [.null, .int 0, .int 0, .null, .int 0, .int 0])), (q1, .inr (2, [.null]))] := hD
  refine W.widen (k := 1) (n := 1) (Nat.le_of_ble_eq_true rfl) (Nat.le_of_ble_eq_true rfl) ?_
  refine lv_dup hx hb dX2_init_8 rfl ?_
  refine lv_sipush (v := 150) hx hb dX2_init_9 (by decide) ?_
  have hPc := hP.sub (ws' := [(q1, .inr (2, [.null]))]) [1] rfl
  have hDc := hD.sub (ws' := [(q1, .inr (2, [.null]))]) [1] (by decide) rfl
  have hFc := va_free (wc := [(q1, .inr (2, [.null]))]) hD hS hA [1] rfl
  refine va_callv (va_runI (As := [.int 150]) (rest := [.ref q1, .ref h0]) ⟨hx, hb, hml, hown, hts⟩ (c_X4_init l D cy q1 150 150 H.size (by decide) (by decide) (by decide)) (cwI 1 hts gX2_init_X4_init rfl rfl rfl (hts (.initialized RX4) (by decide +kernel)) (hts (.methodLink RX2 11 yX4_init) (by decide +kernel)) (hts (.instanceMethod yX4_init) (by decide +kernel)) rfl (by decide +kernel) ⟨Nat.le_of_ble_eq_true rfl, Nat.le_of_ble_eq_true rfl⟩) ⟨ctP_blind, fun U hU hW => ⟨rfl, by rw [hU], by rw [hU]; exact hPc, hK.warm hW, hDc.weaken (fun _ _ _ _ => trivial)⟩⟩ rfl rfl hl.1 rfl (lv_room (Nat.le_of_ble_eq_true rfl)) dX2_init_12 ⟨Nat.le_of_ble_eq_true rfl, Nat.le_of_ble_eq_true rfl⟩) hS (fun q _ h => hFc q h) hFc (fun u t H1 locs ht hvm hw hB hz1 hk1 hS => ?_)
  obtain ⟨z2, rfl⟩ : ∃ z, z = u := ⟨_, rfl⟩
  obtain ⟨hP1, hD1⟩ := hB
  rw [ht] at hP1
  obtain ⟨hP, hD⟩ := va_join (wr := [(h0, .inr (0, [.null, .int 0, .int 0, .null, .int 0, .int 0]))]) (w1 := [(q1, .inr (2, [.ref z2])), (z2, .inl (cy 0, (150, .inl zF)))]) hP hD [1] [0] rfl rfl (by decide) (by decide) hk1 hFc hP1 hD1
  generalize H1 = H at hP hS ⊢
  have hP : va_P D vwCl [(h0, .inr (0, [.null, .int 0, .int 0, .null, .int 0, .int 0])), (q1, .inr (2, [.ref z2])), (z2, .inl (cy 0, (150, .inl zF)))] H := hP
  have hD : va_D A [(h0, .inr (0, [.null, .int 0, .int 0, .null, .int 0, .int 0])), (q1, .inr (2, [.ref z2])), (z2, .inl (cy 0, (150, .inl zF)))] := hD
  refine W.widen (k := 2) (n := 151) (Nat.le_of_ble_eq_true rfl) (Nat.le_of_ble_eq_true rfl) ?_
  refine va_putF (D := D) (ci := 0) (v := .ref q1) (ty := .object "PivotChamber$Row") (C := RX2) (T := TX2) (N := 6) hx hb hts (by decide +kernel) tyX2 tyX2_ok nmX2 hown hK.1 hP hD hS 0 rfl rfl 0 (by decide) (hts (.fieldLink RX2 14 "PivotChamber$CommandText" "bytes" "LPivotChamber$Row;") (by decide +kernel)) (fun _ h9 => h9) rfl hin rfl (by decide +kernel) rfl rfl (Nat.le_of_ble_eq_true rfl) dX2_init_15 (fun H locs hP hD hS => ?_)
  have hP : va_P D vwCl [(h0, .inr (0, [.ref q1, .int 0, .int 0, .null, .int 0, .int 0])), (q1, .inr (2, [.ref z2])), (z2, .inl (cy 0, (150, .inl zF)))] H := hP
  have hD : va_D A [(h0, .inr (0, [.ref q1, .int 0, .int 0, .null, .int 0, .int 0])), (q1, .inr (2, [.ref z2])), (z2, .inl (cy 0, (150, .inl zF)))] := hD
  have hP9 := hP.sub (ws' := (wTxt cy g (ad [h0, q1, z2]) (0, 0, 0, 0, 7, zF))) [0, 1, 2] rfl
  have hD9 := hD.sub (ws' := (wTxt cy g (ad [h0, q1, z2]) (0, 0, 0, 0, 7, zF))) [0, 1, 2] (by decide) rfl
  refine W.widen (k := 2) (n := 151) (by omega) (by omega) ?_
  exact W.vret hx hb hr (fun t ht hW => ⟨⟨ad [h0, q1, z2], rfl, trivial, rfl, by rw [ht]; exact hP9, hD9⟩, hS.F ht⟩) hS.2.2 dX2_init_18
