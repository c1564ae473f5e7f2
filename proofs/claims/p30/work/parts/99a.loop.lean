/-! part 99a: the law: a cell of the script; its loops -/
def cellF (L : Nat) (xs : Nat → Int32) (k : Nat) : Int32 := if k < L then xs k else 40503 * (nI k + 3)
def ceP (b L : Nat) (xs : Nat → Int32) (av : List Value) : Array Value → State → Prop := va_Pc av (fun U => va_X b L xs U U.heap)
theorem ceP_blind {b L : Nat} {xs : Nat → Int32} {av : List Value} : FrameBlind (ceP b L xs av) := by
  intro a U g' mk h
  exact ⟨h.1, va_X.moved (u := U) (U := U.calling g' mk a) (Vm.Alike.refl U.vm) h.2⟩
theorem hd_L_cell_S : yL_cell.cls ≠ "java/lang/invoke/MethodHandle" ∧ yL_cell.cls ≠ "java/lang/invoke/VarHandle" ∧ (parseMethodDescriptor yL_cell.desc).map (fun d => d.parameters.length) = some 2 := by decide +kernel
set_option maxHeartbeats 400000 in
set_option maxRecDepth 100000 in
theorem c_L_cell (l : Launch) (b L : Nat) (xs : Nat → Int32) (hL : L < 2 ^ 31) {k : Nat} (hk : k < 2 ^ 31) : Met l yL_cell wsL_cell ({ frames := 0, cells := 0, slots := 0, locals := 0 }) (ceP b L xs [.ref b, .int (nI k)]) (vp_Si (fun r => r = cellF L xs k)) 0 0 (fun _ => False) := by
  refine Met.ofW (cc := cL_cell) (maxL := 2) (ret := some .int) (by decide) rfl ?_
  intro p e s m args below meth c s₁ BB hml hv
  obtain ⟨rfl, hX⟩ := hv
  have hx := BB.exec
  have hb := BB.bytes
  have hr := BB.returns
  have hts := atoms_spec (ws := wsL_cell) BB.pre
  have hown : s.vm.findClass RL = some m.cls := findClass_of_methodNamed BB.named
  have hlocks := BB.notSynchronized
  have hbl0 : b < s.heap.size := by
    obtain ⟨scr, h1, _⟩ := hX
    exact (Array.getElem?_eq_some_iff.mp h1).1
  have hbA : ¬ (fun _ : Nat => False) b := fun z => z
  have hS : va_S (fun _ : Nat => False) s.heap s.heap [] := va_S.rf
  have hl := lv_entry ([.ref b, .int (nI k)]) (n := 2) (Nat.le_of_ble_eq_true rfl)
  rw [lg_entry_eq]
  generalize (lg_sl ([.ref b, .int (nI k)]) ++ List.replicate (2 - (lg_sl ([.ref b, .int (nI k)])).length) Slot.unset).toArray = ls at hl ⊢
  have hl : lv_has ls 2 [(0, .ref b), (1, .int (nI k))] := hl
  refine lv_iload_n hx hb dL_cell_0 rfl (lv_at hl 1 rfl) ?_
  refine lv_aload_n hx hb dL_cell_1 rfl (lv_at hl 0 rfl) ?_
  refine va_slen hx hb hX hbl0 hbA hS dL_cell_2 ?_
  rcases Nat.lt_or_ge k L with z | z
  · refine lv_icmp_ge (tgt := 12) hx hb dL_cell_3 (by decide) (fun h9 => absurd h9 (nI_ge z hL)) (fun _ => ?_)
    refine lv_aload_n hx hb dL_cell_6 rfl (lv_at hl 0 rfl) ?_
    refine lv_iload_n hx hb dL_cell_7 rfl (lv_at hl 1 rfl) ?_
    refine va_sld hx hb hX hbl0 hbA hS (vp_in_nI z hL) dL_cell_8 ?_
    refine lv_goto (tgt := 18) hx hb dL_cell_9 (by decide) ?_
    exact W.iret hx hb hr (fun t ht hW => ⟨_, rfl, (show cellF L xs k = _ by unfold cellF; rw [if_pos z, nI_clamp hk]).symm, ht⟩) (fun q hq => absurd hq List.not_mem_nil) dL_cell_18
  · refine lv_icmp_ge (tgt := 12) hx hb dL_cell_3 (by decide) (fun _ => ?_) (fun h9 => absurd (nI_le z hk) h9)
    refine lv_ldc hx hb hown (hts (.constant RL 7 (40503)) (by decide +kernel)) dL_cell_12 ?_
    refine lv_iload_n hx hb dL_cell_14 rfl (lv_at hl 1 rfl) ?_
    refine lv_iconst (v := 3) hx hb dL_cell_15 (by decide) ?_
    refine lv_iadd hx hb dL_cell_16 ?_
    refine lv_imul hx hb dL_cell_17 ?_
    exact W.iret hx hb hr (fun t ht hW => ⟨_, rfl, (show cellF L xs k = 40503 * (nI k + 3) by unfold cellF; rw [if_neg (Nat.not_lt.mpr z)]).symm, ht⟩) (fun q hq => absurd hq List.not_mem_nil) dL_cell_18
/-- between two acts: the chamber and the law's arrays hold one setting -/
def LI (D : va_G) (cy : Nat → ClassId) (g : Nat → Nat) (p70 : Nat) (b7 c7 d7 e7 h7 k7 : Nat → Nat) (q : Nat → Nat → Nat) (gA0 wA0 lA0 rA0 B : Nat) (H : Heap) : Prop := ∃ (st : Int32) (v : SetV) (w : PowV) (z : Int32 × Int32) (s0 s1 s2 s3 : SetV) (ga wa la ra sg : Nat → Int32) (n r : Nat) (y0 : Int32) (y8 : Nat → Int32), soF v txt0 ga wa la ra sg n r ∧ pwr st sg w ∧ ring z s0 s1 s2 s3 y0 y8 ∧ va_P D vwCl (List.flatten [(wPCo p70 b7 c7 d7 e7 h7 k7 st), (wSet cy b7 v), (wPow cy c7 w), (wSet cy d7 set0), (wPow cy e7 pow0), (wSav cy q h7 z), (wSet cy (q 0) s0), (wSet cy (q 1) s1), (wSet cy (q 2) s2), (wSet cy (q 3) s3), (wTxt cy g k7 txt0), (wI cy gA0 3 ga), (wI cy wA0 8 wa), (wI cy lA0 8 la), (wI cy rA0 4 ra)]) H ∧ va_D (fun x => B ≤ x) (List.flatten [(wPCo p70 b7 c7 d7 e7 h7 k7 st), (wSet cy b7 v), (wPow cy c7 w), (wSet cy d7 set0), (wPow cy e7 pow0), (wSav cy q h7 z), (wSet cy (q 0) s0), (wSet cy (q 1) s1), (wSet cy (q 2) s2), (wSet cy (q 3) s3), (wTxt cy g k7 txt0), (wI cy gA0 3 ga), (wI cy wA0 8 wa), (wI cy lA0 8 la), (wI cy rA0 4 ra)])
def LC (p : Program) (l : Launch) (s : State) (m : MethodId) (meth : Method) (c : Code) (b L : Nat) (xs : Nat → Int32) (D : va_G) (cy : Nat → ClassId) (g : Nat → Nat) : Prop := l.stackTraces = false ∧ p.tables.exec = Jvm.exec ∧ c.code = code ∧ meth.sig.returnType = ret ∧ c.maxLocals = 9 ∧ s.vm.findClass RL = some m.cls ∧ (∀ w ∈ wsL_law, w.before #[Value.ref b] s = true) ∧ va_X b L xs s s.heap ∧ b < s.heap.size ∧ meth.locks = false ∧ myK D cy g s.heap.size s s.heap ∧ ncOK s ∧ L ≤ 260
theorem dc_no : Op.cmpValue (FP.dcmp 13924712787461799936 13924712787461799936) .l = 0 := by decide +kernel
section LOOP
variable {p : Program} {l : Launch} {e : Env} {s : State} {m : MethodId} {below : List Frame} {meth : Method} {c : Code} {b L : Nat} {xs : Nat → Int32} {D : va_G} {cy : Nat → ClassId} {g : Nat → Nat} {p70 : Nat} {b7 c7 d7 e7 h7 k7 : Nat → Nat} {q : Nat → Nat → Nat} {gA0 wA0 lA0 rA0 : Nat} {Q : State → Prop}
set_option maxHeartbeats 4000000 in
set_option maxRecDepth 100000 in
theorem lw_fin (C : LC p l s m meth c b L xs D cy g) (K : ∀ (H : Heap) (locs : List Loc) (ls : Array Slot) (cq sq : Nat), cq ≤ 60000 → sq ≤ 300000 → va_S (fun x => s.heap.size ≤ x) s.heap H locs → W p l e room_1 s m #[Value.ref b] below meth c H locs cq sq Q (F0 m 298 ls [.int 1])) {H : Heap} {locs : List Loc} {ls : Array Slot} {cq sq : Nat} (hcq : cq ≤ 41000) (hsq : sq ≤ 290000) (hI : LI D cy g p70 b7 c7 d7 e7 h7 k7 q gA0 wA0 lA0 rA0 s.heap.size H) (hS : va_S (fun x => s.heap.size ≤ x) s.heap H locs) (hl : lv_has ls 9 [(6, .int 1), (0, .ref b), (1, .ref p70), (2, .ref gA0), (3, .ref wA0), (4, .ref lA0), (5, .ref rA0)]) : W p l e room_1 s m #[Value.ref b] below meth c H locs cq sq Q (F0 m 193 ls []) := by
  have C0 := C
  obtain ⟨hl0, hx, hb, hr, hml, hown, hts, hX, hbl0, hlocks, hK0, hNc, hL⟩ := C
  have hAB : ∀ q, (fun x => s.heap.size ≤ x) q → s.heap.size ≤ q := fun _ h => h
  have hA : ∀ q, s.heap.size ≤ q → (fun x => s.heap.size ≤ x) q := fun _ h => h
  have hbA : ¬ (fun x => s.heap.size ≤ x) b := Nat.not_le.mpr hbl0
  have S := my_fix hx hb hml hown hts
  obtain ⟨st, v, w, z, s0, s1, s2, s3, ga, wa, la, ra, sg, n, r, y0, y8, F, hp, hrg, hP, hD⟩ := hI
  have FF0 := F
  obtain ⟨CHH, hAG, htx, hl8⟩ := F
  have hN := CHH.2.1
  have h8 : n ≤ 8 := hN.2.1
  have hr4 : r ≤ 4 := hN.2.2.2
  refine lv_iload hx hb dL_law_193 (lv_at hl 0 rfl) ?_
  refine lv_if_eq (tgt := 297) hx hb dL_law_195 (by decide) (fun h9 => absurd h9 (show ¬ (1 : Int32) = 0 by decide)) (fun _ => ?_)
  refine lv_aload_n hx hb dL_law_198 rfl (lv_at hl 2 rfl) ?_
  refine lv_bipush (v := 12) hx hb dL_law_199 (by decide) ?_
  have e1 := A_whole_no (st := st) (v := v) (w := w) txt0 (x := 12) (by decide)
  refine lw_compi (wcs := [(wPCo p70 b7 c7 d7 e7 h7 k7 st), (wSet cy b7 v), (wPow cy c7 w), (wTxt cy g k7 txt0)]) (wns := fun u8 => [(wPCo p70 b7 c7 d7 e7 h7 k7 u8.1), (wSet cy b7 v), (wPow cy c7 u8.2), (wTxt cy g k7 txt0)]) (W2 := fun u8 => [(wPCo p70 b7 c7 d7 e7 h7 k7 u8.1), (wSet cy b7 v), (wPow cy c7 u8.2), (wSet cy d7 set0), (wPow cy e7 pow0), (wSav cy q h7 z), (wSet cy (q 0) s0), (wSet cy (q 1) s1), (wSet cy (q 2) s2), (wSet cy (q 3) s3), (wTxt cy g k7 txt0), (wI cy gA0 3 ga), (wI cy wA0 8 wa), (wI cy lA0 8 la), (wI cy rA0 4 ra)]) (vx_runSW (As := [.ref p70, .int 12]) (rest := []) S (c_L_wholeOf l hl0 D cy g s.heap.size p70 b7 c7 d7 e7 h7 k7 st v w txt0 12 (fun k h => k_whole h)) (vx_cwSW 2 hts gL_law_L_wholeOf rfl rfl rfl hd_L_wholeOf_S ⟨Nat.le_of_ble_eq_true rfl, Nat.le_of_ble_eq_true rfl⟩) ⟨lwP_blind, my_preL (wcs := [(wPCo p70 b7 c7 d7 e7 h7 k7 st), (wSet cy b7 v), (wPow cy c7 w), (wTxt cy g k7 txt0)]) hK0 hNc hS hAB hP hD [0, 1, 2, 10] (by decide) rfl rfl⟩ rfl rfl hl.1 rfl (lv_room (Nat.le_of_ble_eq_true rfl)) dL_law_201 ⟨(show cq + 1 ≤ 1200172 by omega), (show sq + 6 ≤ 5500668 by omega)⟩) hS hP hD [0, 1, 2, 10] rfl rfl (fun _ => rfl) (fun _ => by simp only [List.map_cons, List.map_nil, adrSet, adrSetE, adrPow, adrPowE, adrTxt, adrTxtE, adrSav, adrSavE, adrPCo, adrI, adrL]) (fun _ => rfl) (fun r9 u9 H locs hw hP hD hS => ?_)
  obtain ⟨rfl, rfl⟩ := Prod.mk.inj (e1.symm.trans hw)
  have hP : va_P D vwCl (List.flatten [(wPCo p70 b7 c7 d7 e7 h7 k7 st), (wSet cy b7 v), (wPow cy c7 w), (wSet cy d7 set0), (wPow cy e7 pow0), (wSav cy q h7 z), (wSet cy (q 0) s0), (wSet cy (q 1) s1), (wSet cy (q 2) s2), (wSet cy (q 3) s3), (wTxt cy g k7 txt0), (wI cy gA0 3 ga), (wI cy wA0 8 wa), (wI cy lA0 8 la), (wI cy rA0 4 ra)]) H := hP
  have hD : va_D (fun x => s.heap.size ≤ x) (List.flatten [(wPCo p70 b7 c7 d7 e7 h7 k7 st), (wSet cy b7 v), (wPow cy c7 w), (wSet cy d7 set0), (wPow cy e7 pow0), (wSav cy q h7 z), (wSet cy (q 0) s0), (wSet cy (q 1) s1), (wSet cy (q 2) s2), (wSet cy (q 3) s3), (wTxt cy g k7 txt0), (wI cy gA0 3 ga), (wI cy wA0 8 wa), (wI cy lA0 8 la), (wI cy rA0 4 ra)]) := hD
  refine lv_ldc hx hb hown (hts (.constant RL 17 (-2000002)) (by decide +kernel)) dL_law_204 ?_
  refine lv_icmp_ne (tgt := 297) hx hb dL_law_206 (by decide) (fun h9 => absurd rfl h9) (fun _ => ?_)
  refine lv_aload_n hx hb dL_law_209 rfl (lv_at hl 2 rfl) ?_
  refine lv_iconst (v := (-1)) hx hb dL_law_210 (by decide) ?_
  have e2 := A_whole_no (st := st) (v := v) (w := w) txt0 (x := -1) (by decide)
  refine lw_compi (wcs := [(wPCo p70 b7 c7 d7 e7 h7 k7 st), (wSet cy b7 v), (wPow cy c7 w), (wTxt cy g k7 txt0)]) (wns := fun u8 => [(wPCo p70 b7 c7 d7 e7 h7 k7 u8.1), (wSet cy b7 v), (wPow cy c7 u8.2), (wTxt cy g k7 txt0)]) (W2 := fun u8 => [(wPCo p70 b7 c7 d7 e7 h7 k7 u8.1), (wSet cy b7 v), (wPow cy c7 u8.2), (wSet cy d7 set0), (wPow cy e7 pow0), (wSav cy q h7 z), (wSet cy (q 0) s0), (wSet cy (q 1) s1), (wSet cy (q 2) s2), (wSet cy (q 3) s3), (wTxt cy g k7 txt0), (wI cy gA0 3 ga), (wI cy wA0 8 wa), (wI cy lA0 8 la), (wI cy rA0 4 ra)]) (vx_runSW (As := [.ref p70, .int (-1)]) (rest := []) S (c_L_wholeOf l hl0 D cy g s.heap.size p70 b7 c7 d7 e7 h7 k7 st v w txt0 (-1) (fun k h => k_whole h)) (vx_cwSW 2 hts gL_law_L_wholeOf rfl rfl rfl hd_L_wholeOf_S ⟨Nat.le_of_ble_eq_true rfl, Nat.le_of_ble_eq_true rfl⟩) ⟨lwP_blind, my_preL (wcs := [(wPCo p70 b7 c7 d7 e7 h7 k7 st), (wSet cy b7 v), (wPow cy c7 w), (wTxt cy g k7 txt0)]) hK0 hNc hS hAB hP hD [0, 1, 2, 10] (by decide) rfl rfl⟩ rfl rfl hl.1 rfl (lv_room (Nat.le_of_ble_eq_true rfl)) dL_law_211 ⟨(show cq + 2 ≤ 1200172 by omega), (show sq + 12 ≤ 5500668 by omega)⟩) hS hP hD [0, 1, 2, 10] rfl rfl (fun _ => rfl) (fun _ => by simp only [List.map_cons, List.map_nil, adrSet, adrSetE, adrPow, adrPowE, adrTxt, adrTxtE, adrSav, adrSavE, adrPCo, adrI, adrL]) (fun _ => rfl) (fun r9 u9 H locs hw hP hD hS => ?_)
  obtain ⟨rfl, rfl⟩ := Prod.mk.inj (e2.symm.trans hw)
  have hP : va_P D vwCl (List.flatten [(wPCo p70 b7 c7 d7 e7 h7 k7 st), (wSet cy b7 v), (wPow cy c7 w), (wSet cy d7 set0), (wPow cy e7 pow0), (wSav cy q h7 z), (wSet cy (q 0) s0), (wSet cy (q 1) s1), (wSet cy (q 2) s2), (wSet cy (q 3) s3), (wTxt cy g k7 txt0), (wI cy gA0 3 ga), (wI cy wA0 8 wa), (wI cy lA0 8 la), (wI cy rA0 4 ra)]) H := hP
  have hD : va_D (fun x => s.heap.size ≤ x) (List.flatten [(wPCo p70 b7 c7 d7 e7 h7 k7 st), (wSet cy b7 v), (wPow cy c7 w), (wSet cy d7 set0), (wPow cy e7 pow0), (wSav cy q h7 z), (wSet cy (q 0) s0), (wSet cy (q 1) s1), (wSet cy (q 2) s2), (wSet cy (q 3) s3), (wTxt cy g k7 txt0), (wI cy gA0 3 ga), (wI cy wA0 8 wa), (wI cy lA0 8 la), (wI cy rA0 4 ra)]) := hD
  refine lv_ldc hx hb hown (hts (.constant RL 17 (-2000002)) (by decide +kernel)) dL_law_214 ?_
  refine lv_icmp_ne (tgt := 297) hx hb dL_law_216 (by decide) (fun h9 => absurd rfl h9) (fun _ => ?_)
  refine lv_aload_n hx hb dL_law_219 rfl (lv_at hl 2 rfl) ?_
  refine lv_iconst (v := (-1)) hx hb dL_law_220 (by decide) ?_
  have e3 := A_least_m1 (st := st) (v := v) (w := w)
  refine lw_compi (wcs := [(wPCo p70 b7 c7 d7 e7 h7 k7 st), (wSet cy b7 v), (wPow cy c7 w)]) (wns := fun u8 => [(wPCo p70 b7 c7 d7 e7 h7 k7 u8.1), (wSet cy b7 v), (wPow cy c7 u8.2)]) (W2 := fun u8 => [(wPCo p70 b7 c7 d7 e7 h7 k7 u8.1), (wSet cy b7 v), (wPow cy c7 u8.2), (wSet cy d7 set0), (wPow cy e7 pow0), (wSav cy q h7 z), (wSet cy (q 0) s0), (wSet cy (q 1) s1), (wSet cy (q 2) s2), (wSet cy (q 3) s3), (wTxt cy g k7 txt0), (wI cy gA0 3 ga), (wI cy wA0 8 wa), (wI cy lA0 8 la), (wI cy rA0 4 ra)]) (vx_runSW (As := [.ref p70, .int (-1)]) (rest := []) S (c_L_leastOf l hl0 D cy g s.heap.size p70 b7 c7 d7 e7 h7 k7 st v w (-1) (fun k h => k_least h)) (vx_cwSW 2 hts gL_law_L_leastOf rfl rfl rfl hd_L_leastOf_S ⟨Nat.le_of_ble_eq_true rfl, Nat.le_of_ble_eq_true rfl⟩) ⟨lwP_blind, my_preL (wcs := [(wPCo p70 b7 c7 d7 e7 h7 k7 st), (wSet cy b7 v), (wPow cy c7 w)]) hK0 hNc hS hAB hP hD [0, 1, 2] (by decide) rfl rfl⟩ rfl rfl hl.1 rfl (lv_room (Nat.le_of_ble_eq_true rfl)) dL_law_221 ⟨(show cq + 3 ≤ 1200172 by omega), (show sq + 18 ≤ 5500668 by omega)⟩) hS hP hD [0, 1, 2] rfl rfl (fun _ => rfl) (fun _ => by simp only [List.map_cons, List.map_nil, adrSet, adrSetE, adrPow, adrPowE, adrTxt, adrTxtE, adrSav, adrSavE, adrPCo, adrI, adrL]) (fun _ => rfl) (fun r9 u9 H locs hw hP hD hS => ?_)
  obtain ⟨rfl, rfl⟩ := Prod.mk.inj (e3.symm.trans hw)
  have hP : va_P D vwCl (List.flatten [(wPCo p70 b7 c7 d7 e7 h7 k7 st), (wSet cy b7 v), (wPow cy c7 w), (wSet cy d7 set0), (wPow cy e7 pow0), (wSav cy q h7 z), (wSet cy (q 0) s0), (wSet cy (q 1) s1), (wSet cy (q 2) s2), (wSet cy (q 3) s3), (wTxt cy g k7 txt0), (wI cy gA0 3 ga), (wI cy wA0 8 wa), (wI cy lA0 8 la), (wI cy rA0 4 ra)]) H := hP
  have hD : va_D (fun x => s.heap.size ≤ x) (List.flatten [(wPCo p70 b7 c7 d7 e7 h7 k7 st), (wSet cy b7 v), (wPow cy c7 w), (wSet cy d7 set0), (wPow cy e7 pow0), (wSav cy q h7 z), (wSet cy (q 0) s0), (wSet cy (q 1) s1), (wSet cy (q 2) s2), (wSet cy (q 3) s3), (wTxt cy g k7 txt0), (wI cy gA0 3 ga), (wI cy wA0 8 wa), (wI cy lA0 8 la), (wI cy rA0 4 ra)]) := hD
  refine lv_ldc hx hb hown (hts (.constant RL 17 (-2000002)) (by decide +kernel)) dL_law_224 ?_
  refine lv_icmp_ne (tgt := 297) hx hb dL_law_226 (by decide) (fun h9 => absurd rfl h9) (fun _ => ?_)
  refine lv_aload_n hx hb dL_law_229 rfl (lv_at hl 2 rfl) ?_
  refine lv_sipush (v := 256) hx hb dL_law_230 (by decide) ?_
  have e4 := A_wins_no (st := st) (w := w) CHH (j := 256) (Nat.pow_le_pow_right (n := 2) (by decide) h8) (by decide)
  refine lw_compi (wcs := [(wPCo p70 b7 c7 d7 e7 h7 k7 st), (wSet cy b7 v), (wPow cy c7 w)]) (wns := fun u8 => [(wPCo p70 b7 c7 d7 e7 h7 k7 u8.1), (wSet cy b7 v), (wPow cy c7 u8.2)]) (W2 := fun u8 => [(wPCo p70 b7 c7 d7 e7 h7 k7 u8.1), (wSet cy b7 v), (wPow cy c7 u8.2), (wSet cy d7 set0), (wPow cy e7 pow0), (wSav cy q h7 z), (wSet cy (q 0) s0), (wSet cy (q 1) s1), (wSet cy (q 2) s2), (wSet cy (q 3) s3), (wTxt cy g k7 txt0), (wI cy gA0 3 ga), (wI cy wA0 8 wa), (wI cy lA0 8 la), (wI cy rA0 4 ra)]) (vx_runSW (As := [.ref p70, .int 256]) (rest := []) S (c_L_winsOf l hl0 D cy g s.heap.size p70 b7 c7 d7 e7 h7 k7 st v w 256 (fun k h => k_wins h)) (vx_cwSW 2 hts gL_law_L_winsOf rfl rfl rfl hd_L_winsOf_S ⟨Nat.le_of_ble_eq_true rfl, Nat.le_of_ble_eq_true rfl⟩) ⟨lwP_blind, my_preL (wcs := [(wPCo p70 b7 c7 d7 e7 h7 k7 st), (wSet cy b7 v), (wPow cy c7 w)]) hK0 hNc hS hAB hP hD [0, 1, 2] (by decide) rfl rfl⟩ rfl rfl hl.1 rfl (lv_room (Nat.le_of_ble_eq_true rfl)) dL_law_233 ⟨(show cq + 4 ≤ 1200172 by omega), (show sq + 24 ≤ 5500668 by omega)⟩) hS hP hD [0, 1, 2] rfl rfl (fun _ => rfl) (fun _ => by simp only [List.map_cons, List.map_nil, adrSet, adrSetE, adrPow, adrPowE, adrTxt, adrTxtE, adrSav, adrSavE, adrPCo, adrI, adrL]) (fun _ => rfl) (fun r9 u9 H locs hw hP hD hS => ?_)
  obtain ⟨rfl, rfl⟩ := Prod.mk.inj (e4.symm.trans hw)
  have hP : va_P D vwCl (List.flatten [(wPCo p70 b7 c7 d7 e7 h7 k7 st), (wSet cy b7 v), (wPow cy c7 w), (wSet cy d7 set0), (wPow cy e7 pow0), (wSav cy q h7 z), (wSet cy (q 0) s0), (wSet cy (q 1) s1), (wSet cy (q 2) s2), (wSet cy (q 3) s3), (wTxt cy g k7 txt0), (wI cy gA0 3 ga), (wI cy wA0 8 wa), (wI cy lA0 8 la), (wI cy rA0 4 ra)]) H := hP
  have hD : va_D (fun x => s.heap.size ≤ x) (List.flatten [(wPCo p70 b7 c7 d7 e7 h7 k7 st), (wSet cy b7 v), (wPow cy c7 w), (wSet cy d7 set0), (wPow cy e7 pow0), (wSav cy q h7 z), (wSet cy (q 0) s0), (wSet cy (q 1) s1), (wSet cy (q 2) s2), (wSet cy (q 3) s3), (wTxt cy g k7 txt0), (wI cy gA0 3 ga), (wI cy wA0 8 wa), (wI cy lA0 8 la), (wI cy rA0 4 ra)]) := hD
  refine lv_ldc hx hb hown (hts (.constant RL 17 (-2000002)) (by decide +kernel)) dL_law_236 ?_
  refine lv_icmp_ne (tgt := 297) hx hb dL_law_238 (by decide) (fun h9 => absurd rfl h9) (fun _ => ?_)
  refine lv_aload_n hx hb dL_law_241 rfl (lv_at hl 2 rfl) ?_
  refine lv_aload_n hx hb dL_law_242 rfl (lv_at hl 3 rfl) ?_
  refine lv_iconst (v := 0) hx hb dL_law_243 (by decide) ?_
  refine wk_ia hx hb hK0.1 hP 90 0 (k := 0) (v := (nI n)) rfl rfl (by decide) (by decide) hAG.1 dL_law_244 ?_
  refine lv_iconst (v := 0) hx hb dL_law_245 (by decide) ?_
  have e5 := A_memberN (st := st) (w := w) CHH 0
  refine lw_compi (wcs := [(wPCo p70 b7 c7 d7 e7 h7 k7 st), (wSet cy b7 v), (wPow cy c7 w)]) (wns := fun u8 => [(wPCo p70 b7 c7 d7 e7 h7 k7 u8.1), (wSet cy b7 v), (wPow cy c7 u8.2)]) (W2 := fun u8 => [(wPCo p70 b7 c7 d7 e7 h7 k7 u8.1), (wSet cy b7 v), (wPow cy c7 u8.2), (wSet cy d7 set0), (wPow cy e7 pow0), (wSav cy q h7 z), (wSet cy (q 0) s0), (wSet cy (q 1) s1), (wSet cy (q 2) s2), (wSet cy (q 3) s3), (wTxt cy g k7 txt0), (wI cy gA0 3 ga), (wI cy wA0 8 wa), (wI cy lA0 8 la), (wI cy rA0 4 ra)]) (vx_runSW (As := [.ref p70, .int (nI n), .int 0]) (rest := []) S (c_L_memberOf l hl0 D cy g s.heap.size p70 b7 c7 d7 e7 h7 k7 st v w (nI n) 0 (fun k h => k_member h)) (vx_cwSW 3 hts gL_law_L_memberOf rfl rfl rfl hd_L_memberOf_S ⟨Nat.le_of_ble_eq_true rfl, Nat.le_of_ble_eq_true rfl⟩) ⟨lwP_blind, my_preL (wcs := [(wPCo p70 b7 c7 d7 e7 h7 k7 st), (wSet cy b7 v), (wPow cy c7 w)]) hK0 hNc hS hAB hP hD [0, 1, 2] (by decide) rfl rfl⟩ rfl rfl hl.1 rfl (lv_room (Nat.le_of_ble_eq_true rfl)) dL_law_246 ⟨(show cq + 6 ≤ 1200172 by omega), (show sq + 36 ≤ 5500668 by omega)⟩) hS hP hD [0, 1, 2] rfl rfl (fun _ => rfl) (fun _ => by simp only [List.map_cons, List.map_nil, adrSet, adrSetE, adrPow, adrPowE, adrTxt, adrTxtE, adrSav, adrSavE, adrPCo, adrI, adrL]) (fun _ => rfl) (fun r9 u9 H locs hw hP hD hS => ?_)
  obtain ⟨rfl, rfl⟩ := Prod.mk.inj (e5.symm.trans hw)
  have hP : va_P D vwCl (List.flatten [(wPCo p70 b7 c7 d7 e7 h7 k7 st), (wSet cy b7 v), (wPow cy c7 w), (wSet cy d7 set0), (wPow cy e7 pow0), (wSav cy q h7 z), (wSet cy (q 0) s0), (wSet cy (q 1) s1), (wSet cy (q 2) s2), (wSet cy (q 3) s3), (wTxt cy g k7 txt0), (wI cy gA0 3 ga), (wI cy wA0 8 wa), (wI cy lA0 8 la), (wI cy rA0 4 ra)]) H := hP
  have hD : va_D (fun x => s.heap.size ≤ x) (List.flatten [(wPCo p70 b7 c7 d7 e7 h7 k7 st), (wSet cy b7 v), (wPow cy c7 w), (wSet cy d7 set0), (wPow cy e7 pow0), (wSav cy q h7 z), (wSet cy (q 0) s0), (wSet cy (q 1) s1), (wSet cy (q 2) s2), (wSet cy (q 3) s3), (wTxt cy g k7 txt0), (wI cy gA0 3 ga), (wI cy wA0 8 wa), (wI cy lA0 8 la), (wI cy rA0 4 ra)]) := hD
  refine lv_ldc hx hb hown (hts (.constant RL 27 (-2000001)) (by decide +kernel)) dL_law_249 ?_
  refine lv_icmp_ne (tgt := 297) hx hb dL_law_251 (by decide) (fun h9 => absurd rfl h9) (fun _ => ?_)
  refine lv_aload_n hx hb dL_law_254 rfl (lv_at hl 2 rfl) ?_
  refine lv_aload_n hx hb dL_law_255 rfl (lv_at hl 3 rfl) ?_
  refine lv_iconst (v := 0) hx hb dL_law_256 (by decide) ?_
  refine wk_ia hx hb hK0.1 hP 90 0 (k := 0) (v := (nI n)) rfl rfl (by decide) (by decide) hAG.1 dL_law_257 ?_
  obtain ⟨x6, e6, e6x⟩ := A_shareN (st := st) (w := w) CHH
  refine lw_compd (wcs := [(wPCo p70 b7 c7 d7 e7 h7 k7 st), (wSet cy b7 v), (wPow cy c7 w)]) (wns := fun u8 => [(wPCo p70 b7 c7 d7 e7 h7 k7 u8.1), (wSet cy b7 v), (wPow cy c7 u8.2)]) (W2 := fun u8 => [(wPCo p70 b7 c7 d7 e7 h7 k7 u8.1), (wSet cy b7 v), (wPow cy c7 u8.2), (wSet cy d7 set0), (wPow cy e7 pow0), (wSav cy q h7 z), (wSet cy (q 0) s0), (wSet cy (q 1) s1), (wSet cy (q 2) s2), (wSet cy (q 3) s3), (wTxt cy g k7 txt0), (wI cy gA0 3 ga), (wI cy wA0 8 wa), (wI cy lA0 8 la), (wI cy rA0 4 ra)]) (vx_runSW (As := [.ref p70, .int (nI n)]) (rest := []) S (c_L_shareOf l hl0 D cy g s.heap.size p70 b7 c7 d7 e7 h7 k7 st v w (nI n) (fun k h => k_share h) (fun r u h => share_n h)) (vx_cwSW 2 hts gL_law_L_shareOf rfl rfl rfl hd_L_shareOf_S ⟨Nat.le_of_ble_eq_true rfl, Nat.le_of_ble_eq_true rfl⟩) ⟨lwP_blind, my_preL (wcs := [(wPCo p70 b7 c7 d7 e7 h7 k7 st), (wSet cy b7 v), (wPow cy c7 w)]) hK0 hNc hS hAB hP hD [0, 1, 2] (by decide) rfl rfl⟩ rfl rfl hl.1 rfl (lv_room (Nat.le_of_ble_eq_true rfl)) dL_law_258 ⟨(show cq + 7 ≤ 1200172 by omega), (show sq + 42 ≤ 5500668 by omega)⟩) hS hP hD [0, 1, 2] rfl rfl (fun _ => rfl) (fun _ => by simp only [List.map_cons, List.map_nil, adrSet, adrSetE, adrPow, adrPowE, adrTxt, adrTxtE, adrSav, adrSavE, adrPCo, adrI, adrL]) (fun _ => rfl) (fun r9 u9 H locs hw hP hD hS => ?_)
  obtain ⟨rfl, rfl⟩ := Prod.mk.inj (e6.symm.trans hw)
  have hP : va_P D vwCl (List.flatten [(wPCo p70 b7 c7 d7 e7 h7 k7 st), (wSet cy b7 v), (wPow cy c7 w), (wSet cy d7 set0), (wPow cy e7 pow0), (wSav cy q h7 z), (wSet cy (q 0) s0), (wSet cy (q 1) s1), (wSet cy (q 2) s2), (wSet cy (q 3) s3), (wTxt cy g k7 txt0), (wI cy gA0 3 ga), (wI cy wA0 8 wa), (wI cy lA0 8 la), (wI cy rA0 4 ra)]) H := hP
  have hD : va_D (fun x => s.heap.size ≤ x) (List.flatten [(wPCo p70 b7 c7 d7 e7 h7 k7 st), (wSet cy b7 v), (wPow cy c7 w), (wSet cy d7 set0), (wPow cy e7 pow0), (wSav cy q h7 z), (wSet cy (q 0) s0), (wSet cy (q 1) s1), (wSet cy (q 2) s2), (wSet cy (q 3) s3), (wTxt cy g k7 txt0), (wI cy gA0 3 ga), (wI cy wA0 8 wa), (wI cy lA0 8 la), (wI cy rA0 4 ra)]) := hD
  refine wk_td (x := x6) (v := 13924712787461799936) e6x ?_
  refine lv_ldc2d hx hb hown (hts (.constantDouble RL 113 (13924712787461799936)) (by decide +kernel)) dL_law_261 ?_
  refine lv_dcmp hx hb dL_law_264 ?_
  refine lv_if_ne (tgt := 297) hx hb dL_law_265 (by decide) (fun h9 => absurd dc_no h9) (fun _ => ?_)
  refine lv_aload_n hx hb dL_law_268 rfl (lv_at hl 2 rfl) ?_
  refine lv_iconst (v := (-1)) hx hb dL_law_269 (by decide) ?_
  obtain ⟨x7, e7x, e7y⟩ := A_part_m1 (st := st) (v := v) (w := w)
  refine lw_compd (wcs := [(wPCo p70 b7 c7 d7 e7 h7 k7 st), (wSet cy b7 v), (wPow cy c7 w)]) (wns := fun u8 => [(wPCo p70 b7 c7 d7 e7 h7 k7 u8.1), (wSet cy b7 v), (wPow cy c7 u8.2)]) (W2 := fun u8 => [(wPCo p70 b7 c7 d7 e7 h7 k7 u8.1), (wSet cy b7 v), (wPow cy c7 u8.2), (wSet cy d7 set0), (wPow cy e7 pow0), (wSav cy q h7 z), (wSet cy (q 0) s0), (wSet cy (q 1) s1), (wSet cy (q 2) s2), (wSet cy (q 3) s3), (wTxt cy g k7 txt0), (wI cy gA0 3 ga), (wI cy wA0 8 wa), (wI cy lA0 8 la), (wI cy rA0 4 ra)]) (vx_runSW (As := [.ref p70, .int (-1)]) (rest := []) S (c_L_partOf l hl0 D cy g s.heap.size p70 b7 c7 d7 e7 h7 k7 st v w (-1) (fun k h => k_part h)) (vx_cwSW 2 hts gL_law_L_partOf rfl rfl rfl hd_L_partOf_S ⟨Nat.le_of_ble_eq_true rfl, Nat.le_of_ble_eq_true rfl⟩) ⟨lwP_blind, my_preL (wcs := [(wPCo p70 b7 c7 d7 e7 h7 k7 st), (wSet cy b7 v), (wPow cy c7 w)]) hK0 hNc hS hAB hP hD [0, 1, 2] (by decide) rfl rfl⟩ rfl rfl hl.1 rfl (lv_room (Nat.le_of_ble_eq_true rfl)) dL_law_270 ⟨(show cq + 8 ≤ 1200172 by omega), (show sq + 48 ≤ 5500668 by omega)⟩) hS hP hD [0, 1, 2] rfl rfl (fun _ => rfl) (fun _ => by simp only [List.map_cons, List.map_nil, adrSet, adrSetE, adrPow, adrPowE, adrTxt, adrTxtE, adrSav, adrSavE, adrPCo, adrI, adrL]) (fun _ => rfl) (fun r9 u9 H locs hw hP hD hS => ?_)
  obtain ⟨rfl, rfl⟩ := Prod.mk.inj (e7x.symm.trans hw)
  have hP : va_P D vwCl (List.flatten [(wPCo p70 b7 c7 d7 e7 h7 k7 st), (wSet cy b7 v), (wPow cy c7 w), (wSet cy d7 set0), (wPow cy e7 pow0), (wSav cy q h7 z), (wSet cy (q 0) s0), (wSet cy (q 1) s1), (wSet cy (q 2) s2), (wSet cy (q 3) s3), (wTxt cy g k7 txt0), (wI cy gA0 3 ga), (wI cy wA0 8 wa), (wI cy lA0 8 la), (wI cy rA0 4 ra)]) H := hP
  have hD : va_D (fun x => s.heap.size ≤ x) (List.flatten [(wPCo p70 b7 c7 d7 e7 h7 k7 st), (wSet cy b7 v), (wPow cy c7 w), (wSet cy d7 set0), (wPow cy e7 pow0), (wSav cy q h7 z), (wSet cy (q 0) s0), (wSet cy (q 1) s1), (wSet cy (q 2) s2), (wSet cy (q 3) s3), (wTxt cy g k7 txt0), (wI cy gA0 3 ga), (wI cy wA0 8 wa), (wI cy lA0 8 la), (wI cy rA0 4 ra)]) := hD
  refine wk_td (x := x7) (v := 13924712787461799936) e7y ?_
  refine lv_ldc2d hx hb hown (hts (.constantDouble RL 113 (13924712787461799936)) (by decide +kernel)) dL_law_273 ?_
  refine lv_dcmp hx hb dL_law_276 ?_
  refine lv_if_ne (tgt := 297) hx hb dL_law_277 (by decide) (fun h9 => absurd dc_no h9) (fun _ => ?_)
  refine lv_aload_n hx hb dL_law_280 rfl (lv_at hl 2 rfl) ?_
  refine lv_aload_n hx hb dL_law_281 rfl (lv_at hl 3 rfl) ?_
  refine lv_iconst (v := 2) hx hb dL_law_282 (by decide) ?_
  refine wk_ia hx hb hK0.1 hP 90 0 (k := 2) (v := (nI r)) rfl rfl (by decide) (by decide) hAG.2.2.1 dL_law_283 ?_
  refine lv_iconst (v := 0) hx hb dL_law_284 (by decide) ?_
  have e8 := A_ruleN (st := st) CHH 0
  refine lw_compi (wcs := [(wPCo p70 b7 c7 d7 e7 h7 k7 st), (wSet cy b7 v)]) (wns := fun u8 => [(wPCo p70 b7 c7 d7 e7 h7 k7 u8), (wSet cy b7 v)]) (W2 := fun u8 => [(wPCo p70 b7 c7 d7 e7 h7 k7 u8), (wSet cy b7 v), (wPow cy c7 w), (wSet cy d7 set0), (wPow cy e7 pow0), (wSav cy q h7 z), (wSet cy (q 0) s0), (wSet cy (q 1) s1), (wSet cy (q 2) s2), (wSet cy (q 3) s3), (wTxt cy g k7 txt0), (wI cy gA0 3 ga), (wI cy wA0 8 wa), (wI cy lA0 8 la), (wI cy rA0 4 ra)]) (vx_runSW (As := [.ref p70, .int (nI r), .int 0]) (rest := []) S (c_L_ruleOf l hl0 D cy g s.heap.size p70 b7 c7 d7 e7 h7 k7 st v (nI r) 0 (fun k h => k_rule h)) (vx_cwSW 3 hts gL_law_L_ruleOf rfl rfl rfl hd_L_ruleOf_S ⟨Nat.le_of_ble_eq_true rfl, Nat.le_of_ble_eq_true rfl⟩) ⟨lwP_blind, my_preL (wcs := [(wPCo p70 b7 c7 d7 e7 h7 k7 st), (wSet cy b7 v)]) hK0 hNc hS hAB hP hD [0, 1] (by decide) rfl rfl⟩ rfl rfl hl.1 rfl (lv_room (Nat.le_of_ble_eq_true rfl)) dL_law_285 ⟨(show cq + 10 ≤ 1200172 by omega), (show sq + 60 ≤ 5500668 by omega)⟩) hS hP hD [0, 1] rfl rfl (fun _ => rfl) (fun _ => by simp only [List.map_cons, List.map_nil, adrSet, adrSetE, adrPow, adrPowE, adrTxt, adrTxtE, adrSav, adrSavE, adrPCo, adrI, adrL]) (fun _ => rfl) (fun r9 u9 H locs hw hP hD hS => ?_)
  obtain ⟨rfl, rfl⟩ := Prod.mk.inj (e8.symm.trans hw)
  have hP : va_P D vwCl (List.flatten [(wPCo p70 b7 c7 d7 e7 h7 k7 st), (wSet cy b7 v), (wPow cy c7 w), (wSet cy d7 set0), (wPow cy e7 pow0), (wSav cy q h7 z), (wSet cy (q 0) s0), (wSet cy (q 1) s1), (wSet cy (q 2) s2), (wSet cy (q 3) s3), (wTxt cy g k7 txt0), (wI cy gA0 3 ga), (wI cy wA0 8 wa), (wI cy lA0 8 la), (wI cy rA0 4 ra)]) H := hP
  have hD : va_D (fun x => s.heap.size ≤ x) (List.flatten [(wPCo p70 b7 c7 d7 e7 h7 k7 st), (wSet cy b7 v), (wPow cy c7 w), (wSet cy d7 set0), (wPow cy e7 pow0), (wSav cy q h7 z), (wSet cy (q 0) s0), (wSet cy (q 1) s1), (wSet cy (q 2) s2), (wSet cy (q 3) s3), (wTxt cy g k7 txt0), (wI cy gA0 3 ga), (wI cy wA0 8 wa), (wI cy lA0 8 la), (wI cy rA0 4 ra)]) := hD
  refine lv_ldc hx hb hown (hts (.constant RL 27 (-2000001)) (by decide +kernel)) dL_law_288 ?_
  refine lv_icmp_ne (tgt := 297) hx hb dL_law_290 (by decide) (fun h9 => absurd rfl h9) (fun _ => ?_)
  refine lv_iconst (v := 1) hx hb dL_law_293 (by decide) ?_
  refine lv_goto (tgt := 298) hx hb dL_law_294 (by decide) ?_
  exact K H locs ls _ _ (by omega) (by omega) hS
set_option maxHeartbeats 4000000 in
set_option maxRecDepth 100000 in
theorem lw_2 (C : LC p l s m meth c b L xs D cy g) {T : Nat} (hT : T ≤ 45) (K : ∀ (H : Heap) (locs : List Loc) (ls : Array Slot) (cq sq : Nat), cq ≤ 40000 → sq ≤ 250000 → LI D cy g p70 b7 c7 d7 e7 h7 k7 q gA0 wA0 lA0 rA0 s.heap.size H → va_S (fun x => s.heap.size ≤ x) s.heap H locs → lv_has ls 9 [(8, .int (nI T)), (7, .int (nI T)), (6, .int 1), (0, .ref b), (1, .ref p70), (2, .ref gA0), (3, .ref wA0), (4, .ref lA0), (5, .ref rA0)] → W p l e room_1 s m #[Value.ref b] below meth c H locs cq sq Q (F0 m 193 ls [])) : ∀ (fu k : Nat) (H : Heap) (locs : List Loc) (ls : Array Slot) (cq sq : Nat), T - k < fu → k ≤ T → cq + 810 * (T - k) ≤ 40000 → sq + 4960 * (T - k) ≤ 250000 → LI D cy g p70 b7 c7 d7 e7 h7 k7 q gA0 wA0 lA0 rA0 s.heap.size H → va_S (fun x => s.heap.size ≤ x) s.heap H locs → lv_has ls 9 [(8, .int (nI k)), (7, .int (nI T)), (6, .int 1), (0, .ref b), (1, .ref p70), (2, .ref gA0), (3, .ref wA0), (4, .ref lA0), (5, .ref rA0)] → W p l e room_1 s m #[Value.ref b] below meth c H locs cq sq Q (F0 m 126 ls [])
  | 0, _, _, _, _, _, _ => fun h => absurd h (Nat.not_lt_zero _)
  | fu + 1, k, H, locs, ls, cq, sq => by
    intro hfu hkT hcq hsq hI hS hl
    have C0 := C
    obtain ⟨hl0, hx, hb, hr, hml, hown, hts, hX, hbl0, hlocks, hK0, hNc, hL⟩ := C
    have hAB : ∀ q, (fun x => s.heap.size ≤ x) q → s.heap.size ≤ q := fun _ h => h
    have hA : ∀ q, s.heap.size ≤ q → (fun x => s.heap.size ≤ x) q := fun _ h => h
    have hbA : ¬ (fun x => s.heap.size ≤ x) b := Nat.not_le.mpr hbl0
    have S := my_fix hx hb hml hown hts
    refine lv_iload hx hb dL_law_126 (lv_at hl 0 rfl) ?_
    refine lv_iload hx hb dL_law_128 (lv_at hl 1 rfl) ?_
    rcases Nat.lt_or_ge k T with hk | hk
    · refine lv_icmp_ge (tgt := 193) hx hb dL_law_130 (by decide) (fun h9 => absurd h9 (nI_ge hk (by omega))) (fun _ => ?_)
      refine lv_iload hx hb dL_law_133 (lv_at hl 2 rfl) ?_
      refine lv_if_eq (tgt := 193) hx hb dL_law_135 (by decide) (fun h9 => absurd h9 (show ¬ (1 : Int32) = 0 by decide)) (fun _ => ?_)
      obtain ⟨st, v, w, z, s0, s1, s2, s3, ga, wa, la, ra, sg, n, r, y0, y8, F, hp, hrg, hP, hD⟩ := hI
      have FF0 := F
      obtain ⟨CHH, hAG, htx, hl8⟩ := F
      have hN := CHH.2.1
      have h8 : n ≤ 8 := hN.2.1
      have hr4 : r ≤ 4 := hN.2.2.2
      refine lv_aload_n hx hb dL_law_138 rfl (lv_at hl 4 rfl) ?_
      refine lv_aload_n hx hb dL_law_139 rfl (lv_at hl 5 rfl) ?_
      refine lv_aload_n hx hb dL_law_140 rfl (lv_at hl 6 rfl) ?_
      refine lv_aload hx hb dL_law_141 (lv_at hl 7 rfl) ?_
      refine lv_aload hx hb dL_law_143 (lv_at hl 8 rfl) ?_
      refine lv_aload_n hx hb dL_law_145 rfl (lv_at hl 3 rfl) ?_
      refine lv_bipush (v := 7) hx hb dL_law_146 (by decide) ?_
      refine lv_iload hx hb dL_law_148 (lv_at hl 0 rfl) ?_
      refine lv_iadd hx hb dL_law_150 ?_
      refine wk_ti (x := (7 + (nI k))) (v := (nI (7 + k))) (nI_add 7 k) ?_
      obtain ⟨x1, ex_x1⟩ : ∃ z : Int32, z = cellF L xs (7 + k) := ⟨_, rfl⟩
      refine rd_goi (va_runS (As := [.ref b, .int (nI (7 + k))]) (rest := [.ref rA0, .ref lA0, .ref wA0, .ref gA0, .ref p70]) S (c_L_cell l b L xs (show L < 2 ^ 31 by omega) (k := (7 + k)) (by omega)) (va_cwS 2 hts gL_law_L_cell rfl rfl rfl hd_L_cell_S ⟨Nat.le_of_ble_eq_true rfl, Nat.le_of_ble_eq_true rfl⟩) ⟨ceP_blind, fun U hU hW => ⟨rfl, by show va_X b L xs U U.heap; rw [hU]; exact va_X.moved hW.alike (hX.kept (hS.2.1 b hbl0 hbA))⟩⟩ rfl rfl hl.1 rfl (lv_room (Nat.le_of_ble_eq_true rfl)) dL_law_151 ⟨(show cq + 0 ≤ 1200172 by omega), (show sq + 0 ≤ 5500668 by omega)⟩) ?_
      refine wk_ti (v := x1) ex_x1.symm ?_
      refine lv_sipush (v := 7919) hx hb dL_law_154 (by decide) ?_
      refine lv_iload hx hb dL_law_157 (lv_at hl 0 rfl) ?_
      refine lv_imul hx hb dL_law_159 ?_
      refine lv_ixor hx hb dL_law_160 ?_
      refine lw_compi (wcs := [(wPCo p70 b7 c7 d7 e7 h7 k7 st), (wSet cy b7 v), (wSav cy q h7 z), (wSet cy (q 0) s0), (wSet cy (q 1) s1), (wSet cy (q 2) s2), (wSet cy (q 3) s3), (wI cy gA0 3 ga), (wI cy wA0 8 wa), (wI cy lA0 8 la), (wI cy rA0 4 ra)]) (wns := fun u8 => [(wPCo p70 b7 c7 d7 e7 h7 k7 u8.1.1), (wSet cy b7 u8.1.2.1), (wSav cy q h7 u8.1.2.2.1), (wSet cy (q 0) u8.1.2.2.2.1), (wSet cy (q 1) u8.1.2.2.2.2.1), (wSet cy (q 2) u8.1.2.2.2.2.2.1), (wSet cy (q 3) u8.1.2.2.2.2.2.2), (wI cy gA0 3 u8.2.1), (wI cy wA0 8 u8.2.2.1), (wI cy lA0 8 u8.2.2.2.1), (wI cy rA0 4 u8.2.2.2.2)]) (W2 := fun u8 => [(wPCo p70 b7 c7 d7 e7 h7 k7 u8.1.1), (wSet cy b7 u8.1.2.1), (wPow cy c7 w), (wSet cy d7 set0), (wPow cy e7 pow0), (wSav cy q h7 u8.1.2.2.1), (wSet cy (q 0) u8.1.2.2.2.1), (wSet cy (q 1) u8.1.2.2.2.2.1), (wSet cy (q 2) u8.1.2.2.2.2.2.1), (wSet cy (q 3) u8.1.2.2.2.2.2.2), (wTxt cy g k7 txt0), (wI cy gA0 3 u8.2.1), (wI cy wA0 8 u8.2.2.1), (wI cy lA0 8 u8.2.2.2.1), (wI cy rA0 4 u8.2.2.2.2)]) (va_runS (As := [.ref p70, .ref gA0, .ref wA0, .ref lA0, .ref rA0, .int (x1 ^^^ (7919 * (nI k)))]) (rest := []) S (c_L_acts l hl0 D cy g s.heap.size p70 b7 c7 d7 e7 h7 k7 q gA0 wA0 lA0 rA0 st v z s0 s1 s2 s3 ga wa la ra (x1 ^^^ (7919 * (nI k))) FF0 hp hrg) (va_cwS 6 hts gL_law_L_acts rfl rfl rfl hd_L_acts_S ⟨Nat.le_of_ble_eq_true rfl, Nat.le_of_ble_eq_true rfl⟩) ⟨lwP_blind, my_preL (wcs := [(wPCo p70 b7 c7 d7 e7 h7 k7 st), (wSet cy b7 v), (wSav cy q h7 z), (wSet cy (q 0) s0), (wSet cy (q 1) s1), (wSet cy (q 2) s2), (wSet cy (q 3) s3), (wI cy gA0 3 ga), (wI cy wA0 8 wa), (wI cy lA0 8 la), (wI cy rA0 4 ra)]) hK0 hNc hS hAB hP hD [0, 1, 5, 6, 7, 8, 9, 11, 12, 13, 14] (by decide) rfl rfl⟩ rfl rfl hl.1 rfl (lv_room (Nat.le_of_ble_eq_true rfl)) dL_law_161 ⟨(show cq + 10 ≤ 1200172 by omega), (show sq + 60 ≤ 5500668 by omega)⟩) hS hP hD [0, 1, 5, 6, 7, 8, 9, 11, 12, 13, 14] rfl rfl (fun _ => rfl) (fun _ => by simp only [List.map_cons, List.map_nil, adrSet, adrSetE, adrPow, adrPowE, adrTxt, adrTxtE, adrSav, adrSavE, adrPCo, adrI, adrL]) (fun _ => rfl) (fun r9 u9 H locs hw hP hD hS => ?_)
      obtain ⟨⟨st8, v8, z8, s08, s18, s28, s38⟩, ga8, wa8, la8, ra8⟩ := u9
      obtain ⟨rfl, sg8, n8, r8, F8, hp8, y08, y88, hrg8⟩ := hw
      have FF0 : soF v8 txt0 ga8 wa8 la8 ra8 sg8 n8 r8 := F8
      have hp : pwr st8 sg8 w := hp8
      have hrg : ring z8 s08 s18 s28 s38 y08 y88 := hrg8
      have hP : va_P D vwCl (List.flatten [(wPCo p70 b7 c7 d7 e7 h7 k7 st8), (wSet cy b7 v8), (wPow cy c7 w), (wSet cy d7 set0), (wPow cy e7 pow0), (wSav cy q h7 z8), (wSet cy (q 0) s08), (wSet cy (q 1) s18), (wSet cy (q 2) s28), (wSet cy (q 3) s38), (wTxt cy g k7 txt0), (wI cy gA0 3 ga8), (wI cy wA0 8 wa8), (wI cy lA0 8 la8), (wI cy rA0 4 ra8)]) H := hP
      have hD : va_D (fun x => s.heap.size ≤ x) (List.flatten [(wPCo p70 b7 c7 d7 e7 h7 k7 st8), (wSet cy b7 v8), (wPow cy c7 w), (wSet cy d7 set0), (wPow cy e7 pow0), (wSav cy q h7 z8), (wSet cy (q 0) s08), (wSet cy (q 1) s18), (wSet cy (q 2) s28), (wSet cy (q 3) s38), (wTxt cy g k7 txt0), (wI cy gA0 3 ga8), (wI cy wA0 8 wa8), (wI cy lA0 8 la8), (wI cy rA0 4 ra8)]) := hD
      refine lv_if_eq (tgt := 184) hx hb dL_law_164 (by decide) (fun h9 => absurd h9 (show ¬ (1 : Int32) = 0 by decide)) (fun _ => ?_)
      refine lv_aload_n hx hb dL_law_167 rfl (lv_at hl 4 rfl) ?_
      refine lv_aload_n hx hb dL_law_168 rfl (lv_at hl 5 rfl) ?_
      refine lv_aload_n hx hb dL_law_169 rfl (lv_at hl 6 rfl) ?_
      refine lv_aload hx hb dL_law_170 (lv_at hl 7 rfl) ?_
      refine lv_aload hx hb dL_law_172 (lv_at hl 8 rfl) ?_
      have hpx := hp
      refine lw_compA (wcs := [(wPCo p70 b7 c7 d7 e7 h7 k7 st8), (wSet cy b7 v8), (wPow cy c7 w), (wTxt cy g k7 txt0), (wI cy gA0 3 ga8), (wI cy wA0 8 wa8), (wI cy lA0 8 la8), (wI cy rA0 4 ra8)]) (wns := fun u8 => [(wPCo p70 b7 c7 d7 e7 h7 k7 u8.1), (wSet cy b7 v8), (wPow cy c7 u8.2), (wTxt cy g k7 txt0), (wI cy gA0 3 ga8), (wI cy wA0 8 wa8), (wI cy lA0 8 la8), (wI cy rA0 4 ra8)]) (W2 := fun u8 => [(wPCo p70 b7 c7 d7 e7 h7 k7 u8.1), (wSet cy b7 v8), (wPow cy c7 u8.2), (wSet cy d7 set0), (wPow cy e7 pow0), (wSav cy q h7 z8), (wSet cy (q 0) s08), (wSet cy (q 1) s18), (wSet cy (q 2) s28), (wSet cy (q 3) s38), (wTxt cy g k7 txt0), (wI cy gA0 3 ga8), (wI cy wA0 8 wa8), (wI cy lA0 8 la8), (wI cy rA0 4 ra8)]) (va_runS (As := [.ref p70, .ref gA0, .ref wA0, .ref lA0, .ref rA0]) (rest := []) S (c_L_isSo l hl0 D cy g s.heap.size H.size p70 b7 c7 d7 e7 h7 k7 gA0 wA0 lA0 rA0 st8 v8 w txt0 ga8 wa8 la8 ra8 hS.1 FF0 hp) (va_cwS 5 hts gL_law_L_isSo rfl rfl rfl hd_L_isSo_S ⟨Nat.le_of_ble_eq_true rfl, Nat.le_of_ble_eq_true rfl⟩) ⟨lzP_blind, my_preZ (wcs := [(wPCo p70 b7 c7 d7 e7 h7 k7 st8), (wSet cy b7 v8), (wPow cy c7 w), (wTxt cy g k7 txt0), (wI cy gA0 3 ga8), (wI cy wA0 8 wa8), (wI cy lA0 8 la8), (wI cy rA0 4 ra8)]) hK0 hNc hS hAB hP hD [0, 1, 2, 10, 11, 12, 13, 14] (by decide) rfl rfl rfl⟩ rfl rfl hl.1 rfl (lv_room (Nat.le_of_ble_eq_true rfl)) dL_law_174 ⟨(show cq + 810 ≤ 1200172 by omega), (show sq + 4960 ≤ 5500668 by omega)⟩) hS hA hP hD [0, 1, 2, 10, 11, 12, 13, 14] rfl rfl (fun _ => rfl) (fun _ => by simp only [List.map_cons, List.map_nil, adrSet, adrSetE, adrPow, adrPowE, adrTxt, adrTxtE, adrSav, adrSavE, adrPCo, adrI, adrL]) (fun _ => rfl) (fun r9 u9 H locs hw hP hD hS => ?_)
      obtain ⟨st9, w9⟩ := u9
      obtain ⟨rfl, hp⟩ := hw
      have hp : pwr st9 sg8 w9 := hp
      have hP : va_P D vwCl (List.flatten [(wPCo p70 b7 c7 d7 e7 h7 k7 st9), (wSet cy b7 v8), (wPow cy c7 w9), (wSet cy d7 set0), (wPow cy e7 pow0), (wSav cy q h7 z8), (wSet cy (q 0) s08), (wSet cy (q 1) s18), (wSet cy (q 2) s28), (wSet cy (q 3) s38), (wTxt cy g k7 txt0), (wI cy gA0 3 ga8), (wI cy wA0 8 wa8), (wI cy lA0 8 la8), (wI cy rA0 4 ra8)]) H := hP
      have hD : va_D (fun x => s.heap.size ≤ x) (List.flatten [(wPCo p70 b7 c7 d7 e7 h7 k7 st9), (wSet cy b7 v8), (wPow cy c7 w9), (wSet cy d7 set0), (wPow cy e7 pow0), (wSav cy q h7 z8), (wSet cy (q 0) s08), (wSet cy (q 1) s18), (wSet cy (q 2) s28), (wSet cy (q 3) s38), (wTxt cy g k7 txt0), (wI cy gA0 3 ga8), (wI cy wA0 8 wa8), (wI cy lA0 8 la8), (wI cy rA0 4 ra8)]) := hD
      refine lv_if_eq (tgt := 184) hx hb dL_law_177 (by decide) (fun h9 => absurd h9 (show ¬ (1 : Int32) = 0 by decide)) (fun _ => ?_)
      refine lv_iconst (v := 1) hx hb dL_law_180 (by decide) ?_
      refine lv_goto (tgt := 185) hx hb dL_law_181 (by decide) ?_
      refine lv_istore (lv' := [(6, .int 1), (8, .int (nI k)), (7, .int (nI T)), (0, .ref b), (1, .ref p70), (2, .ref gA0), (3, .ref wA0), (4, .ref lA0), (5, .ref rA0)]) hx hb dL_law_185 hl (by decide) rfl (fun ls hl => ?_)
      refine lv_iinc (v := (nI (k + 1))) (lv' := [(8, .int (nI (k + 1))), (6, .int 1), (7, .int (nI T)), (0, .ref b), (1, .ref p70), (2, .ref gA0), (3, .ref wA0), (4, .ref lA0), (5, .ref rA0)]) hx hb dL_law_187 hl (k := 1) rfl (nI_1 k) (by decide) rfl (fun ls hl => ?_)
      refine lv_goto (tgt := 126) hx hb dL_law_190 (by decide) ?_
      exact lw_2 C0 hT K fu (k + 1) H locs ls _ _ (by omega) (by omega) (by omega) (by omega) ⟨st9, v8, w9, z8, s08, s18, s28, s38, ga8, wa8, la8, ra8, sg8, n8, r8, y08, y88, FF0, hp, hrg, hP, hD⟩ hS (lv_sub hl [0, 2, 1, 3, 4, 5, 6, 7, 8] rfl)
    · have e : k = T := by omega
      subst e
      refine lv_icmp_ge (tgt := 193) hx hb dL_law_130 (by decide) (fun _ => ?_) (fun h9 => absurd (nI_le (Nat.le_refl _) (by omega)) h9)
      exact K H locs ls cq sq (by omega) (by omega) hI hS (lv_sub hl [0, 1, 2, 3, 4, 5, 6, 7, 8] rfl)
set_option maxHeartbeats 4000000 in
set_option maxRecDepth 100000 in
theorem lw_1 (C : LC p l s m meth c b L xs D cy g) (K : ∀ (H : Heap) (locs : List Loc) (ls : Array Slot) (cq sq : Nat), cq ≤ 1100 → sq ≤ 9200 → LI D cy g p70 b7 c7 d7 e7 h7 k7 q gA0 wA0 lA0 rA0 s.heap.size H → va_S (fun x => s.heap.size ≤ x) s.heap H locs → lv_has ls 9 [(7, .int (nI 6)), (6, .int 1), (0, .ref b), (1, .ref p70), (2, .ref gA0), (3, .ref wA0), (4, .ref lA0), (5, .ref rA0)] → W p l e room_1 s m #[Value.ref b] below meth c H locs cq sq Q (F0 m 108 ls [])) : ∀ (fu k : Nat) (H : Heap) (locs : List Loc) (ls : Array Slot) (cq sq : Nat), 6 - k < fu → k ≤ 6 → cq + 10 * (6 - k) ≤ 1100 → sq + 60 * (6 - k) ≤ 9200 → LI D cy g p70 b7 c7 d7 e7 h7 k7 q gA0 wA0 lA0 rA0 s.heap.size H → va_S (fun x => s.heap.size ≤ x) s.heap H locs → lv_has ls 9 [(7, .int (nI k)), (6, .int 1), (0, .ref b), (1, .ref p70), (2, .ref gA0), (3, .ref wA0), (4, .ref lA0), (5, .ref rA0)] → W p l e room_1 s m #[Value.ref b] below meth c H locs cq sq Q (F0 m 47 ls [])
  | 0, _, _, _, _, _, _ => fun h => absurd h (Nat.not_lt_zero _)
  | fu + 1, k, H, locs, ls, cq, sq => by
    intro hfu hk6 hcq hsq hI hS hl
    have C0 := C
    obtain ⟨hl0, hx, hb, hr, hml, hown, hts, hX, hbl0, hlocks, hK0, hNc, hL⟩ := C
    have hAB : ∀ q, (fun x => s.heap.size ≤ x) q → s.heap.size ≤ q := fun _ h => h
    have hA : ∀ q, s.heap.size ≤ q → (fun x => s.heap.size ≤ x) q := fun _ h => h
    have hbA : ¬ (fun x => s.heap.size ≤ x) b := Nat.not_le.mpr hbl0
    have S := my_fix hx hb hml hown hts
    refine lv_iload hx hb dL_law_47 (lv_at hl 0 rfl) ?_
    refine lv_bipush (v := 6) hx hb dL_law_49 (by decide) ?_
    rcases Nat.lt_or_ge k 6 with hk | hk
    · refine lv_icmp_ge (tgt := 108) hx hb dL_law_51 (by decide) (fun h9 => absurd h9 (nI_ge (b := 6) hk (by decide))) (fun _ => ?_)
      refine lv_iload hx hb dL_law_54 (lv_at hl 1 rfl) ?_
      refine lv_if_eq (tgt := 108) hx hb dL_law_56 (by decide) (fun h9 => absurd h9 (show ¬ (1 : Int32) = 0 by decide)) (fun _ => ?_)
      obtain ⟨st, v, w, z, s0, s1, s2, s3, ga, wa, la, ra, sg, n, r, y0, y8, F, hp, hrg, hP, hD⟩ := hI
      have FF0 := F
      obtain ⟨CHH, hAG, htx, hl8⟩ := F
      have hN := CHH.2.1
      have h8 : n ≤ 8 := hN.2.1
      have hr4 : r ≤ 4 := hN.2.2.2
      refine lv_aload_n hx hb dL_law_59 rfl (lv_at hl 3 rfl) ?_
      refine lv_aload_n hx hb dL_law_60 rfl (lv_at hl 4 rfl) ?_
      refine lv_aload_n hx hb dL_law_61 rfl (lv_at hl 5 rfl) ?_
      refine lv_aload hx hb dL_law_62 (lv_at hl 6 rfl) ?_
      refine lv_aload hx hb dL_law_64 (lv_at hl 7 rfl) ?_
      refine lv_aload_n hx hb dL_law_66 rfl (lv_at hl 2 rfl) ?_
      refine lv_iconst (v := 1) hx hb dL_law_67 (by decide) ?_
      refine lv_iload hx hb dL_law_68 (lv_at hl 0 rfl) ?_
      refine lv_iadd hx hb dL_law_70 ?_
      refine wk_ti (x := (1 + (nI k))) (v := (nI (1 + k))) (nI_add 1 k) ?_
      obtain ⟨x1, ex_x1⟩ : ∃ z : Int32, z = cellF L xs (1 + k) := ⟨_, rfl⟩
      refine rd_goi (va_runS (As := [.ref b, .int (nI (1 + k))]) (rest := [.ref rA0, .ref lA0, .ref wA0, .ref gA0, .ref p70]) S (c_L_cell l b L xs (show L < 2 ^ 31 by omega) (k := (1 + k)) (by omega)) (va_cwS 2 hts gL_law_L_cell rfl rfl rfl hd_L_cell_S ⟨Nat.le_of_ble_eq_true rfl, Nat.le_of_ble_eq_true rfl⟩) ⟨ceP_blind, fun U hU hW => ⟨rfl, by show va_X b L xs U U.heap; rw [hU]; exact va_X.moved hW.alike (hX.kept (hS.2.1 b hbl0 hbA))⟩⟩ rfl rfl hl.1 rfl (lv_room (Nat.le_of_ble_eq_true rfl)) dL_law_71 ⟨(show cq + 0 ≤ 1200172 by omega), (show sq + 0 ≤ 5500668 by omega)⟩) ?_
      refine wk_ti (v := x1) ex_x1.symm ?_
      refine lv_ldc hx hb hown (hts (.constant RL 8 (2147483647)) (by decide +kernel)) dL_law_74 ?_
      refine lv_iand hx hb dL_law_76 ?_
      refine lv_sipush (v := 640) hx hb dL_law_77 (by decide) ?_
      refine lv_idiv hx hb dL_law_80 (by decide) ?_
      refine lv_sipush (v := 640) hx hb dL_law_81 (by decide) ?_
      refine lv_imul hx hb dL_law_84 ?_
      refine lv_iload hx hb dL_law_85 (lv_at hl 0 rfl) ?_
      refine lv_iconst (v := 5) hx hb dL_law_87 (by decide) ?_
      rcases Nat.lt_or_ge k 5 with hk5 | hk5
      · refine lv_icmp_ge (tgt := 95) hx hb dL_law_88 (by decide) (fun h9 => absurd h9 (nI_ge (b := 5) hk5 (by decide))) (fun _ => ?_)
        refine lv_iconst (v := 0) hx hb dL_law_91 (by decide) ?_
        refine lv_goto (tgt := 96) hx hb dL_law_92 (by decide) ?_
        refine lv_iadd hx hb dL_law_96 ?_
        refine lw_compi (wcs := [(wPCo p70 b7 c7 d7 e7 h7 k7 st), (wSet cy b7 v), (wSav cy q h7 z), (wSet cy (q 0) s0), (wSet cy (q 1) s1), (wSet cy (q 2) s2), (wSet cy (q 3) s3), (wI cy gA0 3 ga), (wI cy wA0 8 wa), (wI cy lA0 8 la), (wI cy rA0 4 ra)]) (wns := fun u8 => [(wPCo p70 b7 c7 d7 e7 h7 k7 u8.1.1), (wSet cy b7 u8.1.2.1), (wSav cy q h7 u8.1.2.2.1), (wSet cy (q 0) u8.1.2.2.2.1), (wSet cy (q 1) u8.1.2.2.2.2.1), (wSet cy (q 2) u8.1.2.2.2.2.2.1), (wSet cy (q 3) u8.1.2.2.2.2.2.2), (wI cy gA0 3 u8.2.1), (wI cy wA0 8 u8.2.2.1), (wI cy lA0 8 u8.2.2.2.1), (wI cy rA0 4 u8.2.2.2.2)]) (W2 := fun u8 => [(wPCo p70 b7 c7 d7 e7 h7 k7 u8.1.1), (wSet cy b7 u8.1.2.1), (wPow cy c7 w), (wSet cy d7 set0), (wPow cy e7 pow0), (wSav cy q h7 u8.1.2.2.1), (wSet cy (q 0) u8.1.2.2.2.1), (wSet cy (q 1) u8.1.2.2.2.2.1), (wSet cy (q 2) u8.1.2.2.2.2.2.1), (wSet cy (q 3) u8.1.2.2.2.2.2.2), (wTxt cy g k7 txt0), (wI cy gA0 3 u8.2.1), (wI cy wA0 8 u8.2.2.1), (wI cy lA0 8 u8.2.2.2.1), (wI cy rA0 4 u8.2.2.2.2)]) (va_runS (As := [.ref p70, .ref gA0, .ref wA0, .ref lA0, .ref rA0, .int ((((x1 &&& 2147483647) / 640) * 640) + 0)]) (rest := []) S (c_L_acts l hl0 D cy g s.heap.size p70 b7 c7 d7 e7 h7 k7 q gA0 wA0 lA0 rA0 st v z s0 s1 s2 s3 ga wa la ra ((((x1 &&& 2147483647) / 640) * 640) + 0) FF0 hp hrg) (va_cwS 6 hts gL_law_L_acts rfl rfl rfl hd_L_acts_S ⟨Nat.le_of_ble_eq_true rfl, Nat.le_of_ble_eq_true rfl⟩) ⟨lwP_blind, my_preL (wcs := [(wPCo p70 b7 c7 d7 e7 h7 k7 st), (wSet cy b7 v), (wSav cy q h7 z), (wSet cy (q 0) s0), (wSet cy (q 1) s1), (wSet cy (q 2) s2), (wSet cy (q 3) s3), (wI cy gA0 3 ga), (wI cy wA0 8 wa), (wI cy lA0 8 la), (wI cy rA0 4 ra)]) hK0 hNc hS hAB hP hD [0, 1, 5, 6, 7, 8, 9, 11, 12, 13, 14] (by decide) rfl rfl⟩ rfl rfl hl.1 rfl (lv_room (Nat.le_of_ble_eq_true rfl)) dL_law_97 ⟨(show cq + 10 ≤ 1200172 by omega), (show sq + 60 ≤ 5500668 by omega)⟩) hS hP hD [0, 1, 5, 6, 7, 8, 9, 11, 12, 13, 14] rfl rfl (fun _ => rfl) (fun _ => by simp only [List.map_cons, List.map_nil, adrSet, adrSetE, adrPow, adrPowE, adrTxt, adrTxtE, adrSav, adrSavE, adrPCo, adrI, adrL]) (fun _ => rfl) (fun r9 u9 H locs hw hP hD hS => ?_)
        obtain ⟨⟨st8, v8, z8, s08, s18, s28, s38⟩, ga8, wa8, la8, ra8⟩ := u9
        obtain ⟨rfl, sg8, n8, r8, F8, hp8, y08, y88, hrg8⟩ := hw
        have FF0 : soF v8 txt0 ga8 wa8 la8 ra8 sg8 n8 r8 := F8
        have hp : pwr st8 sg8 w := hp8
        have hrg : ring z8 s08 s18 s28 s38 y08 y88 := hrg8
        have hP : va_P D vwCl (List.flatten [(wPCo p70 b7 c7 d7 e7 h7 k7 st8), (wSet cy b7 v8), (wPow cy c7 w), (wSet cy d7 set0), (wPow cy e7 pow0), (wSav cy q h7 z8), (wSet cy (q 0) s08), (wSet cy (q 1) s18), (wSet cy (q 2) s28), (wSet cy (q 3) s38), (wTxt cy g k7 txt0), (wI cy gA0 3 ga8), (wI cy wA0 8 wa8), (wI cy lA0 8 la8), (wI cy rA0 4 ra8)]) H := hP
        have hD : va_D (fun x => s.heap.size ≤ x) (List.flatten [(wPCo p70 b7 c7 d7 e7 h7 k7 st8), (wSet cy b7 v8), (wPow cy c7 w), (wSet cy d7 set0), (wPow cy e7 pow0), (wSav cy q h7 z8), (wSet cy (q 0) s08), (wSet cy (q 1) s18), (wSet cy (q 2) s28), (wSet cy (q 3) s38), (wTxt cy g k7 txt0), (wI cy gA0 3 ga8), (wI cy wA0 8 wa8), (wI cy lA0 8 la8), (wI cy rA0 4 ra8)]) := hD
        refine lv_istore (lv' := [(6, .int 1), (7, .int (nI k)), (0, .ref b), (1, .ref p70), (2, .ref gA0), (3, .ref wA0), (4, .ref lA0), (5, .ref rA0)]) hx hb dL_law_100 hl (by decide) rfl (fun ls hl => ?_)
        refine lv_iinc (v := (nI (k + 1))) (lv' := [(7, .int (nI (k + 1))), (6, .int 1), (0, .ref b), (1, .ref p70), (2, .ref gA0), (3, .ref wA0), (4, .ref lA0), (5, .ref rA0)]) hx hb dL_law_102 hl (k := 1) rfl (nI_1 k) (by decide) rfl (fun ls hl => ?_)
        refine lv_goto (tgt := 47) hx hb dL_law_105 (by decide) ?_
        exact lw_1 C0 K fu (k + 1) H locs ls _ _ (by omega) (by omega) (by omega) (by omega) ⟨st8, v8, w, z8, s08, s18, s28, s38, ga8, wa8, la8, ra8, sg8, n8, r8, y08, y88, FF0, hp, hrg, hP, hD⟩ hS (lv_sub hl [0, 1, 2, 3, 4, 5, 6, 7] rfl)
      · refine lv_icmp_ge (tgt := 95) hx hb dL_law_88 (by decide) (fun _ => ?_) (fun h9 => absurd (nI_le (a := 5) hk5 (by omega)) h9)
        refine lv_iconst (v := 5) hx hb dL_law_95 (by decide) ?_
        refine lv_iadd hx hb dL_law_96 ?_
        refine lw_compi (wcs := [(wPCo p70 b7 c7 d7 e7 h7 k7 st), (wSet cy b7 v), (wSav cy q h7 z), (wSet cy (q 0) s0), (wSet cy (q 1) s1), (wSet cy (q 2) s2), (wSet cy (q 3) s3), (wI cy gA0 3 ga), (wI cy wA0 8 wa), (wI cy lA0 8 la), (wI cy rA0 4 ra)]) (wns := fun u8 => [(wPCo p70 b7 c7 d7 e7 h7 k7 u8.1.1), (wSet cy b7 u8.1.2.1), (wSav cy q h7 u8.1.2.2.1), (wSet cy (q 0) u8.1.2.2.2.1), (wSet cy (q 1) u8.1.2.2.2.2.1), (wSet cy (q 2) u8.1.2.2.2.2.2.1), (wSet cy (q 3) u8.1.2.2.2.2.2.2), (wI cy gA0 3 u8.2.1), (wI cy wA0 8 u8.2.2.1), (wI cy lA0 8 u8.2.2.2.1), (wI cy rA0 4 u8.2.2.2.2)]) (W2 := fun u8 => [(wPCo p70 b7 c7 d7 e7 h7 k7 u8.1.1), (wSet cy b7 u8.1.2.1), (wPow cy c7 w), (wSet cy d7 set0), (wPow cy e7 pow0), (wSav cy q h7 u8.1.2.2.1), (wSet cy (q 0) u8.1.2.2.2.1), (wSet cy (q 1) u8.1.2.2.2.2.1), (wSet cy (q 2) u8.1.2.2.2.2.2.1), (wSet cy (q 3) u8.1.2.2.2.2.2.2), (wTxt cy g k7 txt0), (wI cy gA0 3 u8.2.1), (wI cy wA0 8 u8.2.2.1), (wI cy lA0 8 u8.2.2.2.1), (wI cy rA0 4 u8.2.2.2.2)]) (va_runS (As := [.ref p70, .ref gA0, .ref wA0, .ref lA0, .ref rA0, .int ((((x1 &&& 2147483647) / 640) * 640) + 5)]) (rest := []) S (c_L_acts l hl0 D cy g s.heap.size p70 b7 c7 d7 e7 h7 k7 q gA0 wA0 lA0 rA0 st v z s0 s1 s2 s3 ga wa la ra ((((x1 &&& 2147483647) / 640) * 640) + 5) FF0 hp hrg) (va_cwS 6 hts gL_law_L_acts rfl rfl rfl hd_L_acts_S ⟨Nat.le_of_ble_eq_true rfl, Nat.le_of_ble_eq_true rfl⟩) ⟨lwP_blind, my_preL (wcs := [(wPCo p70 b7 c7 d7 e7 h7 k7 st), (wSet cy b7 v), (wSav cy q h7 z), (wSet cy (q 0) s0), (wSet cy (q 1) s1), (wSet cy (q 2) s2), (wSet cy (q 3) s3), (wI cy gA0 3 ga), (wI cy wA0 8 wa), (wI cy lA0 8 la), (wI cy rA0 4 ra)]) hK0 hNc hS hAB hP hD [0, 1, 5, 6, 7, 8, 9, 11, 12, 13, 14] (by decide) rfl rfl⟩ rfl rfl hl.1 rfl (lv_room (Nat.le_of_ble_eq_true rfl)) dL_law_97 ⟨(show cq + 10 ≤ 1200172 by omega), (show sq + 60 ≤ 5500668 by omega)⟩) hS hP hD [0, 1, 5, 6, 7, 8, 9, 11, 12, 13, 14] rfl rfl (fun _ => rfl) (fun _ => by simp only [List.map_cons, List.map_nil, adrSet, adrSetE, adrPow, adrPowE, adrTxt, adrTxtE, adrSav, adrSavE, adrPCo, adrI, adrL]) (fun _ => rfl) (fun r9 u9 H locs hw hP hD hS => ?_)
        obtain ⟨⟨st8, v8, z8, s08, s18, s28, s38⟩, ga8, wa8, la8, ra8⟩ := u9
        obtain ⟨rfl, sg8, n8, r8, F8, hp8, y08, y88, hrg8⟩ := hw
        have FF0 : soF v8 txt0 ga8 wa8 la8 ra8 sg8 n8 r8 := F8
        have hp : pwr st8 sg8 w := hp8
        have hrg : ring z8 s08 s18 s28 s38 y08 y88 := hrg8
        have hP : va_P D vwCl (List.flatten [(wPCo p70 b7 c7 d7 e7 h7 k7 st8), (wSet cy b7 v8), (wPow cy c7 w), (wSet cy d7 set0), (wPow cy e7 pow0), (wSav cy q h7 z8), (wSet cy (q 0) s08), (wSet cy (q 1) s18), (wSet cy (q 2) s28), (wSet cy (q 3) s38), (wTxt cy g k7 txt0), (wI cy gA0 3 ga8), (wI cy wA0 8 wa8), (wI cy lA0 8 la8), (wI cy rA0 4 ra8)]) H := hP
        have hD : va_D (fun x => s.heap.size ≤ x) (List.flatten [(wPCo p70 b7 c7 d7 e7 h7 k7 st8), (wSet cy b7 v8), (wPow cy c7 w), (wSet cy d7 set0), (wPow cy e7 pow0), (wSav cy q h7 z8), (wSet cy (q 0) s08), (wSet cy (q 1) s18), (wSet cy (q 2) s28), (wSet cy (q 3) s38), (wTxt cy g k7 txt0), (wI cy gA0 3 ga8), (wI cy wA0 8 wa8), (wI cy lA0 8 la8), (wI cy rA0 4 ra8)]) := hD
        refine lv_istore (lv' := [(6, .int 1), (7, .int (nI k)), (0, .ref b), (1, .ref p70), (2, .ref gA0), (3, .ref wA0), (4, .ref lA0), (5, .ref rA0)]) hx hb dL_law_100 hl (by decide) rfl (fun ls hl => ?_)
        refine lv_iinc (v := (nI (k + 1))) (lv' := [(7, .int (nI (k + 1))), (6, .int 1), (0, .ref b), (1, .ref p70), (2, .ref gA0), (3, .ref wA0), (4, .ref lA0), (5, .ref rA0)]) hx hb dL_law_102 hl (k := 1) rfl (nI_1 k) (by decide) rfl (fun ls hl => ?_)
        refine lv_goto (tgt := 47) hx hb dL_law_105 (by decide) ?_
        exact lw_1 C0 K fu (k + 1) H locs ls _ _ (by omega) (by omega) (by omega) (by omega) ⟨st8, v8, w, z8, s08, s18, s28, s38, ga8, wa8, la8, ra8, sg8, n8, r8, y08, y88, FF0, hp, hrg, hP, hD⟩ hS (lv_sub hl [0, 1, 2, 3, 4, 5, 6, 7] rfl)
    · have e : k = 6 := by omega
      subst e
      refine lv_icmp_ge (tgt := 108) hx hb dL_law_51 (by decide) (fun _ => ?_) (fun h9 => absurd (nI_le (b := 6) (Nat.le_refl _) (by decide)) h9)
      exact K H locs ls cq sq (by omega) (by omega) hI hS (lv_sub hl [0, 1, 2, 3, 4, 5, 6, 7] rfl)
set_option maxHeartbeats 4000000 in
set_option maxRecDepth 100000 in
theorem lw_all (C : LC p l s m meth c b L xs D cy g) (K : ∀ (H : Heap) (locs : List Loc) (ls : Array Slot) (cq sq : Nat), cq ≤ 60000 → sq ≤ 300000 → va_S (fun x => s.heap.size ≤ x) s.heap H locs → W p l e room_1 s m #[Value.ref b] below meth c H locs cq sq Q (F0 m 298 ls [.int 1])) {H : Heap} {locs : List Loc} {ls : Array Slot} {cq sq : Nat} (hcq : cq ≤ 950) (hsq : sq ≤ 8700) (hI : LI D cy g p70 b7 c7 d7 e7 h7 k7 q gA0 wA0 lA0 rA0 s.heap.size H) (hS : va_S (fun x => s.heap.size ≤ x) s.heap H locs) (hl : lv_has ls 9 [(6, .int 1), (0, .ref b), (1, .ref p70), (2, .ref gA0), (3, .ref wA0), (4, .ref lA0), (5, .ref rA0)]) : W p l e room_1 s m #[Value.ref b] below meth c H locs cq sq Q (F0 m 44 ls []) := by
  have C0 := C
  obtain ⟨hl0, hx, hb, hr, hml, hown, hts, hX, hbl0, hlocks, hK0, hNc, hL⟩ := C
  have hAB : ∀ q, (fun x => s.heap.size ≤ x) q → s.heap.size ≤ q := fun _ h => h
  have hA : ∀ q, s.heap.size ≤ q → (fun x => s.heap.size ≤ x) q := fun _ h => h
  have hbA : ¬ (fun x => s.heap.size ≤ x) b := Nat.not_le.mpr hbl0
  have S := my_fix hx hb hml hown hts
  refine lv_iconst (v := 0) hx hb dL_law_44 (by decide) ?_
  refine lv_istore (lv' := [(7, .int 0), (6, .int 1), (0, .ref b), (1, .ref p70), (2, .ref gA0), (3, .ref wA0), (4, .ref lA0), (5, .ref rA0)]) hx hb dL_law_45 hl (by decide) rfl (fun ls hl => ?_)
  refine lw_1 C0 (fun H locs ls cq sq hcq hsq hI hS hl => ?_) 7 0 H locs ls cq sq (by decide) (by decide) (by omega) (by omega) hI hS (lv_sub hl [0, 1, 2, 3, 4, 5, 6, 7] rfl)
  refine lv_bipush (v := 6) hx hb dL_law_108 (by decide) ?_
  refine lv_aload_n hx hb dL_law_110 rfl (lv_at hl 2 rfl) ?_
  refine lv_iconst (v := 0) hx hb dL_law_111 (by decide) ?_
  obtain ⟨x0, ex_x0⟩ : ∃ z : Int32, z = cellF L xs 0 := ⟨_, rfl⟩
  refine rd_goi (va_runS (As := [.ref b, .int 0]) (rest := [.int 6]) S (c_L_cell l b L xs (show L < 2 ^ 31 by omega) (k := 0) (by omega)) (va_cwS 2 hts gL_law_L_cell rfl rfl rfl hd_L_cell_S ⟨Nat.le_of_ble_eq_true rfl, Nat.le_of_ble_eq_true rfl⟩) ⟨ceP_blind, fun U hU hW => ⟨rfl, by show va_X b L xs U U.heap; rw [hU]; exact va_X.moved hW.alike (hX.kept (hS.2.1 b hbl0 hbA))⟩⟩ rfl rfl hl.1 rfl (lv_room (Nat.le_of_ble_eq_true rfl)) dL_law_112 ⟨(show cq + 0 ≤ 1200172 by omega), (show sq + 0 ≤ 5500668 by omega)⟩) ?_
  refine wk_ti (v := x0) ex_x0.symm ?_
  refine lv_bipush (v := 40) hx hb dL_law_115 (by decide) ?_
  have hP : va_P D vwCl [] H := fun k q h => by simp at h
  obtain ⟨T0, hT0, eT⟩ := low_nI x0 (d := 40) (by decide) (by decide)
  refine rd_goi (va_runS (As := [.int x0, .int 40]) (rest := [.int 6]) S (c_L_low l D cy g s.heap.size _ _ (by decide)) (va_cwS 2 hts gL_law_L_low rfl rfl rfl hd_L_low_S ⟨Nat.le_of_ble_eq_true rfl, Nat.le_of_ble_eq_true rfl⟩) ⟨rdP_blind, my_preV hK0 hS hAB hP [] rfl⟩ rfl rfl hl.1 rfl (lv_room (Nat.le_of_ble_eq_true rfl)) dL_law_117 ⟨(show cq + 0 ≤ 1200172 by omega), (show sq + 0 ≤ 5500668 by omega)⟩) ?_
  refine wk_ti (v := (nI T0)) eT ?_
  refine lv_iadd hx hb dL_law_120 ?_
  refine wk_ti (x := (6 + (nI T0))) (v := (nI (6 + T0))) (nI_add 6 T0) ?_
  refine lv_istore (lv' := [(7, .int (nI (6 + T0))), (6, .int 1), (0, .ref b), (1, .ref p70), (2, .ref gA0), (3, .ref wA0), (4, .ref lA0), (5, .ref rA0)]) hx hb dL_law_121 hl (by decide) rfl (fun ls hl => ?_)
  refine lv_iconst (v := 0) hx hb dL_law_123 (by decide) ?_
  refine lv_istore (lv' := [(8, .int 0), (7, .int (nI (6 + T0))), (6, .int 1), (0, .ref b), (1, .ref p70), (2, .ref gA0), (3, .ref wA0), (4, .ref lA0), (5, .ref rA0)]) hx hb dL_law_124 hl (by decide) rfl (fun ls hl => ?_)
  refine lw_2 C0 (T := 6 + T0) (by omega) (fun H locs ls cq sq hcq hsq hI hS hl => ?_) (7 + T0) 0 H locs ls cq sq (by omega) (Nat.zero_le _) (by omega) (by omega) hI hS (lv_sub hl [0, 1, 2, 3, 4, 5, 6, 7, 8] rfl)
  exact lw_fin C0 K (by omega) (by omega) hI hS (lv_sub hl [2, 3, 4, 5, 6, 7, 8] rfl)
end LOOP
