/-! part 93: isSo: rules, the sum of all orders, the whole -/
section ISO
variable {p : Program} {l : Launch} {e : Env} {s : State} {m : MethodId} {args : Array Value} {below : List Frame} {meth : Method} {c : Code} {Q : State → Prop} {D : va_G} {cy : Nat → ClassId} {g : Nat → Nat} {B : Nat} {A : Nat → Prop}
variable {p70 : Nat} {b7 c7 d7 e7 h7 k7 : Nat → Nat} {gA0 wA0 lA0 rA0 tA0 : Nat} {v : SetV} {tx : TxtV} {ga wa la ra sg : Nat → Int32} {n r : Nat}
set_option maxHeartbeats 4000000 in
set_option maxRecDepth 100000 in
theorem so_rule3 (C : soC p l s m meth c args D cy g B A) (F : soF v tx ga wa la ra sg n r) {i kk cc : Nat} {st : Int32} {w : PowV} {cq sq : Nat} {H : Heap} {locs : List Loc} {ls : Array Slot} (hir : i < r) (hcq : cq ≤ 700) (hsq : sq ≤ 4500) (hk9 : sg (19 + i) = nI kk) (hc9 : sg (23 + i) = nI cc) (hkc : (kk = 0 ∧ 1 ≤ cc ∧ cc ≤ 8) ∨ (kk = 1 ∧ cc ≤ 7) ∨ (kk = 2 ∧ 1 ≤ cc ∧ cc ≤ 255)) (hp : pwr st sg w) (hP : va_P D vwCl (List.flatten [(wPCo p70 b7 c7 d7 e7 h7 k7 st), (wSet cy b7 v), (wPow cy c7 w), (wTxt cy g k7 tx), (wI cy gA0 3 ga), (wI cy wA0 8 wa), (wI cy lA0 8 la), (wI cy rA0 4 ra), (wL cy tA0 4 (tabF (wS sg n) 256))]) H) (hD : va_D A (List.flatten [(wPCo p70 b7 c7 d7 e7 h7 k7 st), (wSet cy b7 v), (wPow cy c7 w), (wTxt cy g k7 tx), (wI cy gA0 3 ga), (wI cy wA0 8 wa), (wI cy lA0 8 la), (wI cy rA0 4 ra), (wL cy tA0 4 (tabF (wS sg n) 256))])) (hS : va_S A s.heap H locs) (hl : lv_has ls 24 [(19, .int (bI (rhB n kk cc))), (17, .int (nI kk)), (18, .int (nI cc)), (16, .int (nI i)), (15, .int (nI (cN (fun a => decide (sg (19 + a) = sg 19)) (i + 1)))), (14, .int 1), (8, .int (nI (wsN sg n))), (9, .int (nI (duN sg n n))), (10, .int (nI (neN sg n n))), (11, .int (orK sg n n)), (12, .int (nI (cN (wS sg n) 256))), (13, .int (nI (cN (leB (wS sg n)) 256))), (0, .ref p70), (1, .ref gA0), (2, .ref wA0), (3, .ref lA0), (4, .ref rA0), (5, .ref tA0), (6, .int (nI (plN sg n))), (7, .int (allF (wS sg n) 256))])
    (K : ∀ (st : Int32) (w : PowV) (cq1 sq1 : Nat) (H : Heap) (locs : List Loc) (ls : Array Slot), cq1 ≤ cq + 6 → sq1 ≤ sq + 36 → pwr st sg w → va_P D vwCl (List.flatten [(wPCo p70 b7 c7 d7 e7 h7 k7 st), (wSet cy b7 v), (wPow cy c7 w), (wTxt cy g k7 tx), (wI cy gA0 3 ga), (wI cy wA0 8 wa), (wI cy lA0 8 la), (wI cy rA0 4 ra), (wL cy tA0 4 (tabF (wS sg n) 256))]) H → va_D A (List.flatten [(wPCo p70 b7 c7 d7 e7 h7 k7 st), (wSet cy b7 v), (wPow cy c7 w), (wTxt cy g k7 tx), (wI cy gA0 3 ga), (wI cy wA0 8 wa), (wI cy lA0 8 la), (wI cy rA0 4 ra), (wL cy tA0 4 (tabF (wS sg n) 256))]) → va_S A s.heap H locs → lv_has ls 24 [(16, .int (nI (i + 1))), (15, .int (nI (cN (fun a => decide (sg (19 + a) = sg 19)) (i + 1)))), (14, .int 1), (8, .int (nI (wsN sg n))), (9, .int (nI (duN sg n n))), (10, .int (nI (neN sg n n))), (11, .int (orK sg n n)), (12, .int (nI (cN (wS sg n) 256))), (13, .int (nI (cN (leB (wS sg n)) 256))), (0, .ref p70), (1, .ref gA0), (2, .ref wA0), (3, .ref lA0), (4, .ref rA0), (5, .ref tA0), (6, .int (nI (plN sg n))), (7, .int (allF (wS sg n) 256))] → W p l e isoR s m args below meth c H locs cq1 sq1 Q (F0 m 740 ls [])) : W p l e isoR s m args below meth c H locs cq sq Q (F0 m 861 ls []) := by
  obtain ⟨hl0, hx, hb, hr9, hml, hown, hts, hlk, hK0, hNc, hAB, hA⟩ := C
  obtain ⟨CHH, hAG, htx, hl8⟩ := F
  have hV := CHH.1
  have hN := CHH.2.1
  have hL := CHH.2.2.1
  have hW := CHH.2.2.2.1
  have hR := CHH.2.2.2.2.1
  have h8 : n ≤ 8 := hN.2.1
  have hr4 : r ≤ 4 := hN.2.2.2
  have hp256 := plN_lt (s := sg) h8
  have S := my_fix hx hb hml hown hts
  have hT : ∀ j, j < 256 → f_L_at (tabF (wS sg n) 256) (nI j) = bI (wS sg n j) := fun j hj => at_tab _ hj
  refine lv_aload_n hx hb dL_isSo_861 rfl (lv_at hl 12 rfl) ?_
  refine lv_iload hx hb dL_isSo_862 (lv_at hl 3 rfl) ?_
  refine lv_iconst (v := 0) hx hb dL_isSo_864 (by decide) ?_
  have he0 := A_rule (st := st) CHH hir (t := 0) (by decide)
  rw [show f_X8_ruleOf sg (nI i) (nI 0) = (nI kk) from ((ru0 hir hr4).trans hk9)] at he0
  refine lw_compi (wcs := [(wPCo p70 b7 c7 d7 e7 h7 k7 st), (wSet cy b7 v)]) (wns := fun u8 => [(wPCo p70 b7 c7 d7 e7 h7 k7 u8), (wSet cy b7 v)]) (W2 := fun u8 => [(wPCo p70 b7 c7 d7 e7 h7 k7 u8), (wSet cy b7 v), (wPow cy c7 w), (wTxt cy g k7 tx), (wI cy gA0 3 ga), (wI cy wA0 8 wa), (wI cy lA0 8 la), (wI cy rA0 4 ra), (wL cy tA0 4 (tabF (wS sg n) 256))]) (vx_runSW (As := [.ref p70, .int (nI i), .int 0]) (rest := []) S (c_L_ruleOf l hl0 D cy g B p70 b7 c7 d7 e7 h7 k7 st v (nI i) 0 (fun k h => k_rule h)) (vx_cwSW 3 hts gL_isSo_L_ruleOf rfl rfl rfl hd_L_ruleOf_S ⟨Nat.le_of_ble_eq_true rfl, Nat.le_of_ble_eq_true rfl⟩) ⟨lwP_blind, my_preL (wcs := [(wPCo p70 b7 c7 d7 e7 h7 k7 st), (wSet cy b7 v)]) hK0 hNc hS hAB hP hD [0, 1] (by decide) rfl rfl⟩ rfl rfl hl.1 rfl (lv_room (Nat.le_of_ble_eq_true rfl)) dL_isSo_865 ⟨(show cq + 2 ≤ 800 by omega), (show sq + 12 ≤ 4900 by omega)⟩) hS hP hD [0, 1] rfl rfl (fun _ => rfl) (fun _ => by simp only [List.map_cons, List.map_nil, adrSet, adrSetE, adrPow, adrPowE, adrTxt, adrTxtE, adrSav, adrSavE, adrPCo, adrI, adrL]) (fun _ => rfl) (fun r9 u9 H locs hw hP hD hS => ?_)
  obtain ⟨rfl, rfl⟩ := Prod.mk.inj (he0.symm.trans hw)
  have hP : va_P D vwCl (List.flatten [(wPCo p70 b7 c7 d7 e7 h7 k7 st), (wSet cy b7 v), (wPow cy c7 w), (wTxt cy g k7 tx), (wI cy gA0 3 ga), (wI cy wA0 8 wa), (wI cy lA0 8 la), (wI cy rA0 4 ra), (wL cy tA0 4 (tabF (wS sg n) 256))]) H := hP
  have hD : va_D A (List.flatten [(wPCo p70 b7 c7 d7 e7 h7 k7 st), (wSet cy b7 v), (wPow cy c7 w), (wTxt cy g k7 tx), (wI cy gA0 3 ga), (wI cy wA0 8 wa), (wI cy lA0 8 la), (wI cy rA0 4 ra), (wL cy tA0 4 (tabF (wS sg n) 256))]) := hD
  refine lv_iload hx hb dL_isSo_868 (lv_at hl 1 rfl) ?_
  refine lv_icmp_ne (tgt := 909) hx hb dL_isSo_870 (by decide) (fun h9 => absurd rfl h9) (fun _ => ?_)
  refine lv_aload_n hx hb dL_isSo_873 rfl (lv_at hl 12 rfl) ?_
  refine lv_iload hx hb dL_isSo_874 (lv_at hl 3 rfl) ?_
  refine lv_iconst (v := 1) hx hb dL_isSo_876 (by decide) ?_
  have he1 := A_rule (st := st) CHH hir (t := 1) (by decide)
  rw [show f_X8_ruleOf sg (nI i) (nI 1) = (nI cc) from ((ru1 hir hr4).trans hc9)] at he1
  refine lw_compi (wcs := [(wPCo p70 b7 c7 d7 e7 h7 k7 st), (wSet cy b7 v)]) (wns := fun u8 => [(wPCo p70 b7 c7 d7 e7 h7 k7 u8), (wSet cy b7 v)]) (W2 := fun u8 => [(wPCo p70 b7 c7 d7 e7 h7 k7 u8), (wSet cy b7 v), (wPow cy c7 w), (wTxt cy g k7 tx), (wI cy gA0 3 ga), (wI cy wA0 8 wa), (wI cy lA0 8 la), (wI cy rA0 4 ra), (wL cy tA0 4 (tabF (wS sg n) 256))]) (vx_runSW (As := [.ref p70, .int (nI i), .int 1]) (rest := []) S (c_L_ruleOf l hl0 D cy g B p70 b7 c7 d7 e7 h7 k7 st v (nI i) 1 (fun k h => k_rule h)) (vx_cwSW 3 hts gL_isSo_L_ruleOf rfl rfl rfl hd_L_ruleOf_S ⟨Nat.le_of_ble_eq_true rfl, Nat.le_of_ble_eq_true rfl⟩) ⟨lwP_blind, my_preL (wcs := [(wPCo p70 b7 c7 d7 e7 h7 k7 st), (wSet cy b7 v)]) hK0 hNc hS hAB hP hD [0, 1] (by decide) rfl rfl⟩ rfl rfl hl.1 rfl (lv_room (Nat.le_of_ble_eq_true rfl)) dL_isSo_877 ⟨(show cq + 4 ≤ 800 by omega), (show sq + 24 ≤ 4900 by omega)⟩) hS hP hD [0, 1] rfl rfl (fun _ => rfl) (fun _ => by simp only [List.map_cons, List.map_nil, adrSet, adrSetE, adrPow, adrPowE, adrTxt, adrTxtE, adrSav, adrSavE, adrPCo, adrI, adrL]) (fun _ => rfl) (fun r9 u9 H locs hw hP hD hS => ?_)
  obtain ⟨rfl, rfl⟩ := Prod.mk.inj (he1.symm.trans hw)
  have hP : va_P D vwCl (List.flatten [(wPCo p70 b7 c7 d7 e7 h7 k7 st), (wSet cy b7 v), (wPow cy c7 w), (wTxt cy g k7 tx), (wI cy gA0 3 ga), (wI cy wA0 8 wa), (wI cy lA0 8 la), (wI cy rA0 4 ra), (wL cy tA0 4 (tabF (wS sg n) 256))]) H := hP
  have hD : va_D A (List.flatten [(wPCo p70 b7 c7 d7 e7 h7 k7 st), (wSet cy b7 v), (wPow cy c7 w), (wTxt cy g k7 tx), (wI cy gA0 3 ga), (wI cy wA0 8 wa), (wI cy lA0 8 la), (wI cy rA0 4 ra), (wL cy tA0 4 (tabF (wS sg n) 256))]) := hD
  refine lv_iload hx hb dL_isSo_880 (lv_at hl 2 rfl) ?_
  refine lv_icmp_ne (tgt := 909) hx hb dL_isSo_882 (by decide) (fun h9 => absurd rfl h9) (fun _ => ?_)
  refine lv_aload_n hx hb dL_isSo_885 rfl (lv_at hl 12 rfl) ?_
  refine lv_iload hx hb dL_isSo_886 (lv_at hl 3 rfl) ?_
  refine lv_iconst (v := 2) hx hb dL_isSo_888 (by decide) ?_
  have he2 := A_rule (st := st) CHH hir (t := 2) (by decide)
  rw [show f_X8_ruleOf sg (nI i) (nI 2) = (bI (rhB n kk cc)) from (ru2 hN hir hk9 hc9 hkc)] at he2
  refine lw_compi (wcs := [(wPCo p70 b7 c7 d7 e7 h7 k7 st), (wSet cy b7 v)]) (wns := fun u8 => [(wPCo p70 b7 c7 d7 e7 h7 k7 u8), (wSet cy b7 v)]) (W2 := fun u8 => [(wPCo p70 b7 c7 d7 e7 h7 k7 u8), (wSet cy b7 v), (wPow cy c7 w), (wTxt cy g k7 tx), (wI cy gA0 3 ga), (wI cy wA0 8 wa), (wI cy lA0 8 la), (wI cy rA0 4 ra), (wL cy tA0 4 (tabF (wS sg n) 256))]) (vx_runSW (As := [.ref p70, .int (nI i), .int 2]) (rest := []) S (c_L_ruleOf l hl0 D cy g B p70 b7 c7 d7 e7 h7 k7 st v (nI i) 2 (fun k h => k_rule h)) (vx_cwSW 3 hts gL_isSo_L_ruleOf rfl rfl rfl hd_L_ruleOf_S ⟨Nat.le_of_ble_eq_true rfl, Nat.le_of_ble_eq_true rfl⟩) ⟨lwP_blind, my_preL (wcs := [(wPCo p70 b7 c7 d7 e7 h7 k7 st), (wSet cy b7 v)]) hK0 hNc hS hAB hP hD [0, 1] (by decide) rfl rfl⟩ rfl rfl hl.1 rfl (lv_room (Nat.le_of_ble_eq_true rfl)) dL_isSo_889 ⟨(show cq + 6 ≤ 800 by omega), (show sq + 36 ≤ 4900 by omega)⟩) hS hP hD [0, 1] rfl rfl (fun _ => rfl) (fun _ => by simp only [List.map_cons, List.map_nil, adrSet, adrSetE, adrPow, adrPowE, adrTxt, adrTxtE, adrSav, adrSavE, adrPCo, adrI, adrL]) (fun _ => rfl) (fun r9 u9 H locs hw hP hD hS => ?_)
  obtain ⟨rfl, rfl⟩ := Prod.mk.inj (he2.symm.trans hw)
  have hP : va_P D vwCl (List.flatten [(wPCo p70 b7 c7 d7 e7 h7 k7 st), (wSet cy b7 v), (wPow cy c7 w), (wTxt cy g k7 tx), (wI cy gA0 3 ga), (wI cy wA0 8 wa), (wI cy lA0 8 la), (wI cy rA0 4 ra), (wL cy tA0 4 (tabF (wS sg n) 256))]) H := hP
  have hD : va_D A (List.flatten [(wPCo p70 b7 c7 d7 e7 h7 k7 st), (wSet cy b7 v), (wPow cy c7 w), (wTxt cy g k7 tx), (wI cy gA0 3 ga), (wI cy wA0 8 wa), (wI cy lA0 8 la), (wI cy rA0 4 ra), (wL cy tA0 4 (tabF (wS sg n) 256))]) := hD
  refine lv_iload hx hb dL_isSo_892 (lv_at hl 0 rfl) ?_
  cases hbb : rhB n kk cc
  · refine lv_if_eq (tgt := 901) hx hb dL_isSo_894 (by decide) (fun _ => ?_) (fun h9 => absurd (show bI false = 0 from rfl) h9)
    refine lv_iconst (v := 0) hx hb dL_isSo_901 (by decide) ?_
    refine lv_icmp_ne (tgt := 909) hx hb dL_isSo_902 (by decide) (fun h9 => absurd (show bI false = 0 from rfl) h9) (fun _ => ?_)
    refine lv_iconst (v := 1) hx hb dL_isSo_905 (by decide) ?_
    refine lv_goto (tgt := 910) hx hb dL_isSo_906 (by decide) ?_
    refine lv_istore (lv' := [(14, .int 1), (19, .int (bI (rhB n kk cc))), (17, .int (nI kk)), (18, .int (nI cc)), (16, .int (nI i)), (15, .int (nI (cN (fun a => decide (sg (19 + a) = sg 19)) (i + 1)))), (8, .int (nI (wsN sg n))), (9, .int (nI (duN sg n n))), (10, .int (nI (neN sg n n))), (11, .int (orK sg n n)), (12, .int (nI (cN (wS sg n) 256))), (13, .int (nI (cN (leB (wS sg n)) 256))), (0, .ref p70), (1, .ref gA0), (2, .ref wA0), (3, .ref lA0), (4, .ref rA0), (5, .ref tA0), (6, .int (nI (plN sg n))), (7, .int (allF (wS sg n) 256))]) hx hb dL_isSo_910 hl (by decide) rfl (fun ls hl => ?_)
    refine lv_iinc (v := (nI (i + 1))) (lv' := [(16, .int (nI (i + 1))), (14, .int 1), (19, .int (bI (rhB n kk cc))), (17, .int (nI kk)), (18, .int (nI cc)), (15, .int (nI (cN (fun a => decide (sg (19 + a) = sg 19)) (i + 1)))), (8, .int (nI (wsN sg n))), (9, .int (nI (duN sg n n))), (10, .int (nI (neN sg n n))), (11, .int (orK sg n n)), (12, .int (nI (cN (wS sg n) 256))), (13, .int (nI (cN (leB (wS sg n)) 256))), (0, .ref p70), (1, .ref gA0), (2, .ref wA0), (3, .ref lA0), (4, .ref rA0), (5, .ref tA0), (6, .int (nI (plN sg n))), (7, .int (allF (wS sg n) 256))]) hx hb dL_isSo_912 hl (k := 4) rfl (nI_1 i) (by decide) rfl (fun ls hl => ?_)
    refine lv_goto (tgt := 740) hx hb dL_isSo_915 (by decide) ?_
    exact K st w _ _ H locs ls (by omega) (by omega) hp hP hD hS (lv_sub hl [0, 5, 1, 6, 7, 8, 9, 10, 11, 12, 13, 14, 15, 16, 17, 18, 19] rfl)
  · refine lv_if_eq (tgt := 901) hx hb dL_isSo_894 (by decide) (fun h9 => absurd h9 (show ¬ bI true = 0 by decide)) (fun _ => ?_)
    refine lv_iconst (v := 1) hx hb dL_isSo_897 (by decide) ?_
    refine lv_goto (tgt := 902) hx hb dL_isSo_898 (by decide) ?_
    refine lv_icmp_ne (tgt := 909) hx hb dL_isSo_902 (by decide) (fun h9 => absurd (show bI true = 1 from rfl) h9) (fun _ => ?_)
    refine lv_iconst (v := 1) hx hb dL_isSo_905 (by decide) ?_
    refine lv_goto (tgt := 910) hx hb dL_isSo_906 (by decide) ?_
    refine lv_istore (lv' := [(14, .int 1), (19, .int (bI (rhB n kk cc))), (17, .int (nI kk)), (18, .int (nI cc)), (16, .int (nI i)), (15, .int (nI (cN (fun a => decide (sg (19 + a) = sg 19)) (i + 1)))), (8, .int (nI (wsN sg n))), (9, .int (nI (duN sg n n))), (10, .int (nI (neN sg n n))), (11, .int (orK sg n n)), (12, .int (nI (cN (wS sg n) 256))), (13, .int (nI (cN (leB (wS sg n)) 256))), (0, .ref p70), (1, .ref gA0), (2, .ref wA0), (3, .ref lA0), (4, .ref rA0), (5, .ref tA0), (6, .int (nI (plN sg n))), (7, .int (allF (wS sg n) 256))]) hx hb dL_isSo_910 hl (by decide) rfl (fun ls hl => ?_)
    refine lv_iinc (v := (nI (i + 1))) (lv' := [(16, .int (nI (i + 1))), (14, .int 1), (19, .int (bI (rhB n kk cc))), (17, .int (nI kk)), (18, .int (nI cc)), (15, .int (nI (cN (fun a => decide (sg (19 + a) = sg 19)) (i + 1)))), (8, .int (nI (wsN sg n))), (9, .int (nI (duN sg n n))), (10, .int (nI (neN sg n n))), (11, .int (orK sg n n)), (12, .int (nI (cN (wS sg n) 256))), (13, .int (nI (cN (leB (wS sg n)) 256))), (0, .ref p70), (1, .ref gA0), (2, .ref wA0), (3, .ref lA0), (4, .ref rA0), (5, .ref tA0), (6, .int (nI (plN sg n))), (7, .int (allF (wS sg n) 256))]) hx hb dL_isSo_912 hl (k := 4) rfl (nI_1 i) (by decide) rfl (fun ls hl => ?_)
    refine lv_goto (tgt := 740) hx hb dL_isSo_915 (by decide) ?_
    exact K st w _ _ H locs ls (by omega) (by omega) hp hP hD hS (lv_sub hl [0, 5, 1, 6, 7, 8, 9, 10, 11, 12, 13, 14, 15, 16, 17, 18, 19] rfl)
set_option maxHeartbeats 4000000 in
set_option maxRecDepth 100000 in
theorem so_rule2 (C : soC p l s m meth c args D cy g B A) (F : soF v tx ga wa la ra sg n r) {i kk cc : Nat} {st : Int32} {w : PowV} {cq sq : Nat} {H : Heap} {locs : List Loc} {ls : Array Slot} (hir : i < r) (hcq : cq ≤ 700) (hsq : sq ≤ 4500) (hk9 : sg (19 + i) = nI kk) (hc9 : sg (23 + i) = nI cc) (hkc : (kk = 0 ∧ 1 ≤ cc ∧ cc ≤ 8) ∨ (kk = 1 ∧ cc ≤ 7) ∨ (kk = 2 ∧ 1 ≤ cc ∧ cc ≤ 255)) (hp : pwr st sg w) (hP : va_P D vwCl (List.flatten [(wPCo p70 b7 c7 d7 e7 h7 k7 st), (wSet cy b7 v), (wPow cy c7 w), (wTxt cy g k7 tx), (wI cy gA0 3 ga), (wI cy wA0 8 wa), (wI cy lA0 8 la), (wI cy rA0 4 ra), (wL cy tA0 4 (tabF (wS sg n) 256))]) H) (hD : va_D A (List.flatten [(wPCo p70 b7 c7 d7 e7 h7 k7 st), (wSet cy b7 v), (wPow cy c7 w), (wTxt cy g k7 tx), (wI cy gA0 3 ga), (wI cy wA0 8 wa), (wI cy lA0 8 la), (wI cy rA0 4 ra), (wL cy tA0 4 (tabF (wS sg n) 256))])) (hS : va_S A s.heap H locs) (hl : lv_has ls 24 [(15, .int (nI (cN (fun a => decide (sg (19 + a) = sg 19)) (i + 1)))), (17, .int (nI kk)), (18, .int (nI cc)), (16, .int (nI i)), (14, .int 1), (8, .int (nI (wsN sg n))), (9, .int (nI (duN sg n n))), (10, .int (nI (neN sg n n))), (11, .int (orK sg n n)), (12, .int (nI (cN (wS sg n) 256))), (13, .int (nI (cN (leB (wS sg n)) 256))), (0, .ref p70), (1, .ref gA0), (2, .ref wA0), (3, .ref lA0), (4, .ref rA0), (5, .ref tA0), (6, .int (nI (plN sg n))), (7, .int (allF (wS sg n) 256))])
    (K : ∀ (st : Int32) (w : PowV) (cq1 sq1 : Nat) (H : Heap) (locs : List Loc) (ls : Array Slot), cq1 ≤ cq + 6 → sq1 ≤ sq + 36 → pwr st sg w → va_P D vwCl (List.flatten [(wPCo p70 b7 c7 d7 e7 h7 k7 st), (wSet cy b7 v), (wPow cy c7 w), (wTxt cy g k7 tx), (wI cy gA0 3 ga), (wI cy wA0 8 wa), (wI cy lA0 8 la), (wI cy rA0 4 ra), (wL cy tA0 4 (tabF (wS sg n) 256))]) H → va_D A (List.flatten [(wPCo p70 b7 c7 d7 e7 h7 k7 st), (wSet cy b7 v), (wPow cy c7 w), (wTxt cy g k7 tx), (wI cy gA0 3 ga), (wI cy wA0 8 wa), (wI cy lA0 8 la), (wI cy rA0 4 ra), (wL cy tA0 4 (tabF (wS sg n) 256))]) → va_S A s.heap H locs → lv_has ls 24 [(16, .int (nI (i + 1))), (15, .int (nI (cN (fun a => decide (sg (19 + a) = sg 19)) (i + 1)))), (14, .int 1), (8, .int (nI (wsN sg n))), (9, .int (nI (duN sg n n))), (10, .int (nI (neN sg n n))), (11, .int (orK sg n n)), (12, .int (nI (cN (wS sg n) 256))), (13, .int (nI (cN (leB (wS sg n)) 256))), (0, .ref p70), (1, .ref gA0), (2, .ref wA0), (3, .ref lA0), (4, .ref rA0), (5, .ref tA0), (6, .int (nI (plN sg n))), (7, .int (allF (wS sg n) 256))] → W p l e isoR s m args below meth c H locs cq1 sq1 Q (F0 m 740 ls [])) : W p l e isoR s m args below meth c H locs cq sq Q (F0 m 798 ls []) := by
  have C0 := C
  have FF0 := F
  obtain ⟨hl0, hx, hb, hr9, hml, hown, hts, hlk, hK0, hNc, hAB, hA⟩ := C
  obtain ⟨CHH, hAG, htx, hl8⟩ := F
  have hV := CHH.1
  have hN := CHH.2.1
  have hL := CHH.2.2.1
  have hW := CHH.2.2.2.1
  have hR := CHH.2.2.2.2.1
  have h8 : n ≤ 8 := hN.2.1
  have hr4 : r ≤ 4 := hN.2.2.2
  have hp256 := plN_lt (s := sg) h8
  have S := my_fix hx hb hml hown hts
  have hT : ∀ j, j < 256 → f_L_at (tabF (wS sg n) 256) (nI j) = bI (wS sg n j) := fun j hj => at_tab _ hj
  refine lv_iload hx hb dL_isSo_798 (lv_at hl 1 rfl) ?_
  have hkc0 := hkc
  rcases hkc with ⟨rfl, ha, hbb⟩ | ⟨rfl, hbb⟩ | ⟨rfl, ha, hbb⟩
  · refine lv_if_ne (tgt := 819) hx hb dL_isSo_800 (by decide) (fun h9 => absurd (show nI 0 = 0 from rfl) h9) (fun _ => ?_)
    refine lv_aload_n hx hb dL_isSo_803 rfl (lv_at hl 12 rfl) ?_
    refine lv_iconst (v := 0) hx hb dL_isSo_804 (by decide) ?_
    refine wk_ia hx hb hK0.1 hP 28 0 (k := 0) (v := (nI n)) rfl rfl (by decide) (by decide) hAG.1 dL_isSo_805 ?_
    refine lv_iload hx hb dL_isSo_806 (lv_at hl 2 rfl) ?_
    rcases Nat.lt_or_ge n cc with hz | hz
    · refine lv_icmp_lt (tgt := 815) hx hb dL_isSo_808 (by decide) (fun _ => ?_) (fun h9 => absurd (nI_lt hz (by omega)) h9)
      refine lv_iconst (v := 0) hx hb dL_isSo_815 (by decide) ?_
      refine lv_goto (tgt := 859) hx hb dL_isSo_816 (by decide) ?_
      refine wk_ti (x := 0) (v := (bI (rhB n 0 cc))) (by show _ = bI (rhB n 0 cc); unfold rhB; rw [if_pos rfl, decide_eq_false (Nat.not_le.mpr hz)]; rfl) ?_
      refine lv_istore (lv' := [(19, .int (bI (rhB n 0 cc))), (15, .int (nI (cN (fun a => decide (sg (19 + a) = sg 19)) (i + 1)))), (17, .int (nI 0)), (18, .int (nI cc)), (16, .int (nI i)), (14, .int 1), (8, .int (nI (wsN sg n))), (9, .int (nI (duN sg n n))), (10, .int (nI (neN sg n n))), (11, .int (orK sg n n)), (12, .int (nI (cN (wS sg n) 256))), (13, .int (nI (cN (leB (wS sg n)) 256))), (0, .ref p70), (1, .ref gA0), (2, .ref wA0), (3, .ref lA0), (4, .ref rA0), (5, .ref tA0), (6, .int (nI (plN sg n))), (7, .int (allF (wS sg n) 256))]) hx hb dL_isSo_859 hl (by decide) rfl (fun ls hl => ?_)
      exact so_rule3 C0 FF0 hir hcq hsq hk9 hc9 hkc0 hp hP hD hS (lv_sub hl [0, 2, 3, 4, 1, 5, 6, 7, 8, 9, 10, 11, 12, 13, 14, 15, 16, 17, 18, 19] rfl) K
    · refine lv_icmp_lt (tgt := 815) hx hb dL_isSo_808 (by decide) (fun h9 => absurd h9 (nI_nlt hz (by omega))) (fun _ => ?_)
      refine lv_iconst (v := 1) hx hb dL_isSo_811 (by decide) ?_
      refine lv_goto (tgt := 859) hx hb dL_isSo_812 (by decide) ?_
      refine wk_ti (x := 1) (v := (bI (rhB n 0 cc))) (by show _ = bI (rhB n 0 cc); unfold rhB; rw [if_pos rfl, decide_eq_true hz]; rfl) ?_
      refine lv_istore (lv' := [(19, .int (bI (rhB n 0 cc))), (15, .int (nI (cN (fun a => decide (sg (19 + a) = sg 19)) (i + 1)))), (17, .int (nI 0)), (18, .int (nI cc)), (16, .int (nI i)), (14, .int 1), (8, .int (nI (wsN sg n))), (9, .int (nI (duN sg n n))), (10, .int (nI (neN sg n n))), (11, .int (orK sg n n)), (12, .int (nI (cN (wS sg n) 256))), (13, .int (nI (cN (leB (wS sg n)) 256))), (0, .ref p70), (1, .ref gA0), (2, .ref wA0), (3, .ref lA0), (4, .ref rA0), (5, .ref tA0), (6, .int (nI (plN sg n))), (7, .int (allF (wS sg n) 256))]) hx hb dL_isSo_859 hl (by decide) rfl (fun ls hl => ?_)
      exact so_rule3 C0 FF0 hir hcq hsq hk9 hc9 hkc0 hp hP hD hS (lv_sub hl [0, 2, 3, 4, 1, 5, 6, 7, 8, 9, 10, 11, 12, 13, 14, 15, 16, 17, 18, 19] rfl) K
  · refine lv_if_ne (tgt := 819) hx hb dL_isSo_800 (by decide) (fun _ => ?_) (fun h9 => absurd h9 (show ¬ nI 1 = 0 by decide))
    refine lv_iload hx hb dL_isSo_819 (lv_at hl 1 rfl) ?_
    refine lv_iconst (v := 1) hx hb dL_isSo_821 (by decide) ?_
    refine lv_icmp_ne (tgt := 841) hx hb dL_isSo_822 (by decide) (fun h9 => absurd (show nI 1 = 1 from rfl) h9) (fun _ => ?_)
    refine lv_iload hx hb dL_isSo_825 (lv_at hl 2 rfl) ?_
    refine lv_aload_n hx hb dL_isSo_827 rfl (lv_at hl 12 rfl) ?_
    refine lv_iconst (v := 0) hx hb dL_isSo_828 (by decide) ?_
    refine wk_ia hx hb hK0.1 hP 28 0 (k := 0) (v := (nI n)) rfl rfl (by decide) (by decide) hAG.1 dL_isSo_829 ?_
    rcases Nat.lt_or_ge cc n with hz | hz
    · refine lv_icmp_ge (tgt := 837) hx hb dL_isSo_830 (by decide) (fun h9 => absurd h9 (nI_ge hz (by omega))) (fun _ => ?_)
      refine lv_iconst (v := 1) hx hb dL_isSo_833 (by decide) ?_
      refine lv_goto (tgt := 859) hx hb dL_isSo_834 (by decide) ?_
      refine wk_ti (x := 1) (v := (bI (rhB n 1 cc))) (by show _ = bI (rhB n 1 cc); unfold rhB; rw [if_neg (by decide), if_pos rfl, decide_eq_true hz]; rfl) ?_
      refine lv_istore (lv' := [(19, .int (bI (rhB n 1 cc))), (15, .int (nI (cN (fun a => decide (sg (19 + a) = sg 19)) (i + 1)))), (17, .int (nI 1)), (18, .int (nI cc)), (16, .int (nI i)), (14, .int 1), (8, .int (nI (wsN sg n))), (9, .int (nI (duN sg n n))), (10, .int (nI (neN sg n n))), (11, .int (orK sg n n)), (12, .int (nI (cN (wS sg n) 256))), (13, .int (nI (cN (leB (wS sg n)) 256))), (0, .ref p70), (1, .ref gA0), (2, .ref wA0), (3, .ref lA0), (4, .ref rA0), (5, .ref tA0), (6, .int (nI (plN sg n))), (7, .int (allF (wS sg n) 256))]) hx hb dL_isSo_859 hl (by decide) rfl (fun ls hl => ?_)
      exact so_rule3 C0 FF0 hir hcq hsq hk9 hc9 hkc0 hp hP hD hS (lv_sub hl [0, 2, 3, 4, 1, 5, 6, 7, 8, 9, 10, 11, 12, 13, 14, 15, 16, 17, 18, 19] rfl) K
    · refine lv_icmp_ge (tgt := 837) hx hb dL_isSo_830 (by decide) (fun _ => ?_) (fun h9 => absurd (nI_le hz (by omega)) h9)
      refine lv_iconst (v := 0) hx hb dL_isSo_837 (by decide) ?_
      refine lv_goto (tgt := 859) hx hb dL_isSo_838 (by decide) ?_
      refine wk_ti (x := 0) (v := (bI (rhB n 1 cc))) (by show _ = bI (rhB n 1 cc); unfold rhB; rw [if_neg (by decide), if_pos rfl, decide_eq_false (Nat.not_lt.mpr hz)]; rfl) ?_
      refine lv_istore (lv' := [(19, .int (bI (rhB n 1 cc))), (15, .int (nI (cN (fun a => decide (sg (19 + a) = sg 19)) (i + 1)))), (17, .int (nI 1)), (18, .int (nI cc)), (16, .int (nI i)), (14, .int 1), (8, .int (nI (wsN sg n))), (9, .int (nI (duN sg n n))), (10, .int (nI (neN sg n n))), (11, .int (orK sg n n)), (12, .int (nI (cN (wS sg n) 256))), (13, .int (nI (cN (leB (wS sg n)) 256))), (0, .ref p70), (1, .ref gA0), (2, .ref wA0), (3, .ref lA0), (4, .ref rA0), (5, .ref tA0), (6, .int (nI (plN sg n))), (7, .int (allF (wS sg n) 256))]) hx hb dL_isSo_859 hl (by decide) rfl (fun ls hl => ?_)
      exact so_rule3 C0 FF0 hir hcq hsq hk9 hc9 hkc0 hp hP hD hS (lv_sub hl [0, 2, 3, 4, 1, 5, 6, 7, 8, 9, 10, 11, 12, 13, 14, 15, 16, 17, 18, 19] rfl) K
  · refine lv_if_ne (tgt := 819) hx hb dL_isSo_800 (by decide) (fun _ => ?_) (fun h9 => absurd h9 (show ¬ nI 2 = 0 by decide))
    refine lv_iload hx hb dL_isSo_819 (lv_at hl 1 rfl) ?_
    refine lv_iconst (v := 1) hx hb dL_isSo_821 (by decide) ?_
    refine lv_icmp_ne (tgt := 841) hx hb dL_isSo_822 (by decide) (fun _ => ?_) (fun h9 => absurd h9 (show ¬ nI 2 = 1 by decide))
    refine lv_iload hx hb dL_isSo_841 (lv_at hl 2 rfl) ?_
    refine lv_iconst (v := 1) hx hb dL_isSo_843 (by decide) ?_
    refine lv_aload_n hx hb dL_isSo_844 rfl (lv_at hl 12 rfl) ?_
    refine lv_iconst (v := 0) hx hb dL_isSo_845 (by decide) ?_
    refine wk_ia hx hb hK0.1 hP 28 0 (k := 0) (v := (nI n)) rfl rfl (by decide) (by decide) hAG.1 dL_isSo_846 ?_
    refine lv_ishl hx hb dL_isSo_847 ?_
    refine lv_iconst (v := 1) hx hb dL_isSo_848 (by decide) ?_
    have hev := evb_nI n (by omega)
    refine lv_isub hx hb dL_isSo_849 ?_
    refine wk_ti (x := ((1 <<< ((nI n) &&& 31)) - 1)) (v := (nI (2 ^ n - 1))) hev ?_
    refine lv_iand hx hb dL_isSo_850 ?_
    have hpw : 2 ^ n ≤ 2 ^ 8 := Nat.pow_le_pow_right (by decide) h8
    have han : (nI cc &&& nI (2 ^ n - 1) : Int32) = nI (cc &&& (2 ^ n - 1)) := and_nI (by omega) (by omega)
    have hlt : (cc &&& (2 ^ n - 1)) < 2 ^ 31 := Nat.lt_of_le_of_lt Nat.and_le_left (by omega)
    have hle : ((nI cc &&& nI (2 ^ n - 1) : Int32) ≤ 0) ↔ (nI cc &&& nI (2 ^ n - 1) : Int32) = 0 := by rw [han]; exact le0_nI hlt
    by_cases hz : (nI cc &&& nI (2 ^ n - 1) : Int32) = 0
    · refine lv_if_le (tgt := 858) hx hb dL_isSo_851 (by decide) (fun _ => ?_) (fun h9 => absurd (hle.mpr hz) h9)
      refine lv_iconst (v := 0) hx hb dL_isSo_858 (by decide) ?_
      refine wk_ti (x := 0) (v := (bI (rhB n 2 cc))) (by show _ = bI (rhB n 2 cc); unfold rhB; rw [if_neg (by decide), if_neg (by decide), decide_eq_false (fun z => z hz)]; rfl) ?_
      refine lv_istore (lv' := [(19, .int (bI (rhB n 2 cc))), (15, .int (nI (cN (fun a => decide (sg (19 + a) = sg 19)) (i + 1)))), (17, .int (nI 2)), (18, .int (nI cc)), (16, .int (nI i)), (14, .int 1), (8, .int (nI (wsN sg n))), (9, .int (nI (duN sg n n))), (10, .int (nI (neN sg n n))), (11, .int (orK sg n n)), (12, .int (nI (cN (wS sg n) 256))), (13, .int (nI (cN (leB (wS sg n)) 256))), (0, .ref p70), (1, .ref gA0), (2, .ref wA0), (3, .ref lA0), (4, .ref rA0), (5, .ref tA0), (6, .int (nI (plN sg n))), (7, .int (allF (wS sg n) 256))]) hx hb dL_isSo_859 hl (by decide) rfl (fun ls hl => ?_)
      exact so_rule3 C0 FF0 hir hcq hsq hk9 hc9 hkc0 hp hP hD hS (lv_sub hl [0, 2, 3, 4, 1, 5, 6, 7, 8, 9, 10, 11, 12, 13, 14, 15, 16, 17, 18, 19] rfl) K
    · refine lv_if_le (tgt := 858) hx hb dL_isSo_851 (by decide) (fun h9 => absurd h9 (fun z => hz (hle.mp z))) (fun _ => ?_)
      refine lv_iconst (v := 1) hx hb dL_isSo_854 (by decide) ?_
      refine lv_goto (tgt := 859) hx hb dL_isSo_855 (by decide) ?_
      refine wk_ti (x := 1) (v := (bI (rhB n 2 cc))) (by show _ = bI (rhB n 2 cc); unfold rhB; rw [if_neg (by decide), if_neg (by decide), decide_eq_true hz]; rfl) ?_
      refine lv_istore (lv' := [(19, .int (bI (rhB n 2 cc))), (15, .int (nI (cN (fun a => decide (sg (19 + a) = sg 19)) (i + 1)))), (17, .int (nI 2)), (18, .int (nI cc)), (16, .int (nI i)), (14, .int 1), (8, .int (nI (wsN sg n))), (9, .int (nI (duN sg n n))), (10, .int (nI (neN sg n n))), (11, .int (orK sg n n)), (12, .int (nI (cN (wS sg n) 256))), (13, .int (nI (cN (leB (wS sg n)) 256))), (0, .ref p70), (1, .ref gA0), (2, .ref wA0), (3, .ref lA0), (4, .ref rA0), (5, .ref tA0), (6, .int (nI (plN sg n))), (7, .int (allF (wS sg n) 256))]) hx hb dL_isSo_859 hl (by decide) rfl (fun ls hl => ?_)
      exact so_rule3 C0 FF0 hir hcq hsq hk9 hc9 hkc0 hp hP hD hS (lv_sub hl [0, 2, 3, 4, 1, 5, 6, 7, 8, 9, 10, 11, 12, 13, 14, 15, 16, 17, 18, 19] rfl) K
set_option maxHeartbeats 4000000 in
set_option maxRecDepth 100000 in
theorem so_3 (C : soC p l s m meth c args D cy g B A) (F : soF v tx ga wa la ra sg n r) (K : ∀ (st : Int32) (w : PowV) (cq1 sq1 : Nat) (H : Heap) (locs : List Loc) (ls : Array Slot), cq1 ≤ 697 → sq1 ≤ 4180 → pwr st sg w → va_P D vwCl (List.flatten [(wPCo p70 b7 c7 d7 e7 h7 k7 st), (wSet cy b7 v), (wPow cy c7 w), (wTxt cy g k7 tx), (wI cy gA0 3 ga), (wI cy wA0 8 wa), (wI cy lA0 8 la), (wI cy rA0 4 ra), (wL cy tA0 4 (tabF (wS sg n) 256))]) H → va_D A (List.flatten [(wPCo p70 b7 c7 d7 e7 h7 k7 st), (wSet cy b7 v), (wPow cy c7 w), (wTxt cy g k7 tx), (wI cy gA0 3 ga), (wI cy wA0 8 wa), (wI cy lA0 8 la), (wI cy rA0 4 ra), (wL cy tA0 4 (tabF (wS sg n) 256))]) → va_S A s.heap H locs → lv_has ls 24 [(16, .int (nI r)), (15, .int (nI (cN (fun a => decide (sg (19 + a) = sg 19)) r))), (14, .int 1), (8, .int (nI (wsN sg n))), (9, .int (nI (duN sg n n))), (10, .int (nI (neN sg n n))), (11, .int (orK sg n n)), (12, .int (nI (cN (wS sg n) 256))), (13, .int (nI (cN (leB (wS sg n)) 256))), (0, .ref p70), (1, .ref gA0), (2, .ref wA0), (3, .ref lA0), (4, .ref rA0), (5, .ref tA0), (6, .int (nI (plN sg n))), (7, .int (allF (wS sg n) 256))] → W p l e isoR s m args below meth c H locs cq1 sq1 Q (F0 m 918 ls [])) : ∀ (fu i : Nat) (st : Int32) (w : PowV) (cq sq : Nat) (H : Heap) (locs : List Loc) (ls : Array Slot), r - i < fu → i ≤ r → cq + 6 * (4 - i) ≤ 697 → sq + 36 * (4 - i) ≤ 4180 → pwr st sg w → va_P D vwCl (List.flatten [(wPCo p70 b7 c7 d7 e7 h7 k7 st), (wSet cy b7 v), (wPow cy c7 w), (wTxt cy g k7 tx), (wI cy gA0 3 ga), (wI cy wA0 8 wa), (wI cy lA0 8 la), (wI cy rA0 4 ra), (wL cy tA0 4 (tabF (wS sg n) 256))]) H → va_D A (List.flatten [(wPCo p70 b7 c7 d7 e7 h7 k7 st), (wSet cy b7 v), (wPow cy c7 w), (wTxt cy g k7 tx), (wI cy gA0 3 ga), (wI cy wA0 8 wa), (wI cy lA0 8 la), (wI cy rA0 4 ra), (wL cy tA0 4 (tabF (wS sg n) 256))]) → va_S A s.heap H locs → lv_has ls 24 [(16, .int (nI i)), (15, .int (nI (cN (fun a => decide (sg (19 + a) = sg 19)) i))), (14, .int 1), (8, .int (nI (wsN sg n))), (9, .int (nI (duN sg n n))), (10, .int (nI (neN sg n n))), (11, .int (orK sg n n)), (12, .int (nI (cN (wS sg n) 256))), (13, .int (nI (cN (leB (wS sg n)) 256))), (0, .ref p70), (1, .ref gA0), (2, .ref wA0), (3, .ref lA0), (4, .ref rA0), (5, .ref tA0), (6, .int (nI (plN sg n))), (7, .int (allF (wS sg n) 256))] → W p l e isoR s m args below meth c H locs cq sq Q (F0 m 740 ls [])
  | 0, _, _, _, _, _, _, _, _ => fun h => absurd h (Nat.not_lt_zero _)
  | fu + 1, i, st, w, cq, sq, H, locs, ls => by
    intro hfu hir0 hcq hsq hp hP hD hS hl
    have C0 := C
    have FF0 := F
    obtain ⟨hl0, hx, hb, hr9, hml, hown, hts, hlk, hK0, hNc, hAB, hA⟩ := C
    obtain ⟨CHH, hAG, htx, hl8⟩ := F
    have hV := CHH.1
    have hN := CHH.2.1
    have hL := CHH.2.2.1
    have hW := CHH.2.2.2.1
    have hR := CHH.2.2.2.2.1
    have h8 : n ≤ 8 := hN.2.1
    have hr4 : r ≤ 4 := hN.2.2.2
    have hp256 := plN_lt (s := sg) h8
    have S := my_fix hx hb hml hown hts
    have hT : ∀ j, j < 256 → f_L_at (tabF (wS sg n) 256) (nI j) = bI (wS sg n j) := fun j hj => at_tab _ hj
    refine lv_iload hx hb dL_isSo_740 (lv_at hl 0 rfl) ?_
    refine lv_aload_n hx hb dL_isSo_742 rfl (lv_at hl 10 rfl) ?_
    refine lv_iconst (v := 2) hx hb dL_isSo_743 (by decide) ?_
    refine wk_ia hx hb hK0.1 hP 28 0 (k := 2) (v := (nI r)) rfl rfl (by decide) (by decide) hAG.2.2.1 dL_isSo_744 ?_
    rcases Nat.lt_or_ge i r with hir | hir
    · refine lv_icmp_ge (tgt := 918) hx hb dL_isSo_745 (by decide) (fun h9 => absurd h9 (nI_ge hir (by omega))) (fun _ => ?_)
      refine lv_iload hx hb dL_isSo_748 (lv_at hl 2 rfl) ?_
      refine lv_if_eq (tgt := 918) hx hb dL_isSo_750 (by decide) (fun h9 => absurd h9 (show ¬ (1 : Int32) = 0 by decide)) (fun _ => ?_)
      obtain ⟨kk, cc, hk9, hc9, hra, hkc⟩ := hAG.2.2.2.2.2 i hir
      obtain ⟨k0, c0, hk0, hc0, hra0, hkc0⟩ := hAG.2.2.2.2.2 0 (by omega)
      refine lv_aload hx hb dL_isSo_753 (lv_at hl 13 rfl) ?_
      refine lv_iload hx hb dL_isSo_755 (lv_at hl 0 rfl) ?_
      refine wk_ia hx hb hK0.1 hP 31 0 (k := i) (v := (nI (1000 * kk + cc))) rfl rfl (by omega) (by decide) hra dL_isSo_757 ?_
      refine lv_sipush (v := 1000) hx hb dL_isSo_758 (by decide) ?_
      refine lv_idiv hx hb dL_isSo_761 (by decide) ?_
      refine wk_ti (x := ((nI (1000 * kk + cc)) / 1000)) (v := (nI kk)) (rl_v kk (by omega) cc (by omega)).2 ?_
      refine lv_istore (lv' := [(17, .int (nI kk)), (16, .int (nI i)), (15, .int (nI (cN (fun a => decide (sg (19 + a) = sg 19)) i))), (14, .int 1), (8, .int (nI (wsN sg n))), (9, .int (nI (duN sg n n))), (10, .int (nI (neN sg n n))), (11, .int (orK sg n n)), (12, .int (nI (cN (wS sg n) 256))), (13, .int (nI (cN (leB (wS sg n)) 256))), (0, .ref p70), (1, .ref gA0), (2, .ref wA0), (3, .ref lA0), (4, .ref rA0), (5, .ref tA0), (6, .int (nI (plN sg n))), (7, .int (allF (wS sg n) 256))]) hx hb dL_isSo_762 hl (by decide) rfl (fun ls hl => ?_)
      refine lv_aload hx hb dL_isSo_764 (lv_at hl 14 rfl) ?_
      refine lv_iload hx hb dL_isSo_766 (lv_at hl 1 rfl) ?_
      refine wk_ia hx hb hK0.1 hP 31 0 (k := i) (v := (nI (1000 * kk + cc))) rfl rfl (by omega) (by decide) hra dL_isSo_768 ?_
      refine lv_sipush (v := 1000) hx hb dL_isSo_769 (by decide) ?_
      refine lv_irem hx hb dL_isSo_772 (by decide) ?_
      refine wk_ti (x := ((nI (1000 * kk + cc)) - (nI (1000 * kk + cc)) / 1000 * 1000)) (v := (nI cc)) (rl_v kk (by omega) cc (by omega)).1 ?_
      refine lv_istore (lv' := [(18, .int (nI cc)), (17, .int (nI kk)), (16, .int (nI i)), (15, .int (nI (cN (fun a => decide (sg (19 + a) = sg 19)) i))), (14, .int 1), (8, .int (nI (wsN sg n))), (9, .int (nI (duN sg n n))), (10, .int (nI (neN sg n n))), (11, .int (orK sg n n)), (12, .int (nI (cN (wS sg n) 256))), (13, .int (nI (cN (leB (wS sg n)) 256))), (0, .ref p70), (1, .ref gA0), (2, .ref wA0), (3, .ref lA0), (4, .ref rA0), (5, .ref tA0), (6, .int (nI (plN sg n))), (7, .int (allF (wS sg n) 256))]) hx hb dL_isSo_773 hl (by decide) rfl (fun ls hl => ?_)
      refine lv_iload hx hb dL_isSo_775 (lv_at hl 3 rfl) ?_
      refine lv_aload hx hb dL_isSo_777 (lv_at hl 15 rfl) ?_
      refine lv_iconst (v := 0) hx hb dL_isSo_779 (by decide) ?_
      refine wk_ia hx hb hK0.1 hP 31 0 (k := 0) (v := (nI (1000 * k0 + c0))) rfl rfl (by decide) (by decide) hra0 dL_isSo_780 ?_
      refine lv_sipush (v := 1000) hx hb dL_isSo_781 (by decide) ?_
      refine lv_idiv hx hb dL_isSo_784 (by decide) ?_
      refine wk_ti (x := ((nI (1000 * k0 + c0)) / 1000)) (v := (nI k0)) (rl_v k0 (by omega) c0 (by omega)).2 ?_
      refine lv_iload hx hb dL_isSo_785 (lv_at hl 1 rfl) ?_
      have hdd : (sg (19 + i) = sg 19) ↔ nI k0 = nI kk := by rw [hk9]; have h9 : sg 19 = nI k0 := hk0; rw [h9]; exact ⟨fun z => z.symm, fun z => z.symm⟩
      have next : ∀ (st1 : Int32) (w1 : PowV) (cq1 sq1 : Nat) (H : Heap) (locs : List Loc) (ls : Array Slot), cq1 ≤ cq + 6 → sq1 ≤ sq + 36 → pwr st1 sg w1 → va_P D vwCl (List.flatten [(wPCo p70 b7 c7 d7 e7 h7 k7 st1), (wSet cy b7 v), (wPow cy c7 w1), (wTxt cy g k7 tx), (wI cy gA0 3 ga), (wI cy wA0 8 wa), (wI cy lA0 8 la), (wI cy rA0 4 ra), (wL cy tA0 4 (tabF (wS sg n) 256))]) H → va_D A (List.flatten [(wPCo p70 b7 c7 d7 e7 h7 k7 st1), (wSet cy b7 v), (wPow cy c7 w1), (wTxt cy g k7 tx), (wI cy gA0 3 ga), (wI cy wA0 8 wa), (wI cy lA0 8 la), (wI cy rA0 4 ra), (wL cy tA0 4 (tabF (wS sg n) 256))]) → va_S A s.heap H locs → lv_has ls 24 [(16, .int (nI (i + 1))), (15, .int (nI (cN (fun a => decide (sg (19 + a) = sg 19)) (i + 1)))), (14, .int 1), (8, .int (nI (wsN sg n))), (9, .int (nI (duN sg n n))), (10, .int (nI (neN sg n n))), (11, .int (orK sg n n)), (12, .int (nI (cN (wS sg n) 256))), (13, .int (nI (cN (leB (wS sg n)) 256))), (0, .ref p70), (1, .ref gA0), (2, .ref wA0), (3, .ref lA0), (4, .ref rA0), (5, .ref tA0), (6, .int (nI (plN sg n))), (7, .int (allF (wS sg n) 256))] → W p l e isoR s m args below meth c H locs cq1 sq1 Q (F0 m 740 ls []) := fun st1 w1 cq1 sq1 H locs ls hc1 hs1 hp hP hD hS hl => so_3 C0 FF0 K fu (i + 1) st1 w1 cq1 sq1 H locs ls (by omega) (by omega) (by omega) (by omega) hp hP hD hS hl
      by_cases hz : nI k0 = nI kk
      · refine lv_icmp_ne (tgt := 794) hx hb dL_isSo_787 (by decide) (fun h9 => absurd hz h9) (fun _ => ?_)
        refine lv_iconst (v := 1) hx hb dL_isSo_790 (by decide) ?_
        refine lv_goto (tgt := 795) hx hb dL_isSo_791 (by decide) ?_
        refine lv_iadd hx hb dL_isSo_795 ?_
        refine wk_ti (x := ((nI (cN (fun a => decide (sg (19 + a) = sg 19)) i)) + 1)) (v := (nI (cN (fun a => decide (sg (19 + a) = sg 19)) (i + 1)))) (by rw [cN_s, if_pos (decide_eq_true (hdd.mpr hz))]; exact nI_1 _) ?_
        refine lv_istore (lv' := [(15, .int (nI (cN (fun a => decide (sg (19 + a) = sg 19)) (i + 1)))), (18, .int (nI cc)), (17, .int (nI kk)), (16, .int (nI i)), (14, .int 1), (8, .int (nI (wsN sg n))), (9, .int (nI (duN sg n n))), (10, .int (nI (neN sg n n))), (11, .int (orK sg n n)), (12, .int (nI (cN (wS sg n) 256))), (13, .int (nI (cN (leB (wS sg n)) 256))), (0, .ref p70), (1, .ref gA0), (2, .ref wA0), (3, .ref lA0), (4, .ref rA0), (5, .ref tA0), (6, .int (nI (plN sg n))), (7, .int (allF (wS sg n) 256))]) hx hb dL_isSo_796 hl (by decide) rfl (fun ls hl => ?_)
        exact so_rule2 C0 FF0 hir (by omega) (by omega) hk9 hc9 hkc hp hP hD hS (lv_sub hl [0, 2, 1, 3, 4, 5, 6, 7, 8, 9, 10, 11, 12, 13, 14, 15, 16, 17, 18] rfl) next
      · refine lv_icmp_ne (tgt := 794) hx hb dL_isSo_787 (by decide) (fun _ => ?_) (fun h9 => absurd h9 hz)
        refine lv_iconst (v := 0) hx hb dL_isSo_794 (by decide) ?_
        refine lv_iadd hx hb dL_isSo_795 ?_
        refine wk_ti (x := ((nI (cN (fun a => decide (sg (19 + a) = sg 19)) i)) + 0)) (v := (nI (cN (fun a => decide (sg (19 + a) = sg 19)) (i + 1)))) (by rw [cN_s, if_neg (by rw [decide_eq_true_eq]; exact fun z => hz (hdd.mp z))]; exact Int32.add_zero _) ?_
        refine lv_istore (lv' := [(15, .int (nI (cN (fun a => decide (sg (19 + a) = sg 19)) (i + 1)))), (18, .int (nI cc)), (17, .int (nI kk)), (16, .int (nI i)), (14, .int 1), (8, .int (nI (wsN sg n))), (9, .int (nI (duN sg n n))), (10, .int (nI (neN sg n n))), (11, .int (orK sg n n)), (12, .int (nI (cN (wS sg n) 256))), (13, .int (nI (cN (leB (wS sg n)) 256))), (0, .ref p70), (1, .ref gA0), (2, .ref wA0), (3, .ref lA0), (4, .ref rA0), (5, .ref tA0), (6, .int (nI (plN sg n))), (7, .int (allF (wS sg n) 256))]) hx hb dL_isSo_796 hl (by decide) rfl (fun ls hl => ?_)
        exact so_rule2 C0 FF0 hir (by omega) (by omega) hk9 hc9 hkc hp hP hD hS (lv_sub hl [0, 2, 1, 3, 4, 5, 6, 7, 8, 9, 10, 11, 12, 13, 14, 15, 16, 17, 18] rfl) next
    · have e : i = r := by omega
      subst e
      refine lv_icmp_ge (tgt := 918) hx hb dL_isSo_745 (by decide) (fun _ => ?_) (fun h9 => absurd (nI_le (Nat.le_refl _) (by omega)) h9)
      exact K st w cq sq H locs ls (by omega) (by omega) hp hP hD hS (lv_sub hl [0, 1, 2, 3, 4, 5, 6, 7, 8, 9, 10, 11, 12, 13, 14, 15, 16] rfl)
set_option maxHeartbeats 4000000 in
set_option maxRecDepth 100000 in
theorem so_4 (C : soC p l s m meth c args D cy g B A) (F : soF v tx ga wa la ra sg n r)  {st : Int32} {w : PowV} {cq sq : Nat} {H : Heap} {locs : List Loc} {ls : Array Slot} (hcq : cq ≤ 700) (hsq : sq ≤ 4500) (hp : pwr st sg w) (hP : va_P D vwCl (List.flatten [(wPCo p70 b7 c7 d7 e7 h7 k7 st), (wSet cy b7 v), (wPow cy c7 w), (wTxt cy g k7 tx), (wI cy gA0 3 ga), (wI cy wA0 8 wa), (wI cy lA0 8 la), (wI cy rA0 4 ra), (wL cy tA0 4 (tabF (wS sg n) 256))]) H) (hD : va_D A (List.flatten [(wPCo p70 b7 c7 d7 e7 h7 k7 st), (wSet cy b7 v), (wPow cy c7 w), (wTxt cy g k7 tx), (wI cy gA0 3 ga), (wI cy wA0 8 wa), (wI cy lA0 8 la), (wI cy rA0 4 ra), (wL cy tA0 4 (tabF (wS sg n) 256))])) (hS : va_S A s.heap H locs) (hl : lv_has ls 24 [(14, .int 1), (15, .int (nI (cN (fun a => decide (sg (19 + a) = sg 19)) r))), (8, .int (nI (wsN sg n))), (9, .int (nI (duN sg n n))), (10, .int (nI (neN sg n n))), (11, .int (orK sg n n)), (12, .int (nI (cN (wS sg n) 256))), (13, .int (nI (cN (leB (wS sg n)) 256))), (0, .ref p70), (1, .ref gA0), (2, .ref wA0), (3, .ref lA0), (4, .ref rA0), (5, .ref tA0), (6, .int (nI (plN sg n))), (7, .int (allF (wS sg n) 256))])
    (K : ∀ (st : Int32) (w : PowV) (cq1 sq1 : Nat) (H : Heap) (locs : List Loc) (ls : Array Slot), cq1 ≤ cq + 13 → sq1 ≤ sq + 78 → pwr st sg w → va_P D vwCl (List.flatten [(wPCo p70 b7 c7 d7 e7 h7 k7 st), (wSet cy b7 v), (wPow cy c7 w), (wTxt cy g k7 tx), (wI cy gA0 3 ga), (wI cy wA0 8 wa), (wI cy lA0 8 la), (wI cy rA0 4 ra), (wL cy tA0 4 (tabF (wS sg n) 256))]) H → va_D A (List.flatten [(wPCo p70 b7 c7 d7 e7 h7 k7 st), (wSet cy b7 v), (wPow cy c7 w), (wTxt cy g k7 tx), (wI cy gA0 3 ga), (wI cy wA0 8 wa), (wI cy lA0 8 la), (wI cy rA0 4 ra), (wL cy tA0 4 (tabF (wS sg n) 256))]) → va_S A s.heap H locs → W p l e isoR s m args below meth c H locs cq1 sq1 Q (F0 m 1107 ls [.int 1])) : W p l e isoR s m args below meth c H locs cq sq Q (F0 m 957 ls []) := by
  obtain ⟨hl0, hx, hb, hr9, hml, hown, hts, hlk, hK0, hNc, hAB, hA⟩ := C
  obtain ⟨CHH, hAG, htx, hl8⟩ := F
  have hV := CHH.1
  have hN := CHH.2.1
  have hL := CHH.2.2.1
  have hW := CHH.2.2.2.1
  have hR := CHH.2.2.2.2.1
  have h8 : n ≤ 8 := hN.2.1
  have hr4 : r ≤ 4 := hN.2.2.2
  have hp256 := plN_lt (s := sg) h8
  have S := my_fix hx hb hml hown hts
  have hT : ∀ j, j < 256 → f_L_at (tabF (wS sg n) 256) (nI j) = bI (wS sg n j) := fun j hj => at_tab _ hj
  refine lv_iload hx hb dL_isSo_957 (lv_at hl 0 rfl) ?_
  refine lv_if_eq (tgt := 1106) hx hb dL_isSo_959 (by decide) (fun h9 => absurd h9 (show ¬ (1 : Int32) = 0 by decide)) (fun _ => ?_)
  refine lv_aload_n hx hb dL_isSo_962 rfl (lv_at hl 8 rfl) ?_
  refine lv_iload hx hb dL_isSo_963 (lv_at hl 7 rfl) ?_
  obtain ⟨⟨st0, w0⟩, e0, hp0⟩ := A_least (st := st) (w := w) CHH hp (x := cN (leB (wS sg n)) 256) (Nat.lt_of_le_of_lt (cN_max _ _) (by decide))
  rw [lsN_cN, if_neg (Nat.lt_irrefl _)] at e0
  refine lw_compi (wcs := [(wPCo p70 b7 c7 d7 e7 h7 k7 st), (wSet cy b7 v), (wPow cy c7 w)]) (wns := fun u8 => [(wPCo p70 b7 c7 d7 e7 h7 k7 u8.1), (wSet cy b7 v), (wPow cy c7 u8.2)]) (W2 := fun u8 => [(wPCo p70 b7 c7 d7 e7 h7 k7 u8.1), (wSet cy b7 v), (wPow cy c7 u8.2), (wTxt cy g k7 tx), (wI cy gA0 3 ga), (wI cy wA0 8 wa), (wI cy lA0 8 la), (wI cy rA0 4 ra), (wL cy tA0 4 (tabF (wS sg n) 256))]) (vx_runSW (As := [.ref p70, .int (nI (cN (leB (wS sg n)) 256))]) (rest := []) S (c_L_leastOf l hl0 D cy g B p70 b7 c7 d7 e7 h7 k7 st v w (nI (cN (leB (wS sg n)) 256)) (fun k h => k_least h)) (vx_cwSW 2 hts gL_isSo_L_leastOf rfl rfl rfl hd_L_leastOf_S ⟨Nat.le_of_ble_eq_true rfl, Nat.le_of_ble_eq_true rfl⟩) ⟨lwP_blind, my_preL (wcs := [(wPCo p70 b7 c7 d7 e7 h7 k7 st), (wSet cy b7 v), (wPow cy c7 w)]) hK0 hNc hS hAB hP hD [0, 1, 2] (by decide) rfl rfl⟩ rfl rfl hl.1 rfl (lv_room (Nat.le_of_ble_eq_true rfl)) dL_isSo_965 ⟨(show cq + 1 ≤ 800 by omega), (show sq + 6 ≤ 4900 by omega)⟩) hS hP hD [0, 1, 2] rfl rfl (fun _ => rfl) (fun _ => by simp only [List.map_cons, List.map_nil, adrSet, adrSetE, adrPow, adrPowE, adrTxt, adrTxtE, adrSav, adrSavE, adrPCo, adrI, adrL]) (fun _ => rfl) (fun r9 u9 H locs hw hP hD hS => ?_)
  obtain ⟨rfl, rfl⟩ := Prod.mk.inj (e0.symm.trans hw)
  have hP : va_P D vwCl (List.flatten [(wPCo p70 b7 c7 d7 e7 h7 k7 st0), (wSet cy b7 v), (wPow cy c7 w0), (wTxt cy g k7 tx), (wI cy gA0 3 ga), (wI cy wA0 8 wa), (wI cy lA0 8 la), (wI cy rA0 4 ra), (wL cy tA0 4 (tabF (wS sg n) 256))]) H := hP
  have hD : va_D A (List.flatten [(wPCo p70 b7 c7 d7 e7 h7 k7 st0), (wSet cy b7 v), (wPow cy c7 w0), (wTxt cy g k7 tx), (wI cy gA0 3 ga), (wI cy wA0 8 wa), (wI cy lA0 8 la), (wI cy rA0 4 ra), (wL cy tA0 4 (tabF (wS sg n) 256))]) := hD
  refine lv_iconst (v := (-1)) hx hb dL_isSo_968 (by decide) ?_
  refine lv_icmp_ne (tgt := 1106) hx hb dL_isSo_969 (by decide) (fun h9 => absurd rfl h9) (fun _ => ?_)
  refine lv_aload_n hx hb dL_isSo_972 rfl (lv_at hl 8 rfl) ?_
  refine lv_iconst (v := 0) hx hb dL_isSo_973 (by decide) ?_
  obtain ⟨⟨st1, w1⟩, he1, hp1⟩ := A_whole (st := st0) (w := w0) CHH hp0 tx (t := 0) (by decide)
  rw [wo0, show ((sg 0) : Int32) = (nI n) from hN.1] at he1
  refine lw_compi (wcs := [(wPCo p70 b7 c7 d7 e7 h7 k7 st0), (wSet cy b7 v), (wPow cy c7 w0), (wTxt cy g k7 tx)]) (wns := fun u8 => [(wPCo p70 b7 c7 d7 e7 h7 k7 u8.1), (wSet cy b7 v), (wPow cy c7 u8.2), (wTxt cy g k7 tx)]) (W2 := fun u8 => [(wPCo p70 b7 c7 d7 e7 h7 k7 u8.1), (wSet cy b7 v), (wPow cy c7 u8.2), (wTxt cy g k7 tx), (wI cy gA0 3 ga), (wI cy wA0 8 wa), (wI cy lA0 8 la), (wI cy rA0 4 ra), (wL cy tA0 4 (tabF (wS sg n) 256))]) (vx_runSW (As := [.ref p70, .int 0]) (rest := []) S (c_L_wholeOf l hl0 D cy g B p70 b7 c7 d7 e7 h7 k7 st0 v w0 tx 0 (fun k h => k_whole h)) (vx_cwSW 2 hts gL_isSo_L_wholeOf rfl rfl rfl hd_L_wholeOf_S ⟨Nat.le_of_ble_eq_true rfl, Nat.le_of_ble_eq_true rfl⟩) ⟨lwP_blind, my_preL (wcs := [(wPCo p70 b7 c7 d7 e7 h7 k7 st0), (wSet cy b7 v), (wPow cy c7 w0), (wTxt cy g k7 tx)]) hK0 hNc hS hAB hP hD [0, 1, 2, 3] (by decide) rfl rfl⟩ rfl rfl hl.1 rfl (lv_room (Nat.le_of_ble_eq_true rfl)) dL_isSo_974 ⟨(show cq + 2 ≤ 800 by omega), (show sq + 12 ≤ 4900 by omega)⟩) hS hP hD [0, 1, 2, 3] rfl rfl (fun _ => rfl) (fun _ => by simp only [List.map_cons, List.map_nil, adrSet, adrSetE, adrPow, adrPowE, adrTxt, adrTxtE, adrSav, adrSavE, adrPCo, adrI, adrL]) (fun _ => rfl) (fun r9 u9 H locs hw hP hD hS => ?_)
  obtain ⟨rfl, rfl⟩ := Prod.mk.inj (he1.symm.trans hw)
  have hP : va_P D vwCl (List.flatten [(wPCo p70 b7 c7 d7 e7 h7 k7 st1), (wSet cy b7 v), (wPow cy c7 w1), (wTxt cy g k7 tx), (wI cy gA0 3 ga), (wI cy wA0 8 wa), (wI cy lA0 8 la), (wI cy rA0 4 ra), (wL cy tA0 4 (tabF (wS sg n) 256))]) H := hP
  have hD : va_D A (List.flatten [(wPCo p70 b7 c7 d7 e7 h7 k7 st1), (wSet cy b7 v), (wPow cy c7 w1), (wTxt cy g k7 tx), (wI cy gA0 3 ga), (wI cy wA0 8 wa), (wI cy lA0 8 la), (wI cy rA0 4 ra), (wL cy tA0 4 (tabF (wS sg n) 256))]) := hD
  refine lv_aload_n hx hb dL_isSo_977 rfl (lv_at hl 9 rfl) ?_
  refine lv_iconst (v := 0) hx hb dL_isSo_978 (by decide) ?_
  refine wk_ia hx hb hK0.1 hP 28 0 (k := 0) (v := (nI n)) rfl rfl (by decide) (by decide) hAG.1 dL_isSo_979 ?_
  refine lv_icmp_ne (tgt := 1106) hx hb dL_isSo_980 (by decide) (fun h9 => absurd rfl h9) (fun _ => ?_)
  refine lv_aload_n hx hb dL_isSo_983 rfl (lv_at hl 8 rfl) ?_
  refine lv_iconst (v := 1) hx hb dL_isSo_984 (by decide) ?_
  obtain ⟨⟨st2, w2⟩, he2, hp2⟩ := A_whole (st := st1) (w := w1) CHH hp1 tx (t := 1) (by decide)
  rw [wo1] at he2
  refine lw_compi (wcs := [(wPCo p70 b7 c7 d7 e7 h7 k7 st1), (wSet cy b7 v), (wPow cy c7 w1), (wTxt cy g k7 tx)]) (wns := fun u8 => [(wPCo p70 b7 c7 d7 e7 h7 k7 u8.1), (wSet cy b7 v), (wPow cy c7 u8.2), (wTxt cy g k7 tx)]) (W2 := fun u8 => [(wPCo p70 b7 c7 d7 e7 h7 k7 u8.1), (wSet cy b7 v), (wPow cy c7 u8.2), (wTxt cy g k7 tx), (wI cy gA0 3 ga), (wI cy wA0 8 wa), (wI cy lA0 8 la), (wI cy rA0 4 ra), (wL cy tA0 4 (tabF (wS sg n) 256))]) (vx_runSW (As := [.ref p70, .int 1]) (rest := []) S (c_L_wholeOf l hl0 D cy g B p70 b7 c7 d7 e7 h7 k7 st1 v w1 tx 1 (fun k h => k_whole h)) (vx_cwSW 2 hts gL_isSo_L_wholeOf rfl rfl rfl hd_L_wholeOf_S ⟨Nat.le_of_ble_eq_true rfl, Nat.le_of_ble_eq_true rfl⟩) ⟨lwP_blind, my_preL (wcs := [(wPCo p70 b7 c7 d7 e7 h7 k7 st1), (wSet cy b7 v), (wPow cy c7 w1), (wTxt cy g k7 tx)]) hK0 hNc hS hAB hP hD [0, 1, 2, 3] (by decide) rfl rfl⟩ rfl rfl hl.1 rfl (lv_room (Nat.le_of_ble_eq_true rfl)) dL_isSo_985 ⟨(show cq + 3 ≤ 800 by omega), (show sq + 18 ≤ 4900 by omega)⟩) hS hP hD [0, 1, 2, 3] rfl rfl (fun _ => rfl) (fun _ => by simp only [List.map_cons, List.map_nil, adrSet, adrSetE, adrPow, adrPowE, adrTxt, adrTxtE, adrSav, adrSavE, adrPCo, adrI, adrL]) (fun _ => rfl) (fun r9 u9 H locs hw hP hD hS => ?_)
  obtain ⟨rfl, rfl⟩ := Prod.mk.inj (he2.symm.trans hw)
  have hP : va_P D vwCl (List.flatten [(wPCo p70 b7 c7 d7 e7 h7 k7 st2), (wSet cy b7 v), (wPow cy c7 w2), (wTxt cy g k7 tx), (wI cy gA0 3 ga), (wI cy wA0 8 wa), (wI cy lA0 8 la), (wI cy rA0 4 ra), (wL cy tA0 4 (tabF (wS sg n) 256))]) H := hP
  have hD : va_D A (List.flatten [(wPCo p70 b7 c7 d7 e7 h7 k7 st2), (wSet cy b7 v), (wPow cy c7 w2), (wTxt cy g k7 tx), (wI cy gA0 3 ga), (wI cy wA0 8 wa), (wI cy lA0 8 la), (wI cy rA0 4 ra), (wL cy tA0 4 (tabF (wS sg n) 256))]) := hD
  refine lv_iload hx hb dL_isSo_988 (lv_at hl 14 rfl) ?_
  refine rd_goi (va_runS (As := [.int (nI (plN sg n))]) (rest := [.int (f_X8_ones (nI (plN sg n)))]) S (c_L_ones l D cy g B _) (va_cwS 1 hts gL_isSo_L_ones rfl rfl rfl hd_L_ones_S ⟨Nat.le_of_ble_eq_true rfl, Nat.le_of_ble_eq_true rfl⟩) ⟨rdP_blind, my_preV hK0 hS hAB hP [] rfl⟩ rfl rfl hl.1 rfl (lv_room (Nat.le_of_ble_eq_true rfl)) dL_isSo_990 ⟨(show cq + 3 ≤ 800 by omega), (show sq + 18 ≤ 4900 by omega)⟩) ?_
  refine wk_ti (v := (f_X8_ones (nI (plN sg n)))) (ones_law _) ?_
  refine lv_icmp_ne (tgt := 1106) hx hb dL_isSo_993 (by decide) (fun h9 => absurd rfl h9) (fun _ => ?_)
  refine lv_aload_n hx hb dL_isSo_996 rfl (lv_at hl 8 rfl) ?_
  refine lv_iconst (v := 2) hx hb dL_isSo_997 (by decide) ?_
  obtain ⟨⟨st3, w3⟩, he3, hp3⟩ := A_whole (st := st2) (w := w2) CHH hp2 tx (t := 2) (by decide)
  rw [wo2] at he3
  refine lw_compi (wcs := [(wPCo p70 b7 c7 d7 e7 h7 k7 st2), (wSet cy b7 v), (wPow cy c7 w2), (wTxt cy g k7 tx)]) (wns := fun u8 => [(wPCo p70 b7 c7 d7 e7 h7 k7 u8.1), (wSet cy b7 v), (wPow cy c7 u8.2), (wTxt cy g k7 tx)]) (W2 := fun u8 => [(wPCo p70 b7 c7 d7 e7 h7 k7 u8.1), (wSet cy b7 v), (wPow cy c7 u8.2), (wTxt cy g k7 tx), (wI cy gA0 3 ga), (wI cy wA0 8 wa), (wI cy lA0 8 la), (wI cy rA0 4 ra), (wL cy tA0 4 (tabF (wS sg n) 256))]) (vx_runSW (As := [.ref p70, .int 2]) (rest := []) S (c_L_wholeOf l hl0 D cy g B p70 b7 c7 d7 e7 h7 k7 st2 v w2 tx 2 (fun k h => k_whole h)) (vx_cwSW 2 hts gL_isSo_L_wholeOf rfl rfl rfl hd_L_wholeOf_S ⟨Nat.le_of_ble_eq_true rfl, Nat.le_of_ble_eq_true rfl⟩) ⟨lwP_blind, my_preL (wcs := [(wPCo p70 b7 c7 d7 e7 h7 k7 st2), (wSet cy b7 v), (wPow cy c7 w2), (wTxt cy g k7 tx)]) hK0 hNc hS hAB hP hD [0, 1, 2, 3] (by decide) rfl rfl⟩ rfl rfl hl.1 rfl (lv_room (Nat.le_of_ble_eq_true rfl)) dL_isSo_998 ⟨(show cq + 4 ≤ 800 by omega), (show sq + 24 ≤ 4900 by omega)⟩) hS hP hD [0, 1, 2, 3] rfl rfl (fun _ => rfl) (fun _ => by simp only [List.map_cons, List.map_nil, adrSet, adrSetE, adrPow, adrPowE, adrTxt, adrTxtE, adrSav, adrSavE, adrPCo, adrI, adrL]) (fun _ => rfl) (fun r9 u9 H locs hw hP hD hS => ?_)
  obtain ⟨rfl, rfl⟩ := Prod.mk.inj (he3.symm.trans hw)
  have hP : va_P D vwCl (List.flatten [(wPCo p70 b7 c7 d7 e7 h7 k7 st3), (wSet cy b7 v), (wPow cy c7 w3), (wTxt cy g k7 tx), (wI cy gA0 3 ga), (wI cy wA0 8 wa), (wI cy lA0 8 la), (wI cy rA0 4 ra), (wL cy tA0 4 (tabF (wS sg n) 256))]) H := hP
  have hD : va_D A (List.flatten [(wPCo p70 b7 c7 d7 e7 h7 k7 st3), (wSet cy b7 v), (wPow cy c7 w3), (wTxt cy g k7 tx), (wI cy gA0 3 ga), (wI cy wA0 8 wa), (wI cy lA0 8 la), (wI cy rA0 4 ra), (wL cy tA0 4 (tabF (wS sg n) 256))]) := hD
  refine lv_aload_n hx hb dL_isSo_1001 rfl (lv_at hl 9 rfl) ?_
  refine lv_iconst (v := 1) hx hb dL_isSo_1002 (by decide) ?_
  refine wk_ia hx hb hK0.1 hP 28 0 (k := 1) (v := (sg 1)) rfl rfl (by decide) (by decide) hAG.2.1 dL_isSo_1003 ?_
  refine lv_icmp_ne (tgt := 1106) hx hb dL_isSo_1004 (by decide) (fun h9 => absurd rfl h9) (fun _ => ?_)
  refine lv_aload_n hx hb dL_isSo_1007 rfl (lv_at hl 8 rfl) ?_
  refine lv_iconst (v := 3) hx hb dL_isSo_1008 (by decide) ?_
  obtain ⟨⟨st4, w4⟩, he4, hp4⟩ := A_whole (st := st3) (w := w3) CHH hp3 tx (t := 3) (by decide)
  rw [wo3, show ((sg 2) : Int32) = (nI r) from hN.2.2.1] at he4
  refine lw_compi (wcs := [(wPCo p70 b7 c7 d7 e7 h7 k7 st3), (wSet cy b7 v), (wPow cy c7 w3), (wTxt cy g k7 tx)]) (wns := fun u8 => [(wPCo p70 b7 c7 d7 e7 h7 k7 u8.1), (wSet cy b7 v), (wPow cy c7 u8.2), (wTxt cy g k7 tx)]) (W2 := fun u8 => [(wPCo p70 b7 c7 d7 e7 h7 k7 u8.1), (wSet cy b7 v), (wPow cy c7 u8.2), (wTxt cy g k7 tx), (wI cy gA0 3 ga), (wI cy wA0 8 wa), (wI cy lA0 8 la), (wI cy rA0 4 ra), (wL cy tA0 4 (tabF (wS sg n) 256))]) (vx_runSW (As := [.ref p70, .int 3]) (rest := []) S (c_L_wholeOf l hl0 D cy g B p70 b7 c7 d7 e7 h7 k7 st3 v w3 tx 3 (fun k h => k_whole h)) (vx_cwSW 2 hts gL_isSo_L_wholeOf rfl rfl rfl hd_L_wholeOf_S ⟨Nat.le_of_ble_eq_true rfl, Nat.le_of_ble_eq_true rfl⟩) ⟨lwP_blind, my_preL (wcs := [(wPCo p70 b7 c7 d7 e7 h7 k7 st3), (wSet cy b7 v), (wPow cy c7 w3), (wTxt cy g k7 tx)]) hK0 hNc hS hAB hP hD [0, 1, 2, 3] (by decide) rfl rfl⟩ rfl rfl hl.1 rfl (lv_room (Nat.le_of_ble_eq_true rfl)) dL_isSo_1009 ⟨(show cq + 5 ≤ 800 by omega), (show sq + 30 ≤ 4900 by omega)⟩) hS hP hD [0, 1, 2, 3] rfl rfl (fun _ => rfl) (fun _ => by simp only [List.map_cons, List.map_nil, adrSet, adrSetE, adrPow, adrPowE, adrTxt, adrTxtE, adrSav, adrSavE, adrPCo, adrI, adrL]) (fun _ => rfl) (fun r9 u9 H locs hw hP hD hS => ?_)
  obtain ⟨rfl, rfl⟩ := Prod.mk.inj (he4.symm.trans hw)
  have hP : va_P D vwCl (List.flatten [(wPCo p70 b7 c7 d7 e7 h7 k7 st4), (wSet cy b7 v), (wPow cy c7 w4), (wTxt cy g k7 tx), (wI cy gA0 3 ga), (wI cy wA0 8 wa), (wI cy lA0 8 la), (wI cy rA0 4 ra), (wL cy tA0 4 (tabF (wS sg n) 256))]) H := hP
  have hD : va_D A (List.flatten [(wPCo p70 b7 c7 d7 e7 h7 k7 st4), (wSet cy b7 v), (wPow cy c7 w4), (wTxt cy g k7 tx), (wI cy gA0 3 ga), (wI cy wA0 8 wa), (wI cy lA0 8 la), (wI cy rA0 4 ra), (wL cy tA0 4 (tabF (wS sg n) 256))]) := hD
  refine lv_aload_n hx hb dL_isSo_1012 rfl (lv_at hl 9 rfl) ?_
  refine lv_iconst (v := 2) hx hb dL_isSo_1013 (by decide) ?_
  refine wk_ia hx hb hK0.1 hP 28 0 (k := 2) (v := (nI r)) rfl rfl (by decide) (by decide) hAG.2.2.1 dL_isSo_1014 ?_
  refine lv_icmp_ne (tgt := 1106) hx hb dL_isSo_1015 (by decide) (fun h9 => absurd rfl h9) (fun _ => ?_)
  refine lv_aload_n hx hb dL_isSo_1018 rfl (lv_at hl 8 rfl) ?_
  refine lv_iconst (v := 4) hx hb dL_isSo_1019 (by decide) ?_
  obtain ⟨⟨st5, w5⟩, he5, hp5⟩ := A_whole (st := st4) (w := w4) CHH hp4 tx (t := 4) (by decide)
  rw [wo4, show ((f_X8_weightOf sg 255) : Int32) = (nI (wsN sg n)) from (ws_all hN hW).symm] at he5
  refine lw_compi (wcs := [(wPCo p70 b7 c7 d7 e7 h7 k7 st4), (wSet cy b7 v), (wPow cy c7 w4), (wTxt cy g k7 tx)]) (wns := fun u8 => [(wPCo p70 b7 c7 d7 e7 h7 k7 u8.1), (wSet cy b7 v), (wPow cy c7 u8.2), (wTxt cy g k7 tx)]) (W2 := fun u8 => [(wPCo p70 b7 c7 d7 e7 h7 k7 u8.1), (wSet cy b7 v), (wPow cy c7 u8.2), (wTxt cy g k7 tx), (wI cy gA0 3 ga), (wI cy wA0 8 wa), (wI cy lA0 8 la), (wI cy rA0 4 ra), (wL cy tA0 4 (tabF (wS sg n) 256))]) (vx_runSW (As := [.ref p70, .int 4]) (rest := []) S (c_L_wholeOf l hl0 D cy g B p70 b7 c7 d7 e7 h7 k7 st4 v w4 tx 4 (fun k h => k_whole h)) (vx_cwSW 2 hts gL_isSo_L_wholeOf rfl rfl rfl hd_L_wholeOf_S ⟨Nat.le_of_ble_eq_true rfl, Nat.le_of_ble_eq_true rfl⟩) ⟨lwP_blind, my_preL (wcs := [(wPCo p70 b7 c7 d7 e7 h7 k7 st4), (wSet cy b7 v), (wPow cy c7 w4), (wTxt cy g k7 tx)]) hK0 hNc hS hAB hP hD [0, 1, 2, 3] (by decide) rfl rfl⟩ rfl rfl hl.1 rfl (lv_room (Nat.le_of_ble_eq_true rfl)) dL_isSo_1020 ⟨(show cq + 6 ≤ 800 by omega), (show sq + 36 ≤ 4900 by omega)⟩) hS hP hD [0, 1, 2, 3] rfl rfl (fun _ => rfl) (fun _ => by simp only [List.map_cons, List.map_nil, adrSet, adrSetE, adrPow, adrPowE, adrTxt, adrTxtE, adrSav, adrSavE, adrPCo, adrI, adrL]) (fun _ => rfl) (fun r9 u9 H locs hw hP hD hS => ?_)
  obtain ⟨rfl, rfl⟩ := Prod.mk.inj (he5.symm.trans hw)
  have hP : va_P D vwCl (List.flatten [(wPCo p70 b7 c7 d7 e7 h7 k7 st5), (wSet cy b7 v), (wPow cy c7 w5), (wTxt cy g k7 tx), (wI cy gA0 3 ga), (wI cy wA0 8 wa), (wI cy lA0 8 la), (wI cy rA0 4 ra), (wL cy tA0 4 (tabF (wS sg n) 256))]) H := hP
  have hD : va_D A (List.flatten [(wPCo p70 b7 c7 d7 e7 h7 k7 st5), (wSet cy b7 v), (wPow cy c7 w5), (wTxt cy g k7 tx), (wI cy gA0 3 ga), (wI cy wA0 8 wa), (wI cy lA0 8 la), (wI cy rA0 4 ra), (wL cy tA0 4 (tabF (wS sg n) 256))]) := hD
  refine lv_iload hx hb dL_isSo_1023 (lv_at hl 2 rfl) ?_
  refine lv_icmp_ne (tgt := 1106) hx hb dL_isSo_1025 (by decide) (fun h9 => absurd rfl h9) (fun _ => ?_)
  refine lv_aload_n hx hb dL_isSo_1028 rfl (lv_at hl 8 rfl) ?_
  refine lv_iconst (v := 5) hx hb dL_isSo_1029 (by decide) ?_
  obtain ⟨⟨st6, w6⟩, he6, hp6⟩ := A_whole (st := st5) (w := w5) CHH hp5 tx (t := 5) (by decide)
  rw [wo5, show ((f_X8_many (bW sg n) 0) : Int32) = (nI (cN (wS sg n) 256)) from ((many_W0 (W := wS sg n) (fun _ _ => rfl)).trans (ctF_nI _ _))] at he6
  refine lw_compi (wcs := [(wPCo p70 b7 c7 d7 e7 h7 k7 st5), (wSet cy b7 v), (wPow cy c7 w5), (wTxt cy g k7 tx)]) (wns := fun u8 => [(wPCo p70 b7 c7 d7 e7 h7 k7 u8.1), (wSet cy b7 v), (wPow cy c7 u8.2), (wTxt cy g k7 tx)]) (W2 := fun u8 => [(wPCo p70 b7 c7 d7 e7 h7 k7 u8.1), (wSet cy b7 v), (wPow cy c7 u8.2), (wTxt cy g k7 tx), (wI cy gA0 3 ga), (wI cy wA0 8 wa), (wI cy lA0 8 la), (wI cy rA0 4 ra), (wL cy tA0 4 (tabF (wS sg n) 256))]) (vx_runSW (As := [.ref p70, .int 5]) (rest := []) S (c_L_wholeOf l hl0 D cy g B p70 b7 c7 d7 e7 h7 k7 st5 v w5 tx 5 (fun k h => k_whole h)) (vx_cwSW 2 hts gL_isSo_L_wholeOf rfl rfl rfl hd_L_wholeOf_S ⟨Nat.le_of_ble_eq_true rfl, Nat.le_of_ble_eq_true rfl⟩) ⟨lwP_blind, my_preL (wcs := [(wPCo p70 b7 c7 d7 e7 h7 k7 st5), (wSet cy b7 v), (wPow cy c7 w5), (wTxt cy g k7 tx)]) hK0 hNc hS hAB hP hD [0, 1, 2, 3] (by decide) rfl rfl⟩ rfl rfl hl.1 rfl (lv_room (Nat.le_of_ble_eq_true rfl)) dL_isSo_1030 ⟨(show cq + 7 ≤ 800 by omega), (show sq + 42 ≤ 4900 by omega)⟩) hS hP hD [0, 1, 2, 3] rfl rfl (fun _ => rfl) (fun _ => by simp only [List.map_cons, List.map_nil, adrSet, adrSetE, adrPow, adrPowE, adrTxt, adrTxtE, adrSav, adrSavE, adrPCo, adrI, adrL]) (fun _ => rfl) (fun r9 u9 H locs hw hP hD hS => ?_)
  obtain ⟨rfl, rfl⟩ := Prod.mk.inj (he6.symm.trans hw)
  have hP : va_P D vwCl (List.flatten [(wPCo p70 b7 c7 d7 e7 h7 k7 st6), (wSet cy b7 v), (wPow cy c7 w6), (wTxt cy g k7 tx), (wI cy gA0 3 ga), (wI cy wA0 8 wa), (wI cy lA0 8 la), (wI cy rA0 4 ra), (wL cy tA0 4 (tabF (wS sg n) 256))]) H := hP
  have hD : va_D A (List.flatten [(wPCo p70 b7 c7 d7 e7 h7 k7 st6), (wSet cy b7 v), (wPow cy c7 w6), (wTxt cy g k7 tx), (wI cy gA0 3 ga), (wI cy wA0 8 wa), (wI cy lA0 8 la), (wI cy rA0 4 ra), (wL cy tA0 4 (tabF (wS sg n) 256))]) := hD
  refine lv_iload hx hb dL_isSo_1033 (lv_at hl 6 rfl) ?_
  refine lv_icmp_ne (tgt := 1106) hx hb dL_isSo_1035 (by decide) (fun h9 => absurd rfl h9) (fun _ => ?_)
  refine lv_aload_n hx hb dL_isSo_1038 rfl (lv_at hl 8 rfl) ?_
  refine lv_bipush (v := 6) hx hb dL_isSo_1039 (by decide) ?_
  obtain ⟨⟨st7, w7⟩, he7, hp7⟩ := A_whole (st := st6) (w := w6) CHH hp6 tx (t := 6) (by decide)
  rw [wo6, show ((f_X8_many (bW sg n) 1) : Int32) = (nI (cN (leB (wS sg n)) 256)) from ((many_W1 (W := wS sg n) (fun _ _ => rfl)).trans (ctF_nI _ _))] at he7
  refine lw_compi (wcs := [(wPCo p70 b7 c7 d7 e7 h7 k7 st6), (wSet cy b7 v), (wPow cy c7 w6), (wTxt cy g k7 tx)]) (wns := fun u8 => [(wPCo p70 b7 c7 d7 e7 h7 k7 u8.1), (wSet cy b7 v), (wPow cy c7 u8.2), (wTxt cy g k7 tx)]) (W2 := fun u8 => [(wPCo p70 b7 c7 d7 e7 h7 k7 u8.1), (wSet cy b7 v), (wPow cy c7 u8.2), (wTxt cy g k7 tx), (wI cy gA0 3 ga), (wI cy wA0 8 wa), (wI cy lA0 8 la), (wI cy rA0 4 ra), (wL cy tA0 4 (tabF (wS sg n) 256))]) (vx_runSW (As := [.ref p70, .int 6]) (rest := []) S (c_L_wholeOf l hl0 D cy g B p70 b7 c7 d7 e7 h7 k7 st6 v w6 tx 6 (fun k h => k_whole h)) (vx_cwSW 2 hts gL_isSo_L_wholeOf rfl rfl rfl hd_L_wholeOf_S ⟨Nat.le_of_ble_eq_true rfl, Nat.le_of_ble_eq_true rfl⟩) ⟨lwP_blind, my_preL (wcs := [(wPCo p70 b7 c7 d7 e7 h7 k7 st6), (wSet cy b7 v), (wPow cy c7 w6), (wTxt cy g k7 tx)]) hK0 hNc hS hAB hP hD [0, 1, 2, 3] (by decide) rfl rfl⟩ rfl rfl hl.1 rfl (lv_room (Nat.le_of_ble_eq_true rfl)) dL_isSo_1041 ⟨(show cq + 8 ≤ 800 by omega), (show sq + 48 ≤ 4900 by omega)⟩) hS hP hD [0, 1, 2, 3] rfl rfl (fun _ => rfl) (fun _ => by simp only [List.map_cons, List.map_nil, adrSet, adrSetE, adrPow, adrPowE, adrTxt, adrTxtE, adrSav, adrSavE, adrPCo, adrI, adrL]) (fun _ => rfl) (fun r9 u9 H locs hw hP hD hS => ?_)
  obtain ⟨rfl, rfl⟩ := Prod.mk.inj (he7.symm.trans hw)
  have hP : va_P D vwCl (List.flatten [(wPCo p70 b7 c7 d7 e7 h7 k7 st7), (wSet cy b7 v), (wPow cy c7 w7), (wTxt cy g k7 tx), (wI cy gA0 3 ga), (wI cy wA0 8 wa), (wI cy lA0 8 la), (wI cy rA0 4 ra), (wL cy tA0 4 (tabF (wS sg n) 256))]) H := hP
  have hD : va_D A (List.flatten [(wPCo p70 b7 c7 d7 e7 h7 k7 st7), (wSet cy b7 v), (wPow cy c7 w7), (wTxt cy g k7 tx), (wI cy gA0 3 ga), (wI cy wA0 8 wa), (wI cy lA0 8 la), (wI cy rA0 4 ra), (wL cy tA0 4 (tabF (wS sg n) 256))]) := hD
  refine lv_iload hx hb dL_isSo_1044 (lv_at hl 7 rfl) ?_
  refine lv_icmp_ne (tgt := 1106) hx hb dL_isSo_1046 (by decide) (fun h9 => absurd rfl h9) (fun _ => ?_)
  refine lv_aload_n hx hb dL_isSo_1049 rfl (lv_at hl 8 rfl) ?_
  refine lv_bipush (v := 7) hx hb dL_isSo_1050 (by decide) ?_
  obtain ⟨⟨st8, w8⟩, he8, hp8⟩ := A_whole (st := st7) (w := w7) CHH hp7 tx (t := 7) (by decide)
  rw [wo7, show ((f_X8_allSwings (bW sg n)) : Int32) = (allF (wS sg n) 256) from (allSw_W (W := wS sg n) (fun _ _ => rfl))] at he8
  refine lw_compi (wcs := [(wPCo p70 b7 c7 d7 e7 h7 k7 st7), (wSet cy b7 v), (wPow cy c7 w7), (wTxt cy g k7 tx)]) (wns := fun u8 => [(wPCo p70 b7 c7 d7 e7 h7 k7 u8.1), (wSet cy b7 v), (wPow cy c7 u8.2), (wTxt cy g k7 tx)]) (W2 := fun u8 => [(wPCo p70 b7 c7 d7 e7 h7 k7 u8.1), (wSet cy b7 v), (wPow cy c7 u8.2), (wTxt cy g k7 tx), (wI cy gA0 3 ga), (wI cy wA0 8 wa), (wI cy lA0 8 la), (wI cy rA0 4 ra), (wL cy tA0 4 (tabF (wS sg n) 256))]) (vx_runSW (As := [.ref p70, .int 7]) (rest := []) S (c_L_wholeOf l hl0 D cy g B p70 b7 c7 d7 e7 h7 k7 st7 v w7 tx 7 (fun k h => k_whole h)) (vx_cwSW 2 hts gL_isSo_L_wholeOf rfl rfl rfl hd_L_wholeOf_S ⟨Nat.le_of_ble_eq_true rfl, Nat.le_of_ble_eq_true rfl⟩) ⟨lwP_blind, my_preL (wcs := [(wPCo p70 b7 c7 d7 e7 h7 k7 st7), (wSet cy b7 v), (wPow cy c7 w7), (wTxt cy g k7 tx)]) hK0 hNc hS hAB hP hD [0, 1, 2, 3] (by decide) rfl rfl⟩ rfl rfl hl.1 rfl (lv_room (Nat.le_of_ble_eq_true rfl)) dL_isSo_1052 ⟨(show cq + 9 ≤ 800 by omega), (show sq + 54 ≤ 4900 by omega)⟩) hS hP hD [0, 1, 2, 3] rfl rfl (fun _ => rfl) (fun _ => by simp only [List.map_cons, List.map_nil, adrSet, adrSetE, adrPow, adrPowE, adrTxt, adrTxtE, adrSav, adrSavE, adrPCo, adrI, adrL]) (fun _ => rfl) (fun r9 u9 H locs hw hP hD hS => ?_)
  obtain ⟨rfl, rfl⟩ := Prod.mk.inj (he8.symm.trans hw)
  have hP : va_P D vwCl (List.flatten [(wPCo p70 b7 c7 d7 e7 h7 k7 st8), (wSet cy b7 v), (wPow cy c7 w8), (wTxt cy g k7 tx), (wI cy gA0 3 ga), (wI cy wA0 8 wa), (wI cy lA0 8 la), (wI cy rA0 4 ra), (wL cy tA0 4 (tabF (wS sg n) 256))]) H := hP
  have hD : va_D A (List.flatten [(wPCo p70 b7 c7 d7 e7 h7 k7 st8), (wSet cy b7 v), (wPow cy c7 w8), (wTxt cy g k7 tx), (wI cy gA0 3 ga), (wI cy wA0 8 wa), (wI cy lA0 8 la), (wI cy rA0 4 ra), (wL cy tA0 4 (tabF (wS sg n) 256))]) := hD
  refine lv_iload hx hb dL_isSo_1055 (lv_at hl 15 rfl) ?_
  refine lv_icmp_ne (tgt := 1106) hx hb dL_isSo_1057 (by decide) (fun h9 => absurd rfl h9) (fun _ => ?_)
  refine lv_aload_n hx hb dL_isSo_1060 rfl (lv_at hl 8 rfl) ?_
  refine lv_bipush (v := 8) hx hb dL_isSo_1061 (by decide) ?_
  obtain ⟨⟨st9, w9⟩, he9, hp9⟩ := A_whole (st := st8) (w := w8) CHH hp8 tx (t := 8) (by decide)
  rw [wo8, show ((f_X8_dummies sg (bW sg n)) : Int32) = (nI (duN sg n n)) from (dummies_W hN (W := wS sg n) (fun _ _ => rfl))] at he9
  refine lw_compi (wcs := [(wPCo p70 b7 c7 d7 e7 h7 k7 st8), (wSet cy b7 v), (wPow cy c7 w8), (wTxt cy g k7 tx)]) (wns := fun u8 => [(wPCo p70 b7 c7 d7 e7 h7 k7 u8.1), (wSet cy b7 v), (wPow cy c7 u8.2), (wTxt cy g k7 tx)]) (W2 := fun u8 => [(wPCo p70 b7 c7 d7 e7 h7 k7 u8.1), (wSet cy b7 v), (wPow cy c7 u8.2), (wTxt cy g k7 tx), (wI cy gA0 3 ga), (wI cy wA0 8 wa), (wI cy lA0 8 la), (wI cy rA0 4 ra), (wL cy tA0 4 (tabF (wS sg n) 256))]) (vx_runSW (As := [.ref p70, .int 8]) (rest := []) S (c_L_wholeOf l hl0 D cy g B p70 b7 c7 d7 e7 h7 k7 st8 v w8 tx 8 (fun k h => k_whole h)) (vx_cwSW 2 hts gL_isSo_L_wholeOf rfl rfl rfl hd_L_wholeOf_S ⟨Nat.le_of_ble_eq_true rfl, Nat.le_of_ble_eq_true rfl⟩) ⟨lwP_blind, my_preL (wcs := [(wPCo p70 b7 c7 d7 e7 h7 k7 st8), (wSet cy b7 v), (wPow cy c7 w8), (wTxt cy g k7 tx)]) hK0 hNc hS hAB hP hD [0, 1, 2, 3] (by decide) rfl rfl⟩ rfl rfl hl.1 rfl (lv_room (Nat.le_of_ble_eq_true rfl)) dL_isSo_1063 ⟨(show cq + 10 ≤ 800 by omega), (show sq + 60 ≤ 4900 by omega)⟩) hS hP hD [0, 1, 2, 3] rfl rfl (fun _ => rfl) (fun _ => by simp only [List.map_cons, List.map_nil, adrSet, adrSetE, adrPow, adrPowE, adrTxt, adrTxtE, adrSav, adrSavE, adrPCo, adrI, adrL]) (fun _ => rfl) (fun r9 u9 H locs hw hP hD hS => ?_)
  obtain ⟨rfl, rfl⟩ := Prod.mk.inj (he9.symm.trans hw)
  have hP : va_P D vwCl (List.flatten [(wPCo p70 b7 c7 d7 e7 h7 k7 st9), (wSet cy b7 v), (wPow cy c7 w9), (wTxt cy g k7 tx), (wI cy gA0 3 ga), (wI cy wA0 8 wa), (wI cy lA0 8 la), (wI cy rA0 4 ra), (wL cy tA0 4 (tabF (wS sg n) 256))]) H := hP
  have hD : va_D A (List.flatten [(wPCo p70 b7 c7 d7 e7 h7 k7 st9), (wSet cy b7 v), (wPow cy c7 w9), (wTxt cy g k7 tx), (wI cy gA0 3 ga), (wI cy wA0 8 wa), (wI cy lA0 8 la), (wI cy rA0 4 ra), (wL cy tA0 4 (tabF (wS sg n) 256))]) := hD
  refine lv_iload hx hb dL_isSo_1066 (lv_at hl 3 rfl) ?_
  refine lv_icmp_ne (tgt := 1106) hx hb dL_isSo_1068 (by decide) (fun h9 => absurd rfl h9) (fun _ => ?_)
  refine lv_aload_n hx hb dL_isSo_1071 rfl (lv_at hl 8 rfl) ?_
  refine lv_bipush (v := 9) hx hb dL_isSo_1072 (by decide) ?_
  obtain ⟨⟨st10, w10⟩, he10, hp10⟩ := A_whole (st := st9) (w := w9) CHH hp9 tx (t := 9) (by decide)
  rw [wo9, show ((f_X8_needed (nI (plN sg n)) sg (bW sg n)) : Int32) = (nI (neN sg n n)) from (needed_W hN (W := wS sg n) (fun _ _ => rfl) hp256)] at he10
  refine lw_compi (wcs := [(wPCo p70 b7 c7 d7 e7 h7 k7 st9), (wSet cy b7 v), (wPow cy c7 w9), (wTxt cy g k7 tx)]) (wns := fun u8 => [(wPCo p70 b7 c7 d7 e7 h7 k7 u8.1), (wSet cy b7 v), (wPow cy c7 u8.2), (wTxt cy g k7 tx)]) (W2 := fun u8 => [(wPCo p70 b7 c7 d7 e7 h7 k7 u8.1), (wSet cy b7 v), (wPow cy c7 u8.2), (wTxt cy g k7 tx), (wI cy gA0 3 ga), (wI cy wA0 8 wa), (wI cy lA0 8 la), (wI cy rA0 4 ra), (wL cy tA0 4 (tabF (wS sg n) 256))]) (vx_runSW (As := [.ref p70, .int 9]) (rest := []) S (c_L_wholeOf l hl0 D cy g B p70 b7 c7 d7 e7 h7 k7 st9 v w9 tx 9 (fun k h => k_whole h)) (vx_cwSW 2 hts gL_isSo_L_wholeOf rfl rfl rfl hd_L_wholeOf_S ⟨Nat.le_of_ble_eq_true rfl, Nat.le_of_ble_eq_true rfl⟩) ⟨lwP_blind, my_preL (wcs := [(wPCo p70 b7 c7 d7 e7 h7 k7 st9), (wSet cy b7 v), (wPow cy c7 w9), (wTxt cy g k7 tx)]) hK0 hNc hS hAB hP hD [0, 1, 2, 3] (by decide) rfl rfl⟩ rfl rfl hl.1 rfl (lv_room (Nat.le_of_ble_eq_true rfl)) dL_isSo_1074 ⟨(show cq + 11 ≤ 800 by omega), (show sq + 66 ≤ 4900 by omega)⟩) hS hP hD [0, 1, 2, 3] rfl rfl (fun _ => rfl) (fun _ => by simp only [List.map_cons, List.map_nil, adrSet, adrSetE, adrPow, adrPowE, adrTxt, adrTxtE, adrSav, adrSavE, adrPCo, adrI, adrL]) (fun _ => rfl) (fun r9 u9 H locs hw hP hD hS => ?_)
  obtain ⟨rfl, rfl⟩ := Prod.mk.inj (he10.symm.trans hw)
  have hP : va_P D vwCl (List.flatten [(wPCo p70 b7 c7 d7 e7 h7 k7 st10), (wSet cy b7 v), (wPow cy c7 w10), (wTxt cy g k7 tx), (wI cy gA0 3 ga), (wI cy wA0 8 wa), (wI cy lA0 8 la), (wI cy rA0 4 ra), (wL cy tA0 4 (tabF (wS sg n) 256))]) H := hP
  have hD : va_D A (List.flatten [(wPCo p70 b7 c7 d7 e7 h7 k7 st10), (wSet cy b7 v), (wPow cy c7 w10), (wTxt cy g k7 tx), (wI cy gA0 3 ga), (wI cy wA0 8 wa), (wI cy lA0 8 la), (wI cy rA0 4 ra), (wL cy tA0 4 (tabF (wS sg n) 256))]) := hD
  refine lv_iload hx hb dL_isSo_1077 (lv_at hl 4 rfl) ?_
  refine lv_icmp_ne (tgt := 1106) hx hb dL_isSo_1079 (by decide) (fun h9 => absurd rfl h9) (fun _ => ?_)
  refine lv_aload_n hx hb dL_isSo_1082 rfl (lv_at hl 8 rfl) ?_
  refine lv_bipush (v := 10) hx hb dL_isSo_1083 (by decide) ?_
  obtain ⟨⟨st11, w11⟩, he11, hp11⟩ := A_whole (st := st10) (w := w10) CHH hp10 tx (t := 10) (by decide)
  rw [wo10, show ((f_X8_alikeRules sg) : Int32) = (nI (cN (fun a => decide (sg (19 + a) = sg 19)) r)) from (alike_nI hN)] at he11
  refine lw_compi (wcs := [(wPCo p70 b7 c7 d7 e7 h7 k7 st10), (wSet cy b7 v), (wPow cy c7 w10), (wTxt cy g k7 tx)]) (wns := fun u8 => [(wPCo p70 b7 c7 d7 e7 h7 k7 u8.1), (wSet cy b7 v), (wPow cy c7 u8.2), (wTxt cy g k7 tx)]) (W2 := fun u8 => [(wPCo p70 b7 c7 d7 e7 h7 k7 u8.1), (wSet cy b7 v), (wPow cy c7 u8.2), (wTxt cy g k7 tx), (wI cy gA0 3 ga), (wI cy wA0 8 wa), (wI cy lA0 8 la), (wI cy rA0 4 ra), (wL cy tA0 4 (tabF (wS sg n) 256))]) (vx_runSW (As := [.ref p70, .int 10]) (rest := []) S (c_L_wholeOf l hl0 D cy g B p70 b7 c7 d7 e7 h7 k7 st10 v w10 tx 10 (fun k h => k_whole h)) (vx_cwSW 2 hts gL_isSo_L_wholeOf rfl rfl rfl hd_L_wholeOf_S ⟨Nat.le_of_ble_eq_true rfl, Nat.le_of_ble_eq_true rfl⟩) ⟨lwP_blind, my_preL (wcs := [(wPCo p70 b7 c7 d7 e7 h7 k7 st10), (wSet cy b7 v), (wPow cy c7 w10), (wTxt cy g k7 tx)]) hK0 hNc hS hAB hP hD [0, 1, 2, 3] (by decide) rfl rfl⟩ rfl rfl hl.1 rfl (lv_room (Nat.le_of_ble_eq_true rfl)) dL_isSo_1085 ⟨(show cq + 12 ≤ 800 by omega), (show sq + 72 ≤ 4900 by omega)⟩) hS hP hD [0, 1, 2, 3] rfl rfl (fun _ => rfl) (fun _ => by simp only [List.map_cons, List.map_nil, adrSet, adrSetE, adrPow, adrPowE, adrTxt, adrTxtE, adrSav, adrSavE, adrPCo, adrI, adrL]) (fun _ => rfl) (fun r9 u9 H locs hw hP hD hS => ?_)
  obtain ⟨rfl, rfl⟩ := Prod.mk.inj (he11.symm.trans hw)
  have hP : va_P D vwCl (List.flatten [(wPCo p70 b7 c7 d7 e7 h7 k7 st11), (wSet cy b7 v), (wPow cy c7 w11), (wTxt cy g k7 tx), (wI cy gA0 3 ga), (wI cy wA0 8 wa), (wI cy lA0 8 la), (wI cy rA0 4 ra), (wL cy tA0 4 (tabF (wS sg n) 256))]) H := hP
  have hD : va_D A (List.flatten [(wPCo p70 b7 c7 d7 e7 h7 k7 st11), (wSet cy b7 v), (wPow cy c7 w11), (wTxt cy g k7 tx), (wI cy gA0 3 ga), (wI cy wA0 8 wa), (wI cy lA0 8 la), (wI cy rA0 4 ra), (wL cy tA0 4 (tabF (wS sg n) 256))]) := hD
  refine lv_iload hx hb dL_isSo_1088 (lv_at hl 1 rfl) ?_
  refine lv_icmp_ne (tgt := 1106) hx hb dL_isSo_1090 (by decide) (fun h9 => absurd rfl h9) (fun _ => ?_)
  refine lv_aload_n hx hb dL_isSo_1093 rfl (lv_at hl 8 rfl) ?_
  refine lv_bipush (v := 11) hx hb dL_isSo_1094 (by decide) ?_
  obtain ⟨⟨st12, w12⟩, he12, hp12⟩ := A_whole (st := st11) (w := w11) CHH hp11 tx (t := 11) (by decide)
  rw [wo11, show (tx.1 : Int32) = 0 from htx] at he12
  refine lw_compi (wcs := [(wPCo p70 b7 c7 d7 e7 h7 k7 st11), (wSet cy b7 v), (wPow cy c7 w11), (wTxt cy g k7 tx)]) (wns := fun u8 => [(wPCo p70 b7 c7 d7 e7 h7 k7 u8.1), (wSet cy b7 v), (wPow cy c7 u8.2), (wTxt cy g k7 tx)]) (W2 := fun u8 => [(wPCo p70 b7 c7 d7 e7 h7 k7 u8.1), (wSet cy b7 v), (wPow cy c7 u8.2), (wTxt cy g k7 tx), (wI cy gA0 3 ga), (wI cy wA0 8 wa), (wI cy lA0 8 la), (wI cy rA0 4 ra), (wL cy tA0 4 (tabF (wS sg n) 256))]) (vx_runSW (As := [.ref p70, .int 11]) (rest := []) S (c_L_wholeOf l hl0 D cy g B p70 b7 c7 d7 e7 h7 k7 st11 v w11 tx 11 (fun k h => k_whole h)) (vx_cwSW 2 hts gL_isSo_L_wholeOf rfl rfl rfl hd_L_wholeOf_S ⟨Nat.le_of_ble_eq_true rfl, Nat.le_of_ble_eq_true rfl⟩) ⟨lwP_blind, my_preL (wcs := [(wPCo p70 b7 c7 d7 e7 h7 k7 st11), (wSet cy b7 v), (wPow cy c7 w11), (wTxt cy g k7 tx)]) hK0 hNc hS hAB hP hD [0, 1, 2, 3] (by decide) rfl rfl⟩ rfl rfl hl.1 rfl (lv_room (Nat.le_of_ble_eq_true rfl)) dL_isSo_1096 ⟨(show cq + 13 ≤ 800 by omega), (show sq + 78 ≤ 4900 by omega)⟩) hS hP hD [0, 1, 2, 3] rfl rfl (fun _ => rfl) (fun _ => by simp only [List.map_cons, List.map_nil, adrSet, adrSetE, adrPow, adrPowE, adrTxt, adrTxtE, adrSav, adrSavE, adrPCo, adrI, adrL]) (fun _ => rfl) (fun r9 u9 H locs hw hP hD hS => ?_)
  obtain ⟨rfl, rfl⟩ := Prod.mk.inj (he12.symm.trans hw)
  have hP : va_P D vwCl (List.flatten [(wPCo p70 b7 c7 d7 e7 h7 k7 st12), (wSet cy b7 v), (wPow cy c7 w12), (wTxt cy g k7 tx), (wI cy gA0 3 ga), (wI cy wA0 8 wa), (wI cy lA0 8 la), (wI cy rA0 4 ra), (wL cy tA0 4 (tabF (wS sg n) 256))]) H := hP
  have hD : va_D A (List.flatten [(wPCo p70 b7 c7 d7 e7 h7 k7 st12), (wSet cy b7 v), (wPow cy c7 w12), (wTxt cy g k7 tx), (wI cy gA0 3 ga), (wI cy wA0 8 wa), (wI cy lA0 8 la), (wI cy rA0 4 ra), (wL cy tA0 4 (tabF (wS sg n) 256))]) := hD
  refine lv_if_ne (tgt := 1106) hx hb dL_isSo_1099 (by decide) (fun h9 => absurd rfl h9) (fun _ => ?_)
  refine lv_iconst (v := 1) hx hb dL_isSo_1102 (by decide) ?_
  refine lv_goto (tgt := 1107) hx hb dL_isSo_1103 (by decide) ?_
  exact K st12 w12 _ _ H locs ls (by omega) (by omega) hp12 hP hD hS
set_option maxHeartbeats 4000000 in
set_option maxRecDepth 100000 in
theorem so_5 (C : soC p l s m meth c args D cy g B A) (F : soF v tx ga wa la ra sg n r)  {st : Int32} {w : PowV} {cq sq : Nat} {H : Heap} {locs : List Loc} {ls : Array Slot} (hcq : cq ≤ 700) (hsq : sq ≤ 4500) (hp : pwr st sg w) (hP : va_P D vwCl (List.flatten [(wPCo p70 b7 c7 d7 e7 h7 k7 st), (wSet cy b7 v), (wPow cy c7 w), (wTxt cy g k7 tx), (wI cy gA0 3 ga), (wI cy wA0 8 wa), (wI cy lA0 8 la), (wI cy rA0 4 ra), (wL cy tA0 4 (tabF (wS sg n) 256))]) H) (hD : va_D A (List.flatten [(wPCo p70 b7 c7 d7 e7 h7 k7 st), (wSet cy b7 v), (wPow cy c7 w), (wTxt cy g k7 tx), (wI cy gA0 3 ga), (wI cy wA0 8 wa), (wI cy lA0 8 la), (wI cy rA0 4 ra), (wL cy tA0 4 (tabF (wS sg n) 256))])) (hS : va_S A s.heap H locs) (hl : lv_has ls 24 [(14, .int 1), (15, .int (nI (cN (fun a => decide (sg (19 + a) = sg 19)) r))), (8, .int (nI (wsN sg n))), (9, .int (nI (duN sg n n))), (10, .int (nI (neN sg n n))), (11, .int (orK sg n n)), (12, .int (nI (cN (wS sg n) 256))), (13, .int (nI (cN (leB (wS sg n)) 256))), (0, .ref p70), (1, .ref gA0), (2, .ref wA0), (3, .ref lA0), (4, .ref rA0), (5, .ref tA0), (6, .int (nI (plN sg n))), (7, .int (allF (wS sg n) 256))])
    (K : ∀ (st : Int32) (w : PowV) (cq1 sq1 : Nat) (H : Heap) (locs : List Loc) (ls : Array Slot), cq1 ≤ cq + 13 → sq1 ≤ sq + 78 → pwr st sg w → va_P D vwCl (List.flatten [(wPCo p70 b7 c7 d7 e7 h7 k7 st), (wSet cy b7 v), (wPow cy c7 w), (wTxt cy g k7 tx), (wI cy gA0 3 ga), (wI cy wA0 8 wa), (wI cy lA0 8 la), (wI cy rA0 4 ra), (wL cy tA0 4 (tabF (wS sg n) 256))]) H → va_D A (List.flatten [(wPCo p70 b7 c7 d7 e7 h7 k7 st), (wSet cy b7 v), (wPow cy c7 w), (wTxt cy g k7 tx), (wI cy gA0 3 ga), (wI cy wA0 8 wa), (wI cy lA0 8 la), (wI cy rA0 4 ra), (wL cy tA0 4 (tabF (wS sg n) 256))]) → va_S A s.heap H locs → W p l e isoR s m args below meth c H locs cq1 sq1 Q (F0 m 1107 ls [.int 1])) : W p l e isoR s m args below meth c H locs cq sq Q (F0 m 918 ls []) := by
  have C0 := C
  have FF0 := F
  obtain ⟨hl0, hx, hb, hr9, hml, hown, hts, hlk, hK0, hNc, hAB, hA⟩ := C
  obtain ⟨CHH, hAG, htx, hl8⟩ := F
  have hV := CHH.1
  have hN := CHH.2.1
  have hL := CHH.2.2.1
  have hW := CHH.2.2.2.1
  have hR := CHH.2.2.2.2.1
  have h8 : n ≤ 8 := hN.2.1
  have hr4 : r ≤ 4 := hN.2.2.2
  have hp256 := plN_lt (s := sg) h8
  have S := my_fix hx hb hml hown hts
  have hT : ∀ j, j < 256 → f_L_at (tabF (wS sg n) 256) (nI j) = bI (wS sg n j) := fun j hj => at_tab _ hj
  refine lv_iload hx hb dL_isSo_918 (lv_at hl 0 rfl) ?_
  refine lv_if_eq (tgt := 954) hx hb dL_isSo_920 (by decide) (fun h9 => absurd h9 (show ¬ (1 : Int32) = 0 by decide)) (fun _ => ?_)
  refine lv_iload hx hb dL_isSo_923 (lv_at hl 5 rfl) ?_
  refine lv_aload hx hb dL_isSo_925 (lv_at hl 13 rfl) ?_
  refine lv_iload hx hb dL_isSo_927 (lv_at hl 14 rfl) ?_
  obtain ⟨c9, hc9, hc1, hc2⟩ := CHH.2.2.2.2.2
  have hor : orK sg n n = if wS sg n (plN sg n) then f_X8_factorial (f_X8_ones (nI (plN sg n))) else 0 := orders_all hN hL hW hR hc9 hc1 hc2
  refine rd_goi (va_runS (As := [.ref tA0, .int (nI (plN sg n))]) (rest := [.int (orK sg n n)]) S (c_L_at l D cy g B tA0 (tabF (wS sg n) 256) _ (nI_pos (show plN sg n < 2 ^ 31 by omega)) (n256 hp256)) (va_cwS 2 hts gL_isSo_L_at rfl rfl rfl hd_L_at_S ⟨Nat.le_of_ble_eq_true rfl, Nat.le_of_ble_eq_true rfl⟩) ⟨rdP_blind, my_preV hK0 hS hAB hP [32] rfl⟩ rfl rfl hl.1 rfl (lv_room (Nat.le_of_ble_eq_true rfl)) dL_isSo_929 ⟨(show cq + 0 ≤ 800 by omega), (show sq + 0 ≤ 4900 by omega)⟩) ?_
  refine wk_ti (v := (bI (wS sg n (plN sg n)))) (hT _ hp256) ?_
  cases hbb : wS sg n (plN sg n)
  · refine lv_if_eq (tgt := 946) hx hb dL_isSo_932 (by decide) (fun _ => ?_) (fun h9 => absurd (show bI false = 0 from rfl) h9)
    refine lv_iconst (v := 0) hx hb dL_isSo_946 (by decide) ?_
    refine lv_icmp_ne (tgt := 954) hx hb dL_isSo_947 (by decide) (fun h9 => absurd (show orK sg n n = 0 by rw [hor, hbb]; rfl) h9) (fun _ => ?_)
    refine lv_iconst (v := 1) hx hb dL_isSo_950 (by decide) ?_
    refine lv_goto (tgt := 955) hx hb dL_isSo_951 (by decide) ?_
    refine lv_istore (lv' := [(14, .int 1), (15, .int (nI (cN (fun a => decide (sg (19 + a) = sg 19)) r))), (8, .int (nI (wsN sg n))), (9, .int (nI (duN sg n n))), (10, .int (nI (neN sg n n))), (11, .int (orK sg n n)), (12, .int (nI (cN (wS sg n) 256))), (13, .int (nI (cN (leB (wS sg n)) 256))), (0, .ref p70), (1, .ref gA0), (2, .ref wA0), (3, .ref lA0), (4, .ref rA0), (5, .ref tA0), (6, .int (nI (plN sg n))), (7, .int (allF (wS sg n) 256))]) hx hb dL_isSo_955 hl (by decide) rfl (fun ls hl => ?_)
    exact so_4 C0 FF0 hcq hsq hp hP hD hS (lv_sub hl [0, 1, 2, 3, 4, 5, 6, 7, 8, 9, 10, 11, 12, 13, 14, 15] rfl) K
  · refine lv_if_eq (tgt := 946) hx hb dL_isSo_932 (by decide) (fun h9 => absurd h9 (show ¬ bI true = 0 by decide)) (fun _ => ?_)
    refine lv_iload hx hb dL_isSo_935 (lv_at hl 14 rfl) ?_
    refine rd_goi (va_runS (As := [.int (nI (plN sg n))]) (rest := [.int (orK sg n n)]) S (c_L_ones l D cy g B _) (va_cwS 1 hts gL_isSo_L_ones rfl rfl rfl hd_L_ones_S ⟨Nat.le_of_ble_eq_true rfl, Nat.le_of_ble_eq_true rfl⟩) ⟨rdP_blind, my_preV hK0 hS hAB hP [] rfl⟩ rfl rfl hl.1 rfl (lv_room (Nat.le_of_ble_eq_true rfl)) dL_isSo_937 ⟨(show cq + 0 ≤ 800 by omega), (show sq + 0 ≤ 4900 by omega)⟩) ?_
    refine wk_ti (v := (f_X8_ones (nI (plN sg n)))) (ones_law _) ?_
    refine rd_goi (va_runS (As := [.int (f_X8_ones (nI (plN sg n)))]) (rest := [.int (orK sg n n)]) S (c_L_ways l D cy g B _) (va_cwS 1 hts gL_isSo_L_ways rfl rfl rfl hd_L_ways_S ⟨Nat.le_of_ble_eq_true rfl, Nat.le_of_ble_eq_true rfl⟩) ⟨rdP_blind, my_preV hK0 hS hAB hP [] rfl⟩ rfl rfl hl.1 rfl (lv_room (Nat.le_of_ble_eq_true rfl)) dL_isSo_940 ⟨(show cq + 0 ≤ 800 by omega), (show sq + 0 ≤ 4900 by omega)⟩) ?_
    refine wk_ti (v := (f_X8_factorial (f_X8_ones (nI (plN sg n))))) (ways_ones hp256) ?_
    refine lv_goto (tgt := 947) hx hb dL_isSo_943 (by decide) ?_
    refine lv_icmp_ne (tgt := 954) hx hb dL_isSo_947 (by decide) (fun h9 => absurd (show orK sg n n = f_X8_factorial (f_X8_ones (nI (plN sg n))) by rw [hor, hbb]; rfl) h9) (fun _ => ?_)
    refine lv_iconst (v := 1) hx hb dL_isSo_950 (by decide) ?_
    refine lv_goto (tgt := 955) hx hb dL_isSo_951 (by decide) ?_
    refine lv_istore (lv' := [(14, .int 1), (15, .int (nI (cN (fun a => decide (sg (19 + a) = sg 19)) r))), (8, .int (nI (wsN sg n))), (9, .int (nI (duN sg n n))), (10, .int (nI (neN sg n n))), (11, .int (orK sg n n)), (12, .int (nI (cN (wS sg n) 256))), (13, .int (nI (cN (leB (wS sg n)) 256))), (0, .ref p70), (1, .ref gA0), (2, .ref wA0), (3, .ref lA0), (4, .ref rA0), (5, .ref tA0), (6, .int (nI (plN sg n))), (7, .int (allF (wS sg n) 256))]) hx hb dL_isSo_955 hl (by decide) rfl (fun ls hl => ?_)
    exact so_4 C0 FF0 hcq hsq hp hP hD hS (lv_sub hl [0, 1, 2, 3, 4, 5, 6, 7, 8, 9, 10, 11, 12, 13, 14, 15] rfl) K
end ISO
