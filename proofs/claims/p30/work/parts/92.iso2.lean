/-! part 92: isSo: all members -/
section ISO
variable {p : Program} {l : Launch} {e : Env} {s : State} {m : MethodId} {args : Array Value} {below : List Frame} {meth : Method} {c : Code} {Q : State → Prop} {D : va_G} {cy : Nat → ClassId} {g : Nat → Nat} {B : Nat} {A : Nat → Prop}
variable {p70 : Nat} {b7 c7 d7 e7 h7 k7 : Nat → Nat} {gA0 wA0 lA0 rA0 tA0 : Nat} {v : SetV} {tx : TxtV} {ga wa la ra sg : Nat → Int32} {n r : Nat}
set_option maxHeartbeats 4000000 in
set_option maxRecDepth 100000 in
theorem so_mem6 (C : soC p l s m meth c args D cy g B A) (F : soF v tx ga wa la ra sg n r) {k : Nat} {x20 : UInt64} {st : Int32} {w : PowV} {cq sq : Nat} {H : Heap} {locs : List Loc} {ls : Array Slot} (hkn : k < n) (hcq : cq ≤ 740) (hsq : sq ≤ 4700) (h1 : ¬ 0 ≤ Op.cmpValue (FP.dcmp x20 4502148214488346440) .g) (h2 : ¬ Op.cmpValue (FP.dcmp x20 13725520251343122248) .l ≤ 0) (hp : pwr st sg w) (hP : va_P D vwCl (List.flatten [(wPCo p70 b7 c7 d7 e7 h7 k7 st), (wSet cy b7 v), (wPow cy c7 w), (wTxt cy g k7 tx), (wI cy gA0 3 ga), (wI cy wA0 8 wa), (wI cy lA0 8 la), (wI cy rA0 4 ra), (wL cy tA0 4 (tabF (wS sg n) 256))]) H) (hD : va_D A (List.flatten [(wPCo p70 b7 c7 d7 e7 h7 k7 st), (wSet cy b7 v), (wPow cy c7 w), (wTxt cy g k7 tx), (wI cy gA0 3 ga), (wI cy wA0 8 wa), (wI cy lA0 8 la), (wI cy rA0 4 ra), (wL cy tA0 4 (tabF (wS sg n) 256))])) (hS : va_S A s.heap H locs) (hl : lv_has ls 24 [(22, .double (f_X8_partOf (nI (plN sg n)) sg (bW sg n) (nI k))), (20, .double x20), (15, .int (nI k)), (8, .int (nI (wsN sg (k + 1)))), (9, .int (nI (duN sg n (k + 1)))), (10, .int (nI (neN sg n (k + 1)))), (11, .int (orK sg n (k + 1))), (12, .int (nI (cN (wS sg n) 256))), (13, .int (nI (cN (leB (wS sg n)) 256))), (14, .int 1), (0, .ref p70), (1, .ref gA0), (2, .ref wA0), (3, .ref lA0), (4, .ref rA0), (5, .ref tA0), (6, .int (nI (plN sg n))), (7, .int (allF (wS sg n) 256))])
    (K : ∀ (st : Int32) (w : PowV) (cq1 sq1 : Nat) (H : Heap) (locs : List Loc) (ls : Array Slot), cq1 ≤ cq + 1 → sq1 ≤ sq + 6 → pwr st sg w → va_P D vwCl (List.flatten [(wPCo p70 b7 c7 d7 e7 h7 k7 st), (wSet cy b7 v), (wPow cy c7 w), (wTxt cy g k7 tx), (wI cy gA0 3 ga), (wI cy wA0 8 wa), (wI cy lA0 8 la), (wI cy rA0 4 ra), (wL cy tA0 4 (tabF (wS sg n) 256))]) H → va_D A (List.flatten [(wPCo p70 b7 c7 d7 e7 h7 k7 st), (wSet cy b7 v), (wPow cy c7 w), (wTxt cy g k7 tx), (wI cy gA0 3 ga), (wI cy wA0 8 wa), (wI cy lA0 8 la), (wI cy rA0 4 ra), (wL cy tA0 4 (tabF (wS sg n) 256))]) → va_S A s.heap H locs → lv_has ls 24 [(15, .int (nI (k + 1))), (8, .int (nI (wsN sg (k + 1)))), (9, .int (nI (duN sg n (k + 1)))), (10, .int (nI (neN sg n (k + 1)))), (11, .int (orK sg n (k + 1))), (12, .int (nI (cN (wS sg n) 256))), (13, .int (nI (cN (leB (wS sg n)) 256))), (14, .int 1), (0, .ref p70), (1, .ref gA0), (2, .ref wA0), (3, .ref lA0), (4, .ref rA0), (5, .ref tA0), (6, .int (nI (plN sg n))), (7, .int (allF (wS sg n) 256))] → W p l e isoR s m args below meth c H locs cq1 sq1 Q (F0 m 249 ls [])) : W p l e isoR s m args below meth c H locs cq sq Q (F0 m 686 ls []) := by
  obtain ⟨hl0, hx, hb, hr9, hml, hown, hts, hlk, hK0, hNc, hAB, hA⟩ := C
  obtain ⟨CHH, hAG, htx, hl8⟩ := F
  have hV := CHH.1
  have hN := CHH.2.1
  have hL := CHH.2.2.1
  have hW := CHH.2.2.2.1
  have hR := CHH.2.2.2.2.1
  have h8 : n ≤ 8 := hN.2.1
  have hr4 : r ≤ 4 := hN.2.2.2
  have hp256 := plN_lt (s := sg) h8
  have S := my_fix hx hb hml hown hts
  have hT : ∀ j, j < 256 → f_L_at (tabF (wS sg n) 256) (nI j) = bI (wS sg n j) := fun j hj => at_tab _ hj
  refine lv_iload hx hb dL_isSo_686 (lv_at hl 9 rfl) ?_
  refine lv_if_eq (tgt := 725) hx hb dL_isSo_688 (by decide) (fun h9 => absurd h9 (show ¬ (1 : Int32) = 0 by decide)) (fun _ => ?_)
  refine lv_dload hx hb dL_isSo_691 (lv_at hl 1 rfl) ?_
  refine lv_ldc2d hx hb hown (hts (.constantDouble RL 144 (4502148214488346440)) (by decide +kernel)) dL_isSo_693 ?_
  refine lv_dcmp hx hb dL_isSo_696 ?_
  refine lv_if_ge (tgt := 725) hx hb dL_isSo_697 (by decide) (fun h9 => absurd h9 h1) (fun _ => ?_)
  refine lv_dload hx hb dL_isSo_700 (lv_at hl 1 rfl) ?_
  refine lv_ldc2d hx hb hown (hts (.constantDouble RL 146 (13725520251343122248)) (by decide +kernel)) dL_isSo_702 ?_
  refine lv_dcmp hx hb dL_isSo_705 ?_
  refine lv_if_le (tgt := 725) hx hb dL_isSo_706 (by decide) (fun h9 => absurd h9 h2) (fun _ => ?_)
  refine lv_aload_n hx hb dL_isSo_709 rfl (lv_at hl 10 rfl) ?_
  refine lv_iload hx hb dL_isSo_710 (lv_at hl 2 rfl) ?_
  obtain ⟨⟨st1, w1⟩, e1, hp1⟩ := A_part (st := st) (w := w) CHH hp hkn
  refine lw_compd (wcs := [(wPCo p70 b7 c7 d7 e7 h7 k7 st), (wSet cy b7 v), (wPow cy c7 w)]) (wns := fun u8 => [(wPCo p70 b7 c7 d7 e7 h7 k7 u8.1), (wSet cy b7 v), (wPow cy c7 u8.2)]) (W2 := fun u8 => [(wPCo p70 b7 c7 d7 e7 h7 k7 u8.1), (wSet cy b7 v), (wPow cy c7 u8.2), (wTxt cy g k7 tx), (wI cy gA0 3 ga), (wI cy wA0 8 wa), (wI cy lA0 8 la), (wI cy rA0 4 ra), (wL cy tA0 4 (tabF (wS sg n) 256))]) (vx_runSW (As := [.ref p70, .int (nI k)]) (rest := []) S (c_L_partOf l hl0 D cy g B p70 b7 c7 d7 e7 h7 k7 st v w (nI k) (fun k h => k_part h)) (vx_cwSW 2 hts gL_isSo_L_partOf rfl rfl rfl hd_L_partOf_S ⟨Nat.le_of_ble_eq_true rfl, Nat.le_of_ble_eq_true rfl⟩) ⟨lwP_blind, my_preL (wcs := [(wPCo p70 b7 c7 d7 e7 h7 k7 st), (wSet cy b7 v), (wPow cy c7 w)]) hK0 hNc hS hAB hP hD [0, 1, 2] (by decide) rfl rfl⟩ rfl rfl hl.1 rfl (lv_room (Nat.le_of_ble_eq_true rfl)) dL_isSo_712 ⟨(show cq + 1 ≤ 800 by omega), (show sq + 6 ≤ 4900 by omega)⟩) hS hP hD [0, 1, 2] rfl rfl (fun _ => rfl) (fun _ => by simp only [List.map_cons, List.map_nil, adrSet, adrSetE, adrPow, adrPowE, adrTxt, adrTxtE, adrSav, adrSavE, adrPCo, adrI, adrL]) (fun _ => rfl) (fun r9 u9 H locs hw hP hD hS => ?_)
  obtain ⟨rfl, rfl⟩ := Prod.mk.inj (e1.symm.trans hw)
  have hP : va_P D vwCl (List.flatten [(wPCo p70 b7 c7 d7 e7 h7 k7 st1), (wSet cy b7 v), (wPow cy c7 w1), (wTxt cy g k7 tx), (wI cy gA0 3 ga), (wI cy wA0 8 wa), (wI cy lA0 8 la), (wI cy rA0 4 ra), (wL cy tA0 4 (tabF (wS sg n) 256))]) H := hP
  have hD : va_D A (List.flatten [(wPCo p70 b7 c7 d7 e7 h7 k7 st1), (wSet cy b7 v), (wPow cy c7 w1), (wTxt cy g k7 tx), (wI cy gA0 3 ga), (wI cy wA0 8 wa), (wI cy lA0 8 la), (wI cy rA0 4 ra), (wL cy tA0 4 (tabF (wS sg n) 256))]) := hD
  refine lv_dload hx hb dL_isSo_715 (lv_at hl 0 rfl) ?_
  refine lv_dcmp hx hb dL_isSo_717 ?_
  refine lv_if_ne (tgt := 725) hx hb dL_isSo_718 (by decide) (fun h9 => absurd (dcmp_self (fin_X8_partOf _ _ _ _).notNaN) h9) (fun _ => ?_)
  refine lv_iconst (v := 1) hx hb dL_isSo_721 (by decide) ?_
  refine lv_goto (tgt := 726) hx hb dL_isSo_722 (by decide) ?_
  refine lv_istore (lv' := [(14, .int 1), (22, .double (f_X8_partOf (nI (plN sg n)) sg (bW sg n) (nI k))), (20, .double x20), (15, .int (nI k)), (8, .int (nI (wsN sg (k + 1)))), (9, .int (nI (duN sg n (k + 1)))), (10, .int (nI (neN sg n (k + 1)))), (11, .int (orK sg n (k + 1))), (12, .int (nI (cN (wS sg n) 256))), (13, .int (nI (cN (leB (wS sg n)) 256))), (0, .ref p70), (1, .ref gA0), (2, .ref wA0), (3, .ref lA0), (4, .ref rA0), (5, .ref tA0), (6, .int (nI (plN sg n))), (7, .int (allF (wS sg n) 256))]) hx hb dL_isSo_726 hl (by decide) rfl (fun ls hl => ?_)
  refine lv_iinc (v := (nI (k + 1))) (lv' := [(15, .int (nI (k + 1))), (14, .int 1), (22, .double (f_X8_partOf (nI (plN sg n)) sg (bW sg n) (nI k))), (20, .double x20), (8, .int (nI (wsN sg (k + 1)))), (9, .int (nI (duN sg n (k + 1)))), (10, .int (nI (neN sg n (k + 1)))), (11, .int (orK sg n (k + 1))), (12, .int (nI (cN (wS sg n) 256))), (13, .int (nI (cN (leB (wS sg n)) 256))), (0, .ref p70), (1, .ref gA0), (2, .ref wA0), (3, .ref lA0), (4, .ref rA0), (5, .ref tA0), (6, .int (nI (plN sg n))), (7, .int (allF (wS sg n) 256))]) hx hb dL_isSo_728 hl (k := 3) rfl (nI_1 k) (by decide) rfl (fun ls hl => ?_)
  refine lv_goto (tgt := 249) hx hb dL_isSo_731 (by decide) ?_
  exact K st1 w1 _ _ H locs ls (by omega) (by omega) hp1 hP hD hS (lv_sub hl [0, 4, 5, 6, 7, 8, 9, 1, 10, 11, 12, 13, 14, 15, 16, 17] rfl)
set_option maxHeartbeats 4000000 in
set_option maxRecDepth 100000 in
theorem so_mem5 (C : soC p l s m meth c args D cy g B A) (F : soF v tx ga wa la ra sg n r) {k : Nat} {x20 : UInt64} {x16 x17 x18 x19 : Int32} {st : Int32} {w : PowV} {cq sq : Nat} {H : Heap} {locs : List Loc} {ls : Array Slot} (hkn : k < n) (hcq : cq ≤ 740) (hsq : sq ≤ 4700) (h1 : ¬ 0 ≤ Op.cmpValue (FP.dcmp x20 4502148214488346440) .g) (h2 : ¬ Op.cmpValue (FP.dcmp x20 13725520251343122248) .l ≤ 0) (hp : pwr st sg w) (hP : va_P D vwCl (List.flatten [(wPCo p70 b7 c7 d7 e7 h7 k7 st), (wSet cy b7 v), (wPow cy c7 w), (wTxt cy g k7 tx), (wI cy gA0 3 ga), (wI cy wA0 8 wa), (wI cy lA0 8 la), (wI cy rA0 4 ra), (wL cy tA0 4 (tabF (wS sg n) 256))]) H) (hD : va_D A (List.flatten [(wPCo p70 b7 c7 d7 e7 h7 k7 st), (wSet cy b7 v), (wPow cy c7 w), (wTxt cy g k7 tx), (wI cy gA0 3 ga), (wI cy wA0 8 wa), (wI cy lA0 8 la), (wI cy rA0 4 ra), (wL cy tA0 4 (tabF (wS sg n) 256))])) (hS : va_S A s.heap H locs) (hl : lv_has ls 24 [(20, .double x20), (15, .int (nI k)), (16, .int x16), (17, .int x17), (18, .int x18), (19, .int x19), (8, .int (nI (wsN sg (k + 1)))), (9, .int (nI (duN sg n (k + 1)))), (10, .int (nI (neN sg n (k + 1)))), (11, .int (orK sg n (k + 1))), (12, .int (nI (cN (wS sg n) 256))), (13, .int (nI (cN (leB (wS sg n)) 256))), (14, .int 1), (0, .ref p70), (1, .ref gA0), (2, .ref wA0), (3, .ref lA0), (4, .ref rA0), (5, .ref tA0), (6, .int (nI (plN sg n))), (7, .int (allF (wS sg n) 256))])
    (K : ∀ (st : Int32) (w : PowV) (cq1 sq1 : Nat) (H : Heap) (locs : List Loc) (ls : Array Slot), cq1 ≤ cq + 1 → sq1 ≤ sq + 6 → pwr st sg w → va_P D vwCl (List.flatten [(wPCo p70 b7 c7 d7 e7 h7 k7 st), (wSet cy b7 v), (wPow cy c7 w), (wTxt cy g k7 tx), (wI cy gA0 3 ga), (wI cy wA0 8 wa), (wI cy lA0 8 la), (wI cy rA0 4 ra), (wL cy tA0 4 (tabF (wS sg n) 256))]) H → va_D A (List.flatten [(wPCo p70 b7 c7 d7 e7 h7 k7 st), (wSet cy b7 v), (wPow cy c7 w), (wTxt cy g k7 tx), (wI cy gA0 3 ga), (wI cy wA0 8 wa), (wI cy lA0 8 la), (wI cy rA0 4 ra), (wL cy tA0 4 (tabF (wS sg n) 256))]) → va_S A s.heap H locs → lv_has ls 24 [(15, .int (nI (k + 1))), (8, .int (nI (wsN sg (k + 1)))), (9, .int (nI (duN sg n (k + 1)))), (10, .int (nI (neN sg n (k + 1)))), (11, .int (orK sg n (k + 1))), (12, .int (nI (cN (wS sg n) 256))), (13, .int (nI (cN (leB (wS sg n)) 256))), (14, .int 1), (0, .ref p70), (1, .ref gA0), (2, .ref wA0), (3, .ref lA0), (4, .ref rA0), (5, .ref tA0), (6, .int (nI (plN sg n))), (7, .int (allF (wS sg n) 256))] → W p l e isoR s m args below meth c H locs cq1 sq1 Q (F0 m 249 ls [])) : W p l e isoR s m args below meth c H locs cq sq Q (F0 m 653 ls []) := by
  have C0 := C
  have FF0 := F
  obtain ⟨hl0, hx, hb, hr9, hml, hown, hts, hlk, hK0, hNc, hAB, hA⟩ := C
  obtain ⟨CHH, hAG, htx, hl8⟩ := F
  have hV := CHH.1
  have hN := CHH.2.1
  have hL := CHH.2.2.1
  have hW := CHH.2.2.2.1
  have hR := CHH.2.2.2.2.1
  have h8 : n ≤ 8 := hN.2.1
  have hr4 : r ≤ 4 := hN.2.2.2
  have hp256 := plN_lt (s := sg) h8
  have S := my_fix hx hb hml hown hts
  have hT : ∀ j, j < 256 → f_L_at (tabF (wS sg n) 256) (nI j) = bI (wS sg n j) := fun j hj => at_tab _ hj
  refine lv_aload_n hx hb dL_isSo_653 rfl (lv_at hl 16 rfl) ?_
  refine lv_iload hx hb dL_isSo_654 (lv_at hl 1 rfl) ?_
  refine wk_ia hx hb hK0.1 hP 30 0 (k := k) (v := (sg (11 + k))) rfl rfl (by omega) (by decide) (hAG.2.2.2.2.1 k hkn) dL_isSo_656 ?_
  rcases l_ne hL h8 hkn with hbb | ⟨p9, hp9, hb1, hb2, hb3, hb4⟩
  · refine lv_if_ge (tgt := 683) hx hb dL_isSo_657 (by decide) (fun h9 => absurd h9 (by rw [hbb]; decide)) (fun _ => ?_)
    refine lv_aload hx hb dL_isSo_660 (lv_at hl 18 rfl) ?_
    refine lv_iload hx hb dL_isSo_662 (lv_at hl 19 rfl) ?_
    refine lv_iload hx hb dL_isSo_664 (lv_at hl 1 rfl) ?_
    refine rd_goi (va_runS (As := [.ref tA0, .int (nI (plN sg n)), .int (nI k)]) (rest := []) S (c_L_orders l D cy g B tA0 (tabF (wS sg n) 256) _ _ (nI_pos (show k < 2 ^ 31 by omega)) (n8 (show k < 8 by omega))) (va_cwS 3 hts gL_isSo_L_orders rfl rfl rfl hd_L_orders_S ⟨Nat.le_of_ble_eq_true rfl, Nat.le_of_ble_eq_true rfl⟩) ⟨rdP_blind, my_preV hK0 hS hAB hP [32] rfl⟩ rfl rfl hl.1 rfl (lv_room (Nat.le_of_ble_eq_true rfl)) dL_isSo_666 ⟨(show cq + 0 ≤ 800 by omega), (show sq + 0 ≤ 4900 by omega)⟩) ?_
    refine wk_ti (v := (orF (wS sg n) (nI (plN sg n)) k 256)) (orders_law hT hp256 (fun j _ h => wn_sub h) (show k < 8 by omega)) ?_
    refine lv_i2d hx hb dL_isSo_669 ?_
    refine lv_iload hx hb dL_isSo_670 (lv_at hl 19 rfl) ?_
    refine rd_goi (va_runS (As := [.int (nI (plN sg n))]) (rest := [.double (FP.i2d (orF (wS sg n) (nI (plN sg n)) k 256))]) S (c_L_ones l D cy g B _) (va_cwS 1 hts gL_isSo_L_ones rfl rfl rfl hd_L_ones_S ⟨Nat.le_of_ble_eq_true rfl, Nat.le_of_ble_eq_true rfl⟩) ⟨rdP_blind, my_preV hK0 hS hAB hP [] rfl⟩ rfl rfl hl.1 rfl (lv_room (Nat.le_of_ble_eq_true rfl)) dL_isSo_672 ⟨(show cq + 0 ≤ 800 by omega), (show sq + 0 ≤ 4900 by omega)⟩) ?_
    refine wk_ti (v := (f_X8_ones (nI (plN sg n)))) (ones_law _) ?_
    refine rd_goi (va_runS (As := [.int (f_X8_ones (nI (plN sg n)))]) (rest := [.double (FP.i2d (orF (wS sg n) (nI (plN sg n)) k 256))]) S (c_L_ways l D cy g B _) (va_cwS 1 hts gL_isSo_L_ways rfl rfl rfl hd_L_ways_S ⟨Nat.le_of_ble_eq_true rfl, Nat.le_of_ble_eq_true rfl⟩) ⟨rdP_blind, my_preV hK0 hS hAB hP [] rfl⟩ rfl rfl hl.1 rfl (lv_room (Nat.le_of_ble_eq_true rfl)) dL_isSo_675 ⟨(show cq + 0 ≤ 800 by omega), (show sq + 0 ≤ 4900 by omega)⟩) ?_
    refine wk_ti (v := (f_X8_factorial (f_X8_ones (nI (plN sg n))))) (ways_ones hp256) ?_
    refine lv_i2d hx hb dL_isSo_678 ?_
    refine lv_ddiv hx hb dL_isSo_679 (my_n64 (my_div_nn (fac8_nz _))) ?_
    refine wk_td (x := (FP.ddiv (FP.i2d (orF (wS sg n) (nI (plN sg n)) k 256)) (FP.i2d (f_X8_factorial (f_X8_ones (nI (plN sg n))))))) (v := (f_X8_partOf (nI (plN sg n)) sg (bW sg n) (nI k))) (part_pl hN hkn hbb).symm ?_
    refine lv_goto (tgt := 684) hx hb dL_isSo_680 (by decide) ?_
    refine lv_dstore (lv' := [(22, .double (f_X8_partOf (nI (plN sg n)) sg (bW sg n) (nI k))), (20, .double x20), (15, .int (nI k)), (16, .int x16), (17, .int x17), (18, .int x18), (19, .int x19), (8, .int (nI (wsN sg (k + 1)))), (9, .int (nI (duN sg n (k + 1)))), (10, .int (nI (neN sg n (k + 1)))), (11, .int (orK sg n (k + 1))), (12, .int (nI (cN (wS sg n) 256))), (13, .int (nI (cN (leB (wS sg n)) 256))), (14, .int 1), (0, .ref p70), (1, .ref gA0), (2, .ref wA0), (3, .ref lA0), (4, .ref rA0), (5, .ref tA0), (6, .int (nI (plN sg n))), (7, .int (allF (wS sg n) 256))]) hx hb dL_isSo_684 hl (by decide) rfl (fun ls hl => ?_)
    exact so_mem6 C0 FF0 hkn hcq hsq h1 h2 hp hP hD hS (lv_sub hl [0, 1, 2, 7, 8, 9, 10, 11, 12, 13, 14, 15, 16, 17, 18, 19, 20, 21] rfl) K
  · refine lv_if_ge (tgt := 683) hx hb dL_isSo_657 (by decide) (fun _ => ?_) (fun h9 => absurd hb4 h9)
    refine lv_dconst0 hx hb dL_isSo_683 ?_
    refine wk_td (x := FP.dconst0) (v := (f_X8_partOf (nI (plN sg n)) sg (bW sg n) (nI k))) (part_no hN hkn hb3).symm ?_
    refine lv_dstore (lv' := [(22, .double (f_X8_partOf (nI (plN sg n)) sg (bW sg n) (nI k))), (20, .double x20), (15, .int (nI k)), (16, .int x16), (17, .int x17), (18, .int x18), (19, .int x19), (8, .int (nI (wsN sg (k + 1)))), (9, .int (nI (duN sg n (k + 1)))), (10, .int (nI (neN sg n (k + 1)))), (11, .int (orK sg n (k + 1))), (12, .int (nI (cN (wS sg n) 256))), (13, .int (nI (cN (leB (wS sg n)) 256))), (14, .int 1), (0, .ref p70), (1, .ref gA0), (2, .ref wA0), (3, .ref lA0), (4, .ref rA0), (5, .ref tA0), (6, .int (nI (plN sg n))), (7, .int (allF (wS sg n) 256))]) hx hb dL_isSo_684 hl (by decide) rfl (fun ls hl => ?_)
    exact so_mem6 C0 FF0 hkn hcq hsq h1 h2 hp hP hD hS (lv_sub hl [0, 1, 2, 7, 8, 9, 10, 11, 12, 13, 14, 15, 16, 17, 18, 19, 20, 21] rfl) K
set_option maxHeartbeats 4000000 in
set_option maxRecDepth 100000 in
theorem so_mem4 (C : soC p l s m meth c args D cy g B A) (F : soF v tx ga wa la ra sg n r) {k : Nat} {x18 : Int32} {st : Int32} {w : PowV} {cq sq : Nat} {H : Heap} {locs : List Loc} {ls : Array Slot} (hkn : k < n) (hcq : cq ≤ 700) (hsq : sq ≤ 4500) (hp : pwr st sg w) (hP : va_P D vwCl (List.flatten [(wPCo p70 b7 c7 d7 e7 h7 k7 st), (wSet cy b7 v), (wPow cy c7 w), (wTxt cy g k7 tx), (wI cy gA0 3 ga), (wI cy wA0 8 wa), (wI cy lA0 8 la), (wI cy rA0 4 ra), (wL cy tA0 4 (tabF (wS sg n) 256))]) H) (hD : va_D A (List.flatten [(wPCo p70 b7 c7 d7 e7 h7 k7 st), (wSet cy b7 v), (wPow cy c7 w), (wTxt cy g k7 tx), (wI cy gA0 3 ga), (wI cy wA0 8 wa), (wI cy lA0 8 la), (wI cy rA0 4 ra), (wL cy tA0 4 (tabF (wS sg n) 256))])) (hS : va_S A s.heap H locs) (hl : lv_has ls 24 [(10, .int (nI (neN sg n (k + 1)))), (8, .int (nI (wsN sg (k + 1)))), (9, .int (nI (duN sg n (k + 1)))), (11, .int (orK sg n k)), (12, .int (nI (cN (wS sg n) 256))), (13, .int (nI (cN (leB (wS sg n)) 256))), (14, .int 1), (15, .int (nI k)), (16, .int (nI (hvN sg k n))), (17, .int (nI (cN (fun a => decide (sg (11 + a) = nI k)) n))), (18, .int x18), (19, .int (swF (wS sg n) k 256)), (0, .ref p70), (1, .ref gA0), (2, .ref wA0), (3, .ref lA0), (4, .ref rA0), (5, .ref tA0), (6, .int (nI (plN sg n))), (7, .int (allF (wS sg n) 256))])
    (K : ∀ (st : Int32) (w : PowV) (cq1 sq1 : Nat) (H : Heap) (locs : List Loc) (ls : Array Slot), cq1 ≤ cq + 20 → sq1 ≤ sq + 120 → pwr st sg w → va_P D vwCl (List.flatten [(wPCo p70 b7 c7 d7 e7 h7 k7 st), (wSet cy b7 v), (wPow cy c7 w), (wTxt cy g k7 tx), (wI cy gA0 3 ga), (wI cy wA0 8 wa), (wI cy lA0 8 la), (wI cy rA0 4 ra), (wL cy tA0 4 (tabF (wS sg n) 256))]) H → va_D A (List.flatten [(wPCo p70 b7 c7 d7 e7 h7 k7 st), (wSet cy b7 v), (wPow cy c7 w), (wTxt cy g k7 tx), (wI cy gA0 3 ga), (wI cy wA0 8 wa), (wI cy lA0 8 la), (wI cy rA0 4 ra), (wL cy tA0 4 (tabF (wS sg n) 256))]) → va_S A s.heap H locs → lv_has ls 24 [(15, .int (nI (k + 1))), (8, .int (nI (wsN sg (k + 1)))), (9, .int (nI (duN sg n (k + 1)))), (10, .int (nI (neN sg n (k + 1)))), (11, .int (orK sg n (k + 1))), (12, .int (nI (cN (wS sg n) 256))), (13, .int (nI (cN (leB (wS sg n)) 256))), (14, .int 1), (0, .ref p70), (1, .ref gA0), (2, .ref wA0), (3, .ref lA0), (4, .ref rA0), (5, .ref tA0), (6, .int (nI (plN sg n))), (7, .int (allF (wS sg n) 256))] → W p l e isoR s m args below meth c H locs cq1 sq1 Q (F0 m 249 ls [])) : W p l e isoR s m args below meth c H locs cq sq Q (F0 m 470 ls []) := by
  have C0 := C
  have FF0 := F
  obtain ⟨hl0, hx, hb, hr9, hml, hown, hts, hlk, hK0, hNc, hAB, hA⟩ := C
  obtain ⟨CHH, hAG, htx, hl8⟩ := F
  have hV := CHH.1
  have hN := CHH.2.1
  have hL := CHH.2.2.1
  have hW := CHH.2.2.2.1
  have hR := CHH.2.2.2.2.1
  have h8 : n ≤ 8 := hN.2.1
  have hr4 : r ≤ 4 := hN.2.2.2
  have hp256 := plN_lt (s := sg) h8
  have S := my_fix hx hb hml hown hts
  have hT : ∀ j, j < 256 → f_L_at (tabF (wS sg n) 256) (nI j) = bI (wS sg n j) := fun j hj => at_tab _ hj
  refine lv_iload hx hb dL_isSo_470 (lv_at hl 3 rfl) ?_
  refine lv_aload hx hb dL_isSo_472 (lv_at hl 17 rfl) ?_
  refine lv_iload hx hb dL_isSo_474 (lv_at hl 18 rfl) ?_
  refine lv_iload hx hb dL_isSo_476 (lv_at hl 7 rfl) ?_
  refine rd_goi (va_runS (As := [.ref tA0, .int (nI (plN sg n)), .int (nI k)]) (rest := [.int (orK sg n k)]) S (c_L_orders l D cy g B tA0 (tabF (wS sg n) 256) _ _ (nI_pos (show k < 2 ^ 31 by omega)) (n8 (show k < 8 by omega))) (va_cwS 3 hts gL_isSo_L_orders rfl rfl rfl hd_L_orders_S ⟨Nat.le_of_ble_eq_true rfl, Nat.le_of_ble_eq_true rfl⟩) ⟨rdP_blind, my_preV hK0 hS hAB hP [32] rfl⟩ rfl rfl hl.1 rfl (lv_room (Nat.le_of_ble_eq_true rfl)) dL_isSo_478 ⟨(show cq + 0 ≤ 800 by omega), (show sq + 0 ≤ 4900 by omega)⟩) ?_
  refine wk_ti (v := (orF (wS sg n) (nI (plN sg n)) k 256)) (orders_law hT hp256 (fun j _ h => wn_sub h) (show k < 8 by omega)) ?_
  refine lv_iadd hx hb dL_isSo_481 ?_
  refine wk_ti (x := ((orK sg n k) + (orF (wS sg n) (nI (plN sg n)) k 256))) (v := (orK sg n (k + 1))) rfl ?_
  refine lv_istore (lv' := [(11, .int (orK sg n (k + 1))), (10, .int (nI (neN sg n (k + 1)))), (8, .int (nI (wsN sg (k + 1)))), (9, .int (nI (duN sg n (k + 1)))), (12, .int (nI (cN (wS sg n) 256))), (13, .int (nI (cN (leB (wS sg n)) 256))), (14, .int 1), (15, .int (nI k)), (16, .int (nI (hvN sg k n))), (17, .int (nI (cN (fun a => decide (sg (11 + a) = nI k)) n))), (18, .int x18), (19, .int (swF (wS sg n) k 256)), (0, .ref p70), (1, .ref gA0), (2, .ref wA0), (3, .ref lA0), (4, .ref rA0), (5, .ref tA0), (6, .int (nI (plN sg n))), (7, .int (allF (wS sg n) 256))]) hx hb dL_isSo_482 hl (by decide) rfl (fun ls hl => ?_)
  refine lv_aload_n hx hb dL_isSo_484 rfl (lv_at hl 12 rfl) ?_
  refine lv_iload hx hb dL_isSo_485 (lv_at hl 7 rfl) ?_
  refine lv_iconst (v := 0) hx hb dL_isSo_487 (by decide) ?_
  obtain ⟨⟨st1, w1⟩, he1, hp1⟩ := A_member (st := st) (w := w) CHH hp hkn (t := 0) (by decide)
  rw [mem0 h8 hW hkn] at he1
  refine lw_compi (wcs := [(wPCo p70 b7 c7 d7 e7 h7 k7 st), (wSet cy b7 v), (wPow cy c7 w)]) (wns := fun u8 => [(wPCo p70 b7 c7 d7 e7 h7 k7 u8.1), (wSet cy b7 v), (wPow cy c7 u8.2)]) (W2 := fun u8 => [(wPCo p70 b7 c7 d7 e7 h7 k7 u8.1), (wSet cy b7 v), (wPow cy c7 u8.2), (wTxt cy g k7 tx), (wI cy gA0 3 ga), (wI cy wA0 8 wa), (wI cy lA0 8 la), (wI cy rA0 4 ra), (wL cy tA0 4 (tabF (wS sg n) 256))]) (vx_runSW (As := [.ref p70, .int (nI k), .int 0]) (rest := []) S (c_L_memberOf l hl0 D cy g B p70 b7 c7 d7 e7 h7 k7 st v w (nI k) 0 (fun k h => k_member h)) (vx_cwSW 3 hts gL_isSo_L_memberOf rfl rfl rfl hd_L_memberOf_S ⟨Nat.le_of_ble_eq_true rfl, Nat.le_of_ble_eq_true rfl⟩) ⟨lwP_blind, my_preL (wcs := [(wPCo p70 b7 c7 d7 e7 h7 k7 st), (wSet cy b7 v), (wPow cy c7 w)]) hK0 hNc hS hAB hP hD [0, 1, 2] (by decide) rfl rfl⟩ rfl rfl hl.1 rfl (lv_room (Nat.le_of_ble_eq_true rfl)) dL_isSo_488 ⟨(show cq + 2 ≤ 800 by omega), (show sq + 12 ≤ 4900 by omega)⟩) hS hP hD [0, 1, 2] rfl rfl (fun _ => rfl) (fun _ => by simp only [List.map_cons, List.map_nil, adrSet, adrSetE, adrPow, adrPowE, adrTxt, adrTxtE, adrSav, adrSavE, adrPCo, adrI, adrL]) (fun _ => rfl) (fun r9 u9 H locs hw hP hD hS => ?_)
  obtain ⟨rfl, rfl⟩ := Prod.mk.inj (he1.symm.trans hw)
  have hP : va_P D vwCl (List.flatten [(wPCo p70 b7 c7 d7 e7 h7 k7 st1), (wSet cy b7 v), (wPow cy c7 w1), (wTxt cy g k7 tx), (wI cy gA0 3 ga), (wI cy wA0 8 wa), (wI cy lA0 8 la), (wI cy rA0 4 ra), (wL cy tA0 4 (tabF (wS sg n) 256))]) H := hP
  have hD : va_D A (List.flatten [(wPCo p70 b7 c7 d7 e7 h7 k7 st1), (wSet cy b7 v), (wPow cy c7 w1), (wTxt cy g k7 tx), (wI cy gA0 3 ga), (wI cy wA0 8 wa), (wI cy lA0 8 la), (wI cy rA0 4 ra), (wL cy tA0 4 (tabF (wS sg n) 256))]) := hD
  refine lv_aload_n hx hb dL_isSo_491 rfl (lv_at hl 14 rfl) ?_
  refine lv_iload hx hb dL_isSo_492 (lv_at hl 7 rfl) ?_
  refine wk_ia hx hb hK0.1 hP 29 0 (k := k) (v := (nI (wN sg k))) rfl rfl (by omega) (by decide) ((hAG.2.2.2.1 k hkn).trans (wN_eq hW hkn).1) dL_isSo_494 ?_
  refine lv_icmp_ne (tgt := 620) hx hb dL_isSo_495 (by decide) (fun h9 => absurd rfl h9) (fun _ => ?_)
  refine lv_aload_n hx hb dL_isSo_498 rfl (lv_at hl 12 rfl) ?_
  refine lv_iload hx hb dL_isSo_499 (lv_at hl 7 rfl) ?_
  refine lv_iconst (v := 1) hx hb dL_isSo_501 (by decide) ?_
  obtain ⟨⟨st2, w2⟩, he2, hp2⟩ := A_member (st := st1) (w := w1) CHH hp1 hkn (t := 1) (by decide)
  rw [mem1 h8 hkn] at he2
  refine lw_compi (wcs := [(wPCo p70 b7 c7 d7 e7 h7 k7 st1), (wSet cy b7 v), (wPow cy c7 w1)]) (wns := fun u8 => [(wPCo p70 b7 c7 d7 e7 h7 k7 u8.1), (wSet cy b7 v), (wPow cy c7 u8.2)]) (W2 := fun u8 => [(wPCo p70 b7 c7 d7 e7 h7 k7 u8.1), (wSet cy b7 v), (wPow cy c7 u8.2), (wTxt cy g k7 tx), (wI cy gA0 3 ga), (wI cy wA0 8 wa), (wI cy lA0 8 la), (wI cy rA0 4 ra), (wL cy tA0 4 (tabF (wS sg n) 256))]) (vx_runSW (As := [.ref p70, .int (nI k), .int 1]) (rest := []) S (c_L_memberOf l hl0 D cy g B p70 b7 c7 d7 e7 h7 k7 st1 v w1 (nI k) 1 (fun k h => k_member h)) (vx_cwSW 3 hts gL_isSo_L_memberOf rfl rfl rfl hd_L_memberOf_S ⟨Nat.le_of_ble_eq_true rfl, Nat.le_of_ble_eq_true rfl⟩) ⟨lwP_blind, my_preL (wcs := [(wPCo p70 b7 c7 d7 e7 h7 k7 st1), (wSet cy b7 v), (wPow cy c7 w1)]) hK0 hNc hS hAB hP hD [0, 1, 2] (by decide) rfl rfl⟩ rfl rfl hl.1 rfl (lv_room (Nat.le_of_ble_eq_true rfl)) dL_isSo_502 ⟨(show cq + 4 ≤ 800 by omega), (show sq + 24 ≤ 4900 by omega)⟩) hS hP hD [0, 1, 2] rfl rfl (fun _ => rfl) (fun _ => by simp only [List.map_cons, List.map_nil, adrSet, adrSetE, adrPow, adrPowE, adrTxt, adrTxtE, adrSav, adrSavE, adrPCo, adrI, adrL]) (fun _ => rfl) (fun r9 u9 H locs hw hP hD hS => ?_)
  obtain ⟨rfl, rfl⟩ := Prod.mk.inj (he2.symm.trans hw)
  have hP : va_P D vwCl (List.flatten [(wPCo p70 b7 c7 d7 e7 h7 k7 st2), (wSet cy b7 v), (wPow cy c7 w2), (wTxt cy g k7 tx), (wI cy gA0 3 ga), (wI cy wA0 8 wa), (wI cy lA0 8 la), (wI cy rA0 4 ra), (wL cy tA0 4 (tabF (wS sg n) 256))]) H := hP
  have hD : va_D A (List.flatten [(wPCo p70 b7 c7 d7 e7 h7 k7 st2), (wSet cy b7 v), (wPow cy c7 w2), (wTxt cy g k7 tx), (wI cy gA0 3 ga), (wI cy wA0 8 wa), (wI cy lA0 8 la), (wI cy rA0 4 ra), (wL cy tA0 4 (tabF (wS sg n) 256))]) := hD
  refine lv_aload_n hx hb dL_isSo_505 rfl (lv_at hl 15 rfl) ?_
  refine lv_iload hx hb dL_isSo_506 (lv_at hl 7 rfl) ?_
  refine wk_ia hx hb hK0.1 hP 30 0 (k := k) (v := (sg (11 + k))) rfl rfl (by omega) (by decide) (hAG.2.2.2.2.1 k hkn) dL_isSo_508 ?_
  refine lv_icmp_ne (tgt := 620) hx hb dL_isSo_509 (by decide) (fun h9 => absurd rfl h9) (fun _ => ?_)
  refine lv_aload_n hx hb dL_isSo_512 rfl (lv_at hl 12 rfl) ?_
  refine lv_iload hx hb dL_isSo_513 (lv_at hl 7 rfl) ?_
  refine lv_iconst (v := 2) hx hb dL_isSo_515 (by decide) ?_
  obtain ⟨⟨st3, w3⟩, he3, hp3⟩ := A_member (st := st2) (w := w2) CHH hp2 hkn (t := 2) (by decide)
  rw [mem2 hN] at he3
  refine lw_compi (wcs := [(wPCo p70 b7 c7 d7 e7 h7 k7 st2), (wSet cy b7 v), (wPow cy c7 w2)]) (wns := fun u8 => [(wPCo p70 b7 c7 d7 e7 h7 k7 u8.1), (wSet cy b7 v), (wPow cy c7 u8.2)]) (W2 := fun u8 => [(wPCo p70 b7 c7 d7 e7 h7 k7 u8.1), (wSet cy b7 v), (wPow cy c7 u8.2), (wTxt cy g k7 tx), (wI cy gA0 3 ga), (wI cy wA0 8 wa), (wI cy lA0 8 la), (wI cy rA0 4 ra), (wL cy tA0 4 (tabF (wS sg n) 256))]) (vx_runSW (As := [.ref p70, .int (nI k), .int 2]) (rest := []) S (c_L_memberOf l hl0 D cy g B p70 b7 c7 d7 e7 h7 k7 st2 v w2 (nI k) 2 (fun k h => k_member h)) (vx_cwSW 3 hts gL_isSo_L_memberOf rfl rfl rfl hd_L_memberOf_S ⟨Nat.le_of_ble_eq_true rfl, Nat.le_of_ble_eq_true rfl⟩) ⟨lwP_blind, my_preL (wcs := [(wPCo p70 b7 c7 d7 e7 h7 k7 st2), (wSet cy b7 v), (wPow cy c7 w2)]) hK0 hNc hS hAB hP hD [0, 1, 2] (by decide) rfl rfl⟩ rfl rfl hl.1 rfl (lv_room (Nat.le_of_ble_eq_true rfl)) dL_isSo_516 ⟨(show cq + 6 ≤ 800 by omega), (show sq + 36 ≤ 4900 by omega)⟩) hS hP hD [0, 1, 2] rfl rfl (fun _ => rfl) (fun _ => by simp only [List.map_cons, List.map_nil, adrSet, adrSetE, adrPow, adrPowE, adrTxt, adrTxtE, adrSav, adrSavE, adrPCo, adrI, adrL]) (fun _ => rfl) (fun r9 u9 H locs hw hP hD hS => ?_)
  obtain ⟨rfl, rfl⟩ := Prod.mk.inj (he3.symm.trans hw)
  have hP : va_P D vwCl (List.flatten [(wPCo p70 b7 c7 d7 e7 h7 k7 st3), (wSet cy b7 v), (wPow cy c7 w3), (wTxt cy g k7 tx), (wI cy gA0 3 ga), (wI cy wA0 8 wa), (wI cy lA0 8 la), (wI cy rA0 4 ra), (wL cy tA0 4 (tabF (wS sg n) 256))]) H := hP
  have hD : va_D A (List.flatten [(wPCo p70 b7 c7 d7 e7 h7 k7 st3), (wSet cy b7 v), (wPow cy c7 w3), (wTxt cy g k7 tx), (wI cy gA0 3 ga), (wI cy wA0 8 wa), (wI cy lA0 8 la), (wI cy rA0 4 ra), (wL cy tA0 4 (tabF (wS sg n) 256))]) := hD
  refine lv_iload hx hb dL_isSo_519 (lv_at hl 9 rfl) ?_
  refine lv_icmp_ne (tgt := 620) hx hb dL_isSo_521 (by decide) (fun h9 => absurd rfl h9) (fun _ => ?_)
  refine lv_aload_n hx hb dL_isSo_524 rfl (lv_at hl 12 rfl) ?_
  refine lv_iload hx hb dL_isSo_525 (lv_at hl 7 rfl) ?_
  refine lv_iconst (v := 3) hx hb dL_isSo_527 (by decide) ?_
  obtain ⟨⟨st4, w4⟩, he4, hp4⟩ := A_member (st := st3) (w := w3) CHH hp3 hkn (t := 3) (by decide)
  rw [mem3 hN hL hW hkn] at he4
  refine lw_compi (wcs := [(wPCo p70 b7 c7 d7 e7 h7 k7 st3), (wSet cy b7 v), (wPow cy c7 w3)]) (wns := fun u8 => [(wPCo p70 b7 c7 d7 e7 h7 k7 u8.1), (wSet cy b7 v), (wPow cy c7 u8.2)]) (W2 := fun u8 => [(wPCo p70 b7 c7 d7 e7 h7 k7 u8.1), (wSet cy b7 v), (wPow cy c7 u8.2), (wTxt cy g k7 tx), (wI cy gA0 3 ga), (wI cy wA0 8 wa), (wI cy lA0 8 la), (wI cy rA0 4 ra), (wL cy tA0 4 (tabF (wS sg n) 256))]) (vx_runSW (As := [.ref p70, .int (nI k), .int 3]) (rest := []) S (c_L_memberOf l hl0 D cy g B p70 b7 c7 d7 e7 h7 k7 st3 v w3 (nI k) 3 (fun k h => k_member h)) (vx_cwSW 3 hts gL_isSo_L_memberOf rfl rfl rfl hd_L_memberOf_S ⟨Nat.le_of_ble_eq_true rfl, Nat.le_of_ble_eq_true rfl⟩) ⟨lwP_blind, my_preL (wcs := [(wPCo p70 b7 c7 d7 e7 h7 k7 st3), (wSet cy b7 v), (wPow cy c7 w3)]) hK0 hNc hS hAB hP hD [0, 1, 2] (by decide) rfl rfl⟩ rfl rfl hl.1 rfl (lv_room (Nat.le_of_ble_eq_true rfl)) dL_isSo_528 ⟨(show cq + 8 ≤ 800 by omega), (show sq + 48 ≤ 4900 by omega)⟩) hS hP hD [0, 1, 2] rfl rfl (fun _ => rfl) (fun _ => by simp only [List.map_cons, List.map_nil, adrSet, adrSetE, adrPow, adrPowE, adrTxt, adrTxtE, adrSav, adrSavE, adrPCo, adrI, adrL]) (fun _ => rfl) (fun r9 u9 H locs hw hP hD hS => ?_)
  obtain ⟨rfl, rfl⟩ := Prod.mk.inj (he4.symm.trans hw)
  have hP : va_P D vwCl (List.flatten [(wPCo p70 b7 c7 d7 e7 h7 k7 st4), (wSet cy b7 v), (wPow cy c7 w4), (wTxt cy g k7 tx), (wI cy gA0 3 ga), (wI cy wA0 8 wa), (wI cy lA0 8 la), (wI cy rA0 4 ra), (wL cy tA0 4 (tabF (wS sg n) 256))]) H := hP
  have hD : va_D A (List.flatten [(wPCo p70 b7 c7 d7 e7 h7 k7 st4), (wSet cy b7 v), (wPow cy c7 w4), (wTxt cy g k7 tx), (wI cy gA0 3 ga), (wI cy wA0 8 wa), (wI cy lA0 8 la), (wI cy rA0 4 ra), (wL cy tA0 4 (tabF (wS sg n) 256))]) := hD
  refine lv_iload hx hb dL_isSo_531 (lv_at hl 8 rfl) ?_
  refine lv_icmp_ne (tgt := 620) hx hb dL_isSo_533 (by decide) (fun h9 => absurd rfl h9) (fun _ => ?_)
  refine lv_aload_n hx hb dL_isSo_536 rfl (lv_at hl 12 rfl) ?_
  refine lv_iload hx hb dL_isSo_537 (lv_at hl 7 rfl) ?_
  refine lv_iconst (v := 4) hx hb dL_isSo_539 (by decide) ?_
  obtain ⟨⟨st5, w5⟩, he5, hp5⟩ := A_member (st := st4) (w := w4) CHH hp4 hkn (t := 4) (by decide)
  rw [mem4 hN hkn] at he5
  refine lw_compi (wcs := [(wPCo p70 b7 c7 d7 e7 h7 k7 st4), (wSet cy b7 v), (wPow cy c7 w4)]) (wns := fun u8 => [(wPCo p70 b7 c7 d7 e7 h7 k7 u8.1), (wSet cy b7 v), (wPow cy c7 u8.2)]) (W2 := fun u8 => [(wPCo p70 b7 c7 d7 e7 h7 k7 u8.1), (wSet cy b7 v), (wPow cy c7 u8.2), (wTxt cy g k7 tx), (wI cy gA0 3 ga), (wI cy wA0 8 wa), (wI cy lA0 8 la), (wI cy rA0 4 ra), (wL cy tA0 4 (tabF (wS sg n) 256))]) (vx_runSW (As := [.ref p70, .int (nI k), .int 4]) (rest := []) S (c_L_memberOf l hl0 D cy g B p70 b7 c7 d7 e7 h7 k7 st4 v w4 (nI k) 4 (fun k h => k_member h)) (vx_cwSW 3 hts gL_isSo_L_memberOf rfl rfl rfl hd_L_memberOf_S ⟨Nat.le_of_ble_eq_true rfl, Nat.le_of_ble_eq_true rfl⟩) ⟨lwP_blind, my_preL (wcs := [(wPCo p70 b7 c7 d7 e7 h7 k7 st4), (wSet cy b7 v), (wPow cy c7 w4)]) hK0 hNc hS hAB hP hD [0, 1, 2] (by decide) rfl rfl⟩ rfl rfl hl.1 rfl (lv_room (Nat.le_of_ble_eq_true rfl)) dL_isSo_540 ⟨(show cq + 10 ≤ 800 by omega), (show sq + 60 ≤ 4900 by omega)⟩) hS hP hD [0, 1, 2] rfl rfl (fun _ => rfl) (fun _ => by simp only [List.map_cons, List.map_nil, adrSet, adrSetE, adrPow, adrPowE, adrTxt, adrTxtE, adrSav, adrSavE, adrPCo, adrI, adrL]) (fun _ => rfl) (fun r9 u9 H locs hw hP hD hS => ?_)
  obtain ⟨rfl, rfl⟩ := Prod.mk.inj (he5.symm.trans hw)
  have hP : va_P D vwCl (List.flatten [(wPCo p70 b7 c7 d7 e7 h7 k7 st5), (wSet cy b7 v), (wPow cy c7 w5), (wTxt cy g k7 tx), (wI cy gA0 3 ga), (wI cy wA0 8 wa), (wI cy lA0 8 la), (wI cy rA0 4 ra), (wL cy tA0 4 (tabF (wS sg n) 256))]) H := hP
  have hD : va_D A (List.flatten [(wPCo p70 b7 c7 d7 e7 h7 k7 st5), (wSet cy b7 v), (wPow cy c7 w5), (wTxt cy g k7 tx), (wI cy gA0 3 ga), (wI cy wA0 8 wa), (wI cy lA0 8 la), (wI cy rA0 4 ra), (wL cy tA0 4 (tabF (wS sg n) 256))]) := hD
  refine lv_iload hx hb dL_isSo_543 (lv_at hl 11 rfl) ?_
  refine lv_icmp_ne (tgt := 620) hx hb dL_isSo_545 (by decide) (fun h9 => absurd rfl h9) (fun _ => ?_)
  refine lv_aload_n hx hb dL_isSo_548 rfl (lv_at hl 12 rfl) ?_
  refine lv_iload hx hb dL_isSo_549 (lv_at hl 7 rfl) ?_
  refine lv_iconst (v := 5) hx hb dL_isSo_551 (by decide) ?_
  obtain ⟨⟨st6, w6⟩, he6, hp6⟩ := A_member (st := st5) (w := w5) CHH hp5 hkn (t := 5) (by decide)
  rw [mem5 hN hkn] at he6
  refine lw_compi (wcs := [(wPCo p70 b7 c7 d7 e7 h7 k7 st5), (wSet cy b7 v), (wPow cy c7 w5)]) (wns := fun u8 => [(wPCo p70 b7 c7 d7 e7 h7 k7 u8.1), (wSet cy b7 v), (wPow cy c7 u8.2)]) (W2 := fun u8 => [(wPCo p70 b7 c7 d7 e7 h7 k7 u8.1), (wSet cy b7 v), (wPow cy c7 u8.2), (wTxt cy g k7 tx), (wI cy gA0 3 ga), (wI cy wA0 8 wa), (wI cy lA0 8 la), (wI cy rA0 4 ra), (wL cy tA0 4 (tabF (wS sg n) 256))]) (vx_runSW (As := [.ref p70, .int (nI k), .int 5]) (rest := []) S (c_L_memberOf l hl0 D cy g B p70 b7 c7 d7 e7 h7 k7 st5 v w5 (nI k) 5 (fun k h => k_member h)) (vx_cwSW 3 hts gL_isSo_L_memberOf rfl rfl rfl hd_L_memberOf_S ⟨Nat.le_of_ble_eq_true rfl, Nat.le_of_ble_eq_true rfl⟩) ⟨lwP_blind, my_preL (wcs := [(wPCo p70 b7 c7 d7 e7 h7 k7 st5), (wSet cy b7 v), (wPow cy c7 w5)]) hK0 hNc hS hAB hP hD [0, 1, 2] (by decide) rfl rfl⟩ rfl rfl hl.1 rfl (lv_room (Nat.le_of_ble_eq_true rfl)) dL_isSo_552 ⟨(show cq + 12 ≤ 800 by omega), (show sq + 72 ≤ 4900 by omega)⟩) hS hP hD [0, 1, 2] rfl rfl (fun _ => rfl) (fun _ => by simp only [List.map_cons, List.map_nil, adrSet, adrSetE, adrPow, adrPowE, adrTxt, adrTxtE, adrSav, adrSavE, adrPCo, adrI, adrL]) (fun _ => rfl) (fun r9 u9 H locs hw hP hD hS => ?_)
  obtain ⟨rfl, rfl⟩ := Prod.mk.inj (he6.symm.trans hw)
  have hP : va_P D vwCl (List.flatten [(wPCo p70 b7 c7 d7 e7 h7 k7 st6), (wSet cy b7 v), (wPow cy c7 w6), (wTxt cy g k7 tx), (wI cy gA0 3 ga), (wI cy wA0 8 wa), (wI cy lA0 8 la), (wI cy rA0 4 ra), (wL cy tA0 4 (tabF (wS sg n) 256))]) H := hP
  have hD : va_D A (List.flatten [(wPCo p70 b7 c7 d7 e7 h7 k7 st6), (wSet cy b7 v), (wPow cy c7 w6), (wTxt cy g k7 tx), (wI cy gA0 3 ga), (wI cy wA0 8 wa), (wI cy lA0 8 la), (wI cy rA0 4 ra), (wL cy tA0 4 (tabF (wS sg n) 256))]) := hD
  refine lv_aload hx hb dL_isSo_555 (lv_at hl 17 rfl) ?_
  refine lv_iload hx hb dL_isSo_557 (lv_at hl 18 rfl) ?_
  refine lv_iload hx hb dL_isSo_559 (lv_at hl 7 rfl) ?_
  refine rd_goi (va_runS (As := [.ref tA0, .int (nI (plN sg n)), .int (nI k)]) (rest := [.int (orF (wS sg n) (nI (plN sg n)) k 256)]) S (c_L_orders l D cy g B tA0 (tabF (wS sg n) 256) _ _ (nI_pos (show k < 2 ^ 31 by omega)) (n8 (show k < 8 by omega))) (va_cwS 3 hts gL_isSo_L_orders rfl rfl rfl hd_L_orders_S ⟨Nat.le_of_ble_eq_true rfl, Nat.le_of_ble_eq_true rfl⟩) ⟨rdP_blind, my_preV hK0 hS hAB hP [32] rfl⟩ rfl rfl hl.1 rfl (lv_room (Nat.le_of_ble_eq_true rfl)) dL_isSo_561 ⟨(show cq + 12 ≤ 800 by omega), (show sq + 72 ≤ 4900 by omega)⟩) ?_
  refine wk_ti (v := (orF (wS sg n) (nI (plN sg n)) k 256)) (orders_law hT hp256 (fun j _ h => wn_sub h) (show k < 8 by omega)) ?_
  refine lv_icmp_ne (tgt := 620) hx hb dL_isSo_564 (by decide) (fun h9 => absurd rfl h9) (fun _ => ?_)
  refine lv_aload_n hx hb dL_isSo_567 rfl (lv_at hl 12 rfl) ?_
  refine lv_iload hx hb dL_isSo_568 (lv_at hl 7 rfl) ?_
  refine lv_bipush (v := 6) hx hb dL_isSo_570 (by decide) ?_
  obtain ⟨⟨st7, w7⟩, he7, hp7⟩ := A_member (st := st6) (w := w6) CHH hp6 hkn (t := 6) (by decide)
  rw [mem6 hN hkn] at he7
  refine lw_compi (wcs := [(wPCo p70 b7 c7 d7 e7 h7 k7 st6), (wSet cy b7 v), (wPow cy c7 w6)]) (wns := fun u8 => [(wPCo p70 b7 c7 d7 e7 h7 k7 u8.1), (wSet cy b7 v), (wPow cy c7 u8.2)]) (W2 := fun u8 => [(wPCo p70 b7 c7 d7 e7 h7 k7 u8.1), (wSet cy b7 v), (wPow cy c7 u8.2), (wTxt cy g k7 tx), (wI cy gA0 3 ga), (wI cy wA0 8 wa), (wI cy lA0 8 la), (wI cy rA0 4 ra), (wL cy tA0 4 (tabF (wS sg n) 256))]) (vx_runSW (As := [.ref p70, .int (nI k), .int 6]) (rest := []) S (c_L_memberOf l hl0 D cy g B p70 b7 c7 d7 e7 h7 k7 st6 v w6 (nI k) 6 (fun k h => k_member h)) (vx_cwSW 3 hts gL_isSo_L_memberOf rfl rfl rfl hd_L_memberOf_S ⟨Nat.le_of_ble_eq_true rfl, Nat.le_of_ble_eq_true rfl⟩) ⟨lwP_blind, my_preL (wcs := [(wPCo p70 b7 c7 d7 e7 h7 k7 st6), (wSet cy b7 v), (wPow cy c7 w6)]) hK0 hNc hS hAB hP hD [0, 1, 2] (by decide) rfl rfl⟩ rfl rfl hl.1 rfl (lv_room (Nat.le_of_ble_eq_true rfl)) dL_isSo_572 ⟨(show cq + 14 ≤ 800 by omega), (show sq + 84 ≤ 4900 by omega)⟩) hS hP hD [0, 1, 2] rfl rfl (fun _ => rfl) (fun _ => by simp only [List.map_cons, List.map_nil, adrSet, adrSetE, adrPow, adrPowE, adrTxt, adrTxtE, adrSav, adrSavE, adrPCo, adrI, adrL]) (fun _ => rfl) (fun r9 u9 H locs hw hP hD hS => ?_)
  obtain ⟨rfl, rfl⟩ := Prod.mk.inj (he7.symm.trans hw)
  have hP : va_P D vwCl (List.flatten [(wPCo p70 b7 c7 d7 e7 h7 k7 st7), (wSet cy b7 v), (wPow cy c7 w7), (wTxt cy g k7 tx), (wI cy gA0 3 ga), (wI cy wA0 8 wa), (wI cy lA0 8 la), (wI cy rA0 4 ra), (wL cy tA0 4 (tabF (wS sg n) 256))]) H := hP
  have hD : va_D A (List.flatten [(wPCo p70 b7 c7 d7 e7 h7 k7 st7), (wSet cy b7 v), (wPow cy c7 w7), (wTxt cy g k7 tx), (wI cy gA0 3 ga), (wI cy wA0 8 wa), (wI cy lA0 8 la), (wI cy rA0 4 ra), (wL cy tA0 4 (tabF (wS sg n) 256))]) := hD
  refine lv_iload hx hb dL_isSo_575 (lv_at hl 3 rfl) ?_
  refine lv_iload hx hb dL_isSo_577 (lv_at hl 7 rfl) ?_
  refine lv_ishr hx hb dL_isSo_579 ?_
  refine lv_iconst (v := 1) hx hb dL_isSo_580 (by decide) ?_
  refine lv_iand hx hb dL_isSo_581 ?_
  refine lv_icmp_ne (tgt := 620) hx hb dL_isSo_582 (by decide) (fun h9 => absurd rfl h9) (fun _ => ?_)
  refine lv_aload_n hx hb dL_isSo_585 rfl (lv_at hl 12 rfl) ?_
  refine lv_iload hx hb dL_isSo_586 (lv_at hl 7 rfl) ?_
  refine lv_bipush (v := 7) hx hb dL_isSo_588 (by decide) ?_
  obtain ⟨⟨st8, w8⟩, he8, hp8⟩ := A_member (st := st7) (w := w7) CHH hp7 hkn (t := 7) (by decide)
  rw [mem7 hN hkn] at he8
  refine lw_compi (wcs := [(wPCo p70 b7 c7 d7 e7 h7 k7 st7), (wSet cy b7 v), (wPow cy c7 w7)]) (wns := fun u8 => [(wPCo p70 b7 c7 d7 e7 h7 k7 u8.1), (wSet cy b7 v), (wPow cy c7 u8.2)]) (W2 := fun u8 => [(wPCo p70 b7 c7 d7 e7 h7 k7 u8.1), (wSet cy b7 v), (wPow cy c7 u8.2), (wTxt cy g k7 tx), (wI cy gA0 3 ga), (wI cy wA0 8 wa), (wI cy lA0 8 la), (wI cy rA0 4 ra), (wL cy tA0 4 (tabF (wS sg n) 256))]) (vx_runSW (As := [.ref p70, .int (nI k), .int 7]) (rest := []) S (c_L_memberOf l hl0 D cy g B p70 b7 c7 d7 e7 h7 k7 st7 v w7 (nI k) 7 (fun k h => k_member h)) (vx_cwSW 3 hts gL_isSo_L_memberOf rfl rfl rfl hd_L_memberOf_S ⟨Nat.le_of_ble_eq_true rfl, Nat.le_of_ble_eq_true rfl⟩) ⟨lwP_blind, my_preL (wcs := [(wPCo p70 b7 c7 d7 e7 h7 k7 st7), (wSet cy b7 v), (wPow cy c7 w7)]) hK0 hNc hS hAB hP hD [0, 1, 2] (by decide) rfl rfl⟩ rfl rfl hl.1 rfl (lv_room (Nat.le_of_ble_eq_true rfl)) dL_isSo_590 ⟨(show cq + 16 ≤ 800 by omega), (show sq + 96 ≤ 4900 by omega)⟩) hS hP hD [0, 1, 2] rfl rfl (fun _ => rfl) (fun _ => by simp only [List.map_cons, List.map_nil, adrSet, adrSetE, adrPow, adrPowE, adrTxt, adrTxtE, adrSav, adrSavE, adrPCo, adrI, adrL]) (fun _ => rfl) (fun r9 u9 H locs hw hP hD hS => ?_)
  obtain ⟨rfl, rfl⟩ := Prod.mk.inj (he8.symm.trans hw)
  have hP : va_P D vwCl (List.flatten [(wPCo p70 b7 c7 d7 e7 h7 k7 st8), (wSet cy b7 v), (wPow cy c7 w8), (wTxt cy g k7 tx), (wI cy gA0 3 ga), (wI cy wA0 8 wa), (wI cy lA0 8 la), (wI cy rA0 4 ra), (wL cy tA0 4 (tabF (wS sg n) 256))]) H := hP
  have hD : va_D A (List.flatten [(wPCo p70 b7 c7 d7 e7 h7 k7 st8), (wSet cy b7 v), (wPow cy c7 w8), (wTxt cy g k7 tx), (wI cy gA0 3 ga), (wI cy wA0 8 wa), (wI cy lA0 8 la), (wI cy rA0 4 ra), (wL cy tA0 4 (tabF (wS sg n) 256))]) := hD
  refine lv_iload hx hb dL_isSo_593 (lv_at hl 1 rfl) ?_
  refine lv_iload hx hb dL_isSo_595 (lv_at hl 7 rfl) ?_
  refine lv_ishr hx hb dL_isSo_597 ?_
  refine lv_iconst (v := 1) hx hb dL_isSo_598 (by decide) ?_
  refine lv_iand hx hb dL_isSo_599 ?_
  refine lv_icmp_ne (tgt := 620) hx hb dL_isSo_600 (by decide) (fun h9 => absurd rfl h9) (fun _ => ?_)
  refine lv_aload_n hx hb dL_isSo_603 rfl (lv_at hl 12 rfl) ?_
  refine lv_iload hx hb dL_isSo_604 (lv_at hl 7 rfl) ?_
  refine lv_bipush (v := 8) hx hb dL_isSo_606 (by decide) ?_
  have e9 := A_member8 (st := st8) (w := w8) CHH hkn
  refine lw_compi (wcs := [(wPCo p70 b7 c7 d7 e7 h7 k7 st8), (wSet cy b7 v), (wPow cy c7 w8)]) (wns := fun u8 => [(wPCo p70 b7 c7 d7 e7 h7 k7 u8.1), (wSet cy b7 v), (wPow cy c7 u8.2)]) (W2 := fun u8 => [(wPCo p70 b7 c7 d7 e7 h7 k7 u8.1), (wSet cy b7 v), (wPow cy c7 u8.2), (wTxt cy g k7 tx), (wI cy gA0 3 ga), (wI cy wA0 8 wa), (wI cy lA0 8 la), (wI cy rA0 4 ra), (wL cy tA0 4 (tabF (wS sg n) 256))]) (vx_runSW (As := [.ref p70, .int (nI k), .int 8]) (rest := []) S (c_L_memberOf l hl0 D cy g B p70 b7 c7 d7 e7 h7 k7 st8 v w8 (nI k) 8 (fun k h => k_member h)) (vx_cwSW 3 hts gL_isSo_L_memberOf rfl rfl rfl hd_L_memberOf_S ⟨Nat.le_of_ble_eq_true rfl, Nat.le_of_ble_eq_true rfl⟩) ⟨lwP_blind, my_preL (wcs := [(wPCo p70 b7 c7 d7 e7 h7 k7 st8), (wSet cy b7 v), (wPow cy c7 w8)]) hK0 hNc hS hAB hP hD [0, 1, 2] (by decide) rfl rfl⟩ rfl rfl hl.1 rfl (lv_room (Nat.le_of_ble_eq_true rfl)) dL_isSo_608 ⟨(show cq + 18 ≤ 800 by omega), (show sq + 108 ≤ 4900 by omega)⟩) hS hP hD [0, 1, 2] rfl rfl (fun _ => rfl) (fun _ => by simp only [List.map_cons, List.map_nil, adrSet, adrSetE, adrPow, adrPowE, adrTxt, adrTxtE, adrSav, adrSavE, adrPCo, adrI, adrL]) (fun _ => rfl) (fun r9 u9 H locs hw hP hD hS => ?_)
  obtain ⟨rfl, rfl⟩ := Prod.mk.inj (e9.symm.trans hw)
  have hP : va_P D vwCl (List.flatten [(wPCo p70 b7 c7 d7 e7 h7 k7 st8), (wSet cy b7 v), (wPow cy c7 w8), (wTxt cy g k7 tx), (wI cy gA0 3 ga), (wI cy wA0 8 wa), (wI cy lA0 8 la), (wI cy rA0 4 ra), (wL cy tA0 4 (tabF (wS sg n) 256))]) H := hP
  have hD : va_D A (List.flatten [(wPCo p70 b7 c7 d7 e7 h7 k7 st8), (wSet cy b7 v), (wPow cy c7 w8), (wTxt cy g k7 tx), (wI cy gA0 3 ga), (wI cy wA0 8 wa), (wI cy lA0 8 la), (wI cy rA0 4 ra), (wL cy tA0 4 (tabF (wS sg n) 256))]) := hD
  refine lv_ldc hx hb hown (hts (.constant RL 17 (-2000002)) (by decide +kernel)) dL_isSo_611 ?_
  refine lv_icmp_ne (tgt := 620) hx hb dL_isSo_613 (by decide) (fun h9 => absurd rfl h9) (fun _ => ?_)
  refine lv_iconst (v := 1) hx hb dL_isSo_616 (by decide) ?_
  refine lv_goto (tgt := 621) hx hb dL_isSo_617 (by decide) ?_
  refine lv_istore (lv' := [(14, .int 1), (11, .int (orK sg n (k + 1))), (10, .int (nI (neN sg n (k + 1)))), (8, .int (nI (wsN sg (k + 1)))), (9, .int (nI (duN sg n (k + 1)))), (12, .int (nI (cN (wS sg n) 256))), (13, .int (nI (cN (leB (wS sg n)) 256))), (15, .int (nI k)), (16, .int (nI (hvN sg k n))), (17, .int (nI (cN (fun a => decide (sg (11 + a) = nI k)) n))), (18, .int x18), (19, .int (swF (wS sg n) k 256)), (0, .ref p70), (1, .ref gA0), (2, .ref wA0), (3, .ref lA0), (4, .ref rA0), (5, .ref tA0), (6, .int (nI (plN sg n))), (7, .int (allF (wS sg n) 256))]) hx hb dL_isSo_621 hl (by decide) rfl (fun ls hl => ?_)
  refine lv_iload hx hb dL_isSo_623 (lv_at hl 19 rfl) ?_
  have hsn := swF_nI (wS sg n) k 256
  obtain ⟨b9, hb9, eb⟩ := allF_nI (wS sg n)
  by_cases hz : allF (wS sg n) 256 = 0
  · refine lv_if_ne (tgt := 637) hx hb dL_isSo_625 (by decide) (fun h9 => absurd hz h9) (fun _ => ?_)
    refine lv_aload_n hx hb dL_isSo_628 rfl (lv_at hl 12 rfl) ?_
    refine lv_iload hx hb dL_isSo_629 (lv_at hl 7 rfl) ?_
    obtain ⟨⟨st9, w9⟩, e10, hp9⟩ := A_share (st := st8) (w := w8) CHH hp8 hkn
    rw [sh_zero hz] at e10
    refine lw_compd (wcs := [(wPCo p70 b7 c7 d7 e7 h7 k7 st8), (wSet cy b7 v), (wPow cy c7 w8)]) (wns := fun u8 => [(wPCo p70 b7 c7 d7 e7 h7 k7 u8.1), (wSet cy b7 v), (wPow cy c7 u8.2)]) (W2 := fun u8 => [(wPCo p70 b7 c7 d7 e7 h7 k7 u8.1), (wSet cy b7 v), (wPow cy c7 u8.2), (wTxt cy g k7 tx), (wI cy gA0 3 ga), (wI cy wA0 8 wa), (wI cy lA0 8 la), (wI cy rA0 4 ra), (wL cy tA0 4 (tabF (wS sg n) 256))]) (vx_runSW (As := [.ref p70, .int (nI k)]) (rest := []) S (c_L_shareOf l hl0 D cy g B p70 b7 c7 d7 e7 h7 k7 st8 v w8 (nI k) (fun k h => k_share h) (fun r u h => share_n h)) (vx_cwSW 2 hts gL_isSo_L_shareOf rfl rfl rfl hd_L_shareOf_S ⟨Nat.le_of_ble_eq_true rfl, Nat.le_of_ble_eq_true rfl⟩) ⟨lwP_blind, my_preL (wcs := [(wPCo p70 b7 c7 d7 e7 h7 k7 st8), (wSet cy b7 v), (wPow cy c7 w8)]) hK0 hNc hS hAB hP hD [0, 1, 2] (by decide) rfl rfl⟩ rfl rfl hl.1 rfl (lv_room (Nat.le_of_ble_eq_true rfl)) dL_isSo_631 ⟨(show cq + 19 ≤ 800 by omega), (show sq + 114 ≤ 4900 by omega)⟩) hS hP hD [0, 1, 2] rfl rfl (fun _ => rfl) (fun _ => by simp only [List.map_cons, List.map_nil, adrSet, adrSetE, adrPow, adrPowE, adrTxt, adrTxtE, adrSav, adrSavE, adrPCo, adrI, adrL]) (fun _ => rfl) (fun r9 u9 H locs hw hP hD hS => ?_)
    obtain ⟨rfl, rfl⟩ := Prod.mk.inj (e10.symm.trans hw)
    have hP : va_P D vwCl (List.flatten [(wPCo p70 b7 c7 d7 e7 h7 k7 st9), (wSet cy b7 v), (wPow cy c7 w9), (wTxt cy g k7 tx), (wI cy gA0 3 ga), (wI cy wA0 8 wa), (wI cy lA0 8 la), (wI cy rA0 4 ra), (wL cy tA0 4 (tabF (wS sg n) 256))]) H := hP
    have hD : va_D A (List.flatten [(wPCo p70 b7 c7 d7 e7 h7 k7 st9), (wSet cy b7 v), (wPow cy c7 w9), (wTxt cy g k7 tx), (wI cy gA0 3 ga), (wI cy wA0 8 wa), (wI cy lA0 8 la), (wI cy rA0 4 ra), (wL cy tA0 4 (tabF (wS sg n) 256))]) := hD
    refine lv_goto (tgt := 651) hx hb dL_isSo_634 (by decide) ?_
    refine lv_dstore (lv' := [(20, .double (FP.f2d FP.fconst0)), (14, .int 1), (11, .int (orK sg n (k + 1))), (10, .int (nI (neN sg n (k + 1)))), (8, .int (nI (wsN sg (k + 1)))), (9, .int (nI (duN sg n (k + 1)))), (12, .int (nI (cN (wS sg n) 256))), (13, .int (nI (cN (leB (wS sg n)) 256))), (15, .int (nI k)), (16, .int (nI (hvN sg k n))), (17, .int (nI (cN (fun a => decide (sg (11 + a) = nI k)) n))), (18, .int x18), (19, .int (swF (wS sg n) k 256)), (0, .ref p70), (1, .ref gA0), (2, .ref wA0), (3, .ref lA0), (4, .ref rA0), (5, .ref tA0), (6, .int (nI (plN sg n))), (7, .int (allF (wS sg n) 256))]) hx hb dL_isSo_651 hl (by decide) rfl (fun ls hl => ?_)
    exact so_mem5 C0 FF0 hkn (by omega) (by omega) sh0_1 sh0_2 hp9 hP hD hS (lv_sub hl [0, 8, 9, 10, 11, 12, 4, 5, 3, 2, 6, 7, 1, 13, 14, 15, 16, 17, 18, 19, 20] rfl) (fun st w cq1 sq1 H locs ls hc1 hs1 => K st w cq1 sq1 H locs ls (by omega) (by omega))
  · refine lv_if_ne (tgt := 637) hx hb dL_isSo_625 (by decide) (fun _ => ?_) (fun h9 => absurd h9 hz)
    refine lv_aload_n hx hb dL_isSo_637 rfl (lv_at hl 12 rfl) ?_
    refine lv_iload hx hb dL_isSo_638 (lv_at hl 7 rfl) ?_
    obtain ⟨⟨st9, w9⟩, e10, hp9⟩ := A_share (st := st8) (w := w8) CHH hp8 hkn
    obtain ⟨a9, ha9, ea, hab⟩ := sw_bd (W := wS sg n) (k := k) (show k < 8 by omega) eb hb9
    have hb1 : 1 ≤ b9 := nz_pos eb hz
    rw [sh_val (show k < 8 by omega) hz ea eb] at e10
    refine lw_compd (wcs := [(wPCo p70 b7 c7 d7 e7 h7 k7 st8), (wSet cy b7 v), (wPow cy c7 w8)]) (wns := fun u8 => [(wPCo p70 b7 c7 d7 e7 h7 k7 u8.1), (wSet cy b7 v), (wPow cy c7 u8.2)]) (W2 := fun u8 => [(wPCo p70 b7 c7 d7 e7 h7 k7 u8.1), (wSet cy b7 v), (wPow cy c7 u8.2), (wTxt cy g k7 tx), (wI cy gA0 3 ga), (wI cy wA0 8 wa), (wI cy lA0 8 la), (wI cy rA0 4 ra), (wL cy tA0 4 (tabF (wS sg n) 256))]) (vx_runSW (As := [.ref p70, .int (nI k)]) (rest := []) S (c_L_shareOf l hl0 D cy g B p70 b7 c7 d7 e7 h7 k7 st8 v w8 (nI k) (fun k h => k_share h) (fun r u h => share_n h)) (vx_cwSW 2 hts gL_isSo_L_shareOf rfl rfl rfl hd_L_shareOf_S ⟨Nat.le_of_ble_eq_true rfl, Nat.le_of_ble_eq_true rfl⟩) ⟨lwP_blind, my_preL (wcs := [(wPCo p70 b7 c7 d7 e7 h7 k7 st8), (wSet cy b7 v), (wPow cy c7 w8)]) hK0 hNc hS hAB hP hD [0, 1, 2] (by decide) rfl rfl⟩ rfl rfl hl.1 rfl (lv_room (Nat.le_of_ble_eq_true rfl)) dL_isSo_640 ⟨(show cq + 19 ≤ 800 by omega), (show sq + 114 ≤ 4900 by omega)⟩) hS hP hD [0, 1, 2] rfl rfl (fun _ => rfl) (fun _ => by simp only [List.map_cons, List.map_nil, adrSet, adrSetE, adrPow, adrPowE, adrTxt, adrTxtE, adrSav, adrSavE, adrPCo, adrI, adrL]) (fun _ => rfl) (fun r9 u9 H locs hw hP hD hS => ?_)
    obtain ⟨rfl, rfl⟩ := Prod.mk.inj (e10.symm.trans hw)
    have hP : va_P D vwCl (List.flatten [(wPCo p70 b7 c7 d7 e7 h7 k7 st9), (wSet cy b7 v), (wPow cy c7 w9), (wTxt cy g k7 tx), (wI cy gA0 3 ga), (wI cy wA0 8 wa), (wI cy lA0 8 la), (wI cy rA0 4 ra), (wL cy tA0 4 (tabF (wS sg n) 256))]) H := hP
    have hD : va_D A (List.flatten [(wPCo p70 b7 c7 d7 e7 h7 k7 st9), (wSet cy b7 v), (wPow cy c7 w9), (wTxt cy g k7 tx), (wI cy gA0 3 ga), (wI cy wA0 8 wa), (wI cy lA0 8 la), (wI cy rA0 4 ra), (wL cy tA0 4 (tabF (wS sg n) 256))]) := hD
    refine lv_iload hx hb dL_isSo_643 (lv_at hl 11 rfl) ?_
    refine wk_ti (x := (swF (wS sg n) k 256)) (v := (nI a9)) ea ?_
    refine lv_i2d hx hb dL_isSo_645 ?_
    refine lv_iload hx hb dL_isSo_646 (lv_at hl 19 rfl) ?_
    refine wk_ti (x := (allF (wS sg n) 256)) (v := (nI b9)) eb ?_
    refine lv_i2d hx hb dL_isSo_648 ?_
    refine lv_ddiv hx hb dL_isSo_649 (my_n64 (my_div_nn (nI_ne0 hb1 (by omega)))) ?_
    have hsh := sh_ok a9 b9 ha9 hb9 hb1 hab
    refine lv_dsub hx hb dL_isSo_650 (my_n64 hsh.1) ?_
    refine lv_dstore (lv' := [(20, .double (FP.dsub (FP.f2d (FP.fdiv (FP.i2f (nI a9)) (FP.i2f (nI b9)))) (FP.ddiv (FP.i2d (nI a9)) (FP.i2d (nI b9))))), (14, .int 1), (11, .int (orK sg n (k + 1))), (10, .int (nI (neN sg n (k + 1)))), (8, .int (nI (wsN sg (k + 1)))), (9, .int (nI (duN sg n (k + 1)))), (12, .int (nI (cN (wS sg n) 256))), (13, .int (nI (cN (leB (wS sg n)) 256))), (15, .int (nI k)), (16, .int (nI (hvN sg k n))), (17, .int (nI (cN (fun a => decide (sg (11 + a) = nI k)) n))), (18, .int x18), (19, .int (swF (wS sg n) k 256)), (0, .ref p70), (1, .ref gA0), (2, .ref wA0), (3, .ref lA0), (4, .ref rA0), (5, .ref tA0), (6, .int (nI (plN sg n))), (7, .int (allF (wS sg n) 256))]) hx hb dL_isSo_651 hl (by decide) rfl (fun ls hl => ?_)
    exact so_mem5 C0 FF0 hkn (by omega) (by omega) hsh.2.1 hsh.2.2 hp9 hP hD hS (lv_sub hl [0, 8, 9, 10, 11, 12, 4, 5, 3, 2, 6, 7, 1, 13, 14, 15, 16, 17, 18, 19, 20] rfl) (fun st w cq1 sq1 H locs ls hc1 hs1 => K st w cq1 sq1 H locs ls (by omega) (by omega))
set_option maxHeartbeats 4000000 in
set_option maxRecDepth 100000 in
theorem so_mem3 (C : soC p l s m meth c args D cy g B A) (F : soF v tx ga wa la ra sg n r) {k : Nat} {st : Int32} {w : PowV} {cq sq : Nat} {H : Heap} {locs : List Loc} {ls : Array Slot} (hkn : k < n) (hcq : cq ≤ 700) (hsq : sq ≤ 4500) (hp : pwr st sg w) (hP : va_P D vwCl (List.flatten [(wPCo p70 b7 c7 d7 e7 h7 k7 st), (wSet cy b7 v), (wPow cy c7 w), (wTxt cy g k7 tx), (wI cy gA0 3 ga), (wI cy wA0 8 wa), (wI cy lA0 8 la), (wI cy rA0 4 ra), (wL cy tA0 4 (tabF (wS sg n) 256))]) H) (hD : va_D A (List.flatten [(wPCo p70 b7 c7 d7 e7 h7 k7 st), (wSet cy b7 v), (wPow cy c7 w), (wTxt cy g k7 tx), (wI cy gA0 3 ga), (wI cy wA0 8 wa), (wI cy lA0 8 la), (wI cy rA0 4 ra), (wL cy tA0 4 (tabF (wS sg n) 256))])) (hS : va_S A s.heap H locs) (hl : lv_has ls 24 [(9, .int (nI (duN sg n (k + 1)))), (8, .int (nI (wsN sg (k + 1)))), (10, .int (nI (neN sg n k))), (11, .int (orK sg n k)), (12, .int (nI (cN (wS sg n) 256))), (13, .int (nI (cN (leB (wS sg n)) 256))), (14, .int 1), (15, .int (nI k)), (16, .int (nI (hvN sg k n))), (17, .int (nI (cN (fun a => decide (sg (11 + a) = nI k)) n))), (18, .int (bI (nd1 sg n k 256))), (19, .int (swF (wS sg n) k 256)), (0, .ref p70), (1, .ref gA0), (2, .ref wA0), (3, .ref lA0), (4, .ref rA0), (5, .ref tA0), (6, .int (nI (plN sg n))), (7, .int (allF (wS sg n) 256))])
    (K : ∀ (st : Int32) (w : PowV) (cq1 sq1 : Nat) (H : Heap) (locs : List Loc) (ls : Array Slot), cq1 ≤ cq + 20 → sq1 ≤ sq + 120 → pwr st sg w → va_P D vwCl (List.flatten [(wPCo p70 b7 c7 d7 e7 h7 k7 st), (wSet cy b7 v), (wPow cy c7 w), (wTxt cy g k7 tx), (wI cy gA0 3 ga), (wI cy wA0 8 wa), (wI cy lA0 8 la), (wI cy rA0 4 ra), (wL cy tA0 4 (tabF (wS sg n) 256))]) H → va_D A (List.flatten [(wPCo p70 b7 c7 d7 e7 h7 k7 st), (wSet cy b7 v), (wPow cy c7 w), (wTxt cy g k7 tx), (wI cy gA0 3 ga), (wI cy wA0 8 wa), (wI cy lA0 8 la), (wI cy rA0 4 ra), (wL cy tA0 4 (tabF (wS sg n) 256))]) → va_S A s.heap H locs → lv_has ls 24 [(15, .int (nI (k + 1))), (8, .int (nI (wsN sg (k + 1)))), (9, .int (nI (duN sg n (k + 1)))), (10, .int (nI (neN sg n (k + 1)))), (11, .int (orK sg n (k + 1))), (12, .int (nI (cN (wS sg n) 256))), (13, .int (nI (cN (leB (wS sg n)) 256))), (14, .int 1), (0, .ref p70), (1, .ref gA0), (2, .ref wA0), (3, .ref lA0), (4, .ref rA0), (5, .ref tA0), (6, .int (nI (plN sg n))), (7, .int (allF (wS sg n) 256))] → W p l e isoR s m args below meth c H locs cq1 sq1 Q (F0 m 249 ls [])) : W p l e isoR s m args below meth c H locs cq sq Q (F0 m 452 ls []) := by
  have C0 := C
  have FF0 := F
  obtain ⟨hl0, hx, hb, hr9, hml, hown, hts, hlk, hK0, hNc, hAB, hA⟩ := C
  obtain ⟨CHH, hAG, htx, hl8⟩ := F
  have hV := CHH.1
  have hN := CHH.2.1
  have hL := CHH.2.2.1
  have hW := CHH.2.2.2.1
  have hR := CHH.2.2.2.2.1
  have h8 : n ≤ 8 := hN.2.1
  have hr4 : r ≤ 4 := hN.2.2.2
  have hp256 := plN_lt (s := sg) h8
  have S := my_fix hx hb hml hown hts
  have hT : ∀ j, j < 256 → f_L_at (tabF (wS sg n) 256) (nI j) = bI (wS sg n j) := fun j hj => at_tab _ hj
  refine lv_iload hx hb dL_isSo_452 (lv_at hl 2 rfl) ?_
  refine lv_iload hx hb dL_isSo_454 (lv_at hl 10 rfl) ?_
  have hna := nd_all hN hL hW hR k
  cases hbb : nd1 sg n k 256
  · refine lv_if_eq (tgt := 466) hx hb dL_isSo_456 (by decide) (fun _ => ?_) (fun h9 => absurd (show bI false = 0 from rfl) h9)
    refine lv_iconst (v := 0) hx hb dL_isSo_466 (by decide) ?_
    refine lv_ior hx hb dL_isSo_467 ?_
    refine wk_ti (x := ((nI (neN sg n k)) ||| 0)) (v := (nI (neN sg n (k + 1)))) (or_no (P := fun m => plB sg n m && ndB (wS sg n) (plN sg n) m) (by show (plB sg n k && ndB (wS sg n) (plN sg n) k) = false; rw [← hna]; exact hbb)) ?_
    refine lv_istore (lv' := [(10, .int (nI (neN sg n (k + 1)))), (9, .int (nI (duN sg n (k + 1)))), (8, .int (nI (wsN sg (k + 1)))), (11, .int (orK sg n k)), (12, .int (nI (cN (wS sg n) 256))), (13, .int (nI (cN (leB (wS sg n)) 256))), (14, .int 1), (15, .int (nI k)), (16, .int (nI (hvN sg k n))), (17, .int (nI (cN (fun a => decide (sg (11 + a) = nI k)) n))), (18, .int (bI (nd1 sg n k 256))), (19, .int (swF (wS sg n) k 256)), (0, .ref p70), (1, .ref gA0), (2, .ref wA0), (3, .ref lA0), (4, .ref rA0), (5, .ref tA0), (6, .int (nI (plN sg n))), (7, .int (allF (wS sg n) 256))]) hx hb dL_isSo_468 hl (by decide) rfl (fun ls hl => ?_)
    exact so_mem4 C0 FF0 hkn hcq hsq hp hP hD hS (lv_sub hl [0, 2, 1, 3, 4, 5, 6, 7, 8, 9, 10, 11, 12, 13, 14, 15, 16, 17, 18, 19] rfl) K
  · refine lv_if_eq (tgt := 466) hx hb dL_isSo_456 (by decide) (fun h9 => absurd h9 (show ¬ bI true = 0 by decide)) (fun _ => ?_)
    refine lv_iconst (v := 1) hx hb dL_isSo_459 (by decide) ?_
    refine lv_iload hx hb dL_isSo_460 (lv_at hl 7 rfl) ?_
    refine lv_ishl hx hb dL_isSo_462 ?_
    refine lv_goto (tgt := 467) hx hb dL_isSo_463 (by decide) ?_
    refine lv_ior hx hb dL_isSo_467 ?_
    refine wk_ti (x := ((nI (neN sg n k)) ||| (1 <<< ((nI k) &&& 31)))) (v := (nI (neN sg n (k + 1)))) (or_yes (P := fun m => plB sg n m && ndB (wS sg n) (plN sg n) m) (show k < 8 by omega) (by show (plB sg n k && ndB (wS sg n) (plN sg n) k) = true; rw [← hna]; exact hbb)) ?_
    refine lv_istore (lv' := [(10, .int (nI (neN sg n (k + 1)))), (9, .int (nI (duN sg n (k + 1)))), (8, .int (nI (wsN sg (k + 1)))), (11, .int (orK sg n k)), (12, .int (nI (cN (wS sg n) 256))), (13, .int (nI (cN (leB (wS sg n)) 256))), (14, .int 1), (15, .int (nI k)), (16, .int (nI (hvN sg k n))), (17, .int (nI (cN (fun a => decide (sg (11 + a) = nI k)) n))), (18, .int (bI (nd1 sg n k 256))), (19, .int (swF (wS sg n) k 256)), (0, .ref p70), (1, .ref gA0), (2, .ref wA0), (3, .ref lA0), (4, .ref rA0), (5, .ref tA0), (6, .int (nI (plN sg n))), (7, .int (allF (wS sg n) 256))]) hx hb dL_isSo_468 hl (by decide) rfl (fun ls hl => ?_)
    exact so_mem4 C0 FF0 hkn hcq hsq hp hP hD hS (lv_sub hl [0, 2, 1, 3, 4, 5, 6, 7, 8, 9, 10, 11, 12, 13, 14, 15, 16, 17, 18, 19] rfl) K
set_option maxHeartbeats 4000000 in
set_option maxRecDepth 100000 in
theorem so_mem2 (C : soC p l s m meth c args D cy g B A) (F : soF v tx ga wa la ra sg n r) {k : Nat} {st : Int32} {w : PowV} {cq sq : Nat} {H : Heap} {locs : List Loc} {ls : Array Slot} (hkn : k < n) (hcq : cq ≤ 700) (hsq : sq ≤ 4500) (hp : pwr st sg w) (hP : va_P D vwCl (List.flatten [(wPCo p70 b7 c7 d7 e7 h7 k7 st), (wSet cy b7 v), (wPow cy c7 w), (wTxt cy g k7 tx), (wI cy gA0 3 ga), (wI cy wA0 8 wa), (wI cy lA0 8 la), (wI cy rA0 4 ra), (wL cy tA0 4 (tabF (wS sg n) 256))]) H) (hD : va_D A (List.flatten [(wPCo p70 b7 c7 d7 e7 h7 k7 st), (wSet cy b7 v), (wPow cy c7 w), (wTxt cy g k7 tx), (wI cy gA0 3 ga), (wI cy wA0 8 wa), (wI cy lA0 8 la), (wI cy rA0 4 ra), (wL cy tA0 4 (tabF (wS sg n) 256))])) (hS : va_S A s.heap H locs) (hl : lv_has ls 24 [(18, .int (bI (nd1 sg n k 0))), (17, .int 0), (16, .int (nI (hvN sg k 0))), (8, .int (nI (wsN sg k))), (9, .int (nI (duN sg n k))), (10, .int (nI (neN sg n k))), (11, .int (orK sg n k)), (12, .int (nI (cN (wS sg n) 256))), (13, .int (nI (cN (leB (wS sg n)) 256))), (14, .int 1), (15, .int (nI k)), (0, .ref p70), (1, .ref gA0), (2, .ref wA0), (3, .ref lA0), (4, .ref rA0), (5, .ref tA0), (6, .int (nI (plN sg n))), (7, .int (allF (wS sg n) 256))])
    (K : ∀ (st : Int32) (w : PowV) (cq1 sq1 : Nat) (H : Heap) (locs : List Loc) (ls : Array Slot), cq1 ≤ cq + 20 → sq1 ≤ sq + 120 → pwr st sg w → va_P D vwCl (List.flatten [(wPCo p70 b7 c7 d7 e7 h7 k7 st), (wSet cy b7 v), (wPow cy c7 w), (wTxt cy g k7 tx), (wI cy gA0 3 ga), (wI cy wA0 8 wa), (wI cy lA0 8 la), (wI cy rA0 4 ra), (wL cy tA0 4 (tabF (wS sg n) 256))]) H → va_D A (List.flatten [(wPCo p70 b7 c7 d7 e7 h7 k7 st), (wSet cy b7 v), (wPow cy c7 w), (wTxt cy g k7 tx), (wI cy gA0 3 ga), (wI cy wA0 8 wa), (wI cy lA0 8 la), (wI cy rA0 4 ra), (wL cy tA0 4 (tabF (wS sg n) 256))]) → va_S A s.heap H locs → lv_has ls 24 [(15, .int (nI (k + 1))), (8, .int (nI (wsN sg (k + 1)))), (9, .int (nI (duN sg n (k + 1)))), (10, .int (nI (neN sg n (k + 1)))), (11, .int (orK sg n (k + 1))), (12, .int (nI (cN (wS sg n) 256))), (13, .int (nI (cN (leB (wS sg n)) 256))), (14, .int 1), (0, .ref p70), (1, .ref gA0), (2, .ref wA0), (3, .ref lA0), (4, .ref rA0), (5, .ref tA0), (6, .int (nI (plN sg n))), (7, .int (allF (wS sg n) 256))] → W p l e isoR s m args below meth c H locs cq1 sq1 Q (F0 m 249 ls [])) : W p l e isoR s m args below meth c H locs cq sq Q (F0 m 301 ls []) := by
  have C0 := C
  have FF0 := F
  obtain ⟨hl0, hx, hb, hr9, hml, hown, hts, hlk, hK0, hNc, hAB, hA⟩ := C
  obtain ⟨CHH, hAG, htx, hl8⟩ := F
  have hV := CHH.1
  have hN := CHH.2.1
  have hL := CHH.2.2.1
  have hW := CHH.2.2.2.1
  have hR := CHH.2.2.2.2.1
  have h8 : n ≤ 8 := hN.2.1
  have hr4 : r ≤ 4 := hN.2.2.2
  have hp256 := plN_lt (s := sg) h8
  have S := my_fix hx hb hml hown hts
  have hT : ∀ j, j < 256 → f_L_at (tabF (wS sg n) 256) (nI j) = bI (wS sg n j) := fun j hj => at_tab _ hj
  refine lv_iconst (v := 0) hx hb dL_isSo_301 (by decide) ?_
  refine lv_istore (lv' := [(19, .int 0), (18, .int (bI (nd1 sg n k 0))), (17, .int 0), (16, .int (nI (hvN sg k 0))), (8, .int (nI (wsN sg k))), (9, .int (nI (duN sg n k))), (10, .int (nI (neN sg n k))), (11, .int (orK sg n k)), (12, .int (nI (cN (wS sg n) 256))), (13, .int (nI (cN (leB (wS sg n)) 256))), (14, .int 1), (15, .int (nI k)), (0, .ref p70), (1, .ref gA0), (2, .ref wA0), (3, .ref lA0), (4, .ref rA0), (5, .ref tA0), (6, .int (nI (plN sg n))), (7, .int (allF (wS sg n) 256))]) hx hb dL_isSo_302 hl (by decide) rfl (fun ls hl => ?_)
  refine so_heavy C0 FF0 hkn (by omega) (by omega) (fun H locs ls hP hD hS hl => ?_) (n + 1) 0 H locs ls (by omega) (Nat.zero_le _) hP hD hS (lv_sub hl [0, 3, 2, 1, 4, 5, 6, 7, 8, 9, 10, 11, 12, 13, 14, 15, 16, 17, 18, 19] rfl)
  refine lv_iconst (v := 0) hx hb dL_isSo_359 (by decide) ?_
  refine lv_istore (lv' := [(19, .int 0), (16, .int (nI (hvN sg k n))), (17, .int (nI (cN (fun a => decide (sg (11 + a) = nI k)) n))), (18, .int (bI (nd1 sg n k 0))), (8, .int (nI (wsN sg k))), (9, .int (nI (duN sg n k))), (10, .int (nI (neN sg n k))), (11, .int (orK sg n k)), (12, .int (nI (cN (wS sg n) 256))), (13, .int (nI (cN (leB (wS sg n)) 256))), (14, .int 1), (15, .int (nI k)), (0, .ref p70), (1, .ref gA0), (2, .ref wA0), (3, .ref lA0), (4, .ref rA0), (5, .ref tA0), (6, .int (nI (plN sg n))), (7, .int (allF (wS sg n) 256))]) hx hb dL_isSo_360 hl (by decide) rfl (fun ls hl => ?_)
  refine so_need C0 FF0 hkn (by omega) (by omega) (fun H locs ls hP hD hS hl => ?_) 257 0 H locs ls (by decide) (by decide) hP hD hS (lv_sub hl [0, 3, 1, 2, 4, 5, 6, 7, 8, 9, 10, 11, 12, 13, 14, 15, 16, 17, 18, 19] rfl)
  refine lv_aload hx hb dL_isSo_409 (lv_at hl 17 rfl) ?_
  refine lv_iload hx hb dL_isSo_411 (lv_at hl 11 rfl) ?_
  refine rd_goi (va_runS (As := [.ref tA0, .int (nI k)]) (rest := []) S (c_L_swings l D cy g B tA0 (tabF (wS sg n) 256) _ (nI_pos (show k < 2 ^ 31 by omega)) (n8 (show k < 8 by omega))) (va_cwS 2 hts gL_isSo_L_swings rfl rfl rfl hd_L_swings_S ⟨Nat.le_of_ble_eq_true rfl, Nat.le_of_ble_eq_true rfl⟩) ⟨rdP_blind, my_preV hK0 hS hAB hP [32] rfl⟩ rfl rfl hl.1 rfl (lv_room (Nat.le_of_ble_eq_true rfl)) dL_isSo_413 ⟨(show cq + 0 ≤ 800 by omega), (show sq + 0 ≤ 4900 by omega)⟩) ?_
  refine wk_ti (v := (swF (wS sg n) k 256)) (swings_law hT (show k < 8 by omega)) ?_
  refine lv_istore (lv' := [(19, .int (swF (wS sg n) k 256)), (18, .int (bI (nd1 sg n k 256))), (16, .int (nI (hvN sg k n))), (17, .int (nI (cN (fun a => decide (sg (11 + a) = nI k)) n))), (8, .int (nI (wsN sg k))), (9, .int (nI (duN sg n k))), (10, .int (nI (neN sg n k))), (11, .int (orK sg n k)), (12, .int (nI (cN (wS sg n) 256))), (13, .int (nI (cN (leB (wS sg n)) 256))), (14, .int 1), (15, .int (nI k)), (0, .ref p70), (1, .ref gA0), (2, .ref wA0), (3, .ref lA0), (4, .ref rA0), (5, .ref tA0), (6, .int (nI (plN sg n))), (7, .int (allF (wS sg n) 256))]) hx hb dL_isSo_416 hl (by decide) rfl (fun ls hl => ?_)
  refine lv_iload hx hb dL_isSo_418 (lv_at hl 4 rfl) ?_
  refine lv_aload_n hx hb dL_isSo_420 rfl (lv_at hl 14 rfl) ?_
  refine lv_iload hx hb dL_isSo_421 (lv_at hl 11 rfl) ?_
  refine wk_ia hx hb hK0.1 hP 29 0 (k := k) (v := (nI (wN sg k))) rfl rfl (by omega) (by decide) ((hAG.2.2.2.1 k hkn).trans (wN_eq hW hkn).1) dL_isSo_423 ?_
  refine lv_iadd hx hb dL_isSo_424 ?_
  refine wk_ti (x := ((nI (wsN sg k)) + (nI (wN sg k)))) (v := (nI (wsN sg (k + 1)))) (nI_add _ _) ?_
  refine lv_istore (lv' := [(8, .int (nI (wsN sg (k + 1)))), (19, .int (swF (wS sg n) k 256)), (18, .int (bI (nd1 sg n k 256))), (16, .int (nI (hvN sg k n))), (17, .int (nI (cN (fun a => decide (sg (11 + a) = nI k)) n))), (9, .int (nI (duN sg n k))), (10, .int (nI (neN sg n k))), (11, .int (orK sg n k)), (12, .int (nI (cN (wS sg n) 256))), (13, .int (nI (cN (leB (wS sg n)) 256))), (14, .int 1), (15, .int (nI k)), (0, .ref p70), (1, .ref gA0), (2, .ref wA0), (3, .ref lA0), (4, .ref rA0), (5, .ref tA0), (6, .int (nI (plN sg n))), (7, .int (allF (wS sg n) 256))]) hx hb dL_isSo_425 hl (by decide) rfl (fun ls hl => ?_)
  refine lv_iload hx hb dL_isSo_427 (lv_at hl 5 rfl) ?_
  refine lv_aload_n hx hb dL_isSo_429 rfl (lv_at hl 15 rfl) ?_
  refine lv_iload hx hb dL_isSo_430 (lv_at hl 11 rfl) ?_
  refine wk_ia hx hb hK0.1 hP 30 0 (k := k) (v := (sg (11 + k))) rfl rfl (by omega) (by decide) (hAG.2.2.2.2.1 k hkn) dL_isSo_432 ?_
  rcases l_ne hL h8 hkn with hbb | ⟨p9, hp9, hb1, hb2, hb3, hb4⟩
  · refine lv_if_ge (tgt := 448) hx hb dL_isSo_433 (by decide) (fun h9 => absurd h9 (by rw [hbb]; decide)) (fun _ => ?_)
    refine lv_iload hx hb dL_isSo_436 (lv_at hl 1 rfl) ?_
    by_cases hz : swF (wS sg n) k 256 = 0
    · refine lv_if_ne (tgt := 448) hx hb dL_isSo_438 (by decide) (fun h9 => absurd hz h9) (fun _ => ?_)
      refine lv_iconst (v := 1) hx hb dL_isSo_441 (by decide) ?_
      refine lv_iload hx hb dL_isSo_442 (lv_at hl 11 rfl) ?_
      refine lv_ishl hx hb dL_isSo_444 ?_
      refine lv_goto (tgt := 449) hx hb dL_isSo_445 (by decide) ?_
      refine lv_ior hx hb dL_isSo_449 ?_
      refine wk_ti (x := ((nI (duN sg n k)) ||| (1 <<< ((nI k) &&& 31)))) (v := (nI (duN sg n (k + 1)))) (or_yes (P := fun m => plB sg n m && decide (swF (wS sg n) m 256 = 0)) (show k < 8 by omega) (by show (plB sg n k && decide (swF (wS sg n) k 256 = 0)) = true; rw [plB_iff.mpr ⟨hkn, hbb⟩, decide_eq_true hz]; rfl)) ?_
      refine lv_istore (lv' := [(9, .int (nI (duN sg n (k + 1)))), (8, .int (nI (wsN sg (k + 1)))), (19, .int (swF (wS sg n) k 256)), (18, .int (bI (nd1 sg n k 256))), (16, .int (nI (hvN sg k n))), (17, .int (nI (cN (fun a => decide (sg (11 + a) = nI k)) n))), (10, .int (nI (neN sg n k))), (11, .int (orK sg n k)), (12, .int (nI (cN (wS sg n) 256))), (13, .int (nI (cN (leB (wS sg n)) 256))), (14, .int 1), (15, .int (nI k)), (0, .ref p70), (1, .ref gA0), (2, .ref wA0), (3, .ref lA0), (4, .ref rA0), (5, .ref tA0), (6, .int (nI (plN sg n))), (7, .int (allF (wS sg n) 256))]) hx hb dL_isSo_450 hl (by decide) rfl (fun ls hl => ?_)
      exact so_mem3 C0 FF0 hkn hcq hsq hp hP hD hS (lv_sub hl [0, 1, 6, 7, 8, 9, 10, 11, 4, 5, 3, 2, 12, 13, 14, 15, 16, 17, 18, 19] rfl) K
    · refine lv_if_ne (tgt := 448) hx hb dL_isSo_438 (by decide) (fun _ => ?_) (fun h9 => absurd h9 hz)
      refine lv_iconst (v := 0) hx hb dL_isSo_448 (by decide) ?_
      refine lv_ior hx hb dL_isSo_449 ?_
      refine wk_ti (x := ((nI (duN sg n k)) ||| 0)) (v := (nI (duN sg n (k + 1)))) (or_no (P := fun m => plB sg n m && decide (swF (wS sg n) m 256 = 0)) (by show (plB sg n k && decide (swF (wS sg n) k 256 = 0)) = false; rw [decide_eq_false hz, Bool.and_false])) ?_
      refine lv_istore (lv' := [(9, .int (nI (duN sg n (k + 1)))), (8, .int (nI (wsN sg (k + 1)))), (19, .int (swF (wS sg n) k 256)), (18, .int (bI (nd1 sg n k 256))), (16, .int (nI (hvN sg k n))), (17, .int (nI (cN (fun a => decide (sg (11 + a) = nI k)) n))), (10, .int (nI (neN sg n k))), (11, .int (orK sg n k)), (12, .int (nI (cN (wS sg n) 256))), (13, .int (nI (cN (leB (wS sg n)) 256))), (14, .int 1), (15, .int (nI k)), (0, .ref p70), (1, .ref gA0), (2, .ref wA0), (3, .ref lA0), (4, .ref rA0), (5, .ref tA0), (6, .int (nI (plN sg n))), (7, .int (allF (wS sg n) 256))]) hx hb dL_isSo_450 hl (by decide) rfl (fun ls hl => ?_)
      exact so_mem3 C0 FF0 hkn hcq hsq hp hP hD hS (lv_sub hl [0, 1, 6, 7, 8, 9, 10, 11, 4, 5, 3, 2, 12, 13, 14, 15, 16, 17, 18, 19] rfl) K
  · refine lv_if_ge (tgt := 448) hx hb dL_isSo_433 (by decide) (fun _ => ?_) (fun h9 => absurd hb4 h9)
    refine lv_iconst (v := 0) hx hb dL_isSo_448 (by decide) ?_
    refine lv_ior hx hb dL_isSo_449 ?_
    refine wk_ti (x := ((nI (duN sg n k)) ||| 0)) (v := (nI (duN sg n (k + 1)))) (or_no (P := fun m => plB sg n m && decide (swF (wS sg n) m 256 = 0)) (by show (plB sg n k && decide (swF (wS sg n) k 256 = 0)) = false; rw [plB_no hb3, Bool.false_and])) ?_
    refine lv_istore (lv' := [(9, .int (nI (duN sg n (k + 1)))), (8, .int (nI (wsN sg (k + 1)))), (19, .int (swF (wS sg n) k 256)), (18, .int (bI (nd1 sg n k 256))), (16, .int (nI (hvN sg k n))), (17, .int (nI (cN (fun a => decide (sg (11 + a) = nI k)) n))), (10, .int (nI (neN sg n k))), (11, .int (orK sg n k)), (12, .int (nI (cN (wS sg n) 256))), (13, .int (nI (cN (leB (wS sg n)) 256))), (14, .int 1), (15, .int (nI k)), (0, .ref p70), (1, .ref gA0), (2, .ref wA0), (3, .ref lA0), (4, .ref rA0), (5, .ref tA0), (6, .int (nI (plN sg n))), (7, .int (allF (wS sg n) 256))]) hx hb dL_isSo_450 hl (by decide) rfl (fun ls hl => ?_)
    exact so_mem3 C0 FF0 hkn hcq hsq hp hP hD hS (lv_sub hl [0, 1, 6, 7, 8, 9, 10, 11, 4, 5, 3, 2, 12, 13, 14, 15, 16, 17, 18, 19] rfl) K
set_option maxHeartbeats 4000000 in
set_option maxRecDepth 100000 in
theorem so_2 (C : soC p l s m meth c args D cy g B A) (F : soF v tx ga wa la ra sg n r) (K : ∀ (st : Int32) (w : PowV) (cq1 sq1 : Nat) (H : Heap) (locs : List Loc) (ls : Array Slot), cq1 ≤ 673 → sq1 ≤ 4036 → pwr st sg w → va_P D vwCl (List.flatten [(wPCo p70 b7 c7 d7 e7 h7 k7 st), (wSet cy b7 v), (wPow cy c7 w), (wTxt cy g k7 tx), (wI cy gA0 3 ga), (wI cy wA0 8 wa), (wI cy lA0 8 la), (wI cy rA0 4 ra), (wL cy tA0 4 (tabF (wS sg n) 256))]) H → va_D A (List.flatten [(wPCo p70 b7 c7 d7 e7 h7 k7 st), (wSet cy b7 v), (wPow cy c7 w), (wTxt cy g k7 tx), (wI cy gA0 3 ga), (wI cy wA0 8 wa), (wI cy lA0 8 la), (wI cy rA0 4 ra), (wL cy tA0 4 (tabF (wS sg n) 256))]) → va_S A s.heap H locs → lv_has ls 24 [(15, .int (nI n)), (8, .int (nI (wsN sg n))), (9, .int (nI (duN sg n n))), (10, .int (nI (neN sg n n))), (11, .int (orK sg n n)), (12, .int (nI (cN (wS sg n) 256))), (13, .int (nI (cN (leB (wS sg n)) 256))), (14, .int 1), (0, .ref p70), (1, .ref gA0), (2, .ref wA0), (3, .ref lA0), (4, .ref rA0), (5, .ref tA0), (6, .int (nI (plN sg n))), (7, .int (allF (wS sg n) 256))] → W p l e isoR s m args below meth c H locs cq1 sq1 Q (F0 m 734 ls [])) : ∀ (fu k : Nat) (st : Int32) (w : PowV) (cq sq : Nat) (H : Heap) (locs : List Loc) (ls : Array Slot), n - k < fu → k ≤ n → cq + 20 * (8 - k) ≤ 673 → sq + 120 * (8 - k) ≤ 4036 → pwr st sg w → va_P D vwCl (List.flatten [(wPCo p70 b7 c7 d7 e7 h7 k7 st), (wSet cy b7 v), (wPow cy c7 w), (wTxt cy g k7 tx), (wI cy gA0 3 ga), (wI cy wA0 8 wa), (wI cy lA0 8 la), (wI cy rA0 4 ra), (wL cy tA0 4 (tabF (wS sg n) 256))]) H → va_D A (List.flatten [(wPCo p70 b7 c7 d7 e7 h7 k7 st), (wSet cy b7 v), (wPow cy c7 w), (wTxt cy g k7 tx), (wI cy gA0 3 ga), (wI cy wA0 8 wa), (wI cy lA0 8 la), (wI cy rA0 4 ra), (wL cy tA0 4 (tabF (wS sg n) 256))]) → va_S A s.heap H locs → lv_has ls 24 [(15, .int (nI k)), (8, .int (nI (wsN sg k))), (9, .int (nI (duN sg n k))), (10, .int (nI (neN sg n k))), (11, .int (orK sg n k)), (12, .int (nI (cN (wS sg n) 256))), (13, .int (nI (cN (leB (wS sg n)) 256))), (14, .int 1), (0, .ref p70), (1, .ref gA0), (2, .ref wA0), (3, .ref lA0), (4, .ref rA0), (5, .ref tA0), (6, .int (nI (plN sg n))), (7, .int (allF (wS sg n) 256))] → W p l e isoR s m args below meth c H locs cq sq Q (F0 m 249 ls [])
  | 0, _, _, _, _, _, _, _, _ => fun h => absurd h (Nat.not_lt_zero _)
  | fu + 1, k, st, w, cq, sq, H, locs, ls => by
    intro hfu hkn0 hcq hsq hp hP hD hS hl
    have C0 := C
    have FF0 := F
    obtain ⟨hl0, hx, hb, hr9, hml, hown, hts, hlk, hK0, hNc, hAB, hA⟩ := C
    obtain ⟨CHH, hAG, htx, hl8⟩ := F
    have hV := CHH.1
    have hN := CHH.2.1
    have hL := CHH.2.2.1
    have hW := CHH.2.2.2.1
    have hR := CHH.2.2.2.2.1
    have h8 : n ≤ 8 := hN.2.1
    have hr4 : r ≤ 4 := hN.2.2.2
    have hp256 := plN_lt (s := sg) h8
    have S := my_fix hx hb hml hown hts
    have hT : ∀ j, j < 256 → f_L_at (tabF (wS sg n) 256) (nI j) = bI (wS sg n j) := fun j hj => at_tab _ hj
    refine lv_iload hx hb dL_isSo_249 (lv_at hl 0 rfl) ?_
    refine lv_aload_n hx hb dL_isSo_251 rfl (lv_at hl 9 rfl) ?_
    refine lv_iconst (v := 0) hx hb dL_isSo_252 (by decide) ?_
    refine wk_ia hx hb hK0.1 hP 28 0 (k := 0) (v := (nI n)) rfl rfl (by decide) (by decide) hAG.1 dL_isSo_253 ?_
    rcases Nat.lt_or_ge k n with hkn | hkn
    · refine lv_icmp_ge (tgt := 734) hx hb dL_isSo_254 (by decide) (fun h9 => absurd h9 (nI_ge hkn (by omega))) (fun _ => ?_)
      refine lv_iload hx hb dL_isSo_257 (lv_at hl 7 rfl) ?_
      refine lv_if_eq (tgt := 734) hx hb dL_isSo_259 (by decide) (fun h9 => absurd h9 (show ¬ (1 : Int32) = 0 by decide)) (fun _ => ?_)
      refine lv_aload_n hx hb dL_isSo_262 rfl (lv_at hl 11 rfl) ?_
      refine lv_iload hx hb dL_isSo_263 (lv_at hl 0 rfl) ?_
      refine wk_ia hx hb hK0.1 hP 30 0 (k := k) (v := (sg (11 + k))) rfl rfl (by omega) (by decide) (hAG.2.2.2.2.1 k hkn) dL_isSo_265 ?_
      have next : ∀ (st1 : Int32) (w1 : PowV) (cq1 sq1 : Nat) (H : Heap) (locs : List Loc) (ls : Array Slot), cq1 ≤ cq + 20 → sq1 ≤ sq + 120 → pwr st1 sg w1 → va_P D vwCl (List.flatten [(wPCo p70 b7 c7 d7 e7 h7 k7 st1), (wSet cy b7 v), (wPow cy c7 w1), (wTxt cy g k7 tx), (wI cy gA0 3 ga), (wI cy wA0 8 wa), (wI cy lA0 8 la), (wI cy rA0 4 ra), (wL cy tA0 4 (tabF (wS sg n) 256))]) H → va_D A (List.flatten [(wPCo p70 b7 c7 d7 e7 h7 k7 st1), (wSet cy b7 v), (wPow cy c7 w1), (wTxt cy g k7 tx), (wI cy gA0 3 ga), (wI cy wA0 8 wa), (wI cy lA0 8 la), (wI cy rA0 4 ra), (wL cy tA0 4 (tabF (wS sg n) 256))]) → va_S A s.heap H locs → lv_has ls 24 [(15, .int (nI (k + 1))), (8, .int (nI (wsN sg (k + 1)))), (9, .int (nI (duN sg n (k + 1)))), (10, .int (nI (neN sg n (k + 1)))), (11, .int (orK sg n (k + 1))), (12, .int (nI (cN (wS sg n) 256))), (13, .int (nI (cN (leB (wS sg n)) 256))), (14, .int 1), (0, .ref p70), (1, .ref gA0), (2, .ref wA0), (3, .ref lA0), (4, .ref rA0), (5, .ref tA0), (6, .int (nI (plN sg n))), (7, .int (allF (wS sg n) 256))] → W p l e isoR s m args below meth c H locs cq1 sq1 Q (F0 m 249 ls []) := fun st1 w1 cq1 sq1 H locs ls hc1 hs1 hp hP hD hS hl => so_2 C0 FF0 K fu (k + 1) st1 w1 cq1 sq1 H locs ls (by omega) (by omega) (by omega) (by omega) hp hP hD hS hl
      rcases l_ne hL h8 hkn with hbb | ⟨p9, hp9, hb1, hb2, hb3, hb4⟩
      · refine lv_if_ge (tgt := 276) hx hb dL_isSo_266 (by decide) (fun h9 => absurd h9 (by rw [hbb]; decide)) (fun _ => ?_)
        refine lv_aload_n hx hb dL_isSo_269 rfl (lv_at hl 10 rfl) ?_
        refine lv_iload hx hb dL_isSo_270 (lv_at hl 0 rfl) ?_
        refine wk_ia hx hb hK0.1 hP 29 0 (k := k) (v := (nI (wN sg k))) rfl rfl (by omega) (by decide) ((hAG.2.2.2.1 k hkn).trans (wN_eq hW hkn).1) dL_isSo_272 ?_
        refine lv_goto (tgt := 277) hx hb dL_isSo_273 (by decide) ?_
        refine wk_ti (x := (nI (wN sg k))) (v := (nI (hvN sg k 0))) (by show _ = nI (if sg (11 + k) = -1 then wN sg k else 0); rw [if_pos hbb]) ?_
        refine lv_istore (lv' := [(16, .int (nI (hvN sg k 0))), (15, .int (nI k)), (8, .int (nI (wsN sg k))), (9, .int (nI (duN sg n k))), (10, .int (nI (neN sg n k))), (11, .int (orK sg n k)), (12, .int (nI (cN (wS sg n) 256))), (13, .int (nI (cN (leB (wS sg n)) 256))), (14, .int 1), (0, .ref p70), (1, .ref gA0), (2, .ref wA0), (3, .ref lA0), (4, .ref rA0), (5, .ref tA0), (6, .int (nI (plN sg n))), (7, .int (allF (wS sg n) 256))]) hx hb dL_isSo_277 hl (by decide) rfl (fun ls hl => ?_)
        refine lv_iconst (v := 0) hx hb dL_isSo_279 (by decide) ?_
        refine lv_istore (lv' := [(17, .int 0), (16, .int (nI (hvN sg k 0))), (15, .int (nI k)), (8, .int (nI (wsN sg k))), (9, .int (nI (duN sg n k))), (10, .int (nI (neN sg n k))), (11, .int (orK sg n k)), (12, .int (nI (cN (wS sg n) 256))), (13, .int (nI (cN (leB (wS sg n)) 256))), (14, .int 1), (0, .ref p70), (1, .ref gA0), (2, .ref wA0), (3, .ref lA0), (4, .ref rA0), (5, .ref tA0), (6, .int (nI (plN sg n))), (7, .int (allF (wS sg n) 256))]) hx hb dL_isSo_280 hl (by decide) rfl (fun ls hl => ?_)
        refine lv_aload_n hx hb dL_isSo_282 rfl (lv_at hl 13 rfl) ?_
        refine lv_iload hx hb dL_isSo_283 (lv_at hl 2 rfl) ?_
        refine wk_ia hx hb hK0.1 hP 30 0 (k := k) (v := (sg (11 + k))) rfl rfl (by omega) (by decide) (hAG.2.2.2.2.1 k hkn) dL_isSo_285 ?_
        refine lv_if_ge (tgt := 298) hx hb dL_isSo_286 (by decide) (fun h9 => absurd h9 (by rw [hbb]; decide)) (fun _ => ?_)
        refine lv_iload hx hb dL_isSo_289 (lv_at hl 7 rfl) ?_
        by_cases hc : 0 < cN (wS sg n) 256
        · refine lv_if_le (tgt := 298) hx hb dL_isSo_291 (by decide) (fun h9 => absurd h9 (fun z => (pos_ct (Nat.lt_of_le_of_lt (cN_max (wS sg n) 256) (by decide))).mp z hc)) (fun _ => ?_)
          refine lv_iconst (v := 1) hx hb dL_isSo_294 (by decide) ?_
          refine lv_goto (tgt := 299) hx hb dL_isSo_295 (by decide) ?_
          refine wk_ti (x := 1) (v := (bI (nd1 sg n k 0))) (by show _ = bI (plB sg n k && decide (0 < cN (wS sg n) 256)); rw [plB_iff.mpr ⟨hkn, hbb⟩, decide_eq_true hc]; rfl) ?_
          refine lv_istore (lv' := [(18, .int (bI (nd1 sg n k 0))), (17, .int 0), (16, .int (nI (hvN sg k 0))), (15, .int (nI k)), (8, .int (nI (wsN sg k))), (9, .int (nI (duN sg n k))), (10, .int (nI (neN sg n k))), (11, .int (orK sg n k)), (12, .int (nI (cN (wS sg n) 256))), (13, .int (nI (cN (leB (wS sg n)) 256))), (14, .int 1), (0, .ref p70), (1, .ref gA0), (2, .ref wA0), (3, .ref lA0), (4, .ref rA0), (5, .ref tA0), (6, .int (nI (plN sg n))), (7, .int (allF (wS sg n) 256))]) hx hb dL_isSo_299 hl (by decide) rfl (fun ls hl => ?_)
          exact so_mem2 C0 FF0 hkn (by omega) (by omega) hp hP hD hS (lv_sub hl [0, 1, 2, 4, 5, 6, 7, 8, 9, 10, 3, 11, 12, 13, 14, 15, 16, 17, 18] rfl) next
        · refine lv_if_le (tgt := 298) hx hb dL_isSo_291 (by decide) (fun _ => ?_) (fun h9 => absurd ((pos_ct (Nat.lt_of_le_of_lt (cN_max (wS sg n) 256) (by decide))).mpr hc) h9)
          refine lv_iconst (v := 0) hx hb dL_isSo_298 (by decide) ?_
          refine wk_ti (x := 0) (v := (bI (nd1 sg n k 0))) (by show _ = bI (plB sg n k && decide (0 < cN (wS sg n) 256)); rw [plB_iff.mpr ⟨hkn, hbb⟩, decide_eq_false hc]; rfl) ?_
          refine lv_istore (lv' := [(18, .int (bI (nd1 sg n k 0))), (17, .int 0), (16, .int (nI (hvN sg k 0))), (15, .int (nI k)), (8, .int (nI (wsN sg k))), (9, .int (nI (duN sg n k))), (10, .int (nI (neN sg n k))), (11, .int (orK sg n k)), (12, .int (nI (cN (wS sg n) 256))), (13, .int (nI (cN (leB (wS sg n)) 256))), (14, .int 1), (0, .ref p70), (1, .ref gA0), (2, .ref wA0), (3, .ref lA0), (4, .ref rA0), (5, .ref tA0), (6, .int (nI (plN sg n))), (7, .int (allF (wS sg n) 256))]) hx hb dL_isSo_299 hl (by decide) rfl (fun ls hl => ?_)
          exact so_mem2 C0 FF0 hkn (by omega) (by omega) hp hP hD hS (lv_sub hl [0, 1, 2, 4, 5, 6, 7, 8, 9, 10, 3, 11, 12, 13, 14, 15, 16, 17, 18] rfl) next
      · refine lv_if_ge (tgt := 276) hx hb dL_isSo_266 (by decide) (fun _ => ?_) (fun h9 => absurd hb4 h9)
        refine lv_iconst (v := 0) hx hb dL_isSo_276 (by decide) ?_
        refine wk_ti (x := 0) (v := (nI (hvN sg k 0))) (by show _ = nI (if sg (11 + k) = -1 then wN sg k else 0); rw [if_neg hb3]; rfl) ?_
        refine lv_istore (lv' := [(16, .int (nI (hvN sg k 0))), (15, .int (nI k)), (8, .int (nI (wsN sg k))), (9, .int (nI (duN sg n k))), (10, .int (nI (neN sg n k))), (11, .int (orK sg n k)), (12, .int (nI (cN (wS sg n) 256))), (13, .int (nI (cN (leB (wS sg n)) 256))), (14, .int 1), (0, .ref p70), (1, .ref gA0), (2, .ref wA0), (3, .ref lA0), (4, .ref rA0), (5, .ref tA0), (6, .int (nI (plN sg n))), (7, .int (allF (wS sg n) 256))]) hx hb dL_isSo_277 hl (by decide) rfl (fun ls hl => ?_)
        refine lv_iconst (v := 0) hx hb dL_isSo_279 (by decide) ?_
        refine lv_istore (lv' := [(17, .int 0), (16, .int (nI (hvN sg k 0))), (15, .int (nI k)), (8, .int (nI (wsN sg k))), (9, .int (nI (duN sg n k))), (10, .int (nI (neN sg n k))), (11, .int (orK sg n k)), (12, .int (nI (cN (wS sg n) 256))), (13, .int (nI (cN (leB (wS sg n)) 256))), (14, .int 1), (0, .ref p70), (1, .ref gA0), (2, .ref wA0), (3, .ref lA0), (4, .ref rA0), (5, .ref tA0), (6, .int (nI (plN sg n))), (7, .int (allF (wS sg n) 256))]) hx hb dL_isSo_280 hl (by decide) rfl (fun ls hl => ?_)
        refine lv_aload_n hx hb dL_isSo_282 rfl (lv_at hl 13 rfl) ?_
        refine lv_iload hx hb dL_isSo_283 (lv_at hl 2 rfl) ?_
        refine wk_ia hx hb hK0.1 hP 30 0 (k := k) (v := (sg (11 + k))) rfl rfl (by omega) (by decide) (hAG.2.2.2.2.1 k hkn) dL_isSo_285 ?_
        refine lv_if_ge (tgt := 298) hx hb dL_isSo_286 (by decide) (fun _ => ?_) (fun h9 => absurd hb4 h9)
        refine lv_iconst (v := 0) hx hb dL_isSo_298 (by decide) ?_
        refine wk_ti (x := 0) (v := (bI (nd1 sg n k 0))) (by show _ = bI (plB sg n k && decide (0 < cN (wS sg n) 256)); rw [plB_no hb3, Bool.false_and]; rfl) ?_
        refine lv_istore (lv' := [(18, .int (bI (nd1 sg n k 0))), (17, .int 0), (16, .int (nI (hvN sg k 0))), (15, .int (nI k)), (8, .int (nI (wsN sg k))), (9, .int (nI (duN sg n k))), (10, .int (nI (neN sg n k))), (11, .int (orK sg n k)), (12, .int (nI (cN (wS sg n) 256))), (13, .int (nI (cN (leB (wS sg n)) 256))), (14, .int 1), (0, .ref p70), (1, .ref gA0), (2, .ref wA0), (3, .ref lA0), (4, .ref rA0), (5, .ref tA0), (6, .int (nI (plN sg n))), (7, .int (allF (wS sg n) 256))]) hx hb dL_isSo_299 hl (by decide) rfl (fun ls hl => ?_)
        exact so_mem2 C0 FF0 hkn (by omega) (by omega) hp hP hD hS (lv_sub hl [0, 1, 2, 4, 5, 6, 7, 8, 9, 10, 3, 11, 12, 13, 14, 15, 16, 17, 18] rfl) next
    · have e : k = n := by omega
      subst e
      refine lv_icmp_ge (tgt := 734) hx hb dL_isSo_254 (by decide) (fun _ => ?_) (fun h9 => absurd (nI_le (Nat.le_refl _) (by omega)) h9)
      exact K st w cq sq H locs ls (by omega) (by omega) hp hP hD hS (lv_sub hl [0, 1, 2, 3, 4, 5, 6, 7, 8, 9, 10, 11, 12, 13, 14, 15] rfl)
end ISO
