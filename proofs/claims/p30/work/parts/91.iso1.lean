/-! part 91: isSo: all sets of players -/
section ISO
variable {p : Program} {l : Launch} {e : Env} {s : State} {m : MethodId} {args : Array Value} {below : List Frame} {meth : Method} {c : Code} {Q : State → Prop} {D : va_G} {cy : Nat → ClassId} {g : Nat → Nat} {B : Nat} {A : Nat → Prop}
variable {p70 : Nat} {b7 c7 d7 e7 h7 k7 : Nat → Nat} {gA0 wA0 lA0 rA0 tA0 : Nat} {v : SetV} {tx : TxtV} {ga wa la ra sg : Nat → Int32} {n r : Nat}
set_option maxHeartbeats 4000000 in
set_option maxRecDepth 100000 in
theorem so_wins (C : soC p l s m meth c args D cy g B A) (F : soF v tx ga wa la ra sg n r) {j : Nat} {x12 x13 : Int32} {st : Int32} {w : PowV} {cq sq : Nat} {H : Heap} {locs : List Loc} {ls : Array Slot} (hj : j < 256) (hcq : cq ≤ 700) (hsq : sq ≤ 4500) (hp : pwr st sg w) (hP : va_P D vwCl (List.flatten [(wPCo p70 b7 c7 d7 e7 h7 k7 st), (wSet cy b7 v), (wPow cy c7 w), (wTxt cy g k7 tx), (wI cy gA0 3 ga), (wI cy wA0 8 wa), (wI cy lA0 8 la), (wI cy rA0 4 ra), (wL cy tA0 4 (tabF (wS sg n) 256))]) H) (hD : va_D A (List.flatten [(wPCo p70 b7 c7 d7 e7 h7 k7 st), (wSet cy b7 v), (wPow cy c7 w), (wTxt cy g k7 tx), (wI cy gA0 3 ga), (wI cy wA0 8 wa), (wI cy lA0 8 la), (wI cy rA0 4 ra), (wL cy tA0 4 (tabF (wS sg n) 256))])) (hS : va_S A s.heap H locs) (hl : lv_has ls 24 [(14, .int 1), (15, .int (nI j)), (12, .int x12), (13, .int x13), (8, .int 0), (9, .int 0), (10, .int 0), (11, .int 0), (0, .ref p70), (1, .ref gA0), (2, .ref wA0), (3, .ref lA0), (4, .ref rA0), (5, .ref tA0), (6, .int (nI (plN sg n))), (7, .int (allF (wS sg n) 256))])
    (K : ∀ (st : Int32) (w : PowV) (cq1 sq1 : Nat) (H : Heap) (locs : List Loc) (ls : Array Slot), cq1 ≤ cq + 1 → sq1 ≤ sq + 6 → pwr st sg w → va_P D vwCl (List.flatten [(wPCo p70 b7 c7 d7 e7 h7 k7 st), (wSet cy b7 v), (wPow cy c7 w), (wTxt cy g k7 tx), (wI cy gA0 3 ga), (wI cy wA0 8 wa), (wI cy lA0 8 la), (wI cy rA0 4 ra), (wL cy tA0 4 (tabF (wS sg n) 256))]) H → va_D A (List.flatten [(wPCo p70 b7 c7 d7 e7 h7 k7 st), (wSet cy b7 v), (wPow cy c7 w), (wTxt cy g k7 tx), (wI cy gA0 3 ga), (wI cy wA0 8 wa), (wI cy lA0 8 la), (wI cy rA0 4 ra), (wL cy tA0 4 (tabF (wS sg n) 256))]) → va_S A s.heap H locs → lv_has ls 24 [(15, .int (nI (j + 1))), (12, .int x12), (13, .int x13), (8, .int 0), (9, .int 0), (10, .int 0), (11, .int 0), (14, .int 1), (0, .ref p70), (1, .ref gA0), (2, .ref wA0), (3, .ref lA0), (4, .ref rA0), (5, .ref tA0), (6, .int (nI (plN sg n))), (7, .int (allF (wS sg n) 256))] → W p l e isoR s m args below meth c H locs cq1 sq1 Q (F0 m 51 ls [])) : W p l e isoR s m args below meth c H locs cq sq Q (F0 m 183 ls []) := by
  obtain ⟨hl0, hx, hb, hr9, hml, hown, hts, hlk, hK0, hNc, hAB, hA⟩ := C
  obtain ⟨CHH, hAG, htx, hl8⟩ := F
  have hV := CHH.1
  have hN := CHH.2.1
  have hL := CHH.2.2.1
  have hW := CHH.2.2.2.1
  have hR := CHH.2.2.2.2.1
  have h8 : n ≤ 8 := hN.2.1
  have hr4 : r ≤ 4 := hN.2.2.2
  have hp256 := plN_lt (s := sg) h8
  have S := my_fix hx hb hml hown hts
  have hT : ∀ j, j < 256 → f_L_at (tabF (wS sg n) 256) (nI j) = bI (wS sg n j) := fun j hj => at_tab _ hj
  refine lv_iload hx hb dL_isSo_183 (lv_at hl 0 rfl) ?_
  refine lv_if_eq (tgt := 237) hx hb dL_isSo_185 (by decide) (fun h9 => absurd h9 (show ¬ (1 : Int32) = 0 by decide)) (fun _ => ?_)
  refine lv_aload_n hx hb dL_isSo_188 rfl (lv_at hl 8 rfl) ?_
  refine lv_iload hx hb dL_isSo_189 (lv_at hl 1 rfl) ?_
  rcases Nat.lt_or_ge j (2 ^ n) with hj2 | hj2
  · obtain ⟨⟨st1, w1⟩, e1, hp1⟩ := A_wins (st := st) (w := w) CHH hp hj2
    refine lw_compi (wcs := [(wPCo p70 b7 c7 d7 e7 h7 k7 st), (wSet cy b7 v), (wPow cy c7 w)]) (wns := fun u8 => [(wPCo p70 b7 c7 d7 e7 h7 k7 u8.1), (wSet cy b7 v), (wPow cy c7 u8.2)]) (W2 := fun u8 => [(wPCo p70 b7 c7 d7 e7 h7 k7 u8.1), (wSet cy b7 v), (wPow cy c7 u8.2), (wTxt cy g k7 tx), (wI cy gA0 3 ga), (wI cy wA0 8 wa), (wI cy lA0 8 la), (wI cy rA0 4 ra), (wL cy tA0 4 (tabF (wS sg n) 256))]) (vx_runSW (As := [.ref p70, .int (nI j)]) (rest := []) S (c_L_winsOf l hl0 D cy g B p70 b7 c7 d7 e7 h7 k7 st v w (nI j) (fun k h => k_wins h)) (vx_cwSW 2 hts gL_isSo_L_winsOf rfl rfl rfl hd_L_winsOf_S ⟨Nat.le_of_ble_eq_true rfl, Nat.le_of_ble_eq_true rfl⟩) ⟨lwP_blind, my_preL (wcs := [(wPCo p70 b7 c7 d7 e7 h7 k7 st), (wSet cy b7 v), (wPow cy c7 w)]) hK0 hNc hS hAB hP hD [0, 1, 2] (by decide) rfl rfl⟩ rfl rfl hl.1 rfl (lv_room (Nat.le_of_ble_eq_true rfl)) dL_isSo_191 ⟨(show cq + 1 ≤ 800 by omega), (show sq + 6 ≤ 4900 by omega)⟩) hS hP hD [0, 1, 2] rfl rfl (fun _ => rfl) (fun _ => by simp only [List.map_cons, List.map_nil, adrSet, adrSetE, adrPow, adrPowE, adrTxt, adrTxtE, adrSav, adrSavE, adrPCo, adrI, adrL]) (fun _ => rfl) (fun r9 u9 H locs hw hP hD hS => ?_)
    obtain ⟨rfl, rfl⟩ := Prod.mk.inj (e1.symm.trans hw)
    have hP : va_P D vwCl (List.flatten [(wPCo p70 b7 c7 d7 e7 h7 k7 st1), (wSet cy b7 v), (wPow cy c7 w1), (wTxt cy g k7 tx), (wI cy gA0 3 ga), (wI cy wA0 8 wa), (wI cy lA0 8 la), (wI cy rA0 4 ra), (wL cy tA0 4 (tabF (wS sg n) 256))]) H := hP
    have hD : va_D A (List.flatten [(wPCo p70 b7 c7 d7 e7 h7 k7 st1), (wSet cy b7 v), (wPow cy c7 w1), (wTxt cy g k7 tx), (wI cy gA0 3 ga), (wI cy wA0 8 wa), (wI cy lA0 8 la), (wI cy rA0 4 ra), (wL cy tA0 4 (tabF (wS sg n) 256))]) := hD
    refine lv_iload hx hb dL_isSo_194 (lv_at hl 1 rfl) ?_
    refine lv_iconst (v := 1) hx hb dL_isSo_196 (by decide) ?_
    refine lv_aload_n hx hb dL_isSo_197 rfl (lv_at hl 9 rfl) ?_
    refine lv_iconst (v := 0) hx hb dL_isSo_198 (by decide) ?_
    refine wk_ia hx hb hK0.1 hP 28 0 (k := 0) (v := (nI n)) rfl rfl (by decide) (by decide) hAG.1 dL_isSo_199 ?_
    refine lv_ishl hx hb dL_isSo_200 ?_
    refine wk_ti (x := (1 <<< ((nI n) &&& 31))) (v := (nI (2 ^ n))) (shl_nI n (by omega)) ?_
    refine lv_icmp_lt (tgt := 209) hx hb dL_isSo_201 (by decide) (fun _ => ?_) (fun h9 => absurd (nI_lt hj2 (Nat.lt_of_le_of_lt (Nat.pow_le_pow_right (by decide) h8) (by decide))) h9)
    refine lv_aload_n hx hb dL_isSo_209 rfl (lv_at hl 9 rfl) ?_
    refine lv_aload_n hx hb dL_isSo_210 rfl (lv_at hl 10 rfl) ?_
    refine lv_aload_n hx hb dL_isSo_211 rfl (lv_at hl 11 rfl) ?_
    refine lv_aload hx hb dL_isSo_212 (lv_at hl 12 rfl) ?_
    refine lv_iload hx hb dL_isSo_214 (lv_at hl 1 rfl) ?_
    refine lv_aload_n hx hb dL_isSo_216 rfl (lv_at hl 9 rfl) ?_
    refine lv_iconst (v := 1) hx hb dL_isSo_217 (by decide) ?_
    refine wk_ia hx hb hK0.1 hP 28 0 (k := 1) (v := (sg 1)) rfl rfl (by decide) (by decide) hAG.2.1 dL_isSo_218 ?_
    refine rd_goi (va_runS (As := [.ref gA0, .ref wA0, .ref lA0, .ref rA0, .int (nI j), .int (sg 1)]) (rest := [.int (if f_X8_why sg (nI j) (sg 1) = 0 then 1 else 0)]) S (c_L_why l D cy g B gA0 wA0 lA0 rA0 ga wa la ra _ _ hl8 (by rw [hAG.1]; exact Int32.not_lt.mpr (nI_le (b := 8) h8 (by decide))) (by rw [hAG.2.2.1]; exact Int32.not_lt.mpr (nI_le (b := 4) hr4 (by decide)))) (va_cwS 6 hts gL_isSo_L_why rfl rfl rfl hd_L_why_S ⟨Nat.le_of_ble_eq_true rfl, Nat.le_of_ble_eq_true rfl⟩) ⟨rdP_blind, my_preV hK0 hS hAB hP [28, 29, 30, 31] rfl⟩ rfl rfl hl.1 rfl (lv_room (Nat.le_of_ble_eq_true rfl)) dL_isSo_219 ⟨(show cq + 1 ≤ 800 by omega), (show sq + 6 ≤ 4900 by omega)⟩) ?_
    refine wk_ti (v := (f_X8_why sg (nI j) (sg 1))) (why_law hAG hN hL hW hj _) ?_
    by_cases hz : f_X8_why sg (nI j) (sg 1) = 0
    · refine lv_if_ne (tgt := 229) hx hb dL_isSo_222 (by decide) (fun h9 => absurd hz h9) (fun _ => ?_)
      refine lv_iconst (v := 1) hx hb dL_isSo_225 (by decide) ?_
      refine lv_goto (tgt := 230) hx hb dL_isSo_226 (by decide) ?_
      refine lv_icmp_ne (tgt := 237) hx hb dL_isSo_230 (by decide) (fun h9 => absurd (if_pos hz) h9) (fun _ => ?_)
      refine lv_iconst (v := 1) hx hb dL_isSo_233 (by decide) ?_
      refine lv_goto (tgt := 238) hx hb dL_isSo_234 (by decide) ?_
      refine lv_istore (lv' := [(14, .int 1), (15, .int (nI j)), (12, .int x12), (13, .int x13), (8, .int 0), (9, .int 0), (10, .int 0), (11, .int 0), (0, .ref p70), (1, .ref gA0), (2, .ref wA0), (3, .ref lA0), (4, .ref rA0), (5, .ref tA0), (6, .int (nI (plN sg n))), (7, .int (allF (wS sg n) 256))]) hx hb dL_isSo_238 hl (by decide) rfl (fun ls hl => ?_)
      refine lv_iinc (v := (nI (j + 1))) (lv' := [(15, .int (nI (j + 1))), (14, .int 1), (12, .int x12), (13, .int x13), (8, .int 0), (9, .int 0), (10, .int 0), (11, .int 0), (0, .ref p70), (1, .ref gA0), (2, .ref wA0), (3, .ref lA0), (4, .ref rA0), (5, .ref tA0), (6, .int (nI (plN sg n))), (7, .int (allF (wS sg n) 256))]) hx hb dL_isSo_240 hl (k := 1) rfl (nI_1 j) (by decide) rfl (fun ls hl => ?_)
      refine lv_goto (tgt := 51) hx hb dL_isSo_243 (by decide) ?_
      exact K st1 w1 _ _ H locs ls (by omega) (by omega) hp1 hP hD hS (lv_sub hl [0, 2, 3, 4, 5, 6, 7, 1, 8, 9, 10, 11, 12, 13, 14, 15] rfl)
    · refine lv_if_ne (tgt := 229) hx hb dL_isSo_222 (by decide) (fun _ => ?_) (fun h9 => absurd h9 hz)
      refine lv_iconst (v := 0) hx hb dL_isSo_229 (by decide) ?_
      refine lv_icmp_ne (tgt := 237) hx hb dL_isSo_230 (by decide) (fun h9 => absurd (if_neg hz) h9) (fun _ => ?_)
      refine lv_iconst (v := 1) hx hb dL_isSo_233 (by decide) ?_
      refine lv_goto (tgt := 238) hx hb dL_isSo_234 (by decide) ?_
      refine lv_istore (lv' := [(14, .int 1), (15, .int (nI j)), (12, .int x12), (13, .int x13), (8, .int 0), (9, .int 0), (10, .int 0), (11, .int 0), (0, .ref p70), (1, .ref gA0), (2, .ref wA0), (3, .ref lA0), (4, .ref rA0), (5, .ref tA0), (6, .int (nI (plN sg n))), (7, .int (allF (wS sg n) 256))]) hx hb dL_isSo_238 hl (by decide) rfl (fun ls hl => ?_)
      refine lv_iinc (v := (nI (j + 1))) (lv' := [(15, .int (nI (j + 1))), (14, .int 1), (12, .int x12), (13, .int x13), (8, .int 0), (9, .int 0), (10, .int 0), (11, .int 0), (0, .ref p70), (1, .ref gA0), (2, .ref wA0), (3, .ref lA0), (4, .ref rA0), (5, .ref tA0), (6, .int (nI (plN sg n))), (7, .int (allF (wS sg n) 256))]) hx hb dL_isSo_240 hl (k := 1) rfl (nI_1 j) (by decide) rfl (fun ls hl => ?_)
      refine lv_goto (tgt := 51) hx hb dL_isSo_243 (by decide) ?_
      exact K st1 w1 _ _ H locs ls (by omega) (by omega) hp1 hP hD hS (lv_sub hl [0, 2, 3, 4, 5, 6, 7, 1, 8, 9, 10, 11, 12, 13, 14, 15] rfl)
  · have e1 := A_wins_no (st := st) (w := w) CHH hj2 (show j < 2 ^ 31 by omega)
    refine lw_compi (wcs := [(wPCo p70 b7 c7 d7 e7 h7 k7 st), (wSet cy b7 v), (wPow cy c7 w)]) (wns := fun u8 => [(wPCo p70 b7 c7 d7 e7 h7 k7 u8.1), (wSet cy b7 v), (wPow cy c7 u8.2)]) (W2 := fun u8 => [(wPCo p70 b7 c7 d7 e7 h7 k7 u8.1), (wSet cy b7 v), (wPow cy c7 u8.2), (wTxt cy g k7 tx), (wI cy gA0 3 ga), (wI cy wA0 8 wa), (wI cy lA0 8 la), (wI cy rA0 4 ra), (wL cy tA0 4 (tabF (wS sg n) 256))]) (vx_runSW (As := [.ref p70, .int (nI j)]) (rest := []) S (c_L_winsOf l hl0 D cy g B p70 b7 c7 d7 e7 h7 k7 st v w (nI j) (fun k h => k_wins h)) (vx_cwSW 2 hts gL_isSo_L_winsOf rfl rfl rfl hd_L_winsOf_S ⟨Nat.le_of_ble_eq_true rfl, Nat.le_of_ble_eq_true rfl⟩) ⟨lwP_blind, my_preL (wcs := [(wPCo p70 b7 c7 d7 e7 h7 k7 st), (wSet cy b7 v), (wPow cy c7 w)]) hK0 hNc hS hAB hP hD [0, 1, 2] (by decide) rfl rfl⟩ rfl rfl hl.1 rfl (lv_room (Nat.le_of_ble_eq_true rfl)) dL_isSo_191 ⟨(show cq + 1 ≤ 800 by omega), (show sq + 6 ≤ 4900 by omega)⟩) hS hP hD [0, 1, 2] rfl rfl (fun _ => rfl) (fun _ => by simp only [List.map_cons, List.map_nil, adrSet, adrSetE, adrPow, adrPowE, adrTxt, adrTxtE, adrSav, adrSavE, adrPCo, adrI, adrL]) (fun _ => rfl) (fun r9 u9 H locs hw hP hD hS => ?_)
    obtain ⟨rfl, rfl⟩ := Prod.mk.inj (e1.symm.trans hw)
    have hP : va_P D vwCl (List.flatten [(wPCo p70 b7 c7 d7 e7 h7 k7 st), (wSet cy b7 v), (wPow cy c7 w), (wTxt cy g k7 tx), (wI cy gA0 3 ga), (wI cy wA0 8 wa), (wI cy lA0 8 la), (wI cy rA0 4 ra), (wL cy tA0 4 (tabF (wS sg n) 256))]) H := hP
    have hD : va_D A (List.flatten [(wPCo p70 b7 c7 d7 e7 h7 k7 st), (wSet cy b7 v), (wPow cy c7 w), (wTxt cy g k7 tx), (wI cy gA0 3 ga), (wI cy wA0 8 wa), (wI cy lA0 8 la), (wI cy rA0 4 ra), (wL cy tA0 4 (tabF (wS sg n) 256))]) := hD
    refine lv_iload hx hb dL_isSo_194 (lv_at hl 1 rfl) ?_
    refine lv_iconst (v := 1) hx hb dL_isSo_196 (by decide) ?_
    refine lv_aload_n hx hb dL_isSo_197 rfl (lv_at hl 9 rfl) ?_
    refine lv_iconst (v := 0) hx hb dL_isSo_198 (by decide) ?_
    refine wk_ia hx hb hK0.1 hP 28 0 (k := 0) (v := (nI n)) rfl rfl (by decide) (by decide) hAG.1 dL_isSo_199 ?_
    refine lv_ishl hx hb dL_isSo_200 ?_
    refine wk_ti (x := (1 <<< ((nI n) &&& 31))) (v := (nI (2 ^ n))) (shl_nI n (by omega)) ?_
    refine lv_icmp_lt (tgt := 209) hx hb dL_isSo_201 (by decide) (fun h9 => absurd h9 (nI_nlt hj2 (by omega))) (fun _ => ?_)
    refine lv_ldc hx hb hown (hts (.constant RL 17 (-2000002)) (by decide +kernel)) dL_isSo_204 ?_
    refine lv_goto (tgt := 230) hx hb dL_isSo_206 (by decide) ?_
    refine lv_icmp_ne (tgt := 237) hx hb dL_isSo_230 (by decide) (fun h9 => absurd rfl h9) (fun _ => ?_)
    refine lv_iconst (v := 1) hx hb dL_isSo_233 (by decide) ?_
    refine lv_goto (tgt := 238) hx hb dL_isSo_234 (by decide) ?_
    refine lv_istore (lv' := [(14, .int 1), (15, .int (nI j)), (12, .int x12), (13, .int x13), (8, .int 0), (9, .int 0), (10, .int 0), (11, .int 0), (0, .ref p70), (1, .ref gA0), (2, .ref wA0), (3, .ref lA0), (4, .ref rA0), (5, .ref tA0), (6, .int (nI (plN sg n))), (7, .int (allF (wS sg n) 256))]) hx hb dL_isSo_238 hl (by decide) rfl (fun ls hl => ?_)
    refine lv_iinc (v := (nI (j + 1))) (lv' := [(15, .int (nI (j + 1))), (14, .int 1), (12, .int x12), (13, .int x13), (8, .int 0), (9, .int 0), (10, .int 0), (11, .int 0), (0, .ref p70), (1, .ref gA0), (2, .ref wA0), (3, .ref lA0), (4, .ref rA0), (5, .ref tA0), (6, .int (nI (plN sg n))), (7, .int (allF (wS sg n) 256))]) hx hb dL_isSo_240 hl (k := 1) rfl (nI_1 j) (by decide) rfl (fun ls hl => ?_)
    refine lv_goto (tgt := 51) hx hb dL_isSo_243 (by decide) ?_
    exact K st w _ _ H locs ls (by omega) (by omega) hp hP hD hS (lv_sub hl [0, 2, 3, 4, 5, 6, 7, 1, 8, 9, 10, 11, 12, 13, 14, 15] rfl)
set_option maxHeartbeats 4000000 in
set_option maxRecDepth 100000 in
theorem so_1 (C : soC p l s m meth c args D cy g B A) (F : soF v tx ga wa la ra sg n r) (K : ∀ (st : Int32) (w : PowV) (cq1 sq1 : Nat) (H : Heap) (locs : List Loc) (ls : Array Slot), cq1 ≤ 513 → sq1 ≤ 3076 → pwr st sg w → va_P D vwCl (List.flatten [(wPCo p70 b7 c7 d7 e7 h7 k7 st), (wSet cy b7 v), (wPow cy c7 w), (wTxt cy g k7 tx), (wI cy gA0 3 ga), (wI cy wA0 8 wa), (wI cy lA0 8 la), (wI cy rA0 4 ra), (wL cy tA0 4 (tabF (wS sg n) 256))]) H → va_D A (List.flatten [(wPCo p70 b7 c7 d7 e7 h7 k7 st), (wSet cy b7 v), (wPow cy c7 w), (wTxt cy g k7 tx), (wI cy gA0 3 ga), (wI cy wA0 8 wa), (wI cy lA0 8 la), (wI cy rA0 4 ra), (wL cy tA0 4 (tabF (wS sg n) 256))]) → va_S A s.heap H locs → lv_has ls 24 [(15, .int (nI 256)), (12, .int (nI (cN (wS sg n) 256))), (13, .int (nI (cN (leB (wS sg n)) 256))), (8, .int 0), (9, .int 0), (10, .int 0), (11, .int 0), (14, .int 1), (0, .ref p70), (1, .ref gA0), (2, .ref wA0), (3, .ref lA0), (4, .ref rA0), (5, .ref tA0), (6, .int (nI (plN sg n))), (7, .int (allF (wS sg n) 256))] → W p l e isoR s m args below meth c H locs cq1 sq1 Q (F0 m 246 ls [])) : ∀ (fu j : Nat) (st : Int32) (w : PowV) (cq sq : Nat) (H : Heap) (locs : List Loc) (ls : Array Slot), 256 - j < fu → j ≤ 256 → cq + 2 * (256 - j) ≤ 513 → sq + 12 * (256 - j) ≤ 3076 → pwr st sg w → va_P D vwCl (List.flatten [(wPCo p70 b7 c7 d7 e7 h7 k7 st), (wSet cy b7 v), (wPow cy c7 w), (wTxt cy g k7 tx), (wI cy gA0 3 ga), (wI cy wA0 8 wa), (wI cy lA0 8 la), (wI cy rA0 4 ra), (wL cy tA0 4 (tabF (wS sg n) 256))]) H → va_D A (List.flatten [(wPCo p70 b7 c7 d7 e7 h7 k7 st), (wSet cy b7 v), (wPow cy c7 w), (wTxt cy g k7 tx), (wI cy gA0 3 ga), (wI cy wA0 8 wa), (wI cy lA0 8 la), (wI cy rA0 4 ra), (wL cy tA0 4 (tabF (wS sg n) 256))]) → va_S A s.heap H locs → lv_has ls 24 [(15, .int (nI j)), (12, .int (nI (cN (wS sg n) j))), (13, .int (nI (cN (leB (wS sg n)) j))), (8, .int 0), (9, .int 0), (10, .int 0), (11, .int 0), (14, .int 1), (0, .ref p70), (1, .ref gA0), (2, .ref wA0), (3, .ref lA0), (4, .ref rA0), (5, .ref tA0), (6, .int (nI (plN sg n))), (7, .int (allF (wS sg n) 256))] → W p l e isoR s m args below meth c H locs cq sq Q (F0 m 51 ls [])
  | 0, _, _, _, _, _, _, _, _ => fun h => absurd h (Nat.not_lt_zero _)
  | fu + 1, j, st, w, cq, sq, H, locs, ls => by
    intro hfu hj256 hcq hsq hp hP hD hS hl
    have C0 := C
    have FF0 := F
    obtain ⟨hl0, hx, hb, hr9, hml, hown, hts, hlk, hK0, hNc, hAB, hA⟩ := C
    obtain ⟨CHH, hAG, htx, hl8⟩ := F
    have hV := CHH.1
    have hN := CHH.2.1
    have hL := CHH.2.2.1
    have hW := CHH.2.2.2.1
    have hR := CHH.2.2.2.2.1
    have h8 : n ≤ 8 := hN.2.1
    have hr4 : r ≤ 4 := hN.2.2.2
    have hp256 := plN_lt (s := sg) h8
    have S := my_fix hx hb hml hown hts
    have hT : ∀ j, j < 256 → f_L_at (tabF (wS sg n) 256) (nI j) = bI (wS sg n j) := fun j hj => at_tab _ hj
    refine lv_iload hx hb dL_isSo_51 (lv_at hl 0 rfl) ?_
    refine lv_sipush (v := 256) hx hb dL_isSo_53 (by decide) ?_
    rcases Nat.lt_or_ge j 256 with hj | hj
    · refine lv_icmp_ge (tgt := 246) hx hb dL_isSo_56 (by decide) (fun h9 => absurd h9 (n256 hj)) (fun _ => ?_)
      refine lv_iload hx hb dL_isSo_59 (lv_at hl 7 rfl) ?_
      refine lv_if_eq (tgt := 246) hx hb dL_isSo_61 (by decide) (fun h9 => absurd h9 (show ¬ (1 : Int32) = 0 by decide)) (fun _ => ?_)
      refine lv_aload hx hb dL_isSo_64 (lv_at hl 13 rfl) ?_
      refine lv_iload hx hb dL_isSo_66 (lv_at hl 0 rfl) ?_
      refine rd_goi (va_runS (As := [.ref tA0, .int (nI j)]) (rest := []) S (c_L_at l D cy g B tA0 (tabF (wS sg n) 256) _ (nI_pos (show j < 2 ^ 31 by omega)) (n256 hj)) (va_cwS 2 hts gL_isSo_L_at rfl rfl rfl hd_L_at_S ⟨Nat.le_of_ble_eq_true rfl, Nat.le_of_ble_eq_true rfl⟩) ⟨rdP_blind, my_preV hK0 hS hAB hP [32] rfl⟩ rfl rfl hl.1 rfl (lv_room (Nat.le_of_ble_eq_true rfl)) dL_isSo_68 ⟨(show cq + 0 ≤ 800 by omega), (show sq + 0 ≤ 4900 by omega)⟩) ?_
      refine wk_ti (v := (bI (wS sg n j))) (hT _ hj) ?_
      refine lv_istore (lv' := [(16, .int (bI (wS sg n j))), (15, .int (nI j)), (12, .int (nI (cN (wS sg n) j))), (13, .int (nI (cN (leB (wS sg n)) j))), (8, .int 0), (9, .int 0), (10, .int 0), (11, .int 0), (14, .int 1), (0, .ref p70), (1, .ref gA0), (2, .ref wA0), (3, .ref lA0), (4, .ref rA0), (5, .ref tA0), (6, .int (nI (plN sg n))), (7, .int (allF (wS sg n) 256))]) hx hb dL_isSo_71 hl (by decide) rfl (fun ls hl => ?_)
      refine lv_iload hx hb dL_isSo_73 (lv_at hl 0 rfl) ?_
      refine lv_istore (lv' := [(17, .int (bI (wS sg n j))), (16, .int (bI (wS sg n j))), (15, .int (nI j)), (12, .int (nI (cN (wS sg n) j))), (13, .int (nI (cN (leB (wS sg n)) j))), (8, .int 0), (9, .int 0), (10, .int 0), (11, .int 0), (14, .int 1), (0, .ref p70), (1, .ref gA0), (2, .ref wA0), (3, .ref lA0), (4, .ref rA0), (5, .ref tA0), (6, .int (nI (plN sg n))), (7, .int (allF (wS sg n) 256))]) hx hb dL_isSo_75 hl (by decide) rfl (fun ls hl => ?_)
      refine lv_iconst (v := 0) hx hb dL_isSo_77 (by decide) ?_
      refine lv_istore (lv' := [(18, .int 0), (17, .int (bI (wS sg n j))), (16, .int (bI (wS sg n j))), (15, .int (nI j)), (12, .int (nI (cN (wS sg n) j))), (13, .int (nI (cN (leB (wS sg n)) j))), (8, .int 0), (9, .int 0), (10, .int 0), (11, .int 0), (14, .int 1), (0, .ref p70), (1, .ref gA0), (2, .ref wA0), (3, .ref lA0), (4, .ref rA0), (5, .ref tA0), (6, .int (nI (plN sg n))), (7, .int (allF (wS sg n) 256))]) hx hb dL_isSo_78 hl (by decide) rfl (fun ls hl => ?_)
      refine so_min C0 FF0 hj (by omega) (by omega) (fun H locs ls hP hD hS hl => ?_) 9 0 H locs ls (by decide) (by decide) hP hD hS (lv_sub hl [0, 1, 3, 2, 6, 7, 8, 9, 4, 5, 10, 11, 12, 13, 14, 15, 16, 17, 18] rfl)
      refine lv_iload hx hb dL_isSo_130 (lv_at hl 8 rfl) ?_
      refine lv_iload hx hb dL_isSo_132 (lv_at hl 3 rfl) ?_
      cases hw : wS sg n j
      · refine lv_if_eq (tgt := 141) hx hb dL_isSo_134 (by decide) (fun _ => ?_) (fun h9 => absurd (show bI false = 0 from rfl) h9)
        refine lv_iconst (v := 0) hx hb dL_isSo_141 (by decide) ?_
        refine lv_iadd hx hb dL_isSo_142 ?_
        refine wk_ti (x := ((nI (cN (wS sg n) j)) + 0)) (v := (nI (cN (wS sg n) (j + 1)))) (by rw [cN_s, if_neg (by rw [hw]; decide)]; exact Int32.add_zero _) ?_
        refine lv_istore (lv' := [(12, .int (nI (cN (wS sg n) (j + 1)))), (18, .int (nI 8)), (17, .int (bI (leB (wS sg n) j))), (15, .int (nI j)), (16, .int (bI (wS sg n j))), (8, .int 0), (9, .int 0), (10, .int 0), (11, .int 0), (13, .int (nI (cN (leB (wS sg n)) j))), (14, .int 1), (0, .ref p70), (1, .ref gA0), (2, .ref wA0), (3, .ref lA0), (4, .ref rA0), (5, .ref tA0), (6, .int (nI (plN sg n))), (7, .int (allF (wS sg n) 256))]) hx hb dL_isSo_143 hl (by decide) rfl (fun ls hl => ?_)
        have hbb := leB_f (W := wS sg n) hw
        refine lv_iload hx hb dL_isSo_145 (lv_at hl 2 rfl) ?_
        refine lv_if_eq (tgt := 161) hx hb dL_isSo_147 (by decide) (fun _ => ?_) (fun h9 => absurd (show bI (leB (wS sg n) j) = 0 by rw [hbb]; rfl) h9)
        refine lv_iconst (v := 1) hx hb dL_isSo_161 (by decide) ?_
        refine lv_goto (tgt := 166) hx hb dL_isSo_162 (by decide) ?_
        refine lv_istore (lv' := [(14, .int 1), (12, .int (nI (cN (wS sg n) (j + 1)))), (18, .int (nI 8)), (17, .int (bI (leB (wS sg n) j))), (15, .int (nI j)), (16, .int (bI (wS sg n j))), (8, .int 0), (9, .int 0), (10, .int 0), (11, .int 0), (13, .int (nI (cN (leB (wS sg n)) j))), (0, .ref p70), (1, .ref gA0), (2, .ref wA0), (3, .ref lA0), (4, .ref rA0), (5, .ref tA0), (6, .int (nI (plN sg n))), (7, .int (allF (wS sg n) 256))]) hx hb dL_isSo_166 hl (by decide) rfl (fun ls hl => ?_)
        refine lv_iload hx hb dL_isSo_168 (lv_at hl 10 rfl) ?_
        refine lv_iload hx hb dL_isSo_170 (lv_at hl 3 rfl) ?_
        refine lv_if_eq (tgt := 179) hx hb dL_isSo_172 (by decide) (fun _ => ?_) (fun h9 => absurd (show bI (leB (wS sg n) j) = 0 by rw [hbb]; rfl) h9)
        refine lv_iconst (v := 0) hx hb dL_isSo_179 (by decide) ?_
        refine lv_iadd hx hb dL_isSo_180 ?_
        refine wk_ti (x := ((nI (cN (leB (wS sg n)) j)) + 0)) (v := (nI (cN (leB (wS sg n)) (j + 1)))) (by rw [cN_s, if_neg (by rw [hbb]; decide)]; exact Int32.add_zero _) ?_
        refine lv_istore (lv' := [(13, .int (nI (cN (leB (wS sg n)) (j + 1)))), (14, .int 1), (12, .int (nI (cN (wS sg n) (j + 1)))), (18, .int (nI 8)), (17, .int (bI (leB (wS sg n) j))), (15, .int (nI j)), (16, .int (bI (wS sg n j))), (8, .int 0), (9, .int 0), (10, .int 0), (11, .int 0), (0, .ref p70), (1, .ref gA0), (2, .ref wA0), (3, .ref lA0), (4, .ref rA0), (5, .ref tA0), (6, .int (nI (plN sg n))), (7, .int (allF (wS sg n) 256))]) hx hb dL_isSo_181 hl (by decide) rfl (fun ls hl => ?_)
        exact so_wins C0 FF0 hj (by omega) (by omega) hp hP hD hS (lv_sub hl [1, 5, 2, 0, 7, 8, 9, 10, 11, 12, 13, 14, 15, 16, 17, 18] rfl) (fun st w cq1 sq1 H locs ls hc1 hs1 hp hP hD hS hl => so_1 C0 FF0 K fu (j + 1) st w cq1 sq1 H locs ls (by omega) (by omega) (by omega) (by omega) hp hP hD hS (lv_sub hl [0, 1, 2, 3, 4, 5, 6, 7, 8, 9, 10, 11, 12, 13, 14, 15] rfl))
      · refine lv_if_eq (tgt := 141) hx hb dL_isSo_134 (by decide) (fun h9 => absurd h9 (show ¬ bI true = 0 by decide)) (fun _ => ?_)
        refine lv_iconst (v := 1) hx hb dL_isSo_137 (by decide) ?_
        refine lv_goto (tgt := 142) hx hb dL_isSo_138 (by decide) ?_
        refine lv_iadd hx hb dL_isSo_142 ?_
        refine wk_ti (x := ((nI (cN (wS sg n) j)) + 1)) (v := (nI (cN (wS sg n) (j + 1)))) (by rw [cN_s, if_pos hw]; exact nI_1 _) ?_
        refine lv_istore (lv' := [(12, .int (nI (cN (wS sg n) (j + 1)))), (18, .int (nI 8)), (17, .int (bI (leB (wS sg n) j))), (15, .int (nI j)), (16, .int (bI (wS sg n j))), (8, .int 0), (9, .int 0), (10, .int 0), (11, .int 0), (13, .int (nI (cN (leB (wS sg n)) j))), (14, .int 1), (0, .ref p70), (1, .ref gA0), (2, .ref wA0), (3, .ref lA0), (4, .ref rA0), (5, .ref tA0), (6, .int (nI (plN sg n))), (7, .int (allF (wS sg n) 256))]) hx hb dL_isSo_143 hl (by decide) rfl (fun ls hl => ?_)
        cases hbb : leB (wS sg n) j
        · refine lv_iload hx hb dL_isSo_145 (lv_at hl 2 rfl) ?_
          refine lv_if_eq (tgt := 161) hx hb dL_isSo_147 (by decide) (fun _ => ?_) (fun h9 => absurd (show bI (leB (wS sg n) j) = 0 by rw [hbb]; rfl) h9)
          refine lv_iconst (v := 1) hx hb dL_isSo_161 (by decide) ?_
          refine lv_goto (tgt := 166) hx hb dL_isSo_162 (by decide) ?_
          refine lv_istore (lv' := [(14, .int 1), (12, .int (nI (cN (wS sg n) (j + 1)))), (18, .int (nI 8)), (17, .int (bI (leB (wS sg n) j))), (15, .int (nI j)), (16, .int (bI (wS sg n j))), (8, .int 0), (9, .int 0), (10, .int 0), (11, .int 0), (13, .int (nI (cN (leB (wS sg n)) j))), (0, .ref p70), (1, .ref gA0), (2, .ref wA0), (3, .ref lA0), (4, .ref rA0), (5, .ref tA0), (6, .int (nI (plN sg n))), (7, .int (allF (wS sg n) 256))]) hx hb dL_isSo_166 hl (by decide) rfl (fun ls hl => ?_)
          refine lv_iload hx hb dL_isSo_168 (lv_at hl 10 rfl) ?_
          refine lv_iload hx hb dL_isSo_170 (lv_at hl 3 rfl) ?_
          refine lv_if_eq (tgt := 179) hx hb dL_isSo_172 (by decide) (fun _ => ?_) (fun h9 => absurd (show bI (leB (wS sg n) j) = 0 by rw [hbb]; rfl) h9)
          refine lv_iconst (v := 0) hx hb dL_isSo_179 (by decide) ?_
          refine lv_iadd hx hb dL_isSo_180 ?_
          refine wk_ti (x := ((nI (cN (leB (wS sg n)) j)) + 0)) (v := (nI (cN (leB (wS sg n)) (j + 1)))) (by rw [cN_s, if_neg (by rw [hbb]; decide)]; exact Int32.add_zero _) ?_
          refine lv_istore (lv' := [(13, .int (nI (cN (leB (wS sg n)) (j + 1)))), (14, .int 1), (12, .int (nI (cN (wS sg n) (j + 1)))), (18, .int (nI 8)), (17, .int (bI (leB (wS sg n) j))), (15, .int (nI j)), (16, .int (bI (wS sg n j))), (8, .int 0), (9, .int 0), (10, .int 0), (11, .int 0), (0, .ref p70), (1, .ref gA0), (2, .ref wA0), (3, .ref lA0), (4, .ref rA0), (5, .ref tA0), (6, .int (nI (plN sg n))), (7, .int (allF (wS sg n) 256))]) hx hb dL_isSo_181 hl (by decide) rfl (fun ls hl => ?_)
          exact so_wins C0 FF0 hj (by omega) (by omega) hp hP hD hS (lv_sub hl [1, 5, 2, 0, 7, 8, 9, 10, 11, 12, 13, 14, 15, 16, 17, 18] rfl) (fun st w cq1 sq1 H locs ls hc1 hs1 hp hP hD hS hl => so_1 C0 FF0 K fu (j + 1) st w cq1 sq1 H locs ls (by omega) (by omega) (by omega) (by omega) hp hP hD hS (lv_sub hl [0, 1, 2, 3, 4, 5, 6, 7, 8, 9, 10, 11, 12, 13, 14, 15] rfl))
        · refine lv_iload hx hb dL_isSo_145 (lv_at hl 2 rfl) ?_
          refine lv_if_eq (tgt := 161) hx hb dL_isSo_147 (by decide) (fun h9 => absurd h9 (show ¬ bI (leB (wS sg n) j) = 0 by rw [hbb]; decide)) (fun _ => ?_)
          refine lv_aload_n hx hb dL_isSo_150 rfl (lv_at hl 11 rfl) ?_
          refine lv_iload hx hb dL_isSo_151 (lv_at hl 9 rfl) ?_
          have hls := ls_at hbb hj
          obtain ⟨⟨st1, w1⟩, e1, hp1⟩ := A_least (st := st) (w := w) CHH hp (x := cN (leB (wS sg n)) j) (Nat.lt_of_le_of_lt (cN_max _ _) (by omega))
          rw [if_pos hls.1, hls.2] at e1
          refine lw_compi (wcs := [(wPCo p70 b7 c7 d7 e7 h7 k7 st), (wSet cy b7 v), (wPow cy c7 w)]) (wns := fun u8 => [(wPCo p70 b7 c7 d7 e7 h7 k7 u8.1), (wSet cy b7 v), (wPow cy c7 u8.2)]) (W2 := fun u8 => [(wPCo p70 b7 c7 d7 e7 h7 k7 u8.1), (wSet cy b7 v), (wPow cy c7 u8.2), (wTxt cy g k7 tx), (wI cy gA0 3 ga), (wI cy wA0 8 wa), (wI cy lA0 8 la), (wI cy rA0 4 ra), (wL cy tA0 4 (tabF (wS sg n) 256))]) (vx_runSW (As := [.ref p70, .int (nI (cN (leB (wS sg n)) j))]) (rest := []) S (c_L_leastOf l hl0 D cy g B p70 b7 c7 d7 e7 h7 k7 st v w (nI (cN (leB (wS sg n)) j)) (fun k h => k_least h)) (vx_cwSW 2 hts gL_isSo_L_leastOf rfl rfl rfl hd_L_leastOf_S ⟨Nat.le_of_ble_eq_true rfl, Nat.le_of_ble_eq_true rfl⟩) ⟨lwP_blind, my_preL (wcs := [(wPCo p70 b7 c7 d7 e7 h7 k7 st), (wSet cy b7 v), (wPow cy c7 w)]) hK0 hNc hS hAB hP hD [0, 1, 2] (by decide) rfl rfl⟩ rfl rfl hl.1 rfl (lv_room (Nat.le_of_ble_eq_true rfl)) dL_isSo_153 ⟨(show cq + 1 ≤ 800 by omega), (show sq + 6 ≤ 4900 by omega)⟩) hS hP hD [0, 1, 2] rfl rfl (fun _ => rfl) (fun _ => by simp only [List.map_cons, List.map_nil, adrSet, adrSetE, adrPow, adrPowE, adrTxt, adrTxtE, adrSav, adrSavE, adrPCo, adrI, adrL]) (fun _ => rfl) (fun r9 u9 H locs hw hP hD hS => ?_)
          obtain ⟨rfl, rfl⟩ := Prod.mk.inj (e1.symm.trans hw)
          have hP : va_P D vwCl (List.flatten [(wPCo p70 b7 c7 d7 e7 h7 k7 st1), (wSet cy b7 v), (wPow cy c7 w1), (wTxt cy g k7 tx), (wI cy gA0 3 ga), (wI cy wA0 8 wa), (wI cy lA0 8 la), (wI cy rA0 4 ra), (wL cy tA0 4 (tabF (wS sg n) 256))]) H := hP
          have hD : va_D A (List.flatten [(wPCo p70 b7 c7 d7 e7 h7 k7 st1), (wSet cy b7 v), (wPow cy c7 w1), (wTxt cy g k7 tx), (wI cy gA0 3 ga), (wI cy wA0 8 wa), (wI cy lA0 8 la), (wI cy rA0 4 ra), (wL cy tA0 4 (tabF (wS sg n) 256))]) := hD
          refine lv_iload hx hb dL_isSo_156 (lv_at hl 3 rfl) ?_
          refine lv_icmp_ne (tgt := 165) hx hb dL_isSo_158 (by decide) (fun h9 => absurd rfl h9) (fun _ => ?_)
          refine lv_iconst (v := 1) hx hb dL_isSo_161 (by decide) ?_
          refine lv_goto (tgt := 166) hx hb dL_isSo_162 (by decide) ?_
          refine lv_istore (lv' := [(14, .int 1), (12, .int (nI (cN (wS sg n) (j + 1)))), (18, .int (nI 8)), (17, .int (bI (leB (wS sg n) j))), (15, .int (nI j)), (16, .int (bI (wS sg n j))), (8, .int 0), (9, .int 0), (10, .int 0), (11, .int 0), (13, .int (nI (cN (leB (wS sg n)) j))), (0, .ref p70), (1, .ref gA0), (2, .ref wA0), (3, .ref lA0), (4, .ref rA0), (5, .ref tA0), (6, .int (nI (plN sg n))), (7, .int (allF (wS sg n) 256))]) hx hb dL_isSo_166 hl (by decide) rfl (fun ls hl => ?_)
          refine lv_iload hx hb dL_isSo_168 (lv_at hl 10 rfl) ?_
          refine lv_iload hx hb dL_isSo_170 (lv_at hl 3 rfl) ?_
          refine lv_if_eq (tgt := 179) hx hb dL_isSo_172 (by decide) (fun h9 => absurd h9 (show ¬ bI (leB (wS sg n) j) = 0 by rw [hbb]; decide)) (fun _ => ?_)
          refine lv_iconst (v := 1) hx hb dL_isSo_175 (by decide) ?_
          refine lv_goto (tgt := 180) hx hb dL_isSo_176 (by decide) ?_
          refine lv_iadd hx hb dL_isSo_180 ?_
          refine wk_ti (x := ((nI (cN (leB (wS sg n)) j)) + 1)) (v := (nI (cN (leB (wS sg n)) (j + 1)))) (by rw [cN_s, if_pos hbb]; exact nI_1 _) ?_
          refine lv_istore (lv' := [(13, .int (nI (cN (leB (wS sg n)) (j + 1)))), (14, .int 1), (12, .int (nI (cN (wS sg n) (j + 1)))), (18, .int (nI 8)), (17, .int (bI (leB (wS sg n) j))), (15, .int (nI j)), (16, .int (bI (wS sg n j))), (8, .int 0), (9, .int 0), (10, .int 0), (11, .int 0), (0, .ref p70), (1, .ref gA0), (2, .ref wA0), (3, .ref lA0), (4, .ref rA0), (5, .ref tA0), (6, .int (nI (plN sg n))), (7, .int (allF (wS sg n) 256))]) hx hb dL_isSo_181 hl (by decide) rfl (fun ls hl => ?_)
          exact so_wins C0 FF0 hj (by omega) (by omega) hp1 hP hD hS (lv_sub hl [1, 5, 2, 0, 7, 8, 9, 10, 11, 12, 13, 14, 15, 16, 17, 18] rfl) (fun st w cq1 sq1 H locs ls hc1 hs1 hp hP hD hS hl => so_1 C0 FF0 K fu (j + 1) st w cq1 sq1 H locs ls (by omega) (by omega) (by omega) (by omega) hp hP hD hS (lv_sub hl [0, 1, 2, 3, 4, 5, 6, 7, 8, 9, 10, 11, 12, 13, 14, 15] rfl))
    · have e : j = 256 := by omega
      subst e
      refine lv_icmp_ge (tgt := 246) hx hb dL_isSo_56 (by decide) (fun _ => ?_) (fun h9 => absurd y256 h9)
      exact K st w cq sq H locs ls (by omega) (by omega) hp hP hD hS (lv_sub hl [0, 1, 2, 3, 4, 5, 6, 7, 8, 9, 10, 11, 12, 13, 14, 15] rfl)
end ISO
