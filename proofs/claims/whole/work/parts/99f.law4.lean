/-! part 99f: calls of the law -/
section LAWK
variable {p : Program} {l : Launch} {e : Env} {s : State} {m : MethodId} {below : List Frame} {meth : Method} {c : Code} {b L : Nat} {xs : Nat → Int32} {D : va_G} {cy : Nat → ClassId} {g : Nat → Nat} {p70 : Nat} {b7 c7 d7 e7 h7 k7 : Nat → Nat} {q : Nat → Nat → Nat} {ma : Nat → Nat} {o od : Nat} {H : Heap} {locs : List Loc} {cells slots : Nat} {Q : State → Prop} {ls : Array Slot} {i : Int32}
set_option maxHeartbeats 4000000 in
set_option maxRecDepth 100000 in
theorem law_unionGain (C : LC p l e s m meth c b L xs D cy g) (hc : cells ≤ 590000) (hs : slots ≤ 7000000) (h1 : vp_in (i + 1) L) (h2 : vp_in (i + 2) L) (hI : LInv D cy g p70 b7 c7 d7 e7 h7 k7 q ma o od s.heap.size H) (hS : va_S (fun q => s.heap.size ≤ q) s.heap H locs) (hl : lv_has ls 9 [(0, .ref b), (1, .ref p70), (2, .ref (ma 0)), (3, .ref o), (4, .ref od), (5, .int i)])
    (K : ∀ (H : Heap) (locs : List Loc) (ls : Array Slot), LInv D cy g p70 b7 c7 d7 e7 h7 k7 q ma o od s.heap.size H → va_S (fun q => s.heap.size ≤ q) s.heap H locs → lv_has ls 9 [(0, .ref b), (1, .ref p70), (2, .ref (ma 0)), (3, .ref o), (4, .ref od), (5, .int i)] → W p l e room_1 s m #[Value.ref b] below meth c H locs (cells + 2) (slots + 12) Q (F0 m 1700 ls [])) : W p l e room_1 s m #[Value.ref b] below meth c H locs cells slots Q (F0 m 1403 ls []) := by
  obtain ⟨hl0, hx, hb, hr, hml, hown, hts, hX, hbl0, hlocks, hK0, hNc, hL⟩ := C
  obtain ⟨st, v, w, v2, w2, z, s0, s1, s2, s3, tx, y0, y2, y3, y4, y5, y6, y7, y8, y9, y10, y11, y12, y13, out, outD, hv, hg, hp, hrg, htx, hbl, hP, hD⟩ := hI
  have S := my_fix hx hb hml hown hts
  have hAB : ∀ q : Nat, s.heap.size ≤ q → s.heap.size ≤ q := fun _ h => h
  have hbA : ¬ s.heap.size ≤ b := Nat.not_le.mpr hbl0
  rcases R_unionGain (y4 := y4) hv hg hp hbl v2 w2 y12 (xs (i + 1).toNatClampNeg) (xs (i + 2).toNatClampNeg) with ⟨f, e1, _, e3, e4⟩ | ⟨r, u, pp, e1, e4, e5, e6, e8⟩
  · have e3 : 0 < ((fun f : Int32 => f) f) := e3
    have hne : ¬ ((fun f : Int32 => f) f) = 0 := pos_ne e3
    have e4 : f_X8_unionGain y4 y7 y10 y12 (xs (i + 1).toNatClampNeg) (xs (i + 2).toNatClampNeg) = (FP.dconst0, (((fun f : Int32 => f) f), y4, y7, y10, y12)) := e4
    refine lv_aload_n hx hb dL_law_1403 rfl (lv_at hl 1 rfl) ?_
    refine lv_aload_n hx hb dL_law_1404 rfl (lv_at hl 0 rfl) ?_
    refine lv_iload hx hb dL_law_1405 (lv_at hl 5 rfl) ?_
    refine lv_iconst (v := 1) hx hb dL_law_1407 (by decide) ?_
    refine lv_iadd hx hb dL_law_1408 ?_
    refine va_sld hx hb hX hbl0 hbA hS h1 dL_law_1409 ?_
    refine lv_aload_n hx hb dL_law_1410 rfl (lv_at hl 0 rfl) ?_
    refine lv_iload hx hb dL_law_1411 (lv_at hl 5 rfl) ?_
    refine lv_iconst (v := 2) hx hb dL_law_1413 (by decide) ?_
    refine lv_iadd hx hb dL_law_1414 ?_
    refine va_sld hx hb hX hbl0 hbA hS h2 dL_law_1415 ?_
    refine lv_aload hx hb dL_law_1416 (lv_at hl 4 rfl) ?_
    refine lw_compi (wcs := [(wPCo p70 b7 c7 d7 e7 h7 k7 st), (wSet cy b7 v), (wPow cy c7 w), (wSet cy d7 v2), (wPow cy e7 w2), (wDb cy od outD)]) (wns := fun u8 => [(wPCo p70 b7 c7 d7 e7 h7 k7 u8.1.1), (wSet cy b7 v), (wPow cy c7 u8.1.2.1), (wSet cy d7 u8.1.2.2.1), (wPow cy e7 u8.1.2.2.2), (wDb cy od u8.2)]) (W2 := fun u8 => (LWL cy g p70 b7 c7 d7 e7 h7 k7 q ma o od u8.1.1 v u8.1.2.1 u8.1.2.2.1 u8.1.2.2.2 z s0 s1 s2 s3 tx y0 0 y2 y3 y4 y5 y6 y7 y8 y9 y10 y11 y12 y13 out u8.2)) (vx_runSW (As := [.ref p70, .int (xs (i + 1).toNatClampNeg), .int (xs (i + 2).toNatClampNeg), .ref od]) (rest := []) S (c_L_unionGain l hl0 D cy g s.heap.size p70 b7 c7 d7 e7 h7 k7 st v w v2 w2 (xs (i + 1).toNatClampNeg) (xs (i + 2).toNatClampNeg) od outD (fun k h => k_unionGain h)) (vx_cwSW 4 hts gL_law_L_unionGain rfl rfl rfl hd_L_unionGain_S ⟨Nat.le_of_ble_eq_true rfl, Nat.le_of_ble_eq_true rfl⟩) ⟨lwP_blind, my_preL (wcs := [(wPCo p70 b7 c7 d7 e7 h7 k7 st), (wSet cy b7 v), (wPow cy c7 w), (wSet cy d7 v2), (wPow cy e7 w2), (wDb cy od outD)]) hK0 hNc hS hAB hP hD [0, 1, 2, 3, 4, 13] (by decide) rfl rfl⟩ rfl rfl hl.1 rfl (lv_room (Nat.le_of_ble_eq_true rfl)) dL_law_1418 ⟨(show cells + 1 ≤ 601024 by omega), (show slots + 6 ≤ 7293033 by omega)⟩) hS hP hD [0, 1, 2, 3, 4, 13] rfl rfl (fun _ => rfl) (fun _ => by simp only [List.map_cons, List.map_nil, adrSet, adrSetE, adrPow, adrPowE, adrTxt, adrTxtE, adrSav, adrSavE, adrPCo, adrMod, adrModE, adrL, adrDb]) (fun _ => rfl) (fun r9 u9 H locs hw hP hD hS => ?_)
    obtain ⟨rfl, rfl⟩ := Prod.mk.inj ((wrD_l e1).symm.trans hw)
    have hP : va_P D vwCl (LW cy g p70 b7 c7 d7 e7 h7 k7 q ma o od st v w v2 w2 z s0 s1 s2 s3 tx y0 0 y2 y3 y4 y5 y6 y7 y8 y9 y10 y11 y12 y13 out outD) H := hP
    have hD : va_D (fun q => s.heap.size ≤ q) (LW cy g p70 b7 c7 d7 e7 h7 k7 q ma o od st v w v2 w2 z s0 s1 s2 s3 tx y0 0 y2 y3 y4 y5 y6 y7 y8 y9 y10 y11 y12 y13 out outD) := hD
    refine lv_istore (lv' := [(6, .int ((fun f : Int32 => f) f)), (0, .ref b), (1, .ref p70), (2, .ref (ma 0)), (3, .ref o), (4, .ref od), (5, .int i)]) hx hb dL_law_1421 hl (by decide) rfl (fun ls hl => ?_)
    refine lv_aload_n hx hb dL_law_1423 rfl (lv_at hl 3 rfl) ?_
    refine lv_aload_n hx hb dL_law_1424 rfl (lv_at hl 1 rfl) ?_
    refine lv_iload hx hb dL_law_1425 (lv_at hl 6 rfl) ?_
    refine lv_iconst (v := 1) hx hb dL_law_1427 (by decide) ?_
    refine lv_iadd hx hb dL_law_1428 ?_
    refine va_sld hx hb hX hbl0 hbA hS h1 dL_law_1429 ?_
    refine lv_aload_n hx hb dL_law_1430 rfl (lv_at hl 1 rfl) ?_
    refine lv_iload hx hb dL_law_1431 (lv_at hl 6 rfl) ?_
    refine lv_iconst (v := 2) hx hb dL_law_1433 (by decide) ?_
    refine lv_iadd hx hb dL_law_1434 ?_
    refine va_sld hx hb hX hbl0 hbA hS h2 dL_law_1435 ?_
    refine lw_god (wcs := [(wModE cy ma y0 0 y2 y3 y4 y5 y6 y7 y8 y9 y10 y11 y12 y13)]) (wns := fun u8 => [(wModE cy ma y0 0 y2 u8.1 u8.2.1 y5 y6 u8.2.2.1 y8 y9 u8.2.2.2.1 y11 u8.2.2.2.2 y13)]) (W2 := fun u8 => (LWL cy g p70 b7 c7 d7 e7 h7 k7 q ma o od st v w v2 w2 z s0 s1 s2 s3 tx y0 0 y2 u8.1 u8.2.1 y5 y6 u8.2.2.1 y8 y9 u8.2.2.2.1 y11 u8.2.2.2.2 y13 out outD)) (va_runV (C := RX8) (As := [.int (xs (i + 1).toNatClampNeg), .int (xs (i + 2).toNatClampNeg)]) (rest := []) S (c_X8_unionGain l D cy g s.heap.size ma y0 0 y2 y3 y4 y5 y6 y7 y8 y9 y10 y11 y12 y13 (xs (i + 1).toNatClampNeg) (xs (i + 2).toNatClampNeg) (GSf hg).1 (GSf hg).2.2.1) (cwV 2 hts gL_law_X8_unionGain rfl rfl rfl hd_X8_unionGain_V ⟨Nat.le_of_ble_eq_true rfl, Nat.le_of_ble_eq_true rfl⟩) ⟨muP_blind, va_recv hK0.1 hP (ci := 6) (q0 := 90) rfl rfl, my_preC (wcs := [(wModE cy ma y0 0 y2 y3 y4 y5 y6 y7 y8 y9 y10 y11 y12 y13)]) hK0 hS hAB hP hD [11] (by decide) rfl (List.append_nil _)⟩ rfl rfl hl.1 rfl (lv_room (Nat.le_of_ble_eq_true rfl)) dL_law_1436 ⟨(show cells + 1 ≤ 601024 by omega), (show slots + 6 ≤ 7293033 by omega)⟩) hS hP hD [11] rfl (List.append_nil _) (fun _ => List.append_nil _) (fun _ => by simp only [List.map_cons, List.map_nil, adrSet, adrSetE, adrPow, adrPowE, adrTxt, adrTxtE, adrSav, adrSavE, adrPCo, adrMod, adrModE, adrL, adrDb]) (fun _ => rfl) (fun r9 u9 H locs hw hP hD hS => ?_)
    obtain ⟨rfl, rfl⟩ := Prod.mk.inj (e4.symm.trans hw)
    have hP : va_P D vwCl (LW cy g p70 b7 c7 d7 e7 h7 k7 q ma o od st v w v2 w2 z s0 s1 s2 s3 tx y0 0 y2 ((fun f : Int32 => f) f) y4 y5 y6 y7 y8 y9 y10 y11 y12 y13 out outD) H := hP
    have hD : va_D (fun q => s.heap.size ≤ q) (LW cy g p70 b7 c7 d7 e7 h7 k7 q ma o od st v w v2 w2 z s0 s1 s2 s3 tx y0 0 y2 ((fun f : Int32 => f) f) y4 y5 y6 y7 y8 y9 y10 y11 y12 y13 out outD) := hD
    refine lv_dstore (lv' := [(7, .double FP.dconst0), (6, .int ((fun f : Int32 => f) f)), (0, .ref b), (1, .ref p70), (2, .ref (ma 0)), (3, .ref o), (4, .ref od), (5, .int i)]) hx hb dL_law_1439 hl (by decide) rfl (fun ls hl => ?_)
    refine lv_aload_n hx hb dL_law_1441 rfl (lv_at hl 4 rfl) ?_
    refine rd_goi (va_runV (C := RX8) (As := []) (rest := []) S (c_X8_thrown l D cy g s.heap.size ma y0 0 y2 ((fun f : Int32 => f) f) y4 y5 y6 y7 y8 y9 y10 y11 y12 y13) (cwV 0 hts gL_law_X8_thrown rfl rfl rfl hd_X8_thrown_V ⟨Nat.le_of_ble_eq_true rfl, Nat.le_of_ble_eq_true rfl⟩) ⟨rdP_blind, va_recv hK0.1 hP (ci := 6) (q0 := 90) rfl rfl, my_preV hK0 hS hAB hP [90, 91, 92, 93, 94, 95, 96, 97] rfl⟩ rfl rfl hl.1 rfl (lv_room (Nat.le_of_ble_eq_true rfl)) dL_law_1442 ⟨(show cells + 1 ≤ 601024 by omega), (show slots + 6 ≤ 7293033 by omega)⟩) ?_
    refine lv_iload hx hb dL_law_1445 (lv_at hl 1 rfl) ?_
    refine lv_icmp_eq (tgt := 1452) hx hb dL_law_1447 (by decide) (fun _ => ?_) (fun h9 => absurd (show ((f_X8_thrown ((fun f : Int32 => f) f)) : Int32) = ((fun f : Int32 => f) f) from rfl) h9)
    refine lv_iload hx hb dL_law_1452 (lv_at hl 1 rfl) ?_
    refine lv_if_ne (tgt := 1489) hx hb dL_law_1454 (by decide) (fun _ => ?_) (fun h9 => absurd h9 hne)
    refine lv_goto (tgt := 1700) hx hb dL_law_1489 (by decide) ?_
    refine W.widen (k := cells + 2) (n := slots + 12) (by omega) (by omega) ?_
    exact K H locs ls ⟨st, v, w, v2, w2, z, s0, s1, s2, s3, tx, y0, y2, ((fun f : Int32 => f) f), y4, y5, y6, y7, y8, y9, y10, y11, y12, y13, out, outD, hv, hg, hp, hrg, htx, hbl, hP, hD⟩ hS (lv_sub hl [2, 3, 4, 5, 6, 7] rfl)
  · have hy7 : pp.2.1 = y7 := funext e6
    refine lv_aload_n hx hb dL_law_1403 rfl (lv_at hl 1 rfl) ?_
    refine lv_aload_n hx hb dL_law_1404 rfl (lv_at hl 0 rfl) ?_
    refine lv_iload hx hb dL_law_1405 (lv_at hl 5 rfl) ?_
    refine lv_iconst (v := 1) hx hb dL_law_1407 (by decide) ?_
    refine lv_iadd hx hb dL_law_1408 ?_
    refine va_sld hx hb hX hbl0 hbA hS h1 dL_law_1409 ?_
    refine lv_aload_n hx hb dL_law_1410 rfl (lv_at hl 0 rfl) ?_
    refine lv_iload hx hb dL_law_1411 (lv_at hl 5 rfl) ?_
    refine lv_iconst (v := 2) hx hb dL_law_1413 (by decide) ?_
    refine lv_iadd hx hb dL_law_1414 ?_
    refine va_sld hx hb hX hbl0 hbA hS h2 dL_law_1415 ?_
    refine lv_aload hx hb dL_law_1416 (lv_at hl 4 rfl) ?_
    refine lw_compi (wcs := [(wPCo p70 b7 c7 d7 e7 h7 k7 st), (wSet cy b7 v), (wPow cy c7 w), (wSet cy d7 v2), (wPow cy e7 w2), (wDb cy od outD)]) (wns := fun u8 => [(wPCo p70 b7 c7 d7 e7 h7 k7 u8.1.1), (wSet cy b7 v), (wPow cy c7 u8.1.2.1), (wSet cy d7 u8.1.2.2.1), (wPow cy e7 u8.1.2.2.2), (wDb cy od u8.2)]) (W2 := fun u8 => (LWL cy g p70 b7 c7 d7 e7 h7 k7 q ma o od u8.1.1 v u8.1.2.1 u8.1.2.2.1 u8.1.2.2.2 z s0 s1 s2 s3 tx y0 0 y2 y3 y4 y5 y6 y7 y8 y9 y10 y11 y12 y13 out u8.2)) (vx_runSW (As := [.ref p70, .int (xs (i + 1).toNatClampNeg), .int (xs (i + 2).toNatClampNeg), .ref od]) (rest := []) S (c_L_unionGain l hl0 D cy g s.heap.size p70 b7 c7 d7 e7 h7 k7 st v w v2 w2 (xs (i + 1).toNatClampNeg) (xs (i + 2).toNatClampNeg) od outD (fun k h => k_unionGain h)) (vx_cwSW 4 hts gL_law_L_unionGain rfl rfl rfl hd_L_unionGain_S ⟨Nat.le_of_ble_eq_true rfl, Nat.le_of_ble_eq_true rfl⟩) ⟨lwP_blind, my_preL (wcs := [(wPCo p70 b7 c7 d7 e7 h7 k7 st), (wSet cy b7 v), (wPow cy c7 w), (wSet cy d7 v2), (wPow cy e7 w2), (wDb cy od outD)]) hK0 hNc hS hAB hP hD [0, 1, 2, 3, 4, 13] (by decide) rfl rfl⟩ rfl rfl hl.1 rfl (lv_room (Nat.le_of_ble_eq_true rfl)) dL_law_1418 ⟨(show cells + 1 ≤ 601024 by omega), (show slots + 6 ≤ 7293033 by omega)⟩) hS hP hD [0, 1, 2, 3, 4, 13] rfl rfl (fun _ => rfl) (fun _ => by simp only [List.map_cons, List.map_nil, adrSet, adrSetE, adrPow, adrPowE, adrTxt, adrTxtE, adrSav, adrSavE, adrPCo, adrMod, adrModE, adrL, adrDb]) (fun _ => rfl) (fun r9 u9 H locs hw hP hD hS => ?_)
    obtain ⟨rfl, rfl⟩ := Prod.mk.inj ((wrD_r e1).symm.trans hw)
    have hP : va_P D vwCl (LW cy g p70 b7 c7 d7 e7 h7 k7 q ma o od u.1 v u.2.1 u.2.2.1 u.2.2.2 z s0 s1 s2 s3 tx y0 0 y2 y3 y4 y5 y6 y7 y8 y9 y10 y11 y12 y13 out (vf_upd outD 0 r)) H := hP
    have hD : va_D (fun q => s.heap.size ≤ q) (LW cy g p70 b7 c7 d7 e7 h7 k7 q ma o od u.1 v u.2.1 u.2.2.1 u.2.2.2 z s0 s1 s2 s3 tx y0 0 y2 y3 y4 y5 y6 y7 y8 y9 y10 y11 y12 y13 out (vf_upd outD 0 r)) := hD
    refine lv_istore (lv' := [(6, .int 0), (0, .ref b), (1, .ref p70), (2, .ref (ma 0)), (3, .ref o), (4, .ref od), (5, .int i)]) hx hb dL_law_1421 hl (by decide) rfl (fun ls hl => ?_)
    refine lv_aload_n hx hb dL_law_1423 rfl (lv_at hl 3 rfl) ?_
    refine lv_aload_n hx hb dL_law_1424 rfl (lv_at hl 1 rfl) ?_
    refine lv_iload hx hb dL_law_1425 (lv_at hl 6 rfl) ?_
    refine lv_iconst (v := 1) hx hb dL_law_1427 (by decide) ?_
    refine lv_iadd hx hb dL_law_1428 ?_
    refine va_sld hx hb hX hbl0 hbA hS h1 dL_law_1429 ?_
    refine lv_aload_n hx hb dL_law_1430 rfl (lv_at hl 1 rfl) ?_
    refine lv_iload hx hb dL_law_1431 (lv_at hl 6 rfl) ?_
    refine lv_iconst (v := 2) hx hb dL_law_1433 (by decide) ?_
    refine lv_iadd hx hb dL_law_1434 ?_
    refine va_sld hx hb hX hbl0 hbA hS h2 dL_law_1435 ?_
    refine lw_god (wcs := [(wModE cy ma y0 0 y2 y3 y4 y5 y6 y7 y8 y9 y10 y11 y12 y13)]) (wns := fun u8 => [(wModE cy ma y0 0 y2 u8.1 u8.2.1 y5 y6 u8.2.2.1 y8 y9 u8.2.2.2.1 y11 u8.2.2.2.2 y13)]) (W2 := fun u8 => (LWL cy g p70 b7 c7 d7 e7 h7 k7 q ma o od u.1 v u.2.1 u.2.2.1 u.2.2.2 z s0 s1 s2 s3 tx y0 0 y2 u8.1 u8.2.1 y5 y6 u8.2.2.1 y8 y9 u8.2.2.2.1 y11 u8.2.2.2.2 y13 out (vf_upd outD 0 r))) (va_runV (C := RX8) (As := [.int (xs (i + 1).toNatClampNeg), .int (xs (i + 2).toNatClampNeg)]) (rest := []) S (c_X8_unionGain l D cy g s.heap.size ma y0 0 y2 y3 y4 y5 y6 y7 y8 y9 y10 y11 y12 y13 (xs (i + 1).toNatClampNeg) (xs (i + 2).toNatClampNeg) (GSf hg).1 (GSf hg).2.2.1) (cwV 2 hts gL_law_X8_unionGain rfl rfl rfl hd_X8_unionGain_V ⟨Nat.le_of_ble_eq_true rfl, Nat.le_of_ble_eq_true rfl⟩) ⟨muP_blind, va_recv hK0.1 hP (ci := 6) (q0 := 90) rfl rfl, my_preC (wcs := [(wModE cy ma y0 0 y2 y3 y4 y5 y6 y7 y8 y9 y10 y11 y12 y13)]) hK0 hS hAB hP hD [11] (by decide) rfl (List.append_nil _)⟩ rfl rfl hl.1 rfl (lv_room (Nat.le_of_ble_eq_true rfl)) dL_law_1436 ⟨(show cells + 1 ≤ 601024 by omega), (show slots + 6 ≤ 7293033 by omega)⟩) hS hP hD [11] rfl (List.append_nil _) (fun _ => List.append_nil _) (fun _ => by simp only [List.map_cons, List.map_nil, adrSet, adrSetE, adrPow, adrPowE, adrTxt, adrTxtE, adrSav, adrSavE, adrPCo, adrMod, adrModE, adrL, adrDb]) (fun _ => rfl) (fun r9 u9 H locs hw hP hD hS => ?_)
    obtain ⟨rfl, rfl⟩ := Prod.mk.inj (e4.symm.trans hw)
    have hP : va_P D vwCl (LW cy g p70 b7 c7 d7 e7 h7 k7 q ma o od u.1 v u.2.1 u.2.2.1 u.2.2.2 z s0 s1 s2 s3 tx y0 0 y2 0 pp.1 y5 y6 pp.2.1 y8 y9 pp.2.2.1 y11 pp.2.2.2 y13 out (vf_upd outD 0 r)) H := hP
    have hD : va_D (fun q => s.heap.size ≤ q) (LW cy g p70 b7 c7 d7 e7 h7 k7 q ma o od u.1 v u.2.1 u.2.2.1 u.2.2.2 z s0 s1 s2 s3 tx y0 0 y2 0 pp.1 y5 y6 pp.2.1 y8 y9 pp.2.2.1 y11 pp.2.2.2 y13 out (vf_upd outD 0 r)) := hD
    refine lv_dstore (lv' := [(7, .double r), (6, .int 0), (0, .ref b), (1, .ref p70), (2, .ref (ma 0)), (3, .ref o), (4, .ref od), (5, .int i)]) hx hb dL_law_1439 hl (by decide) rfl (fun ls hl => ?_)
    refine lv_aload_n hx hb dL_law_1441 rfl (lv_at hl 4 rfl) ?_
    refine rd_goi (va_runV (C := RX8) (As := []) (rest := []) S (c_X8_thrown l D cy g s.heap.size ma y0 0 y2 0 pp.1 y5 y6 pp.2.1 y8 y9 pp.2.2.1 y11 pp.2.2.2 y13) (cwV 0 hts gL_law_X8_thrown rfl rfl rfl hd_X8_thrown_V ⟨Nat.le_of_ble_eq_true rfl, Nat.le_of_ble_eq_true rfl⟩) ⟨rdP_blind, va_recv hK0.1 hP (ci := 6) (q0 := 90) rfl rfl, my_preV hK0 hS hAB hP [90, 91, 92, 93, 94, 95, 96, 97] rfl⟩ rfl rfl hl.1 rfl (lv_room (Nat.le_of_ble_eq_true rfl)) dL_law_1442 ⟨(show cells + 1 ≤ 601024 by omega), (show slots + 6 ≤ 7293033 by omega)⟩) ?_
    refine lv_iload hx hb dL_law_1445 (lv_at hl 1 rfl) ?_
    refine lv_icmp_eq (tgt := 1452) hx hb dL_law_1447 (by decide) (fun _ => ?_) (fun h9 => absurd (show ((f_X8_thrown 0) : Int32) = 0 from rfl) h9)
    refine lv_iload hx hb dL_law_1452 (lv_at hl 1 rfl) ?_
    refine lv_if_ne (tgt := 1489) hx hb dL_law_1454 (by decide) (fun h9 => absurd rfl h9) (fun _ => ?_)
    refine lv_aload hx hb dL_law_1457 (lv_at hl 6 rfl) ?_
    refine lv_iconst (v := 0) hx hb dL_law_1459 (by decide) ?_
    refine va_dald hx hb hK0.1 hP 99 4 rfl rfl (i := 0) (show ¬ ((0 : Int32) < 0 ∨ 1 ≤ (0 : Int32).toNatClampNeg) by decide) dL_law_1460 ?_
    refine lv_dload hx hb dL_law_1461 (lv_at hl 0 rfl) ?_
    refine lv_dcmp hx hb dL_law_1463 ?_
    refine lv_if_eq (tgt := 1489) hx hb dL_law_1464 (by decide) (fun _ => ?_) (fun hc9 => ?_)
    · refine lv_goto (tgt := 1700) hx hb dL_law_1489 (by decide) ?_
      refine W.widen (k := cells + 2) (n := slots + 12) (by omega) (by omega) ?_
      exact K H locs ls ⟨u.1, v, u.2.1, u.2.2.1, u.2.2.2, z, s0, s1, s2, s3, tx, y0, y2, 0, pp.1, y5, y6, pp.2.1, y8, y9, pp.2.2.1, y11, pp.2.2.2, y13, out, (vf_upd outD 0 r), (by rw [hy7]; exact hv), (by rw [hy7]; exact hg), (by rw [hy7]; exact e5), hrg, htx, e8, hP, hD⟩ hS (lv_sub hl [2, 3, 4, 5, 6, 7] rfl)
    · refine lv_aload hx hb dL_law_1467 (lv_at hl 6 rfl) ?_
      refine lv_iconst (v := 0) hx hb dL_law_1469 (by decide) ?_
      refine va_dald hx hb hK0.1 hP 99 4 rfl rfl (i := 0) (show ¬ ((0 : Int32) < 0 ∨ 1 ≤ (0 : Int32).toNatClampNeg) by decide) dL_law_1470 ?_
      refine lv_aload hx hb dL_law_1471 (lv_at hl 6 rfl) ?_
      refine lv_iconst (v := 0) hx hb dL_law_1473 (by decide) ?_
      refine va_dald hx hb hK0.1 hP 99 4 rfl rfl (i := 0) (show ¬ ((0 : Int32) < 0 ∨ 1 ≤ (0 : Int32).toNatClampNeg) by decide) dL_law_1474 ?_
      refine lv_dcmp hx hb dL_law_1475 ?_
      refine lv_if_eq (tgt := 1487) hx hb dL_law_1476 (by decide) (fun h9 => absurd h9 hc9) (fun _ => ?_)
      refine lv_dload hx hb dL_law_1479 (lv_at hl 0 rfl) ?_
      refine lv_dload hx hb dL_law_1481 (lv_at hl 0 rfl) ?_
      refine lv_dcmp hx hb dL_law_1483 ?_
      refine lv_if_ne (tgt := 1489) hx hb dL_law_1484 (by decide) (fun _ => ?_) (fun h9 => absurd h9 hc9)
      refine lv_goto (tgt := 1700) hx hb dL_law_1489 (by decide) ?_
      refine W.widen (k := cells + 2) (n := slots + 12) (by omega) (by omega) ?_
      exact K H locs ls ⟨u.1, v, u.2.1, u.2.2.1, u.2.2.2, z, s0, s1, s2, s3, tx, y0, y2, 0, pp.1, y5, y6, pp.2.1, y8, y9, pp.2.2.1, y11, pp.2.2.2, y13, out, (vf_upd outD 0 r), (by rw [hy7]; exact hv), (by rw [hy7]; exact hg), (by rw [hy7]; exact e5), hrg, htx, e8, hP, hD⟩ hS (lv_sub hl [2, 3, 4, 5, 6, 7] rfl)
set_option maxHeartbeats 4000000 in
set_option maxRecDepth 100000 in
theorem law_compare (C : LC p l e s m meth c b L xs D cy g) (hc : cells ≤ 590000) (hs : slots ≤ 7000000) (h1 : vp_in (i + 1) L) (h2 : vp_in (i + 2) L) (hI : LInv D cy g p70 b7 c7 d7 e7 h7 k7 q ma o od s.heap.size H) (hS : va_S (fun q => s.heap.size ≤ q) s.heap H locs) (hl : lv_has ls 9 [(0, .ref b), (1, .ref p70), (2, .ref (ma 0)), (3, .ref o), (4, .ref od), (5, .int i)])
    (K : ∀ (H : Heap) (locs : List Loc) (ls : Array Slot), LInv D cy g p70 b7 c7 d7 e7 h7 k7 q ma o od s.heap.size H → va_S (fun q => s.heap.size ≤ q) s.heap H locs → lv_has ls 9 [(0, .ref b), (1, .ref p70), (2, .ref (ma 0)), (3, .ref o), (4, .ref od), (5, .int i)] → W p l e room_1 s m #[Value.ref b] below meth c H locs (cells + 2) (slots + 12) Q (F0 m 1700 ls [])) : W p l e room_1 s m #[Value.ref b] below meth c H locs cells slots Q (F0 m 1492 ls []) := by
  obtain ⟨hl0, hx, hb, hr, hml, hown, hts, hX, hbl0, hlocks, hK0, hNc, hL⟩ := C
  obtain ⟨st, v, w, v2, w2, z, s0, s1, s2, s3, tx, y0, y2, y3, y4, y5, y6, y7, y8, y9, y10, y11, y12, y13, out, outD, hv, hg, hp, hrg, htx, hbl, hP, hD⟩ := hI
  have S := my_fix hx hb hml hown hts
  have hAB : ∀ q : Nat, s.heap.size ≤ q → s.heap.size ≤ q := fun _ h => h
  have hbA : ¬ s.heap.size ≤ b := Nat.not_le.mpr hbl0
  rcases R_compare hv hg hp hbl (xs (i + 1).toNatClampNeg) (xs (i + 2).toNatClampNeg) with ⟨f, e1, _, e3, e4⟩ | ⟨r, u, pp, e1, e4, e5, e6⟩
  · have hne : ¬ ((fun f : Int32 => f) f) = 0 := pos_ne e3
    have e4 : f_X8_compare y4 y7 y10 (xs (i + 1).toNatClampNeg) (xs (i + 2).toNatClampNeg) = (0, (((fun f : Int32 => f) f), y4, y10)) := e4
    refine lv_aload_n hx hb dL_law_1492 rfl (lv_at hl 1 rfl) ?_
    refine lv_aload_n hx hb dL_law_1493 rfl (lv_at hl 0 rfl) ?_
    refine lv_iload hx hb dL_law_1494 (lv_at hl 5 rfl) ?_
    refine lv_iconst (v := 1) hx hb dL_law_1496 (by decide) ?_
    refine lv_iadd hx hb dL_law_1497 ?_
    refine va_sld hx hb hX hbl0 hbA hS h1 dL_law_1498 ?_
    refine lv_aload_n hx hb dL_law_1499 rfl (lv_at hl 0 rfl) ?_
    refine lv_iload hx hb dL_law_1500 (lv_at hl 5 rfl) ?_
    refine lv_iconst (v := 2) hx hb dL_law_1502 (by decide) ?_
    refine lv_iadd hx hb dL_law_1503 ?_
    refine va_sld hx hb hX hbl0 hbA hS h2 dL_law_1504 ?_
    refine lv_aload_n hx hb dL_law_1505 rfl (lv_at hl 3 rfl) ?_
    refine lw_compi (wcs := [(wPCo p70 b7 c7 d7 e7 h7 k7 st), (wSet cy b7 v), (wPow cy c7 w), (wL cy o out)]) (wns := fun u8 => [(wPCo p70 b7 c7 d7 e7 h7 k7 u8.1.1), (wSet cy b7 v), (wPow cy c7 u8.1.2), (wL cy o u8.2)]) (W2 := fun u8 => (LWL cy g p70 b7 c7 d7 e7 h7 k7 q ma o od u8.1.1 v u8.1.2 v2 w2 z s0 s1 s2 s3 tx y0 0 y2 y3 y4 y5 y6 y7 y8 y9 y10 y11 y12 y13 u8.2 outD)) (vx_runSW (As := [.ref p70, .int (xs (i + 1).toNatClampNeg), .int (xs (i + 2).toNatClampNeg), .ref o]) (rest := []) S (c_L_compare l hl0 D cy g s.heap.size p70 b7 c7 d7 e7 h7 k7 st v w (xs (i + 1).toNatClampNeg) (xs (i + 2).toNatClampNeg) o out (fun k h => k_compare h)) (vx_cwSW 4 hts gL_law_L_compare rfl rfl rfl hd_L_compare_S ⟨Nat.le_of_ble_eq_true rfl, Nat.le_of_ble_eq_true rfl⟩) ⟨lwP_blind, my_preL (wcs := [(wPCo p70 b7 c7 d7 e7 h7 k7 st), (wSet cy b7 v), (wPow cy c7 w), (wL cy o out)]) hK0 hNc hS hAB hP hD [0, 1, 2, 12] (by decide) rfl rfl⟩ rfl rfl hl.1 rfl (lv_room (Nat.le_of_ble_eq_true rfl)) dL_law_1506 ⟨(show cells + 1 ≤ 601024 by omega), (show slots + 6 ≤ 7293033 by omega)⟩) hS hP hD [0, 1, 2, 12] rfl rfl (fun _ => rfl) (fun _ => by simp only [List.map_cons, List.map_nil, adrSet, adrSetE, adrPow, adrPowE, adrTxt, adrTxtE, adrSav, adrSavE, adrPCo, adrMod, adrModE, adrL, adrDb]) (fun _ => rfl) (fun r9 u9 H locs hw hP hD hS => ?_)
    obtain ⟨rfl, rfl⟩ := Prod.mk.inj ((wrI_l e1).symm.trans hw)
    have hP : va_P D vwCl (LW cy g p70 b7 c7 d7 e7 h7 k7 q ma o od st v w v2 w2 z s0 s1 s2 s3 tx y0 0 y2 y3 y4 y5 y6 y7 y8 y9 y10 y11 y12 y13 out outD) H := hP
    have hD : va_D (fun q => s.heap.size ≤ q) (LW cy g p70 b7 c7 d7 e7 h7 k7 q ma o od st v w v2 w2 z s0 s1 s2 s3 tx y0 0 y2 y3 y4 y5 y6 y7 y8 y9 y10 y11 y12 y13 out outD) := hD
    refine lv_istore (lv' := [(6, .int ((fun f : Int32 => f) f)), (0, .ref b), (1, .ref p70), (2, .ref (ma 0)), (3, .ref o), (4, .ref od), (5, .int i)]) hx hb dL_law_1509 hl (by decide) rfl (fun ls hl => ?_)
    refine lv_aload_n hx hb dL_law_1511 rfl (lv_at hl 3 rfl) ?_
    refine lv_aload_n hx hb dL_law_1512 rfl (lv_at hl 1 rfl) ?_
    refine lv_iload hx hb dL_law_1513 (lv_at hl 6 rfl) ?_
    refine lv_iconst (v := 1) hx hb dL_law_1515 (by decide) ?_
    refine lv_iadd hx hb dL_law_1516 ?_
    refine va_sld hx hb hX hbl0 hbA hS h1 dL_law_1517 ?_
    refine lv_aload_n hx hb dL_law_1518 rfl (lv_at hl 1 rfl) ?_
    refine lv_iload hx hb dL_law_1519 (lv_at hl 6 rfl) ?_
    refine lv_iconst (v := 2) hx hb dL_law_1521 (by decide) ?_
    refine lv_iadd hx hb dL_law_1522 ?_
    refine va_sld hx hb hX hbl0 hbA hS h2 dL_law_1523 ?_
    refine mu_compi (wcs := [(wModE cy ma y0 0 y2 y3 y4 y5 y6 y7 y8 y9 y10 y11 y12 y13)]) (wns := fun u8 => [(wModE cy ma y0 0 y2 u8.1 u8.2.1 y5 y6 y7 y8 y9 u8.2.2 y11 y12 y13)]) (W2 := fun u8 => (LWL cy g p70 b7 c7 d7 e7 h7 k7 q ma o od st v w v2 w2 z s0 s1 s2 s3 tx y0 0 y2 u8.1 u8.2.1 y5 y6 y7 y8 y9 u8.2.2 y11 y12 y13 out outD)) (va_runV (C := RX8) (As := [.int (xs (i + 1).toNatClampNeg), .int (xs (i + 2).toNatClampNeg)]) (rest := []) S (c_X8_compare l D cy g s.heap.size ma y0 0 y2 y3 y4 y5 y6 y7 y8 y9 y10 y11 y12 y13 (xs (i + 1).toNatClampNeg) (xs (i + 2).toNatClampNeg) (GSf hg).1 (GSf hg).2.2.1 hbl) (cwV 2 hts gL_law_X8_compare rfl rfl rfl hd_X8_compare_V ⟨Nat.le_of_ble_eq_true rfl, Nat.le_of_ble_eq_true rfl⟩) ⟨muP_blind, va_recv hK0.1 hP (ci := 6) (q0 := 90) rfl rfl, my_preC (wcs := [(wModE cy ma y0 0 y2 y3 y4 y5 y6 y7 y8 y9 y10 y11 y12 y13)]) hK0 hS hAB hP hD [11] (by decide) rfl (List.append_nil _)⟩ rfl rfl hl.1 rfl (lv_room (Nat.le_of_ble_eq_true rfl)) dL_law_1524 ⟨(show cells + 1 ≤ 601024 by omega), (show slots + 6 ≤ 7293033 by omega)⟩) hS hP hD [11] rfl (List.append_nil _) (fun _ => List.append_nil _) (fun _ => by simp only [List.map_cons, List.map_nil, adrSet, adrSetE, adrPow, adrPowE, adrTxt, adrTxtE, adrSav, adrSavE, adrPCo, adrMod, adrModE, adrL, adrDb]) (fun _ => rfl) (fun r9 u9 H locs hw hP hD hS => ?_)
    obtain ⟨rfl, rfl⟩ := Prod.mk.inj (e4.symm.trans hw)
    have hP : va_P D vwCl (LW cy g p70 b7 c7 d7 e7 h7 k7 q ma o od st v w v2 w2 z s0 s1 s2 s3 tx y0 0 y2 ((fun f : Int32 => f) f) y4 y5 y6 y7 y8 y9 y10 y11 y12 y13 out outD) H := hP
    have hD : va_D (fun q => s.heap.size ≤ q) (LW cy g p70 b7 c7 d7 e7 h7 k7 q ma o od st v w v2 w2 z s0 s1 s2 s3 tx y0 0 y2 ((fun f : Int32 => f) f) y4 y5 y6 y7 y8 y9 y10 y11 y12 y13 out outD) := hD
    refine lv_istore (lv' := [(7, .int 0), (6, .int ((fun f : Int32 => f) f)), (0, .ref b), (1, .ref p70), (2, .ref (ma 0)), (3, .ref o), (4, .ref od), (5, .int i)]) hx hb dL_law_1527 hl (by decide) rfl (fun ls hl => ?_)
    refine lv_aload_n hx hb dL_law_1529 rfl (lv_at hl 4 rfl) ?_
    refine rd_goi (va_runV (C := RX8) (As := []) (rest := []) S (c_X8_thrown l D cy g s.heap.size ma y0 0 y2 ((fun f : Int32 => f) f) y4 y5 y6 y7 y8 y9 y10 y11 y12 y13) (cwV 0 hts gL_law_X8_thrown rfl rfl rfl hd_X8_thrown_V ⟨Nat.le_of_ble_eq_true rfl, Nat.le_of_ble_eq_true rfl⟩) ⟨rdP_blind, va_recv hK0.1 hP (ci := 6) (q0 := 90) rfl rfl, my_preV hK0 hS hAB hP [90, 91, 92, 93, 94, 95, 96, 97] rfl⟩ rfl rfl hl.1 rfl (lv_room (Nat.le_of_ble_eq_true rfl)) dL_law_1530 ⟨(show cells + 1 ≤ 601024 by omega), (show slots + 6 ≤ 7293033 by omega)⟩) ?_
    refine lv_iload hx hb dL_law_1533 (lv_at hl 1 rfl) ?_
    refine lv_icmp_eq (tgt := 1540) hx hb dL_law_1535 (by decide) (fun _ => ?_) (fun h9 => absurd (show ((f_X8_thrown ((fun f : Int32 => f) f)) : Int32) = ((fun f : Int32 => f) f) from rfl) h9)
    refine lv_iload hx hb dL_law_1540 (lv_at hl 1 rfl) ?_
    refine lv_if_ne (tgt := 1557) hx hb dL_law_1542 (by decide) (fun _ => ?_) (fun h9 => absurd h9 hne)
    refine lv_goto (tgt := 1700) hx hb dL_law_1557 (by decide) ?_
    refine W.widen (k := cells + 2) (n := slots + 12) (by omega) (by omega) ?_
    exact K H locs ls ⟨st, v, w, v2, w2, z, s0, s1, s2, s3, tx, y0, y2, ((fun f : Int32 => f) f), y4, y5, y6, y7, y8, y9, y10, y11, y12, y13, out, outD, hv, hg, hp, hrg, htx, hbl, hP, hD⟩ hS (lv_sub hl [2, 3, 4, 5, 6, 7] rfl)
  · refine lv_aload_n hx hb dL_law_1492 rfl (lv_at hl 1 rfl) ?_
    refine lv_aload_n hx hb dL_law_1493 rfl (lv_at hl 0 rfl) ?_
    refine lv_iload hx hb dL_law_1494 (lv_at hl 5 rfl) ?_
    refine lv_iconst (v := 1) hx hb dL_law_1496 (by decide) ?_
    refine lv_iadd hx hb dL_law_1497 ?_
    refine va_sld hx hb hX hbl0 hbA hS h1 dL_law_1498 ?_
    refine lv_aload_n hx hb dL_law_1499 rfl (lv_at hl 0 rfl) ?_
    refine lv_iload hx hb dL_law_1500 (lv_at hl 5 rfl) ?_
    refine lv_iconst (v := 2) hx hb dL_law_1502 (by decide) ?_
    refine lv_iadd hx hb dL_law_1503 ?_
    refine va_sld hx hb hX hbl0 hbA hS h2 dL_law_1504 ?_
    refine lv_aload_n hx hb dL_law_1505 rfl (lv_at hl 3 rfl) ?_
    refine lw_compi (wcs := [(wPCo p70 b7 c7 d7 e7 h7 k7 st), (wSet cy b7 v), (wPow cy c7 w), (wL cy o out)]) (wns := fun u8 => [(wPCo p70 b7 c7 d7 e7 h7 k7 u8.1.1), (wSet cy b7 v), (wPow cy c7 u8.1.2), (wL cy o u8.2)]) (W2 := fun u8 => (LWL cy g p70 b7 c7 d7 e7 h7 k7 q ma o od u8.1.1 v u8.1.2 v2 w2 z s0 s1 s2 s3 tx y0 0 y2 y3 y4 y5 y6 y7 y8 y9 y10 y11 y12 y13 u8.2 outD)) (vx_runSW (As := [.ref p70, .int (xs (i + 1).toNatClampNeg), .int (xs (i + 2).toNatClampNeg), .ref o]) (rest := []) S (c_L_compare l hl0 D cy g s.heap.size p70 b7 c7 d7 e7 h7 k7 st v w (xs (i + 1).toNatClampNeg) (xs (i + 2).toNatClampNeg) o out (fun k h => k_compare h)) (vx_cwSW 4 hts gL_law_L_compare rfl rfl rfl hd_L_compare_S ⟨Nat.le_of_ble_eq_true rfl, Nat.le_of_ble_eq_true rfl⟩) ⟨lwP_blind, my_preL (wcs := [(wPCo p70 b7 c7 d7 e7 h7 k7 st), (wSet cy b7 v), (wPow cy c7 w), (wL cy o out)]) hK0 hNc hS hAB hP hD [0, 1, 2, 12] (by decide) rfl rfl⟩ rfl rfl hl.1 rfl (lv_room (Nat.le_of_ble_eq_true rfl)) dL_law_1506 ⟨(show cells + 1 ≤ 601024 by omega), (show slots + 6 ≤ 7293033 by omega)⟩) hS hP hD [0, 1, 2, 12] rfl rfl (fun _ => rfl) (fun _ => by simp only [List.map_cons, List.map_nil, adrSet, adrSetE, adrPow, adrPowE, adrTxt, adrTxtE, adrSav, adrSavE, adrPCo, adrMod, adrModE, adrL, adrDb]) (fun _ => rfl) (fun r9 u9 H locs hw hP hD hS => ?_)
    obtain ⟨rfl, rfl⟩ := Prod.mk.inj ((wrI_r e1).symm.trans hw)
    have hP : va_P D vwCl (LW cy g p70 b7 c7 d7 e7 h7 k7 q ma o od u.1 v u.2 v2 w2 z s0 s1 s2 s3 tx y0 0 y2 y3 y4 y5 y6 y7 y8 y9 y10 y11 y12 y13 (vp_updL out 0 (Int32.toInt64 r)) outD) H := hP
    have hD : va_D (fun q => s.heap.size ≤ q) (LW cy g p70 b7 c7 d7 e7 h7 k7 q ma o od u.1 v u.2 v2 w2 z s0 s1 s2 s3 tx y0 0 y2 y3 y4 y5 y6 y7 y8 y9 y10 y11 y12 y13 (vp_updL out 0 (Int32.toInt64 r)) outD) := hD
    refine lv_istore (lv' := [(6, .int 0), (0, .ref b), (1, .ref p70), (2, .ref (ma 0)), (3, .ref o), (4, .ref od), (5, .int i)]) hx hb dL_law_1509 hl (by decide) rfl (fun ls hl => ?_)
    refine lv_aload_n hx hb dL_law_1511 rfl (lv_at hl 3 rfl) ?_
    refine lv_aload_n hx hb dL_law_1512 rfl (lv_at hl 1 rfl) ?_
    refine lv_iload hx hb dL_law_1513 (lv_at hl 6 rfl) ?_
    refine lv_iconst (v := 1) hx hb dL_law_1515 (by decide) ?_
    refine lv_iadd hx hb dL_law_1516 ?_
    refine va_sld hx hb hX hbl0 hbA hS h1 dL_law_1517 ?_
    refine lv_aload_n hx hb dL_law_1518 rfl (lv_at hl 1 rfl) ?_
    refine lv_iload hx hb dL_law_1519 (lv_at hl 6 rfl) ?_
    refine lv_iconst (v := 2) hx hb dL_law_1521 (by decide) ?_
    refine lv_iadd hx hb dL_law_1522 ?_
    refine va_sld hx hb hX hbl0 hbA hS h2 dL_law_1523 ?_
    refine mu_compi (wcs := [(wModE cy ma y0 0 y2 y3 y4 y5 y6 y7 y8 y9 y10 y11 y12 y13)]) (wns := fun u8 => [(wModE cy ma y0 0 y2 u8.1 u8.2.1 y5 y6 y7 y8 y9 u8.2.2 y11 y12 y13)]) (W2 := fun u8 => (LWL cy g p70 b7 c7 d7 e7 h7 k7 q ma o od u.1 v u.2 v2 w2 z s0 s1 s2 s3 tx y0 0 y2 u8.1 u8.2.1 y5 y6 y7 y8 y9 u8.2.2 y11 y12 y13 (vp_updL out 0 (Int32.toInt64 r)) outD)) (va_runV (C := RX8) (As := [.int (xs (i + 1).toNatClampNeg), .int (xs (i + 2).toNatClampNeg)]) (rest := []) S (c_X8_compare l D cy g s.heap.size ma y0 0 y2 y3 y4 y5 y6 y7 y8 y9 y10 y11 y12 y13 (xs (i + 1).toNatClampNeg) (xs (i + 2).toNatClampNeg) (GSf hg).1 (GSf hg).2.2.1 hbl) (cwV 2 hts gL_law_X8_compare rfl rfl rfl hd_X8_compare_V ⟨Nat.le_of_ble_eq_true rfl, Nat.le_of_ble_eq_true rfl⟩) ⟨muP_blind, va_recv hK0.1 hP (ci := 6) (q0 := 90) rfl rfl, my_preC (wcs := [(wModE cy ma y0 0 y2 y3 y4 y5 y6 y7 y8 y9 y10 y11 y12 y13)]) hK0 hS hAB hP hD [11] (by decide) rfl (List.append_nil _)⟩ rfl rfl hl.1 rfl (lv_room (Nat.le_of_ble_eq_true rfl)) dL_law_1524 ⟨(show cells + 1 ≤ 601024 by omega), (show slots + 6 ≤ 7293033 by omega)⟩) hS hP hD [11] rfl (List.append_nil _) (fun _ => List.append_nil _) (fun _ => by simp only [List.map_cons, List.map_nil, adrSet, adrSetE, adrPow, adrPowE, adrTxt, adrTxtE, adrSav, adrSavE, adrPCo, adrMod, adrModE, adrL, adrDb]) (fun _ => rfl) (fun r9 u9 H locs hw hP hD hS => ?_)
    obtain ⟨rfl, rfl⟩ := Prod.mk.inj (e4.symm.trans hw)
    have hP : va_P D vwCl (LW cy g p70 b7 c7 d7 e7 h7 k7 q ma o od u.1 v u.2 v2 w2 z s0 s1 s2 s3 tx y0 0 y2 0 pp.1 y5 y6 y7 y8 y9 pp.2 y11 y12 y13 (vp_updL out 0 (Int32.toInt64 r)) outD) H := hP
    have hD : va_D (fun q => s.heap.size ≤ q) (LW cy g p70 b7 c7 d7 e7 h7 k7 q ma o od u.1 v u.2 v2 w2 z s0 s1 s2 s3 tx y0 0 y2 0 pp.1 y5 y6 y7 y8 y9 pp.2 y11 y12 y13 (vp_updL out 0 (Int32.toInt64 r)) outD) := hD
    refine lv_istore (lv' := [(7, .int r), (6, .int 0), (0, .ref b), (1, .ref p70), (2, .ref (ma 0)), (3, .ref o), (4, .ref od), (5, .int i)]) hx hb dL_law_1527 hl (by decide) rfl (fun ls hl => ?_)
    refine lv_aload_n hx hb dL_law_1529 rfl (lv_at hl 4 rfl) ?_
    refine rd_goi (va_runV (C := RX8) (As := []) (rest := []) S (c_X8_thrown l D cy g s.heap.size ma y0 0 y2 0 pp.1 y5 y6 y7 y8 y9 pp.2 y11 y12 y13) (cwV 0 hts gL_law_X8_thrown rfl rfl rfl hd_X8_thrown_V ⟨Nat.le_of_ble_eq_true rfl, Nat.le_of_ble_eq_true rfl⟩) ⟨rdP_blind, va_recv hK0.1 hP (ci := 6) (q0 := 90) rfl rfl, my_preV hK0 hS hAB hP [90, 91, 92, 93, 94, 95, 96, 97] rfl⟩ rfl rfl hl.1 rfl (lv_room (Nat.le_of_ble_eq_true rfl)) dL_law_1530 ⟨(show cells + 1 ≤ 601024 by omega), (show slots + 6 ≤ 7293033 by omega)⟩) ?_
    refine lv_iload hx hb dL_law_1533 (lv_at hl 1 rfl) ?_
    refine lv_icmp_eq (tgt := 1540) hx hb dL_law_1535 (by decide) (fun _ => ?_) (fun h9 => absurd (show ((f_X8_thrown 0) : Int32) = 0 from rfl) h9)
    refine lv_iload hx hb dL_law_1540 (lv_at hl 1 rfl) ?_
    refine lv_if_ne (tgt := 1557) hx hb dL_law_1542 (by decide) (fun h9 => absurd rfl h9) (fun _ => ?_)
    refine lv_aload_n hx hb dL_law_1545 rfl (lv_at hl 5 rfl) ?_
    refine lv_iconst (v := 0) hx hb dL_law_1546 (by decide) ?_
    refine va_lald hx hb hK0.1 hP 98 3 rfl rfl (i := 0) (show ¬ ((0 : Int32) < 0 ∨ 1 ≤ (0 : Int32).toNatClampNeg) by decide) dL_law_1547 ?_
    refine lv_iload hx hb dL_law_1548 (lv_at hl 0 rfl) ?_
    refine lv_i2l (v := (Int32.toInt64 r)) hx hb dL_law_1550 rfl ?_
    refine W.lcmp hx hb dL_law_1551 ?_
    refine lv_if_eq (tgt := 1557) hx hb dL_law_1552 (by decide) (fun _ => ?_) (fun h9 => absurd ((lg_cmp_eq _ _).mpr rfl) h9)
    refine lv_goto (tgt := 1700) hx hb dL_law_1557 (by decide) ?_
    refine W.widen (k := cells + 2) (n := slots + 12) (by omega) (by omega) ?_
    exact K H locs ls ⟨u.1, v, u.2, v2, w2, z, s0, s1, s2, s3, tx, y0, y2, 0, pp.1, y5, y6, y7, y8, y9, pp.2, y11, y12, y13, (vp_updL out 0 (Int32.toInt64 r)), outD, hv, hg, e5, hrg, htx, e6, hP, hD⟩ hS (lv_sub hl [2, 3, 4, 5, 6, 7] rfl)
set_option maxHeartbeats 4000000 in
set_option maxRecDepth 100000 in
theorem law_type (C : LC p l e s m meth c b L xs D cy g) (hc : cells ≤ 590000) (hs : slots ≤ 7000000) (h1 : vp_in (i + 1) L) (h2 : vp_in (i + 2) L) (hI : LInv D cy g p70 b7 c7 d7 e7 h7 k7 q ma o od s.heap.size H) (hS : va_S (fun q => s.heap.size ≤ q) s.heap H locs) (hl : lv_has ls 9 [(0, .ref b), (1, .ref p70), (2, .ref (ma 0)), (3, .ref o), (4, .ref od), (5, .int i)])
    (K : ∀ (H : Heap) (locs : List Loc) (ls : Array Slot), LInv D cy g p70 b7 c7 d7 e7 h7 k7 q ma o od s.heap.size H → va_S (fun q => s.heap.size ≤ q) s.heap H locs → lv_has ls 9 [(0, .ref b), (1, .ref p70), (2, .ref (ma 0)), (3, .ref o), (4, .ref od), (5, .int i)] → W p l e room_1 s m #[Value.ref b] below meth c H locs (cells + 2) (slots + 12) Q (F0 m 1700 ls [])) : W p l e room_1 s m #[Value.ref b] below meth c H locs cells slots Q (F0 m 1560 ls []) := by
  obtain ⟨hl0, hx, hb, hr, hml, hown, hts, hX, hbl0, hlocks, hK0, hNc, hL⟩ := C
  obtain ⟨st, v, w, v2, w2, z, s0, s1, s2, s3, tx, y0, y2, y3, y4, y5, y6, y7, y8, y9, y10, y11, y12, y13, out, outD, hv, hg, hp, hrg, htx, hbl, hP, hD⟩ := hI
  have S := my_fix hx hb hml hown hts
  have hAB : ∀ q : Nat, s.heap.size ≤ q → s.heap.size ≤ q := fun _ h => h
  have hbA : ¬ s.heap.size ≤ b := Nat.not_le.mpr hbl0
  rcases R_type (st := st) htx (xs (i + 1).toNatClampNeg) with ⟨f, e1, e2, e4⟩ | ⟨r, tx9, z2, z9, e1, e4, e5⟩
  · have hne : ¬ ((fun f : Int32 => if f = 2 then (1 : Int32) else 2) f) = 0 := by rcases e2 with rfl | rfl <;> decide
    have e4 : f_X8_type y2 y9 (xs (i + 1).toNatClampNeg) = (0, (y2, ((fun f : Int32 => if f = 2 then (1 : Int32) else 2) f), y9)) := e4
    refine lv_aload_n hx hb dL_law_1560 rfl (lv_at hl 1 rfl) ?_
    refine lv_aload_n hx hb dL_law_1561 rfl (lv_at hl 0 rfl) ?_
    refine lv_iload hx hb dL_law_1562 (lv_at hl 5 rfl) ?_
    refine lv_iconst (v := 1) hx hb dL_law_1564 (by decide) ?_
    refine lv_iadd hx hb dL_law_1565 ?_
    refine va_sld hx hb hX hbl0 hbA hS h1 dL_law_1566 ?_
    refine lv_aload_n hx hb dL_law_1567 rfl (lv_at hl 3 rfl) ?_
    refine lw_compi (wcs := [(wPCo p70 b7 c7 d7 e7 h7 k7 st), (wTxt cy g k7 tx), (wL cy o out)]) (wns := fun u8 => [(wPCo p70 b7 c7 d7 e7 h7 k7 u8.1.1), (wTxt cy g k7 u8.1.2), (wL cy o u8.2)]) (W2 := fun u8 => (LWL cy g p70 b7 c7 d7 e7 h7 k7 q ma o od u8.1.1 v w v2 w2 z s0 s1 s2 s3 u8.1.2 y0 0 y2 y3 y4 y5 y6 y7 y8 y9 y10 y11 y12 y13 u8.2 outD)) (vx_runSW (As := [.ref p70, .int (xs (i + 1).toNatClampNeg), .ref o]) (rest := []) S (c_L_type l hl0 D cy g s.heap.size p70 b7 c7 d7 e7 h7 k7 st tx (xs (i + 1).toNatClampNeg) o out (fun k h => k_type h)) (vx_cwSW 3 hts gL_law_L_type rfl rfl rfl hd_L_type_S ⟨Nat.le_of_ble_eq_true rfl, Nat.le_of_ble_eq_true rfl⟩) ⟨lwP_blind, my_preL (wcs := [(wPCo p70 b7 c7 d7 e7 h7 k7 st), (wTxt cy g k7 tx), (wL cy o out)]) hK0 hNc hS hAB hP hD [0, 10, 12] (by decide) rfl rfl⟩ rfl rfl hl.1 rfl (lv_room (Nat.le_of_ble_eq_true rfl)) dL_law_1568 ⟨(show cells + 2 ≤ 601024 by omega), (show slots + 12 ≤ 7293033 by omega)⟩) hS hP hD [0, 10, 12] rfl rfl (fun _ => rfl) (fun _ => by simp only [List.map_cons, List.map_nil, adrSet, adrSetE, adrPow, adrPowE, adrTxt, adrTxtE, adrSav, adrSavE, adrPCo, adrMod, adrModE, adrL, adrDb]) (fun _ => rfl) (fun r9 u9 H locs hw hP hD hS => ?_)
    obtain ⟨rfl, rfl⟩ := Prod.mk.inj ((wrI_l e1).symm.trans hw)
    have hP : va_P D vwCl (LW cy g p70 b7 c7 d7 e7 h7 k7 q ma o od st v w v2 w2 z s0 s1 s2 s3 tx y0 0 y2 y3 y4 y5 y6 y7 y8 y9 y10 y11 y12 y13 out outD) H := hP
    have hD : va_D (fun q => s.heap.size ≤ q) (LW cy g p70 b7 c7 d7 e7 h7 k7 q ma o od st v w v2 w2 z s0 s1 s2 s3 tx y0 0 y2 y3 y4 y5 y6 y7 y8 y9 y10 y11 y12 y13 out outD) := hD
    refine lv_istore (lv' := [(6, .int ((fun f : Int32 => if f = 2 then (1 : Int32) else 2) f)), (0, .ref b), (1, .ref p70), (2, .ref (ma 0)), (3, .ref o), (4, .ref od), (5, .int i)]) hx hb dL_law_1571 hl (by decide) rfl (fun ls hl => ?_)
    refine lv_aload_n hx hb dL_law_1573 rfl (lv_at hl 3 rfl) ?_
    refine lv_aload_n hx hb dL_law_1574 rfl (lv_at hl 1 rfl) ?_
    refine lv_iload hx hb dL_law_1575 (lv_at hl 6 rfl) ?_
    refine lv_iconst (v := 1) hx hb dL_law_1577 (by decide) ?_
    refine lv_iadd hx hb dL_law_1578 ?_
    refine va_sld hx hb hX hbl0 hbA hS h1 dL_law_1579 ?_
    refine mu_compi (wcs := [(wModE cy ma y0 0 y2 y3 y4 y5 y6 y7 y8 y9 y10 y11 y12 y13)]) (wns := fun u8 => [(wModE cy ma y0 0 u8.1 u8.2.1 y4 y5 y6 y7 y8 u8.2.2 y10 y11 y12 y13)]) (W2 := fun u8 => (LWL cy g p70 b7 c7 d7 e7 h7 k7 q ma o od st v w v2 w2 z s0 s1 s2 s3 tx y0 0 u8.1 u8.2.1 y4 y5 y6 y7 y8 u8.2.2 y10 y11 y12 y13 out outD)) (va_runV (C := RX8) (As := [.int (xs (i + 1).toNatClampNeg)]) (rest := []) S (c_X8_type l D cy g s.heap.size ma y0 0 y2 y3 y4 y5 y6 y7 y8 y9 y10 y11 y12 y13 (xs (i + 1).toNatClampNeg) (txf htx).1 (txf htx).2) (cwV 1 hts gL_law_X8_type rfl rfl rfl hd_X8_type_V ⟨Nat.le_of_ble_eq_true rfl, Nat.le_of_ble_eq_true rfl⟩) ⟨muP_blind, va_recv hK0.1 hP (ci := 6) (q0 := 90) rfl rfl, my_preC (wcs := [(wModE cy ma y0 0 y2 y3 y4 y5 y6 y7 y8 y9 y10 y11 y12 y13)]) hK0 hS hAB hP hD [11] (by decide) rfl (List.append_nil _)⟩ rfl rfl hl.1 rfl (lv_room (Nat.le_of_ble_eq_true rfl)) dL_law_1580 ⟨(show cells + 2 ≤ 601024 by omega), (show slots + 12 ≤ 7293033 by omega)⟩) hS hP hD [11] rfl (List.append_nil _) (fun _ => List.append_nil _) (fun _ => by simp only [List.map_cons, List.map_nil, adrSet, adrSetE, adrPow, adrPowE, adrTxt, adrTxtE, adrSav, adrSavE, adrPCo, adrMod, adrModE, adrL, adrDb]) (fun _ => rfl) (fun r9 u9 H locs hw hP hD hS => ?_)
    obtain ⟨rfl, rfl⟩ := Prod.mk.inj (e4.symm.trans hw)
    have hP : va_P D vwCl (LW cy g p70 b7 c7 d7 e7 h7 k7 q ma o od st v w v2 w2 z s0 s1 s2 s3 tx y0 0 y2 ((fun f : Int32 => if f = 2 then (1 : Int32) else 2) f) y4 y5 y6 y7 y8 y9 y10 y11 y12 y13 out outD) H := hP
    have hD : va_D (fun q => s.heap.size ≤ q) (LW cy g p70 b7 c7 d7 e7 h7 k7 q ma o od st v w v2 w2 z s0 s1 s2 s3 tx y0 0 y2 ((fun f : Int32 => if f = 2 then (1 : Int32) else 2) f) y4 y5 y6 y7 y8 y9 y10 y11 y12 y13 out outD) := hD
    refine lv_istore (lv' := [(7, .int 0), (6, .int ((fun f : Int32 => if f = 2 then (1 : Int32) else 2) f)), (0, .ref b), (1, .ref p70), (2, .ref (ma 0)), (3, .ref o), (4, .ref od), (5, .int i)]) hx hb dL_law_1583 hl (by decide) rfl (fun ls hl => ?_)
    refine lv_aload_n hx hb dL_law_1585 rfl (lv_at hl 4 rfl) ?_
    refine rd_goi (va_runV (C := RX8) (As := []) (rest := []) S (c_X8_thrown l D cy g s.heap.size ma y0 0 y2 ((fun f : Int32 => if f = 2 then (1 : Int32) else 2) f) y4 y5 y6 y7 y8 y9 y10 y11 y12 y13) (cwV 0 hts gL_law_X8_thrown rfl rfl rfl hd_X8_thrown_V ⟨Nat.le_of_ble_eq_true rfl, Nat.le_of_ble_eq_true rfl⟩) ⟨rdP_blind, va_recv hK0.1 hP (ci := 6) (q0 := 90) rfl rfl, my_preV hK0 hS hAB hP [90, 91, 92, 93, 94, 95, 96, 97] rfl⟩ rfl rfl hl.1 rfl (lv_room (Nat.le_of_ble_eq_true rfl)) dL_law_1586 ⟨(show cells + 2 ≤ 601024 by omega), (show slots + 12 ≤ 7293033 by omega)⟩) ?_
    refine lv_iload hx hb dL_law_1589 (lv_at hl 1 rfl) ?_
    refine lv_icmp_eq (tgt := 1596) hx hb dL_law_1591 (by decide) (fun _ => ?_) (fun h9 => absurd (show ((f_X8_thrown ((fun f : Int32 => if f = 2 then (1 : Int32) else 2) f)) : Int32) = ((fun f : Int32 => if f = 2 then (1 : Int32) else 2) f) from rfl) h9)
    refine lv_iload hx hb dL_law_1596 (lv_at hl 1 rfl) ?_
    refine lv_if_ne (tgt := 1613) hx hb dL_law_1598 (by decide) (fun _ => ?_) (fun h9 => absurd h9 hne)
    refine lv_goto (tgt := 1700) hx hb dL_law_1613 (by decide) ?_
    refine W.widen (k := cells + 2) (n := slots + 12) (by omega) (by omega) ?_
    exact K H locs ls ⟨st, v, w, v2, w2, z, s0, s1, s2, s3, tx, y0, y2, ((fun f : Int32 => if f = 2 then (1 : Int32) else 2) f), y4, y5, y6, y7, y8, y9, y10, y11, y12, y13, out, outD, hv, hg, hp, hrg, htx, hbl, hP, hD⟩ hS (lv_sub hl [2, 3, 4, 5, 6, 7] rfl)
  · refine lv_aload_n hx hb dL_law_1560 rfl (lv_at hl 1 rfl) ?_
    refine lv_aload_n hx hb dL_law_1561 rfl (lv_at hl 0 rfl) ?_
    refine lv_iload hx hb dL_law_1562 (lv_at hl 5 rfl) ?_
    refine lv_iconst (v := 1) hx hb dL_law_1564 (by decide) ?_
    refine lv_iadd hx hb dL_law_1565 ?_
    refine va_sld hx hb hX hbl0 hbA hS h1 dL_law_1566 ?_
    refine lv_aload_n hx hb dL_law_1567 rfl (lv_at hl 3 rfl) ?_
    refine lw_compi (wcs := [(wPCo p70 b7 c7 d7 e7 h7 k7 st), (wTxt cy g k7 tx), (wL cy o out)]) (wns := fun u8 => [(wPCo p70 b7 c7 d7 e7 h7 k7 u8.1.1), (wTxt cy g k7 u8.1.2), (wL cy o u8.2)]) (W2 := fun u8 => (LWL cy g p70 b7 c7 d7 e7 h7 k7 q ma o od u8.1.1 v w v2 w2 z s0 s1 s2 s3 u8.1.2 y0 0 y2 y3 y4 y5 y6 y7 y8 y9 y10 y11 y12 y13 u8.2 outD)) (vx_runSW (As := [.ref p70, .int (xs (i + 1).toNatClampNeg), .ref o]) (rest := []) S (c_L_type l hl0 D cy g s.heap.size p70 b7 c7 d7 e7 h7 k7 st tx (xs (i + 1).toNatClampNeg) o out (fun k h => k_type h)) (vx_cwSW 3 hts gL_law_L_type rfl rfl rfl hd_L_type_S ⟨Nat.le_of_ble_eq_true rfl, Nat.le_of_ble_eq_true rfl⟩) ⟨lwP_blind, my_preL (wcs := [(wPCo p70 b7 c7 d7 e7 h7 k7 st), (wTxt cy g k7 tx), (wL cy o out)]) hK0 hNc hS hAB hP hD [0, 10, 12] (by decide) rfl rfl⟩ rfl rfl hl.1 rfl (lv_room (Nat.le_of_ble_eq_true rfl)) dL_law_1568 ⟨(show cells + 2 ≤ 601024 by omega), (show slots + 12 ≤ 7293033 by omega)⟩) hS hP hD [0, 10, 12] rfl rfl (fun _ => rfl) (fun _ => by simp only [List.map_cons, List.map_nil, adrSet, adrSetE, adrPow, adrPowE, adrTxt, adrTxtE, adrSav, adrSavE, adrPCo, adrMod, adrModE, adrL, adrDb]) (fun _ => rfl) (fun r9 u9 H locs hw hP hD hS => ?_)
    obtain ⟨rfl, rfl⟩ := Prod.mk.inj ((wrI_r e1).symm.trans hw)
    have hP : va_P D vwCl (LW cy g p70 b7 c7 d7 e7 h7 k7 q ma o od st v w v2 w2 z s0 s1 s2 s3 tx9 y0 0 y2 y3 y4 y5 y6 y7 y8 y9 y10 y11 y12 y13 (vp_updL out 0 (Int32.toInt64 r)) outD) H := hP
    have hD : va_D (fun q => s.heap.size ≤ q) (LW cy g p70 b7 c7 d7 e7 h7 k7 q ma o od st v w v2 w2 z s0 s1 s2 s3 tx9 y0 0 y2 y3 y4 y5 y6 y7 y8 y9 y10 y11 y12 y13 (vp_updL out 0 (Int32.toInt64 r)) outD) := hD
    refine lv_istore (lv' := [(6, .int 0), (0, .ref b), (1, .ref p70), (2, .ref (ma 0)), (3, .ref o), (4, .ref od), (5, .int i)]) hx hb dL_law_1571 hl (by decide) rfl (fun ls hl => ?_)
    refine lv_aload_n hx hb dL_law_1573 rfl (lv_at hl 3 rfl) ?_
    refine lv_aload_n hx hb dL_law_1574 rfl (lv_at hl 1 rfl) ?_
    refine lv_iload hx hb dL_law_1575 (lv_at hl 6 rfl) ?_
    refine lv_iconst (v := 1) hx hb dL_law_1577 (by decide) ?_
    refine lv_iadd hx hb dL_law_1578 ?_
    refine va_sld hx hb hX hbl0 hbA hS h1 dL_law_1579 ?_
    refine mu_compi (wcs := [(wModE cy ma y0 0 y2 y3 y4 y5 y6 y7 y8 y9 y10 y11 y12 y13)]) (wns := fun u8 => [(wModE cy ma y0 0 u8.1 u8.2.1 y4 y5 y6 y7 y8 u8.2.2 y10 y11 y12 y13)]) (W2 := fun u8 => (LWL cy g p70 b7 c7 d7 e7 h7 k7 q ma o od st v w v2 w2 z s0 s1 s2 s3 tx9 y0 0 u8.1 u8.2.1 y4 y5 y6 y7 y8 u8.2.2 y10 y11 y12 y13 (vp_updL out 0 (Int32.toInt64 r)) outD)) (va_runV (C := RX8) (As := [.int (xs (i + 1).toNatClampNeg)]) (rest := []) S (c_X8_type l D cy g s.heap.size ma y0 0 y2 y3 y4 y5 y6 y7 y8 y9 y10 y11 y12 y13 (xs (i + 1).toNatClampNeg) (txf htx).1 (txf htx).2) (cwV 1 hts gL_law_X8_type rfl rfl rfl hd_X8_type_V ⟨Nat.le_of_ble_eq_true rfl, Nat.le_of_ble_eq_true rfl⟩) ⟨muP_blind, va_recv hK0.1 hP (ci := 6) (q0 := 90) rfl rfl, my_preC (wcs := [(wModE cy ma y0 0 y2 y3 y4 y5 y6 y7 y8 y9 y10 y11 y12 y13)]) hK0 hS hAB hP hD [11] (by decide) rfl (List.append_nil _)⟩ rfl rfl hl.1 rfl (lv_room (Nat.le_of_ble_eq_true rfl)) dL_law_1580 ⟨(show cells + 2 ≤ 601024 by omega), (show slots + 12 ≤ 7293033 by omega)⟩) hS hP hD [11] rfl (List.append_nil _) (fun _ => List.append_nil _) (fun _ => by simp only [List.map_cons, List.map_nil, adrSet, adrSetE, adrPow, adrPowE, adrTxt, adrTxtE, adrSav, adrSavE, adrPCo, adrMod, adrModE, adrL, adrDb]) (fun _ => rfl) (fun r9 u9 H locs hw hP hD hS => ?_)
    obtain ⟨rfl, rfl⟩ := Prod.mk.inj (e4.symm.trans hw)
    have hP : va_P D vwCl (LW cy g p70 b7 c7 d7 e7 h7 k7 q ma o od st v w v2 w2 z s0 s1 s2 s3 tx9 y0 0 z2 0 y4 y5 y6 y7 y8 z9 y10 y11 y12 y13 (vp_updL out 0 (Int32.toInt64 r)) outD) H := hP
    have hD : va_D (fun q => s.heap.size ≤ q) (LW cy g p70 b7 c7 d7 e7 h7 k7 q ma o od st v w v2 w2 z s0 s1 s2 s3 tx9 y0 0 z2 0 y4 y5 y6 y7 y8 z9 y10 y11 y12 y13 (vp_updL out 0 (Int32.toInt64 r)) outD) := hD
    refine lv_istore (lv' := [(7, .int r), (6, .int 0), (0, .ref b), (1, .ref p70), (2, .ref (ma 0)), (3, .ref o), (4, .ref od), (5, .int i)]) hx hb dL_law_1583 hl (by decide) rfl (fun ls hl => ?_)
    refine lv_aload_n hx hb dL_law_1585 rfl (lv_at hl 4 rfl) ?_
    refine rd_goi (va_runV (C := RX8) (As := []) (rest := []) S (c_X8_thrown l D cy g s.heap.size ma y0 0 z2 0 y4 y5 y6 y7 y8 z9 y10 y11 y12 y13) (cwV 0 hts gL_law_X8_thrown rfl rfl rfl hd_X8_thrown_V ⟨Nat.le_of_ble_eq_true rfl, Nat.le_of_ble_eq_true rfl⟩) ⟨rdP_blind, va_recv hK0.1 hP (ci := 6) (q0 := 90) rfl rfl, my_preV hK0 hS hAB hP [90, 91, 92, 93, 94, 95, 96, 97] rfl⟩ rfl rfl hl.1 rfl (lv_room (Nat.le_of_ble_eq_true rfl)) dL_law_1586 ⟨(show cells + 2 ≤ 601024 by omega), (show slots + 12 ≤ 7293033 by omega)⟩) ?_
    refine lv_iload hx hb dL_law_1589 (lv_at hl 1 rfl) ?_
    refine lv_icmp_eq (tgt := 1596) hx hb dL_law_1591 (by decide) (fun _ => ?_) (fun h9 => absurd (show ((f_X8_thrown 0) : Int32) = 0 from rfl) h9)
    refine lv_iload hx hb dL_law_1596 (lv_at hl 1 rfl) ?_
    refine lv_if_ne (tgt := 1613) hx hb dL_law_1598 (by decide) (fun h9 => absurd rfl h9) (fun _ => ?_)
    refine lv_aload_n hx hb dL_law_1601 rfl (lv_at hl 5 rfl) ?_
    refine lv_iconst (v := 0) hx hb dL_law_1602 (by decide) ?_
    refine va_lald hx hb hK0.1 hP 98 3 rfl rfl (i := 0) (show ¬ ((0 : Int32) < 0 ∨ 1 ≤ (0 : Int32).toNatClampNeg) by decide) dL_law_1603 ?_
    refine lv_iload hx hb dL_law_1604 (lv_at hl 0 rfl) ?_
    refine lv_i2l (v := (Int32.toInt64 r)) hx hb dL_law_1606 rfl ?_
    refine W.lcmp hx hb dL_law_1607 ?_
    refine lv_if_eq (tgt := 1613) hx hb dL_law_1608 (by decide) (fun _ => ?_) (fun h9 => absurd ((lg_cmp_eq _ _).mpr rfl) h9)
    refine lv_goto (tgt := 1700) hx hb dL_law_1613 (by decide) ?_
    refine W.widen (k := cells + 2) (n := slots + 12) (by omega) (by omega) ?_
    exact K H locs ls ⟨st, v, w, v2, w2, z, s0, s1, s2, s3, tx9, y0, z2, 0, y4, y5, y6, y7, y8, z9, y10, y11, y12, y13, (vp_updL out 0 (Int32.toInt64 r)), outD, hv, hg, hp, hrg, e5, hbl, hP, hD⟩ hS (lv_sub hl [2, 3, 4, 5, 6, 7] rfl)
set_option maxHeartbeats 4000000 in
set_option maxRecDepth 100000 in
theorem law_clearCommands (C : LC p l e s m meth c b L xs D cy g) (hc : cells ≤ 590000) (hs : slots ≤ 7000000) (h1 : vp_in (i + 1) L) (h2 : vp_in (i + 2) L) (hI : LInv D cy g p70 b7 c7 d7 e7 h7 k7 q ma o od s.heap.size H) (hS : va_S (fun q => s.heap.size ≤ q) s.heap H locs) (hl : lv_has ls 9 [(0, .ref b), (1, .ref p70), (2, .ref (ma 0)), (3, .ref o), (4, .ref od), (5, .int i)])
    (K : ∀ (H : Heap) (locs : List Loc) (ls : Array Slot), LInv D cy g p70 b7 c7 d7 e7 h7 k7 q ma o od s.heap.size H → va_S (fun q => s.heap.size ≤ q) s.heap H locs → lv_has ls 9 [(0, .ref b), (1, .ref p70), (2, .ref (ma 0)), (3, .ref o), (4, .ref od), (5, .int i)] → W p l e room_1 s m #[Value.ref b] below meth c H locs (cells + 2) (slots + 12) Q (F0 m 1700 ls [])) : W p l e room_1 s m #[Value.ref b] below meth c H locs cells slots Q (F0 m 1616 ls []) := by
  obtain ⟨hl0, hx, hb, hr, hml, hown, hts, hX, hbl0, hlocks, hK0, hNc, hL⟩ := C
  obtain ⟨st, v, w, v2, w2, z, s0, s1, s2, s3, tx, y0, y2, y3, y4, y5, y6, y7, y8, y9, y10, y11, y12, y13, out, outD, hv, hg, hp, hrg, htx, hbl, hP, hD⟩ := hI
  have S := my_fix hx hb hml hown hts
  have hAB : ∀ q : Nat, s.heap.size ≤ q → s.heap.size ≤ q := fun _ h => h
  have hbA : ¬ s.heap.size ≤ b := Nat.not_le.mpr hbl0
  have e1 : f_X7_clearCommands st tx = (tx.1, (st, (0, tx.2))) := rfl
  have e4 : f_X8_clearCommands y2 = (y2, (0, 0)) := rfl
  refine lv_aload_n hx hb dL_law_1616 rfl (lv_at hl 1 rfl) ?_
  refine mu_compi (wcs := [(wPCo p70 b7 c7 d7 e7 h7 k7 st), (wTxt cy g k7 tx)]) (wns := fun u8 => [(wPCo p70 b7 c7 d7 e7 h7 k7 u8.1), (wTxt cy g k7 u8.2)]) (W2 := fun u8 => (LWL cy g p70 b7 c7 d7 e7 h7 k7 q ma o od u8.1 v w v2 w2 z s0 s1 s2 s3 u8.2 y0 0 y2 y3 y4 y5 y6 y7 y8 y9 y10 y11 y12 y13 out outD)) (va_runV (C := RX7) (As := []) (rest := []) S (c_X7_clearCommands l D cy g s.heap.size p70 b7 c7 d7 e7 h7 k7 st tx) (cwV 0 hts gL_law_X7_clearCommands rfl rfl rfl hd_X7_clearCommands_V ⟨Nat.le_of_ble_eq_true rfl, Nat.le_of_ble_eq_true rfl⟩) ⟨muP_blind, va_recv hK0.1 hP (ci := 5) (q0 := 0) rfl rfl, my_preC (wcs := [(wPCo p70 b7 c7 d7 e7 h7 k7 st), (wTxt cy g k7 tx)]) hK0 hS hAB hP hD [0, 10] (by decide) rfl rfl⟩ rfl rfl hl.1 rfl (lv_room (Nat.le_of_ble_eq_true rfl)) dL_law_1617 ⟨(show cells ≤ 601024 by omega), (show slots ≤ 7293033 by omega)⟩) hS hP hD [0, 10] rfl rfl (fun _ => rfl) (fun _ => by simp only [List.map_cons, List.map_nil, adrSet, adrSetE, adrPow, adrPowE, adrTxt, adrTxtE, adrSav, adrSavE, adrPCo, adrMod, adrModE, adrL, adrDb]) (fun _ => rfl) (fun r9 u9 H locs hw hP hD hS => ?_)
  obtain ⟨rfl, rfl⟩ := Prod.mk.inj (e1.symm.trans hw)
  have hP : va_P D vwCl (LW cy g p70 b7 c7 d7 e7 h7 k7 q ma o od st v w v2 w2 z s0 s1 s2 s3 (0, tx.2) y0 0 y2 y3 y4 y5 y6 y7 y8 y9 y10 y11 y12 y13 out outD) H := hP
  have hD : va_D (fun q => s.heap.size ≤ q) (LW cy g p70 b7 c7 d7 e7 h7 k7 q ma o od st v w v2 w2 z s0 s1 s2 s3 (0, tx.2) y0 0 y2 y3 y4 y5 y6 y7 y8 y9 y10 y11 y12 y13 out outD) := hD
  refine lv_aload_n hx hb dL_law_1620 rfl (lv_at hl 2 rfl) ?_
  refine mu_compi (wcs := [(wModE cy ma y0 0 y2 y3 y4 y5 y6 y7 y8 y9 y10 y11 y12 y13)]) (wns := fun u8 => [(wModE cy ma y0 0 u8.1 u8.2 y4 y5 y6 y7 y8 y9 y10 y11 y12 y13)]) (W2 := fun u8 => (LWL cy g p70 b7 c7 d7 e7 h7 k7 q ma o od st v w v2 w2 z s0 s1 s2 s3 (0, tx.2) y0 0 u8.1 u8.2 y4 y5 y6 y7 y8 y9 y10 y11 y12 y13 out outD)) (va_runV (C := RX8) (As := []) (rest := [.int tx.1]) S (c_X8_clearCommands l D cy g s.heap.size ma y0 0 y2 y3 y4 y5 y6 y7 y8 y9 y10 y11 y12 y13  ) (cwV 0 hts gL_law_X8_clearCommands rfl rfl rfl hd_X8_clearCommands_V ⟨Nat.le_of_ble_eq_true rfl, Nat.le_of_ble_eq_true rfl⟩) ⟨muP_blind, va_recv hK0.1 hP (ci := 6) (q0 := 90) rfl rfl, my_preC (wcs := [(wModE cy ma y0 0 y2 y3 y4 y5 y6 y7 y8 y9 y10 y11 y12 y13)]) hK0 hS hAB hP hD [11] (by decide) rfl (List.append_nil _)⟩ rfl rfl hl.1 rfl (lv_room (Nat.le_of_ble_eq_true rfl)) dL_law_1621 ⟨(show cells ≤ 601024 by omega), (show slots ≤ 7293033 by omega)⟩) hS hP hD [11] rfl (List.append_nil _) (fun _ => List.append_nil _) (fun _ => by simp only [List.map_cons, List.map_nil, adrSet, adrSetE, adrPow, adrPowE, adrTxt, adrTxtE, adrSav, adrSavE, adrPCo, adrMod, adrModE, adrL, adrDb]) (fun _ => rfl) (fun r9 u9 H locs hw hP hD hS => ?_)
  obtain ⟨rfl, rfl⟩ := Prod.mk.inj (e4.symm.trans hw)
  have hP : va_P D vwCl (LW cy g p70 b7 c7 d7 e7 h7 k7 q ma o od st v w v2 w2 z s0 s1 s2 s3 (0, tx.2) y0 0 0 0 y4 y5 y6 y7 y8 y9 y10 y11 y12 y13 out outD) H := hP
  have hD : va_D (fun q => s.heap.size ≤ q) (LW cy g p70 b7 c7 d7 e7 h7 k7 q ma o od st v w v2 w2 z s0 s1 s2 s3 (0, tx.2) y0 0 0 0 y4 y5 y6 y7 y8 y9 y10 y11 y12 y13 out outD) := hD
  refine lv_icmp_eq (tgt := 1700) hx hb dL_law_1624 (by decide) (fun _ => ?_) (fun h9 => absurd (txf1 htx) h9)
  refine W.widen (k := cells + 2) (n := slots + 12) (by omega) (by omega) ?_
  exact K H locs ls ⟨st, v, w, v2, w2, z, s0, s1, s2, s3, (0, tx.2), y0, 0, 0, y4, y5, y6, y7, y8, y9, y10, y11, y12, y13, out, outD, hv, hg, hp, hrg, (txR_clear tx y9), hbl, hP, hD⟩ hS (lv_sub hl [0, 1, 2, 3, 4, 5] rfl)
set_option maxHeartbeats 4000000 in
set_option maxRecDepth 100000 in
theorem law_runCommands (C : LC p l e s m meth c b L xs D cy g) (hc : cells ≤ 590000) (hs : slots ≤ 7000000) (h1 : vp_in (i + 1) L) (h2 : vp_in (i + 2) L) (hI : LInv D cy g p70 b7 c7 d7 e7 h7 k7 q ma o od s.heap.size H) (hS : va_S (fun q => s.heap.size ≤ q) s.heap H locs) (hl : lv_has ls 9 [(0, .ref b), (1, .ref p70), (2, .ref (ma 0)), (3, .ref o), (4, .ref od), (5, .int i)])
    (K : ∀ (H : Heap) (locs : List Loc) (ls : Array Slot), LInv D cy g p70 b7 c7 d7 e7 h7 k7 q ma o od s.heap.size H → va_S (fun q => s.heap.size ≤ q) s.heap H locs → lv_has ls 9 [(0, .ref b), (1, .ref p70), (2, .ref (ma 0)), (3, .ref o), (4, .ref od), (5, .int i)] → W p l e room_1 s m #[Value.ref b] below meth c H locs (cells + 2) (slots + 12) Q (F0 m 1700 ls [])) : W p l e room_1 s m #[Value.ref b] below meth c H locs cells slots Q (F0 m 1629 ls []) := by
  obtain ⟨hl0, hx, hb, hr, hml, hown, hts, hX, hbl0, hlocks, hK0, hNc, hL⟩ := C
  obtain ⟨st, v, w, v2, w2, z, s0, s1, s2, s3, tx, y0, y2, y3, y4, y5, y6, y7, y8, y9, y10, y11, y12, y13, out, outD, hv, hg, hp, hrg, htx, hbl, hP, hD⟩ := hI
  have S := my_fix hx hb hml hown hts
  have hAB : ∀ q : Nat, s.heap.size ≤ q → s.heap.size ≤ q := fun _ h => h
  have hbA : ¬ s.heap.size ≤ b := Nat.not_le.mpr hbl0
  rcases R_runCommands hv hg hrg htx st y6 y13 with ⟨r, p9, f9, g9, c9, w5, w6, w13, e1, e4⟩ | ⟨r, p9, f9, g9, c9, w5, w6, w13, u, pp, e1, e4, e5⟩
  · refine lv_aload_n hx hb dL_law_1629 rfl (lv_at hl 1 rfl) ?_
    refine mu_compi (wcs := [(wPCo p70 b7 c7 d7 e7 h7 k7 st), (wSet cy b7 v), (wSav cy q h7 z), (wSet cy (q 0) s0), (wSet cy (q 1) s1), (wSet cy (q 2) s2), (wSet cy (q 3) s3), (wTxt cy g k7 tx)]) (wns := fun u8 => [(wPCo p70 b7 c7 d7 e7 h7 k7 u8.1), (wSet cy b7 u8.2.1), (wSav cy q h7 u8.2.2.1), (wSet cy (q 0) u8.2.2.2.1), (wSet cy (q 1) u8.2.2.2.2.1), (wSet cy (q 2) u8.2.2.2.2.2.1), (wSet cy (q 3) u8.2.2.2.2.2.2.1), (wTxt cy g k7 u8.2.2.2.2.2.2.2)]) (W2 := fun u8 => (LWL cy g p70 b7 c7 d7 e7 h7 k7 q ma o od u8.1 u8.2.1 w v2 w2 u8.2.2.1 u8.2.2.2.1 u8.2.2.2.2.1 u8.2.2.2.2.2.1 u8.2.2.2.2.2.2.1 u8.2.2.2.2.2.2.2 y0 0 y2 y3 y4 y5 y6 y7 y8 y9 y10 y11 y12 y13 out outD)) (va_runV (C := RX7) (As := []) (rest := []) S (c_X7_runCommands l D cy g s.heap.size p70 b7 c7 d7 e7 h7 k7 q st v z s0 s1 s2 s3 tx) (cwV 0 hts gL_law_X7_runCommands rfl rfl rfl hd_X7_runCommands_V ⟨Nat.le_of_ble_eq_true rfl, Nat.le_of_ble_eq_true rfl⟩) ⟨muP_blind, va_recv hK0.1 hP (ci := 5) (q0 := 0) rfl rfl, my_preC (wcs := [(wPCo p70 b7 c7 d7 e7 h7 k7 st), (wSet cy b7 v), (wSav cy q h7 z), (wSet cy (q 0) s0), (wSet cy (q 1) s1), (wSet cy (q 2) s2), (wSet cy (q 3) s3), (wTxt cy g k7 tx)]) hK0 hS hAB hP hD [0, 1, 5, 6, 7, 8, 9, 10] (by decide) rfl rfl⟩ rfl rfl hl.1 rfl (lv_room (Nat.le_of_ble_eq_true rfl)) dL_law_1630 ⟨(show cells ≤ 601024 by omega), (show slots ≤ 7293033 by omega)⟩) hS hP hD [0, 1, 5, 6, 7, 8, 9, 10] rfl rfl (fun _ => rfl) (fun _ => by simp only [List.map_cons, List.map_nil, adrSet, adrSetE, adrPow, adrPowE, adrTxt, adrTxtE, adrSav, adrSavE, adrPCo, adrMod, adrModE, adrL, adrDb]) (fun _ => rfl) (fun r9 u9 H locs hw hP hD hS => ?_)
    obtain ⟨rfl, rfl⟩ := Prod.mk.inj (e1.symm.trans hw)
    have hP : va_P D vwCl (LW cy g p70 b7 c7 d7 e7 h7 k7 q ma o od st v w v2 w2 z s0 s1 s2 s3 (tx.1, p9, f9, g9, c9, tx.2.2.2.2.2) y0 0 y2 y3 y4 y5 y6 y7 y8 y9 y10 y11 y12 y13 out outD) H := hP
    have hD : va_D (fun q => s.heap.size ≤ q) (LW cy g p70 b7 c7 d7 e7 h7 k7 q ma o od st v w v2 w2 z s0 s1 s2 s3 (tx.1, p9, f9, g9, c9, tx.2.2.2.2.2) y0 0 y2 y3 y4 y5 y6 y7 y8 y9 y10 y11 y12 y13 out outD) := hD
    refine lv_aload_n hx hb dL_law_1633 rfl (lv_at hl 2 rfl) ?_
    refine mu_compi (wcs := [(wModE cy ma y0 0 y2 y3 y4 y5 y6 y7 y8 y9 y10 y11 y12 y13)]) (wns := fun u8 => [(wModE cy ma u8.1 u8.2.1 y2 u8.2.2.1 y4 u8.2.2.2.1 u8.2.2.2.2.1 u8.2.2.2.2.2.1 u8.2.2.2.2.2.2.1 y9 y10 y11 y12 u8.2.2.2.2.2.2.2)]) (W2 := fun u8 => (LWL cy g p70 b7 c7 d7 e7 h7 k7 q ma o od st v w v2 w2 z s0 s1 s2 s3 (tx.1, p9, f9, g9, c9, tx.2.2.2.2.2) u8.1 u8.2.1 y2 u8.2.2.1 y4 u8.2.2.2.1 u8.2.2.2.2.1 u8.2.2.2.2.2.1 u8.2.2.2.2.2.2.1 y9 y10 y11 y12 u8.2.2.2.2.2.2.2 out outD)) (va_runV (C := RX8) (As := []) (rest := [.int r]) S (c_X8_runCommands l D cy g s.heap.size ma y0 0 y2 y3 y4 y5 y6 y7 y8 y9 y10 y11 y12 y13  (ringf hrg).1 (ringf hrg).2 (GSf hg).1 (GSf hg).2.2.1 (GSf hg).2.1 (GSf hg).2.2.2 (txf htx).1 (txf htx).2) (cwV 0 hts gL_law_X8_runCommands rfl rfl rfl hd_X8_runCommands_V ⟨Nat.le_of_ble_eq_true rfl, Nat.le_of_ble_eq_true rfl⟩) ⟨muP_blind, va_recv hK0.1 hP (ci := 6) (q0 := 90) rfl rfl, my_preC (wcs := [(wModE cy ma y0 0 y2 y3 y4 y5 y6 y7 y8 y9 y10 y11 y12 y13)]) hK0 hS hAB hP hD [11] (by decide) rfl (List.append_nil _)⟩ rfl rfl hl.1 rfl (lv_room (Nat.le_of_ble_eq_true rfl)) dL_law_1634 ⟨(show cells ≤ 601024 by omega), (show slots ≤ 7293033 by omega)⟩) hS hP hD [11] rfl (List.append_nil _) (fun _ => List.append_nil _) (fun _ => by simp only [List.map_cons, List.map_nil, adrSet, adrSetE, adrPow, adrPowE, adrTxt, adrTxtE, adrSav, adrSavE, adrPCo, adrMod, adrModE, adrL, adrDb]) (fun _ => rfl) (fun r9 u9 H locs hw hP hD hS => ?_)
    obtain ⟨rfl, rfl⟩ := Prod.mk.inj (e4.symm.trans hw)
    have hP : va_P D vwCl (LW cy g p70 b7 c7 d7 e7 h7 k7 q ma o od st v w v2 w2 z s0 s1 s2 s3 (tx.1, p9, f9, g9, c9, tx.2.2.2.2.2) y0 0 y2 0 y4 w5 w6 y7 y8 y9 y10 y11 y12 w13 out outD) H := hP
    have hD : va_D (fun q => s.heap.size ≤ q) (LW cy g p70 b7 c7 d7 e7 h7 k7 q ma o od st v w v2 w2 z s0 s1 s2 s3 (tx.1, p9, f9, g9, c9, tx.2.2.2.2.2) y0 0 y2 0 y4 w5 w6 y7 y8 y9 y10 y11 y12 w13 out outD) := hD
    refine lv_icmp_eq (tgt := 1700) hx hb dL_law_1637 (by decide) (fun _ => ?_) (fun h9 => absurd rfl h9)
    refine W.widen (k := cells + 2) (n := slots + 12) (by omega) (by omega) ?_
    exact K H locs ls ⟨st, v, w, v2, w2, z, s0, s1, s2, s3, (tx.1, p9, f9, g9, c9, tx.2.2.2.2.2), y0, y2, 0, y4, w5, w6, y7, y8, y9, y10, y11, y12, w13, out, outD, hv, hg, hp, hrg, htx, hbl, hP, hD⟩ hS (lv_sub hl [0, 1, 2, 3, 4, 5] rfl)
  · refine lv_aload_n hx hb dL_law_1629 rfl (lv_at hl 1 rfl) ?_
    refine mu_compi (wcs := [(wPCo p70 b7 c7 d7 e7 h7 k7 st), (wSet cy b7 v), (wSav cy q h7 z), (wSet cy (q 0) s0), (wSet cy (q 1) s1), (wSet cy (q 2) s2), (wSet cy (q 3) s3), (wTxt cy g k7 tx)]) (wns := fun u8 => [(wPCo p70 b7 c7 d7 e7 h7 k7 u8.1), (wSet cy b7 u8.2.1), (wSav cy q h7 u8.2.2.1), (wSet cy (q 0) u8.2.2.2.1), (wSet cy (q 1) u8.2.2.2.2.1), (wSet cy (q 2) u8.2.2.2.2.2.1), (wSet cy (q 3) u8.2.2.2.2.2.2.1), (wTxt cy g k7 u8.2.2.2.2.2.2.2)]) (W2 := fun u8 => (LWL cy g p70 b7 c7 d7 e7 h7 k7 q ma o od u8.1 u8.2.1 w v2 w2 u8.2.2.1 u8.2.2.2.1 u8.2.2.2.2.1 u8.2.2.2.2.2.1 u8.2.2.2.2.2.2.1 u8.2.2.2.2.2.2.2 y0 0 y2 y3 y4 y5 y6 y7 y8 y9 y10 y11 y12 y13 out outD)) (va_runV (C := RX7) (As := []) (rest := []) S (c_X7_runCommands l D cy g s.heap.size p70 b7 c7 d7 e7 h7 k7 q st v z s0 s1 s2 s3 tx) (cwV 0 hts gL_law_X7_runCommands rfl rfl rfl hd_X7_runCommands_V ⟨Nat.le_of_ble_eq_true rfl, Nat.le_of_ble_eq_true rfl⟩) ⟨muP_blind, va_recv hK0.1 hP (ci := 5) (q0 := 0) rfl rfl, my_preC (wcs := [(wPCo p70 b7 c7 d7 e7 h7 k7 st), (wSet cy b7 v), (wSav cy q h7 z), (wSet cy (q 0) s0), (wSet cy (q 1) s1), (wSet cy (q 2) s2), (wSet cy (q 3) s3), (wTxt cy g k7 tx)]) hK0 hS hAB hP hD [0, 1, 5, 6, 7, 8, 9, 10] (by decide) rfl rfl⟩ rfl rfl hl.1 rfl (lv_room (Nat.le_of_ble_eq_true rfl)) dL_law_1630 ⟨(show cells ≤ 601024 by omega), (show slots ≤ 7293033 by omega)⟩) hS hP hD [0, 1, 5, 6, 7, 8, 9, 10] rfl rfl (fun _ => rfl) (fun _ => by simp only [List.map_cons, List.map_nil, adrSet, adrSetE, adrPow, adrPowE, adrTxt, adrTxtE, adrSav, adrSavE, adrPCo, adrMod, adrModE, adrL, adrDb]) (fun _ => rfl) (fun r9 u9 H locs hw hP hD hS => ?_)
    obtain ⟨rfl, rfl⟩ := Prod.mk.inj (e1.symm.trans hw)
    have hP : va_P D vwCl (LW cy g p70 b7 c7 d7 e7 h7 k7 q ma o od 1 u.1 w v2 w2 u.2.1 u.2.2.1 u.2.2.2.1 u.2.2.2.2.1 u.2.2.2.2.2 (tx.1, p9, f9, g9, c9, tx.2.2.2.2.2) y0 0 y2 y3 y4 y5 y6 y7 y8 y9 y10 y11 y12 y13 out outD) H := hP
    have hD : va_D (fun q => s.heap.size ≤ q) (LW cy g p70 b7 c7 d7 e7 h7 k7 q ma o od 1 u.1 w v2 w2 u.2.1 u.2.2.1 u.2.2.2.1 u.2.2.2.2.1 u.2.2.2.2.2 (tx.1, p9, f9, g9, c9, tx.2.2.2.2.2) y0 0 y2 y3 y4 y5 y6 y7 y8 y9 y10 y11 y12 y13 out outD) := hD
    refine lv_aload_n hx hb dL_law_1633 rfl (lv_at hl 2 rfl) ?_
    refine mu_compi (wcs := [(wModE cy ma y0 0 y2 y3 y4 y5 y6 y7 y8 y9 y10 y11 y12 y13)]) (wns := fun u8 => [(wModE cy ma u8.1 u8.2.1 y2 u8.2.2.1 y4 u8.2.2.2.1 u8.2.2.2.2.1 u8.2.2.2.2.2.1 u8.2.2.2.2.2.2.1 y9 y10 y11 y12 u8.2.2.2.2.2.2.2)]) (W2 := fun u8 => (LWL cy g p70 b7 c7 d7 e7 h7 k7 q ma o od 1 u.1 w v2 w2 u.2.1 u.2.2.1 u.2.2.2.1 u.2.2.2.2.1 u.2.2.2.2.2 (tx.1, p9, f9, g9, c9, tx.2.2.2.2.2) u8.1 u8.2.1 y2 u8.2.2.1 y4 u8.2.2.2.1 u8.2.2.2.2.1 u8.2.2.2.2.2.1 u8.2.2.2.2.2.2.1 y9 y10 y11 y12 u8.2.2.2.2.2.2.2 out outD)) (va_runV (C := RX8) (As := []) (rest := [.int r]) S (c_X8_runCommands l D cy g s.heap.size ma y0 0 y2 y3 y4 y5 y6 y7 y8 y9 y10 y11 y12 y13  (ringf hrg).1 (ringf hrg).2 (GSf hg).1 (GSf hg).2.2.1 (GSf hg).2.1 (GSf hg).2.2.2 (txf htx).1 (txf htx).2) (cwV 0 hts gL_law_X8_runCommands rfl rfl rfl hd_X8_runCommands_V ⟨Nat.le_of_ble_eq_true rfl, Nat.le_of_ble_eq_true rfl⟩) ⟨muP_blind, va_recv hK0.1 hP (ci := 6) (q0 := 90) rfl rfl, my_preC (wcs := [(wModE cy ma y0 0 y2 y3 y4 y5 y6 y7 y8 y9 y10 y11 y12 y13)]) hK0 hS hAB hP hD [11] (by decide) rfl (List.append_nil _)⟩ rfl rfl hl.1 rfl (lv_room (Nat.le_of_ble_eq_true rfl)) dL_law_1634 ⟨(show cells ≤ 601024 by omega), (show slots ≤ 7293033 by omega)⟩) hS hP hD [11] rfl (List.append_nil _) (fun _ => List.append_nil _) (fun _ => by simp only [List.map_cons, List.map_nil, adrSet, adrSetE, adrPow, adrPowE, adrTxt, adrTxtE, adrSav, adrSavE, adrPCo, adrMod, adrModE, adrL, adrDb]) (fun _ => rfl) (fun r9 u9 H locs hw hP hD hS => ?_)
    obtain ⟨rfl, rfl⟩ := Prod.mk.inj (e4.symm.trans hw)
    have hP : va_P D vwCl (LW cy g p70 b7 c7 d7 e7 h7 k7 q ma o od 1 u.1 w v2 w2 u.2.1 u.2.2.1 u.2.2.2.1 u.2.2.2.2.1 u.2.2.2.2.2 (tx.1, p9, f9, g9, c9, tx.2.2.2.2.2) pp.1 0 y2 0 y4 w5 w6 pp.2.1 pp.2.2 y9 y10 y11 y12 w13 out outD) H := hP
    have hD : va_D (fun q => s.heap.size ≤ q) (LW cy g p70 b7 c7 d7 e7 h7 k7 q ma o od 1 u.1 w v2 w2 u.2.1 u.2.2.1 u.2.2.2.1 u.2.2.2.2.1 u.2.2.2.2.2 (tx.1, p9, f9, g9, c9, tx.2.2.2.2.2) pp.1 0 y2 0 y4 w5 w6 pp.2.1 pp.2.2 y9 y10 y11 y12 w13 out outD) := hD
    refine lv_icmp_eq (tgt := 1700) hx hb dL_law_1637 (by decide) (fun _ => ?_) (fun h9 => absurd rfl h9)
    refine W.widen (k := cells + 2) (n := slots + 12) (by omega) (by omega) ?_
    exact K H locs ls ⟨1, u.1, w, v2, w2, u.2.1, u.2.2.1, u.2.2.2.1, u.2.2.2.2.1, u.2.2.2.2.2, (tx.1, p9, f9, g9, c9, tx.2.2.2.2.2), pp.1, y2, 0, y4, w5, w6, pp.2.1, pp.2.2, y9, y10, y11, y12, w13, out, outD, e5.1, e5.2.1, pwr_1 _ _, e5.2.2, htx, hbl, hP, hD⟩ hS (lv_sub hl [0, 1, 2, 3, 4, 5] rfl)
set_option maxHeartbeats 4000000 in
set_option maxRecDepth 100000 in
theorem law_undo (C : LC p l e s m meth c b L xs D cy g) (hc : cells ≤ 590000) (hs : slots ≤ 7000000) (h1 : vp_in (i + 1) L) (h2 : vp_in (i + 2) L) (hI : LInv D cy g p70 b7 c7 d7 e7 h7 k7 q ma o od s.heap.size H) (hS : va_S (fun q => s.heap.size ≤ q) s.heap H locs) (hl : lv_has ls 9 [(0, .ref b), (1, .ref p70), (2, .ref (ma 0)), (3, .ref o), (4, .ref od), (5, .int i)])
    (K : ∀ (H : Heap) (locs : List Loc) (ls : Array Slot), LInv D cy g p70 b7 c7 d7 e7 h7 k7 q ma o od s.heap.size H → va_S (fun q => s.heap.size ≤ q) s.heap H locs → lv_has ls 9 [(0, .ref b), (1, .ref p70), (2, .ref (ma 0)), (3, .ref o), (4, .ref od), (5, .int i)] → W p l e room_1 s m #[Value.ref b] below meth c H locs (cells + 2) (slots + 12) Q (F0 m 1700 ls [])) : W p l e room_1 s m #[Value.ref b] below meth c H locs cells slots Q (F0 m 1642 ls []) := by
  obtain ⟨hl0, hx, hb, hr, hml, hown, hts, hX, hbl0, hlocks, hK0, hNc, hL⟩ := C
  obtain ⟨st, v, w, v2, w2, z, s0, s1, s2, s3, tx, y0, y2, y3, y4, y5, y6, y7, y8, y9, y10, y11, y12, y13, out, outD, hv, hg, hp, hrg, htx, hbl, hP, hD⟩ := hI
  have S := my_fix hx hb hml hown hts
  have hAB : ∀ q : Nat, s.heap.size ≤ q → s.heap.size ≤ q := fun _ h => h
  have hbA : ¬ s.heap.size ≤ b := Nat.not_le.mpr hbl0
  rcases O_undo (v := v) (s := y7) hrg st with ⟨e1, e4⟩ | ⟨r, v9, z9, s9, e1, e4, e5, e6, e8⟩
  · have hne : ¬ ((fun _ : Int32 => (1 : Int32)) 3) = 0 := by decide
    refine lv_aload_n hx hb dL_law_1642 rfl (lv_at hl 1 rfl) ?_
    refine lv_aload_n hx hb dL_law_1643 rfl (lv_at hl 3 rfl) ?_
    refine lw_compi (wcs := [(wPCo p70 b7 c7 d7 e7 h7 k7 st), (wSet cy b7 v), (wSav cy q h7 z), (wSet cy (q 0) s0), (wSet cy (q 1) s1), (wSet cy (q 2) s2), (wSet cy (q 3) s3), (wL cy o out)]) (wns := fun u8 => [(wPCo p70 b7 c7 d7 e7 h7 k7 u8.1.1), (wSet cy b7 u8.1.2.1), (wSav cy q h7 u8.1.2.2.1), (wSet cy (q 0) u8.1.2.2.2.1), (wSet cy (q 1) u8.1.2.2.2.2.1), (wSet cy (q 2) u8.1.2.2.2.2.2.1), (wSet cy (q 3) u8.1.2.2.2.2.2.2), (wL cy o u8.2)]) (W2 := fun u8 => (LWL cy g p70 b7 c7 d7 e7 h7 k7 q ma o od u8.1.1 u8.1.2.1 w v2 w2 u8.1.2.2.1 u8.1.2.2.2.1 u8.1.2.2.2.2.1 u8.1.2.2.2.2.2.1 u8.1.2.2.2.2.2.2 tx y0 0 y2 y3 y4 y5 y6 y7 y8 y9 y10 y11 y12 y13 u8.2 outD)) (vx_runSW (As := [.ref p70, .ref o]) (rest := []) S (c_L_undo l hl0 D cy g s.heap.size p70 b7 c7 d7 e7 h7 k7 q st v z s0 s1 s2 s3 o out (fun k h => k_undo h)) (vx_cwSW 2 hts gL_law_L_undo rfl rfl rfl hd_L_undo_S ⟨Nat.le_of_ble_eq_true rfl, Nat.le_of_ble_eq_true rfl⟩) ⟨lwP_blind, my_preL (wcs := [(wPCo p70 b7 c7 d7 e7 h7 k7 st), (wSet cy b7 v), (wSav cy q h7 z), (wSet cy (q 0) s0), (wSet cy (q 1) s1), (wSet cy (q 2) s2), (wSet cy (q 3) s3), (wL cy o out)]) hK0 hNc hS hAB hP hD [0, 1, 5, 6, 7, 8, 9, 12] (by decide) rfl rfl⟩ rfl rfl hl.1 rfl (lv_room (Nat.le_of_ble_eq_true rfl)) dL_law_1644 ⟨(show cells + 1 ≤ 601024 by omega), (show slots + 6 ≤ 7293033 by omega)⟩) hS hP hD [0, 1, 5, 6, 7, 8, 9, 12] rfl rfl (fun _ => rfl) (fun _ => by simp only [List.map_cons, List.map_nil, adrSet, adrSetE, adrPow, adrPowE, adrTxt, adrTxtE, adrSav, adrSavE, adrPCo, adrMod, adrModE, adrL, adrDb]) (fun _ => rfl) (fun r9 u9 H locs hw hP hD hS => ?_)
    obtain ⟨rfl, rfl⟩ := Prod.mk.inj ((wrI_l e1).symm.trans hw)
    have hP : va_P D vwCl (LW cy g p70 b7 c7 d7 e7 h7 k7 q ma o od st v w v2 w2 z s0 s1 s2 s3 tx y0 0 y2 y3 y4 y5 y6 y7 y8 y9 y10 y11 y12 y13 out outD) H := hP
    have hD : va_D (fun q => s.heap.size ≤ q) (LW cy g p70 b7 c7 d7 e7 h7 k7 q ma o od st v w v2 w2 z s0 s1 s2 s3 tx y0 0 y2 y3 y4 y5 y6 y7 y8 y9 y10 y11 y12 y13 out outD) := hD
    refine lv_istore (lv' := [(6, .int ((fun _ : Int32 => (1 : Int32)) 3)), (0, .ref b), (1, .ref p70), (2, .ref (ma 0)), (3, .ref o), (4, .ref od), (5, .int i)]) hx hb dL_law_1647 hl (by decide) rfl (fun ls hl => ?_)
    refine lv_aload_n hx hb dL_law_1649 rfl (lv_at hl 3 rfl) ?_
    refine mu_compi (wcs := [(wModE cy ma y0 0 y2 y3 y4 y5 y6 y7 y8 y9 y10 y11 y12 y13)]) (wns := fun u8 => [(wModE cy ma u8.1 0 y2 u8.2.1 y4 y5 y6 u8.2.2 y8 y9 y10 y11 y12 y13)]) (W2 := fun u8 => (LWL cy g p70 b7 c7 d7 e7 h7 k7 q ma o od st v w v2 w2 z s0 s1 s2 s3 tx u8.1 0 y2 u8.2.1 y4 y5 y6 u8.2.2 y8 y9 y10 y11 y12 y13 out outD)) (va_runV (C := RX8) (As := []) (rest := []) S (c_X8_undo l D cy g s.heap.size ma y0 0 y2 y3 y4 y5 y6 y7 y8 y9 y10 y11 y12 y13  (ringf hrg).1 (ringf hrg).2) (cwV 0 hts gL_law_X8_undo rfl rfl rfl hd_X8_undo_V ⟨Nat.le_of_ble_eq_true rfl, Nat.le_of_ble_eq_true rfl⟩) ⟨muP_blind, va_recv hK0.1 hP (ci := 6) (q0 := 90) rfl rfl, my_preC (wcs := [(wModE cy ma y0 0 y2 y3 y4 y5 y6 y7 y8 y9 y10 y11 y12 y13)]) hK0 hS hAB hP hD [11] (by decide) rfl (List.append_nil _)⟩ rfl rfl hl.1 rfl (lv_room (Nat.le_of_ble_eq_true rfl)) dL_law_1650 ⟨(show cells + 1 ≤ 601024 by omega), (show slots + 6 ≤ 7293033 by omega)⟩) hS hP hD [11] rfl (List.append_nil _) (fun _ => List.append_nil _) (fun _ => by simp only [List.map_cons, List.map_nil, adrSet, adrSetE, adrPow, adrPowE, adrTxt, adrTxtE, adrSav, adrSavE, adrPCo, adrMod, adrModE, adrL, adrDb]) (fun _ => rfl) (fun r9 u9 H locs hw hP hD hS => ?_)
    obtain ⟨rfl, rfl⟩ := Prod.mk.inj (e4.symm.trans hw)
    have hP : va_P D vwCl (LW cy g p70 b7 c7 d7 e7 h7 k7 q ma o od st v w v2 w2 z s0 s1 s2 s3 tx y0 0 y2 1 y4 y5 y6 y7 y8 y9 y10 y11 y12 y13 out outD) H := hP
    have hD : va_D (fun q => s.heap.size ≤ q) (LW cy g p70 b7 c7 d7 e7 h7 k7 q ma o od st v w v2 w2 z s0 s1 s2 s3 tx y0 0 y2 1 y4 y5 y6 y7 y8 y9 y10 y11 y12 y13 out outD) := hD
    refine lv_istore (lv' := [(7, .int 0), (6, .int ((fun _ : Int32 => (1 : Int32)) 3)), (0, .ref b), (1, .ref p70), (2, .ref (ma 0)), (3, .ref o), (4, .ref od), (5, .int i)]) hx hb dL_law_1653 hl (by decide) rfl (fun ls hl => ?_)
    refine lv_aload_n hx hb dL_law_1655 rfl (lv_at hl 4 rfl) ?_
    refine rd_goi (va_runV (C := RX8) (As := []) (rest := []) S (c_X8_thrown l D cy g s.heap.size ma y0 0 y2 1 y4 y5 y6 y7 y8 y9 y10 y11 y12 y13) (cwV 0 hts gL_law_X8_thrown rfl rfl rfl hd_X8_thrown_V ⟨Nat.le_of_ble_eq_true rfl, Nat.le_of_ble_eq_true rfl⟩) ⟨rdP_blind, va_recv hK0.1 hP (ci := 6) (q0 := 90) rfl rfl, my_preV hK0 hS hAB hP [90, 91, 92, 93, 94, 95, 96, 97] rfl⟩ rfl rfl hl.1 rfl (lv_room (Nat.le_of_ble_eq_true rfl)) dL_law_1656 ⟨(show cells + 1 ≤ 601024 by omega), (show slots + 6 ≤ 7293033 by omega)⟩) ?_
    refine lv_iload hx hb dL_law_1659 (lv_at hl 1 rfl) ?_
    refine lv_icmp_eq (tgt := 1666) hx hb dL_law_1661 (by decide) (fun _ => ?_) (fun h9 => absurd (show ((f_X8_thrown 1) : Int32) = ((fun _ : Int32 => (1 : Int32)) 3) from rfl) h9)
    refine lv_iload hx hb dL_law_1666 (lv_at hl 1 rfl) ?_
    refine lv_if_ne (tgt := 1683) hx hb dL_law_1668 (by decide) (fun _ => ?_) (fun h9 => absurd h9 hne)
    refine lv_goto (tgt := 1700) hx hb dL_law_1683 (by decide) ?_
    refine W.widen (k := cells + 2) (n := slots + 12) (by omega) (by omega) ?_
    exact K H locs ls ⟨st, v, w, v2, w2, z, s0, s1, s2, s3, tx, y0, y2, 1, y4, y5, y6, y7, y8, y9, y10, y11, y12, y13, out, outD, hv, hg, hp, hrg, htx, hbl, hP, hD⟩ hS (lv_sub hl [2, 3, 4, 5, 6, 7] rfl)
  · refine lv_aload_n hx hb dL_law_1642 rfl (lv_at hl 1 rfl) ?_
    refine lv_aload_n hx hb dL_law_1643 rfl (lv_at hl 3 rfl) ?_
    refine lw_compi (wcs := [(wPCo p70 b7 c7 d7 e7 h7 k7 st), (wSet cy b7 v), (wSav cy q h7 z), (wSet cy (q 0) s0), (wSet cy (q 1) s1), (wSet cy (q 2) s2), (wSet cy (q 3) s3), (wL cy o out)]) (wns := fun u8 => [(wPCo p70 b7 c7 d7 e7 h7 k7 u8.1.1), (wSet cy b7 u8.1.2.1), (wSav cy q h7 u8.1.2.2.1), (wSet cy (q 0) u8.1.2.2.2.1), (wSet cy (q 1) u8.1.2.2.2.2.1), (wSet cy (q 2) u8.1.2.2.2.2.2.1), (wSet cy (q 3) u8.1.2.2.2.2.2.2), (wL cy o u8.2)]) (W2 := fun u8 => (LWL cy g p70 b7 c7 d7 e7 h7 k7 q ma o od u8.1.1 u8.1.2.1 w v2 w2 u8.1.2.2.1 u8.1.2.2.2.1 u8.1.2.2.2.2.1 u8.1.2.2.2.2.2.1 u8.1.2.2.2.2.2.2 tx y0 0 y2 y3 y4 y5 y6 y7 y8 y9 y10 y11 y12 y13 u8.2 outD)) (vx_runSW (As := [.ref p70, .ref o]) (rest := []) S (c_L_undo l hl0 D cy g s.heap.size p70 b7 c7 d7 e7 h7 k7 q st v z s0 s1 s2 s3 o out (fun k h => k_undo h)) (vx_cwSW 2 hts gL_law_L_undo rfl rfl rfl hd_L_undo_S ⟨Nat.le_of_ble_eq_true rfl, Nat.le_of_ble_eq_true rfl⟩) ⟨lwP_blind, my_preL (wcs := [(wPCo p70 b7 c7 d7 e7 h7 k7 st), (wSet cy b7 v), (wSav cy q h7 z), (wSet cy (q 0) s0), (wSet cy (q 1) s1), (wSet cy (q 2) s2), (wSet cy (q 3) s3), (wL cy o out)]) hK0 hNc hS hAB hP hD [0, 1, 5, 6, 7, 8, 9, 12] (by decide) rfl rfl⟩ rfl rfl hl.1 rfl (lv_room (Nat.le_of_ble_eq_true rfl)) dL_law_1644 ⟨(show cells + 1 ≤ 601024 by omega), (show slots + 6 ≤ 7293033 by omega)⟩) hS hP hD [0, 1, 5, 6, 7, 8, 9, 12] rfl rfl (fun _ => rfl) (fun _ => by simp only [List.map_cons, List.map_nil, adrSet, adrSetE, adrPow, adrPowE, adrTxt, adrTxtE, adrSav, adrSavE, adrPCo, adrMod, adrModE, adrL, adrDb]) (fun _ => rfl) (fun r9 u9 H locs hw hP hD hS => ?_)
    obtain ⟨rfl, rfl⟩ := Prod.mk.inj ((wrI_r e1).symm.trans hw)
    have hP : va_P D vwCl (LW cy g p70 b7 c7 d7 e7 h7 k7 q ma o od 1 v9 w v2 w2 z9 s0 s1 s2 s3 tx y0 0 y2 y3 y4 y5 y6 y7 y8 y9 y10 y11 y12 y13 (vp_updL out 0 (Int32.toInt64 r)) outD) H := hP
    have hD : va_D (fun q => s.heap.size ≤ q) (LW cy g p70 b7 c7 d7 e7 h7 k7 q ma o od 1 v9 w v2 w2 z9 s0 s1 s2 s3 tx y0 0 y2 y3 y4 y5 y6 y7 y8 y9 y10 y11 y12 y13 (vp_updL out 0 (Int32.toInt64 r)) outD) := hD
    refine lv_istore (lv' := [(6, .int 0), (0, .ref b), (1, .ref p70), (2, .ref (ma 0)), (3, .ref o), (4, .ref od), (5, .int i)]) hx hb dL_law_1647 hl (by decide) rfl (fun ls hl => ?_)
    refine lv_aload_n hx hb dL_law_1649 rfl (lv_at hl 3 rfl) ?_
    refine mu_compi (wcs := [(wModE cy ma y0 0 y2 y3 y4 y5 y6 y7 y8 y9 y10 y11 y12 y13)]) (wns := fun u8 => [(wModE cy ma u8.1 0 y2 u8.2.1 y4 y5 y6 u8.2.2 y8 y9 y10 y11 y12 y13)]) (W2 := fun u8 => (LWL cy g p70 b7 c7 d7 e7 h7 k7 q ma o od 1 v9 w v2 w2 z9 s0 s1 s2 s3 tx u8.1 0 y2 u8.2.1 y4 y5 y6 u8.2.2 y8 y9 y10 y11 y12 y13 (vp_updL out 0 (Int32.toInt64 r)) outD)) (va_runV (C := RX8) (As := []) (rest := []) S (c_X8_undo l D cy g s.heap.size ma y0 0 y2 y3 y4 y5 y6 y7 y8 y9 y10 y11 y12 y13  (ringf hrg).1 (ringf hrg).2) (cwV 0 hts gL_law_X8_undo rfl rfl rfl hd_X8_undo_V ⟨Nat.le_of_ble_eq_true rfl, Nat.le_of_ble_eq_true rfl⟩) ⟨muP_blind, va_recv hK0.1 hP (ci := 6) (q0 := 90) rfl rfl, my_preC (wcs := [(wModE cy ma y0 0 y2 y3 y4 y5 y6 y7 y8 y9 y10 y11 y12 y13)]) hK0 hS hAB hP hD [11] (by decide) rfl (List.append_nil _)⟩ rfl rfl hl.1 rfl (lv_room (Nat.le_of_ble_eq_true rfl)) dL_law_1650 ⟨(show cells + 1 ≤ 601024 by omega), (show slots + 6 ≤ 7293033 by omega)⟩) hS hP hD [11] rfl (List.append_nil _) (fun _ => List.append_nil _) (fun _ => by simp only [List.map_cons, List.map_nil, adrSet, adrSetE, adrPow, adrPowE, adrTxt, adrTxtE, adrSav, adrSavE, adrPCo, adrMod, adrModE, adrL, adrDb]) (fun _ => rfl) (fun r9 u9 H locs hw hP hD hS => ?_)
    obtain ⟨rfl, rfl⟩ := Prod.mk.inj (e4.symm.trans hw)
    have hP : va_P D vwCl (LW cy g p70 b7 c7 d7 e7 h7 k7 q ma o od 1 v9 w v2 w2 z9 s0 s1 s2 s3 tx r 0 y2 0 y4 y5 y6 s9 y8 y9 y10 y11 y12 y13 (vp_updL out 0 (Int32.toInt64 r)) outD) H := hP
    have hD : va_D (fun q => s.heap.size ≤ q) (LW cy g p70 b7 c7 d7 e7 h7 k7 q ma o od 1 v9 w v2 w2 z9 s0 s1 s2 s3 tx r 0 y2 0 y4 y5 y6 s9 y8 y9 y10 y11 y12 y13 (vp_updL out 0 (Int32.toInt64 r)) outD) := hD
    refine lv_istore (lv' := [(7, .int r), (6, .int 0), (0, .ref b), (1, .ref p70), (2, .ref (ma 0)), (3, .ref o), (4, .ref od), (5, .int i)]) hx hb dL_law_1653 hl (by decide) rfl (fun ls hl => ?_)
    refine lv_aload_n hx hb dL_law_1655 rfl (lv_at hl 4 rfl) ?_
    refine rd_goi (va_runV (C := RX8) (As := []) (rest := []) S (c_X8_thrown l D cy g s.heap.size ma r 0 y2 0 y4 y5 y6 s9 y8 y9 y10 y11 y12 y13) (cwV 0 hts gL_law_X8_thrown rfl rfl rfl hd_X8_thrown_V ⟨Nat.le_of_ble_eq_true rfl, Nat.le_of_ble_eq_true rfl⟩) ⟨rdP_blind, va_recv hK0.1 hP (ci := 6) (q0 := 90) rfl rfl, my_preV hK0 hS hAB hP [90, 91, 92, 93, 94, 95, 96, 97] rfl⟩ rfl rfl hl.1 rfl (lv_room (Nat.le_of_ble_eq_true rfl)) dL_law_1656 ⟨(show cells + 1 ≤ 601024 by omega), (show slots + 6 ≤ 7293033 by omega)⟩) ?_
    refine lv_iload hx hb dL_law_1659 (lv_at hl 1 rfl) ?_
    refine lv_icmp_eq (tgt := 1666) hx hb dL_law_1661 (by decide) (fun _ => ?_) (fun h9 => absurd (show ((f_X8_thrown 0) : Int32) = 0 from rfl) h9)
    refine lv_iload hx hb dL_law_1666 (lv_at hl 1 rfl) ?_
    refine lv_if_ne (tgt := 1683) hx hb dL_law_1668 (by decide) (fun h9 => absurd rfl h9) (fun _ => ?_)
    refine lv_aload_n hx hb dL_law_1671 rfl (lv_at hl 5 rfl) ?_
    refine lv_iconst (v := 0) hx hb dL_law_1672 (by decide) ?_
    refine va_lald hx hb hK0.1 hP 98 3 rfl rfl (i := 0) (show ¬ ((0 : Int32) < 0 ∨ 1 ≤ (0 : Int32).toNatClampNeg) by decide) dL_law_1673 ?_
    refine lv_iload hx hb dL_law_1674 (lv_at hl 0 rfl) ?_
    refine lv_i2l (v := (Int32.toInt64 r)) hx hb dL_law_1676 rfl ?_
    refine W.lcmp hx hb dL_law_1677 ?_
    refine lv_if_eq (tgt := 1683) hx hb dL_law_1678 (by decide) (fun _ => ?_) (fun h9 => absurd ((lg_cmp_eq _ _).mpr rfl) h9)
    refine lv_goto (tgt := 1700) hx hb dL_law_1683 (by decide) ?_
    refine W.widen (k := cells + 2) (n := slots + 12) (by omega) (by omega) ?_
    exact K H locs ls ⟨1, v9, w, v2, w2, z9, s0, s1, s2, s3, tx, r, y2, 0, y4, y5, y6, s9, y8, y9, y10, y11, y12, y13, (vp_updL out 0 (Int32.toInt64 r)), outD, e5, e6, pwr_1 _ _, e8, htx, hbl, hP, hD⟩ hS (lv_sub hl [2, 3, 4, 5, 6, 7] rfl)
set_option maxHeartbeats 4000000 in
set_option maxRecDepth 100000 in
theorem law_digest (C : LC p l e s m meth c b L xs D cy g) (hc : cells ≤ 590000) (hs : slots ≤ 7000000) (h1 : vp_in (i + 1) L) (h2 : vp_in (i + 2) L) (hI : LInv D cy g p70 b7 c7 d7 e7 h7 k7 q ma o od s.heap.size H) (hS : va_S (fun q => s.heap.size ≤ q) s.heap H locs) (hl : lv_has ls 9 [(0, .ref b), (1, .ref p70), (2, .ref (ma 0)), (3, .ref o), (4, .ref od), (5, .int i)])
    (K : ∀ (H : Heap) (locs : List Loc) (ls : Array Slot), LInv D cy g p70 b7 c7 d7 e7 h7 k7 q ma o od s.heap.size H → va_S (fun q => s.heap.size ≤ q) s.heap H locs → lv_has ls 9 [(0, .ref b), (1, .ref p70), (2, .ref (ma 0)), (3, .ref o), (4, .ref od), (5, .int i)] → W p l e room_1 s m #[Value.ref b] below meth c H locs (cells + 2) (slots + 12) Q (F0 m 1700 ls [])) : W p l e room_1 s m #[Value.ref b] below meth c H locs cells slots Q (F0 m 1686 ls []) := by
  obtain ⟨hl0, hx, hb, hr, hml, hown, hts, hX, hbl0, hlocks, hK0, hNc, hL⟩ := C
  obtain ⟨st, v, w, v2, w2, z, s0, s1, s2, s3, tx, y0, y2, y3, y4, y5, y6, y7, y8, y9, y10, y11, y12, y13, out, outD, hv, hg, hp, hrg, htx, hbl, hP, hD⟩ := hI
  have S := my_fix hx hb hml hown hts
  have hAB : ∀ q : Nat, s.heap.size ≤ q → s.heap.size ≤ q := fun _ h => h
  have hbA : ¬ s.heap.size ≤ b := Nat.not_le.mpr hbl0
  obtain ⟨r, u, pp, e1, e4, e5, e6⟩ := R_digest hv hg hp hbl z tx
  rw [ringz hrg, txf1 htx] at e4
  refine lv_aload_n hx hb dL_law_1686 rfl (lv_at hl 1 rfl) ?_
  refine lw_gol (wcs := [(wPCo p70 b7 c7 d7 e7 h7 k7 st), (wSet cy b7 v), (wPow cy c7 w), (wSav cy q h7 z), (wTxt cy g k7 tx)]) (wns := fun u8 => [(wPCo p70 b7 c7 d7 e7 h7 k7 u8.1), (wSet cy b7 v), (wPow cy c7 u8.2), (wSav cy q h7 z), (wTxt cy g k7 tx)]) (W2 := fun u8 => (LWL cy g p70 b7 c7 d7 e7 h7 k7 q ma o od u8.1 v u8.2 v2 w2 z s0 s1 s2 s3 tx y0 0 y2 y3 y4 y5 y6 y7 y8 y9 y10 y11 y12 y13 out outD)) (va_runV (C := RX7) (As := []) (rest := []) S (c_X7_digest l D cy g s.heap.size p70 b7 c7 d7 e7 h7 k7 q st v w z tx) (cwV 0 hts gL_law_X7_digest rfl rfl rfl hd_X7_digest_V ⟨Nat.le_of_ble_eq_true rfl, Nat.le_of_ble_eq_true rfl⟩) ⟨muP_blind, va_recv hK0.1 hP (ci := 5) (q0 := 0) rfl rfl, my_preC (wcs := [(wPCo p70 b7 c7 d7 e7 h7 k7 st), (wSet cy b7 v), (wPow cy c7 w), (wSav cy q h7 z), (wTxt cy g k7 tx)]) hK0 hS hAB hP hD [0, 1, 2, 5, 10] (by decide) rfl rfl⟩ rfl rfl hl.1 rfl (lv_room (Nat.le_of_ble_eq_true rfl)) dL_law_1687 ⟨(show cells ≤ 601024 by omega), (show slots ≤ 7293033 by omega)⟩) hS hP hD [0, 1, 2, 5, 10] rfl rfl (fun _ => rfl) (fun _ => by simp only [List.map_cons, List.map_nil, adrSet, adrSetE, adrPow, adrPowE, adrTxt, adrTxtE, adrSav, adrSavE, adrPCo, adrMod, adrModE, adrL, adrDb]) (fun _ => rfl) (fun r9 u9 H locs hw hP hD hS => ?_)
  obtain ⟨rfl, rfl⟩ := Prod.mk.inj (e1.symm.trans hw)
  have hP : va_P D vwCl (LW cy g p70 b7 c7 d7 e7 h7 k7 q ma o od u.1 v u.2 v2 w2 z s0 s1 s2 s3 tx y0 0 y2 y3 y4 y5 y6 y7 y8 y9 y10 y11 y12 y13 out outD) H := hP
  have hD : va_D (fun q => s.heap.size ≤ q) (LW cy g p70 b7 c7 d7 e7 h7 k7 q ma o od u.1 v u.2 v2 w2 z s0 s1 s2 s3 tx y0 0 y2 y3 y4 y5 y6 y7 y8 y9 y10 y11 y12 y13 out outD) := hD
  refine lv_aload_n hx hb dL_law_1690 rfl (lv_at hl 2 rfl) ?_
  refine lw_gol (wcs := [(wModE cy ma y0 0 y2 y3 y4 y5 y6 y7 y8 y9 y10 y11 y12 y13)]) (wns := fun u8 => [(wModE cy ma y0 0 y2 u8.1 u8.2.1 y5 y6 y7 y8 y9 u8.2.2 y11 y12 y13)]) (W2 := fun u8 => (LWL cy g p70 b7 c7 d7 e7 h7 k7 q ma o od u.1 v u.2 v2 w2 z s0 s1 s2 s3 tx y0 0 y2 u8.1 u8.2.1 y5 y6 y7 y8 y9 u8.2.2 y11 y12 y13 out outD)) (va_runV (C := RX8) (As := []) (rest := [.long r]) S (c_X8_digest l D cy g s.heap.size ma y0 0 y2 y3 y4 y5 y6 y7 y8 y9 y10 y11 y12 y13  (GSf hg).1 (GSf hg).2.2.1 hbl (GSf hg).2.2.2) (cwV 0 hts gL_law_X8_digest rfl rfl rfl hd_X8_digest_V ⟨Nat.le_of_ble_eq_true rfl, Nat.le_of_ble_eq_true rfl⟩) ⟨muP_blind, va_recv hK0.1 hP (ci := 6) (q0 := 90) rfl rfl, my_preC (wcs := [(wModE cy ma y0 0 y2 y3 y4 y5 y6 y7 y8 y9 y10 y11 y12 y13)]) hK0 hS hAB hP hD [11] (by decide) rfl (List.append_nil _)⟩ rfl rfl hl.1 rfl (lv_room (Nat.le_of_ble_eq_true rfl)) dL_law_1691 ⟨(show cells ≤ 601024 by omega), (show slots ≤ 7293033 by omega)⟩) hS hP hD [11] rfl (List.append_nil _) (fun _ => List.append_nil _) (fun _ => by simp only [List.map_cons, List.map_nil, adrSet, adrSetE, adrPow, adrPowE, adrTxt, adrTxtE, adrSav, adrSavE, adrPCo, adrMod, adrModE, adrL, adrDb]) (fun _ => rfl) (fun r9 u9 H locs hw hP hD hS => ?_)
  obtain ⟨rfl, rfl⟩ := Prod.mk.inj (e4.symm.trans hw)
  have hP : va_P D vwCl (LW cy g p70 b7 c7 d7 e7 h7 k7 q ma o od u.1 v u.2 v2 w2 z s0 s1 s2 s3 tx y0 0 y2 0 pp.1 y5 y6 y7 y8 y9 pp.2 y11 y12 y13 out outD) H := hP
  have hD : va_D (fun q => s.heap.size ≤ q) (LW cy g p70 b7 c7 d7 e7 h7 k7 q ma o od u.1 v u.2 v2 w2 z s0 s1 s2 s3 tx y0 0 y2 0 pp.1 y5 y6 y7 y8 y9 pp.2 y11 y12 y13 out outD) := hD
  refine W.lcmp hx hb dL_law_1694 ?_
  refine lv_if_eq (tgt := 1700) hx hb dL_law_1695 (by decide) (fun _ => ?_) (fun h9 => absurd ((lg_cmp_eq _ _).mpr rfl) h9)
  refine W.widen (k := cells + 2) (n := slots + 12) (by omega) (by omega) ?_
  exact K H locs ls ⟨u.1, v, u.2, v2, w2, z, s0, s1, s2, s3, tx, y0, y2, 0, pp.1, y5, y6, y7, y8, y9, pp.2, y11, y12, y13, out, outD, hv, hg, e5, hrg, htx, e6, hP, hD⟩ hS (lv_sub hl [0, 1, 2, 3, 4, 5] rfl)
end LAWK
