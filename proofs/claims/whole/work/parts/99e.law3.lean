/-! part 99e: calls of the law -/
section LAWK
variable {p : Program} {l : Launch} {e : Env} {s : State} {m : MethodId} {below : List Frame} {meth : Method} {c : Code} {b L : Nat} {xs : Nat → Int32} {D : va_G} {cy : Nat → ClassId} {g : Nat → Nat} {p70 : Nat} {b7 c7 d7 e7 h7 k7 : Nat → Nat} {q : Nat → Nat → Nat} {ma : Nat → Nat} {o od : Nat} {H : Heap} {locs : List Loc} {cells slots : Nat} {Q : State → Prop} {ls : Array Slot} {i : Int32}
set_option maxHeartbeats 4000000 in
set_option maxRecDepth 100000 in
theorem law_reason (C : LC p l e s m meth c b L xs D cy g) (hc : cells ≤ 590000) (hs : slots ≤ 7000000) (h1 : vp_in (i + 1) L) (h2 : vp_in (i + 2) L) (hI : LInv D cy g p70 b7 c7 d7 e7 h7 k7 q ma o od s.heap.size H) (hS : va_S (fun q => s.heap.size ≤ q) s.heap H locs) (hl : lv_has ls 9 [(0, .ref b), (1, .ref p70), (2, .ref (ma 0)), (3, .ref o), (4, .ref od), (5, .int i)])
    (K : ∀ (H : Heap) (locs : List Loc) (ls : Array Slot), LInv D cy g p70 b7 c7 d7 e7 h7 k7 q ma o od s.heap.size H → va_S (fun q => s.heap.size ≤ q) s.heap H locs → lv_has ls 9 [(0, .ref b), (1, .ref p70), (2, .ref (ma 0)), (3, .ref o), (4, .ref od), (5, .int i)] → W p l e room_1 s m #[Value.ref b] below meth c H locs (cells + 2) (slots + 12) Q (F0 m 1700 ls [])) : W p l e room_1 s m #[Value.ref b] below meth c H locs cells slots Q (F0 m 1055 ls []) := by
  obtain ⟨hl0, hx, hb, hr, hml, hown, hts, hX, hbl0, hlocks, hK0, hNc, hL⟩ := C
  obtain ⟨st, v, w, v2, w2, z, s0, s1, s2, s3, tx, y0, y2, y3, y4, y5, y6, y7, y8, y9, y10, y11, y12, y13, out, outD, hv, hg, hp, hrg, htx, hbl, hP, hD⟩ := hI
  have S := my_fix hx hb hml hown hts
  have hAB : ∀ q : Nat, s.heap.size ≤ q → s.heap.size ≤ q := fun _ h => h
  have hbA : ¬ s.heap.size ≤ b := Nat.not_le.mpr hbl0
  rcases R_reason hv hg hp (xs (i + 1).toNatClampNeg) with ⟨f, e1, _, e4⟩ | ⟨r, u, e1, e4, e5⟩
  · have hne : ¬ ((fun _ : Int32 => (1 : Int32)) f) = 0 := (show ¬ (1 : Int32) = 0 by decide)
    refine lv_aload_n hx hb dL_law_1055 rfl (lv_at hl 1 rfl) ?_
    refine lv_aload_n hx hb dL_law_1056 rfl (lv_at hl 0 rfl) ?_
    refine lv_iload hx hb dL_law_1057 (lv_at hl 5 rfl) ?_
    refine lv_iconst (v := 1) hx hb dL_law_1059 (by decide) ?_
    refine lv_iadd hx hb dL_law_1060 ?_
    refine va_sld hx hb hX hbl0 hbA hS h1 dL_law_1061 ?_
    refine lv_aload_n hx hb dL_law_1062 rfl (lv_at hl 3 rfl) ?_
    refine lw_compi (wcs := [(wPCo p70 b7 c7 d7 e7 h7 k7 st), (wSet cy b7 v), (wPow cy c7 w), (wL cy o out)]) (wns := fun u8 => [(wPCo p70 b7 c7 d7 e7 h7 k7 u8.1.1), (wSet cy b7 v), (wPow cy c7 u8.1.2), (wL cy o u8.2)]) (W2 := fun u8 => (LWL cy g p70 b7 c7 d7 e7 h7 k7 q ma o od u8.1.1 v u8.1.2 v2 w2 z s0 s1 s2 s3 tx y0 0 y2 y3 y4 y5 y6 y7 y8 y9 y10 y11 y12 y13 u8.2 outD)) (vx_runSW (As := [.ref p70, .int (xs (i + 1).toNatClampNeg), .ref o]) (rest := []) S (c_L_reason l hl0 D cy g s.heap.size p70 b7 c7 d7 e7 h7 k7 st v w (xs (i + 1).toNatClampNeg) o out (fun k h => k_reason h)) (vx_cwSW 3 hts gL_law_L_reason rfl rfl rfl hd_L_reason_S ⟨Nat.le_of_ble_eq_true rfl, Nat.le_of_ble_eq_true rfl⟩) ⟨lwP_blind, my_preL (wcs := [(wPCo p70 b7 c7 d7 e7 h7 k7 st), (wSet cy b7 v), (wPow cy c7 w), (wL cy o out)]) hK0 hNc hS hAB hP hD [0, 1, 2, 12] (by decide) rfl rfl⟩ rfl rfl hl.1 rfl (lv_room (Nat.le_of_ble_eq_true rfl)) dL_law_1063 ⟨(show cells + 1 ≤ 601024 by omega), (show slots + 6 ≤ 7293033 by omega)⟩) hS hP hD [0, 1, 2, 12] rfl rfl (fun _ => rfl) (fun _ => by simp only [List.map_cons, List.map_nil, adrSet, adrSetE, adrPow, adrPowE, adrTxt, adrTxtE, adrSav, adrSavE, adrPCo, adrMod, adrModE, adrL, adrDb]) (fun _ => rfl) (fun r9 u9 H locs hw hP hD hS => ?_)
    obtain ⟨rfl, rfl⟩ := Prod.mk.inj ((wrI_l e1).symm.trans hw)
    have hP : va_P D vwCl (LW cy g p70 b7 c7 d7 e7 h7 k7 q ma o od st v w v2 w2 z s0 s1 s2 s3 tx y0 0 y2 y3 y4 y5 y6 y7 y8 y9 y10 y11 y12 y13 out outD) H := hP
    have hD : va_D (fun q => s.heap.size ≤ q) (LW cy g p70 b7 c7 d7 e7 h7 k7 q ma o od st v w v2 w2 z s0 s1 s2 s3 tx y0 0 y2 y3 y4 y5 y6 y7 y8 y9 y10 y11 y12 y13 out outD) := hD
    refine lv_istore (lv' := [(6, .int ((fun _ : Int32 => (1 : Int32)) f)), (0, .ref b), (1, .ref p70), (2, .ref (ma 0)), (3, .ref o), (4, .ref od), (5, .int i)]) hx hb dL_law_1066 hl (by decide) rfl (fun ls hl => ?_)
    refine lv_aload_n hx hb dL_law_1068 rfl (lv_at hl 3 rfl) ?_
    refine lv_aload_n hx hb dL_law_1069 rfl (lv_at hl 1 rfl) ?_
    refine lv_iload hx hb dL_law_1070 (lv_at hl 6 rfl) ?_
    refine lv_iconst (v := 1) hx hb dL_law_1072 (by decide) ?_
    refine lv_iadd hx hb dL_law_1073 ?_
    refine va_sld hx hb hX hbl0 hbA hS h1 dL_law_1074 ?_
    refine mu_compi (wcs := [(wModE cy ma y0 0 y2 y3 y4 y5 y6 y7 y8 y9 y10 y11 y12 y13)]) (wns := fun u8 => [(wModE cy ma y0 0 y2 u8 y4 y5 y6 y7 y8 y9 y10 y11 y12 y13)]) (W2 := fun u8 => (LWL cy g p70 b7 c7 d7 e7 h7 k7 q ma o od st v w v2 w2 z s0 s1 s2 s3 tx y0 0 y2 u8 y4 y5 y6 y7 y8 y9 y10 y11 y12 y13 out outD)) (va_runV (C := RX8) (As := [.int (xs (i + 1).toNatClampNeg)]) (rest := []) S (c_X8_reason l D cy g s.heap.size ma y0 0 y2 y3 y4 y5 y6 y7 y8 y9 y10 y11 y12 y13 (xs (i + 1).toNatClampNeg) (GSf hg).1 (GSf hg).2.2.1) (cwV 1 hts gL_law_X8_reason rfl rfl rfl hd_X8_reason_V ⟨Nat.le_of_ble_eq_true rfl, Nat.le_of_ble_eq_true rfl⟩) ⟨muP_blind, va_recv hK0.1 hP (ci := 6) (q0 := 90) rfl rfl, my_preC (wcs := [(wModE cy ma y0 0 y2 y3 y4 y5 y6 y7 y8 y9 y10 y11 y12 y13)]) hK0 hS hAB hP hD [11] (by decide) rfl (List.append_nil _)⟩ rfl rfl hl.1 rfl (lv_room (Nat.le_of_ble_eq_true rfl)) dL_law_1075 ⟨(show cells + 1 ≤ 601024 by omega), (show slots + 6 ≤ 7293033 by omega)⟩) hS hP hD [11] rfl (List.append_nil _) (fun _ => List.append_nil _) (fun _ => by simp only [List.map_cons, List.map_nil, adrSet, adrSetE, adrPow, adrPowE, adrTxt, adrTxtE, adrSav, adrSavE, adrPCo, adrMod, adrModE, adrL, adrDb]) (fun _ => rfl) (fun r9 u9 H locs hw hP hD hS => ?_)
    obtain ⟨rfl, rfl⟩ := Prod.mk.inj (e4.symm.trans hw)
    have hP : va_P D vwCl (LW cy g p70 b7 c7 d7 e7 h7 k7 q ma o od st v w v2 w2 z s0 s1 s2 s3 tx y0 0 y2 1 y4 y5 y6 y7 y8 y9 y10 y11 y12 y13 out outD) H := hP
    have hD : va_D (fun q => s.heap.size ≤ q) (LW cy g p70 b7 c7 d7 e7 h7 k7 q ma o od st v w v2 w2 z s0 s1 s2 s3 tx y0 0 y2 1 y4 y5 y6 y7 y8 y9 y10 y11 y12 y13 out outD) := hD
    refine lv_istore (lv' := [(7, .int 0), (6, .int ((fun _ : Int32 => (1 : Int32)) f)), (0, .ref b), (1, .ref p70), (2, .ref (ma 0)), (3, .ref o), (4, .ref od), (5, .int i)]) hx hb dL_law_1078 hl (by decide) rfl (fun ls hl => ?_)
    refine lv_aload_n hx hb dL_law_1080 rfl (lv_at hl 4 rfl) ?_
    refine rd_goi (va_runV (C := RX8) (As := []) (rest := []) S (c_X8_thrown l D cy g s.heap.size ma y0 0 y2 1 y4 y5 y6 y7 y8 y9 y10 y11 y12 y13) (cwV 0 hts gL_law_X8_thrown rfl rfl rfl hd_X8_thrown_V ⟨Nat.le_of_ble_eq_true rfl, Nat.le_of_ble_eq_true rfl⟩) ⟨rdP_blind, va_recv hK0.1 hP (ci := 6) (q0 := 90) rfl rfl, my_preV hK0 hS hAB hP [90, 91, 92, 93, 94, 95, 96, 97] rfl⟩ rfl rfl hl.1 rfl (lv_room (Nat.le_of_ble_eq_true rfl)) dL_law_1081 ⟨(show cells + 1 ≤ 601024 by omega), (show slots + 6 ≤ 7293033 by omega)⟩) ?_
    refine lv_iload hx hb dL_law_1084 (lv_at hl 1 rfl) ?_
    refine lv_icmp_eq (tgt := 1091) hx hb dL_law_1086 (by decide) (fun _ => ?_) (fun h9 => absurd (show ((f_X8_thrown 1) : Int32) = ((fun _ : Int32 => (1 : Int32)) f) from rfl) h9)
    refine lv_iload hx hb dL_law_1091 (lv_at hl 1 rfl) ?_
    refine lv_if_ne (tgt := 1108) hx hb dL_law_1093 (by decide) (fun _ => ?_) (fun h9 => absurd h9 hne)
    refine lv_goto (tgt := 1700) hx hb dL_law_1108 (by decide) ?_
    refine W.widen (k := cells + 2) (n := slots + 12) (by omega) (by omega) ?_
    exact K H locs ls ⟨st, v, w, v2, w2, z, s0, s1, s2, s3, tx, y0, y2, 1, y4, y5, y6, y7, y8, y9, y10, y11, y12, y13, out, outD, hv, hg, hp, hrg, htx, hbl, hP, hD⟩ hS (lv_sub hl [2, 3, 4, 5, 6, 7] rfl)
  · refine lv_aload_n hx hb dL_law_1055 rfl (lv_at hl 1 rfl) ?_
    refine lv_aload_n hx hb dL_law_1056 rfl (lv_at hl 0 rfl) ?_
    refine lv_iload hx hb dL_law_1057 (lv_at hl 5 rfl) ?_
    refine lv_iconst (v := 1) hx hb dL_law_1059 (by decide) ?_
    refine lv_iadd hx hb dL_law_1060 ?_
    refine va_sld hx hb hX hbl0 hbA hS h1 dL_law_1061 ?_
    refine lv_aload_n hx hb dL_law_1062 rfl (lv_at hl 3 rfl) ?_
    refine lw_compi (wcs := [(wPCo p70 b7 c7 d7 e7 h7 k7 st), (wSet cy b7 v), (wPow cy c7 w), (wL cy o out)]) (wns := fun u8 => [(wPCo p70 b7 c7 d7 e7 h7 k7 u8.1.1), (wSet cy b7 v), (wPow cy c7 u8.1.2), (wL cy o u8.2)]) (W2 := fun u8 => (LWL cy g p70 b7 c7 d7 e7 h7 k7 q ma o od u8.1.1 v u8.1.2 v2 w2 z s0 s1 s2 s3 tx y0 0 y2 y3 y4 y5 y6 y7 y8 y9 y10 y11 y12 y13 u8.2 outD)) (vx_runSW (As := [.ref p70, .int (xs (i + 1).toNatClampNeg), .ref o]) (rest := []) S (c_L_reason l hl0 D cy g s.heap.size p70 b7 c7 d7 e7 h7 k7 st v w (xs (i + 1).toNatClampNeg) o out (fun k h => k_reason h)) (vx_cwSW 3 hts gL_law_L_reason rfl rfl rfl hd_L_reason_S ⟨Nat.le_of_ble_eq_true rfl, Nat.le_of_ble_eq_true rfl⟩) ⟨lwP_blind, my_preL (wcs := [(wPCo p70 b7 c7 d7 e7 h7 k7 st), (wSet cy b7 v), (wPow cy c7 w), (wL cy o out)]) hK0 hNc hS hAB hP hD [0, 1, 2, 12] (by decide) rfl rfl⟩ rfl rfl hl.1 rfl (lv_room (Nat.le_of_ble_eq_true rfl)) dL_law_1063 ⟨(show cells + 1 ≤ 601024 by omega), (show slots + 6 ≤ 7293033 by omega)⟩) hS hP hD [0, 1, 2, 12] rfl rfl (fun _ => rfl) (fun _ => by simp only [List.map_cons, List.map_nil, adrSet, adrSetE, adrPow, adrPowE, adrTxt, adrTxtE, adrSav, adrSavE, adrPCo, adrMod, adrModE, adrL, adrDb]) (fun _ => rfl) (fun r9 u9 H locs hw hP hD hS => ?_)
    obtain ⟨rfl, rfl⟩ := Prod.mk.inj ((wrI_r e1).symm.trans hw)
    have hP : va_P D vwCl (LW cy g p70 b7 c7 d7 e7 h7 k7 q ma o od u.1 v u.2 v2 w2 z s0 s1 s2 s3 tx y0 0 y2 y3 y4 y5 y6 y7 y8 y9 y10 y11 y12 y13 (vp_updL out 0 (Int32.toInt64 r)) outD) H := hP
    have hD : va_D (fun q => s.heap.size ≤ q) (LW cy g p70 b7 c7 d7 e7 h7 k7 q ma o od u.1 v u.2 v2 w2 z s0 s1 s2 s3 tx y0 0 y2 y3 y4 y5 y6 y7 y8 y9 y10 y11 y12 y13 (vp_updL out 0 (Int32.toInt64 r)) outD) := hD
    refine lv_istore (lv' := [(6, .int 0), (0, .ref b), (1, .ref p70), (2, .ref (ma 0)), (3, .ref o), (4, .ref od), (5, .int i)]) hx hb dL_law_1066 hl (by decide) rfl (fun ls hl => ?_)
    refine lv_aload_n hx hb dL_law_1068 rfl (lv_at hl 3 rfl) ?_
    refine lv_aload_n hx hb dL_law_1069 rfl (lv_at hl 1 rfl) ?_
    refine lv_iload hx hb dL_law_1070 (lv_at hl 6 rfl) ?_
    refine lv_iconst (v := 1) hx hb dL_law_1072 (by decide) ?_
    refine lv_iadd hx hb dL_law_1073 ?_
    refine va_sld hx hb hX hbl0 hbA hS h1 dL_law_1074 ?_
    refine mu_compi (wcs := [(wModE cy ma y0 0 y2 y3 y4 y5 y6 y7 y8 y9 y10 y11 y12 y13)]) (wns := fun u8 => [(wModE cy ma y0 0 y2 u8 y4 y5 y6 y7 y8 y9 y10 y11 y12 y13)]) (W2 := fun u8 => (LWL cy g p70 b7 c7 d7 e7 h7 k7 q ma o od u.1 v u.2 v2 w2 z s0 s1 s2 s3 tx y0 0 y2 u8 y4 y5 y6 y7 y8 y9 y10 y11 y12 y13 (vp_updL out 0 (Int32.toInt64 r)) outD)) (va_runV (C := RX8) (As := [.int (xs (i + 1).toNatClampNeg)]) (rest := []) S (c_X8_reason l D cy g s.heap.size ma y0 0 y2 y3 y4 y5 y6 y7 y8 y9 y10 y11 y12 y13 (xs (i + 1).toNatClampNeg) (GSf hg).1 (GSf hg).2.2.1) (cwV 1 hts gL_law_X8_reason rfl rfl rfl hd_X8_reason_V ⟨Nat.le_of_ble_eq_true rfl, Nat.le_of_ble_eq_true rfl⟩) ⟨muP_blind, va_recv hK0.1 hP (ci := 6) (q0 := 90) rfl rfl, my_preC (wcs := [(wModE cy ma y0 0 y2 y3 y4 y5 y6 y7 y8 y9 y10 y11 y12 y13)]) hK0 hS hAB hP hD [11] (by decide) rfl (List.append_nil _)⟩ rfl rfl hl.1 rfl (lv_room (Nat.le_of_ble_eq_true rfl)) dL_law_1075 ⟨(show cells + 1 ≤ 601024 by omega), (show slots + 6 ≤ 7293033 by omega)⟩) hS hP hD [11] rfl (List.append_nil _) (fun _ => List.append_nil _) (fun _ => by simp only [List.map_cons, List.map_nil, adrSet, adrSetE, adrPow, adrPowE, adrTxt, adrTxtE, adrSav, adrSavE, adrPCo, adrMod, adrModE, adrL, adrDb]) (fun _ => rfl) (fun r9 u9 H locs hw hP hD hS => ?_)
    obtain ⟨rfl, rfl⟩ := Prod.mk.inj (e4.symm.trans hw)
    have hP : va_P D vwCl (LW cy g p70 b7 c7 d7 e7 h7 k7 q ma o od u.1 v u.2 v2 w2 z s0 s1 s2 s3 tx y0 0 y2 0 y4 y5 y6 y7 y8 y9 y10 y11 y12 y13 (vp_updL out 0 (Int32.toInt64 r)) outD) H := hP
    have hD : va_D (fun q => s.heap.size ≤ q) (LW cy g p70 b7 c7 d7 e7 h7 k7 q ma o od u.1 v u.2 v2 w2 z s0 s1 s2 s3 tx y0 0 y2 0 y4 y5 y6 y7 y8 y9 y10 y11 y12 y13 (vp_updL out 0 (Int32.toInt64 r)) outD) := hD
    refine lv_istore (lv' := [(7, .int r), (6, .int 0), (0, .ref b), (1, .ref p70), (2, .ref (ma 0)), (3, .ref o), (4, .ref od), (5, .int i)]) hx hb dL_law_1078 hl (by decide) rfl (fun ls hl => ?_)
    refine lv_aload_n hx hb dL_law_1080 rfl (lv_at hl 4 rfl) ?_
    refine rd_goi (va_runV (C := RX8) (As := []) (rest := []) S (c_X8_thrown l D cy g s.heap.size ma y0 0 y2 0 y4 y5 y6 y7 y8 y9 y10 y11 y12 y13) (cwV 0 hts gL_law_X8_thrown rfl rfl rfl hd_X8_thrown_V ⟨Nat.le_of_ble_eq_true rfl, Nat.le_of_ble_eq_true rfl⟩) ⟨rdP_blind, va_recv hK0.1 hP (ci := 6) (q0 := 90) rfl rfl, my_preV hK0 hS hAB hP [90, 91, 92, 93, 94, 95, 96, 97] rfl⟩ rfl rfl hl.1 rfl (lv_room (Nat.le_of_ble_eq_true rfl)) dL_law_1081 ⟨(show cells + 1 ≤ 601024 by omega), (show slots + 6 ≤ 7293033 by omega)⟩) ?_
    refine lv_iload hx hb dL_law_1084 (lv_at hl 1 rfl) ?_
    refine lv_icmp_eq (tgt := 1091) hx hb dL_law_1086 (by decide) (fun _ => ?_) (fun h9 => absurd (show ((f_X8_thrown 0) : Int32) = 0 from rfl) h9)
    refine lv_iload hx hb dL_law_1091 (lv_at hl 1 rfl) ?_
    refine lv_if_ne (tgt := 1108) hx hb dL_law_1093 (by decide) (fun h9 => absurd rfl h9) (fun _ => ?_)
    refine lv_aload_n hx hb dL_law_1096 rfl (lv_at hl 5 rfl) ?_
    refine lv_iconst (v := 0) hx hb dL_law_1097 (by decide) ?_
    refine va_lald hx hb hK0.1 hP 98 3 rfl rfl (i := 0) (show ¬ ((0 : Int32) < 0 ∨ 1 ≤ (0 : Int32).toNatClampNeg) by decide) dL_law_1098 ?_
    refine lv_iload hx hb dL_law_1099 (lv_at hl 0 rfl) ?_
    refine lv_i2l (v := (Int32.toInt64 r)) hx hb dL_law_1101 rfl ?_
    refine W.lcmp hx hb dL_law_1102 ?_
    refine lv_if_eq (tgt := 1108) hx hb dL_law_1103 (by decide) (fun _ => ?_) (fun h9 => absurd ((lg_cmp_eq _ _).mpr rfl) h9)
    refine lv_goto (tgt := 1700) hx hb dL_law_1108 (by decide) ?_
    refine W.widen (k := cells + 2) (n := slots + 12) (by omega) (by omega) ?_
    exact K H locs ls ⟨u.1, v, u.2, v2, w2, z, s0, s1, s2, s3, tx, y0, y2, 0, y4, y5, y6, y7, y8, y9, y10, y11, y12, y13, (vp_updL out 0 (Int32.toInt64 r)), outD, hv, hg, e5, hrg, htx, hbl, hP, hD⟩ hS (lv_sub hl [2, 3, 4, 5, 6, 7] rfl)
set_option maxHeartbeats 4000000 in
set_option maxRecDepth 100000 in
theorem law_pivot (C : LC p l e s m meth c b L xs D cy g) (hc : cells ≤ 590000) (hs : slots ≤ 7000000) (h1 : vp_in (i + 1) L) (h2 : vp_in (i + 2) L) (hI : LInv D cy g p70 b7 c7 d7 e7 h7 k7 q ma o od s.heap.size H) (hS : va_S (fun q => s.heap.size ≤ q) s.heap H locs) (hl : lv_has ls 9 [(0, .ref b), (1, .ref p70), (2, .ref (ma 0)), (3, .ref o), (4, .ref od), (5, .int i)])
    (K : ∀ (H : Heap) (locs : List Loc) (ls : Array Slot), LInv D cy g p70 b7 c7 d7 e7 h7 k7 q ma o od s.heap.size H → va_S (fun q => s.heap.size ≤ q) s.heap H locs → lv_has ls 9 [(0, .ref b), (1, .ref p70), (2, .ref (ma 0)), (3, .ref o), (4, .ref od), (5, .int i)] → W p l e room_1 s m #[Value.ref b] below meth c H locs (cells + 2) (slots + 12) Q (F0 m 1700 ls [])) : W p l e room_1 s m #[Value.ref b] below meth c H locs cells slots Q (F0 m 1111 ls []) := by
  obtain ⟨hl0, hx, hb, hr, hml, hown, hts, hX, hbl0, hlocks, hK0, hNc, hL⟩ := C
  obtain ⟨st, v, w, v2, w2, z, s0, s1, s2, s3, tx, y0, y2, y3, y4, y5, y6, y7, y8, y9, y10, y11, y12, y13, out, outD, hv, hg, hp, hrg, htx, hbl, hP, hD⟩ := hI
  have S := my_fix hx hb hml hown hts
  have hAB : ∀ q : Nat, s.heap.size ≤ q → s.heap.size ≤ q := fun _ h => h
  have hbA : ¬ s.heap.size ≤ b := Nat.not_le.mpr hbl0
  rcases R_pivot hv hg hp hbl y11 (xs (i + 1).toNatClampNeg) with ⟨pp, e1, e4, e6⟩ | ⟨r, u, pp, e1, e4, e5, e6⟩
  · have hne : ¬ ((fun _ : Int32 => (1 : Int32)) 2) = 0 := (show ¬ (1 : Int32) = 0 by decide)
    refine lv_aload_n hx hb dL_law_1111 rfl (lv_at hl 1 rfl) ?_
    refine lv_aload_n hx hb dL_law_1112 rfl (lv_at hl 0 rfl) ?_
    refine lv_iload hx hb dL_law_1113 (lv_at hl 5 rfl) ?_
    refine lv_iconst (v := 1) hx hb dL_law_1115 (by decide) ?_
    refine lv_iadd hx hb dL_law_1116 ?_
    refine va_sld hx hb hX hbl0 hbA hS h1 dL_law_1117 ?_
    refine lv_aload_n hx hb dL_law_1118 rfl (lv_at hl 3 rfl) ?_
    refine lw_compi (wcs := [(wPCo p70 b7 c7 d7 e7 h7 k7 st), (wSet cy b7 v), (wPow cy c7 w), (wL cy o out)]) (wns := fun u8 => [(wPCo p70 b7 c7 d7 e7 h7 k7 u8.1.1), (wSet cy b7 v), (wPow cy c7 u8.1.2), (wL cy o u8.2)]) (W2 := fun u8 => (LWL cy g p70 b7 c7 d7 e7 h7 k7 q ma o od u8.1.1 v u8.1.2 v2 w2 z s0 s1 s2 s3 tx y0 0 y2 y3 y4 y5 y6 y7 y8 y9 y10 y11 y12 y13 u8.2 outD)) (vx_runSW (As := [.ref p70, .int (xs (i + 1).toNatClampNeg), .ref o]) (rest := []) S (c_L_pivot l hl0 D cy g s.heap.size p70 b7 c7 d7 e7 h7 k7 st v w (xs (i + 1).toNatClampNeg) o out (fun k h => k_pivot h)) (vx_cwSW 3 hts gL_law_L_pivot rfl rfl rfl hd_L_pivot_S ⟨Nat.le_of_ble_eq_true rfl, Nat.le_of_ble_eq_true rfl⟩) ⟨lwP_blind, my_preL (wcs := [(wPCo p70 b7 c7 d7 e7 h7 k7 st), (wSet cy b7 v), (wPow cy c7 w), (wL cy o out)]) hK0 hNc hS hAB hP hD [0, 1, 2, 12] (by decide) rfl rfl⟩ rfl rfl hl.1 rfl (lv_room (Nat.le_of_ble_eq_true rfl)) dL_law_1119 ⟨(show cells + 1 ≤ 601024 by omega), (show slots + 6 ≤ 7293033 by omega)⟩) hS hP hD [0, 1, 2, 12] rfl rfl (fun _ => rfl) (fun _ => by simp only [List.map_cons, List.map_nil, adrSet, adrSetE, adrPow, adrPowE, adrTxt, adrTxtE, adrSav, adrSavE, adrPCo, adrMod, adrModE, adrL, adrDb]) (fun _ => rfl) (fun r9 u9 H locs hw hP hD hS => ?_)
    obtain ⟨rfl, rfl⟩ := Prod.mk.inj ((wrI_l e1).symm.trans hw)
    have hP : va_P D vwCl (LW cy g p70 b7 c7 d7 e7 h7 k7 q ma o od st v w v2 w2 z s0 s1 s2 s3 tx y0 0 y2 y3 y4 y5 y6 y7 y8 y9 y10 y11 y12 y13 out outD) H := hP
    have hD : va_D (fun q => s.heap.size ≤ q) (LW cy g p70 b7 c7 d7 e7 h7 k7 q ma o od st v w v2 w2 z s0 s1 s2 s3 tx y0 0 y2 y3 y4 y5 y6 y7 y8 y9 y10 y11 y12 y13 out outD) := hD
    refine lv_istore (lv' := [(6, .int ((fun _ : Int32 => (1 : Int32)) 2)), (0, .ref b), (1, .ref p70), (2, .ref (ma 0)), (3, .ref o), (4, .ref od), (5, .int i)]) hx hb dL_law_1122 hl (by decide) rfl (fun ls hl => ?_)
    refine lv_aload_n hx hb dL_law_1124 rfl (lv_at hl 3 rfl) ?_
    refine lv_aload_n hx hb dL_law_1125 rfl (lv_at hl 1 rfl) ?_
    refine lv_iload hx hb dL_law_1126 (lv_at hl 6 rfl) ?_
    refine lv_iconst (v := 1) hx hb dL_law_1128 (by decide) ?_
    refine lv_iadd hx hb dL_law_1129 ?_
    refine va_sld hx hb hX hbl0 hbA hS h1 dL_law_1130 ?_
    refine mu_compi (wcs := [(wModE cy ma y0 0 y2 y3 y4 y5 y6 y7 y8 y9 y10 y11 y12 y13)]) (wns := fun u8 => [(wModE cy ma y0 0 y2 u8.1 u8.2.1 y5 y6 y7 y8 y9 u8.2.2.1 u8.2.2.2 y12 y13)]) (W2 := fun u8 => (LWL cy g p70 b7 c7 d7 e7 h7 k7 q ma o od st v w v2 w2 z s0 s1 s2 s3 tx y0 0 y2 u8.1 u8.2.1 y5 y6 y7 y8 y9 u8.2.2.1 u8.2.2.2 y12 y13 out outD)) (va_runV (C := RX8) (As := [.int (xs (i + 1).toNatClampNeg)]) (rest := []) S (c_X8_pivot l D cy g s.heap.size ma y0 0 y2 y3 y4 y5 y6 y7 y8 y9 y10 y11 y12 y13 (xs (i + 1).toNatClampNeg) (GSf hg).1 (GSf hg).2.2.1 hbl) (cwV 1 hts gL_law_X8_pivot rfl rfl rfl hd_X8_pivot_V ⟨Nat.le_of_ble_eq_true rfl, Nat.le_of_ble_eq_true rfl⟩) ⟨muP_blind, va_recv hK0.1 hP (ci := 6) (q0 := 90) rfl rfl, my_preC (wcs := [(wModE cy ma y0 0 y2 y3 y4 y5 y6 y7 y8 y9 y10 y11 y12 y13)]) hK0 hS hAB hP hD [11] (by decide) rfl (List.append_nil _)⟩ rfl rfl hl.1 rfl (lv_room (Nat.le_of_ble_eq_true rfl)) dL_law_1131 ⟨(show cells + 1 ≤ 601024 by omega), (show slots + 6 ≤ 7293033 by omega)⟩) hS hP hD [11] rfl (List.append_nil _) (fun _ => List.append_nil _) (fun _ => by simp only [List.map_cons, List.map_nil, adrSet, adrSetE, adrPow, adrPowE, adrTxt, adrTxtE, adrSav, adrSavE, adrPCo, adrMod, adrModE, adrL, adrDb]) (fun _ => rfl) (fun r9 u9 H locs hw hP hD hS => ?_)
    obtain ⟨rfl, rfl⟩ := Prod.mk.inj (e4.symm.trans hw)
    have hP : va_P D vwCl (LW cy g p70 b7 c7 d7 e7 h7 k7 q ma o od st v w v2 w2 z s0 s1 s2 s3 tx y0 0 y2 1 pp.1 y5 y6 y7 y8 y9 pp.2.1 pp.2.2 y12 y13 out outD) H := hP
    have hD : va_D (fun q => s.heap.size ≤ q) (LW cy g p70 b7 c7 d7 e7 h7 k7 q ma o od st v w v2 w2 z s0 s1 s2 s3 tx y0 0 y2 1 pp.1 y5 y6 y7 y8 y9 pp.2.1 pp.2.2 y12 y13 out outD) := hD
    refine lv_istore (lv' := [(7, .int 0), (6, .int ((fun _ : Int32 => (1 : Int32)) 2)), (0, .ref b), (1, .ref p70), (2, .ref (ma 0)), (3, .ref o), (4, .ref od), (5, .int i)]) hx hb dL_law_1134 hl (by decide) rfl (fun ls hl => ?_)
    refine lv_aload_n hx hb dL_law_1136 rfl (lv_at hl 4 rfl) ?_
    refine rd_goi (va_runV (C := RX8) (As := []) (rest := []) S (c_X8_thrown l D cy g s.heap.size ma y0 0 y2 1 pp.1 y5 y6 y7 y8 y9 pp.2.1 pp.2.2 y12 y13) (cwV 0 hts gL_law_X8_thrown rfl rfl rfl hd_X8_thrown_V ⟨Nat.le_of_ble_eq_true rfl, Nat.le_of_ble_eq_true rfl⟩) ⟨rdP_blind, va_recv hK0.1 hP (ci := 6) (q0 := 90) rfl rfl, my_preV hK0 hS hAB hP [90, 91, 92, 93, 94, 95, 96, 97] rfl⟩ rfl rfl hl.1 rfl (lv_room (Nat.le_of_ble_eq_true rfl)) dL_law_1137 ⟨(show cells + 1 ≤ 601024 by omega), (show slots + 6 ≤ 7293033 by omega)⟩) ?_
    refine lv_iload hx hb dL_law_1140 (lv_at hl 1 rfl) ?_
    refine lv_icmp_eq (tgt := 1147) hx hb dL_law_1142 (by decide) (fun _ => ?_) (fun h9 => absurd (show ((f_X8_thrown 1) : Int32) = ((fun _ : Int32 => (1 : Int32)) 2) from rfl) h9)
    refine lv_iload hx hb dL_law_1147 (lv_at hl 1 rfl) ?_
    refine lv_if_ne (tgt := 1164) hx hb dL_law_1149 (by decide) (fun _ => ?_) (fun h9 => absurd h9 hne)
    refine lv_goto (tgt := 1700) hx hb dL_law_1164 (by decide) ?_
    refine W.widen (k := cells + 2) (n := slots + 12) (by omega) (by omega) ?_
    exact K H locs ls ⟨st, v, w, v2, w2, z, s0, s1, s2, s3, tx, y0, y2, 1, pp.1, y5, y6, y7, y8, y9, pp.2.1, pp.2.2, y12, y13, out, outD, hv, hg, hp, hrg, htx, e6, hP, hD⟩ hS (lv_sub hl [2, 3, 4, 5, 6, 7] rfl)
  · refine lv_aload_n hx hb dL_law_1111 rfl (lv_at hl 1 rfl) ?_
    refine lv_aload_n hx hb dL_law_1112 rfl (lv_at hl 0 rfl) ?_
    refine lv_iload hx hb dL_law_1113 (lv_at hl 5 rfl) ?_
    refine lv_iconst (v := 1) hx hb dL_law_1115 (by decide) ?_
    refine lv_iadd hx hb dL_law_1116 ?_
    refine va_sld hx hb hX hbl0 hbA hS h1 dL_law_1117 ?_
    refine lv_aload_n hx hb dL_law_1118 rfl (lv_at hl 3 rfl) ?_
    refine lw_compi (wcs := [(wPCo p70 b7 c7 d7 e7 h7 k7 st), (wSet cy b7 v), (wPow cy c7 w), (wL cy o out)]) (wns := fun u8 => [(wPCo p70 b7 c7 d7 e7 h7 k7 u8.1.1), (wSet cy b7 v), (wPow cy c7 u8.1.2), (wL cy o u8.2)]) (W2 := fun u8 => (LWL cy g p70 b7 c7 d7 e7 h7 k7 q ma o od u8.1.1 v u8.1.2 v2 w2 z s0 s1 s2 s3 tx y0 0 y2 y3 y4 y5 y6 y7 y8 y9 y10 y11 y12 y13 u8.2 outD)) (vx_runSW (As := [.ref p70, .int (xs (i + 1).toNatClampNeg), .ref o]) (rest := []) S (c_L_pivot l hl0 D cy g s.heap.size p70 b7 c7 d7 e7 h7 k7 st v w (xs (i + 1).toNatClampNeg) o out (fun k h => k_pivot h)) (vx_cwSW 3 hts gL_law_L_pivot rfl rfl rfl hd_L_pivot_S ⟨Nat.le_of_ble_eq_true rfl, Nat.le_of_ble_eq_true rfl⟩) ⟨lwP_blind, my_preL (wcs := [(wPCo p70 b7 c7 d7 e7 h7 k7 st), (wSet cy b7 v), (wPow cy c7 w), (wL cy o out)]) hK0 hNc hS hAB hP hD [0, 1, 2, 12] (by decide) rfl rfl⟩ rfl rfl hl.1 rfl (lv_room (Nat.le_of_ble_eq_true rfl)) dL_law_1119 ⟨(show cells + 1 ≤ 601024 by omega), (show slots + 6 ≤ 7293033 by omega)⟩) hS hP hD [0, 1, 2, 12] rfl rfl (fun _ => rfl) (fun _ => by simp only [List.map_cons, List.map_nil, adrSet, adrSetE, adrPow, adrPowE, adrTxt, adrTxtE, adrSav, adrSavE, adrPCo, adrMod, adrModE, adrL, adrDb]) (fun _ => rfl) (fun r9 u9 H locs hw hP hD hS => ?_)
    obtain ⟨rfl, rfl⟩ := Prod.mk.inj ((wrI_r e1).symm.trans hw)
    have hP : va_P D vwCl (LW cy g p70 b7 c7 d7 e7 h7 k7 q ma o od u.1 v u.2 v2 w2 z s0 s1 s2 s3 tx y0 0 y2 y3 y4 y5 y6 y7 y8 y9 y10 y11 y12 y13 (vp_updL out 0 (Int32.toInt64 r)) outD) H := hP
    have hD : va_D (fun q => s.heap.size ≤ q) (LW cy g p70 b7 c7 d7 e7 h7 k7 q ma o od u.1 v u.2 v2 w2 z s0 s1 s2 s3 tx y0 0 y2 y3 y4 y5 y6 y7 y8 y9 y10 y11 y12 y13 (vp_updL out 0 (Int32.toInt64 r)) outD) := hD
    refine lv_istore (lv' := [(6, .int 0), (0, .ref b), (1, .ref p70), (2, .ref (ma 0)), (3, .ref o), (4, .ref od), (5, .int i)]) hx hb dL_law_1122 hl (by decide) rfl (fun ls hl => ?_)
    refine lv_aload_n hx hb dL_law_1124 rfl (lv_at hl 3 rfl) ?_
    refine lv_aload_n hx hb dL_law_1125 rfl (lv_at hl 1 rfl) ?_
    refine lv_iload hx hb dL_law_1126 (lv_at hl 6 rfl) ?_
    refine lv_iconst (v := 1) hx hb dL_law_1128 (by decide) ?_
    refine lv_iadd hx hb dL_law_1129 ?_
    refine va_sld hx hb hX hbl0 hbA hS h1 dL_law_1130 ?_
    refine mu_compi (wcs := [(wModE cy ma y0 0 y2 y3 y4 y5 y6 y7 y8 y9 y10 y11 y12 y13)]) (wns := fun u8 => [(wModE cy ma y0 0 y2 u8.1 u8.2.1 y5 y6 y7 y8 y9 u8.2.2.1 u8.2.2.2 y12 y13)]) (W2 := fun u8 => (LWL cy g p70 b7 c7 d7 e7 h7 k7 q ma o od u.1 v u.2 v2 w2 z s0 s1 s2 s3 tx y0 0 y2 u8.1 u8.2.1 y5 y6 y7 y8 y9 u8.2.2.1 u8.2.2.2 y12 y13 (vp_updL out 0 (Int32.toInt64 r)) outD)) (va_runV (C := RX8) (As := [.int (xs (i + 1).toNatClampNeg)]) (rest := []) S (c_X8_pivot l D cy g s.heap.size ma y0 0 y2 y3 y4 y5 y6 y7 y8 y9 y10 y11 y12 y13 (xs (i + 1).toNatClampNeg) (GSf hg).1 (GSf hg).2.2.1 hbl) (cwV 1 hts gL_law_X8_pivot rfl rfl rfl hd_X8_pivot_V ⟨Nat.le_of_ble_eq_true rfl, Nat.le_of_ble_eq_true rfl⟩) ⟨muP_blind, va_recv hK0.1 hP (ci := 6) (q0 := 90) rfl rfl, my_preC (wcs := [(wModE cy ma y0 0 y2 y3 y4 y5 y6 y7 y8 y9 y10 y11 y12 y13)]) hK0 hS hAB hP hD [11] (by decide) rfl (List.append_nil _)⟩ rfl rfl hl.1 rfl (lv_room (Nat.le_of_ble_eq_true rfl)) dL_law_1131 ⟨(show cells + 1 ≤ 601024 by omega), (show slots + 6 ≤ 7293033 by omega)⟩) hS hP hD [11] rfl (List.append_nil _) (fun _ => List.append_nil _) (fun _ => by simp only [List.map_cons, List.map_nil, adrSet, adrSetE, adrPow, adrPowE, adrTxt, adrTxtE, adrSav, adrSavE, adrPCo, adrMod, adrModE, adrL, adrDb]) (fun _ => rfl) (fun r9 u9 H locs hw hP hD hS => ?_)
    obtain ⟨rfl, rfl⟩ := Prod.mk.inj (e4.symm.trans hw)
    have hP : va_P D vwCl (LW cy g p70 b7 c7 d7 e7 h7 k7 q ma o od u.1 v u.2 v2 w2 z s0 s1 s2 s3 tx y0 0 y2 0 pp.1 y5 y6 y7 y8 y9 pp.2.1 pp.2.2 y12 y13 (vp_updL out 0 (Int32.toInt64 r)) outD) H := hP
    have hD : va_D (fun q => s.heap.size ≤ q) (LW cy g p70 b7 c7 d7 e7 h7 k7 q ma o od u.1 v u.2 v2 w2 z s0 s1 s2 s3 tx y0 0 y2 0 pp.1 y5 y6 y7 y8 y9 pp.2.1 pp.2.2 y12 y13 (vp_updL out 0 (Int32.toInt64 r)) outD) := hD
    refine lv_istore (lv' := [(7, .int r), (6, .int 0), (0, .ref b), (1, .ref p70), (2, .ref (ma 0)), (3, .ref o), (4, .ref od), (5, .int i)]) hx hb dL_law_1134 hl (by decide) rfl (fun ls hl => ?_)
    refine lv_aload_n hx hb dL_law_1136 rfl (lv_at hl 4 rfl) ?_
    refine rd_goi (va_runV (C := RX8) (As := []) (rest := []) S (c_X8_thrown l D cy g s.heap.size ma y0 0 y2 0 pp.1 y5 y6 y7 y8 y9 pp.2.1 pp.2.2 y12 y13) (cwV 0 hts gL_law_X8_thrown rfl rfl rfl hd_X8_thrown_V ⟨Nat.le_of_ble_eq_true rfl, Nat.le_of_ble_eq_true rfl⟩) ⟨rdP_blind, va_recv hK0.1 hP (ci := 6) (q0 := 90) rfl rfl, my_preV hK0 hS hAB hP [90, 91, 92, 93, 94, 95, 96, 97] rfl⟩ rfl rfl hl.1 rfl (lv_room (Nat.le_of_ble_eq_true rfl)) dL_law_1137 ⟨(show cells + 1 ≤ 601024 by omega), (show slots + 6 ≤ 7293033 by omega)⟩) ?_
    refine lv_iload hx hb dL_law_1140 (lv_at hl 1 rfl) ?_
    refine lv_icmp_eq (tgt := 1147) hx hb dL_law_1142 (by decide) (fun _ => ?_) (fun h9 => absurd (show ((f_X8_thrown 0) : Int32) = 0 from rfl) h9)
    refine lv_iload hx hb dL_law_1147 (lv_at hl 1 rfl) ?_
    refine lv_if_ne (tgt := 1164) hx hb dL_law_1149 (by decide) (fun h9 => absurd rfl h9) (fun _ => ?_)
    refine lv_aload_n hx hb dL_law_1152 rfl (lv_at hl 5 rfl) ?_
    refine lv_iconst (v := 0) hx hb dL_law_1153 (by decide) ?_
    refine va_lald hx hb hK0.1 hP 98 3 rfl rfl (i := 0) (show ¬ ((0 : Int32) < 0 ∨ 1 ≤ (0 : Int32).toNatClampNeg) by decide) dL_law_1154 ?_
    refine lv_iload hx hb dL_law_1155 (lv_at hl 0 rfl) ?_
    refine lv_i2l (v := (Int32.toInt64 r)) hx hb dL_law_1157 rfl ?_
    refine W.lcmp hx hb dL_law_1158 ?_
    refine lv_if_eq (tgt := 1164) hx hb dL_law_1159 (by decide) (fun _ => ?_) (fun h9 => absurd ((lg_cmp_eq _ _).mpr rfl) h9)
    refine lv_goto (tgt := 1700) hx hb dL_law_1164 (by decide) ?_
    refine W.widen (k := cells + 2) (n := slots + 12) (by omega) (by omega) ?_
    exact K H locs ls ⟨u.1, v, u.2, v2, w2, z, s0, s1, s2, s3, tx, y0, y2, 0, pp.1, y5, y6, y7, y8, y9, pp.2.1, pp.2.2, y12, y13, (vp_updL out 0 (Int32.toInt64 r)), outD, hv, hg, e5, hrg, htx, e6, hP, hD⟩ hS (lv_sub hl [2, 3, 4, 5, 6, 7] rfl)
set_option maxHeartbeats 4000000 in
set_option maxRecDepth 100000 in
theorem law_swingsWith (C : LC p l e s m meth c b L xs D cy g) (hc : cells ≤ 590000) (hs : slots ≤ 7000000) (h1 : vp_in (i + 1) L) (h2 : vp_in (i + 2) L) (hI : LInv D cy g p70 b7 c7 d7 e7 h7 k7 q ma o od s.heap.size H) (hS : va_S (fun q => s.heap.size ≤ q) s.heap H locs) (hl : lv_has ls 9 [(0, .ref b), (1, .ref p70), (2, .ref (ma 0)), (3, .ref o), (4, .ref od), (5, .int i)])
    (K : ∀ (H : Heap) (locs : List Loc) (ls : Array Slot), LInv D cy g p70 b7 c7 d7 e7 h7 k7 q ma o od s.heap.size H → va_S (fun q => s.heap.size ≤ q) s.heap H locs → lv_has ls 9 [(0, .ref b), (1, .ref p70), (2, .ref (ma 0)), (3, .ref o), (4, .ref od), (5, .int i)] → W p l e room_1 s m #[Value.ref b] below meth c H locs (cells + 2) (slots + 12) Q (F0 m 1700 ls [])) : W p l e room_1 s m #[Value.ref b] below meth c H locs cells slots Q (F0 m 1167 ls []) := by
  obtain ⟨hl0, hx, hb, hr, hml, hown, hts, hX, hbl0, hlocks, hK0, hNc, hL⟩ := C
  obtain ⟨st, v, w, v2, w2, z, s0, s1, s2, s3, tx, y0, y2, y3, y4, y5, y6, y7, y8, y9, y10, y11, y12, y13, out, outD, hv, hg, hp, hrg, htx, hbl, hP, hD⟩ := hI
  have S := my_fix hx hb hml hown hts
  have hAB : ∀ q : Nat, s.heap.size ≤ q → s.heap.size ≤ q := fun _ h => h
  have hbA : ¬ s.heap.size ≤ b := Nat.not_le.mpr hbl0
  rcases R_swingsWith (st := st) (y4 := y4) hv hg hbl v2 w2 (xs (i + 1).toNatClampNeg) (xs (i + 2).toNatClampNeg) with ⟨f, e1, _, e3, e4⟩ | ⟨r, u, pp, e1, e4, e6⟩
  · have hne : ¬ ((fun f : Int32 => f) f) = 0 := pos_ne e3
    have e4 : f_X8_swingsWith y4 y7 y10 (xs (i + 1).toNatClampNeg) (xs (i + 2).toNatClampNeg) = (0, (((fun f : Int32 => f) f), y4, y10)) := e4
    refine lv_aload_n hx hb dL_law_1167 rfl (lv_at hl 1 rfl) ?_
    refine lv_aload_n hx hb dL_law_1168 rfl (lv_at hl 0 rfl) ?_
    refine lv_iload hx hb dL_law_1169 (lv_at hl 5 rfl) ?_
    refine lv_iconst (v := 1) hx hb dL_law_1171 (by decide) ?_
    refine lv_iadd hx hb dL_law_1172 ?_
    refine va_sld hx hb hX hbl0 hbA hS h1 dL_law_1173 ?_
    refine lv_aload_n hx hb dL_law_1174 rfl (lv_at hl 0 rfl) ?_
    refine lv_iload hx hb dL_law_1175 (lv_at hl 5 rfl) ?_
    refine lv_iconst (v := 2) hx hb dL_law_1177 (by decide) ?_
    refine lv_iadd hx hb dL_law_1178 ?_
    refine va_sld hx hb hX hbl0 hbA hS h2 dL_law_1179 ?_
    refine lv_aload_n hx hb dL_law_1180 rfl (lv_at hl 3 rfl) ?_
    refine lw_compi (wcs := [(wPCo p70 b7 c7 d7 e7 h7 k7 st), (wSet cy b7 v), (wSet cy d7 v2), (wPow cy e7 w2), (wL cy o out)]) (wns := fun u8 => [(wPCo p70 b7 c7 d7 e7 h7 k7 st), (wSet cy b7 v), (wSet cy d7 u8.1.1), (wPow cy e7 u8.1.2), (wL cy o u8.2)]) (W2 := fun u8 => (LWL cy g p70 b7 c7 d7 e7 h7 k7 q ma o od st v w u8.1.1 u8.1.2 z s0 s1 s2 s3 tx y0 0 y2 y3 y4 y5 y6 y7 y8 y9 y10 y11 y12 y13 u8.2 outD)) (vx_runSW (As := [.ref p70, .int (xs (i + 1).toNatClampNeg), .int (xs (i + 2).toNatClampNeg), .ref o]) (rest := []) S (c_L_swingsWith l hl0 D cy g s.heap.size p70 b7 c7 d7 e7 h7 k7 st v v2 w2 (xs (i + 1).toNatClampNeg) (xs (i + 2).toNatClampNeg) o out (fun k h => k_swingsWith h)) (vx_cwSW 4 hts gL_law_L_swingsWith rfl rfl rfl hd_L_swingsWith_S ⟨Nat.le_of_ble_eq_true rfl, Nat.le_of_ble_eq_true rfl⟩) ⟨lwP_blind, my_preL (wcs := [(wPCo p70 b7 c7 d7 e7 h7 k7 st), (wSet cy b7 v), (wSet cy d7 v2), (wPow cy e7 w2), (wL cy o out)]) hK0 hNc hS hAB hP hD [0, 1, 3, 4, 12] (by decide) rfl rfl⟩ rfl rfl hl.1 rfl (lv_room (Nat.le_of_ble_eq_true rfl)) dL_law_1181 ⟨(show cells + 2 ≤ 601024 by omega), (show slots + 12 ≤ 7293033 by omega)⟩) hS hP hD [0, 1, 3, 4, 12] rfl rfl (fun _ => rfl) (fun _ => by simp only [List.map_cons, List.map_nil, adrSet, adrSetE, adrPow, adrPowE, adrTxt, adrTxtE, adrSav, adrSavE, adrPCo, adrMod, adrModE, adrL, adrDb]) (fun _ => rfl) (fun r9 u9 H locs hw hP hD hS => ?_)
    obtain ⟨rfl, rfl⟩ := Prod.mk.inj ((wrI_l e1).symm.trans hw)
    have hP : va_P D vwCl (LW cy g p70 b7 c7 d7 e7 h7 k7 q ma o od st v w v2 w2 z s0 s1 s2 s3 tx y0 0 y2 y3 y4 y5 y6 y7 y8 y9 y10 y11 y12 y13 out outD) H := hP
    have hD : va_D (fun q => s.heap.size ≤ q) (LW cy g p70 b7 c7 d7 e7 h7 k7 q ma o od st v w v2 w2 z s0 s1 s2 s3 tx y0 0 y2 y3 y4 y5 y6 y7 y8 y9 y10 y11 y12 y13 out outD) := hD
    refine lv_istore (lv' := [(6, .int ((fun f : Int32 => f) f)), (0, .ref b), (1, .ref p70), (2, .ref (ma 0)), (3, .ref o), (4, .ref od), (5, .int i)]) hx hb dL_law_1184 hl (by decide) rfl (fun ls hl => ?_)
    refine lv_aload_n hx hb dL_law_1186 rfl (lv_at hl 3 rfl) ?_
    refine lv_aload_n hx hb dL_law_1187 rfl (lv_at hl 1 rfl) ?_
    refine lv_iload hx hb dL_law_1188 (lv_at hl 6 rfl) ?_
    refine lv_iconst (v := 1) hx hb dL_law_1190 (by decide) ?_
    refine lv_iadd hx hb dL_law_1191 ?_
    refine va_sld hx hb hX hbl0 hbA hS h1 dL_law_1192 ?_
    refine lv_aload_n hx hb dL_law_1193 rfl (lv_at hl 1 rfl) ?_
    refine lv_iload hx hb dL_law_1194 (lv_at hl 6 rfl) ?_
    refine lv_iconst (v := 2) hx hb dL_law_1196 (by decide) ?_
    refine lv_iadd hx hb dL_law_1197 ?_
    refine va_sld hx hb hX hbl0 hbA hS h2 dL_law_1198 ?_
    refine mu_compi (wcs := [(wModE cy ma y0 0 y2 y3 y4 y5 y6 y7 y8 y9 y10 y11 y12 y13)]) (wns := fun u8 => [(wModE cy ma y0 0 y2 u8.1 u8.2.1 y5 y6 y7 y8 y9 u8.2.2 y11 y12 y13)]) (W2 := fun u8 => (LWL cy g p70 b7 c7 d7 e7 h7 k7 q ma o od st v w v2 w2 z s0 s1 s2 s3 tx y0 0 y2 u8.1 u8.2.1 y5 y6 y7 y8 y9 u8.2.2 y11 y12 y13 out outD)) (va_runV (C := RX8) (As := [.int (xs (i + 1).toNatClampNeg), .int (xs (i + 2).toNatClampNeg)]) (rest := []) S (c_X8_swingsWith l D cy g s.heap.size ma y0 0 y2 y3 y4 y5 y6 y7 y8 y9 y10 y11 y12 y13 (xs (i + 1).toNatClampNeg) (xs (i + 2).toNatClampNeg) (GSf hg).1 (GSf hg).2.2.1) (cwV 2 hts gL_law_X8_swingsWith rfl rfl rfl hd_X8_swingsWith_V ⟨Nat.le_of_ble_eq_true rfl, Nat.le_of_ble_eq_true rfl⟩) ⟨muP_blind, va_recv hK0.1 hP (ci := 6) (q0 := 90) rfl rfl, my_preC (wcs := [(wModE cy ma y0 0 y2 y3 y4 y5 y6 y7 y8 y9 y10 y11 y12 y13)]) hK0 hS hAB hP hD [11] (by decide) rfl (List.append_nil _)⟩ rfl rfl hl.1 rfl (lv_room (Nat.le_of_ble_eq_true rfl)) dL_law_1199 ⟨(show cells + 2 ≤ 601024 by omega), (show slots + 12 ≤ 7293033 by omega)⟩) hS hP hD [11] rfl (List.append_nil _) (fun _ => List.append_nil _) (fun _ => by simp only [List.map_cons, List.map_nil, adrSet, adrSetE, adrPow, adrPowE, adrTxt, adrTxtE, adrSav, adrSavE, adrPCo, adrMod, adrModE, adrL, adrDb]) (fun _ => rfl) (fun r9 u9 H locs hw hP hD hS => ?_)
    obtain ⟨rfl, rfl⟩ := Prod.mk.inj (e4.symm.trans hw)
    have hP : va_P D vwCl (LW cy g p70 b7 c7 d7 e7 h7 k7 q ma o od st v w v2 w2 z s0 s1 s2 s3 tx y0 0 y2 ((fun f : Int32 => f) f) y4 y5 y6 y7 y8 y9 y10 y11 y12 y13 out outD) H := hP
    have hD : va_D (fun q => s.heap.size ≤ q) (LW cy g p70 b7 c7 d7 e7 h7 k7 q ma o od st v w v2 w2 z s0 s1 s2 s3 tx y0 0 y2 ((fun f : Int32 => f) f) y4 y5 y6 y7 y8 y9 y10 y11 y12 y13 out outD) := hD
    refine lv_istore (lv' := [(7, .int 0), (6, .int ((fun f : Int32 => f) f)), (0, .ref b), (1, .ref p70), (2, .ref (ma 0)), (3, .ref o), (4, .ref od), (5, .int i)]) hx hb dL_law_1202 hl (by decide) rfl (fun ls hl => ?_)
    refine lv_aload_n hx hb dL_law_1204 rfl (lv_at hl 4 rfl) ?_
    refine rd_goi (va_runV (C := RX8) (As := []) (rest := []) S (c_X8_thrown l D cy g s.heap.size ma y0 0 y2 ((fun f : Int32 => f) f) y4 y5 y6 y7 y8 y9 y10 y11 y12 y13) (cwV 0 hts gL_law_X8_thrown rfl rfl rfl hd_X8_thrown_V ⟨Nat.le_of_ble_eq_true rfl, Nat.le_of_ble_eq_true rfl⟩) ⟨rdP_blind, va_recv hK0.1 hP (ci := 6) (q0 := 90) rfl rfl, my_preV hK0 hS hAB hP [90, 91, 92, 93, 94, 95, 96, 97] rfl⟩ rfl rfl hl.1 rfl (lv_room (Nat.le_of_ble_eq_true rfl)) dL_law_1205 ⟨(show cells + 2 ≤ 601024 by omega), (show slots + 12 ≤ 7293033 by omega)⟩) ?_
    refine lv_iload hx hb dL_law_1208 (lv_at hl 1 rfl) ?_
    refine lv_icmp_eq (tgt := 1215) hx hb dL_law_1210 (by decide) (fun _ => ?_) (fun h9 => absurd (show ((f_X8_thrown ((fun f : Int32 => f) f)) : Int32) = ((fun f : Int32 => f) f) from rfl) h9)
    refine lv_iload hx hb dL_law_1215 (lv_at hl 1 rfl) ?_
    refine lv_if_ne (tgt := 1232) hx hb dL_law_1217 (by decide) (fun _ => ?_) (fun h9 => absurd h9 hne)
    refine lv_goto (tgt := 1700) hx hb dL_law_1232 (by decide) ?_
    refine W.widen (k := cells + 2) (n := slots + 12) (by omega) (by omega) ?_
    exact K H locs ls ⟨st, v, w, v2, w2, z, s0, s1, s2, s3, tx, y0, y2, ((fun f : Int32 => f) f), y4, y5, y6, y7, y8, y9, y10, y11, y12, y13, out, outD, hv, hg, hp, hrg, htx, hbl, hP, hD⟩ hS (lv_sub hl [2, 3, 4, 5, 6, 7] rfl)
  · refine lv_aload_n hx hb dL_law_1167 rfl (lv_at hl 1 rfl) ?_
    refine lv_aload_n hx hb dL_law_1168 rfl (lv_at hl 0 rfl) ?_
    refine lv_iload hx hb dL_law_1169 (lv_at hl 5 rfl) ?_
    refine lv_iconst (v := 1) hx hb dL_law_1171 (by decide) ?_
    refine lv_iadd hx hb dL_law_1172 ?_
    refine va_sld hx hb hX hbl0 hbA hS h1 dL_law_1173 ?_
    refine lv_aload_n hx hb dL_law_1174 rfl (lv_at hl 0 rfl) ?_
    refine lv_iload hx hb dL_law_1175 (lv_at hl 5 rfl) ?_
    refine lv_iconst (v := 2) hx hb dL_law_1177 (by decide) ?_
    refine lv_iadd hx hb dL_law_1178 ?_
    refine va_sld hx hb hX hbl0 hbA hS h2 dL_law_1179 ?_
    refine lv_aload_n hx hb dL_law_1180 rfl (lv_at hl 3 rfl) ?_
    refine lw_compi (wcs := [(wPCo p70 b7 c7 d7 e7 h7 k7 st), (wSet cy b7 v), (wSet cy d7 v2), (wPow cy e7 w2), (wL cy o out)]) (wns := fun u8 => [(wPCo p70 b7 c7 d7 e7 h7 k7 st), (wSet cy b7 v), (wSet cy d7 u8.1.1), (wPow cy e7 u8.1.2), (wL cy o u8.2)]) (W2 := fun u8 => (LWL cy g p70 b7 c7 d7 e7 h7 k7 q ma o od st v w u8.1.1 u8.1.2 z s0 s1 s2 s3 tx y0 0 y2 y3 y4 y5 y6 y7 y8 y9 y10 y11 y12 y13 u8.2 outD)) (vx_runSW (As := [.ref p70, .int (xs (i + 1).toNatClampNeg), .int (xs (i + 2).toNatClampNeg), .ref o]) (rest := []) S (c_L_swingsWith l hl0 D cy g s.heap.size p70 b7 c7 d7 e7 h7 k7 st v v2 w2 (xs (i + 1).toNatClampNeg) (xs (i + 2).toNatClampNeg) o out (fun k h => k_swingsWith h)) (vx_cwSW 4 hts gL_law_L_swingsWith rfl rfl rfl hd_L_swingsWith_S ⟨Nat.le_of_ble_eq_true rfl, Nat.le_of_ble_eq_true rfl⟩) ⟨lwP_blind, my_preL (wcs := [(wPCo p70 b7 c7 d7 e7 h7 k7 st), (wSet cy b7 v), (wSet cy d7 v2), (wPow cy e7 w2), (wL cy o out)]) hK0 hNc hS hAB hP hD [0, 1, 3, 4, 12] (by decide) rfl rfl⟩ rfl rfl hl.1 rfl (lv_room (Nat.le_of_ble_eq_true rfl)) dL_law_1181 ⟨(show cells + 2 ≤ 601024 by omega), (show slots + 12 ≤ 7293033 by omega)⟩) hS hP hD [0, 1, 3, 4, 12] rfl rfl (fun _ => rfl) (fun _ => by simp only [List.map_cons, List.map_nil, adrSet, adrSetE, adrPow, adrPowE, adrTxt, adrTxtE, adrSav, adrSavE, adrPCo, adrMod, adrModE, adrL, adrDb]) (fun _ => rfl) (fun r9 u9 H locs hw hP hD hS => ?_)
    obtain ⟨rfl, rfl⟩ := Prod.mk.inj ((wrI_r e1).symm.trans hw)
    have hP : va_P D vwCl (LW cy g p70 b7 c7 d7 e7 h7 k7 q ma o od st v w u.1 u.2 z s0 s1 s2 s3 tx y0 0 y2 y3 y4 y5 y6 y7 y8 y9 y10 y11 y12 y13 (vp_updL out 0 (Int32.toInt64 r)) outD) H := hP
    have hD : va_D (fun q => s.heap.size ≤ q) (LW cy g p70 b7 c7 d7 e7 h7 k7 q ma o od st v w u.1 u.2 z s0 s1 s2 s3 tx y0 0 y2 y3 y4 y5 y6 y7 y8 y9 y10 y11 y12 y13 (vp_updL out 0 (Int32.toInt64 r)) outD) := hD
    refine lv_istore (lv' := [(6, .int 0), (0, .ref b), (1, .ref p70), (2, .ref (ma 0)), (3, .ref o), (4, .ref od), (5, .int i)]) hx hb dL_law_1184 hl (by decide) rfl (fun ls hl => ?_)
    refine lv_aload_n hx hb dL_law_1186 rfl (lv_at hl 3 rfl) ?_
    refine lv_aload_n hx hb dL_law_1187 rfl (lv_at hl 1 rfl) ?_
    refine lv_iload hx hb dL_law_1188 (lv_at hl 6 rfl) ?_
    refine lv_iconst (v := 1) hx hb dL_law_1190 (by decide) ?_
    refine lv_iadd hx hb dL_law_1191 ?_
    refine va_sld hx hb hX hbl0 hbA hS h1 dL_law_1192 ?_
    refine lv_aload_n hx hb dL_law_1193 rfl (lv_at hl 1 rfl) ?_
    refine lv_iload hx hb dL_law_1194 (lv_at hl 6 rfl) ?_
    refine lv_iconst (v := 2) hx hb dL_law_1196 (by decide) ?_
    refine lv_iadd hx hb dL_law_1197 ?_
    refine va_sld hx hb hX hbl0 hbA hS h2 dL_law_1198 ?_
    refine mu_compi (wcs := [(wModE cy ma y0 0 y2 y3 y4 y5 y6 y7 y8 y9 y10 y11 y12 y13)]) (wns := fun u8 => [(wModE cy ma y0 0 y2 u8.1 u8.2.1 y5 y6 y7 y8 y9 u8.2.2 y11 y12 y13)]) (W2 := fun u8 => (LWL cy g p70 b7 c7 d7 e7 h7 k7 q ma o od st v w u.1 u.2 z s0 s1 s2 s3 tx y0 0 y2 u8.1 u8.2.1 y5 y6 y7 y8 y9 u8.2.2 y11 y12 y13 (vp_updL out 0 (Int32.toInt64 r)) outD)) (va_runV (C := RX8) (As := [.int (xs (i + 1).toNatClampNeg), .int (xs (i + 2).toNatClampNeg)]) (rest := []) S (c_X8_swingsWith l D cy g s.heap.size ma y0 0 y2 y3 y4 y5 y6 y7 y8 y9 y10 y11 y12 y13 (xs (i + 1).toNatClampNeg) (xs (i + 2).toNatClampNeg) (GSf hg).1 (GSf hg).2.2.1) (cwV 2 hts gL_law_X8_swingsWith rfl rfl rfl hd_X8_swingsWith_V ⟨Nat.le_of_ble_eq_true rfl, Nat.le_of_ble_eq_true rfl⟩) ⟨muP_blind, va_recv hK0.1 hP (ci := 6) (q0 := 90) rfl rfl, my_preC (wcs := [(wModE cy ma y0 0 y2 y3 y4 y5 y6 y7 y8 y9 y10 y11 y12 y13)]) hK0 hS hAB hP hD [11] (by decide) rfl (List.append_nil _)⟩ rfl rfl hl.1 rfl (lv_room (Nat.le_of_ble_eq_true rfl)) dL_law_1199 ⟨(show cells + 2 ≤ 601024 by omega), (show slots + 12 ≤ 7293033 by omega)⟩) hS hP hD [11] rfl (List.append_nil _) (fun _ => List.append_nil _) (fun _ => by simp only [List.map_cons, List.map_nil, adrSet, adrSetE, adrPow, adrPowE, adrTxt, adrTxtE, adrSav, adrSavE, adrPCo, adrMod, adrModE, adrL, adrDb]) (fun _ => rfl) (fun r9 u9 H locs hw hP hD hS => ?_)
    obtain ⟨rfl, rfl⟩ := Prod.mk.inj (e4.symm.trans hw)
    have hP : va_P D vwCl (LW cy g p70 b7 c7 d7 e7 h7 k7 q ma o od st v w u.1 u.2 z s0 s1 s2 s3 tx y0 0 y2 0 pp.1 y5 y6 y7 y8 y9 pp.2 y11 y12 y13 (vp_updL out 0 (Int32.toInt64 r)) outD) H := hP
    have hD : va_D (fun q => s.heap.size ≤ q) (LW cy g p70 b7 c7 d7 e7 h7 k7 q ma o od st v w u.1 u.2 z s0 s1 s2 s3 tx y0 0 y2 0 pp.1 y5 y6 y7 y8 y9 pp.2 y11 y12 y13 (vp_updL out 0 (Int32.toInt64 r)) outD) := hD
    refine lv_istore (lv' := [(7, .int r), (6, .int 0), (0, .ref b), (1, .ref p70), (2, .ref (ma 0)), (3, .ref o), (4, .ref od), (5, .int i)]) hx hb dL_law_1202 hl (by decide) rfl (fun ls hl => ?_)
    refine lv_aload_n hx hb dL_law_1204 rfl (lv_at hl 4 rfl) ?_
    refine rd_goi (va_runV (C := RX8) (As := []) (rest := []) S (c_X8_thrown l D cy g s.heap.size ma y0 0 y2 0 pp.1 y5 y6 y7 y8 y9 pp.2 y11 y12 y13) (cwV 0 hts gL_law_X8_thrown rfl rfl rfl hd_X8_thrown_V ⟨Nat.le_of_ble_eq_true rfl, Nat.le_of_ble_eq_true rfl⟩) ⟨rdP_blind, va_recv hK0.1 hP (ci := 6) (q0 := 90) rfl rfl, my_preV hK0 hS hAB hP [90, 91, 92, 93, 94, 95, 96, 97] rfl⟩ rfl rfl hl.1 rfl (lv_room (Nat.le_of_ble_eq_true rfl)) dL_law_1205 ⟨(show cells + 2 ≤ 601024 by omega), (show slots + 12 ≤ 7293033 by omega)⟩) ?_
    refine lv_iload hx hb dL_law_1208 (lv_at hl 1 rfl) ?_
    refine lv_icmp_eq (tgt := 1215) hx hb dL_law_1210 (by decide) (fun _ => ?_) (fun h9 => absurd (show ((f_X8_thrown 0) : Int32) = 0 from rfl) h9)
    refine lv_iload hx hb dL_law_1215 (lv_at hl 1 rfl) ?_
    refine lv_if_ne (tgt := 1232) hx hb dL_law_1217 (by decide) (fun h9 => absurd rfl h9) (fun _ => ?_)
    refine lv_aload_n hx hb dL_law_1220 rfl (lv_at hl 5 rfl) ?_
    refine lv_iconst (v := 0) hx hb dL_law_1221 (by decide) ?_
    refine va_lald hx hb hK0.1 hP 98 3 rfl rfl (i := 0) (show ¬ ((0 : Int32) < 0 ∨ 1 ≤ (0 : Int32).toNatClampNeg) by decide) dL_law_1222 ?_
    refine lv_iload hx hb dL_law_1223 (lv_at hl 0 rfl) ?_
    refine lv_i2l (v := (Int32.toInt64 r)) hx hb dL_law_1225 rfl ?_
    refine W.lcmp hx hb dL_law_1226 ?_
    refine lv_if_eq (tgt := 1232) hx hb dL_law_1227 (by decide) (fun _ => ?_) (fun h9 => absurd ((lg_cmp_eq _ _).mpr rfl) h9)
    refine lv_goto (tgt := 1700) hx hb dL_law_1232 (by decide) ?_
    refine W.widen (k := cells + 2) (n := slots + 12) (by omega) (by omega) ?_
    exact K H locs ls ⟨st, v, w, u.1, u.2, z, s0, s1, s2, s3, tx, y0, y2, 0, pp.1, y5, y6, y7, y8, y9, pp.2, y11, y12, y13, (vp_updL out 0 (Int32.toInt64 r)), outD, hv, hg, hp, hrg, htx, e6, hP, hD⟩ hS (lv_sub hl [2, 3, 4, 5, 6, 7] rfl)
set_option maxHeartbeats 4000000 in
set_option maxRecDepth 100000 in
theorem law_bestQuota (C : LC p l e s m meth c b L xs D cy g) (hc : cells ≤ 590000) (hs : slots ≤ 7000000) (h1 : vp_in (i + 1) L) (h2 : vp_in (i + 2) L) (hI : LInv D cy g p70 b7 c7 d7 e7 h7 k7 q ma o od s.heap.size H) (hS : va_S (fun q => s.heap.size ≤ q) s.heap H locs) (hl : lv_has ls 9 [(0, .ref b), (1, .ref p70), (2, .ref (ma 0)), (3, .ref o), (4, .ref od), (5, .int i)])
    (K : ∀ (H : Heap) (locs : List Loc) (ls : Array Slot), LInv D cy g p70 b7 c7 d7 e7 h7 k7 q ma o od s.heap.size H → va_S (fun q => s.heap.size ≤ q) s.heap H locs → lv_has ls 9 [(0, .ref b), (1, .ref p70), (2, .ref (ma 0)), (3, .ref o), (4, .ref od), (5, .int i)] → W p l e room_1 s m #[Value.ref b] below meth c H locs (cells + 2) (slots + 12) Q (F0 m 1700 ls [])) : W p l e room_1 s m #[Value.ref b] below meth c H locs cells slots Q (F0 m 1235 ls []) := by
  obtain ⟨hl0, hx, hb, hr, hml, hown, hts, hX, hbl0, hlocks, hK0, hNc, hL⟩ := C
  obtain ⟨st, v, w, v2, w2, z, s0, s1, s2, s3, tx, y0, y2, y3, y4, y5, y6, y7, y8, y9, y10, y11, y12, y13, out, outD, hv, hg, hp, hrg, htx, hbl, hP, hD⟩ := hI
  have S := my_fix hx hb hml hown hts
  have hAB : ∀ q : Nat, s.heap.size ≤ q → s.heap.size ≤ q := fun _ h => h
  have hbA : ¬ s.heap.size ≤ b := Nat.not_le.mpr hbl0
  rcases R_bestQuota hv hg hp hbl (xs (i + 1).toNatClampNeg) with ⟨f, e1, _, e3, e4⟩ | ⟨r, u, pp, e1, e4, e5, e6⟩
  · have hne : ¬ ((fun _ : Int32 => (1 : Int32)) f) = 0 := pos_ne e3
    have e4 : f_X8_bestQuota y4 y7 y10 (xs (i + 1).toNatClampNeg) = (0, (((fun _ : Int32 => (1 : Int32)) f), y4, y10)) := e4
    refine lv_aload_n hx hb dL_law_1235 rfl (lv_at hl 1 rfl) ?_
    refine lv_aload_n hx hb dL_law_1236 rfl (lv_at hl 0 rfl) ?_
    refine lv_iload hx hb dL_law_1237 (lv_at hl 5 rfl) ?_
    refine lv_iconst (v := 1) hx hb dL_law_1239 (by decide) ?_
    refine lv_iadd hx hb dL_law_1240 ?_
    refine va_sld hx hb hX hbl0 hbA hS h1 dL_law_1241 ?_
    refine lv_aload_n hx hb dL_law_1242 rfl (lv_at hl 3 rfl) ?_
    refine lw_compi (wcs := [(wPCo p70 b7 c7 d7 e7 h7 k7 st), (wSet cy b7 v), (wPow cy c7 w), (wL cy o out)]) (wns := fun u8 => [(wPCo p70 b7 c7 d7 e7 h7 k7 u8.1.1), (wSet cy b7 v), (wPow cy c7 u8.1.2), (wL cy o u8.2)]) (W2 := fun u8 => (LWL cy g p70 b7 c7 d7 e7 h7 k7 q ma o od u8.1.1 v u8.1.2 v2 w2 z s0 s1 s2 s3 tx y0 0 y2 y3 y4 y5 y6 y7 y8 y9 y10 y11 y12 y13 u8.2 outD)) (vx_runSW (As := [.ref p70, .int (xs (i + 1).toNatClampNeg), .ref o]) (rest := []) S (c_L_bestQuota l hl0 D cy g s.heap.size p70 b7 c7 d7 e7 h7 k7 st v w (xs (i + 1).toNatClampNeg) o out (fun k h => k_bestQuota h)) (vx_cwSW 3 hts gL_law_L_bestQuota rfl rfl rfl hd_L_bestQuota_S ⟨Nat.le_of_ble_eq_true rfl, Nat.le_of_ble_eq_true rfl⟩) ⟨lwP_blind, my_preL (wcs := [(wPCo p70 b7 c7 d7 e7 h7 k7 st), (wSet cy b7 v), (wPow cy c7 w), (wL cy o out)]) hK0 hNc hS hAB hP hD [0, 1, 2, 12] (by decide) rfl rfl⟩ rfl rfl hl.1 rfl (lv_room (Nat.le_of_ble_eq_true rfl)) dL_law_1243 ⟨(show cells + 1 ≤ 601024 by omega), (show slots + 6 ≤ 7293033 by omega)⟩) hS hP hD [0, 1, 2, 12] rfl rfl (fun _ => rfl) (fun _ => by simp only [List.map_cons, List.map_nil, adrSet, adrSetE, adrPow, adrPowE, adrTxt, adrTxtE, adrSav, adrSavE, adrPCo, adrMod, adrModE, adrL, adrDb]) (fun _ => rfl) (fun r9 u9 H locs hw hP hD hS => ?_)
    obtain ⟨rfl, rfl⟩ := Prod.mk.inj ((wrI_l e1).symm.trans hw)
    have hP : va_P D vwCl (LW cy g p70 b7 c7 d7 e7 h7 k7 q ma o od st v w v2 w2 z s0 s1 s2 s3 tx y0 0 y2 y3 y4 y5 y6 y7 y8 y9 y10 y11 y12 y13 out outD) H := hP
    have hD : va_D (fun q => s.heap.size ≤ q) (LW cy g p70 b7 c7 d7 e7 h7 k7 q ma o od st v w v2 w2 z s0 s1 s2 s3 tx y0 0 y2 y3 y4 y5 y6 y7 y8 y9 y10 y11 y12 y13 out outD) := hD
    refine lv_istore (lv' := [(6, .int ((fun _ : Int32 => (1 : Int32)) f)), (0, .ref b), (1, .ref p70), (2, .ref (ma 0)), (3, .ref o), (4, .ref od), (5, .int i)]) hx hb dL_law_1246 hl (by decide) rfl (fun ls hl => ?_)
    refine lv_aload_n hx hb dL_law_1248 rfl (lv_at hl 3 rfl) ?_
    refine lv_aload_n hx hb dL_law_1249 rfl (lv_at hl 1 rfl) ?_
    refine lv_iload hx hb dL_law_1250 (lv_at hl 6 rfl) ?_
    refine lv_iconst (v := 1) hx hb dL_law_1252 (by decide) ?_
    refine lv_iadd hx hb dL_law_1253 ?_
    refine va_sld hx hb hX hbl0 hbA hS h1 dL_law_1254 ?_
    refine mu_compi (wcs := [(wModE cy ma y0 0 y2 y3 y4 y5 y6 y7 y8 y9 y10 y11 y12 y13)]) (wns := fun u8 => [(wModE cy ma y0 0 y2 u8.1 u8.2.1 y5 y6 y7 y8 y9 u8.2.2 y11 y12 y13)]) (W2 := fun u8 => (LWL cy g p70 b7 c7 d7 e7 h7 k7 q ma o od st v w v2 w2 z s0 s1 s2 s3 tx y0 0 y2 u8.1 u8.2.1 y5 y6 y7 y8 y9 u8.2.2 y11 y12 y13 out outD)) (va_runV (C := RX8) (As := [.int (xs (i + 1).toNatClampNeg)]) (rest := []) S (c_X8_bestQuota l D cy g s.heap.size ma y0 0 y2 y3 y4 y5 y6 y7 y8 y9 y10 y11 y12 y13 (xs (i + 1).toNatClampNeg) (GSf hg).1 (GSf hg).2.2.1 (sumf hg)) (cwV 1 hts gL_law_X8_bestQuota rfl rfl rfl hd_X8_bestQuota_V ⟨Nat.le_of_ble_eq_true rfl, Nat.le_of_ble_eq_true rfl⟩) ⟨muP_blind, va_recv hK0.1 hP (ci := 6) (q0 := 90) rfl rfl, my_preC (wcs := [(wModE cy ma y0 0 y2 y3 y4 y5 y6 y7 y8 y9 y10 y11 y12 y13)]) hK0 hS hAB hP hD [11] (by decide) rfl (List.append_nil _)⟩ rfl rfl hl.1 rfl (lv_room (Nat.le_of_ble_eq_true rfl)) dL_law_1255 ⟨(show cells + 1 ≤ 601024 by omega), (show slots + 6 ≤ 7293033 by omega)⟩) hS hP hD [11] rfl (List.append_nil _) (fun _ => List.append_nil _) (fun _ => by simp only [List.map_cons, List.map_nil, adrSet, adrSetE, adrPow, adrPowE, adrTxt, adrTxtE, adrSav, adrSavE, adrPCo, adrMod, adrModE, adrL, adrDb]) (fun _ => rfl) (fun r9 u9 H locs hw hP hD hS => ?_)
    obtain ⟨rfl, rfl⟩ := Prod.mk.inj (e4.symm.trans hw)
    have hP : va_P D vwCl (LW cy g p70 b7 c7 d7 e7 h7 k7 q ma o od st v w v2 w2 z s0 s1 s2 s3 tx y0 0 y2 ((fun _ : Int32 => (1 : Int32)) f) y4 y5 y6 y7 y8 y9 y10 y11 y12 y13 out outD) H := hP
    have hD : va_D (fun q => s.heap.size ≤ q) (LW cy g p70 b7 c7 d7 e7 h7 k7 q ma o od st v w v2 w2 z s0 s1 s2 s3 tx y0 0 y2 ((fun _ : Int32 => (1 : Int32)) f) y4 y5 y6 y7 y8 y9 y10 y11 y12 y13 out outD) := hD
    refine lv_istore (lv' := [(7, .int 0), (6, .int ((fun _ : Int32 => (1 : Int32)) f)), (0, .ref b), (1, .ref p70), (2, .ref (ma 0)), (3, .ref o), (4, .ref od), (5, .int i)]) hx hb dL_law_1258 hl (by decide) rfl (fun ls hl => ?_)
    refine lv_aload_n hx hb dL_law_1260 rfl (lv_at hl 4 rfl) ?_
    refine rd_goi (va_runV (C := RX8) (As := []) (rest := []) S (c_X8_thrown l D cy g s.heap.size ma y0 0 y2 ((fun _ : Int32 => (1 : Int32)) f) y4 y5 y6 y7 y8 y9 y10 y11 y12 y13) (cwV 0 hts gL_law_X8_thrown rfl rfl rfl hd_X8_thrown_V ⟨Nat.le_of_ble_eq_true rfl, Nat.le_of_ble_eq_true rfl⟩) ⟨rdP_blind, va_recv hK0.1 hP (ci := 6) (q0 := 90) rfl rfl, my_preV hK0 hS hAB hP [90, 91, 92, 93, 94, 95, 96, 97] rfl⟩ rfl rfl hl.1 rfl (lv_room (Nat.le_of_ble_eq_true rfl)) dL_law_1261 ⟨(show cells + 1 ≤ 601024 by omega), (show slots + 6 ≤ 7293033 by omega)⟩) ?_
    refine lv_iload hx hb dL_law_1264 (lv_at hl 1 rfl) ?_
    refine lv_icmp_eq (tgt := 1271) hx hb dL_law_1266 (by decide) (fun _ => ?_) (fun h9 => absurd (show ((f_X8_thrown ((fun _ : Int32 => (1 : Int32)) f)) : Int32) = ((fun _ : Int32 => (1 : Int32)) f) from rfl) h9)
    refine lv_iload hx hb dL_law_1271 (lv_at hl 1 rfl) ?_
    refine lv_if_ne (tgt := 1288) hx hb dL_law_1273 (by decide) (fun _ => ?_) (fun h9 => absurd h9 hne)
    refine lv_goto (tgt := 1700) hx hb dL_law_1288 (by decide) ?_
    refine W.widen (k := cells + 2) (n := slots + 12) (by omega) (by omega) ?_
    exact K H locs ls ⟨st, v, w, v2, w2, z, s0, s1, s2, s3, tx, y0, y2, ((fun _ : Int32 => (1 : Int32)) f), y4, y5, y6, y7, y8, y9, y10, y11, y12, y13, out, outD, hv, hg, hp, hrg, htx, hbl, hP, hD⟩ hS (lv_sub hl [2, 3, 4, 5, 6, 7] rfl)
  · refine lv_aload_n hx hb dL_law_1235 rfl (lv_at hl 1 rfl) ?_
    refine lv_aload_n hx hb dL_law_1236 rfl (lv_at hl 0 rfl) ?_
    refine lv_iload hx hb dL_law_1237 (lv_at hl 5 rfl) ?_
    refine lv_iconst (v := 1) hx hb dL_law_1239 (by decide) ?_
    refine lv_iadd hx hb dL_law_1240 ?_
    refine va_sld hx hb hX hbl0 hbA hS h1 dL_law_1241 ?_
    refine lv_aload_n hx hb dL_law_1242 rfl (lv_at hl 3 rfl) ?_
    refine lw_compi (wcs := [(wPCo p70 b7 c7 d7 e7 h7 k7 st), (wSet cy b7 v), (wPow cy c7 w), (wL cy o out)]) (wns := fun u8 => [(wPCo p70 b7 c7 d7 e7 h7 k7 u8.1.1), (wSet cy b7 v), (wPow cy c7 u8.1.2), (wL cy o u8.2)]) (W2 := fun u8 => (LWL cy g p70 b7 c7 d7 e7 h7 k7 q ma o od u8.1.1 v u8.1.2 v2 w2 z s0 s1 s2 s3 tx y0 0 y2 y3 y4 y5 y6 y7 y8 y9 y10 y11 y12 y13 u8.2 outD)) (vx_runSW (As := [.ref p70, .int (xs (i + 1).toNatClampNeg), .ref o]) (rest := []) S (c_L_bestQuota l hl0 D cy g s.heap.size p70 b7 c7 d7 e7 h7 k7 st v w (xs (i + 1).toNatClampNeg) o out (fun k h => k_bestQuota h)) (vx_cwSW 3 hts gL_law_L_bestQuota rfl rfl rfl hd_L_bestQuota_S ⟨Nat.le_of_ble_eq_true rfl, Nat.le_of_ble_eq_true rfl⟩) ⟨lwP_blind, my_preL (wcs := [(wPCo p70 b7 c7 d7 e7 h7 k7 st), (wSet cy b7 v), (wPow cy c7 w), (wL cy o out)]) hK0 hNc hS hAB hP hD [0, 1, 2, 12] (by decide) rfl rfl⟩ rfl rfl hl.1 rfl (lv_room (Nat.le_of_ble_eq_true rfl)) dL_law_1243 ⟨(show cells + 1 ≤ 601024 by omega), (show slots + 6 ≤ 7293033 by omega)⟩) hS hP hD [0, 1, 2, 12] rfl rfl (fun _ => rfl) (fun _ => by simp only [List.map_cons, List.map_nil, adrSet, adrSetE, adrPow, adrPowE, adrTxt, adrTxtE, adrSav, adrSavE, adrPCo, adrMod, adrModE, adrL, adrDb]) (fun _ => rfl) (fun r9 u9 H locs hw hP hD hS => ?_)
    obtain ⟨rfl, rfl⟩ := Prod.mk.inj ((wrI_r e1).symm.trans hw)
    have hP : va_P D vwCl (LW cy g p70 b7 c7 d7 e7 h7 k7 q ma o od u.1 v u.2 v2 w2 z s0 s1 s2 s3 tx y0 0 y2 y3 y4 y5 y6 y7 y8 y9 y10 y11 y12 y13 (vp_updL out 0 (Int32.toInt64 r)) outD) H := hP
    have hD : va_D (fun q => s.heap.size ≤ q) (LW cy g p70 b7 c7 d7 e7 h7 k7 q ma o od u.1 v u.2 v2 w2 z s0 s1 s2 s3 tx y0 0 y2 y3 y4 y5 y6 y7 y8 y9 y10 y11 y12 y13 (vp_updL out 0 (Int32.toInt64 r)) outD) := hD
    refine lv_istore (lv' := [(6, .int 0), (0, .ref b), (1, .ref p70), (2, .ref (ma 0)), (3, .ref o), (4, .ref od), (5, .int i)]) hx hb dL_law_1246 hl (by decide) rfl (fun ls hl => ?_)
    refine lv_aload_n hx hb dL_law_1248 rfl (lv_at hl 3 rfl) ?_
    refine lv_aload_n hx hb dL_law_1249 rfl (lv_at hl 1 rfl) ?_
    refine lv_iload hx hb dL_law_1250 (lv_at hl 6 rfl) ?_
    refine lv_iconst (v := 1) hx hb dL_law_1252 (by decide) ?_
    refine lv_iadd hx hb dL_law_1253 ?_
    refine va_sld hx hb hX hbl0 hbA hS h1 dL_law_1254 ?_
    refine mu_compi (wcs := [(wModE cy ma y0 0 y2 y3 y4 y5 y6 y7 y8 y9 y10 y11 y12 y13)]) (wns := fun u8 => [(wModE cy ma y0 0 y2 u8.1 u8.2.1 y5 y6 y7 y8 y9 u8.2.2 y11 y12 y13)]) (W2 := fun u8 => (LWL cy g p70 b7 c7 d7 e7 h7 k7 q ma o od u.1 v u.2 v2 w2 z s0 s1 s2 s3 tx y0 0 y2 u8.1 u8.2.1 y5 y6 y7 y8 y9 u8.2.2 y11 y12 y13 (vp_updL out 0 (Int32.toInt64 r)) outD)) (va_runV (C := RX8) (As := [.int (xs (i + 1).toNatClampNeg)]) (rest := []) S (c_X8_bestQuota l D cy g s.heap.size ma y0 0 y2 y3 y4 y5 y6 y7 y8 y9 y10 y11 y12 y13 (xs (i + 1).toNatClampNeg) (GSf hg).1 (GSf hg).2.2.1 (sumf hg)) (cwV 1 hts gL_law_X8_bestQuota rfl rfl rfl hd_X8_bestQuota_V ⟨Nat.le_of_ble_eq_true rfl, Nat.le_of_ble_eq_true rfl⟩) ⟨muP_blind, va_recv hK0.1 hP (ci := 6) (q0 := 90) rfl rfl, my_preC (wcs := [(wModE cy ma y0 0 y2 y3 y4 y5 y6 y7 y8 y9 y10 y11 y12 y13)]) hK0 hS hAB hP hD [11] (by decide) rfl (List.append_nil _)⟩ rfl rfl hl.1 rfl (lv_room (Nat.le_of_ble_eq_true rfl)) dL_law_1255 ⟨(show cells + 1 ≤ 601024 by omega), (show slots + 6 ≤ 7293033 by omega)⟩) hS hP hD [11] rfl (List.append_nil _) (fun _ => List.append_nil _) (fun _ => by simp only [List.map_cons, List.map_nil, adrSet, adrSetE, adrPow, adrPowE, adrTxt, adrTxtE, adrSav, adrSavE, adrPCo, adrMod, adrModE, adrL, adrDb]) (fun _ => rfl) (fun r9 u9 H locs hw hP hD hS => ?_)
    obtain ⟨rfl, rfl⟩ := Prod.mk.inj (e4.symm.trans hw)
    have hP : va_P D vwCl (LW cy g p70 b7 c7 d7 e7 h7 k7 q ma o od u.1 v u.2 v2 w2 z s0 s1 s2 s3 tx y0 0 y2 0 pp.1 y5 y6 y7 y8 y9 pp.2 y11 y12 y13 (vp_updL out 0 (Int32.toInt64 r)) outD) H := hP
    have hD : va_D (fun q => s.heap.size ≤ q) (LW cy g p70 b7 c7 d7 e7 h7 k7 q ma o od u.1 v u.2 v2 w2 z s0 s1 s2 s3 tx y0 0 y2 0 pp.1 y5 y6 y7 y8 y9 pp.2 y11 y12 y13 (vp_updL out 0 (Int32.toInt64 r)) outD) := hD
    refine lv_istore (lv' := [(7, .int r), (6, .int 0), (0, .ref b), (1, .ref p70), (2, .ref (ma 0)), (3, .ref o), (4, .ref od), (5, .int i)]) hx hb dL_law_1258 hl (by decide) rfl (fun ls hl => ?_)
    refine lv_aload_n hx hb dL_law_1260 rfl (lv_at hl 4 rfl) ?_
    refine rd_goi (va_runV (C := RX8) (As := []) (rest := []) S (c_X8_thrown l D cy g s.heap.size ma y0 0 y2 0 pp.1 y5 y6 y7 y8 y9 pp.2 y11 y12 y13) (cwV 0 hts gL_law_X8_thrown rfl rfl rfl hd_X8_thrown_V ⟨Nat.le_of_ble_eq_true rfl, Nat.le_of_ble_eq_true rfl⟩) ⟨rdP_blind, va_recv hK0.1 hP (ci := 6) (q0 := 90) rfl rfl, my_preV hK0 hS hAB hP [90, 91, 92, 93, 94, 95, 96, 97] rfl⟩ rfl rfl hl.1 rfl (lv_room (Nat.le_of_ble_eq_true rfl)) dL_law_1261 ⟨(show cells + 1 ≤ 601024 by omega), (show slots + 6 ≤ 7293033 by omega)⟩) ?_
    refine lv_iload hx hb dL_law_1264 (lv_at hl 1 rfl) ?_
    refine lv_icmp_eq (tgt := 1271) hx hb dL_law_1266 (by decide) (fun _ => ?_) (fun h9 => absurd (show ((f_X8_thrown 0) : Int32) = 0 from rfl) h9)
    refine lv_iload hx hb dL_law_1271 (lv_at hl 1 rfl) ?_
    refine lv_if_ne (tgt := 1288) hx hb dL_law_1273 (by decide) (fun h9 => absurd rfl h9) (fun _ => ?_)
    refine lv_aload_n hx hb dL_law_1276 rfl (lv_at hl 5 rfl) ?_
    refine lv_iconst (v := 0) hx hb dL_law_1277 (by decide) ?_
    refine va_lald hx hb hK0.1 hP 98 3 rfl rfl (i := 0) (show ¬ ((0 : Int32) < 0 ∨ 1 ≤ (0 : Int32).toNatClampNeg) by decide) dL_law_1278 ?_
    refine lv_iload hx hb dL_law_1279 (lv_at hl 0 rfl) ?_
    refine lv_i2l (v := (Int32.toInt64 r)) hx hb dL_law_1281 rfl ?_
    refine W.lcmp hx hb dL_law_1282 ?_
    refine lv_if_eq (tgt := 1288) hx hb dL_law_1283 (by decide) (fun _ => ?_) (fun h9 => absurd ((lg_cmp_eq _ _).mpr rfl) h9)
    refine lv_goto (tgt := 1700) hx hb dL_law_1288 (by decide) ?_
    refine W.widen (k := cells + 2) (n := slots + 12) (by omega) (by omega) ?_
    exact K H locs ls ⟨u.1, v, u.2, v2, w2, z, s0, s1, s2, s3, tx, y0, y2, 0, pp.1, y5, y6, y7, y8, y9, pp.2, y11, y12, y13, (vp_updL out 0 (Int32.toInt64 r)), outD, hv, hg, e5, hrg, htx, e6, hP, hD⟩ hS (lv_sub hl [2, 3, 4, 5, 6, 7] rfl)
set_option maxHeartbeats 4000000 in
set_option maxRecDepth 100000 in
theorem law_dummiesWith (C : LC p l e s m meth c b L xs D cy g) (hc : cells ≤ 590000) (hs : slots ≤ 7000000) (h1 : vp_in (i + 1) L) (h2 : vp_in (i + 2) L) (hI : LInv D cy g p70 b7 c7 d7 e7 h7 k7 q ma o od s.heap.size H) (hS : va_S (fun q => s.heap.size ≤ q) s.heap H locs) (hl : lv_has ls 9 [(0, .ref b), (1, .ref p70), (2, .ref (ma 0)), (3, .ref o), (4, .ref od), (5, .int i)])
    (K : ∀ (H : Heap) (locs : List Loc) (ls : Array Slot), LInv D cy g p70 b7 c7 d7 e7 h7 k7 q ma o od s.heap.size H → va_S (fun q => s.heap.size ≤ q) s.heap H locs → lv_has ls 9 [(0, .ref b), (1, .ref p70), (2, .ref (ma 0)), (3, .ref o), (4, .ref od), (5, .int i)] → W p l e room_1 s m #[Value.ref b] below meth c H locs (cells + 2) (slots + 12) Q (F0 m 1700 ls [])) : W p l e room_1 s m #[Value.ref b] below meth c H locs cells slots Q (F0 m 1291 ls []) := by
  obtain ⟨hl0, hx, hb, hr, hml, hown, hts, hX, hbl0, hlocks, hK0, hNc, hL⟩ := C
  obtain ⟨st, v, w, v2, w2, z, s0, s1, s2, s3, tx, y0, y2, y3, y4, y5, y6, y7, y8, y9, y10, y11, y12, y13, out, outD, hv, hg, hp, hrg, htx, hbl, hP, hD⟩ := hI
  have S := my_fix hx hb hml hown hts
  have hAB : ∀ q : Nat, s.heap.size ≤ q → s.heap.size ≤ q := fun _ h => h
  have hbA : ¬ s.heap.size ≤ b := Nat.not_le.mpr hbl0
  rcases R_dummiesWith (st := st) (y4 := y4) hv hg hbl v2 w2 (xs (i + 1).toNatClampNeg) with ⟨f, e1, _, e3, e4⟩ | ⟨r, u, pp, e1, e4, e6⟩
  · have hne : ¬ ((fun _ : Int32 => (1 : Int32)) f) = 0 := pos_ne e3
    have e4 : f_X8_dummiesWith y4 y7 y10 (xs (i + 1).toNatClampNeg) = (0, (((fun _ : Int32 => (1 : Int32)) f), y4, y10)) := e4
    refine lv_aload_n hx hb dL_law_1291 rfl (lv_at hl 1 rfl) ?_
    refine lv_aload_n hx hb dL_law_1292 rfl (lv_at hl 0 rfl) ?_
    refine lv_iload hx hb dL_law_1293 (lv_at hl 5 rfl) ?_
    refine lv_iconst (v := 1) hx hb dL_law_1295 (by decide) ?_
    refine lv_iadd hx hb dL_law_1296 ?_
    refine va_sld hx hb hX hbl0 hbA hS h1 dL_law_1297 ?_
    refine lv_aload_n hx hb dL_law_1298 rfl (lv_at hl 3 rfl) ?_
    refine lw_compi (wcs := [(wPCo p70 b7 c7 d7 e7 h7 k7 st), (wSet cy b7 v), (wSet cy d7 v2), (wPow cy e7 w2), (wL cy o out)]) (wns := fun u8 => [(wPCo p70 b7 c7 d7 e7 h7 k7 st), (wSet cy b7 v), (wSet cy d7 u8.1.1), (wPow cy e7 u8.1.2), (wL cy o u8.2)]) (W2 := fun u8 => (LWL cy g p70 b7 c7 d7 e7 h7 k7 q ma o od st v w u8.1.1 u8.1.2 z s0 s1 s2 s3 tx y0 0 y2 y3 y4 y5 y6 y7 y8 y9 y10 y11 y12 y13 u8.2 outD)) (vx_runSW (As := [.ref p70, .int (xs (i + 1).toNatClampNeg), .ref o]) (rest := []) S (c_L_dummiesWith l hl0 D cy g s.heap.size p70 b7 c7 d7 e7 h7 k7 st v v2 w2 (xs (i + 1).toNatClampNeg) o out (fun k h => k_dummiesWith h)) (vx_cwSW 3 hts gL_law_L_dummiesWith rfl rfl rfl hd_L_dummiesWith_S ⟨Nat.le_of_ble_eq_true rfl, Nat.le_of_ble_eq_true rfl⟩) ⟨lwP_blind, my_preL (wcs := [(wPCo p70 b7 c7 d7 e7 h7 k7 st), (wSet cy b7 v), (wSet cy d7 v2), (wPow cy e7 w2), (wL cy o out)]) hK0 hNc hS hAB hP hD [0, 1, 3, 4, 12] (by decide) rfl rfl⟩ rfl rfl hl.1 rfl (lv_room (Nat.le_of_ble_eq_true rfl)) dL_law_1299 ⟨(show cells + 1 ≤ 601024 by omega), (show slots + 6 ≤ 7293033 by omega)⟩) hS hP hD [0, 1, 3, 4, 12] rfl rfl (fun _ => rfl) (fun _ => by simp only [List.map_cons, List.map_nil, adrSet, adrSetE, adrPow, adrPowE, adrTxt, adrTxtE, adrSav, adrSavE, adrPCo, adrMod, adrModE, adrL, adrDb]) (fun _ => rfl) (fun r9 u9 H locs hw hP hD hS => ?_)
    obtain ⟨rfl, rfl⟩ := Prod.mk.inj ((wrI_l e1).symm.trans hw)
    have hP : va_P D vwCl (LW cy g p70 b7 c7 d7 e7 h7 k7 q ma o od st v w v2 w2 z s0 s1 s2 s3 tx y0 0 y2 y3 y4 y5 y6 y7 y8 y9 y10 y11 y12 y13 out outD) H := hP
    have hD : va_D (fun q => s.heap.size ≤ q) (LW cy g p70 b7 c7 d7 e7 h7 k7 q ma o od st v w v2 w2 z s0 s1 s2 s3 tx y0 0 y2 y3 y4 y5 y6 y7 y8 y9 y10 y11 y12 y13 out outD) := hD
    refine lv_istore (lv' := [(6, .int ((fun _ : Int32 => (1 : Int32)) f)), (0, .ref b), (1, .ref p70), (2, .ref (ma 0)), (3, .ref o), (4, .ref od), (5, .int i)]) hx hb dL_law_1302 hl (by decide) rfl (fun ls hl => ?_)
    refine lv_aload_n hx hb dL_law_1304 rfl (lv_at hl 3 rfl) ?_
    refine lv_aload_n hx hb dL_law_1305 rfl (lv_at hl 1 rfl) ?_
    refine lv_iload hx hb dL_law_1306 (lv_at hl 6 rfl) ?_
    refine lv_iconst (v := 1) hx hb dL_law_1308 (by decide) ?_
    refine lv_iadd hx hb dL_law_1309 ?_
    refine va_sld hx hb hX hbl0 hbA hS h1 dL_law_1310 ?_
    refine mu_compi (wcs := [(wModE cy ma y0 0 y2 y3 y4 y5 y6 y7 y8 y9 y10 y11 y12 y13)]) (wns := fun u8 => [(wModE cy ma y0 0 y2 u8.1 u8.2.1 y5 y6 y7 y8 y9 u8.2.2 y11 y12 y13)]) (W2 := fun u8 => (LWL cy g p70 b7 c7 d7 e7 h7 k7 q ma o od st v w v2 w2 z s0 s1 s2 s3 tx y0 0 y2 u8.1 u8.2.1 y5 y6 y7 y8 y9 u8.2.2 y11 y12 y13 out outD)) (va_runV (C := RX8) (As := [.int (xs (i + 1).toNatClampNeg)]) (rest := []) S (c_X8_dummiesWith l D cy g s.heap.size ma y0 0 y2 y3 y4 y5 y6 y7 y8 y9 y10 y11 y12 y13 (xs (i + 1).toNatClampNeg) (GSf hg).1 (GSf hg).2.2.1) (cwV 1 hts gL_law_X8_dummiesWith rfl rfl rfl hd_X8_dummiesWith_V ⟨Nat.le_of_ble_eq_true rfl, Nat.le_of_ble_eq_true rfl⟩) ⟨muP_blind, va_recv hK0.1 hP (ci := 6) (q0 := 90) rfl rfl, my_preC (wcs := [(wModE cy ma y0 0 y2 y3 y4 y5 y6 y7 y8 y9 y10 y11 y12 y13)]) hK0 hS hAB hP hD [11] (by decide) rfl (List.append_nil _)⟩ rfl rfl hl.1 rfl (lv_room (Nat.le_of_ble_eq_true rfl)) dL_law_1311 ⟨(show cells + 1 ≤ 601024 by omega), (show slots + 6 ≤ 7293033 by omega)⟩) hS hP hD [11] rfl (List.append_nil _) (fun _ => List.append_nil _) (fun _ => by simp only [List.map_cons, List.map_nil, adrSet, adrSetE, adrPow, adrPowE, adrTxt, adrTxtE, adrSav, adrSavE, adrPCo, adrMod, adrModE, adrL, adrDb]) (fun _ => rfl) (fun r9 u9 H locs hw hP hD hS => ?_)
    obtain ⟨rfl, rfl⟩ := Prod.mk.inj (e4.symm.trans hw)
    have hP : va_P D vwCl (LW cy g p70 b7 c7 d7 e7 h7 k7 q ma o od st v w v2 w2 z s0 s1 s2 s3 tx y0 0 y2 ((fun _ : Int32 => (1 : Int32)) f) y4 y5 y6 y7 y8 y9 y10 y11 y12 y13 out outD) H := hP
    have hD : va_D (fun q => s.heap.size ≤ q) (LW cy g p70 b7 c7 d7 e7 h7 k7 q ma o od st v w v2 w2 z s0 s1 s2 s3 tx y0 0 y2 ((fun _ : Int32 => (1 : Int32)) f) y4 y5 y6 y7 y8 y9 y10 y11 y12 y13 out outD) := hD
    refine lv_istore (lv' := [(7, .int 0), (6, .int ((fun _ : Int32 => (1 : Int32)) f)), (0, .ref b), (1, .ref p70), (2, .ref (ma 0)), (3, .ref o), (4, .ref od), (5, .int i)]) hx hb dL_law_1314 hl (by decide) rfl (fun ls hl => ?_)
    refine lv_aload_n hx hb dL_law_1316 rfl (lv_at hl 4 rfl) ?_
    refine rd_goi (va_runV (C := RX8) (As := []) (rest := []) S (c_X8_thrown l D cy g s.heap.size ma y0 0 y2 ((fun _ : Int32 => (1 : Int32)) f) y4 y5 y6 y7 y8 y9 y10 y11 y12 y13) (cwV 0 hts gL_law_X8_thrown rfl rfl rfl hd_X8_thrown_V ⟨Nat.le_of_ble_eq_true rfl, Nat.le_of_ble_eq_true rfl⟩) ⟨rdP_blind, va_recv hK0.1 hP (ci := 6) (q0 := 90) rfl rfl, my_preV hK0 hS hAB hP [90, 91, 92, 93, 94, 95, 96, 97] rfl⟩ rfl rfl hl.1 rfl (lv_room (Nat.le_of_ble_eq_true rfl)) dL_law_1317 ⟨(show cells + 1 ≤ 601024 by omega), (show slots + 6 ≤ 7293033 by omega)⟩) ?_
    refine lv_iload hx hb dL_law_1320 (lv_at hl 1 rfl) ?_
    refine lv_icmp_eq (tgt := 1327) hx hb dL_law_1322 (by decide) (fun _ => ?_) (fun h9 => absurd (show ((f_X8_thrown ((fun _ : Int32 => (1 : Int32)) f)) : Int32) = ((fun _ : Int32 => (1 : Int32)) f) from rfl) h9)
    refine lv_iload hx hb dL_law_1327 (lv_at hl 1 rfl) ?_
    refine lv_if_ne (tgt := 1344) hx hb dL_law_1329 (by decide) (fun _ => ?_) (fun h9 => absurd h9 hne)
    refine lv_goto (tgt := 1700) hx hb dL_law_1344 (by decide) ?_
    refine W.widen (k := cells + 2) (n := slots + 12) (by omega) (by omega) ?_
    exact K H locs ls ⟨st, v, w, v2, w2, z, s0, s1, s2, s3, tx, y0, y2, ((fun _ : Int32 => (1 : Int32)) f), y4, y5, y6, y7, y8, y9, y10, y11, y12, y13, out, outD, hv, hg, hp, hrg, htx, hbl, hP, hD⟩ hS (lv_sub hl [2, 3, 4, 5, 6, 7] rfl)
  · refine lv_aload_n hx hb dL_law_1291 rfl (lv_at hl 1 rfl) ?_
    refine lv_aload_n hx hb dL_law_1292 rfl (lv_at hl 0 rfl) ?_
    refine lv_iload hx hb dL_law_1293 (lv_at hl 5 rfl) ?_
    refine lv_iconst (v := 1) hx hb dL_law_1295 (by decide) ?_
    refine lv_iadd hx hb dL_law_1296 ?_
    refine va_sld hx hb hX hbl0 hbA hS h1 dL_law_1297 ?_
    refine lv_aload_n hx hb dL_law_1298 rfl (lv_at hl 3 rfl) ?_
    refine lw_compi (wcs := [(wPCo p70 b7 c7 d7 e7 h7 k7 st), (wSet cy b7 v), (wSet cy d7 v2), (wPow cy e7 w2), (wL cy o out)]) (wns := fun u8 => [(wPCo p70 b7 c7 d7 e7 h7 k7 st), (wSet cy b7 v), (wSet cy d7 u8.1.1), (wPow cy e7 u8.1.2), (wL cy o u8.2)]) (W2 := fun u8 => (LWL cy g p70 b7 c7 d7 e7 h7 k7 q ma o od st v w u8.1.1 u8.1.2 z s0 s1 s2 s3 tx y0 0 y2 y3 y4 y5 y6 y7 y8 y9 y10 y11 y12 y13 u8.2 outD)) (vx_runSW (As := [.ref p70, .int (xs (i + 1).toNatClampNeg), .ref o]) (rest := []) S (c_L_dummiesWith l hl0 D cy g s.heap.size p70 b7 c7 d7 e7 h7 k7 st v v2 w2 (xs (i + 1).toNatClampNeg) o out (fun k h => k_dummiesWith h)) (vx_cwSW 3 hts gL_law_L_dummiesWith rfl rfl rfl hd_L_dummiesWith_S ⟨Nat.le_of_ble_eq_true rfl, Nat.le_of_ble_eq_true rfl⟩) ⟨lwP_blind, my_preL (wcs := [(wPCo p70 b7 c7 d7 e7 h7 k7 st), (wSet cy b7 v), (wSet cy d7 v2), (wPow cy e7 w2), (wL cy o out)]) hK0 hNc hS hAB hP hD [0, 1, 3, 4, 12] (by decide) rfl rfl⟩ rfl rfl hl.1 rfl (lv_room (Nat.le_of_ble_eq_true rfl)) dL_law_1299 ⟨(show cells + 1 ≤ 601024 by omega), (show slots + 6 ≤ 7293033 by omega)⟩) hS hP hD [0, 1, 3, 4, 12] rfl rfl (fun _ => rfl) (fun _ => by simp only [List.map_cons, List.map_nil, adrSet, adrSetE, adrPow, adrPowE, adrTxt, adrTxtE, adrSav, adrSavE, adrPCo, adrMod, adrModE, adrL, adrDb]) (fun _ => rfl) (fun r9 u9 H locs hw hP hD hS => ?_)
    obtain ⟨rfl, rfl⟩ := Prod.mk.inj ((wrI_r e1).symm.trans hw)
    have hP : va_P D vwCl (LW cy g p70 b7 c7 d7 e7 h7 k7 q ma o od st v w u.1 u.2 z s0 s1 s2 s3 tx y0 0 y2 y3 y4 y5 y6 y7 y8 y9 y10 y11 y12 y13 (vp_updL out 0 (Int32.toInt64 r)) outD) H := hP
    have hD : va_D (fun q => s.heap.size ≤ q) (LW cy g p70 b7 c7 d7 e7 h7 k7 q ma o od st v w u.1 u.2 z s0 s1 s2 s3 tx y0 0 y2 y3 y4 y5 y6 y7 y8 y9 y10 y11 y12 y13 (vp_updL out 0 (Int32.toInt64 r)) outD) := hD
    refine lv_istore (lv' := [(6, .int 0), (0, .ref b), (1, .ref p70), (2, .ref (ma 0)), (3, .ref o), (4, .ref od), (5, .int i)]) hx hb dL_law_1302 hl (by decide) rfl (fun ls hl => ?_)
    refine lv_aload_n hx hb dL_law_1304 rfl (lv_at hl 3 rfl) ?_
    refine lv_aload_n hx hb dL_law_1305 rfl (lv_at hl 1 rfl) ?_
    refine lv_iload hx hb dL_law_1306 (lv_at hl 6 rfl) ?_
    refine lv_iconst (v := 1) hx hb dL_law_1308 (by decide) ?_
    refine lv_iadd hx hb dL_law_1309 ?_
    refine va_sld hx hb hX hbl0 hbA hS h1 dL_law_1310 ?_
    refine mu_compi (wcs := [(wModE cy ma y0 0 y2 y3 y4 y5 y6 y7 y8 y9 y10 y11 y12 y13)]) (wns := fun u8 => [(wModE cy ma y0 0 y2 u8.1 u8.2.1 y5 y6 y7 y8 y9 u8.2.2 y11 y12 y13)]) (W2 := fun u8 => (LWL cy g p70 b7 c7 d7 e7 h7 k7 q ma o od st v w u.1 u.2 z s0 s1 s2 s3 tx y0 0 y2 u8.1 u8.2.1 y5 y6 y7 y8 y9 u8.2.2 y11 y12 y13 (vp_updL out 0 (Int32.toInt64 r)) outD)) (va_runV (C := RX8) (As := [.int (xs (i + 1).toNatClampNeg)]) (rest := []) S (c_X8_dummiesWith l D cy g s.heap.size ma y0 0 y2 y3 y4 y5 y6 y7 y8 y9 y10 y11 y12 y13 (xs (i + 1).toNatClampNeg) (GSf hg).1 (GSf hg).2.2.1) (cwV 1 hts gL_law_X8_dummiesWith rfl rfl rfl hd_X8_dummiesWith_V ⟨Nat.le_of_ble_eq_true rfl, Nat.le_of_ble_eq_true rfl⟩) ⟨muP_blind, va_recv hK0.1 hP (ci := 6) (q0 := 90) rfl rfl, my_preC (wcs := [(wModE cy ma y0 0 y2 y3 y4 y5 y6 y7 y8 y9 y10 y11 y12 y13)]) hK0 hS hAB hP hD [11] (by decide) rfl (List.append_nil _)⟩ rfl rfl hl.1 rfl (lv_room (Nat.le_of_ble_eq_true rfl)) dL_law_1311 ⟨(show cells + 1 ≤ 601024 by omega), (show slots + 6 ≤ 7293033 by omega)⟩) hS hP hD [11] rfl (List.append_nil _) (fun _ => List.append_nil _) (fun _ => by simp only [List.map_cons, List.map_nil, adrSet, adrSetE, adrPow, adrPowE, adrTxt, adrTxtE, adrSav, adrSavE, adrPCo, adrMod, adrModE, adrL, adrDb]) (fun _ => rfl) (fun r9 u9 H locs hw hP hD hS => ?_)
    obtain ⟨rfl, rfl⟩ := Prod.mk.inj (e4.symm.trans hw)
    have hP : va_P D vwCl (LW cy g p70 b7 c7 d7 e7 h7 k7 q ma o od st v w u.1 u.2 z s0 s1 s2 s3 tx y0 0 y2 0 pp.1 y5 y6 y7 y8 y9 pp.2 y11 y12 y13 (vp_updL out 0 (Int32.toInt64 r)) outD) H := hP
    have hD : va_D (fun q => s.heap.size ≤ q) (LW cy g p70 b7 c7 d7 e7 h7 k7 q ma o od st v w u.1 u.2 z s0 s1 s2 s3 tx y0 0 y2 0 pp.1 y5 y6 y7 y8 y9 pp.2 y11 y12 y13 (vp_updL out 0 (Int32.toInt64 r)) outD) := hD
    refine lv_istore (lv' := [(7, .int r), (6, .int 0), (0, .ref b), (1, .ref p70), (2, .ref (ma 0)), (3, .ref o), (4, .ref od), (5, .int i)]) hx hb dL_law_1314 hl (by decide) rfl (fun ls hl => ?_)
    refine lv_aload_n hx hb dL_law_1316 rfl (lv_at hl 4 rfl) ?_
    refine rd_goi (va_runV (C := RX8) (As := []) (rest := []) S (c_X8_thrown l D cy g s.heap.size ma y0 0 y2 0 pp.1 y5 y6 y7 y8 y9 pp.2 y11 y12 y13) (cwV 0 hts gL_law_X8_thrown rfl rfl rfl hd_X8_thrown_V ⟨Nat.le_of_ble_eq_true rfl, Nat.le_of_ble_eq_true rfl⟩) ⟨rdP_blind, va_recv hK0.1 hP (ci := 6) (q0 := 90) rfl rfl, my_preV hK0 hS hAB hP [90, 91, 92, 93, 94, 95, 96, 97] rfl⟩ rfl rfl hl.1 rfl (lv_room (Nat.le_of_ble_eq_true rfl)) dL_law_1317 ⟨(show cells + 1 ≤ 601024 by omega), (show slots + 6 ≤ 7293033 by omega)⟩) ?_
    refine lv_iload hx hb dL_law_1320 (lv_at hl 1 rfl) ?_
    refine lv_icmp_eq (tgt := 1327) hx hb dL_law_1322 (by decide) (fun _ => ?_) (fun h9 => absurd (show ((f_X8_thrown 0) : Int32) = 0 from rfl) h9)
    refine lv_iload hx hb dL_law_1327 (lv_at hl 1 rfl) ?_
    refine lv_if_ne (tgt := 1344) hx hb dL_law_1329 (by decide) (fun h9 => absurd rfl h9) (fun _ => ?_)
    refine lv_aload_n hx hb dL_law_1332 rfl (lv_at hl 5 rfl) ?_
    refine lv_iconst (v := 0) hx hb dL_law_1333 (by decide) ?_
    refine va_lald hx hb hK0.1 hP 98 3 rfl rfl (i := 0) (show ¬ ((0 : Int32) < 0 ∨ 1 ≤ (0 : Int32).toNatClampNeg) by decide) dL_law_1334 ?_
    refine lv_iload hx hb dL_law_1335 (lv_at hl 0 rfl) ?_
    refine lv_i2l (v := (Int32.toInt64 r)) hx hb dL_law_1337 rfl ?_
    refine W.lcmp hx hb dL_law_1338 ?_
    refine lv_if_eq (tgt := 1344) hx hb dL_law_1339 (by decide) (fun _ => ?_) (fun h9 => absurd ((lg_cmp_eq _ _).mpr rfl) h9)
    refine lv_goto (tgt := 1700) hx hb dL_law_1344 (by decide) ?_
    refine W.widen (k := cells + 2) (n := slots + 12) (by omega) (by omega) ?_
    exact K H locs ls ⟨st, v, w, u.1, u.2, z, s0, s1, s2, s3, tx, y0, y2, 0, pp.1, y5, y6, y7, y8, y9, pp.2, y11, y12, y13, (vp_updL out 0 (Int32.toInt64 r)), outD, hv, hg, hp, hrg, htx, e6, hP, hD⟩ hS (lv_sub hl [2, 3, 4, 5, 6, 7] rfl)
set_option maxHeartbeats 4000000 in
set_option maxRecDepth 100000 in
theorem law_leastWeight (C : LC p l e s m meth c b L xs D cy g) (hc : cells ≤ 590000) (hs : slots ≤ 7000000) (h1 : vp_in (i + 1) L) (h2 : vp_in (i + 2) L) (hI : LInv D cy g p70 b7 c7 d7 e7 h7 k7 q ma o od s.heap.size H) (hS : va_S (fun q => s.heap.size ≤ q) s.heap H locs) (hl : lv_has ls 9 [(0, .ref b), (1, .ref p70), (2, .ref (ma 0)), (3, .ref o), (4, .ref od), (5, .int i)])
    (K : ∀ (H : Heap) (locs : List Loc) (ls : Array Slot), LInv D cy g p70 b7 c7 d7 e7 h7 k7 q ma o od s.heap.size H → va_S (fun q => s.heap.size ≤ q) s.heap H locs → lv_has ls 9 [(0, .ref b), (1, .ref p70), (2, .ref (ma 0)), (3, .ref o), (4, .ref od), (5, .int i)] → W p l e room_1 s m #[Value.ref b] below meth c H locs (cells + 2) (slots + 12) Q (F0 m 1700 ls [])) : W p l e room_1 s m #[Value.ref b] below meth c H locs cells slots Q (F0 m 1347 ls []) := by
  obtain ⟨hl0, hx, hb, hr, hml, hown, hts, hX, hbl0, hlocks, hK0, hNc, hL⟩ := C
  obtain ⟨st, v, w, v2, w2, z, s0, s1, s2, s3, tx, y0, y2, y3, y4, y5, y6, y7, y8, y9, y10, y11, y12, y13, out, outD, hv, hg, hp, hrg, htx, hbl, hP, hD⟩ := hI
  have S := my_fix hx hb hml hown hts
  have hAB : ∀ q : Nat, s.heap.size ≤ q → s.heap.size ≤ q := fun _ h => h
  have hbA : ¬ s.heap.size ≤ b := Nat.not_le.mpr hbl0
  rcases R_leastWeight (y4 := y4) hv hg hp hbl (xs (i + 1).toNatClampNeg) with ⟨e1, e4⟩ | ⟨r, u, pp, e1, e4, e5, e6, e8⟩
  · have hne : ¬ ((fun _ : Int32 => (1 : Int32)) 1) = 0 := (show ¬ (1 : Int32) = 0 by decide)
    refine lv_aload_n hx hb dL_law_1347 rfl (lv_at hl 1 rfl) ?_
    refine lv_aload_n hx hb dL_law_1348 rfl (lv_at hl 0 rfl) ?_
    refine lv_iload hx hb dL_law_1349 (lv_at hl 5 rfl) ?_
    refine lv_iconst (v := 1) hx hb dL_law_1351 (by decide) ?_
    refine lv_iadd hx hb dL_law_1352 ?_
    refine va_sld hx hb hX hbl0 hbA hS h1 dL_law_1353 ?_
    refine lv_aload_n hx hb dL_law_1354 rfl (lv_at hl 3 rfl) ?_
    refine lw_compi (wcs := [(wPCo p70 b7 c7 d7 e7 h7 k7 st), (wSet cy b7 v), (wPow cy c7 w), (wL cy o out)]) (wns := fun u8 => [(wPCo p70 b7 c7 d7 e7 h7 k7 u8.1.1), (wSet cy b7 v), (wPow cy c7 u8.1.2), (wL cy o u8.2)]) (W2 := fun u8 => (LWL cy g p70 b7 c7 d7 e7 h7 k7 q ma o od u8.1.1 v u8.1.2 v2 w2 z s0 s1 s2 s3 tx y0 0 y2 y3 y4 y5 y6 y7 y8 y9 y10 y11 y12 y13 u8.2 outD)) (vx_runSW (As := [.ref p70, .int (xs (i + 1).toNatClampNeg), .ref o]) (rest := []) S (c_L_leastWeight l hl0 D cy g s.heap.size p70 b7 c7 d7 e7 h7 k7 st v w (xs (i + 1).toNatClampNeg) o out (fun k h => k_leastWeight h)) (vx_cwSW 3 hts gL_law_L_leastWeight rfl rfl rfl hd_L_leastWeight_S ⟨Nat.le_of_ble_eq_true rfl, Nat.le_of_ble_eq_true rfl⟩) ⟨lwP_blind, my_preL (wcs := [(wPCo p70 b7 c7 d7 e7 h7 k7 st), (wSet cy b7 v), (wPow cy c7 w), (wL cy o out)]) hK0 hNc hS hAB hP hD [0, 1, 2, 12] (by decide) rfl rfl⟩ rfl rfl hl.1 rfl (lv_room (Nat.le_of_ble_eq_true rfl)) dL_law_1355 ⟨(show cells + 1 ≤ 601024 by omega), (show slots + 6 ≤ 7293033 by omega)⟩) hS hP hD [0, 1, 2, 12] rfl rfl (fun _ => rfl) (fun _ => by simp only [List.map_cons, List.map_nil, adrSet, adrSetE, adrPow, adrPowE, adrTxt, adrTxtE, adrSav, adrSavE, adrPCo, adrMod, adrModE, adrL, adrDb]) (fun _ => rfl) (fun r9 u9 H locs hw hP hD hS => ?_)
    obtain ⟨rfl, rfl⟩ := Prod.mk.inj ((wrI_l e1).symm.trans hw)
    have hP : va_P D vwCl (LW cy g p70 b7 c7 d7 e7 h7 k7 q ma o od st v w v2 w2 z s0 s1 s2 s3 tx y0 0 y2 y3 y4 y5 y6 y7 y8 y9 y10 y11 y12 y13 out outD) H := hP
    have hD : va_D (fun q => s.heap.size ≤ q) (LW cy g p70 b7 c7 d7 e7 h7 k7 q ma o od st v w v2 w2 z s0 s1 s2 s3 tx y0 0 y2 y3 y4 y5 y6 y7 y8 y9 y10 y11 y12 y13 out outD) := hD
    refine lv_istore (lv' := [(6, .int ((fun _ : Int32 => (1 : Int32)) 1)), (0, .ref b), (1, .ref p70), (2, .ref (ma 0)), (3, .ref o), (4, .ref od), (5, .int i)]) hx hb dL_law_1358 hl (by decide) rfl (fun ls hl => ?_)
    refine lv_aload_n hx hb dL_law_1360 rfl (lv_at hl 3 rfl) ?_
    refine lv_aload_n hx hb dL_law_1361 rfl (lv_at hl 1 rfl) ?_
    refine lv_iload hx hb dL_law_1362 (lv_at hl 6 rfl) ?_
    refine lv_iconst (v := 1) hx hb dL_law_1364 (by decide) ?_
    refine lv_iadd hx hb dL_law_1365 ?_
    refine va_sld hx hb hX hbl0 hbA hS h1 dL_law_1366 ?_
    refine mu_compi (wcs := [(wModE cy ma y0 0 y2 y3 y4 y5 y6 y7 y8 y9 y10 y11 y12 y13)]) (wns := fun u8 => [(wModE cy ma y0 0 y2 u8.1 u8.2.1 y5 y6 u8.2.2.1 y8 y9 u8.2.2.2 y11 y12 y13)]) (W2 := fun u8 => (LWL cy g p70 b7 c7 d7 e7 h7 k7 q ma o od st v w v2 w2 z s0 s1 s2 s3 tx y0 0 y2 u8.1 u8.2.1 y5 y6 u8.2.2.1 y8 y9 u8.2.2.2 y11 y12 y13 out outD)) (va_runV (C := RX8) (As := [.int (xs (i + 1).toNatClampNeg)]) (rest := []) S (c_X8_leastWeight l D cy g s.heap.size ma y0 0 y2 y3 y4 y5 y6 y7 y8 y9 y10 y11 y12 y13 (xs (i + 1).toNatClampNeg) (GSf hg).1 (GSf hg).2.2.1) (cwV 1 hts gL_law_X8_leastWeight rfl rfl rfl hd_X8_leastWeight_V ⟨Nat.le_of_ble_eq_true rfl, Nat.le_of_ble_eq_true rfl⟩) ⟨muP_blind, va_recv hK0.1 hP (ci := 6) (q0 := 90) rfl rfl, my_preC (wcs := [(wModE cy ma y0 0 y2 y3 y4 y5 y6 y7 y8 y9 y10 y11 y12 y13)]) hK0 hS hAB hP hD [11] (by decide) rfl (List.append_nil _)⟩ rfl rfl hl.1 rfl (lv_room (Nat.le_of_ble_eq_true rfl)) dL_law_1367 ⟨(show cells + 1 ≤ 601024 by omega), (show slots + 6 ≤ 7293033 by omega)⟩) hS hP hD [11] rfl (List.append_nil _) (fun _ => List.append_nil _) (fun _ => by simp only [List.map_cons, List.map_nil, adrSet, adrSetE, adrPow, adrPowE, adrTxt, adrTxtE, adrSav, adrSavE, adrPCo, adrMod, adrModE, adrL, adrDb]) (fun _ => rfl) (fun r9 u9 H locs hw hP hD hS => ?_)
    obtain ⟨rfl, rfl⟩ := Prod.mk.inj (e4.symm.trans hw)
    have hP : va_P D vwCl (LW cy g p70 b7 c7 d7 e7 h7 k7 q ma o od st v w v2 w2 z s0 s1 s2 s3 tx y0 0 y2 1 y4 y5 y6 y7 y8 y9 y10 y11 y12 y13 out outD) H := hP
    have hD : va_D (fun q => s.heap.size ≤ q) (LW cy g p70 b7 c7 d7 e7 h7 k7 q ma o od st v w v2 w2 z s0 s1 s2 s3 tx y0 0 y2 1 y4 y5 y6 y7 y8 y9 y10 y11 y12 y13 out outD) := hD
    refine lv_istore (lv' := [(7, .int 0), (6, .int ((fun _ : Int32 => (1 : Int32)) 1)), (0, .ref b), (1, .ref p70), (2, .ref (ma 0)), (3, .ref o), (4, .ref od), (5, .int i)]) hx hb dL_law_1370 hl (by decide) rfl (fun ls hl => ?_)
    refine lv_aload_n hx hb dL_law_1372 rfl (lv_at hl 4 rfl) ?_
    refine rd_goi (va_runV (C := RX8) (As := []) (rest := []) S (c_X8_thrown l D cy g s.heap.size ma y0 0 y2 1 y4 y5 y6 y7 y8 y9 y10 y11 y12 y13) (cwV 0 hts gL_law_X8_thrown rfl rfl rfl hd_X8_thrown_V ⟨Nat.le_of_ble_eq_true rfl, Nat.le_of_ble_eq_true rfl⟩) ⟨rdP_blind, va_recv hK0.1 hP (ci := 6) (q0 := 90) rfl rfl, my_preV hK0 hS hAB hP [90, 91, 92, 93, 94, 95, 96, 97] rfl⟩ rfl rfl hl.1 rfl (lv_room (Nat.le_of_ble_eq_true rfl)) dL_law_1373 ⟨(show cells + 1 ≤ 601024 by omega), (show slots + 6 ≤ 7293033 by omega)⟩) ?_
    refine lv_iload hx hb dL_law_1376 (lv_at hl 1 rfl) ?_
    refine lv_icmp_eq (tgt := 1383) hx hb dL_law_1378 (by decide) (fun _ => ?_) (fun h9 => absurd (show ((f_X8_thrown 1) : Int32) = ((fun _ : Int32 => (1 : Int32)) 1) from rfl) h9)
    refine lv_iload hx hb dL_law_1383 (lv_at hl 1 rfl) ?_
    refine lv_if_ne (tgt := 1400) hx hb dL_law_1385 (by decide) (fun _ => ?_) (fun h9 => absurd h9 hne)
    refine lv_goto (tgt := 1700) hx hb dL_law_1400 (by decide) ?_
    refine W.widen (k := cells + 2) (n := slots + 12) (by omega) (by omega) ?_
    exact K H locs ls ⟨st, v, w, v2, w2, z, s0, s1, s2, s3, tx, y0, y2, 1, y4, y5, y6, y7, y8, y9, y10, y11, y12, y13, out, outD, hv, hg, hp, hrg, htx, hbl, hP, hD⟩ hS (lv_sub hl [2, 3, 4, 5, 6, 7] rfl)
  · have hy7 : pp.2.1 = y7 := funext e6
    refine lv_aload_n hx hb dL_law_1347 rfl (lv_at hl 1 rfl) ?_
    refine lv_aload_n hx hb dL_law_1348 rfl (lv_at hl 0 rfl) ?_
    refine lv_iload hx hb dL_law_1349 (lv_at hl 5 rfl) ?_
    refine lv_iconst (v := 1) hx hb dL_law_1351 (by decide) ?_
    refine lv_iadd hx hb dL_law_1352 ?_
    refine va_sld hx hb hX hbl0 hbA hS h1 dL_law_1353 ?_
    refine lv_aload_n hx hb dL_law_1354 rfl (lv_at hl 3 rfl) ?_
    refine lw_compi (wcs := [(wPCo p70 b7 c7 d7 e7 h7 k7 st), (wSet cy b7 v), (wPow cy c7 w), (wL cy o out)]) (wns := fun u8 => [(wPCo p70 b7 c7 d7 e7 h7 k7 u8.1.1), (wSet cy b7 v), (wPow cy c7 u8.1.2), (wL cy o u8.2)]) (W2 := fun u8 => (LWL cy g p70 b7 c7 d7 e7 h7 k7 q ma o od u8.1.1 v u8.1.2 v2 w2 z s0 s1 s2 s3 tx y0 0 y2 y3 y4 y5 y6 y7 y8 y9 y10 y11 y12 y13 u8.2 outD)) (vx_runSW (As := [.ref p70, .int (xs (i + 1).toNatClampNeg), .ref o]) (rest := []) S (c_L_leastWeight l hl0 D cy g s.heap.size p70 b7 c7 d7 e7 h7 k7 st v w (xs (i + 1).toNatClampNeg) o out (fun k h => k_leastWeight h)) (vx_cwSW 3 hts gL_law_L_leastWeight rfl rfl rfl hd_L_leastWeight_S ⟨Nat.le_of_ble_eq_true rfl, Nat.le_of_ble_eq_true rfl⟩) ⟨lwP_blind, my_preL (wcs := [(wPCo p70 b7 c7 d7 e7 h7 k7 st), (wSet cy b7 v), (wPow cy c7 w), (wL cy o out)]) hK0 hNc hS hAB hP hD [0, 1, 2, 12] (by decide) rfl rfl⟩ rfl rfl hl.1 rfl (lv_room (Nat.le_of_ble_eq_true rfl)) dL_law_1355 ⟨(show cells + 1 ≤ 601024 by omega), (show slots + 6 ≤ 7293033 by omega)⟩) hS hP hD [0, 1, 2, 12] rfl rfl (fun _ => rfl) (fun _ => by simp only [List.map_cons, List.map_nil, adrSet, adrSetE, adrPow, adrPowE, adrTxt, adrTxtE, adrSav, adrSavE, adrPCo, adrMod, adrModE, adrL, adrDb]) (fun _ => rfl) (fun r9 u9 H locs hw hP hD hS => ?_)
    obtain ⟨rfl, rfl⟩ := Prod.mk.inj ((wrI_r e1).symm.trans hw)
    have hP : va_P D vwCl (LW cy g p70 b7 c7 d7 e7 h7 k7 q ma o od u.1 v u.2 v2 w2 z s0 s1 s2 s3 tx y0 0 y2 y3 y4 y5 y6 y7 y8 y9 y10 y11 y12 y13 (vp_updL out 0 (Int32.toInt64 r)) outD) H := hP
    have hD : va_D (fun q => s.heap.size ≤ q) (LW cy g p70 b7 c7 d7 e7 h7 k7 q ma o od u.1 v u.2 v2 w2 z s0 s1 s2 s3 tx y0 0 y2 y3 y4 y5 y6 y7 y8 y9 y10 y11 y12 y13 (vp_updL out 0 (Int32.toInt64 r)) outD) := hD
    refine lv_istore (lv' := [(6, .int 0), (0, .ref b), (1, .ref p70), (2, .ref (ma 0)), (3, .ref o), (4, .ref od), (5, .int i)]) hx hb dL_law_1358 hl (by decide) rfl (fun ls hl => ?_)
    refine lv_aload_n hx hb dL_law_1360 rfl (lv_at hl 3 rfl) ?_
    refine lv_aload_n hx hb dL_law_1361 rfl (lv_at hl 1 rfl) ?_
    refine lv_iload hx hb dL_law_1362 (lv_at hl 6 rfl) ?_
    refine lv_iconst (v := 1) hx hb dL_law_1364 (by decide) ?_
    refine lv_iadd hx hb dL_law_1365 ?_
    refine va_sld hx hb hX hbl0 hbA hS h1 dL_law_1366 ?_
    refine mu_compi (wcs := [(wModE cy ma y0 0 y2 y3 y4 y5 y6 y7 y8 y9 y10 y11 y12 y13)]) (wns := fun u8 => [(wModE cy ma y0 0 y2 u8.1 u8.2.1 y5 y6 u8.2.2.1 y8 y9 u8.2.2.2 y11 y12 y13)]) (W2 := fun u8 => (LWL cy g p70 b7 c7 d7 e7 h7 k7 q ma o od u.1 v u.2 v2 w2 z s0 s1 s2 s3 tx y0 0 y2 u8.1 u8.2.1 y5 y6 u8.2.2.1 y8 y9 u8.2.2.2 y11 y12 y13 (vp_updL out 0 (Int32.toInt64 r)) outD)) (va_runV (C := RX8) (As := [.int (xs (i + 1).toNatClampNeg)]) (rest := []) S (c_X8_leastWeight l D cy g s.heap.size ma y0 0 y2 y3 y4 y5 y6 y7 y8 y9 y10 y11 y12 y13 (xs (i + 1).toNatClampNeg) (GSf hg).1 (GSf hg).2.2.1) (cwV 1 hts gL_law_X8_leastWeight rfl rfl rfl hd_X8_leastWeight_V ⟨Nat.le_of_ble_eq_true rfl, Nat.le_of_ble_eq_true rfl⟩) ⟨muP_blind, va_recv hK0.1 hP (ci := 6) (q0 := 90) rfl rfl, my_preC (wcs := [(wModE cy ma y0 0 y2 y3 y4 y5 y6 y7 y8 y9 y10 y11 y12 y13)]) hK0 hS hAB hP hD [11] (by decide) rfl (List.append_nil _)⟩ rfl rfl hl.1 rfl (lv_room (Nat.le_of_ble_eq_true rfl)) dL_law_1367 ⟨(show cells + 1 ≤ 601024 by omega), (show slots + 6 ≤ 7293033 by omega)⟩) hS hP hD [11] rfl (List.append_nil _) (fun _ => List.append_nil _) (fun _ => by simp only [List.map_cons, List.map_nil, adrSet, adrSetE, adrPow, adrPowE, adrTxt, adrTxtE, adrSav, adrSavE, adrPCo, adrMod, adrModE, adrL, adrDb]) (fun _ => rfl) (fun r9 u9 H locs hw hP hD hS => ?_)
    obtain ⟨rfl, rfl⟩ := Prod.mk.inj (e4.symm.trans hw)
    have hP : va_P D vwCl (LW cy g p70 b7 c7 d7 e7 h7 k7 q ma o od u.1 v u.2 v2 w2 z s0 s1 s2 s3 tx y0 0 y2 0 pp.1 y5 y6 pp.2.1 y8 y9 pp.2.2 y11 y12 y13 (vp_updL out 0 (Int32.toInt64 r)) outD) H := hP
    have hD : va_D (fun q => s.heap.size ≤ q) (LW cy g p70 b7 c7 d7 e7 h7 k7 q ma o od u.1 v u.2 v2 w2 z s0 s1 s2 s3 tx y0 0 y2 0 pp.1 y5 y6 pp.2.1 y8 y9 pp.2.2 y11 y12 y13 (vp_updL out 0 (Int32.toInt64 r)) outD) := hD
    refine lv_istore (lv' := [(7, .int r), (6, .int 0), (0, .ref b), (1, .ref p70), (2, .ref (ma 0)), (3, .ref o), (4, .ref od), (5, .int i)]) hx hb dL_law_1370 hl (by decide) rfl (fun ls hl => ?_)
    refine lv_aload_n hx hb dL_law_1372 rfl (lv_at hl 4 rfl) ?_
    refine rd_goi (va_runV (C := RX8) (As := []) (rest := []) S (c_X8_thrown l D cy g s.heap.size ma y0 0 y2 0 pp.1 y5 y6 pp.2.1 y8 y9 pp.2.2 y11 y12 y13) (cwV 0 hts gL_law_X8_thrown rfl rfl rfl hd_X8_thrown_V ⟨Nat.le_of_ble_eq_true rfl, Nat.le_of_ble_eq_true rfl⟩) ⟨rdP_blind, va_recv hK0.1 hP (ci := 6) (q0 := 90) rfl rfl, my_preV hK0 hS hAB hP [90, 91, 92, 93, 94, 95, 96, 97] rfl⟩ rfl rfl hl.1 rfl (lv_room (Nat.le_of_ble_eq_true rfl)) dL_law_1373 ⟨(show cells + 1 ≤ 601024 by omega), (show slots + 6 ≤ 7293033 by omega)⟩) ?_
    refine lv_iload hx hb dL_law_1376 (lv_at hl 1 rfl) ?_
    refine lv_icmp_eq (tgt := 1383) hx hb dL_law_1378 (by decide) (fun _ => ?_) (fun h9 => absurd (show ((f_X8_thrown 0) : Int32) = 0 from rfl) h9)
    refine lv_iload hx hb dL_law_1383 (lv_at hl 1 rfl) ?_
    refine lv_if_ne (tgt := 1400) hx hb dL_law_1385 (by decide) (fun h9 => absurd rfl h9) (fun _ => ?_)
    refine lv_aload_n hx hb dL_law_1388 rfl (lv_at hl 5 rfl) ?_
    refine lv_iconst (v := 0) hx hb dL_law_1389 (by decide) ?_
    refine va_lald hx hb hK0.1 hP 98 3 rfl rfl (i := 0) (show ¬ ((0 : Int32) < 0 ∨ 1 ≤ (0 : Int32).toNatClampNeg) by decide) dL_law_1390 ?_
    refine lv_iload hx hb dL_law_1391 (lv_at hl 0 rfl) ?_
    refine lv_i2l (v := (Int32.toInt64 r)) hx hb dL_law_1393 rfl ?_
    refine W.lcmp hx hb dL_law_1394 ?_
    refine lv_if_eq (tgt := 1400) hx hb dL_law_1395 (by decide) (fun _ => ?_) (fun h9 => absurd ((lg_cmp_eq _ _).mpr rfl) h9)
    refine lv_goto (tgt := 1700) hx hb dL_law_1400 (by decide) ?_
    refine W.widen (k := cells + 2) (n := slots + 12) (by omega) (by omega) ?_
    exact K H locs ls ⟨u.1, v, u.2, v2, w2, z, s0, s1, s2, s3, tx, y0, y2, 0, pp.1, y5, y6, pp.2.1, y8, y9, pp.2.2, y11, y12, y13, (vp_updL out 0 (Int32.toInt64 r)), outD, (by rw [hy7]; exact hv), (by rw [hy7]; exact hg), (by rw [hy7]; exact e5), hrg, htx, e8, hP, hD⟩ hS (lv_sub hl [2, 3, 4, 5, 6, 7] rfl)
end LAWK
