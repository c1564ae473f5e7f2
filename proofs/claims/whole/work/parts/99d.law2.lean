/-! part 99d: calls of the law -/
section LAWK
variable {p : Program} {l : Launch} {e : Env} {s : State} {m : MethodId} {below : List Frame} {meth : Method} {c : Code} {b L : Nat} {xs : Nat → Int32} {D : va_G} {cy : Nat → ClassId} {g : Nat → Nat} {p70 : Nat} {b7 c7 d7 e7 h7 k7 : Nat → Nat} {q : Nat → Nat → Nat} {ma : Nat → Nat} {o od : Nat} {H : Heap} {locs : List Loc} {cells slots : Nat} {Q : State → Prop} {ls : Array Slot} {i : Int32}
set_option maxHeartbeats 4000000 in
set_option maxRecDepth 100000 in
theorem law_member (C : LC p l e s m meth c b L xs D cy g) (hc : cells ≤ 590000) (hs : slots ≤ 7000000) (h1 : vp_in (i + 1) L) (h2 : vp_in (i + 2) L) (hI : LInv D cy g p70 b7 c7 d7 e7 h7 k7 q ma o od s.heap.size H) (hS : va_S (fun q => s.heap.size ≤ q) s.heap H locs) (hl : lv_has ls 9 [(0, .ref b), (1, .ref p70), (2, .ref (ma 0)), (3, .ref o), (4, .ref od), (5, .int i)])
    (K : ∀ (H : Heap) (locs : List Loc) (ls : Array Slot), LInv D cy g p70 b7 c7 d7 e7 h7 k7 q ma o od s.heap.size H → va_S (fun q => s.heap.size ≤ q) s.heap H locs → lv_has ls 9 [(0, .ref b), (1, .ref p70), (2, .ref (ma 0)), (3, .ref o), (4, .ref od), (5, .int i)] → W p l e room_1 s m #[Value.ref b] below meth c H locs (cells + 2) (slots + 12) Q (F0 m 1700 ls [])) : W p l e room_1 s m #[Value.ref b] below meth c H locs cells slots Q (F0 m 596 ls []) := by
  obtain ⟨hl0, hx, hb, hr, hml, hown, hts, hX, hbl0, hlocks, hK0, hNc, hL⟩ := C
  obtain ⟨st, v, w, v2, w2, z, s0, s1, s2, s3, tx, y0, y2, y3, y4, y5, y6, y7, y8, y9, y10, y11, y12, y13, out, outD, hv, hg, hp, hrg, htx, hbl, hP, hD⟩ := hI
  have S := my_fix hx hb hml hown hts
  have hAB : ∀ q : Nat, s.heap.size ≤ q → s.heap.size ≤ q := fun _ h => h
  have hbA : ¬ s.heap.size ≤ b := Nat.not_le.mpr hbl0
  rcases R_member hv hg hp hbl (xs (i + 1).toNatClampNeg) (xs (i + 2).toNatClampNeg) with ⟨f, e1, _, e3, e4⟩ | ⟨r, u, pp, e1, e4, e5, e6⟩
  · have hne : ¬ ((fun f : Int32 => f) f) = 0 := pos_ne e3
    have e4 : f_X8_member y4 y7 y10 (xs (i + 1).toNatClampNeg) (xs (i + 2).toNatClampNeg) = (0, (((fun f : Int32 => f) f), y4, y10)) := e4
    refine lv_aload_n hx hb dL_law_596 rfl (lv_at hl 1 rfl) ?_
    refine lv_aload_n hx hb dL_law_597 rfl (lv_at hl 0 rfl) ?_
    refine lv_iload hx hb dL_law_598 (lv_at hl 5 rfl) ?_
    refine lv_iconst (v := 1) hx hb dL_law_600 (by decide) ?_
    refine lv_iadd hx hb dL_law_601 ?_
    refine va_sld hx hb hX hbl0 hbA hS h1 dL_law_602 ?_
    refine lv_aload_n hx hb dL_law_603 rfl (lv_at hl 0 rfl) ?_
    refine lv_iload hx hb dL_law_604 (lv_at hl 5 rfl) ?_
    refine lv_iconst (v := 2) hx hb dL_law_606 (by decide) ?_
    refine lv_iadd hx hb dL_law_607 ?_
    refine va_sld hx hb hX hbl0 hbA hS h2 dL_law_608 ?_
    refine lv_aload_n hx hb dL_law_609 rfl (lv_at hl 3 rfl) ?_
    refine lw_compi (wcs := [(wPCo p70 b7 c7 d7 e7 h7 k7 st), (wSet cy b7 v), (wPow cy c7 w), (wL cy o out)]) (wns := fun u8 => [(wPCo p70 b7 c7 d7 e7 h7 k7 u8.1.1), (wSet cy b7 v), (wPow cy c7 u8.1.2), (wL cy o u8.2)]) (W2 := fun u8 => (LWL cy g p70 b7 c7 d7 e7 h7 k7 q ma o od u8.1.1 v u8.1.2 v2 w2 z s0 s1 s2 s3 tx y0 0 y2 y3 y4 y5 y6 y7 y8 y9 y10 y11 y12 y13 u8.2 outD)) (vx_runSW (As := [.ref p70, .int (xs (i + 1).toNatClampNeg), .int (xs (i + 2).toNatClampNeg), .ref o]) (rest := []) S (c_L_member l hl0 D cy g s.heap.size p70 b7 c7 d7 e7 h7 k7 st v w (xs (i + 1).toNatClampNeg) (xs (i + 2).toNatClampNeg) o out (fun k h => k_member h)) (vx_cwSW 4 hts gL_law_L_member rfl rfl rfl hd_L_member_S ⟨Nat.le_of_ble_eq_true rfl, Nat.le_of_ble_eq_true rfl⟩) ⟨lwP_blind, my_preL (wcs := [(wPCo p70 b7 c7 d7 e7 h7 k7 st), (wSet cy b7 v), (wPow cy c7 w), (wL cy o out)]) hK0 hNc hS hAB hP hD [0, 1, 2, 12] (by decide) rfl rfl⟩ rfl rfl hl.1 rfl (lv_room (Nat.le_of_ble_eq_true rfl)) dL_law_610 ⟨(show cells + 2 ≤ 601024 by omega), (show slots + 12 ≤ 7293033 by omega)⟩) hS hP hD [0, 1, 2, 12] rfl rfl (fun _ => rfl) (fun _ => by simp only [List.map_cons, List.map_nil, adrSet, adrSetE, adrPow, adrPowE, adrTxt, adrTxtE, adrSav, adrSavE, adrPCo, adrMod, adrModE, adrL, adrDb]) (fun _ => rfl) (fun r9 u9 H locs hw hP hD hS => ?_)
    obtain ⟨rfl, rfl⟩ := Prod.mk.inj ((wrI_l e1).symm.trans hw)
    have hP : va_P D vwCl (LW cy g p70 b7 c7 d7 e7 h7 k7 q ma o od st v w v2 w2 z s0 s1 s2 s3 tx y0 0 y2 y3 y4 y5 y6 y7 y8 y9 y10 y11 y12 y13 out outD) H := hP
    have hD : va_D (fun q => s.heap.size ≤ q) (LW cy g p70 b7 c7 d7 e7 h7 k7 q ma o od st v w v2 w2 z s0 s1 s2 s3 tx y0 0 y2 y3 y4 y5 y6 y7 y8 y9 y10 y11 y12 y13 out outD) := hD
    refine lv_istore (lv' := [(6, .int ((fun f : Int32 => f) f)), (0, .ref b), (1, .ref p70), (2, .ref (ma 0)), (3, .ref o), (4, .ref od), (5, .int i)]) hx hb dL_law_613 hl (by decide) rfl (fun ls hl => ?_)
    refine lv_aload_n hx hb dL_law_615 rfl (lv_at hl 3 rfl) ?_
    refine lv_aload_n hx hb dL_law_616 rfl (lv_at hl 1 rfl) ?_
    refine lv_iload hx hb dL_law_617 (lv_at hl 6 rfl) ?_
    refine lv_iconst (v := 1) hx hb dL_law_619 (by decide) ?_
    refine lv_iadd hx hb dL_law_620 ?_
    refine va_sld hx hb hX hbl0 hbA hS h1 dL_law_621 ?_
    refine lv_aload_n hx hb dL_law_622 rfl (lv_at hl 1 rfl) ?_
    refine lv_iload hx hb dL_law_623 (lv_at hl 6 rfl) ?_
    refine lv_iconst (v := 2) hx hb dL_law_625 (by decide) ?_
    refine lv_iadd hx hb dL_law_626 ?_
    refine va_sld hx hb hX hbl0 hbA hS h2 dL_law_627 ?_
    refine mu_compi (wcs := [(wModE cy ma y0 0 y2 y3 y4 y5 y6 y7 y8 y9 y10 y11 y12 y13)]) (wns := fun u8 => [(wModE cy ma y0 0 y2 u8.1 u8.2.1 y5 y6 y7 y8 y9 u8.2.2 y11 y12 y13)]) (W2 := fun u8 => (LWL cy g p70 b7 c7 d7 e7 h7 k7 q ma o od st v w v2 w2 z s0 s1 s2 s3 tx y0 0 y2 u8.1 u8.2.1 y5 y6 y7 y8 y9 u8.2.2 y11 y12 y13 out outD)) (va_runV (C := RX8) (As := [.int (xs (i + 1).toNatClampNeg), .int (xs (i + 2).toNatClampNeg)]) (rest := []) S (c_X8_member l D cy g s.heap.size ma y0 0 y2 y3 y4 y5 y6 y7 y8 y9 y10 y11 y12 y13 (xs (i + 1).toNatClampNeg) (xs (i + 2).toNatClampNeg) (GSf hg).1 (GSf hg).2.2.1 hbl) (cwV 2 hts gL_law_X8_member rfl rfl rfl hd_X8_member_V ⟨Nat.le_of_ble_eq_true rfl, Nat.le_of_ble_eq_true rfl⟩) ⟨muP_blind, va_recv hK0.1 hP (ci := 6) (q0 := 90) rfl rfl, my_preC (wcs := [(wModE cy ma y0 0 y2 y3 y4 y5 y6 y7 y8 y9 y10 y11 y12 y13)]) hK0 hS hAB hP hD [11] (by decide) rfl (List.append_nil _)⟩ rfl rfl hl.1 rfl (lv_room (Nat.le_of_ble_eq_true rfl)) dL_law_628 ⟨(show cells + 2 ≤ 601024 by omega), (show slots + 12 ≤ 7293033 by omega)⟩) hS hP hD [11] rfl (List.append_nil _) (fun _ => List.append_nil _) (fun _ => by simp only [List.map_cons, List.map_nil, adrSet, adrSetE, adrPow, adrPowE, adrTxt, adrTxtE, adrSav, adrSavE, adrPCo, adrMod, adrModE, adrL, adrDb]) (fun _ => rfl) (fun r9 u9 H locs hw hP hD hS => ?_)
    obtain ⟨rfl, rfl⟩ := Prod.mk.inj (e4.symm.trans hw)
    have hP : va_P D vwCl (LW cy g p70 b7 c7 d7 e7 h7 k7 q ma o od st v w v2 w2 z s0 s1 s2 s3 tx y0 0 y2 ((fun f : Int32 => f) f) y4 y5 y6 y7 y8 y9 y10 y11 y12 y13 out outD) H := hP
    have hD : va_D (fun q => s.heap.size ≤ q) (LW cy g p70 b7 c7 d7 e7 h7 k7 q ma o od st v w v2 w2 z s0 s1 s2 s3 tx y0 0 y2 ((fun f : Int32 => f) f) y4 y5 y6 y7 y8 y9 y10 y11 y12 y13 out outD) := hD
    refine lv_istore (lv' := [(7, .int 0), (6, .int ((fun f : Int32 => f) f)), (0, .ref b), (1, .ref p70), (2, .ref (ma 0)), (3, .ref o), (4, .ref od), (5, .int i)]) hx hb dL_law_631 hl (by decide) rfl (fun ls hl => ?_)
    refine lv_aload_n hx hb dL_law_633 rfl (lv_at hl 4 rfl) ?_
    refine rd_goi (va_runV (C := RX8) (As := []) (rest := []) S (c_X8_thrown l D cy g s.heap.size ma y0 0 y2 ((fun f : Int32 => f) f) y4 y5 y6 y7 y8 y9 y10 y11 y12 y13) (cwV 0 hts gL_law_X8_thrown rfl rfl rfl hd_X8_thrown_V ⟨Nat.le_of_ble_eq_true rfl, Nat.le_of_ble_eq_true rfl⟩) ⟨rdP_blind, va_recv hK0.1 hP (ci := 6) (q0 := 90) rfl rfl, my_preV hK0 hS hAB hP [90, 91, 92, 93, 94, 95, 96, 97] rfl⟩ rfl rfl hl.1 rfl (lv_room (Nat.le_of_ble_eq_true rfl)) dL_law_634 ⟨(show cells + 2 ≤ 601024 by omega), (show slots + 12 ≤ 7293033 by omega)⟩) ?_
    refine lv_iload hx hb dL_law_637 (lv_at hl 1 rfl) ?_
    refine lv_icmp_eq (tgt := 644) hx hb dL_law_639 (by decide) (fun _ => ?_) (fun h9 => absurd (show ((f_X8_thrown ((fun f : Int32 => f) f)) : Int32) = ((fun f : Int32 => f) f) from rfl) h9)
    refine lv_iload hx hb dL_law_644 (lv_at hl 1 rfl) ?_
    refine lv_if_ne (tgt := 661) hx hb dL_law_646 (by decide) (fun _ => ?_) (fun h9 => absurd h9 hne)
    refine lv_goto (tgt := 1700) hx hb dL_law_661 (by decide) ?_
    refine W.widen (k := cells + 2) (n := slots + 12) (by omega) (by omega) ?_
    exact K H locs ls ⟨st, v, w, v2, w2, z, s0, s1, s2, s3, tx, y0, y2, ((fun f : Int32 => f) f), y4, y5, y6, y7, y8, y9, y10, y11, y12, y13, out, outD, hv, hg, hp, hrg, htx, hbl, hP, hD⟩ hS (lv_sub hl [2, 3, 4, 5, 6, 7] rfl)
  · refine lv_aload_n hx hb dL_law_596 rfl (lv_at hl 1 rfl) ?_
    refine lv_aload_n hx hb dL_law_597 rfl (lv_at hl 0 rfl) ?_
    refine lv_iload hx hb dL_law_598 (lv_at hl 5 rfl) ?_
    refine lv_iconst (v := 1) hx hb dL_law_600 (by decide) ?_
    refine lv_iadd hx hb dL_law_601 ?_
    refine va_sld hx hb hX hbl0 hbA hS h1 dL_law_602 ?_
    refine lv_aload_n hx hb dL_law_603 rfl (lv_at hl 0 rfl) ?_
    refine lv_iload hx hb dL_law_604 (lv_at hl 5 rfl) ?_
    refine lv_iconst (v := 2) hx hb dL_law_606 (by decide) ?_
    refine lv_iadd hx hb dL_law_607 ?_
    refine va_sld hx hb hX hbl0 hbA hS h2 dL_law_608 ?_
    refine lv_aload_n hx hb dL_law_609 rfl (lv_at hl 3 rfl) ?_
    refine lw_compi (wcs := [(wPCo p70 b7 c7 d7 e7 h7 k7 st), (wSet cy b7 v), (wPow cy c7 w), (wL cy o out)]) (wns := fun u8 => [(wPCo p70 b7 c7 d7 e7 h7 k7 u8.1.1), (wSet cy b7 v), (wPow cy c7 u8.1.2), (wL cy o u8.2)]) (W2 := fun u8 => (LWL cy g p70 b7 c7 d7 e7 h7 k7 q ma o od u8.1.1 v u8.1.2 v2 w2 z s0 s1 s2 s3 tx y0 0 y2 y3 y4 y5 y6 y7 y8 y9 y10 y11 y12 y13 u8.2 outD)) (vx_runSW (As := [.ref p70, .int (xs (i + 1).toNatClampNeg), .int (xs (i + 2).toNatClampNeg), .ref o]) (rest := []) S (c_L_member l hl0 D cy g s.heap.size p70 b7 c7 d7 e7 h7 k7 st v w (xs (i + 1).toNatClampNeg) (xs (i + 2).toNatClampNeg) o out (fun k h => k_member h)) (vx_cwSW 4 hts gL_law_L_member rfl rfl rfl hd_L_member_S ⟨Nat.le_of_ble_eq_true rfl, Nat.le_of_ble_eq_true rfl⟩) ⟨lwP_blind, my_preL (wcs := [(wPCo p70 b7 c7 d7 e7 h7 k7 st), (wSet cy b7 v), (wPow cy c7 w), (wL cy o out)]) hK0 hNc hS hAB hP hD [0, 1, 2, 12] (by decide) rfl rfl⟩ rfl rfl hl.1 rfl (lv_room (Nat.le_of_ble_eq_true rfl)) dL_law_610 ⟨(show cells + 2 ≤ 601024 by omega), (show slots + 12 ≤ 7293033 by omega)⟩) hS hP hD [0, 1, 2, 12] rfl rfl (fun _ => rfl) (fun _ => by simp only [List.map_cons, List.map_nil, adrSet, adrSetE, adrPow, adrPowE, adrTxt, adrTxtE, adrSav, adrSavE, adrPCo, adrMod, adrModE, adrL, adrDb]) (fun _ => rfl) (fun r9 u9 H locs hw hP hD hS => ?_)
    obtain ⟨rfl, rfl⟩ := Prod.mk.inj ((wrI_r e1).symm.trans hw)
    have hP : va_P D vwCl (LW cy g p70 b7 c7 d7 e7 h7 k7 q ma o od u.1 v u.2 v2 w2 z s0 s1 s2 s3 tx y0 0 y2 y3 y4 y5 y6 y7 y8 y9 y10 y11 y12 y13 (vp_updL out 0 (Int32.toInt64 r)) outD) H := hP
    have hD : va_D (fun q => s.heap.size ≤ q) (LW cy g p70 b7 c7 d7 e7 h7 k7 q ma o od u.1 v u.2 v2 w2 z s0 s1 s2 s3 tx y0 0 y2 y3 y4 y5 y6 y7 y8 y9 y10 y11 y12 y13 (vp_updL out 0 (Int32.toInt64 r)) outD) := hD
    refine lv_istore (lv' := [(6, .int 0), (0, .ref b), (1, .ref p70), (2, .ref (ma 0)), (3, .ref o), (4, .ref od), (5, .int i)]) hx hb dL_law_613 hl (by decide) rfl (fun ls hl => ?_)
    refine lv_aload_n hx hb dL_law_615 rfl (lv_at hl 3 rfl) ?_
    refine lv_aload_n hx hb dL_law_616 rfl (lv_at hl 1 rfl) ?_
    refine lv_iload hx hb dL_law_617 (lv_at hl 6 rfl) ?_
    refine lv_iconst (v := 1) hx hb dL_law_619 (by decide) ?_
    refine lv_iadd hx hb dL_law_620 ?_
    refine va_sld hx hb hX hbl0 hbA hS h1 dL_law_621 ?_
    refine lv_aload_n hx hb dL_law_622 rfl (lv_at hl 1 rfl) ?_
    refine lv_iload hx hb dL_law_623 (lv_at hl 6 rfl) ?_
    refine lv_iconst (v := 2) hx hb dL_law_625 (by decide) ?_
    refine lv_iadd hx hb dL_law_626 ?_
    refine va_sld hx hb hX hbl0 hbA hS h2 dL_law_627 ?_
    refine mu_compi (wcs := [(wModE cy ma y0 0 y2 y3 y4 y5 y6 y7 y8 y9 y10 y11 y12 y13)]) (wns := fun u8 => [(wModE cy ma y0 0 y2 u8.1 u8.2.1 y5 y6 y7 y8 y9 u8.2.2 y11 y12 y13)]) (W2 := fun u8 => (LWL cy g p70 b7 c7 d7 e7 h7 k7 q ma o od u.1 v u.2 v2 w2 z s0 s1 s2 s3 tx y0 0 y2 u8.1 u8.2.1 y5 y6 y7 y8 y9 u8.2.2 y11 y12 y13 (vp_updL out 0 (Int32.toInt64 r)) outD)) (va_runV (C := RX8) (As := [.int (xs (i + 1).toNatClampNeg), .int (xs (i + 2).toNatClampNeg)]) (rest := []) S (c_X8_member l D cy g s.heap.size ma y0 0 y2 y3 y4 y5 y6 y7 y8 y9 y10 y11 y12 y13 (xs (i + 1).toNatClampNeg) (xs (i + 2).toNatClampNeg) (GSf hg).1 (GSf hg).2.2.1 hbl) (cwV 2 hts gL_law_X8_member rfl rfl rfl hd_X8_member_V ⟨Nat.le_of_ble_eq_true rfl, Nat.le_of_ble_eq_true rfl⟩) ⟨muP_blind, va_recv hK0.1 hP (ci := 6) (q0 := 90) rfl rfl, my_preC (wcs := [(wModE cy ma y0 0 y2 y3 y4 y5 y6 y7 y8 y9 y10 y11 y12 y13)]) hK0 hS hAB hP hD [11] (by decide) rfl (List.append_nil _)⟩ rfl rfl hl.1 rfl (lv_room (Nat.le_of_ble_eq_true rfl)) dL_law_628 ⟨(show cells + 2 ≤ 601024 by omega), (show slots + 12 ≤ 7293033 by omega)⟩) hS hP hD [11] rfl (List.append_nil _) (fun _ => List.append_nil _) (fun _ => by simp only [List.map_cons, List.map_nil, adrSet, adrSetE, adrPow, adrPowE, adrTxt, adrTxtE, adrSav, adrSavE, adrPCo, adrMod, adrModE, adrL, adrDb]) (fun _ => rfl) (fun r9 u9 H locs hw hP hD hS => ?_)
    obtain ⟨rfl, rfl⟩ := Prod.mk.inj (e4.symm.trans hw)
    have hP : va_P D vwCl (LW cy g p70 b7 c7 d7 e7 h7 k7 q ma o od u.1 v u.2 v2 w2 z s0 s1 s2 s3 tx y0 0 y2 0 pp.1 y5 y6 y7 y8 y9 pp.2 y11 y12 y13 (vp_updL out 0 (Int32.toInt64 r)) outD) H := hP
    have hD : va_D (fun q => s.heap.size ≤ q) (LW cy g p70 b7 c7 d7 e7 h7 k7 q ma o od u.1 v u.2 v2 w2 z s0 s1 s2 s3 tx y0 0 y2 0 pp.1 y5 y6 y7 y8 y9 pp.2 y11 y12 y13 (vp_updL out 0 (Int32.toInt64 r)) outD) := hD
    refine lv_istore (lv' := [(7, .int r), (6, .int 0), (0, .ref b), (1, .ref p70), (2, .ref (ma 0)), (3, .ref o), (4, .ref od), (5, .int i)]) hx hb dL_law_631 hl (by decide) rfl (fun ls hl => ?_)
    refine lv_aload_n hx hb dL_law_633 rfl (lv_at hl 4 rfl) ?_
    refine rd_goi (va_runV (C := RX8) (As := []) (rest := []) S (c_X8_thrown l D cy g s.heap.size ma y0 0 y2 0 pp.1 y5 y6 y7 y8 y9 pp.2 y11 y12 y13) (cwV 0 hts gL_law_X8_thrown rfl rfl rfl hd_X8_thrown_V ⟨Nat.le_of_ble_eq_true rfl, Nat.le_of_ble_eq_true rfl⟩) ⟨rdP_blind, va_recv hK0.1 hP (ci := 6) (q0 := 90) rfl rfl, my_preV hK0 hS hAB hP [90, 91, 92, 93, 94, 95, 96, 97] rfl⟩ rfl rfl hl.1 rfl (lv_room (Nat.le_of_ble_eq_true rfl)) dL_law_634 ⟨(show cells + 2 ≤ 601024 by omega), (show slots + 12 ≤ 7293033 by omega)⟩) ?_
    refine lv_iload hx hb dL_law_637 (lv_at hl 1 rfl) ?_
    refine lv_icmp_eq (tgt := 644) hx hb dL_law_639 (by decide) (fun _ => ?_) (fun h9 => absurd (show ((f_X8_thrown 0) : Int32) = 0 from rfl) h9)
    refine lv_iload hx hb dL_law_644 (lv_at hl 1 rfl) ?_
    refine lv_if_ne (tgt := 661) hx hb dL_law_646 (by decide) (fun h9 => absurd rfl h9) (fun _ => ?_)
    refine lv_aload_n hx hb dL_law_649 rfl (lv_at hl 5 rfl) ?_
    refine lv_iconst (v := 0) hx hb dL_law_650 (by decide) ?_
    refine va_lald hx hb hK0.1 hP 98 3 rfl rfl (i := 0) (show ¬ ((0 : Int32) < 0 ∨ 1 ≤ (0 : Int32).toNatClampNeg) by decide) dL_law_651 ?_
    refine lv_iload hx hb dL_law_652 (lv_at hl 0 rfl) ?_
    refine lv_i2l (v := (Int32.toInt64 r)) hx hb dL_law_654 rfl ?_
    refine W.lcmp hx hb dL_law_655 ?_
    refine lv_if_eq (tgt := 661) hx hb dL_law_656 (by decide) (fun _ => ?_) (fun h9 => absurd ((lg_cmp_eq _ _).mpr rfl) h9)
    refine lv_goto (tgt := 1700) hx hb dL_law_661 (by decide) ?_
    refine W.widen (k := cells + 2) (n := slots + 12) (by omega) (by omega) ?_
    exact K H locs ls ⟨u.1, v, u.2, v2, w2, z, s0, s1, s2, s3, tx, y0, y2, 0, pp.1, y5, y6, y7, y8, y9, pp.2, y11, y12, y13, (vp_updL out 0 (Int32.toInt64 r)), outD, hv, hg, e5, hrg, htx, e6, hP, hD⟩ hS (lv_sub hl [2, 3, 4, 5, 6, 7] rfl)
set_option maxHeartbeats 4000000 in
set_option maxRecDepth 100000 in
theorem law_rule (C : LC p l e s m meth c b L xs D cy g) (hc : cells ≤ 590000) (hs : slots ≤ 7000000) (h1 : vp_in (i + 1) L) (h2 : vp_in (i + 2) L) (hI : LInv D cy g p70 b7 c7 d7 e7 h7 k7 q ma o od s.heap.size H) (hS : va_S (fun q => s.heap.size ≤ q) s.heap H locs) (hl : lv_has ls 9 [(0, .ref b), (1, .ref p70), (2, .ref (ma 0)), (3, .ref o), (4, .ref od), (5, .int i)])
    (K : ∀ (H : Heap) (locs : List Loc) (ls : Array Slot), LInv D cy g p70 b7 c7 d7 e7 h7 k7 q ma o od s.heap.size H → va_S (fun q => s.heap.size ≤ q) s.heap H locs → lv_has ls 9 [(0, .ref b), (1, .ref p70), (2, .ref (ma 0)), (3, .ref o), (4, .ref od), (5, .int i)] → W p l e room_1 s m #[Value.ref b] below meth c H locs (cells + 2) (slots + 12) Q (F0 m 1700 ls [])) : W p l e room_1 s m #[Value.ref b] below meth c H locs cells slots Q (F0 m 664 ls []) := by
  obtain ⟨hl0, hx, hb, hr, hml, hown, hts, hX, hbl0, hlocks, hK0, hNc, hL⟩ := C
  obtain ⟨st, v, w, v2, w2, z, s0, s1, s2, s3, tx, y0, y2, y3, y4, y5, y6, y7, y8, y9, y10, y11, y12, y13, out, outD, hv, hg, hp, hrg, htx, hbl, hP, hD⟩ := hI
  have S := my_fix hx hb hml hown hts
  have hAB : ∀ q : Nat, s.heap.size ≤ q → s.heap.size ≤ q := fun _ h => h
  have hbA : ¬ s.heap.size ≤ b := Nat.not_le.mpr hbl0
  rcases R_rule (st := st) hv hg (xs (i + 1).toNatClampNeg) (xs (i + 2).toNatClampNeg) with ⟨f, e1, _, e3, e4⟩ | ⟨r, e1, e4⟩
  · have e3 : 0 < ((fun f : Int32 => f) f) := e3
    have hne : ¬ ((fun f : Int32 => f) f) = 0 := pos_ne e3
    have e4 : f_X8_rule y7 (xs (i + 1).toNatClampNeg) (xs (i + 2).toNatClampNeg) = (0, ((fun f : Int32 => f) f)) := e4
    refine lv_aload_n hx hb dL_law_664 rfl (lv_at hl 1 rfl) ?_
    refine lv_aload_n hx hb dL_law_665 rfl (lv_at hl 0 rfl) ?_
    refine lv_iload hx hb dL_law_666 (lv_at hl 5 rfl) ?_
    refine lv_iconst (v := 1) hx hb dL_law_668 (by decide) ?_
    refine lv_iadd hx hb dL_law_669 ?_
    refine va_sld hx hb hX hbl0 hbA hS h1 dL_law_670 ?_
    refine lv_aload_n hx hb dL_law_671 rfl (lv_at hl 0 rfl) ?_
    refine lv_iload hx hb dL_law_672 (lv_at hl 5 rfl) ?_
    refine lv_iconst (v := 2) hx hb dL_law_674 (by decide) ?_
    refine lv_iadd hx hb dL_law_675 ?_
    refine va_sld hx hb hX hbl0 hbA hS h2 dL_law_676 ?_
    refine lv_aload_n hx hb dL_law_677 rfl (lv_at hl 3 rfl) ?_
    refine lw_compi (wcs := [(wPCo p70 b7 c7 d7 e7 h7 k7 st), (wSet cy b7 v), (wL cy o out)]) (wns := fun u8 => [(wPCo p70 b7 c7 d7 e7 h7 k7 u8.1), (wSet cy b7 v), (wL cy o u8.2)]) (W2 := fun u8 => (LWL cy g p70 b7 c7 d7 e7 h7 k7 q ma o od u8.1 v w v2 w2 z s0 s1 s2 s3 tx y0 0 y2 y3 y4 y5 y6 y7 y8 y9 y10 y11 y12 y13 u8.2 outD)) (vx_runSW (As := [.ref p70, .int (xs (i + 1).toNatClampNeg), .int (xs (i + 2).toNatClampNeg), .ref o]) (rest := []) S (c_L_rule l hl0 D cy g s.heap.size p70 b7 c7 d7 e7 h7 k7 st v (xs (i + 1).toNatClampNeg) (xs (i + 2).toNatClampNeg) o out (fun k h => k_rule h)) (vx_cwSW 4 hts gL_law_L_rule rfl rfl rfl hd_L_rule_S ⟨Nat.le_of_ble_eq_true rfl, Nat.le_of_ble_eq_true rfl⟩) ⟨lwP_blind, my_preL (wcs := [(wPCo p70 b7 c7 d7 e7 h7 k7 st), (wSet cy b7 v), (wL cy o out)]) hK0 hNc hS hAB hP hD [0, 1, 12] (by decide) rfl rfl⟩ rfl rfl hl.1 rfl (lv_room (Nat.le_of_ble_eq_true rfl)) dL_law_678 ⟨(show cells + 2 ≤ 601024 by omega), (show slots + 12 ≤ 7293033 by omega)⟩) hS hP hD [0, 1, 12] rfl rfl (fun _ => rfl) (fun _ => by simp only [List.map_cons, List.map_nil, adrSet, adrSetE, adrPow, adrPowE, adrTxt, adrTxtE, adrSav, adrSavE, adrPCo, adrMod, adrModE, adrL, adrDb]) (fun _ => rfl) (fun r9 u9 H locs hw hP hD hS => ?_)
    obtain ⟨rfl, rfl⟩ := Prod.mk.inj ((wrI_l e1).symm.trans hw)
    have hP : va_P D vwCl (LW cy g p70 b7 c7 d7 e7 h7 k7 q ma o od st v w v2 w2 z s0 s1 s2 s3 tx y0 0 y2 y3 y4 y5 y6 y7 y8 y9 y10 y11 y12 y13 out outD) H := hP
    have hD : va_D (fun q => s.heap.size ≤ q) (LW cy g p70 b7 c7 d7 e7 h7 k7 q ma o od st v w v2 w2 z s0 s1 s2 s3 tx y0 0 y2 y3 y4 y5 y6 y7 y8 y9 y10 y11 y12 y13 out outD) := hD
    refine lv_istore (lv' := [(6, .int ((fun f : Int32 => f) f)), (0, .ref b), (1, .ref p70), (2, .ref (ma 0)), (3, .ref o), (4, .ref od), (5, .int i)]) hx hb dL_law_681 hl (by decide) rfl (fun ls hl => ?_)
    refine lv_aload_n hx hb dL_law_683 rfl (lv_at hl 3 rfl) ?_
    refine lv_aload_n hx hb dL_law_684 rfl (lv_at hl 1 rfl) ?_
    refine lv_iload hx hb dL_law_685 (lv_at hl 6 rfl) ?_
    refine lv_iconst (v := 1) hx hb dL_law_687 (by decide) ?_
    refine lv_iadd hx hb dL_law_688 ?_
    refine va_sld hx hb hX hbl0 hbA hS h1 dL_law_689 ?_
    refine lv_aload_n hx hb dL_law_690 rfl (lv_at hl 1 rfl) ?_
    refine lv_iload hx hb dL_law_691 (lv_at hl 6 rfl) ?_
    refine lv_iconst (v := 2) hx hb dL_law_693 (by decide) ?_
    refine lv_iadd hx hb dL_law_694 ?_
    refine va_sld hx hb hX hbl0 hbA hS h2 dL_law_695 ?_
    refine mu_compi (wcs := [(wModE cy ma y0 0 y2 y3 y4 y5 y6 y7 y8 y9 y10 y11 y12 y13)]) (wns := fun u8 => [(wModE cy ma y0 0 y2 u8 y4 y5 y6 y7 y8 y9 y10 y11 y12 y13)]) (W2 := fun u8 => (LWL cy g p70 b7 c7 d7 e7 h7 k7 q ma o od st v w v2 w2 z s0 s1 s2 s3 tx y0 0 y2 u8 y4 y5 y6 y7 y8 y9 y10 y11 y12 y13 out outD)) (va_runV (C := RX8) (As := [.int (xs (i + 1).toNatClampNeg), .int (xs (i + 2).toNatClampNeg)]) (rest := []) S (c_X8_rule l D cy g s.heap.size ma y0 0 y2 y3 y4 y5 y6 y7 y8 y9 y10 y11 y12 y13 (xs (i + 1).toNatClampNeg) (xs (i + 2).toNatClampNeg) (GSf hg).2.2.1) (cwV 2 hts gL_law_X8_rule rfl rfl rfl hd_X8_rule_V ⟨Nat.le_of_ble_eq_true rfl, Nat.le_of_ble_eq_true rfl⟩) ⟨muP_blind, va_recv hK0.1 hP (ci := 6) (q0 := 90) rfl rfl, my_preC (wcs := [(wModE cy ma y0 0 y2 y3 y4 y5 y6 y7 y8 y9 y10 y11 y12 y13)]) hK0 hS hAB hP hD [11] (by decide) rfl (List.append_nil _)⟩ rfl rfl hl.1 rfl (lv_room (Nat.le_of_ble_eq_true rfl)) dL_law_696 ⟨(show cells + 2 ≤ 601024 by omega), (show slots + 12 ≤ 7293033 by omega)⟩) hS hP hD [11] rfl (List.append_nil _) (fun _ => List.append_nil _) (fun _ => by simp only [List.map_cons, List.map_nil, adrSet, adrSetE, adrPow, adrPowE, adrTxt, adrTxtE, adrSav, adrSavE, adrPCo, adrMod, adrModE, adrL, adrDb]) (fun _ => rfl) (fun r9 u9 H locs hw hP hD hS => ?_)
    obtain ⟨rfl, rfl⟩ := Prod.mk.inj (e4.symm.trans hw)
    have hP : va_P D vwCl (LW cy g p70 b7 c7 d7 e7 h7 k7 q ma o od st v w v2 w2 z s0 s1 s2 s3 tx y0 0 y2 ((fun f : Int32 => f) f) y4 y5 y6 y7 y8 y9 y10 y11 y12 y13 out outD) H := hP
    have hD : va_D (fun q => s.heap.size ≤ q) (LW cy g p70 b7 c7 d7 e7 h7 k7 q ma o od st v w v2 w2 z s0 s1 s2 s3 tx y0 0 y2 ((fun f : Int32 => f) f) y4 y5 y6 y7 y8 y9 y10 y11 y12 y13 out outD) := hD
    refine lv_istore (lv' := [(7, .int 0), (6, .int ((fun f : Int32 => f) f)), (0, .ref b), (1, .ref p70), (2, .ref (ma 0)), (3, .ref o), (4, .ref od), (5, .int i)]) hx hb dL_law_699 hl (by decide) rfl (fun ls hl => ?_)
    refine lv_aload_n hx hb dL_law_701 rfl (lv_at hl 4 rfl) ?_
    refine rd_goi (va_runV (C := RX8) (As := []) (rest := []) S (c_X8_thrown l D cy g s.heap.size ma y0 0 y2 ((fun f : Int32 => f) f) y4 y5 y6 y7 y8 y9 y10 y11 y12 y13) (cwV 0 hts gL_law_X8_thrown rfl rfl rfl hd_X8_thrown_V ⟨Nat.le_of_ble_eq_true rfl, Nat.le_of_ble_eq_true rfl⟩) ⟨rdP_blind, va_recv hK0.1 hP (ci := 6) (q0 := 90) rfl rfl, my_preV hK0 hS hAB hP [90, 91, 92, 93, 94, 95, 96, 97] rfl⟩ rfl rfl hl.1 rfl (lv_room (Nat.le_of_ble_eq_true rfl)) dL_law_702 ⟨(show cells + 2 ≤ 601024 by omega), (show slots + 12 ≤ 7293033 by omega)⟩) ?_
    refine lv_iload hx hb dL_law_705 (lv_at hl 1 rfl) ?_
    refine lv_icmp_eq (tgt := 712) hx hb dL_law_707 (by decide) (fun _ => ?_) (fun h9 => absurd (show ((f_X8_thrown ((fun f : Int32 => f) f)) : Int32) = ((fun f : Int32 => f) f) from rfl) h9)
    refine lv_iload hx hb dL_law_712 (lv_at hl 1 rfl) ?_
    refine lv_if_ne (tgt := 729) hx hb dL_law_714 (by decide) (fun _ => ?_) (fun h9 => absurd h9 hne)
    refine lv_goto (tgt := 1700) hx hb dL_law_729 (by decide) ?_
    refine W.widen (k := cells + 2) (n := slots + 12) (by omega) (by omega) ?_
    exact K H locs ls ⟨st, v, w, v2, w2, z, s0, s1, s2, s3, tx, y0, y2, ((fun f : Int32 => f) f), y4, y5, y6, y7, y8, y9, y10, y11, y12, y13, out, outD, hv, hg, hp, hrg, htx, hbl, hP, hD⟩ hS (lv_sub hl [2, 3, 4, 5, 6, 7] rfl)
  · refine lv_aload_n hx hb dL_law_664 rfl (lv_at hl 1 rfl) ?_
    refine lv_aload_n hx hb dL_law_665 rfl (lv_at hl 0 rfl) ?_
    refine lv_iload hx hb dL_law_666 (lv_at hl 5 rfl) ?_
    refine lv_iconst (v := 1) hx hb dL_law_668 (by decide) ?_
    refine lv_iadd hx hb dL_law_669 ?_
    refine va_sld hx hb hX hbl0 hbA hS h1 dL_law_670 ?_
    refine lv_aload_n hx hb dL_law_671 rfl (lv_at hl 0 rfl) ?_
    refine lv_iload hx hb dL_law_672 (lv_at hl 5 rfl) ?_
    refine lv_iconst (v := 2) hx hb dL_law_674 (by decide) ?_
    refine lv_iadd hx hb dL_law_675 ?_
    refine va_sld hx hb hX hbl0 hbA hS h2 dL_law_676 ?_
    refine lv_aload_n hx hb dL_law_677 rfl (lv_at hl 3 rfl) ?_
    refine lw_compi (wcs := [(wPCo p70 b7 c7 d7 e7 h7 k7 st), (wSet cy b7 v), (wL cy o out)]) (wns := fun u8 => [(wPCo p70 b7 c7 d7 e7 h7 k7 u8.1), (wSet cy b7 v), (wL cy o u8.2)]) (W2 := fun u8 => (LWL cy g p70 b7 c7 d7 e7 h7 k7 q ma o od u8.1 v w v2 w2 z s0 s1 s2 s3 tx y0 0 y2 y3 y4 y5 y6 y7 y8 y9 y10 y11 y12 y13 u8.2 outD)) (vx_runSW (As := [.ref p70, .int (xs (i + 1).toNatClampNeg), .int (xs (i + 2).toNatClampNeg), .ref o]) (rest := []) S (c_L_rule l hl0 D cy g s.heap.size p70 b7 c7 d7 e7 h7 k7 st v (xs (i + 1).toNatClampNeg) (xs (i + 2).toNatClampNeg) o out (fun k h => k_rule h)) (vx_cwSW 4 hts gL_law_L_rule rfl rfl rfl hd_L_rule_S ⟨Nat.le_of_ble_eq_true rfl, Nat.le_of_ble_eq_true rfl⟩) ⟨lwP_blind, my_preL (wcs := [(wPCo p70 b7 c7 d7 e7 h7 k7 st), (wSet cy b7 v), (wL cy o out)]) hK0 hNc hS hAB hP hD [0, 1, 12] (by decide) rfl rfl⟩ rfl rfl hl.1 rfl (lv_room (Nat.le_of_ble_eq_true rfl)) dL_law_678 ⟨(show cells + 2 ≤ 601024 by omega), (show slots + 12 ≤ 7293033 by omega)⟩) hS hP hD [0, 1, 12] rfl rfl (fun _ => rfl) (fun _ => by simp only [List.map_cons, List.map_nil, adrSet, adrSetE, adrPow, adrPowE, adrTxt, adrTxtE, adrSav, adrSavE, adrPCo, adrMod, adrModE, adrL, adrDb]) (fun _ => rfl) (fun r9 u9 H locs hw hP hD hS => ?_)
    obtain ⟨rfl, rfl⟩ := Prod.mk.inj ((wrI_r e1).symm.trans hw)
    have hP : va_P D vwCl (LW cy g p70 b7 c7 d7 e7 h7 k7 q ma o od st v w v2 w2 z s0 s1 s2 s3 tx y0 0 y2 y3 y4 y5 y6 y7 y8 y9 y10 y11 y12 y13 (vp_updL out 0 (Int32.toInt64 r)) outD) H := hP
    have hD : va_D (fun q => s.heap.size ≤ q) (LW cy g p70 b7 c7 d7 e7 h7 k7 q ma o od st v w v2 w2 z s0 s1 s2 s3 tx y0 0 y2 y3 y4 y5 y6 y7 y8 y9 y10 y11 y12 y13 (vp_updL out 0 (Int32.toInt64 r)) outD) := hD
    refine lv_istore (lv' := [(6, .int 0), (0, .ref b), (1, .ref p70), (2, .ref (ma 0)), (3, .ref o), (4, .ref od), (5, .int i)]) hx hb dL_law_681 hl (by decide) rfl (fun ls hl => ?_)
    refine lv_aload_n hx hb dL_law_683 rfl (lv_at hl 3 rfl) ?_
    refine lv_aload_n hx hb dL_law_684 rfl (lv_at hl 1 rfl) ?_
    refine lv_iload hx hb dL_law_685 (lv_at hl 6 rfl) ?_
    refine lv_iconst (v := 1) hx hb dL_law_687 (by decide) ?_
    refine lv_iadd hx hb dL_law_688 ?_
    refine va_sld hx hb hX hbl0 hbA hS h1 dL_law_689 ?_
    refine lv_aload_n hx hb dL_law_690 rfl (lv_at hl 1 rfl) ?_
    refine lv_iload hx hb dL_law_691 (lv_at hl 6 rfl) ?_
    refine lv_iconst (v := 2) hx hb dL_law_693 (by decide) ?_
    refine lv_iadd hx hb dL_law_694 ?_
    refine va_sld hx hb hX hbl0 hbA hS h2 dL_law_695 ?_
    refine mu_compi (wcs := [(wModE cy ma y0 0 y2 y3 y4 y5 y6 y7 y8 y9 y10 y11 y12 y13)]) (wns := fun u8 => [(wModE cy ma y0 0 y2 u8 y4 y5 y6 y7 y8 y9 y10 y11 y12 y13)]) (W2 := fun u8 => (LWL cy g p70 b7 c7 d7 e7 h7 k7 q ma o od st v w v2 w2 z s0 s1 s2 s3 tx y0 0 y2 u8 y4 y5 y6 y7 y8 y9 y10 y11 y12 y13 (vp_updL out 0 (Int32.toInt64 r)) outD)) (va_runV (C := RX8) (As := [.int (xs (i + 1).toNatClampNeg), .int (xs (i + 2).toNatClampNeg)]) (rest := []) S (c_X8_rule l D cy g s.heap.size ma y0 0 y2 y3 y4 y5 y6 y7 y8 y9 y10 y11 y12 y13 (xs (i + 1).toNatClampNeg) (xs (i + 2).toNatClampNeg) (GSf hg).2.2.1) (cwV 2 hts gL_law_X8_rule rfl rfl rfl hd_X8_rule_V ⟨Nat.le_of_ble_eq_true rfl, Nat.le_of_ble_eq_true rfl⟩) ⟨muP_blind, va_recv hK0.1 hP (ci := 6) (q0 := 90) rfl rfl, my_preC (wcs := [(wModE cy ma y0 0 y2 y3 y4 y5 y6 y7 y8 y9 y10 y11 y12 y13)]) hK0 hS hAB hP hD [11] (by decide) rfl (List.append_nil _)⟩ rfl rfl hl.1 rfl (lv_room (Nat.le_of_ble_eq_true rfl)) dL_law_696 ⟨(show cells + 2 ≤ 601024 by omega), (show slots + 12 ≤ 7293033 by omega)⟩) hS hP hD [11] rfl (List.append_nil _) (fun _ => List.append_nil _) (fun _ => by simp only [List.map_cons, List.map_nil, adrSet, adrSetE, adrPow, adrPowE, adrTxt, adrTxtE, adrSav, adrSavE, adrPCo, adrMod, adrModE, adrL, adrDb]) (fun _ => rfl) (fun r9 u9 H locs hw hP hD hS => ?_)
    obtain ⟨rfl, rfl⟩ := Prod.mk.inj (e4.symm.trans hw)
    have hP : va_P D vwCl (LW cy g p70 b7 c7 d7 e7 h7 k7 q ma o od st v w v2 w2 z s0 s1 s2 s3 tx y0 0 y2 0 y4 y5 y6 y7 y8 y9 y10 y11 y12 y13 (vp_updL out 0 (Int32.toInt64 r)) outD) H := hP
    have hD : va_D (fun q => s.heap.size ≤ q) (LW cy g p70 b7 c7 d7 e7 h7 k7 q ma o od st v w v2 w2 z s0 s1 s2 s3 tx y0 0 y2 0 y4 y5 y6 y7 y8 y9 y10 y11 y12 y13 (vp_updL out 0 (Int32.toInt64 r)) outD) := hD
    refine lv_istore (lv' := [(7, .int r), (6, .int 0), (0, .ref b), (1, .ref p70), (2, .ref (ma 0)), (3, .ref o), (4, .ref od), (5, .int i)]) hx hb dL_law_699 hl (by decide) rfl (fun ls hl => ?_)
    refine lv_aload_n hx hb dL_law_701 rfl (lv_at hl 4 rfl) ?_
    refine rd_goi (va_runV (C := RX8) (As := []) (rest := []) S (c_X8_thrown l D cy g s.heap.size ma y0 0 y2 0 y4 y5 y6 y7 y8 y9 y10 y11 y12 y13) (cwV 0 hts gL_law_X8_thrown rfl rfl rfl hd_X8_thrown_V ⟨Nat.le_of_ble_eq_true rfl, Nat.le_of_ble_eq_true rfl⟩) ⟨rdP_blind, va_recv hK0.1 hP (ci := 6) (q0 := 90) rfl rfl, my_preV hK0 hS hAB hP [90, 91, 92, 93, 94, 95, 96, 97] rfl⟩ rfl rfl hl.1 rfl (lv_room (Nat.le_of_ble_eq_true rfl)) dL_law_702 ⟨(show cells + 2 ≤ 601024 by omega), (show slots + 12 ≤ 7293033 by omega)⟩) ?_
    refine lv_iload hx hb dL_law_705 (lv_at hl 1 rfl) ?_
    refine lv_icmp_eq (tgt := 712) hx hb dL_law_707 (by decide) (fun _ => ?_) (fun h9 => absurd (show ((f_X8_thrown 0) : Int32) = 0 from rfl) h9)
    refine lv_iload hx hb dL_law_712 (lv_at hl 1 rfl) ?_
    refine lv_if_ne (tgt := 729) hx hb dL_law_714 (by decide) (fun h9 => absurd rfl h9) (fun _ => ?_)
    refine lv_aload_n hx hb dL_law_717 rfl (lv_at hl 5 rfl) ?_
    refine lv_iconst (v := 0) hx hb dL_law_718 (by decide) ?_
    refine va_lald hx hb hK0.1 hP 98 3 rfl rfl (i := 0) (show ¬ ((0 : Int32) < 0 ∨ 1 ≤ (0 : Int32).toNatClampNeg) by decide) dL_law_719 ?_
    refine lv_iload hx hb dL_law_720 (lv_at hl 0 rfl) ?_
    refine lv_i2l (v := (Int32.toInt64 r)) hx hb dL_law_722 rfl ?_
    refine W.lcmp hx hb dL_law_723 ?_
    refine lv_if_eq (tgt := 729) hx hb dL_law_724 (by decide) (fun _ => ?_) (fun h9 => absurd ((lg_cmp_eq _ _).mpr rfl) h9)
    refine lv_goto (tgt := 1700) hx hb dL_law_729 (by decide) ?_
    refine W.widen (k := cells + 2) (n := slots + 12) (by omega) (by omega) ?_
    exact K H locs ls ⟨st, v, w, v2, w2, z, s0, s1, s2, s3, tx, y0, y2, 0, y4, y5, y6, y7, y8, y9, y10, y11, y12, y13, (vp_updL out 0 (Int32.toInt64 r)), outD, hv, hg, hp, hrg, htx, hbl, hP, hD⟩ hS (lv_sub hl [2, 3, 4, 5, 6, 7] rfl)
set_option maxHeartbeats 4000000 in
set_option maxRecDepth 100000 in
theorem law_whole (C : LC p l e s m meth c b L xs D cy g) (hc : cells ≤ 590000) (hs : slots ≤ 7000000) (h1 : vp_in (i + 1) L) (h2 : vp_in (i + 2) L) (hI : LInv D cy g p70 b7 c7 d7 e7 h7 k7 q ma o od s.heap.size H) (hS : va_S (fun q => s.heap.size ≤ q) s.heap H locs) (hl : lv_has ls 9 [(0, .ref b), (1, .ref p70), (2, .ref (ma 0)), (3, .ref o), (4, .ref od), (5, .int i)])
    (K : ∀ (H : Heap) (locs : List Loc) (ls : Array Slot), LInv D cy g p70 b7 c7 d7 e7 h7 k7 q ma o od s.heap.size H → va_S (fun q => s.heap.size ≤ q) s.heap H locs → lv_has ls 9 [(0, .ref b), (1, .ref p70), (2, .ref (ma 0)), (3, .ref o), (4, .ref od), (5, .int i)] → W p l e room_1 s m #[Value.ref b] below meth c H locs (cells + 2) (slots + 12) Q (F0 m 1700 ls [])) : W p l e room_1 s m #[Value.ref b] below meth c H locs cells slots Q (F0 m 732 ls []) := by
  obtain ⟨hl0, hx, hb, hr, hml, hown, hts, hX, hbl0, hlocks, hK0, hNc, hL⟩ := C
  obtain ⟨st, v, w, v2, w2, z, s0, s1, s2, s3, tx, y0, y2, y3, y4, y5, y6, y7, y8, y9, y10, y11, y12, y13, out, outD, hv, hg, hp, hrg, htx, hbl, hP, hD⟩ := hI
  have S := my_fix hx hb hml hown hts
  have hAB : ∀ q : Nat, s.heap.size ≤ q → s.heap.size ≤ q := fun _ h => h
  have hbA : ¬ s.heap.size ≤ b := Nat.not_le.mpr hbl0
  rcases R_whole hv hg hp hbl tx (xs (i + 1).toNatClampNeg) with ⟨f, e1, _, e3, e4⟩ | ⟨r, u, pp, e1, e4, e5, e6⟩
  · have hne : ¬ ((fun _ : Int32 => (1 : Int32)) f) = 0 := pos_ne e3
    rw [(txf1 htx)] at e4
    have e4 : f_X8_whole y2 y4 y7 y10 (xs (i + 1).toNatClampNeg) = (0, (((fun _ : Int32 => (1 : Int32)) f), y4, y10)) := e4
    refine lv_aload_n hx hb dL_law_732 rfl (lv_at hl 1 rfl) ?_
    refine lv_aload_n hx hb dL_law_733 rfl (lv_at hl 0 rfl) ?_
    refine lv_iload hx hb dL_law_734 (lv_at hl 5 rfl) ?_
    refine lv_iconst (v := 1) hx hb dL_law_736 (by decide) ?_
    refine lv_iadd hx hb dL_law_737 ?_
    refine va_sld hx hb hX hbl0 hbA hS h1 dL_law_738 ?_
    refine lv_aload_n hx hb dL_law_739 rfl (lv_at hl 3 rfl) ?_
    refine lw_compi (wcs := [(wPCo p70 b7 c7 d7 e7 h7 k7 st), (wSet cy b7 v), (wPow cy c7 w), (wTxt cy g k7 tx), (wL cy o out)]) (wns := fun u8 => [(wPCo p70 b7 c7 d7 e7 h7 k7 u8.1.1), (wSet cy b7 v), (wPow cy c7 u8.1.2), (wTxt cy g k7 tx), (wL cy o u8.2)]) (W2 := fun u8 => (LWL cy g p70 b7 c7 d7 e7 h7 k7 q ma o od u8.1.1 v u8.1.2 v2 w2 z s0 s1 s2 s3 tx y0 0 y2 y3 y4 y5 y6 y7 y8 y9 y10 y11 y12 y13 u8.2 outD)) (vx_runSW (As := [.ref p70, .int (xs (i + 1).toNatClampNeg), .ref o]) (rest := []) S (c_L_whole l hl0 D cy g s.heap.size p70 b7 c7 d7 e7 h7 k7 st v w tx (xs (i + 1).toNatClampNeg) o out (fun k h => k_whole h)) (vx_cwSW 3 hts gL_law_L_whole rfl rfl rfl hd_L_whole_S ⟨Nat.le_of_ble_eq_true rfl, Nat.le_of_ble_eq_true rfl⟩) ⟨lwP_blind, my_preL (wcs := [(wPCo p70 b7 c7 d7 e7 h7 k7 st), (wSet cy b7 v), (wPow cy c7 w), (wTxt cy g k7 tx), (wL cy o out)]) hK0 hNc hS hAB hP hD [0, 1, 2, 10, 12] (by decide) rfl rfl⟩ rfl rfl hl.1 rfl (lv_room (Nat.le_of_ble_eq_true rfl)) dL_law_740 ⟨(show cells + 1 ≤ 601024 by omega), (show slots + 6 ≤ 7293033 by omega)⟩) hS hP hD [0, 1, 2, 10, 12] rfl rfl (fun _ => rfl) (fun _ => by simp only [List.map_cons, List.map_nil, adrSet, adrSetE, adrPow, adrPowE, adrTxt, adrTxtE, adrSav, adrSavE, adrPCo, adrMod, adrModE, adrL, adrDb]) (fun _ => rfl) (fun r9 u9 H locs hw hP hD hS => ?_)
    obtain ⟨rfl, rfl⟩ := Prod.mk.inj ((wrI_l e1).symm.trans hw)
    have hP : va_P D vwCl (LW cy g p70 b7 c7 d7 e7 h7 k7 q ma o od st v w v2 w2 z s0 s1 s2 s3 tx y0 0 y2 y3 y4 y5 y6 y7 y8 y9 y10 y11 y12 y13 out outD) H := hP
    have hD : va_D (fun q => s.heap.size ≤ q) (LW cy g p70 b7 c7 d7 e7 h7 k7 q ma o od st v w v2 w2 z s0 s1 s2 s3 tx y0 0 y2 y3 y4 y5 y6 y7 y8 y9 y10 y11 y12 y13 out outD) := hD
    refine lv_istore (lv' := [(6, .int ((fun _ : Int32 => (1 : Int32)) f)), (0, .ref b), (1, .ref p70), (2, .ref (ma 0)), (3, .ref o), (4, .ref od), (5, .int i)]) hx hb dL_law_743 hl (by decide) rfl (fun ls hl => ?_)
    refine lv_aload_n hx hb dL_law_745 rfl (lv_at hl 3 rfl) ?_
    refine lv_aload_n hx hb dL_law_746 rfl (lv_at hl 1 rfl) ?_
    refine lv_iload hx hb dL_law_747 (lv_at hl 6 rfl) ?_
    refine lv_iconst (v := 1) hx hb dL_law_749 (by decide) ?_
    refine lv_iadd hx hb dL_law_750 ?_
    refine va_sld hx hb hX hbl0 hbA hS h1 dL_law_751 ?_
    refine mu_compi (wcs := [(wModE cy ma y0 0 y2 y3 y4 y5 y6 y7 y8 y9 y10 y11 y12 y13)]) (wns := fun u8 => [(wModE cy ma y0 0 y2 u8.1 u8.2.1 y5 y6 y7 y8 y9 u8.2.2 y11 y12 y13)]) (W2 := fun u8 => (LWL cy g p70 b7 c7 d7 e7 h7 k7 q ma o od st v w v2 w2 z s0 s1 s2 s3 tx y0 0 y2 u8.1 u8.2.1 y5 y6 y7 y8 y9 u8.2.2 y11 y12 y13 out outD)) (va_runV (C := RX8) (As := [.int (xs (i + 1).toNatClampNeg)]) (rest := []) S (c_X8_whole l D cy g s.heap.size ma y0 0 y2 y3 y4 y5 y6 y7 y8 y9 y10 y11 y12 y13 (xs (i + 1).toNatClampNeg) (GSf hg).1 (GSf hg).2.2.1 hbl) (cwV 1 hts gL_law_X8_whole rfl rfl rfl hd_X8_whole_V ⟨Nat.le_of_ble_eq_true rfl, Nat.le_of_ble_eq_true rfl⟩) ⟨muP_blind, va_recv hK0.1 hP (ci := 6) (q0 := 90) rfl rfl, my_preC (wcs := [(wModE cy ma y0 0 y2 y3 y4 y5 y6 y7 y8 y9 y10 y11 y12 y13)]) hK0 hS hAB hP hD [11] (by decide) rfl (List.append_nil _)⟩ rfl rfl hl.1 rfl (lv_room (Nat.le_of_ble_eq_true rfl)) dL_law_752 ⟨(show cells + 1 ≤ 601024 by omega), (show slots + 6 ≤ 7293033 by omega)⟩) hS hP hD [11] rfl (List.append_nil _) (fun _ => List.append_nil _) (fun _ => by simp only [List.map_cons, List.map_nil, adrSet, adrSetE, adrPow, adrPowE, adrTxt, adrTxtE, adrSav, adrSavE, adrPCo, adrMod, adrModE, adrL, adrDb]) (fun _ => rfl) (fun r9 u9 H locs hw hP hD hS => ?_)
    obtain ⟨rfl, rfl⟩ := Prod.mk.inj (e4.symm.trans hw)
    have hP : va_P D vwCl (LW cy g p70 b7 c7 d7 e7 h7 k7 q ma o od st v w v2 w2 z s0 s1 s2 s3 tx y0 0 y2 ((fun _ : Int32 => (1 : Int32)) f) y4 y5 y6 y7 y8 y9 y10 y11 y12 y13 out outD) H := hP
    have hD : va_D (fun q => s.heap.size ≤ q) (LW cy g p70 b7 c7 d7 e7 h7 k7 q ma o od st v w v2 w2 z s0 s1 s2 s3 tx y0 0 y2 ((fun _ : Int32 => (1 : Int32)) f) y4 y5 y6 y7 y8 y9 y10 y11 y12 y13 out outD) := hD
    refine lv_istore (lv' := [(7, .int 0), (6, .int ((fun _ : Int32 => (1 : Int32)) f)), (0, .ref b), (1, .ref p70), (2, .ref (ma 0)), (3, .ref o), (4, .ref od), (5, .int i)]) hx hb dL_law_755 hl (by decide) rfl (fun ls hl => ?_)
    refine lv_aload_n hx hb dL_law_757 rfl (lv_at hl 4 rfl) ?_
    refine rd_goi (va_runV (C := RX8) (As := []) (rest := []) S (c_X8_thrown l D cy g s.heap.size ma y0 0 y2 ((fun _ : Int32 => (1 : Int32)) f) y4 y5 y6 y7 y8 y9 y10 y11 y12 y13) (cwV 0 hts gL_law_X8_thrown rfl rfl rfl hd_X8_thrown_V ⟨Nat.le_of_ble_eq_true rfl, Nat.le_of_ble_eq_true rfl⟩) ⟨rdP_blind, va_recv hK0.1 hP (ci := 6) (q0 := 90) rfl rfl, my_preV hK0 hS hAB hP [90, 91, 92, 93, 94, 95, 96, 97] rfl⟩ rfl rfl hl.1 rfl (lv_room (Nat.le_of_ble_eq_true rfl)) dL_law_758 ⟨(show cells + 1 ≤ 601024 by omega), (show slots + 6 ≤ 7293033 by omega)⟩) ?_
    refine lv_iload hx hb dL_law_761 (lv_at hl 1 rfl) ?_
    refine lv_icmp_eq (tgt := 768) hx hb dL_law_763 (by decide) (fun _ => ?_) (fun h9 => absurd (show ((f_X8_thrown ((fun _ : Int32 => (1 : Int32)) f)) : Int32) = ((fun _ : Int32 => (1 : Int32)) f) from rfl) h9)
    refine lv_iload hx hb dL_law_768 (lv_at hl 1 rfl) ?_
    refine lv_if_ne (tgt := 785) hx hb dL_law_770 (by decide) (fun _ => ?_) (fun h9 => absurd h9 hne)
    refine lv_goto (tgt := 1700) hx hb dL_law_785 (by decide) ?_
    refine W.widen (k := cells + 2) (n := slots + 12) (by omega) (by omega) ?_
    exact K H locs ls ⟨st, v, w, v2, w2, z, s0, s1, s2, s3, tx, y0, y2, ((fun _ : Int32 => (1 : Int32)) f), y4, y5, y6, y7, y8, y9, y10, y11, y12, y13, out, outD, hv, hg, hp, hrg, htx, hbl, hP, hD⟩ hS (lv_sub hl [2, 3, 4, 5, 6, 7] rfl)
  · rw [(txf1 htx)] at e4
    refine lv_aload_n hx hb dL_law_732 rfl (lv_at hl 1 rfl) ?_
    refine lv_aload_n hx hb dL_law_733 rfl (lv_at hl 0 rfl) ?_
    refine lv_iload hx hb dL_law_734 (lv_at hl 5 rfl) ?_
    refine lv_iconst (v := 1) hx hb dL_law_736 (by decide) ?_
    refine lv_iadd hx hb dL_law_737 ?_
    refine va_sld hx hb hX hbl0 hbA hS h1 dL_law_738 ?_
    refine lv_aload_n hx hb dL_law_739 rfl (lv_at hl 3 rfl) ?_
    refine lw_compi (wcs := [(wPCo p70 b7 c7 d7 e7 h7 k7 st), (wSet cy b7 v), (wPow cy c7 w), (wTxt cy g k7 tx), (wL cy o out)]) (wns := fun u8 => [(wPCo p70 b7 c7 d7 e7 h7 k7 u8.1.1), (wSet cy b7 v), (wPow cy c7 u8.1.2), (wTxt cy g k7 tx), (wL cy o u8.2)]) (W2 := fun u8 => (LWL cy g p70 b7 c7 d7 e7 h7 k7 q ma o od u8.1.1 v u8.1.2 v2 w2 z s0 s1 s2 s3 tx y0 0 y2 y3 y4 y5 y6 y7 y8 y9 y10 y11 y12 y13 u8.2 outD)) (vx_runSW (As := [.ref p70, .int (xs (i + 1).toNatClampNeg), .ref o]) (rest := []) S (c_L_whole l hl0 D cy g s.heap.size p70 b7 c7 d7 e7 h7 k7 st v w tx (xs (i + 1).toNatClampNeg) o out (fun k h => k_whole h)) (vx_cwSW 3 hts gL_law_L_whole rfl rfl rfl hd_L_whole_S ⟨Nat.le_of_ble_eq_true rfl, Nat.le_of_ble_eq_true rfl⟩) ⟨lwP_blind, my_preL (wcs := [(wPCo p70 b7 c7 d7 e7 h7 k7 st), (wSet cy b7 v), (wPow cy c7 w), (wTxt cy g k7 tx), (wL cy o out)]) hK0 hNc hS hAB hP hD [0, 1, 2, 10, 12] (by decide) rfl rfl⟩ rfl rfl hl.1 rfl (lv_room (Nat.le_of_ble_eq_true rfl)) dL_law_740 ⟨(show cells + 1 ≤ 601024 by omega), (show slots + 6 ≤ 7293033 by omega)⟩) hS hP hD [0, 1, 2, 10, 12] rfl rfl (fun _ => rfl) (fun _ => by simp only [List.map_cons, List.map_nil, adrSet, adrSetE, adrPow, adrPowE, adrTxt, adrTxtE, adrSav, adrSavE, adrPCo, adrMod, adrModE, adrL, adrDb]) (fun _ => rfl) (fun r9 u9 H locs hw hP hD hS => ?_)
    obtain ⟨rfl, rfl⟩ := Prod.mk.inj ((wrI_r e1).symm.trans hw)
    have hP : va_P D vwCl (LW cy g p70 b7 c7 d7 e7 h7 k7 q ma o od u.1 v u.2 v2 w2 z s0 s1 s2 s3 tx y0 0 y2 y3 y4 y5 y6 y7 y8 y9 y10 y11 y12 y13 (vp_updL out 0 (Int32.toInt64 r)) outD) H := hP
    have hD : va_D (fun q => s.heap.size ≤ q) (LW cy g p70 b7 c7 d7 e7 h7 k7 q ma o od u.1 v u.2 v2 w2 z s0 s1 s2 s3 tx y0 0 y2 y3 y4 y5 y6 y7 y8 y9 y10 y11 y12 y13 (vp_updL out 0 (Int32.toInt64 r)) outD) := hD
    refine lv_istore (lv' := [(6, .int 0), (0, .ref b), (1, .ref p70), (2, .ref (ma 0)), (3, .ref o), (4, .ref od), (5, .int i)]) hx hb dL_law_743 hl (by decide) rfl (fun ls hl => ?_)
    refine lv_aload_n hx hb dL_law_745 rfl (lv_at hl 3 rfl) ?_
    refine lv_aload_n hx hb dL_law_746 rfl (lv_at hl 1 rfl) ?_
    refine lv_iload hx hb dL_law_747 (lv_at hl 6 rfl) ?_
    refine lv_iconst (v := 1) hx hb dL_law_749 (by decide) ?_
    refine lv_iadd hx hb dL_law_750 ?_
    refine va_sld hx hb hX hbl0 hbA hS h1 dL_law_751 ?_
    refine mu_compi (wcs := [(wModE cy ma y0 0 y2 y3 y4 y5 y6 y7 y8 y9 y10 y11 y12 y13)]) (wns := fun u8 => [(wModE cy ma y0 0 y2 u8.1 u8.2.1 y5 y6 y7 y8 y9 u8.2.2 y11 y12 y13)]) (W2 := fun u8 => (LWL cy g p70 b7 c7 d7 e7 h7 k7 q ma o od u.1 v u.2 v2 w2 z s0 s1 s2 s3 tx y0 0 y2 u8.1 u8.2.1 y5 y6 y7 y8 y9 u8.2.2 y11 y12 y13 (vp_updL out 0 (Int32.toInt64 r)) outD)) (va_runV (C := RX8) (As := [.int (xs (i + 1).toNatClampNeg)]) (rest := []) S (c_X8_whole l D cy g s.heap.size ma y0 0 y2 y3 y4 y5 y6 y7 y8 y9 y10 y11 y12 y13 (xs (i + 1).toNatClampNeg) (GSf hg).1 (GSf hg).2.2.1 hbl) (cwV 1 hts gL_law_X8_whole rfl rfl rfl hd_X8_whole_V ⟨Nat.le_of_ble_eq_true rfl, Nat.le_of_ble_eq_true rfl⟩) ⟨muP_blind, va_recv hK0.1 hP (ci := 6) (q0 := 90) rfl rfl, my_preC (wcs := [(wModE cy ma y0 0 y2 y3 y4 y5 y6 y7 y8 y9 y10 y11 y12 y13)]) hK0 hS hAB hP hD [11] (by decide) rfl (List.append_nil _)⟩ rfl rfl hl.1 rfl (lv_room (Nat.le_of_ble_eq_true rfl)) dL_law_752 ⟨(show cells + 1 ≤ 601024 by omega), (show slots + 6 ≤ 7293033 by omega)⟩) hS hP hD [11] rfl (List.append_nil _) (fun _ => List.append_nil _) (fun _ => by simp only [List.map_cons, List.map_nil, adrSet, adrSetE, adrPow, adrPowE, adrTxt, adrTxtE, adrSav, adrSavE, adrPCo, adrMod, adrModE, adrL, adrDb]) (fun _ => rfl) (fun r9 u9 H locs hw hP hD hS => ?_)
    obtain ⟨rfl, rfl⟩ := Prod.mk.inj (e4.symm.trans hw)
    have hP : va_P D vwCl (LW cy g p70 b7 c7 d7 e7 h7 k7 q ma o od u.1 v u.2 v2 w2 z s0 s1 s2 s3 tx y0 0 y2 0 pp.1 y5 y6 y7 y8 y9 pp.2 y11 y12 y13 (vp_updL out 0 (Int32.toInt64 r)) outD) H := hP
    have hD : va_D (fun q => s.heap.size ≤ q) (LW cy g p70 b7 c7 d7 e7 h7 k7 q ma o od u.1 v u.2 v2 w2 z s0 s1 s2 s3 tx y0 0 y2 0 pp.1 y5 y6 y7 y8 y9 pp.2 y11 y12 y13 (vp_updL out 0 (Int32.toInt64 r)) outD) := hD
    refine lv_istore (lv' := [(7, .int r), (6, .int 0), (0, .ref b), (1, .ref p70), (2, .ref (ma 0)), (3, .ref o), (4, .ref od), (5, .int i)]) hx hb dL_law_755 hl (by decide) rfl (fun ls hl => ?_)
    refine lv_aload_n hx hb dL_law_757 rfl (lv_at hl 4 rfl) ?_
    refine rd_goi (va_runV (C := RX8) (As := []) (rest := []) S (c_X8_thrown l D cy g s.heap.size ma y0 0 y2 0 pp.1 y5 y6 y7 y8 y9 pp.2 y11 y12 y13) (cwV 0 hts gL_law_X8_thrown rfl rfl rfl hd_X8_thrown_V ⟨Nat.le_of_ble_eq_true rfl, Nat.le_of_ble_eq_true rfl⟩) ⟨rdP_blind, va_recv hK0.1 hP (ci := 6) (q0 := 90) rfl rfl, my_preV hK0 hS hAB hP [90, 91, 92, 93, 94, 95, 96, 97] rfl⟩ rfl rfl hl.1 rfl (lv_room (Nat.le_of_ble_eq_true rfl)) dL_law_758 ⟨(show cells + 1 ≤ 601024 by omega), (show slots + 6 ≤ 7293033 by omega)⟩) ?_
    refine lv_iload hx hb dL_law_761 (lv_at hl 1 rfl) ?_
    refine lv_icmp_eq (tgt := 768) hx hb dL_law_763 (by decide) (fun _ => ?_) (fun h9 => absurd (show ((f_X8_thrown 0) : Int32) = 0 from rfl) h9)
    refine lv_iload hx hb dL_law_768 (lv_at hl 1 rfl) ?_
    refine lv_if_ne (tgt := 785) hx hb dL_law_770 (by decide) (fun h9 => absurd rfl h9) (fun _ => ?_)
    refine lv_aload_n hx hb dL_law_773 rfl (lv_at hl 5 rfl) ?_
    refine lv_iconst (v := 0) hx hb dL_law_774 (by decide) ?_
    refine va_lald hx hb hK0.1 hP 98 3 rfl rfl (i := 0) (show ¬ ((0 : Int32) < 0 ∨ 1 ≤ (0 : Int32).toNatClampNeg) by decide) dL_law_775 ?_
    refine lv_iload hx hb dL_law_776 (lv_at hl 0 rfl) ?_
    refine lv_i2l (v := (Int32.toInt64 r)) hx hb dL_law_778 rfl ?_
    refine W.lcmp hx hb dL_law_779 ?_
    refine lv_if_eq (tgt := 785) hx hb dL_law_780 (by decide) (fun _ => ?_) (fun h9 => absurd ((lg_cmp_eq _ _).mpr rfl) h9)
    refine lv_goto (tgt := 1700) hx hb dL_law_785 (by decide) ?_
    refine W.widen (k := cells + 2) (n := slots + 12) (by omega) (by omega) ?_
    exact K H locs ls ⟨u.1, v, u.2, v2, w2, z, s0, s1, s2, s3, tx, y0, y2, 0, pp.1, y5, y6, y7, y8, y9, pp.2, y11, y12, y13, (vp_updL out 0 (Int32.toInt64 r)), outD, hv, hg, e5, hrg, htx, e6, hP, hD⟩ hS (lv_sub hl [2, 3, 4, 5, 6, 7] rfl)
set_option maxHeartbeats 4000000 in
set_option maxRecDepth 100000 in
theorem law_wins (C : LC p l e s m meth c b L xs D cy g) (hc : cells ≤ 590000) (hs : slots ≤ 7000000) (h1 : vp_in (i + 1) L) (h2 : vp_in (i + 2) L) (hI : LInv D cy g p70 b7 c7 d7 e7 h7 k7 q ma o od s.heap.size H) (hS : va_S (fun q => s.heap.size ≤ q) s.heap H locs) (hl : lv_has ls 9 [(0, .ref b), (1, .ref p70), (2, .ref (ma 0)), (3, .ref o), (4, .ref od), (5, .int i)])
    (K : ∀ (H : Heap) (locs : List Loc) (ls : Array Slot), LInv D cy g p70 b7 c7 d7 e7 h7 k7 q ma o od s.heap.size H → va_S (fun q => s.heap.size ≤ q) s.heap H locs → lv_has ls 9 [(0, .ref b), (1, .ref p70), (2, .ref (ma 0)), (3, .ref o), (4, .ref od), (5, .int i)] → W p l e room_1 s m #[Value.ref b] below meth c H locs (cells + 2) (slots + 12) Q (F0 m 1700 ls [])) : W p l e room_1 s m #[Value.ref b] below meth c H locs cells slots Q (F0 m 788 ls []) := by
  obtain ⟨hl0, hx, hb, hr, hml, hown, hts, hX, hbl0, hlocks, hK0, hNc, hL⟩ := C
  obtain ⟨st, v, w, v2, w2, z, s0, s1, s2, s3, tx, y0, y2, y3, y4, y5, y6, y7, y8, y9, y10, y11, y12, y13, out, outD, hv, hg, hp, hrg, htx, hbl, hP, hD⟩ := hI
  have S := my_fix hx hb hml hown hts
  have hAB : ∀ q : Nat, s.heap.size ≤ q → s.heap.size ≤ q := fun _ h => h
  have hbA : ¬ s.heap.size ≤ b := Nat.not_le.mpr hbl0
  rcases R_wins hv hg hp (xs (i + 1).toNatClampNeg) with ⟨f, e1, _, e4⟩ | ⟨r, u, e1, e4, e5⟩
  · have hne : ¬ ((fun _ : Int32 => (1 : Int32)) f) = 0 := (show ¬ (1 : Int32) = 0 by decide)
    refine lv_aload_n hx hb dL_law_788 rfl (lv_at hl 1 rfl) ?_
    refine lv_aload_n hx hb dL_law_789 rfl (lv_at hl 0 rfl) ?_
    refine lv_iload hx hb dL_law_790 (lv_at hl 5 rfl) ?_
    refine lv_iconst (v := 1) hx hb dL_law_792 (by decide) ?_
    refine lv_iadd hx hb dL_law_793 ?_
    refine va_sld hx hb hX hbl0 hbA hS h1 dL_law_794 ?_
    refine lv_aload_n hx hb dL_law_795 rfl (lv_at hl 3 rfl) ?_
    refine lw_compi (wcs := [(wPCo p70 b7 c7 d7 e7 h7 k7 st), (wSet cy b7 v), (wPow cy c7 w), (wL cy o out)]) (wns := fun u8 => [(wPCo p70 b7 c7 d7 e7 h7 k7 u8.1.1), (wSet cy b7 v), (wPow cy c7 u8.1.2), (wL cy o u8.2)]) (W2 := fun u8 => (LWL cy g p70 b7 c7 d7 e7 h7 k7 q ma o od u8.1.1 v u8.1.2 v2 w2 z s0 s1 s2 s3 tx y0 0 y2 y3 y4 y5 y6 y7 y8 y9 y10 y11 y12 y13 u8.2 outD)) (vx_runSW (As := [.ref p70, .int (xs (i + 1).toNatClampNeg), .ref o]) (rest := []) S (c_L_wins l hl0 D cy g s.heap.size p70 b7 c7 d7 e7 h7 k7 st v w (xs (i + 1).toNatClampNeg) o out (fun k h => k_wins h)) (vx_cwSW 3 hts gL_law_L_wins rfl rfl rfl hd_L_wins_S ⟨Nat.le_of_ble_eq_true rfl, Nat.le_of_ble_eq_true rfl⟩) ⟨lwP_blind, my_preL (wcs := [(wPCo p70 b7 c7 d7 e7 h7 k7 st), (wSet cy b7 v), (wPow cy c7 w), (wL cy o out)]) hK0 hNc hS hAB hP hD [0, 1, 2, 12] (by decide) rfl rfl⟩ rfl rfl hl.1 rfl (lv_room (Nat.le_of_ble_eq_true rfl)) dL_law_796 ⟨(show cells + 1 ≤ 601024 by omega), (show slots + 6 ≤ 7293033 by omega)⟩) hS hP hD [0, 1, 2, 12] rfl rfl (fun _ => rfl) (fun _ => by simp only [List.map_cons, List.map_nil, adrSet, adrSetE, adrPow, adrPowE, adrTxt, adrTxtE, adrSav, adrSavE, adrPCo, adrMod, adrModE, adrL, adrDb]) (fun _ => rfl) (fun r9 u9 H locs hw hP hD hS => ?_)
    obtain ⟨rfl, rfl⟩ := Prod.mk.inj ((wrI_l e1).symm.trans hw)
    have hP : va_P D vwCl (LW cy g p70 b7 c7 d7 e7 h7 k7 q ma o od st v w v2 w2 z s0 s1 s2 s3 tx y0 0 y2 y3 y4 y5 y6 y7 y8 y9 y10 y11 y12 y13 out outD) H := hP
    have hD : va_D (fun q => s.heap.size ≤ q) (LW cy g p70 b7 c7 d7 e7 h7 k7 q ma o od st v w v2 w2 z s0 s1 s2 s3 tx y0 0 y2 y3 y4 y5 y6 y7 y8 y9 y10 y11 y12 y13 out outD) := hD
    refine lv_istore (lv' := [(6, .int ((fun _ : Int32 => (1 : Int32)) f)), (0, .ref b), (1, .ref p70), (2, .ref (ma 0)), (3, .ref o), (4, .ref od), (5, .int i)]) hx hb dL_law_799 hl (by decide) rfl (fun ls hl => ?_)
    refine lv_aload_n hx hb dL_law_801 rfl (lv_at hl 3 rfl) ?_
    refine lv_aload_n hx hb dL_law_802 rfl (lv_at hl 1 rfl) ?_
    refine lv_iload hx hb dL_law_803 (lv_at hl 6 rfl) ?_
    refine lv_iconst (v := 1) hx hb dL_law_805 (by decide) ?_
    refine lv_iadd hx hb dL_law_806 ?_
    refine va_sld hx hb hX hbl0 hbA hS h1 dL_law_807 ?_
    refine mu_compi (wcs := [(wModE cy ma y0 0 y2 y3 y4 y5 y6 y7 y8 y9 y10 y11 y12 y13)]) (wns := fun u8 => [(wModE cy ma y0 0 y2 u8 y4 y5 y6 y7 y8 y9 y10 y11 y12 y13)]) (W2 := fun u8 => (LWL cy g p70 b7 c7 d7 e7 h7 k7 q ma o od st v w v2 w2 z s0 s1 s2 s3 tx y0 0 y2 u8 y4 y5 y6 y7 y8 y9 y10 y11 y12 y13 out outD)) (va_runV (C := RX8) (As := [.int (xs (i + 1).toNatClampNeg)]) (rest := []) S (c_X8_wins l D cy g s.heap.size ma y0 0 y2 y3 y4 y5 y6 y7 y8 y9 y10 y11 y12 y13 (xs (i + 1).toNatClampNeg) (GSf hg).1 (GSf hg).2.2.1) (cwV 1 hts gL_law_X8_wins rfl rfl rfl hd_X8_wins_V ⟨Nat.le_of_ble_eq_true rfl, Nat.le_of_ble_eq_true rfl⟩) ⟨muP_blind, va_recv hK0.1 hP (ci := 6) (q0 := 90) rfl rfl, my_preC (wcs := [(wModE cy ma y0 0 y2 y3 y4 y5 y6 y7 y8 y9 y10 y11 y12 y13)]) hK0 hS hAB hP hD [11] (by decide) rfl (List.append_nil _)⟩ rfl rfl hl.1 rfl (lv_room (Nat.le_of_ble_eq_true rfl)) dL_law_808 ⟨(show cells + 1 ≤ 601024 by omega), (show slots + 6 ≤ 7293033 by omega)⟩) hS hP hD [11] rfl (List.append_nil _) (fun _ => List.append_nil _) (fun _ => by simp only [List.map_cons, List.map_nil, adrSet, adrSetE, adrPow, adrPowE, adrTxt, adrTxtE, adrSav, adrSavE, adrPCo, adrMod, adrModE, adrL, adrDb]) (fun _ => rfl) (fun r9 u9 H locs hw hP hD hS => ?_)
    obtain ⟨rfl, rfl⟩ := Prod.mk.inj (e4.symm.trans hw)
    have hP : va_P D vwCl (LW cy g p70 b7 c7 d7 e7 h7 k7 q ma o od st v w v2 w2 z s0 s1 s2 s3 tx y0 0 y2 1 y4 y5 y6 y7 y8 y9 y10 y11 y12 y13 out outD) H := hP
    have hD : va_D (fun q => s.heap.size ≤ q) (LW cy g p70 b7 c7 d7 e7 h7 k7 q ma o od st v w v2 w2 z s0 s1 s2 s3 tx y0 0 y2 1 y4 y5 y6 y7 y8 y9 y10 y11 y12 y13 out outD) := hD
    refine lv_istore (lv' := [(7, .int 0), (6, .int ((fun _ : Int32 => (1 : Int32)) f)), (0, .ref b), (1, .ref p70), (2, .ref (ma 0)), (3, .ref o), (4, .ref od), (5, .int i)]) hx hb dL_law_811 hl (by decide) rfl (fun ls hl => ?_)
    refine lv_aload_n hx hb dL_law_813 rfl (lv_at hl 4 rfl) ?_
    refine rd_goi (va_runV (C := RX8) (As := []) (rest := []) S (c_X8_thrown l D cy g s.heap.size ma y0 0 y2 1 y4 y5 y6 y7 y8 y9 y10 y11 y12 y13) (cwV 0 hts gL_law_X8_thrown rfl rfl rfl hd_X8_thrown_V ⟨Nat.le_of_ble_eq_true rfl, Nat.le_of_ble_eq_true rfl⟩) ⟨rdP_blind, va_recv hK0.1 hP (ci := 6) (q0 := 90) rfl rfl, my_preV hK0 hS hAB hP [90, 91, 92, 93, 94, 95, 96, 97] rfl⟩ rfl rfl hl.1 rfl (lv_room (Nat.le_of_ble_eq_true rfl)) dL_law_814 ⟨(show cells + 1 ≤ 601024 by omega), (show slots + 6 ≤ 7293033 by omega)⟩) ?_
    refine lv_iload hx hb dL_law_817 (lv_at hl 1 rfl) ?_
    refine lv_icmp_eq (tgt := 824) hx hb dL_law_819 (by decide) (fun _ => ?_) (fun h9 => absurd (show ((f_X8_thrown 1) : Int32) = ((fun _ : Int32 => (1 : Int32)) f) from rfl) h9)
    refine lv_iload hx hb dL_law_824 (lv_at hl 1 rfl) ?_
    refine lv_if_ne (tgt := 841) hx hb dL_law_826 (by decide) (fun _ => ?_) (fun h9 => absurd h9 hne)
    refine lv_goto (tgt := 1700) hx hb dL_law_841 (by decide) ?_
    refine W.widen (k := cells + 2) (n := slots + 12) (by omega) (by omega) ?_
    exact K H locs ls ⟨st, v, w, v2, w2, z, s0, s1, s2, s3, tx, y0, y2, 1, y4, y5, y6, y7, y8, y9, y10, y11, y12, y13, out, outD, hv, hg, hp, hrg, htx, hbl, hP, hD⟩ hS (lv_sub hl [2, 3, 4, 5, 6, 7] rfl)
  · refine lv_aload_n hx hb dL_law_788 rfl (lv_at hl 1 rfl) ?_
    refine lv_aload_n hx hb dL_law_789 rfl (lv_at hl 0 rfl) ?_
    refine lv_iload hx hb dL_law_790 (lv_at hl 5 rfl) ?_
    refine lv_iconst (v := 1) hx hb dL_law_792 (by decide) ?_
    refine lv_iadd hx hb dL_law_793 ?_
    refine va_sld hx hb hX hbl0 hbA hS h1 dL_law_794 ?_
    refine lv_aload_n hx hb dL_law_795 rfl (lv_at hl 3 rfl) ?_
    refine lw_compi (wcs := [(wPCo p70 b7 c7 d7 e7 h7 k7 st), (wSet cy b7 v), (wPow cy c7 w), (wL cy o out)]) (wns := fun u8 => [(wPCo p70 b7 c7 d7 e7 h7 k7 u8.1.1), (wSet cy b7 v), (wPow cy c7 u8.1.2), (wL cy o u8.2)]) (W2 := fun u8 => (LWL cy g p70 b7 c7 d7 e7 h7 k7 q ma o od u8.1.1 v u8.1.2 v2 w2 z s0 s1 s2 s3 tx y0 0 y2 y3 y4 y5 y6 y7 y8 y9 y10 y11 y12 y13 u8.2 outD)) (vx_runSW (As := [.ref p70, .int (xs (i + 1).toNatClampNeg), .ref o]) (rest := []) S (c_L_wins l hl0 D cy g s.heap.size p70 b7 c7 d7 e7 h7 k7 st v w (xs (i + 1).toNatClampNeg) o out (fun k h => k_wins h)) (vx_cwSW 3 hts gL_law_L_wins rfl rfl rfl hd_L_wins_S ⟨Nat.le_of_ble_eq_true rfl, Nat.le_of_ble_eq_true rfl⟩) ⟨lwP_blind, my_preL (wcs := [(wPCo p70 b7 c7 d7 e7 h7 k7 st), (wSet cy b7 v), (wPow cy c7 w), (wL cy o out)]) hK0 hNc hS hAB hP hD [0, 1, 2, 12] (by decide) rfl rfl⟩ rfl rfl hl.1 rfl (lv_room (Nat.le_of_ble_eq_true rfl)) dL_law_796 ⟨(show cells + 1 ≤ 601024 by omega), (show slots + 6 ≤ 7293033 by omega)⟩) hS hP hD [0, 1, 2, 12] rfl rfl (fun _ => rfl) (fun _ => by simp only [List.map_cons, List.map_nil, adrSet, adrSetE, adrPow, adrPowE, adrTxt, adrTxtE, adrSav, adrSavE, adrPCo, adrMod, adrModE, adrL, adrDb]) (fun _ => rfl) (fun r9 u9 H locs hw hP hD hS => ?_)
    obtain ⟨rfl, rfl⟩ := Prod.mk.inj ((wrI_r e1).symm.trans hw)
    have hP : va_P D vwCl (LW cy g p70 b7 c7 d7 e7 h7 k7 q ma o od u.1 v u.2 v2 w2 z s0 s1 s2 s3 tx y0 0 y2 y3 y4 y5 y6 y7 y8 y9 y10 y11 y12 y13 (vp_updL out 0 (Int32.toInt64 r)) outD) H := hP
    have hD : va_D (fun q => s.heap.size ≤ q) (LW cy g p70 b7 c7 d7 e7 h7 k7 q ma o od u.1 v u.2 v2 w2 z s0 s1 s2 s3 tx y0 0 y2 y3 y4 y5 y6 y7 y8 y9 y10 y11 y12 y13 (vp_updL out 0 (Int32.toInt64 r)) outD) := hD
    refine lv_istore (lv' := [(6, .int 0), (0, .ref b), (1, .ref p70), (2, .ref (ma 0)), (3, .ref o), (4, .ref od), (5, .int i)]) hx hb dL_law_799 hl (by decide) rfl (fun ls hl => ?_)
    refine lv_aload_n hx hb dL_law_801 rfl (lv_at hl 3 rfl) ?_
    refine lv_aload_n hx hb dL_law_802 rfl (lv_at hl 1 rfl) ?_
    refine lv_iload hx hb dL_law_803 (lv_at hl 6 rfl) ?_
    refine lv_iconst (v := 1) hx hb dL_law_805 (by decide) ?_
    refine lv_iadd hx hb dL_law_806 ?_
    refine va_sld hx hb hX hbl0 hbA hS h1 dL_law_807 ?_
    refine mu_compi (wcs := [(wModE cy ma y0 0 y2 y3 y4 y5 y6 y7 y8 y9 y10 y11 y12 y13)]) (wns := fun u8 => [(wModE cy ma y0 0 y2 u8 y4 y5 y6 y7 y8 y9 y10 y11 y12 y13)]) (W2 := fun u8 => (LWL cy g p70 b7 c7 d7 e7 h7 k7 q ma o od u.1 v u.2 v2 w2 z s0 s1 s2 s3 tx y0 0 y2 u8 y4 y5 y6 y7 y8 y9 y10 y11 y12 y13 (vp_updL out 0 (Int32.toInt64 r)) outD)) (va_runV (C := RX8) (As := [.int (xs (i + 1).toNatClampNeg)]) (rest := []) S (c_X8_wins l D cy g s.heap.size ma y0 0 y2 y3 y4 y5 y6 y7 y8 y9 y10 y11 y12 y13 (xs (i + 1).toNatClampNeg) (GSf hg).1 (GSf hg).2.2.1) (cwV 1 hts gL_law_X8_wins rfl rfl rfl hd_X8_wins_V ⟨Nat.le_of_ble_eq_true rfl, Nat.le_of_ble_eq_true rfl⟩) ⟨muP_blind, va_recv hK0.1 hP (ci := 6) (q0 := 90) rfl rfl, my_preC (wcs := [(wModE cy ma y0 0 y2 y3 y4 y5 y6 y7 y8 y9 y10 y11 y12 y13)]) hK0 hS hAB hP hD [11] (by decide) rfl (List.append_nil _)⟩ rfl rfl hl.1 rfl (lv_room (Nat.le_of_ble_eq_true rfl)) dL_law_808 ⟨(show cells + 1 ≤ 601024 by omega), (show slots + 6 ≤ 7293033 by omega)⟩) hS hP hD [11] rfl (List.append_nil _) (fun _ => List.append_nil _) (fun _ => by simp only [List.map_cons, List.map_nil, adrSet, adrSetE, adrPow, adrPowE, adrTxt, adrTxtE, adrSav, adrSavE, adrPCo, adrMod, adrModE, adrL, adrDb]) (fun _ => rfl) (fun r9 u9 H locs hw hP hD hS => ?_)
    obtain ⟨rfl, rfl⟩ := Prod.mk.inj (e4.symm.trans hw)
    have hP : va_P D vwCl (LW cy g p70 b7 c7 d7 e7 h7 k7 q ma o od u.1 v u.2 v2 w2 z s0 s1 s2 s3 tx y0 0 y2 0 y4 y5 y6 y7 y8 y9 y10 y11 y12 y13 (vp_updL out 0 (Int32.toInt64 r)) outD) H := hP
    have hD : va_D (fun q => s.heap.size ≤ q) (LW cy g p70 b7 c7 d7 e7 h7 k7 q ma o od u.1 v u.2 v2 w2 z s0 s1 s2 s3 tx y0 0 y2 0 y4 y5 y6 y7 y8 y9 y10 y11 y12 y13 (vp_updL out 0 (Int32.toInt64 r)) outD) := hD
    refine lv_istore (lv' := [(7, .int r), (6, .int 0), (0, .ref b), (1, .ref p70), (2, .ref (ma 0)), (3, .ref o), (4, .ref od), (5, .int i)]) hx hb dL_law_811 hl (by decide) rfl (fun ls hl => ?_)
    refine lv_aload_n hx hb dL_law_813 rfl (lv_at hl 4 rfl) ?_
    refine rd_goi (va_runV (C := RX8) (As := []) (rest := []) S (c_X8_thrown l D cy g s.heap.size ma y0 0 y2 0 y4 y5 y6 y7 y8 y9 y10 y11 y12 y13) (cwV 0 hts gL_law_X8_thrown rfl rfl rfl hd_X8_thrown_V ⟨Nat.le_of_ble_eq_true rfl, Nat.le_of_ble_eq_true rfl⟩) ⟨rdP_blind, va_recv hK0.1 hP (ci := 6) (q0 := 90) rfl rfl, my_preV hK0 hS hAB hP [90, 91, 92, 93, 94, 95, 96, 97] rfl⟩ rfl rfl hl.1 rfl (lv_room (Nat.le_of_ble_eq_true rfl)) dL_law_814 ⟨(show cells + 1 ≤ 601024 by omega), (show slots + 6 ≤ 7293033 by omega)⟩) ?_
    refine lv_iload hx hb dL_law_817 (lv_at hl 1 rfl) ?_
    refine lv_icmp_eq (tgt := 824) hx hb dL_law_819 (by decide) (fun _ => ?_) (fun h9 => absurd (show ((f_X8_thrown 0) : Int32) = 0 from rfl) h9)
    refine lv_iload hx hb dL_law_824 (lv_at hl 1 rfl) ?_
    refine lv_if_ne (tgt := 841) hx hb dL_law_826 (by decide) (fun h9 => absurd rfl h9) (fun _ => ?_)
    refine lv_aload_n hx hb dL_law_829 rfl (lv_at hl 5 rfl) ?_
    refine lv_iconst (v := 0) hx hb dL_law_830 (by decide) ?_
    refine va_lald hx hb hK0.1 hP 98 3 rfl rfl (i := 0) (show ¬ ((0 : Int32) < 0 ∨ 1 ≤ (0 : Int32).toNatClampNeg) by decide) dL_law_831 ?_
    refine lv_iload hx hb dL_law_832 (lv_at hl 0 rfl) ?_
    refine lv_i2l (v := (Int32.toInt64 r)) hx hb dL_law_834 rfl ?_
    refine W.lcmp hx hb dL_law_835 ?_
    refine lv_if_eq (tgt := 841) hx hb dL_law_836 (by decide) (fun _ => ?_) (fun h9 => absurd ((lg_cmp_eq _ _).mpr rfl) h9)
    refine lv_goto (tgt := 1700) hx hb dL_law_841 (by decide) ?_
    refine W.widen (k := cells + 2) (n := slots + 12) (by omega) (by omega) ?_
    exact K H locs ls ⟨u.1, v, u.2, v2, w2, z, s0, s1, s2, s3, tx, y0, y2, 0, y4, y5, y6, y7, y8, y9, y10, y11, y12, y13, (vp_updL out 0 (Int32.toInt64 r)), outD, hv, hg, e5, hrg, htx, hbl, hP, hD⟩ hS (lv_sub hl [2, 3, 4, 5, 6, 7] rfl)
set_option maxHeartbeats 4000000 in
set_option maxRecDepth 100000 in
theorem law_least (C : LC p l e s m meth c b L xs D cy g) (hc : cells ≤ 590000) (hs : slots ≤ 7000000) (h1 : vp_in (i + 1) L) (h2 : vp_in (i + 2) L) (hI : LInv D cy g p70 b7 c7 d7 e7 h7 k7 q ma o od s.heap.size H) (hS : va_S (fun q => s.heap.size ≤ q) s.heap H locs) (hl : lv_has ls 9 [(0, .ref b), (1, .ref p70), (2, .ref (ma 0)), (3, .ref o), (4, .ref od), (5, .int i)])
    (K : ∀ (H : Heap) (locs : List Loc) (ls : Array Slot), LInv D cy g p70 b7 c7 d7 e7 h7 k7 q ma o od s.heap.size H → va_S (fun q => s.heap.size ≤ q) s.heap H locs → lv_has ls 9 [(0, .ref b), (1, .ref p70), (2, .ref (ma 0)), (3, .ref o), (4, .ref od), (5, .int i)] → W p l e room_1 s m #[Value.ref b] below meth c H locs (cells + 2) (slots + 12) Q (F0 m 1700 ls [])) : W p l e room_1 s m #[Value.ref b] below meth c H locs cells slots Q (F0 m 844 ls []) := by
  obtain ⟨hl0, hx, hb, hr, hml, hown, hts, hX, hbl0, hlocks, hK0, hNc, hL⟩ := C
  obtain ⟨st, v, w, v2, w2, z, s0, s1, s2, s3, tx, y0, y2, y3, y4, y5, y6, y7, y8, y9, y10, y11, y12, y13, out, outD, hv, hg, hp, hrg, htx, hbl, hP, hD⟩ := hI
  have S := my_fix hx hb hml hown hts
  have hAB : ∀ q : Nat, s.heap.size ≤ q → s.heap.size ≤ q := fun _ h => h
  have hbA : ¬ s.heap.size ≤ b := Nat.not_le.mpr hbl0
  rcases R_least hv hg hp hbl (xs (i + 1).toNatClampNeg) with ⟨f, e1, _, e3, e4⟩ | ⟨r, u, pp, e1, e4, e5, e6⟩
  · have hne : ¬ ((fun _ : Int32 => (1 : Int32)) f) = 0 := pos_ne e3
    have e4 : f_X8_least y4 y7 y10 (xs (i + 1).toNatClampNeg) = (0, (((fun _ : Int32 => (1 : Int32)) f), y4, y10)) := e4
    refine lv_aload_n hx hb dL_law_844 rfl (lv_at hl 1 rfl) ?_
    refine lv_aload_n hx hb dL_law_845 rfl (lv_at hl 0 rfl) ?_
    refine lv_iload hx hb dL_law_846 (lv_at hl 5 rfl) ?_
    refine lv_iconst (v := 1) hx hb dL_law_848 (by decide) ?_
    refine lv_iadd hx hb dL_law_849 ?_
    refine va_sld hx hb hX hbl0 hbA hS h1 dL_law_850 ?_
    refine lv_aload_n hx hb dL_law_851 rfl (lv_at hl 3 rfl) ?_
    refine lw_compi (wcs := [(wPCo p70 b7 c7 d7 e7 h7 k7 st), (wSet cy b7 v), (wPow cy c7 w), (wL cy o out)]) (wns := fun u8 => [(wPCo p70 b7 c7 d7 e7 h7 k7 u8.1.1), (wSet cy b7 v), (wPow cy c7 u8.1.2), (wL cy o u8.2)]) (W2 := fun u8 => (LWL cy g p70 b7 c7 d7 e7 h7 k7 q ma o od u8.1.1 v u8.1.2 v2 w2 z s0 s1 s2 s3 tx y0 0 y2 y3 y4 y5 y6 y7 y8 y9 y10 y11 y12 y13 u8.2 outD)) (vx_runSW (As := [.ref p70, .int (xs (i + 1).toNatClampNeg), .ref o]) (rest := []) S (c_L_least l hl0 D cy g s.heap.size p70 b7 c7 d7 e7 h7 k7 st v w (xs (i + 1).toNatClampNeg) o out (fun k h => k_least h)) (vx_cwSW 3 hts gL_law_L_least rfl rfl rfl hd_L_least_S ⟨Nat.le_of_ble_eq_true rfl, Nat.le_of_ble_eq_true rfl⟩) ⟨lwP_blind, my_preL (wcs := [(wPCo p70 b7 c7 d7 e7 h7 k7 st), (wSet cy b7 v), (wPow cy c7 w), (wL cy o out)]) hK0 hNc hS hAB hP hD [0, 1, 2, 12] (by decide) rfl rfl⟩ rfl rfl hl.1 rfl (lv_room (Nat.le_of_ble_eq_true rfl)) dL_law_852 ⟨(show cells + 1 ≤ 601024 by omega), (show slots + 6 ≤ 7293033 by omega)⟩) hS hP hD [0, 1, 2, 12] rfl rfl (fun _ => rfl) (fun _ => by simp only [List.map_cons, List.map_nil, adrSet, adrSetE, adrPow, adrPowE, adrTxt, adrTxtE, adrSav, adrSavE, adrPCo, adrMod, adrModE, adrL, adrDb]) (fun _ => rfl) (fun r9 u9 H locs hw hP hD hS => ?_)
    obtain ⟨rfl, rfl⟩ := Prod.mk.inj ((wrI_l e1).symm.trans hw)
    have hP : va_P D vwCl (LW cy g p70 b7 c7 d7 e7 h7 k7 q ma o od st v w v2 w2 z s0 s1 s2 s3 tx y0 0 y2 y3 y4 y5 y6 y7 y8 y9 y10 y11 y12 y13 out outD) H := hP
    have hD : va_D (fun q => s.heap.size ≤ q) (LW cy g p70 b7 c7 d7 e7 h7 k7 q ma o od st v w v2 w2 z s0 s1 s2 s3 tx y0 0 y2 y3 y4 y5 y6 y7 y8 y9 y10 y11 y12 y13 out outD) := hD
    refine lv_istore (lv' := [(6, .int ((fun _ : Int32 => (1 : Int32)) f)), (0, .ref b), (1, .ref p70), (2, .ref (ma 0)), (3, .ref o), (4, .ref od), (5, .int i)]) hx hb dL_law_855 hl (by decide) rfl (fun ls hl => ?_)
    refine lv_aload_n hx hb dL_law_857 rfl (lv_at hl 3 rfl) ?_
    refine lv_aload_n hx hb dL_law_858 rfl (lv_at hl 1 rfl) ?_
    refine lv_iload hx hb dL_law_859 (lv_at hl 6 rfl) ?_
    refine lv_iconst (v := 1) hx hb dL_law_861 (by decide) ?_
    refine lv_iadd hx hb dL_law_862 ?_
    refine va_sld hx hb hX hbl0 hbA hS h1 dL_law_863 ?_
    refine mu_compi (wcs := [(wModE cy ma y0 0 y2 y3 y4 y5 y6 y7 y8 y9 y10 y11 y12 y13)]) (wns := fun u8 => [(wModE cy ma y0 0 y2 u8.1 u8.2.1 y5 y6 y7 y8 y9 u8.2.2 y11 y12 y13)]) (W2 := fun u8 => (LWL cy g p70 b7 c7 d7 e7 h7 k7 q ma o od st v w v2 w2 z s0 s1 s2 s3 tx y0 0 y2 u8.1 u8.2.1 y5 y6 y7 y8 y9 u8.2.2 y11 y12 y13 out outD)) (va_runV (C := RX8) (As := [.int (xs (i + 1).toNatClampNeg)]) (rest := []) S (c_X8_least l D cy g s.heap.size ma y0 0 y2 y3 y4 y5 y6 y7 y8 y9 y10 y11 y12 y13 (xs (i + 1).toNatClampNeg) (GSf hg).1 (GSf hg).2.2.1 hbl) (cwV 1 hts gL_law_X8_least rfl rfl rfl hd_X8_least_V ⟨Nat.le_of_ble_eq_true rfl, Nat.le_of_ble_eq_true rfl⟩) ⟨muP_blind, va_recv hK0.1 hP (ci := 6) (q0 := 90) rfl rfl, my_preC (wcs := [(wModE cy ma y0 0 y2 y3 y4 y5 y6 y7 y8 y9 y10 y11 y12 y13)]) hK0 hS hAB hP hD [11] (by decide) rfl (List.append_nil _)⟩ rfl rfl hl.1 rfl (lv_room (Nat.le_of_ble_eq_true rfl)) dL_law_864 ⟨(show cells + 1 ≤ 601024 by omega), (show slots + 6 ≤ 7293033 by omega)⟩) hS hP hD [11] rfl (List.append_nil _) (fun _ => List.append_nil _) (fun _ => by simp only [List.map_cons, List.map_nil, adrSet, adrSetE, adrPow, adrPowE, adrTxt, adrTxtE, adrSav, adrSavE, adrPCo, adrMod, adrModE, adrL, adrDb]) (fun _ => rfl) (fun r9 u9 H locs hw hP hD hS => ?_)
    obtain ⟨rfl, rfl⟩ := Prod.mk.inj (e4.symm.trans hw)
    have hP : va_P D vwCl (LW cy g p70 b7 c7 d7 e7 h7 k7 q ma o od st v w v2 w2 z s0 s1 s2 s3 tx y0 0 y2 ((fun _ : Int32 => (1 : Int32)) f) y4 y5 y6 y7 y8 y9 y10 y11 y12 y13 out outD) H := hP
    have hD : va_D (fun q => s.heap.size ≤ q) (LW cy g p70 b7 c7 d7 e7 h7 k7 q ma o od st v w v2 w2 z s0 s1 s2 s3 tx y0 0 y2 ((fun _ : Int32 => (1 : Int32)) f) y4 y5 y6 y7 y8 y9 y10 y11 y12 y13 out outD) := hD
    refine lv_istore (lv' := [(7, .int 0), (6, .int ((fun _ : Int32 => (1 : Int32)) f)), (0, .ref b), (1, .ref p70), (2, .ref (ma 0)), (3, .ref o), (4, .ref od), (5, .int i)]) hx hb dL_law_867 hl (by decide) rfl (fun ls hl => ?_)
    refine lv_aload_n hx hb dL_law_869 rfl (lv_at hl 4 rfl) ?_
    refine rd_goi (va_runV (C := RX8) (As := []) (rest := []) S (c_X8_thrown l D cy g s.heap.size ma y0 0 y2 ((fun _ : Int32 => (1 : Int32)) f) y4 y5 y6 y7 y8 y9 y10 y11 y12 y13) (cwV 0 hts gL_law_X8_thrown rfl rfl rfl hd_X8_thrown_V ⟨Nat.le_of_ble_eq_true rfl, Nat.le_of_ble_eq_true rfl⟩) ⟨rdP_blind, va_recv hK0.1 hP (ci := 6) (q0 := 90) rfl rfl, my_preV hK0 hS hAB hP [90, 91, 92, 93, 94, 95, 96, 97] rfl⟩ rfl rfl hl.1 rfl (lv_room (Nat.le_of_ble_eq_true rfl)) dL_law_870 ⟨(show cells + 1 ≤ 601024 by omega), (show slots + 6 ≤ 7293033 by omega)⟩) ?_
    refine lv_iload hx hb dL_law_873 (lv_at hl 1 rfl) ?_
    refine lv_icmp_eq (tgt := 880) hx hb dL_law_875 (by decide) (fun _ => ?_) (fun h9 => absurd (show ((f_X8_thrown ((fun _ : Int32 => (1 : Int32)) f)) : Int32) = ((fun _ : Int32 => (1 : Int32)) f) from rfl) h9)
    refine lv_iload hx hb dL_law_880 (lv_at hl 1 rfl) ?_
    refine lv_if_ne (tgt := 897) hx hb dL_law_882 (by decide) (fun _ => ?_) (fun h9 => absurd h9 hne)
    refine lv_goto (tgt := 1700) hx hb dL_law_897 (by decide) ?_
    refine W.widen (k := cells + 2) (n := slots + 12) (by omega) (by omega) ?_
    exact K H locs ls ⟨st, v, w, v2, w2, z, s0, s1, s2, s3, tx, y0, y2, ((fun _ : Int32 => (1 : Int32)) f), y4, y5, y6, y7, y8, y9, y10, y11, y12, y13, out, outD, hv, hg, hp, hrg, htx, hbl, hP, hD⟩ hS (lv_sub hl [2, 3, 4, 5, 6, 7] rfl)
  · refine lv_aload_n hx hb dL_law_844 rfl (lv_at hl 1 rfl) ?_
    refine lv_aload_n hx hb dL_law_845 rfl (lv_at hl 0 rfl) ?_
    refine lv_iload hx hb dL_law_846 (lv_at hl 5 rfl) ?_
    refine lv_iconst (v := 1) hx hb dL_law_848 (by decide) ?_
    refine lv_iadd hx hb dL_law_849 ?_
    refine va_sld hx hb hX hbl0 hbA hS h1 dL_law_850 ?_
    refine lv_aload_n hx hb dL_law_851 rfl (lv_at hl 3 rfl) ?_
    refine lw_compi (wcs := [(wPCo p70 b7 c7 d7 e7 h7 k7 st), (wSet cy b7 v), (wPow cy c7 w), (wL cy o out)]) (wns := fun u8 => [(wPCo p70 b7 c7 d7 e7 h7 k7 u8.1.1), (wSet cy b7 v), (wPow cy c7 u8.1.2), (wL cy o u8.2)]) (W2 := fun u8 => (LWL cy g p70 b7 c7 d7 e7 h7 k7 q ma o od u8.1.1 v u8.1.2 v2 w2 z s0 s1 s2 s3 tx y0 0 y2 y3 y4 y5 y6 y7 y8 y9 y10 y11 y12 y13 u8.2 outD)) (vx_runSW (As := [.ref p70, .int (xs (i + 1).toNatClampNeg), .ref o]) (rest := []) S (c_L_least l hl0 D cy g s.heap.size p70 b7 c7 d7 e7 h7 k7 st v w (xs (i + 1).toNatClampNeg) o out (fun k h => k_least h)) (vx_cwSW 3 hts gL_law_L_least rfl rfl rfl hd_L_least_S ⟨Nat.le_of_ble_eq_true rfl, Nat.le_of_ble_eq_true rfl⟩) ⟨lwP_blind, my_preL (wcs := [(wPCo p70 b7 c7 d7 e7 h7 k7 st), (wSet cy b7 v), (wPow cy c7 w), (wL cy o out)]) hK0 hNc hS hAB hP hD [0, 1, 2, 12] (by decide) rfl rfl⟩ rfl rfl hl.1 rfl (lv_room (Nat.le_of_ble_eq_true rfl)) dL_law_852 ⟨(show cells + 1 ≤ 601024 by omega), (show slots + 6 ≤ 7293033 by omega)⟩) hS hP hD [0, 1, 2, 12] rfl rfl (fun _ => rfl) (fun _ => by simp only [List.map_cons, List.map_nil, adrSet, adrSetE, adrPow, adrPowE, adrTxt, adrTxtE, adrSav, adrSavE, adrPCo, adrMod, adrModE, adrL, adrDb]) (fun _ => rfl) (fun r9 u9 H locs hw hP hD hS => ?_)
    obtain ⟨rfl, rfl⟩ := Prod.mk.inj ((wrI_r e1).symm.trans hw)
    have hP : va_P D vwCl (LW cy g p70 b7 c7 d7 e7 h7 k7 q ma o od u.1 v u.2 v2 w2 z s0 s1 s2 s3 tx y0 0 y2 y3 y4 y5 y6 y7 y8 y9 y10 y11 y12 y13 (vp_updL out 0 (Int32.toInt64 r)) outD) H := hP
    have hD : va_D (fun q => s.heap.size ≤ q) (LW cy g p70 b7 c7 d7 e7 h7 k7 q ma o od u.1 v u.2 v2 w2 z s0 s1 s2 s3 tx y0 0 y2 y3 y4 y5 y6 y7 y8 y9 y10 y11 y12 y13 (vp_updL out 0 (Int32.toInt64 r)) outD) := hD
    refine lv_istore (lv' := [(6, .int 0), (0, .ref b), (1, .ref p70), (2, .ref (ma 0)), (3, .ref o), (4, .ref od), (5, .int i)]) hx hb dL_law_855 hl (by decide) rfl (fun ls hl => ?_)
    refine lv_aload_n hx hb dL_law_857 rfl (lv_at hl 3 rfl) ?_
    refine lv_aload_n hx hb dL_law_858 rfl (lv_at hl 1 rfl) ?_
    refine lv_iload hx hb dL_law_859 (lv_at hl 6 rfl) ?_
    refine lv_iconst (v := 1) hx hb dL_law_861 (by decide) ?_
    refine lv_iadd hx hb dL_law_862 ?_
    refine va_sld hx hb hX hbl0 hbA hS h1 dL_law_863 ?_
    refine mu_compi (wcs := [(wModE cy ma y0 0 y2 y3 y4 y5 y6 y7 y8 y9 y10 y11 y12 y13)]) (wns := fun u8 => [(wModE cy ma y0 0 y2 u8.1 u8.2.1 y5 y6 y7 y8 y9 u8.2.2 y11 y12 y13)]) (W2 := fun u8 => (LWL cy g p70 b7 c7 d7 e7 h7 k7 q ma o od u.1 v u.2 v2 w2 z s0 s1 s2 s3 tx y0 0 y2 u8.1 u8.2.1 y5 y6 y7 y8 y9 u8.2.2 y11 y12 y13 (vp_updL out 0 (Int32.toInt64 r)) outD)) (va_runV (C := RX8) (As := [.int (xs (i + 1).toNatClampNeg)]) (rest := []) S (c_X8_least l D cy g s.heap.size ma y0 0 y2 y3 y4 y5 y6 y7 y8 y9 y10 y11 y12 y13 (xs (i + 1).toNatClampNeg) (GSf hg).1 (GSf hg).2.2.1 hbl) (cwV 1 hts gL_law_X8_least rfl rfl rfl hd_X8_least_V ⟨Nat.le_of_ble_eq_true rfl, Nat.le_of_ble_eq_true rfl⟩) ⟨muP_blind, va_recv hK0.1 hP (ci := 6) (q0 := 90) rfl rfl, my_preC (wcs := [(wModE cy ma y0 0 y2 y3 y4 y5 y6 y7 y8 y9 y10 y11 y12 y13)]) hK0 hS hAB hP hD [11] (by decide) rfl (List.append_nil _)⟩ rfl rfl hl.1 rfl (lv_room (Nat.le_of_ble_eq_true rfl)) dL_law_864 ⟨(show cells + 1 ≤ 601024 by omega), (show slots + 6 ≤ 7293033 by omega)⟩) hS hP hD [11] rfl (List.append_nil _) (fun _ => List.append_nil _) (fun _ => by simp only [List.map_cons, List.map_nil, adrSet, adrSetE, adrPow, adrPowE, adrTxt, adrTxtE, adrSav, adrSavE, adrPCo, adrMod, adrModE, adrL, adrDb]) (fun _ => rfl) (fun r9 u9 H locs hw hP hD hS => ?_)
    obtain ⟨rfl, rfl⟩ := Prod.mk.inj (e4.symm.trans hw)
    have hP : va_P D vwCl (LW cy g p70 b7 c7 d7 e7 h7 k7 q ma o od u.1 v u.2 v2 w2 z s0 s1 s2 s3 tx y0 0 y2 0 pp.1 y5 y6 y7 y8 y9 pp.2 y11 y12 y13 (vp_updL out 0 (Int32.toInt64 r)) outD) H := hP
    have hD : va_D (fun q => s.heap.size ≤ q) (LW cy g p70 b7 c7 d7 e7 h7 k7 q ma o od u.1 v u.2 v2 w2 z s0 s1 s2 s3 tx y0 0 y2 0 pp.1 y5 y6 y7 y8 y9 pp.2 y11 y12 y13 (vp_updL out 0 (Int32.toInt64 r)) outD) := hD
    refine lv_istore (lv' := [(7, .int r), (6, .int 0), (0, .ref b), (1, .ref p70), (2, .ref (ma 0)), (3, .ref o), (4, .ref od), (5, .int i)]) hx hb dL_law_867 hl (by decide) rfl (fun ls hl => ?_)
    refine lv_aload_n hx hb dL_law_869 rfl (lv_at hl 4 rfl) ?_
    refine rd_goi (va_runV (C := RX8) (As := []) (rest := []) S (c_X8_thrown l D cy g s.heap.size ma y0 0 y2 0 pp.1 y5 y6 y7 y8 y9 pp.2 y11 y12 y13) (cwV 0 hts gL_law_X8_thrown rfl rfl rfl hd_X8_thrown_V ⟨Nat.le_of_ble_eq_true rfl, Nat.le_of_ble_eq_true rfl⟩) ⟨rdP_blind, va_recv hK0.1 hP (ci := 6) (q0 := 90) rfl rfl, my_preV hK0 hS hAB hP [90, 91, 92, 93, 94, 95, 96, 97] rfl⟩ rfl rfl hl.1 rfl (lv_room (Nat.le_of_ble_eq_true rfl)) dL_law_870 ⟨(show cells + 1 ≤ 601024 by omega), (show slots + 6 ≤ 7293033 by omega)⟩) ?_
    refine lv_iload hx hb dL_law_873 (lv_at hl 1 rfl) ?_
    refine lv_icmp_eq (tgt := 880) hx hb dL_law_875 (by decide) (fun _ => ?_) (fun h9 => absurd (show ((f_X8_thrown 0) : Int32) = 0 from rfl) h9)
    refine lv_iload hx hb dL_law_880 (lv_at hl 1 rfl) ?_
    refine lv_if_ne (tgt := 897) hx hb dL_law_882 (by decide) (fun h9 => absurd rfl h9) (fun _ => ?_)
    refine lv_aload_n hx hb dL_law_885 rfl (lv_at hl 5 rfl) ?_
    refine lv_iconst (v := 0) hx hb dL_law_886 (by decide) ?_
    refine va_lald hx hb hK0.1 hP 98 3 rfl rfl (i := 0) (show ¬ ((0 : Int32) < 0 ∨ 1 ≤ (0 : Int32).toNatClampNeg) by decide) dL_law_887 ?_
    refine lv_iload hx hb dL_law_888 (lv_at hl 0 rfl) ?_
    refine lv_i2l (v := (Int32.toInt64 r)) hx hb dL_law_890 rfl ?_
    refine W.lcmp hx hb dL_law_891 ?_
    refine lv_if_eq (tgt := 897) hx hb dL_law_892 (by decide) (fun _ => ?_) (fun h9 => absurd ((lg_cmp_eq _ _).mpr rfl) h9)
    refine lv_goto (tgt := 1700) hx hb dL_law_897 (by decide) ?_
    refine W.widen (k := cells + 2) (n := slots + 12) (by omega) (by omega) ?_
    exact K H locs ls ⟨u.1, v, u.2, v2, w2, z, s0, s1, s2, s3, tx, y0, y2, 0, pp.1, y5, y6, y7, y8, y9, pp.2, y11, y12, y13, (vp_updL out 0 (Int32.toInt64 r)), outD, hv, hg, e5, hrg, htx, e6, hP, hD⟩ hS (lv_sub hl [2, 3, 4, 5, 6, 7] rfl)
set_option maxHeartbeats 4000000 in
set_option maxRecDepth 100000 in
theorem law_share (C : LC p l e s m meth c b L xs D cy g) (hc : cells ≤ 590000) (hs : slots ≤ 7000000) (h1 : vp_in (i + 1) L) (h2 : vp_in (i + 2) L) (hI : LInv D cy g p70 b7 c7 d7 e7 h7 k7 q ma o od s.heap.size H) (hS : va_S (fun q => s.heap.size ≤ q) s.heap H locs) (hl : lv_has ls 9 [(0, .ref b), (1, .ref p70), (2, .ref (ma 0)), (3, .ref o), (4, .ref od), (5, .int i)])
    (K : ∀ (H : Heap) (locs : List Loc) (ls : Array Slot), LInv D cy g p70 b7 c7 d7 e7 h7 k7 q ma o od s.heap.size H → va_S (fun q => s.heap.size ≤ q) s.heap H locs → lv_has ls 9 [(0, .ref b), (1, .ref p70), (2, .ref (ma 0)), (3, .ref o), (4, .ref od), (5, .int i)] → W p l e room_1 s m #[Value.ref b] below meth c H locs (cells + 2) (slots + 12) Q (F0 m 1700 ls [])) : W p l e room_1 s m #[Value.ref b] below meth c H locs cells slots Q (F0 m 900 ls []) := by
  obtain ⟨hl0, hx, hb, hr, hml, hown, hts, hX, hbl0, hlocks, hK0, hNc, hL⟩ := C
  obtain ⟨st, v, w, v2, w2, z, s0, s1, s2, s3, tx, y0, y2, y3, y4, y5, y6, y7, y8, y9, y10, y11, y12, y13, out, outD, hv, hg, hp, hrg, htx, hbl, hP, hD⟩ := hI
  have S := my_fix hx hb hml hown hts
  have hAB : ∀ q : Nat, s.heap.size ≤ q → s.heap.size ≤ q := fun _ h => h
  have hbA : ¬ s.heap.size ≤ b := Nat.not_le.mpr hbl0
  rcases R_share hv hg hp hbl (xs (i + 1).toNatClampNeg) with ⟨f, e1, _, e3, e4⟩ | ⟨r, u, pp, e1, e4, e5, e6⟩
  · have hne : ¬ ((fun _ : Int32 => (1 : Int32)) f) = 0 := pos_ne e3
    have hnf : ∀ (r : UInt32) (u : Int32 × PowV), f_X7_share st v w (xs (i + 1).toNatClampNeg) = .inr (r, u) → vf_n64 (FP.f2d r) := fun r u h => share_n h
    have e4 : f_X8_share y4 y7 y10 (xs (i + 1).toNatClampNeg) = (FP.fconst0, (((fun _ : Int32 => (1 : Int32)) f), y4, y10)) := e4
    refine lv_aload_n hx hb dL_law_900 rfl (lv_at hl 1 rfl) ?_
    refine lv_aload_n hx hb dL_law_901 rfl (lv_at hl 0 rfl) ?_
    refine lv_iload hx hb dL_law_902 (lv_at hl 5 rfl) ?_
    refine lv_iconst (v := 1) hx hb dL_law_904 (by decide) ?_
    refine lv_iadd hx hb dL_law_905 ?_
    refine va_sld hx hb hX hbl0 hbA hS h1 dL_law_906 ?_
    refine lv_aload hx hb dL_law_907 (lv_at hl 4 rfl) ?_
    refine lw_compi (wcs := [(wPCo p70 b7 c7 d7 e7 h7 k7 st), (wSet cy b7 v), (wPow cy c7 w), (wDb cy od outD)]) (wns := fun u8 => [(wPCo p70 b7 c7 d7 e7 h7 k7 u8.1.1), (wSet cy b7 v), (wPow cy c7 u8.1.2), (wDb cy od u8.2)]) (W2 := fun u8 => (LWL cy g p70 b7 c7 d7 e7 h7 k7 q ma o od u8.1.1 v u8.1.2 v2 w2 z s0 s1 s2 s3 tx y0 0 y2 y3 y4 y5 y6 y7 y8 y9 y10 y11 y12 y13 out u8.2)) (vx_runSW (As := [.ref p70, .int (xs (i + 1).toNatClampNeg), .ref od]) (rest := []) S (c_L_share l hl0 D cy g s.heap.size p70 b7 c7 d7 e7 h7 k7 st v w (xs (i + 1).toNatClampNeg) od outD (fun k h => k_share h) (fun r u h => hnf r u h)) (vx_cwSW 3 hts gL_law_L_share rfl rfl rfl hd_L_share_S ⟨Nat.le_of_ble_eq_true rfl, Nat.le_of_ble_eq_true rfl⟩) ⟨lwP_blind, my_preL (wcs := [(wPCo p70 b7 c7 d7 e7 h7 k7 st), (wSet cy b7 v), (wPow cy c7 w), (wDb cy od outD)]) hK0 hNc hS hAB hP hD [0, 1, 2, 13] (by decide) rfl rfl⟩ rfl rfl hl.1 rfl (lv_room (Nat.le_of_ble_eq_true rfl)) dL_law_909 ⟨(show cells + 1 ≤ 601024 by omega), (show slots + 6 ≤ 7293033 by omega)⟩) hS hP hD [0, 1, 2, 13] rfl rfl (fun _ => rfl) (fun _ => by simp only [List.map_cons, List.map_nil, adrSet, adrSetE, adrPow, adrPowE, adrTxt, adrTxtE, adrSav, adrSavE, adrPCo, adrMod, adrModE, adrL, adrDb]) (fun _ => rfl) (fun r9 u9 H locs hw hP hD hS => ?_)
    obtain ⟨rfl, rfl⟩ := Prod.mk.inj ((wrF_l e1).symm.trans hw)
    have hP : va_P D vwCl (LW cy g p70 b7 c7 d7 e7 h7 k7 q ma o od st v w v2 w2 z s0 s1 s2 s3 tx y0 0 y2 y3 y4 y5 y6 y7 y8 y9 y10 y11 y12 y13 out outD) H := hP
    have hD : va_D (fun q => s.heap.size ≤ q) (LW cy g p70 b7 c7 d7 e7 h7 k7 q ma o od st v w v2 w2 z s0 s1 s2 s3 tx y0 0 y2 y3 y4 y5 y6 y7 y8 y9 y10 y11 y12 y13 out outD) := hD
    refine lv_istore (lv' := [(6, .int ((fun _ : Int32 => (1 : Int32)) f)), (0, .ref b), (1, .ref p70), (2, .ref (ma 0)), (3, .ref o), (4, .ref od), (5, .int i)]) hx hb dL_law_912 hl (by decide) rfl (fun ls hl => ?_)
    refine lv_aload_n hx hb dL_law_914 rfl (lv_at hl 3 rfl) ?_
    refine lv_aload_n hx hb dL_law_915 rfl (lv_at hl 1 rfl) ?_
    refine lv_iload hx hb dL_law_916 (lv_at hl 6 rfl) ?_
    refine lv_iconst (v := 1) hx hb dL_law_918 (by decide) ?_
    refine lv_iadd hx hb dL_law_919 ?_
    refine va_sld hx hb hX hbl0 hbA hS h1 dL_law_920 ?_
    refine lw_gof (wcs := [(wModE cy ma y0 0 y2 y3 y4 y5 y6 y7 y8 y9 y10 y11 y12 y13)]) (wns := fun u8 => [(wModE cy ma y0 0 y2 u8.1 u8.2.1 y5 y6 y7 y8 y9 u8.2.2 y11 y12 y13)]) (W2 := fun u8 => (LWL cy g p70 b7 c7 d7 e7 h7 k7 q ma o od st v w v2 w2 z s0 s1 s2 s3 tx y0 0 y2 u8.1 u8.2.1 y5 y6 y7 y8 y9 u8.2.2 y11 y12 y13 out outD)) (va_runV (C := RX8) (As := [.int (xs (i + 1).toNatClampNeg)]) (rest := []) S (c_X8_share l D cy g s.heap.size ma y0 0 y2 y3 y4 y5 y6 y7 y8 y9 y10 y11 y12 y13 (xs (i + 1).toNatClampNeg) (GSf hg).1 (GSf hg).2.2.1 hbl) (cwV 1 hts gL_law_X8_share rfl rfl rfl hd_X8_share_V ⟨Nat.le_of_ble_eq_true rfl, Nat.le_of_ble_eq_true rfl⟩) ⟨muP_blind, va_recv hK0.1 hP (ci := 6) (q0 := 90) rfl rfl, my_preC (wcs := [(wModE cy ma y0 0 y2 y3 y4 y5 y6 y7 y8 y9 y10 y11 y12 y13)]) hK0 hS hAB hP hD [11] (by decide) rfl (List.append_nil _)⟩ rfl rfl hl.1 rfl (lv_room (Nat.le_of_ble_eq_true rfl)) dL_law_921 ⟨(show cells + 1 ≤ 601024 by omega), (show slots + 6 ≤ 7293033 by omega)⟩) hS hP hD [11] rfl (List.append_nil _) (fun _ => List.append_nil _) (fun _ => by simp only [List.map_cons, List.map_nil, adrSet, adrSetE, adrPow, adrPowE, adrTxt, adrTxtE, adrSav, adrSavE, adrPCo, adrMod, adrModE, adrL, adrDb]) (fun _ => rfl) (fun r9 u9 H locs hw hP hD hS => ?_)
    obtain ⟨rfl, rfl⟩ := Prod.mk.inj (e4.symm.trans hw)
    have hP : va_P D vwCl (LW cy g p70 b7 c7 d7 e7 h7 k7 q ma o od st v w v2 w2 z s0 s1 s2 s3 tx y0 0 y2 ((fun _ : Int32 => (1 : Int32)) f) y4 y5 y6 y7 y8 y9 y10 y11 y12 y13 out outD) H := hP
    have hD : va_D (fun q => s.heap.size ≤ q) (LW cy g p70 b7 c7 d7 e7 h7 k7 q ma o od st v w v2 w2 z s0 s1 s2 s3 tx y0 0 y2 ((fun _ : Int32 => (1 : Int32)) f) y4 y5 y6 y7 y8 y9 y10 y11 y12 y13 out outD) := hD
    refine lv_fstore (lv' := [(7, .float FP.fconst0), (6, .int ((fun _ : Int32 => (1 : Int32)) f)), (0, .ref b), (1, .ref p70), (2, .ref (ma 0)), (3, .ref o), (4, .ref od), (5, .int i)]) hx hb dL_law_924 hl (by decide) rfl (fun ls hl => ?_)
    refine lv_aload_n hx hb dL_law_926 rfl (lv_at hl 4 rfl) ?_
    refine rd_goi (va_runV (C := RX8) (As := []) (rest := []) S (c_X8_thrown l D cy g s.heap.size ma y0 0 y2 ((fun _ : Int32 => (1 : Int32)) f) y4 y5 y6 y7 y8 y9 y10 y11 y12 y13) (cwV 0 hts gL_law_X8_thrown rfl rfl rfl hd_X8_thrown_V ⟨Nat.le_of_ble_eq_true rfl, Nat.le_of_ble_eq_true rfl⟩) ⟨rdP_blind, va_recv hK0.1 hP (ci := 6) (q0 := 90) rfl rfl, my_preV hK0 hS hAB hP [90, 91, 92, 93, 94, 95, 96, 97] rfl⟩ rfl rfl hl.1 rfl (lv_room (Nat.le_of_ble_eq_true rfl)) dL_law_927 ⟨(show cells + 1 ≤ 601024 by omega), (show slots + 6 ≤ 7293033 by omega)⟩) ?_
    refine lv_iload hx hb dL_law_930 (lv_at hl 1 rfl) ?_
    refine lv_icmp_eq (tgt := 937) hx hb dL_law_932 (by decide) (fun _ => ?_) (fun h9 => absurd (show ((f_X8_thrown ((fun _ : Int32 => (1 : Int32)) f)) : Int32) = ((fun _ : Int32 => (1 : Int32)) f) from rfl) h9)
    refine lv_iload hx hb dL_law_937 (lv_at hl 1 rfl) ?_
    refine lv_if_ne (tgt := 975) hx hb dL_law_939 (by decide) (fun _ => ?_) (fun h9 => absurd h9 hne)
    refine lv_goto (tgt := 1700) hx hb dL_law_975 (by decide) ?_
    refine W.widen (k := cells + 2) (n := slots + 12) (by omega) (by omega) ?_
    exact K H locs ls ⟨st, v, w, v2, w2, z, s0, s1, s2, s3, tx, y0, y2, ((fun _ : Int32 => (1 : Int32)) f), y4, y5, y6, y7, y8, y9, y10, y11, y12, y13, out, outD, hv, hg, hp, hrg, htx, hbl, hP, hD⟩ hS (lv_sub hl [2, 3, 4, 5, 6, 7] rfl)
  · have hnf : ∀ (r : UInt32) (u : Int32 × PowV), f_X7_share st v w (xs (i + 1).toNatClampNeg) = .inr (r, u) → vf_n64 (FP.f2d r) := fun r u h => share_n h
    have hnn : vf_n64 (FP.f2d r) := hnf r u e1
    refine lv_aload_n hx hb dL_law_900 rfl (lv_at hl 1 rfl) ?_
    refine lv_aload_n hx hb dL_law_901 rfl (lv_at hl 0 rfl) ?_
    refine lv_iload hx hb dL_law_902 (lv_at hl 5 rfl) ?_
    refine lv_iconst (v := 1) hx hb dL_law_904 (by decide) ?_
    refine lv_iadd hx hb dL_law_905 ?_
    refine va_sld hx hb hX hbl0 hbA hS h1 dL_law_906 ?_
    refine lv_aload hx hb dL_law_907 (lv_at hl 4 rfl) ?_
    refine lw_compi (wcs := [(wPCo p70 b7 c7 d7 e7 h7 k7 st), (wSet cy b7 v), (wPow cy c7 w), (wDb cy od outD)]) (wns := fun u8 => [(wPCo p70 b7 c7 d7 e7 h7 k7 u8.1.1), (wSet cy b7 v), (wPow cy c7 u8.1.2), (wDb cy od u8.2)]) (W2 := fun u8 => (LWL cy g p70 b7 c7 d7 e7 h7 k7 q ma o od u8.1.1 v u8.1.2 v2 w2 z s0 s1 s2 s3 tx y0 0 y2 y3 y4 y5 y6 y7 y8 y9 y10 y11 y12 y13 out u8.2)) (vx_runSW (As := [.ref p70, .int (xs (i + 1).toNatClampNeg), .ref od]) (rest := []) S (c_L_share l hl0 D cy g s.heap.size p70 b7 c7 d7 e7 h7 k7 st v w (xs (i + 1).toNatClampNeg) od outD (fun k h => k_share h) (fun r u h => hnf r u h)) (vx_cwSW 3 hts gL_law_L_share rfl rfl rfl hd_L_share_S ⟨Nat.le_of_ble_eq_true rfl, Nat.le_of_ble_eq_true rfl⟩) ⟨lwP_blind, my_preL (wcs := [(wPCo p70 b7 c7 d7 e7 h7 k7 st), (wSet cy b7 v), (wPow cy c7 w), (wDb cy od outD)]) hK0 hNc hS hAB hP hD [0, 1, 2, 13] (by decide) rfl rfl⟩ rfl rfl hl.1 rfl (lv_room (Nat.le_of_ble_eq_true rfl)) dL_law_909 ⟨(show cells + 1 ≤ 601024 by omega), (show slots + 6 ≤ 7293033 by omega)⟩) hS hP hD [0, 1, 2, 13] rfl rfl (fun _ => rfl) (fun _ => by simp only [List.map_cons, List.map_nil, adrSet, adrSetE, adrPow, adrPowE, adrTxt, adrTxtE, adrSav, adrSavE, adrPCo, adrMod, adrModE, adrL, adrDb]) (fun _ => rfl) (fun r9 u9 H locs hw hP hD hS => ?_)
    obtain ⟨rfl, rfl⟩ := Prod.mk.inj ((wrF_r e1).symm.trans hw)
    have hP : va_P D vwCl (LW cy g p70 b7 c7 d7 e7 h7 k7 q ma o od u.1 v u.2 v2 w2 z s0 s1 s2 s3 tx y0 0 y2 y3 y4 y5 y6 y7 y8 y9 y10 y11 y12 y13 out (vf_upd outD 0 (FP.f2d r))) H := hP
    have hD : va_D (fun q => s.heap.size ≤ q) (LW cy g p70 b7 c7 d7 e7 h7 k7 q ma o od u.1 v u.2 v2 w2 z s0 s1 s2 s3 tx y0 0 y2 y3 y4 y5 y6 y7 y8 y9 y10 y11 y12 y13 out (vf_upd outD 0 (FP.f2d r))) := hD
    refine lv_istore (lv' := [(6, .int 0), (0, .ref b), (1, .ref p70), (2, .ref (ma 0)), (3, .ref o), (4, .ref od), (5, .int i)]) hx hb dL_law_912 hl (by decide) rfl (fun ls hl => ?_)
    refine lv_aload_n hx hb dL_law_914 rfl (lv_at hl 3 rfl) ?_
    refine lv_aload_n hx hb dL_law_915 rfl (lv_at hl 1 rfl) ?_
    refine lv_iload hx hb dL_law_916 (lv_at hl 6 rfl) ?_
    refine lv_iconst (v := 1) hx hb dL_law_918 (by decide) ?_
    refine lv_iadd hx hb dL_law_919 ?_
    refine va_sld hx hb hX hbl0 hbA hS h1 dL_law_920 ?_
    refine lw_gof (wcs := [(wModE cy ma y0 0 y2 y3 y4 y5 y6 y7 y8 y9 y10 y11 y12 y13)]) (wns := fun u8 => [(wModE cy ma y0 0 y2 u8.1 u8.2.1 y5 y6 y7 y8 y9 u8.2.2 y11 y12 y13)]) (W2 := fun u8 => (LWL cy g p70 b7 c7 d7 e7 h7 k7 q ma o od u.1 v u.2 v2 w2 z s0 s1 s2 s3 tx y0 0 y2 u8.1 u8.2.1 y5 y6 y7 y8 y9 u8.2.2 y11 y12 y13 out (vf_upd outD 0 (FP.f2d r)))) (va_runV (C := RX8) (As := [.int (xs (i + 1).toNatClampNeg)]) (rest := []) S (c_X8_share l D cy g s.heap.size ma y0 0 y2 y3 y4 y5 y6 y7 y8 y9 y10 y11 y12 y13 (xs (i + 1).toNatClampNeg) (GSf hg).1 (GSf hg).2.2.1 hbl) (cwV 1 hts gL_law_X8_share rfl rfl rfl hd_X8_share_V ⟨Nat.le_of_ble_eq_true rfl, Nat.le_of_ble_eq_true rfl⟩) ⟨muP_blind, va_recv hK0.1 hP (ci := 6) (q0 := 90) rfl rfl, my_preC (wcs := [(wModE cy ma y0 0 y2 y3 y4 y5 y6 y7 y8 y9 y10 y11 y12 y13)]) hK0 hS hAB hP hD [11] (by decide) rfl (List.append_nil _)⟩ rfl rfl hl.1 rfl (lv_room (Nat.le_of_ble_eq_true rfl)) dL_law_921 ⟨(show cells + 1 ≤ 601024 by omega), (show slots + 6 ≤ 7293033 by omega)⟩) hS hP hD [11] rfl (List.append_nil _) (fun _ => List.append_nil _) (fun _ => by simp only [List.map_cons, List.map_nil, adrSet, adrSetE, adrPow, adrPowE, adrTxt, adrTxtE, adrSav, adrSavE, adrPCo, adrMod, adrModE, adrL, adrDb]) (fun _ => rfl) (fun r9 u9 H locs hw hP hD hS => ?_)
    obtain ⟨rfl, rfl⟩ := Prod.mk.inj (e4.symm.trans hw)
    have hP : va_P D vwCl (LW cy g p70 b7 c7 d7 e7 h7 k7 q ma o od u.1 v u.2 v2 w2 z s0 s1 s2 s3 tx y0 0 y2 0 pp.1 y5 y6 y7 y8 y9 pp.2 y11 y12 y13 out (vf_upd outD 0 (FP.f2d r))) H := hP
    have hD : va_D (fun q => s.heap.size ≤ q) (LW cy g p70 b7 c7 d7 e7 h7 k7 q ma o od u.1 v u.2 v2 w2 z s0 s1 s2 s3 tx y0 0 y2 0 pp.1 y5 y6 y7 y8 y9 pp.2 y11 y12 y13 out (vf_upd outD 0 (FP.f2d r))) := hD
    refine lv_fstore (lv' := [(7, .float r), (6, .int 0), (0, .ref b), (1, .ref p70), (2, .ref (ma 0)), (3, .ref o), (4, .ref od), (5, .int i)]) hx hb dL_law_924 hl (by decide) rfl (fun ls hl => ?_)
    refine lv_aload_n hx hb dL_law_926 rfl (lv_at hl 4 rfl) ?_
    refine rd_goi (va_runV (C := RX8) (As := []) (rest := []) S (c_X8_thrown l D cy g s.heap.size ma y0 0 y2 0 pp.1 y5 y6 y7 y8 y9 pp.2 y11 y12 y13) (cwV 0 hts gL_law_X8_thrown rfl rfl rfl hd_X8_thrown_V ⟨Nat.le_of_ble_eq_true rfl, Nat.le_of_ble_eq_true rfl⟩) ⟨rdP_blind, va_recv hK0.1 hP (ci := 6) (q0 := 90) rfl rfl, my_preV hK0 hS hAB hP [90, 91, 92, 93, 94, 95, 96, 97] rfl⟩ rfl rfl hl.1 rfl (lv_room (Nat.le_of_ble_eq_true rfl)) dL_law_927 ⟨(show cells + 1 ≤ 601024 by omega), (show slots + 6 ≤ 7293033 by omega)⟩) ?_
    refine lv_iload hx hb dL_law_930 (lv_at hl 1 rfl) ?_
    refine lv_icmp_eq (tgt := 937) hx hb dL_law_932 (by decide) (fun _ => ?_) (fun h9 => absurd (show ((f_X8_thrown 0) : Int32) = 0 from rfl) h9)
    refine lv_iload hx hb dL_law_937 (lv_at hl 1 rfl) ?_
    refine lv_if_ne (tgt := 975) hx hb dL_law_939 (by decide) (fun h9 => absurd rfl h9) (fun _ => ?_)
    refine lv_aload hx hb dL_law_942 (lv_at hl 6 rfl) ?_
    refine lv_iconst (v := 0) hx hb dL_law_944 (by decide) ?_
    refine va_dald hx hb hK0.1 hP 99 4 rfl rfl (i := 0) (show ¬ ((0 : Int32) < 0 ∨ 1 ≤ (0 : Int32).toNatClampNeg) by decide) dL_law_945 ?_
    refine lv_fload hx hb dL_law_946 (lv_at hl 0 rfl) ?_
    refine lv_f2d hx hb dL_law_948 hnn ?_
    refine lv_dcmp hx hb dL_law_949 ?_
    refine lv_if_eq (tgt := 975) hx hb dL_law_950 (by decide) (fun _ => ?_) (fun h9 => absurd (dcmp_self (share_d e1)) h9)
    refine lv_goto (tgt := 1700) hx hb dL_law_975 (by decide) ?_
    refine W.widen (k := cells + 2) (n := slots + 12) (by omega) (by omega) ?_
    exact K H locs ls ⟨u.1, v, u.2, v2, w2, z, s0, s1, s2, s3, tx, y0, y2, 0, pp.1, y5, y6, y7, y8, y9, pp.2, y11, y12, y13, out, (vf_upd outD 0 (FP.f2d r)), hv, hg, e5, hrg, htx, e6, hP, hD⟩ hS (lv_sub hl [2, 3, 4, 5, 6, 7] rfl)
set_option maxHeartbeats 4000000 in
set_option maxRecDepth 100000 in
theorem law_part (C : LC p l e s m meth c b L xs D cy g) (hc : cells ≤ 590000) (hs : slots ≤ 7000000) (h1 : vp_in (i + 1) L) (h2 : vp_in (i + 2) L) (hI : LInv D cy g p70 b7 c7 d7 e7 h7 k7 q ma o od s.heap.size H) (hS : va_S (fun q => s.heap.size ≤ q) s.heap H locs) (hl : lv_has ls 9 [(0, .ref b), (1, .ref p70), (2, .ref (ma 0)), (3, .ref o), (4, .ref od), (5, .int i)])
    (K : ∀ (H : Heap) (locs : List Loc) (ls : Array Slot), LInv D cy g p70 b7 c7 d7 e7 h7 k7 q ma o od s.heap.size H → va_S (fun q => s.heap.size ≤ q) s.heap H locs → lv_has ls 9 [(0, .ref b), (1, .ref p70), (2, .ref (ma 0)), (3, .ref o), (4, .ref od), (5, .int i)] → W p l e room_1 s m #[Value.ref b] below meth c H locs (cells + 2) (slots + 12) Q (F0 m 1700 ls [])) : W p l e room_1 s m #[Value.ref b] below meth c H locs cells slots Q (F0 m 978 ls []) := by
  obtain ⟨hl0, hx, hb, hr, hml, hown, hts, hX, hbl0, hlocks, hK0, hNc, hL⟩ := C
  obtain ⟨st, v, w, v2, w2, z, s0, s1, s2, s3, tx, y0, y2, y3, y4, y5, y6, y7, y8, y9, y10, y11, y12, y13, out, outD, hv, hg, hp, hrg, htx, hbl, hP, hD⟩ := hI
  have S := my_fix hx hb hml hown hts
  have hAB : ∀ q : Nat, s.heap.size ≤ q → s.heap.size ≤ q := fun _ h => h
  have hbA : ¬ s.heap.size ≤ b := Nat.not_le.mpr hbl0
  rcases R_part hv hg hp hbl (xs (i + 1).toNatClampNeg) with ⟨f, e1, _, e3, e4⟩ | ⟨r, u, pp, e1, e4, e5, e6⟩
  · have hne : ¬ ((fun _ : Int32 => (1 : Int32)) f) = 0 := pos_ne e3
    have e4 : f_X8_part y4 y7 y10 (xs (i + 1).toNatClampNeg) = (FP.dconst0, (((fun _ : Int32 => (1 : Int32)) f), y4, y10)) := e4
    refine lv_aload_n hx hb dL_law_978 rfl (lv_at hl 1 rfl) ?_
    refine lv_aload_n hx hb dL_law_979 rfl (lv_at hl 0 rfl) ?_
    refine lv_iload hx hb dL_law_980 (lv_at hl 5 rfl) ?_
    refine lv_iconst (v := 1) hx hb dL_law_982 (by decide) ?_
    refine lv_iadd hx hb dL_law_983 ?_
    refine va_sld hx hb hX hbl0 hbA hS h1 dL_law_984 ?_
    refine lv_aload hx hb dL_law_985 (lv_at hl 4 rfl) ?_
    refine lw_compi (wcs := [(wPCo p70 b7 c7 d7 e7 h7 k7 st), (wSet cy b7 v), (wPow cy c7 w), (wDb cy od outD)]) (wns := fun u8 => [(wPCo p70 b7 c7 d7 e7 h7 k7 u8.1.1), (wSet cy b7 v), (wPow cy c7 u8.1.2), (wDb cy od u8.2)]) (W2 := fun u8 => (LWL cy g p70 b7 c7 d7 e7 h7 k7 q ma o od u8.1.1 v u8.1.2 v2 w2 z s0 s1 s2 s3 tx y0 0 y2 y3 y4 y5 y6 y7 y8 y9 y10 y11 y12 y13 out u8.2)) (vx_runSW (As := [.ref p70, .int (xs (i + 1).toNatClampNeg), .ref od]) (rest := []) S (c_L_part l hl0 D cy g s.heap.size p70 b7 c7 d7 e7 h7 k7 st v w (xs (i + 1).toNatClampNeg) od outD (fun k h => k_part h)) (vx_cwSW 3 hts gL_law_L_part rfl rfl rfl hd_L_part_S ⟨Nat.le_of_ble_eq_true rfl, Nat.le_of_ble_eq_true rfl⟩) ⟨lwP_blind, my_preL (wcs := [(wPCo p70 b7 c7 d7 e7 h7 k7 st), (wSet cy b7 v), (wPow cy c7 w), (wDb cy od outD)]) hK0 hNc hS hAB hP hD [0, 1, 2, 13] (by decide) rfl rfl⟩ rfl rfl hl.1 rfl (lv_room (Nat.le_of_ble_eq_true rfl)) dL_law_987 ⟨(show cells + 1 ≤ 601024 by omega), (show slots + 6 ≤ 7293033 by omega)⟩) hS hP hD [0, 1, 2, 13] rfl rfl (fun _ => rfl) (fun _ => by simp only [List.map_cons, List.map_nil, adrSet, adrSetE, adrPow, adrPowE, adrTxt, adrTxtE, adrSav, adrSavE, adrPCo, adrMod, adrModE, adrL, adrDb]) (fun _ => rfl) (fun r9 u9 H locs hw hP hD hS => ?_)
    obtain ⟨rfl, rfl⟩ := Prod.mk.inj ((wrD_l e1).symm.trans hw)
    have hP : va_P D vwCl (LW cy g p70 b7 c7 d7 e7 h7 k7 q ma o od st v w v2 w2 z s0 s1 s2 s3 tx y0 0 y2 y3 y4 y5 y6 y7 y8 y9 y10 y11 y12 y13 out outD) H := hP
    have hD : va_D (fun q => s.heap.size ≤ q) (LW cy g p70 b7 c7 d7 e7 h7 k7 q ma o od st v w v2 w2 z s0 s1 s2 s3 tx y0 0 y2 y3 y4 y5 y6 y7 y8 y9 y10 y11 y12 y13 out outD) := hD
    refine lv_istore (lv' := [(6, .int ((fun _ : Int32 => (1 : Int32)) f)), (0, .ref b), (1, .ref p70), (2, .ref (ma 0)), (3, .ref o), (4, .ref od), (5, .int i)]) hx hb dL_law_990 hl (by decide) rfl (fun ls hl => ?_)
    refine lv_aload_n hx hb dL_law_992 rfl (lv_at hl 3 rfl) ?_
    refine lv_aload_n hx hb dL_law_993 rfl (lv_at hl 1 rfl) ?_
    refine lv_iload hx hb dL_law_994 (lv_at hl 6 rfl) ?_
    refine lv_iconst (v := 1) hx hb dL_law_996 (by decide) ?_
    refine lv_iadd hx hb dL_law_997 ?_
    refine va_sld hx hb hX hbl0 hbA hS h1 dL_law_998 ?_
    refine lw_god (wcs := [(wModE cy ma y0 0 y2 y3 y4 y5 y6 y7 y8 y9 y10 y11 y12 y13)]) (wns := fun u8 => [(wModE cy ma y0 0 y2 u8.1 u8.2.1 y5 y6 y7 y8 y9 u8.2.2 y11 y12 y13)]) (W2 := fun u8 => (LWL cy g p70 b7 c7 d7 e7 h7 k7 q ma o od st v w v2 w2 z s0 s1 s2 s3 tx y0 0 y2 u8.1 u8.2.1 y5 y6 y7 y8 y9 u8.2.2 y11 y12 y13 out outD)) (va_runV (C := RX8) (As := [.int (xs (i + 1).toNatClampNeg)]) (rest := []) S (c_X8_part l D cy g s.heap.size ma y0 0 y2 y3 y4 y5 y6 y7 y8 y9 y10 y11 y12 y13 (xs (i + 1).toNatClampNeg) (GSf hg).1 (GSf hg).2.2.1 hbl) (cwV 1 hts gL_law_X8_part rfl rfl rfl hd_X8_part_V ⟨Nat.le_of_ble_eq_true rfl, Nat.le_of_ble_eq_true rfl⟩) ⟨muP_blind, va_recv hK0.1 hP (ci := 6) (q0 := 90) rfl rfl, my_preC (wcs := [(wModE cy ma y0 0 y2 y3 y4 y5 y6 y7 y8 y9 y10 y11 y12 y13)]) hK0 hS hAB hP hD [11] (by decide) rfl (List.append_nil _)⟩ rfl rfl hl.1 rfl (lv_room (Nat.le_of_ble_eq_true rfl)) dL_law_999 ⟨(show cells + 1 ≤ 601024 by omega), (show slots + 6 ≤ 7293033 by omega)⟩) hS hP hD [11] rfl (List.append_nil _) (fun _ => List.append_nil _) (fun _ => by simp only [List.map_cons, List.map_nil, adrSet, adrSetE, adrPow, adrPowE, adrTxt, adrTxtE, adrSav, adrSavE, adrPCo, adrMod, adrModE, adrL, adrDb]) (fun _ => rfl) (fun r9 u9 H locs hw hP hD hS => ?_)
    obtain ⟨rfl, rfl⟩ := Prod.mk.inj (e4.symm.trans hw)
    have hP : va_P D vwCl (LW cy g p70 b7 c7 d7 e7 h7 k7 q ma o od st v w v2 w2 z s0 s1 s2 s3 tx y0 0 y2 ((fun _ : Int32 => (1 : Int32)) f) y4 y5 y6 y7 y8 y9 y10 y11 y12 y13 out outD) H := hP
    have hD : va_D (fun q => s.heap.size ≤ q) (LW cy g p70 b7 c7 d7 e7 h7 k7 q ma o od st v w v2 w2 z s0 s1 s2 s3 tx y0 0 y2 ((fun _ : Int32 => (1 : Int32)) f) y4 y5 y6 y7 y8 y9 y10 y11 y12 y13 out outD) := hD
    refine lv_dstore (lv' := [(7, .double FP.dconst0), (6, .int ((fun _ : Int32 => (1 : Int32)) f)), (0, .ref b), (1, .ref p70), (2, .ref (ma 0)), (3, .ref o), (4, .ref od), (5, .int i)]) hx hb dL_law_1002 hl (by decide) rfl (fun ls hl => ?_)
    refine lv_aload_n hx hb dL_law_1004 rfl (lv_at hl 4 rfl) ?_
    refine rd_goi (va_runV (C := RX8) (As := []) (rest := []) S (c_X8_thrown l D cy g s.heap.size ma y0 0 y2 ((fun _ : Int32 => (1 : Int32)) f) y4 y5 y6 y7 y8 y9 y10 y11 y12 y13) (cwV 0 hts gL_law_X8_thrown rfl rfl rfl hd_X8_thrown_V ⟨Nat.le_of_ble_eq_true rfl, Nat.le_of_ble_eq_true rfl⟩) ⟨rdP_blind, va_recv hK0.1 hP (ci := 6) (q0 := 90) rfl rfl, my_preV hK0 hS hAB hP [90, 91, 92, 93, 94, 95, 96, 97] rfl⟩ rfl rfl hl.1 rfl (lv_room (Nat.le_of_ble_eq_true rfl)) dL_law_1005 ⟨(show cells + 1 ≤ 601024 by omega), (show slots + 6 ≤ 7293033 by omega)⟩) ?_
    refine lv_iload hx hb dL_law_1008 (lv_at hl 1 rfl) ?_
    refine lv_icmp_eq (tgt := 1015) hx hb dL_law_1010 (by decide) (fun _ => ?_) (fun h9 => absurd (show ((f_X8_thrown ((fun _ : Int32 => (1 : Int32)) f)) : Int32) = ((fun _ : Int32 => (1 : Int32)) f) from rfl) h9)
    refine lv_iload hx hb dL_law_1015 (lv_at hl 1 rfl) ?_
    refine lv_if_ne (tgt := 1052) hx hb dL_law_1017 (by decide) (fun _ => ?_) (fun h9 => absurd h9 hne)
    refine lv_goto (tgt := 1700) hx hb dL_law_1052 (by decide) ?_
    refine W.widen (k := cells + 2) (n := slots + 12) (by omega) (by omega) ?_
    exact K H locs ls ⟨st, v, w, v2, w2, z, s0, s1, s2, s3, tx, y0, y2, ((fun _ : Int32 => (1 : Int32)) f), y4, y5, y6, y7, y8, y9, y10, y11, y12, y13, out, outD, hv, hg, hp, hrg, htx, hbl, hP, hD⟩ hS (lv_sub hl [2, 3, 4, 5, 6, 7] rfl)
  · refine lv_aload_n hx hb dL_law_978 rfl (lv_at hl 1 rfl) ?_
    refine lv_aload_n hx hb dL_law_979 rfl (lv_at hl 0 rfl) ?_
    refine lv_iload hx hb dL_law_980 (lv_at hl 5 rfl) ?_
    refine lv_iconst (v := 1) hx hb dL_law_982 (by decide) ?_
    refine lv_iadd hx hb dL_law_983 ?_
    refine va_sld hx hb hX hbl0 hbA hS h1 dL_law_984 ?_
    refine lv_aload hx hb dL_law_985 (lv_at hl 4 rfl) ?_
    refine lw_compi (wcs := [(wPCo p70 b7 c7 d7 e7 h7 k7 st), (wSet cy b7 v), (wPow cy c7 w), (wDb cy od outD)]) (wns := fun u8 => [(wPCo p70 b7 c7 d7 e7 h7 k7 u8.1.1), (wSet cy b7 v), (wPow cy c7 u8.1.2), (wDb cy od u8.2)]) (W2 := fun u8 => (LWL cy g p70 b7 c7 d7 e7 h7 k7 q ma o od u8.1.1 v u8.1.2 v2 w2 z s0 s1 s2 s3 tx y0 0 y2 y3 y4 y5 y6 y7 y8 y9 y10 y11 y12 y13 out u8.2)) (vx_runSW (As := [.ref p70, .int (xs (i + 1).toNatClampNeg), .ref od]) (rest := []) S (c_L_part l hl0 D cy g s.heap.size p70 b7 c7 d7 e7 h7 k7 st v w (xs (i + 1).toNatClampNeg) od outD (fun k h => k_part h)) (vx_cwSW 3 hts gL_law_L_part rfl rfl rfl hd_L_part_S ⟨Nat.le_of_ble_eq_true rfl, Nat.le_of_ble_eq_true rfl⟩) ⟨lwP_blind, my_preL (wcs := [(wPCo p70 b7 c7 d7 e7 h7 k7 st), (wSet cy b7 v), (wPow cy c7 w), (wDb cy od outD)]) hK0 hNc hS hAB hP hD [0, 1, 2, 13] (by decide) rfl rfl⟩ rfl rfl hl.1 rfl (lv_room (Nat.le_of_ble_eq_true rfl)) dL_law_987 ⟨(show cells + 1 ≤ 601024 by omega), (show slots + 6 ≤ 7293033 by omega)⟩) hS hP hD [0, 1, 2, 13] rfl rfl (fun _ => rfl) (fun _ => by simp only [List.map_cons, List.map_nil, adrSet, adrSetE, adrPow, adrPowE, adrTxt, adrTxtE, adrSav, adrSavE, adrPCo, adrMod, adrModE, adrL, adrDb]) (fun _ => rfl) (fun r9 u9 H locs hw hP hD hS => ?_)
    obtain ⟨rfl, rfl⟩ := Prod.mk.inj ((wrD_r e1).symm.trans hw)
    have hP : va_P D vwCl (LW cy g p70 b7 c7 d7 e7 h7 k7 q ma o od u.1 v u.2 v2 w2 z s0 s1 s2 s3 tx y0 0 y2 y3 y4 y5 y6 y7 y8 y9 y10 y11 y12 y13 out (vf_upd outD 0 r)) H := hP
    have hD : va_D (fun q => s.heap.size ≤ q) (LW cy g p70 b7 c7 d7 e7 h7 k7 q ma o od u.1 v u.2 v2 w2 z s0 s1 s2 s3 tx y0 0 y2 y3 y4 y5 y6 y7 y8 y9 y10 y11 y12 y13 out (vf_upd outD 0 r)) := hD
    refine lv_istore (lv' := [(6, .int 0), (0, .ref b), (1, .ref p70), (2, .ref (ma 0)), (3, .ref o), (4, .ref od), (5, .int i)]) hx hb dL_law_990 hl (by decide) rfl (fun ls hl => ?_)
    refine lv_aload_n hx hb dL_law_992 rfl (lv_at hl 3 rfl) ?_
    refine lv_aload_n hx hb dL_law_993 rfl (lv_at hl 1 rfl) ?_
    refine lv_iload hx hb dL_law_994 (lv_at hl 6 rfl) ?_
    refine lv_iconst (v := 1) hx hb dL_law_996 (by decide) ?_
    refine lv_iadd hx hb dL_law_997 ?_
    refine va_sld hx hb hX hbl0 hbA hS h1 dL_law_998 ?_
    refine lw_god (wcs := [(wModE cy ma y0 0 y2 y3 y4 y5 y6 y7 y8 y9 y10 y11 y12 y13)]) (wns := fun u8 => [(wModE cy ma y0 0 y2 u8.1 u8.2.1 y5 y6 y7 y8 y9 u8.2.2 y11 y12 y13)]) (W2 := fun u8 => (LWL cy g p70 b7 c7 d7 e7 h7 k7 q ma o od u.1 v u.2 v2 w2 z s0 s1 s2 s3 tx y0 0 y2 u8.1 u8.2.1 y5 y6 y7 y8 y9 u8.2.2 y11 y12 y13 out (vf_upd outD 0 r))) (va_runV (C := RX8) (As := [.int (xs (i + 1).toNatClampNeg)]) (rest := []) S (c_X8_part l D cy g s.heap.size ma y0 0 y2 y3 y4 y5 y6 y7 y8 y9 y10 y11 y12 y13 (xs (i + 1).toNatClampNeg) (GSf hg).1 (GSf hg).2.2.1 hbl) (cwV 1 hts gL_law_X8_part rfl rfl rfl hd_X8_part_V ⟨Nat.le_of_ble_eq_true rfl, Nat.le_of_ble_eq_true rfl⟩) ⟨muP_blind, va_recv hK0.1 hP (ci := 6) (q0 := 90) rfl rfl, my_preC (wcs := [(wModE cy ma y0 0 y2 y3 y4 y5 y6 y7 y8 y9 y10 y11 y12 y13)]) hK0 hS hAB hP hD [11] (by decide) rfl (List.append_nil _)⟩ rfl rfl hl.1 rfl (lv_room (Nat.le_of_ble_eq_true rfl)) dL_law_999 ⟨(show cells + 1 ≤ 601024 by omega), (show slots + 6 ≤ 7293033 by omega)⟩) hS hP hD [11] rfl (List.append_nil _) (fun _ => List.append_nil _) (fun _ => by simp only [List.map_cons, List.map_nil, adrSet, adrSetE, adrPow, adrPowE, adrTxt, adrTxtE, adrSav, adrSavE, adrPCo, adrMod, adrModE, adrL, adrDb]) (fun _ => rfl) (fun r9 u9 H locs hw hP hD hS => ?_)
    obtain ⟨rfl, rfl⟩ := Prod.mk.inj (e4.symm.trans hw)
    have hP : va_P D vwCl (LW cy g p70 b7 c7 d7 e7 h7 k7 q ma o od u.1 v u.2 v2 w2 z s0 s1 s2 s3 tx y0 0 y2 0 pp.1 y5 y6 y7 y8 y9 pp.2 y11 y12 y13 out (vf_upd outD 0 r)) H := hP
    have hD : va_D (fun q => s.heap.size ≤ q) (LW cy g p70 b7 c7 d7 e7 h7 k7 q ma o od u.1 v u.2 v2 w2 z s0 s1 s2 s3 tx y0 0 y2 0 pp.1 y5 y6 y7 y8 y9 pp.2 y11 y12 y13 out (vf_upd outD 0 r)) := hD
    refine lv_dstore (lv' := [(7, .double r), (6, .int 0), (0, .ref b), (1, .ref p70), (2, .ref (ma 0)), (3, .ref o), (4, .ref od), (5, .int i)]) hx hb dL_law_1002 hl (by decide) rfl (fun ls hl => ?_)
    refine lv_aload_n hx hb dL_law_1004 rfl (lv_at hl 4 rfl) ?_
    refine rd_goi (va_runV (C := RX8) (As := []) (rest := []) S (c_X8_thrown l D cy g s.heap.size ma y0 0 y2 0 pp.1 y5 y6 y7 y8 y9 pp.2 y11 y12 y13) (cwV 0 hts gL_law_X8_thrown rfl rfl rfl hd_X8_thrown_V ⟨Nat.le_of_ble_eq_true rfl, Nat.le_of_ble_eq_true rfl⟩) ⟨rdP_blind, va_recv hK0.1 hP (ci := 6) (q0 := 90) rfl rfl, my_preV hK0 hS hAB hP [90, 91, 92, 93, 94, 95, 96, 97] rfl⟩ rfl rfl hl.1 rfl (lv_room (Nat.le_of_ble_eq_true rfl)) dL_law_1005 ⟨(show cells + 1 ≤ 601024 by omega), (show slots + 6 ≤ 7293033 by omega)⟩) ?_
    refine lv_iload hx hb dL_law_1008 (lv_at hl 1 rfl) ?_
    refine lv_icmp_eq (tgt := 1015) hx hb dL_law_1010 (by decide) (fun _ => ?_) (fun h9 => absurd (show ((f_X8_thrown 0) : Int32) = 0 from rfl) h9)
    refine lv_iload hx hb dL_law_1015 (lv_at hl 1 rfl) ?_
    refine lv_if_ne (tgt := 1052) hx hb dL_law_1017 (by decide) (fun h9 => absurd rfl h9) (fun _ => ?_)
    refine lv_aload hx hb dL_law_1020 (lv_at hl 6 rfl) ?_
    refine lv_iconst (v := 0) hx hb dL_law_1022 (by decide) ?_
    refine va_dald hx hb hK0.1 hP 99 4 rfl rfl (i := 0) (show ¬ ((0 : Int32) < 0 ∨ 1 ≤ (0 : Int32).toNatClampNeg) by decide) dL_law_1023 ?_
    refine lv_dload hx hb dL_law_1024 (lv_at hl 0 rfl) ?_
    refine lv_dcmp hx hb dL_law_1026 ?_
    refine lv_if_eq (tgt := 1052) hx hb dL_law_1027 (by decide) (fun _ => ?_) (fun hc9 => ?_)
    · refine lv_goto (tgt := 1700) hx hb dL_law_1052 (by decide) ?_
      refine W.widen (k := cells + 2) (n := slots + 12) (by omega) (by omega) ?_
      exact K H locs ls ⟨u.1, v, u.2, v2, w2, z, s0, s1, s2, s3, tx, y0, y2, 0, pp.1, y5, y6, y7, y8, y9, pp.2, y11, y12, y13, out, (vf_upd outD 0 r), hv, hg, e5, hrg, htx, e6, hP, hD⟩ hS (lv_sub hl [2, 3, 4, 5, 6, 7] rfl)
    · refine lv_aload hx hb dL_law_1030 (lv_at hl 6 rfl) ?_
      refine lv_iconst (v := 0) hx hb dL_law_1032 (by decide) ?_
      refine va_dald hx hb hK0.1 hP 99 4 rfl rfl (i := 0) (show ¬ ((0 : Int32) < 0 ∨ 1 ≤ (0 : Int32).toNatClampNeg) by decide) dL_law_1033 ?_
      refine lv_aload hx hb dL_law_1034 (lv_at hl 6 rfl) ?_
      refine lv_iconst (v := 0) hx hb dL_law_1036 (by decide) ?_
      refine va_dald hx hb hK0.1 hP 99 4 rfl rfl (i := 0) (show ¬ ((0 : Int32) < 0 ∨ 1 ≤ (0 : Int32).toNatClampNeg) by decide) dL_law_1037 ?_
      refine lv_dcmp hx hb dL_law_1038 ?_
      refine lv_if_eq (tgt := 1050) hx hb dL_law_1039 (by decide) (fun h9 => absurd h9 hc9) (fun _ => ?_)
      refine lv_dload hx hb dL_law_1042 (lv_at hl 0 rfl) ?_
      refine lv_dload hx hb dL_law_1044 (lv_at hl 0 rfl) ?_
      refine lv_dcmp hx hb dL_law_1046 ?_
      refine lv_if_ne (tgt := 1052) hx hb dL_law_1047 (by decide) (fun _ => ?_) (fun h9 => absurd h9 hc9)
      refine lv_goto (tgt := 1700) hx hb dL_law_1052 (by decide) ?_
      refine W.widen (k := cells + 2) (n := slots + 12) (by omega) (by omega) ?_
      exact K H locs ls ⟨u.1, v, u.2, v2, w2, z, s0, s1, s2, s3, tx, y0, y2, 0, pp.1, y5, y6, y7, y8, y9, pp.2, y11, y12, y13, out, (vf_upd outD 0 r), hv, hg, e5, hrg, htx, e6, hP, hD⟩ hS (lv_sub hl [2, 3, 4, 5, 6, 7] rfl)
end LAWK
