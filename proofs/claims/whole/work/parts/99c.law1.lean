/-! part 99c: calls of the law -/
theorem pos_ne {x : Int32} (h : 0 < x) : ¬ x = 0 := fun z => by
  rw [z] at h
  exact absurd h (by decide)
section LAWK
variable {p : Program} {l : Launch} {e : Env} {s : State} {m : MethodId} {below : List Frame} {meth : Method} {c : Code} {b L : Nat} {xs : Nat → Int32} {D : va_G} {cy : Nat → ClassId} {g : Nat → Nat} {p70 : Nat} {b7 c7 d7 e7 h7 k7 : Nat → Nat} {q : Nat → Nat → Nat} {ma : Nat → Nat} {o od : Nat} {H : Heap} {locs : List Loc} {cells slots : Nat} {Q : State → Prop} {ls : Array Slot} {i : Int32}
set_option maxHeartbeats 4000000 in
set_option maxRecDepth 100000 in
theorem law_add (C : LC p l e s m meth c b L xs D cy g) (hc : cells ≤ 590000) (hs : slots ≤ 7000000) (h1 : vp_in (i + 1) L) (h2 : vp_in (i + 2) L) (hI : LInv D cy g p70 b7 c7 d7 e7 h7 k7 q ma o od s.heap.size H) (hS : va_S (fun q => s.heap.size ≤ q) s.heap H locs) (hl : lv_has ls 9 [(0, .ref b), (1, .ref p70), (2, .ref (ma 0)), (3, .ref o), (4, .ref od), (5, .int i)])
    (K : ∀ (H : Heap) (locs : List Loc) (ls : Array Slot), LInv D cy g p70 b7 c7 d7 e7 h7 k7 q ma o od s.heap.size H → va_S (fun q => s.heap.size ≤ q) s.heap H locs → lv_has ls 9 [(0, .ref b), (1, .ref p70), (2, .ref (ma 0)), (3, .ref o), (4, .ref od), (5, .int i)] → W p l e room_1 s m #[Value.ref b] below meth c H locs (cells + 2) (slots + 12) Q (F0 m 1700 ls [])) : W p l e room_1 s m #[Value.ref b] below meth c H locs cells slots Q (F0 m 168 ls []) := by
  obtain ⟨hl0, hx, hb, hr, hml, hown, hts, hX, hbl0, hlocks, hK0, hNc, hL⟩ := C
  obtain ⟨st, v, w, v2, w2, z, s0, s1, s2, s3, tx, y0, y2, y3, y4, y5, y6, y7, y8, y9, y10, y11, y12, y13, out, outD, hv, hg, hp, hrg, htx, hbl, hP, hD⟩ := hI
  have S := my_fix hx hb hml hown hts
  have hAB : ∀ q : Nat, s.heap.size ≤ q → s.heap.size ≤ q := fun _ h => h
  have hbA : ¬ s.heap.size ≤ b := Nat.not_le.mpr hbl0
  rcases O_add hv hg hrg st (xs (i + 1).toNatClampNeg) with ⟨f, e1, _, e3, e4⟩ | ⟨r, u, pp, e1, e4, e5⟩
  · have hne : ¬ ((fun f : Int32 => if f = 2 then (1 : Int32) else 2) f) = 0 := pos_ne e3
    have e4 : f_X8_add y0 0 y7 y8 (xs (i + 1).toNatClampNeg) = (0, (y0, ((fun f : Int32 => if f = 2 then (1 : Int32) else 2) f), y7, y8)) := e4
    refine lv_aload_n hx hb dL_law_168 rfl (lv_at hl 1 rfl) ?_
    refine lv_aload_n hx hb dL_law_169 rfl (lv_at hl 0 rfl) ?_
    refine lv_iload hx hb dL_law_170 (lv_at hl 5 rfl) ?_
    refine lv_iconst (v := 1) hx hb dL_law_172 (by decide) ?_
    refine lv_iadd hx hb dL_law_173 ?_
    refine va_sld hx hb hX hbl0 hbA hS h1 dL_law_174 ?_
    refine lv_aload_n hx hb dL_law_175 rfl (lv_at hl 3 rfl) ?_
    refine lw_compi (wcs := [(wPCo p70 b7 c7 d7 e7 h7 k7 st), (wSet cy b7 v), (wSav cy q h7 z), (wSet cy (q 0) s0), (wSet cy (q 1) s1), (wSet cy (q 2) s2), (wSet cy (q 3) s3), (wL cy o out)]) (wns := fun u8 => [(wPCo p70 b7 c7 d7 e7 h7 k7 u8.1.1), (wSet cy b7 u8.1.2.1), (wSav cy q h7 u8.1.2.2.1), (wSet cy (q 0) u8.1.2.2.2.1), (wSet cy (q 1) u8.1.2.2.2.2.1), (wSet cy (q 2) u8.1.2.2.2.2.2.1), (wSet cy (q 3) u8.1.2.2.2.2.2.2), (wL cy o u8.2)]) (W2 := fun u8 => (LWL cy g p70 b7 c7 d7 e7 h7 k7 q ma o od u8.1.1 u8.1.2.1 w v2 w2 u8.1.2.2.1 u8.1.2.2.2.1 u8.1.2.2.2.2.1 u8.1.2.2.2.2.2.1 u8.1.2.2.2.2.2.2 tx y0 0 y2 y3 y4 y5 y6 y7 y8 y9 y10 y11 y12 y13 u8.2 outD)) (vx_runSW (As := [.ref p70, .int (xs (i + 1).toNatClampNeg), .ref o]) (rest := []) S (c_L_add l hl0 D cy g s.heap.size p70 b7 c7 d7 e7 h7 k7 q st v z s0 s1 s2 s3 (xs (i + 1).toNatClampNeg) o out (fun k h => k_add h)) (vx_cwSW 3 hts gL_law_L_add rfl rfl rfl hd_L_add_S ⟨Nat.le_of_ble_eq_true rfl, Nat.le_of_ble_eq_true rfl⟩) ⟨lwP_blind, my_preL (wcs := [(wPCo p70 b7 c7 d7 e7 h7 k7 st), (wSet cy b7 v), (wSav cy q h7 z), (wSet cy (q 0) s0), (wSet cy (q 1) s1), (wSet cy (q 2) s2), (wSet cy (q 3) s3), (wL cy o out)]) hK0 hNc hS hAB hP hD [0, 1, 5, 6, 7, 8, 9, 12] (by decide) rfl rfl⟩ rfl rfl hl.1 rfl (lv_room (Nat.le_of_ble_eq_true rfl)) dL_law_176 ⟨(show cells + 1 ≤ 601024 by omega), (show slots + 6 ≤ 7293033 by omega)⟩) hS hP hD [0, 1, 5, 6, 7, 8, 9, 12] rfl rfl (fun _ => rfl) (fun _ => by simp only [List.map_cons, List.map_nil, adrSet, adrSetE, adrPow, adrPowE, adrTxt, adrTxtE, adrSav, adrSavE, adrPCo, adrMod, adrModE, adrL, adrDb]) (fun _ => rfl) (fun r9 u9 H locs hw hP hD hS => ?_)
    obtain ⟨rfl, rfl⟩ := Prod.mk.inj ((wrI_l e1).symm.trans hw)
    have hP : va_P D vwCl (LW cy g p70 b7 c7 d7 e7 h7 k7 q ma o od st v w v2 w2 z s0 s1 s2 s3 tx y0 0 y2 y3 y4 y5 y6 y7 y8 y9 y10 y11 y12 y13 out outD) H := hP
    have hD : va_D (fun q => s.heap.size ≤ q) (LW cy g p70 b7 c7 d7 e7 h7 k7 q ma o od st v w v2 w2 z s0 s1 s2 s3 tx y0 0 y2 y3 y4 y5 y6 y7 y8 y9 y10 y11 y12 y13 out outD) := hD
    refine lv_istore (lv' := [(6, .int ((fun f : Int32 => if f = 2 then (1 : Int32) else 2) f)), (0, .ref b), (1, .ref p70), (2, .ref (ma 0)), (3, .ref o), (4, .ref od), (5, .int i)]) hx hb dL_law_179 hl (by decide) rfl (fun ls hl => ?_)
    refine lv_aload_n hx hb dL_law_181 rfl (lv_at hl 3 rfl) ?_
    refine lv_aload_n hx hb dL_law_182 rfl (lv_at hl 1 rfl) ?_
    refine lv_iload hx hb dL_law_183 (lv_at hl 6 rfl) ?_
    refine lv_iconst (v := 1) hx hb dL_law_185 (by decide) ?_
    refine lv_iadd hx hb dL_law_186 ?_
    refine va_sld hx hb hX hbl0 hbA hS h1 dL_law_187 ?_
    refine mu_compi (wcs := [(wModE cy ma y0 0 y2 y3 y4 y5 y6 y7 y8 y9 y10 y11 y12 y13)]) (wns := fun u8 => [(wModE cy ma u8.1 0 y2 u8.2.1 y4 y5 y6 u8.2.2.1 u8.2.2.2 y9 y10 y11 y12 y13)]) (W2 := fun u8 => (LWL cy g p70 b7 c7 d7 e7 h7 k7 q ma o od st v w v2 w2 z s0 s1 s2 s3 tx u8.1 0 y2 u8.2.1 y4 y5 y6 u8.2.2.1 u8.2.2.2 y9 y10 y11 y12 y13 out outD)) (va_runV (C := RX8) (As := [.int (xs (i + 1).toNatClampNeg)]) (rest := []) S (c_X8_add l D cy g s.heap.size ma y0 0 y2 y3 y4 y5 y6 y7 y8 y9 y10 y11 y12 y13 (xs (i + 1).toNatClampNeg) (ringf hrg).1 (ringf hrg).2 (GSf hg).1 (GSf hg).2.1) (cwV 1 hts gL_law_X8_add rfl rfl rfl hd_X8_add_V ⟨Nat.le_of_ble_eq_true rfl, Nat.le_of_ble_eq_true rfl⟩) ⟨muP_blind, va_recv hK0.1 hP (ci := 6) (q0 := 90) rfl rfl, my_preC (wcs := [(wModE cy ma y0 0 y2 y3 y4 y5 y6 y7 y8 y9 y10 y11 y12 y13)]) hK0 hS hAB hP hD [11] (by decide) rfl (List.append_nil _)⟩ rfl rfl hl.1 rfl (lv_room (Nat.le_of_ble_eq_true rfl)) dL_law_188 ⟨(show cells + 1 ≤ 601024 by omega), (show slots + 6 ≤ 7293033 by omega)⟩) hS hP hD [11] rfl (List.append_nil _) (fun _ => List.append_nil _) (fun _ => by simp only [List.map_cons, List.map_nil, adrSet, adrSetE, adrPow, adrPowE, adrTxt, adrTxtE, adrSav, adrSavE, adrPCo, adrMod, adrModE, adrL, adrDb]) (fun _ => rfl) (fun r9 u9 H locs hw hP hD hS => ?_)
    obtain ⟨rfl, rfl⟩ := Prod.mk.inj (e4.symm.trans hw)
    have hP : va_P D vwCl (LW cy g p70 b7 c7 d7 e7 h7 k7 q ma o od st v w v2 w2 z s0 s1 s2 s3 tx y0 0 y2 ((fun f : Int32 => if f = 2 then (1 : Int32) else 2) f) y4 y5 y6 y7 y8 y9 y10 y11 y12 y13 out outD) H := hP
    have hD : va_D (fun q => s.heap.size ≤ q) (LW cy g p70 b7 c7 d7 e7 h7 k7 q ma o od st v w v2 w2 z s0 s1 s2 s3 tx y0 0 y2 ((fun f : Int32 => if f = 2 then (1 : Int32) else 2) f) y4 y5 y6 y7 y8 y9 y10 y11 y12 y13 out outD) := hD
    refine lv_istore (lv' := [(7, .int 0), (6, .int ((fun f : Int32 => if f = 2 then (1 : Int32) else 2) f)), (0, .ref b), (1, .ref p70), (2, .ref (ma 0)), (3, .ref o), (4, .ref od), (5, .int i)]) hx hb dL_law_191 hl (by decide) rfl (fun ls hl => ?_)
    refine lv_aload_n hx hb dL_law_193 rfl (lv_at hl 4 rfl) ?_
    refine rd_goi (va_runV (C := RX8) (As := []) (rest := []) S (c_X8_thrown l D cy g s.heap.size ma y0 0 y2 ((fun f : Int32 => if f = 2 then (1 : Int32) else 2) f) y4 y5 y6 y7 y8 y9 y10 y11 y12 y13) (cwV 0 hts gL_law_X8_thrown rfl rfl rfl hd_X8_thrown_V ⟨Nat.le_of_ble_eq_true rfl, Nat.le_of_ble_eq_true rfl⟩) ⟨rdP_blind, va_recv hK0.1 hP (ci := 6) (q0 := 90) rfl rfl, my_preV hK0 hS hAB hP [90, 91, 92, 93, 94, 95, 96, 97] rfl⟩ rfl rfl hl.1 rfl (lv_room (Nat.le_of_ble_eq_true rfl)) dL_law_194 ⟨(show cells + 1 ≤ 601024 by omega), (show slots + 6 ≤ 7293033 by omega)⟩) ?_
    refine lv_iload hx hb dL_law_197 (lv_at hl 1 rfl) ?_
    refine lv_icmp_eq (tgt := 204) hx hb dL_law_199 (by decide) (fun _ => ?_) (fun h9 => absurd (show ((f_X8_thrown ((fun f : Int32 => if f = 2 then (1 : Int32) else 2) f)) : Int32) = ((fun f : Int32 => if f = 2 then (1 : Int32) else 2) f) from rfl) h9)
    refine lv_iload hx hb dL_law_204 (lv_at hl 1 rfl) ?_
    refine lv_if_ne (tgt := 221) hx hb dL_law_206 (by decide) (fun _ => ?_) (fun h9 => absurd h9 hne)
    refine lv_goto (tgt := 1700) hx hb dL_law_221 (by decide) ?_
    refine W.widen (k := cells + 2) (n := slots + 12) (by omega) (by omega) ?_
    exact K H locs ls ⟨st, v, w, v2, w2, z, s0, s1, s2, s3, tx, y0, y2, ((fun f : Int32 => if f = 2 then (1 : Int32) else 2) f), y4, y5, y6, y7, y8, y9, y10, y11, y12, y13, out, outD, hv, hg, hp, hrg, htx, hbl, hP, hD⟩ hS (lv_sub hl [2, 3, 4, 5, 6, 7] rfl)
  · refine lv_aload_n hx hb dL_law_168 rfl (lv_at hl 1 rfl) ?_
    refine lv_aload_n hx hb dL_law_169 rfl (lv_at hl 0 rfl) ?_
    refine lv_iload hx hb dL_law_170 (lv_at hl 5 rfl) ?_
    refine lv_iconst (v := 1) hx hb dL_law_172 (by decide) ?_
    refine lv_iadd hx hb dL_law_173 ?_
    refine va_sld hx hb hX hbl0 hbA hS h1 dL_law_174 ?_
    refine lv_aload_n hx hb dL_law_175 rfl (lv_at hl 3 rfl) ?_
    refine lw_compi (wcs := [(wPCo p70 b7 c7 d7 e7 h7 k7 st), (wSet cy b7 v), (wSav cy q h7 z), (wSet cy (q 0) s0), (wSet cy (q 1) s1), (wSet cy (q 2) s2), (wSet cy (q 3) s3), (wL cy o out)]) (wns := fun u8 => [(wPCo p70 b7 c7 d7 e7 h7 k7 u8.1.1), (wSet cy b7 u8.1.2.1), (wSav cy q h7 u8.1.2.2.1), (wSet cy (q 0) u8.1.2.2.2.1), (wSet cy (q 1) u8.1.2.2.2.2.1), (wSet cy (q 2) u8.1.2.2.2.2.2.1), (wSet cy (q 3) u8.1.2.2.2.2.2.2), (wL cy o u8.2)]) (W2 := fun u8 => (LWL cy g p70 b7 c7 d7 e7 h7 k7 q ma o od u8.1.1 u8.1.2.1 w v2 w2 u8.1.2.2.1 u8.1.2.2.2.1 u8.1.2.2.2.2.1 u8.1.2.2.2.2.2.1 u8.1.2.2.2.2.2.2 tx y0 0 y2 y3 y4 y5 y6 y7 y8 y9 y10 y11 y12 y13 u8.2 outD)) (vx_runSW (As := [.ref p70, .int (xs (i + 1).toNatClampNeg), .ref o]) (rest := []) S (c_L_add l hl0 D cy g s.heap.size p70 b7 c7 d7 e7 h7 k7 q st v z s0 s1 s2 s3 (xs (i + 1).toNatClampNeg) o out (fun k h => k_add h)) (vx_cwSW 3 hts gL_law_L_add rfl rfl rfl hd_L_add_S ⟨Nat.le_of_ble_eq_true rfl, Nat.le_of_ble_eq_true rfl⟩) ⟨lwP_blind, my_preL (wcs := [(wPCo p70 b7 c7 d7 e7 h7 k7 st), (wSet cy b7 v), (wSav cy q h7 z), (wSet cy (q 0) s0), (wSet cy (q 1) s1), (wSet cy (q 2) s2), (wSet cy (q 3) s3), (wL cy o out)]) hK0 hNc hS hAB hP hD [0, 1, 5, 6, 7, 8, 9, 12] (by decide) rfl rfl⟩ rfl rfl hl.1 rfl (lv_room (Nat.le_of_ble_eq_true rfl)) dL_law_176 ⟨(show cells + 1 ≤ 601024 by omega), (show slots + 6 ≤ 7293033 by omega)⟩) hS hP hD [0, 1, 5, 6, 7, 8, 9, 12] rfl rfl (fun _ => rfl) (fun _ => by simp only [List.map_cons, List.map_nil, adrSet, adrSetE, adrPow, adrPowE, adrTxt, adrTxtE, adrSav, adrSavE, adrPCo, adrMod, adrModE, adrL, adrDb]) (fun _ => rfl) (fun r9 u9 H locs hw hP hD hS => ?_)
    obtain ⟨rfl, rfl⟩ := Prod.mk.inj ((wrI_r e1).symm.trans hw)
    have hP : va_P D vwCl (LW cy g p70 b7 c7 d7 e7 h7 k7 q ma o od 1 u.1 w v2 w2 u.2.1 u.2.2.1 u.2.2.2.1 u.2.2.2.2.1 u.2.2.2.2.2 tx y0 0 y2 y3 y4 y5 y6 y7 y8 y9 y10 y11 y12 y13 (vp_updL out 0 (Int32.toInt64 r)) outD) H := hP
    have hD : va_D (fun q => s.heap.size ≤ q) (LW cy g p70 b7 c7 d7 e7 h7 k7 q ma o od 1 u.1 w v2 w2 u.2.1 u.2.2.1 u.2.2.2.1 u.2.2.2.2.1 u.2.2.2.2.2 tx y0 0 y2 y3 y4 y5 y6 y7 y8 y9 y10 y11 y12 y13 (vp_updL out 0 (Int32.toInt64 r)) outD) := hD
    refine lv_istore (lv' := [(6, .int 0), (0, .ref b), (1, .ref p70), (2, .ref (ma 0)), (3, .ref o), (4, .ref od), (5, .int i)]) hx hb dL_law_179 hl (by decide) rfl (fun ls hl => ?_)
    refine lv_aload_n hx hb dL_law_181 rfl (lv_at hl 3 rfl) ?_
    refine lv_aload_n hx hb dL_law_182 rfl (lv_at hl 1 rfl) ?_
    refine lv_iload hx hb dL_law_183 (lv_at hl 6 rfl) ?_
    refine lv_iconst (v := 1) hx hb dL_law_185 (by decide) ?_
    refine lv_iadd hx hb dL_law_186 ?_
    refine va_sld hx hb hX hbl0 hbA hS h1 dL_law_187 ?_
    refine mu_compi (wcs := [(wModE cy ma y0 0 y2 y3 y4 y5 y6 y7 y8 y9 y10 y11 y12 y13)]) (wns := fun u8 => [(wModE cy ma u8.1 0 y2 u8.2.1 y4 y5 y6 u8.2.2.1 u8.2.2.2 y9 y10 y11 y12 y13)]) (W2 := fun u8 => (LWL cy g p70 b7 c7 d7 e7 h7 k7 q ma o od 1 u.1 w v2 w2 u.2.1 u.2.2.1 u.2.2.2.1 u.2.2.2.2.1 u.2.2.2.2.2 tx u8.1 0 y2 u8.2.1 y4 y5 y6 u8.2.2.1 u8.2.2.2 y9 y10 y11 y12 y13 (vp_updL out 0 (Int32.toInt64 r)) outD)) (va_runV (C := RX8) (As := [.int (xs (i + 1).toNatClampNeg)]) (rest := []) S (c_X8_add l D cy g s.heap.size ma y0 0 y2 y3 y4 y5 y6 y7 y8 y9 y10 y11 y12 y13 (xs (i + 1).toNatClampNeg) (ringf hrg).1 (ringf hrg).2 (GSf hg).1 (GSf hg).2.1) (cwV 1 hts gL_law_X8_add rfl rfl rfl hd_X8_add_V ⟨Nat.le_of_ble_eq_true rfl, Nat.le_of_ble_eq_true rfl⟩) ⟨muP_blind, va_recv hK0.1 hP (ci := 6) (q0 := 90) rfl rfl, my_preC (wcs := [(wModE cy ma y0 0 y2 y3 y4 y5 y6 y7 y8 y9 y10 y11 y12 y13)]) hK0 hS hAB hP hD [11] (by decide) rfl (List.append_nil _)⟩ rfl rfl hl.1 rfl (lv_room (Nat.le_of_ble_eq_true rfl)) dL_law_188 ⟨(show cells + 1 ≤ 601024 by omega), (show slots + 6 ≤ 7293033 by omega)⟩) hS hP hD [11] rfl (List.append_nil _) (fun _ => List.append_nil _) (fun _ => by simp only [List.map_cons, List.map_nil, adrSet, adrSetE, adrPow, adrPowE, adrTxt, adrTxtE, adrSav, adrSavE, adrPCo, adrMod, adrModE, adrL, adrDb]) (fun _ => rfl) (fun r9 u9 H locs hw hP hD hS => ?_)
    obtain ⟨rfl, rfl⟩ := Prod.mk.inj (e4.symm.trans hw)
    have hP : va_P D vwCl (LW cy g p70 b7 c7 d7 e7 h7 k7 q ma o od 1 u.1 w v2 w2 u.2.1 u.2.2.1 u.2.2.2.1 u.2.2.2.2.1 u.2.2.2.2.2 tx pp.1 0 y2 0 y4 y5 y6 pp.2.1 pp.2.2 y9 y10 y11 y12 y13 (vp_updL out 0 (Int32.toInt64 r)) outD) H := hP
    have hD : va_D (fun q => s.heap.size ≤ q) (LW cy g p70 b7 c7 d7 e7 h7 k7 q ma o od 1 u.1 w v2 w2 u.2.1 u.2.2.1 u.2.2.2.1 u.2.2.2.2.1 u.2.2.2.2.2 tx pp.1 0 y2 0 y4 y5 y6 pp.2.1 pp.2.2 y9 y10 y11 y12 y13 (vp_updL out 0 (Int32.toInt64 r)) outD) := hD
    refine lv_istore (lv' := [(7, .int r), (6, .int 0), (0, .ref b), (1, .ref p70), (2, .ref (ma 0)), (3, .ref o), (4, .ref od), (5, .int i)]) hx hb dL_law_191 hl (by decide) rfl (fun ls hl => ?_)
    refine lv_aload_n hx hb dL_law_193 rfl (lv_at hl 4 rfl) ?_
    refine rd_goi (va_runV (C := RX8) (As := []) (rest := []) S (c_X8_thrown l D cy g s.heap.size ma pp.1 0 y2 0 y4 y5 y6 pp.2.1 pp.2.2 y9 y10 y11 y12 y13) (cwV 0 hts gL_law_X8_thrown rfl rfl rfl hd_X8_thrown_V ⟨Nat.le_of_ble_eq_true rfl, Nat.le_of_ble_eq_true rfl⟩) ⟨rdP_blind, va_recv hK0.1 hP (ci := 6) (q0 := 90) rfl rfl, my_preV hK0 hS hAB hP [90, 91, 92, 93, 94, 95, 96, 97] rfl⟩ rfl rfl hl.1 rfl (lv_room (Nat.le_of_ble_eq_true rfl)) dL_law_194 ⟨(show cells + 1 ≤ 601024 by omega), (show slots + 6 ≤ 7293033 by omega)⟩) ?_
    refine lv_iload hx hb dL_law_197 (lv_at hl 1 rfl) ?_
    refine lv_icmp_eq (tgt := 204) hx hb dL_law_199 (by decide) (fun _ => ?_) (fun h9 => absurd (show ((f_X8_thrown 0) : Int32) = 0 from rfl) h9)
    refine lv_iload hx hb dL_law_204 (lv_at hl 1 rfl) ?_
    refine lv_if_ne (tgt := 221) hx hb dL_law_206 (by decide) (fun h9 => absurd rfl h9) (fun _ => ?_)
    refine lv_aload_n hx hb dL_law_209 rfl (lv_at hl 5 rfl) ?_
    refine lv_iconst (v := 0) hx hb dL_law_210 (by decide) ?_
    refine va_lald hx hb hK0.1 hP 98 3 rfl rfl (i := 0) (show ¬ ((0 : Int32) < 0 ∨ 1 ≤ (0 : Int32).toNatClampNeg) by decide) dL_law_211 ?_
    refine lv_iload hx hb dL_law_212 (lv_at hl 0 rfl) ?_
    refine lv_i2l (v := (Int32.toInt64 r)) hx hb dL_law_214 rfl ?_
    refine W.lcmp hx hb dL_law_215 ?_
    refine lv_if_eq (tgt := 221) hx hb dL_law_216 (by decide) (fun _ => ?_) (fun h9 => absurd ((lg_cmp_eq _ _).mpr rfl) h9)
    refine lv_goto (tgt := 1700) hx hb dL_law_221 (by decide) ?_
    refine W.widen (k := cells + 2) (n := slots + 12) (by omega) (by omega) ?_
    exact K H locs ls ⟨1, u.1, w, v2, w2, u.2.1, u.2.2.1, u.2.2.2.1, u.2.2.2.2.1, u.2.2.2.2.2, tx, pp.1, y2, 0, y4, y5, y6, pp.2.1, pp.2.2, y9, y10, y11, y12, y13, (vp_updL out 0 (Int32.toInt64 r)), outD, e5.1, e5.2.1, pwr_1 _ _, e5.2.2, htx, hbl, hP, hD⟩ hS (lv_sub hl [2, 3, 4, 5, 6, 7] rfl)
set_option maxHeartbeats 4000000 in
set_option maxRecDepth 100000 in
theorem law_setWeight (C : LC p l e s m meth c b L xs D cy g) (hc : cells ≤ 590000) (hs : slots ≤ 7000000) (h1 : vp_in (i + 1) L) (h2 : vp_in (i + 2) L) (hI : LInv D cy g p70 b7 c7 d7 e7 h7 k7 q ma o od s.heap.size H) (hS : va_S (fun q => s.heap.size ≤ q) s.heap H locs) (hl : lv_has ls 9 [(0, .ref b), (1, .ref p70), (2, .ref (ma 0)), (3, .ref o), (4, .ref od), (5, .int i)])
    (K : ∀ (H : Heap) (locs : List Loc) (ls : Array Slot), LInv D cy g p70 b7 c7 d7 e7 h7 k7 q ma o od s.heap.size H → va_S (fun q => s.heap.size ≤ q) s.heap H locs → lv_has ls 9 [(0, .ref b), (1, .ref p70), (2, .ref (ma 0)), (3, .ref o), (4, .ref od), (5, .int i)] → W p l e room_1 s m #[Value.ref b] below meth c H locs (cells + 2) (slots + 12) Q (F0 m 1700 ls [])) : W p l e room_1 s m #[Value.ref b] below meth c H locs cells slots Q (F0 m 224 ls []) := by
  obtain ⟨hl0, hx, hb, hr, hml, hown, hts, hX, hbl0, hlocks, hK0, hNc, hL⟩ := C
  obtain ⟨st, v, w, v2, w2, z, s0, s1, s2, s3, tx, y0, y2, y3, y4, y5, y6, y7, y8, y9, y10, y11, y12, y13, out, outD, hv, hg, hp, hrg, htx, hbl, hP, hD⟩ := hI
  have S := my_fix hx hb hml hown hts
  have hAB : ∀ q : Nat, s.heap.size ≤ q → s.heap.size ≤ q := fun _ h => h
  have hbA : ¬ s.heap.size ≤ b := Nat.not_le.mpr hbl0
  rcases O_setWeight hv hg hrg st (xs (i + 1).toNatClampNeg) (xs (i + 2).toNatClampNeg) with ⟨f, e1, _, e3, e4⟩ | ⟨r, u, pp, e1, e4, e5⟩
  · have hne : ¬ ((fun f : Int32 => f) f) = 0 := pos_ne e3
    have e4 : f_X8_setWeight y0 0 y7 y8 (xs (i + 1).toNatClampNeg) (xs (i + 2).toNatClampNeg) = (0, (y0, ((fun f : Int32 => f) f), y7, y8)) := e4
    refine lv_aload_n hx hb dL_law_224 rfl (lv_at hl 1 rfl) ?_
    refine lv_aload_n hx hb dL_law_225 rfl (lv_at hl 0 rfl) ?_
    refine lv_iload hx hb dL_law_226 (lv_at hl 5 rfl) ?_
    refine lv_iconst (v := 1) hx hb dL_law_228 (by decide) ?_
    refine lv_iadd hx hb dL_law_229 ?_
    refine va_sld hx hb hX hbl0 hbA hS h1 dL_law_230 ?_
    refine lv_aload_n hx hb dL_law_231 rfl (lv_at hl 0 rfl) ?_
    refine lv_iload hx hb dL_law_232 (lv_at hl 5 rfl) ?_
    refine lv_iconst (v := 2) hx hb dL_law_234 (by decide) ?_
    refine lv_iadd hx hb dL_law_235 ?_
    refine va_sld hx hb hX hbl0 hbA hS h2 dL_law_236 ?_
    refine lv_aload_n hx hb dL_law_237 rfl (lv_at hl 3 rfl) ?_
    refine lw_compi (wcs := [(wPCo p70 b7 c7 d7 e7 h7 k7 st), (wSet cy b7 v), (wSav cy q h7 z), (wSet cy (q 0) s0), (wSet cy (q 1) s1), (wSet cy (q 2) s2), (wSet cy (q 3) s3), (wL cy o out)]) (wns := fun u8 => [(wPCo p70 b7 c7 d7 e7 h7 k7 u8.1.1), (wSet cy b7 u8.1.2.1), (wSav cy q h7 u8.1.2.2.1), (wSet cy (q 0) u8.1.2.2.2.1), (wSet cy (q 1) u8.1.2.2.2.2.1), (wSet cy (q 2) u8.1.2.2.2.2.2.1), (wSet cy (q 3) u8.1.2.2.2.2.2.2), (wL cy o u8.2)]) (W2 := fun u8 => (LWL cy g p70 b7 c7 d7 e7 h7 k7 q ma o od u8.1.1 u8.1.2.1 w v2 w2 u8.1.2.2.1 u8.1.2.2.2.1 u8.1.2.2.2.2.1 u8.1.2.2.2.2.2.1 u8.1.2.2.2.2.2.2 tx y0 0 y2 y3 y4 y5 y6 y7 y8 y9 y10 y11 y12 y13 u8.2 outD)) (vx_runSW (As := [.ref p70, .int (xs (i + 1).toNatClampNeg), .int (xs (i + 2).toNatClampNeg), .ref o]) (rest := []) S (c_L_setWeight l hl0 D cy g s.heap.size p70 b7 c7 d7 e7 h7 k7 q st v z s0 s1 s2 s3 (xs (i + 1).toNatClampNeg) (xs (i + 2).toNatClampNeg) o out (fun k h => k_setWeight h)) (vx_cwSW 4 hts gL_law_L_setWeight rfl rfl rfl hd_L_setWeight_S ⟨Nat.le_of_ble_eq_true rfl, Nat.le_of_ble_eq_true rfl⟩) ⟨lwP_blind, my_preL (wcs := [(wPCo p70 b7 c7 d7 e7 h7 k7 st), (wSet cy b7 v), (wSav cy q h7 z), (wSet cy (q 0) s0), (wSet cy (q 1) s1), (wSet cy (q 2) s2), (wSet cy (q 3) s3), (wL cy o out)]) hK0 hNc hS hAB hP hD [0, 1, 5, 6, 7, 8, 9, 12] (by decide) rfl rfl⟩ rfl rfl hl.1 rfl (lv_room (Nat.le_of_ble_eq_true rfl)) dL_law_238 ⟨(show cells + 1 ≤ 601024 by omega), (show slots + 6 ≤ 7293033 by omega)⟩) hS hP hD [0, 1, 5, 6, 7, 8, 9, 12] rfl rfl (fun _ => rfl) (fun _ => by simp only [List.map_cons, List.map_nil, adrSet, adrSetE, adrPow, adrPowE, adrTxt, adrTxtE, adrSav, adrSavE, adrPCo, adrMod, adrModE, adrL, adrDb]) (fun _ => rfl) (fun r9 u9 H locs hw hP hD hS => ?_)
    obtain ⟨rfl, rfl⟩ := Prod.mk.inj ((wrI_l e1).symm.trans hw)
    have hP : va_P D vwCl (LW cy g p70 b7 c7 d7 e7 h7 k7 q ma o od st v w v2 w2 z s0 s1 s2 s3 tx y0 0 y2 y3 y4 y5 y6 y7 y8 y9 y10 y11 y12 y13 out outD) H := hP
    have hD : va_D (fun q => s.heap.size ≤ q) (LW cy g p70 b7 c7 d7 e7 h7 k7 q ma o od st v w v2 w2 z s0 s1 s2 s3 tx y0 0 y2 y3 y4 y5 y6 y7 y8 y9 y10 y11 y12 y13 out outD) := hD
    refine lv_istore (lv' := [(6, .int ((fun f : Int32 => f) f)), (0, .ref b), (1, .ref p70), (2, .ref (ma 0)), (3, .ref o), (4, .ref od), (5, .int i)]) hx hb dL_law_241 hl (by decide) rfl (fun ls hl => ?_)
    refine lv_aload_n hx hb dL_law_243 rfl (lv_at hl 3 rfl) ?_
    refine lv_aload_n hx hb dL_law_244 rfl (lv_at hl 1 rfl) ?_
    refine lv_iload hx hb dL_law_245 (lv_at hl 6 rfl) ?_
    refine lv_iconst (v := 1) hx hb dL_law_247 (by decide) ?_
    refine lv_iadd hx hb dL_law_248 ?_
    refine va_sld hx hb hX hbl0 hbA hS h1 dL_law_249 ?_
    refine lv_aload_n hx hb dL_law_250 rfl (lv_at hl 1 rfl) ?_
    refine lv_iload hx hb dL_law_251 (lv_at hl 6 rfl) ?_
    refine lv_iconst (v := 2) hx hb dL_law_253 (by decide) ?_
    refine lv_iadd hx hb dL_law_254 ?_
    refine va_sld hx hb hX hbl0 hbA hS h2 dL_law_255 ?_
    refine mu_compi (wcs := [(wModE cy ma y0 0 y2 y3 y4 y5 y6 y7 y8 y9 y10 y11 y12 y13)]) (wns := fun u8 => [(wModE cy ma u8.1 0 y2 u8.2.1 y4 y5 y6 u8.2.2.1 u8.2.2.2 y9 y10 y11 y12 y13)]) (W2 := fun u8 => (LWL cy g p70 b7 c7 d7 e7 h7 k7 q ma o od st v w v2 w2 z s0 s1 s2 s3 tx u8.1 0 y2 u8.2.1 y4 y5 y6 u8.2.2.1 u8.2.2.2 y9 y10 y11 y12 y13 out outD)) (va_runV (C := RX8) (As := [.int (xs (i + 1).toNatClampNeg), .int (xs (i + 2).toNatClampNeg)]) (rest := []) S (c_X8_setWeight l D cy g s.heap.size ma y0 0 y2 y3 y4 y5 y6 y7 y8 y9 y10 y11 y12 y13 (xs (i + 1).toNatClampNeg) (xs (i + 2).toNatClampNeg) (ringf hrg).1 (ringf hrg).2 (GSf hg).1) (cwV 2 hts gL_law_X8_setWeight rfl rfl rfl hd_X8_setWeight_V ⟨Nat.le_of_ble_eq_true rfl, Nat.le_of_ble_eq_true rfl⟩) ⟨muP_blind, va_recv hK0.1 hP (ci := 6) (q0 := 90) rfl rfl, my_preC (wcs := [(wModE cy ma y0 0 y2 y3 y4 y5 y6 y7 y8 y9 y10 y11 y12 y13)]) hK0 hS hAB hP hD [11] (by decide) rfl (List.append_nil _)⟩ rfl rfl hl.1 rfl (lv_room (Nat.le_of_ble_eq_true rfl)) dL_law_256 ⟨(show cells + 1 ≤ 601024 by omega), (show slots + 6 ≤ 7293033 by omega)⟩) hS hP hD [11] rfl (List.append_nil _) (fun _ => List.append_nil _) (fun _ => by simp only [List.map_cons, List.map_nil, adrSet, adrSetE, adrPow, adrPowE, adrTxt, adrTxtE, adrSav, adrSavE, adrPCo, adrMod, adrModE, adrL, adrDb]) (fun _ => rfl) (fun r9 u9 H locs hw hP hD hS => ?_)
    obtain ⟨rfl, rfl⟩ := Prod.mk.inj (e4.symm.trans hw)
    have hP : va_P D vwCl (LW cy g p70 b7 c7 d7 e7 h7 k7 q ma o od st v w v2 w2 z s0 s1 s2 s3 tx y0 0 y2 ((fun f : Int32 => f) f) y4 y5 y6 y7 y8 y9 y10 y11 y12 y13 out outD) H := hP
    have hD : va_D (fun q => s.heap.size ≤ q) (LW cy g p70 b7 c7 d7 e7 h7 k7 q ma o od st v w v2 w2 z s0 s1 s2 s3 tx y0 0 y2 ((fun f : Int32 => f) f) y4 y5 y6 y7 y8 y9 y10 y11 y12 y13 out outD) := hD
    refine lv_istore (lv' := [(7, .int 0), (6, .int ((fun f : Int32 => f) f)), (0, .ref b), (1, .ref p70), (2, .ref (ma 0)), (3, .ref o), (4, .ref od), (5, .int i)]) hx hb dL_law_259 hl (by decide) rfl (fun ls hl => ?_)
    refine lv_aload_n hx hb dL_law_261 rfl (lv_at hl 4 rfl) ?_
    refine rd_goi (va_runV (C := RX8) (As := []) (rest := []) S (c_X8_thrown l D cy g s.heap.size ma y0 0 y2 ((fun f : Int32 => f) f) y4 y5 y6 y7 y8 y9 y10 y11 y12 y13) (cwV 0 hts gL_law_X8_thrown rfl rfl rfl hd_X8_thrown_V ⟨Nat.le_of_ble_eq_true rfl, Nat.le_of_ble_eq_true rfl⟩) ⟨rdP_blind, va_recv hK0.1 hP (ci := 6) (q0 := 90) rfl rfl, my_preV hK0 hS hAB hP [90, 91, 92, 93, 94, 95, 96, 97] rfl⟩ rfl rfl hl.1 rfl (lv_room (Nat.le_of_ble_eq_true rfl)) dL_law_262 ⟨(show cells + 1 ≤ 601024 by omega), (show slots + 6 ≤ 7293033 by omega)⟩) ?_
    refine lv_iload hx hb dL_law_265 (lv_at hl 1 rfl) ?_
    refine lv_icmp_eq (tgt := 272) hx hb dL_law_267 (by decide) (fun _ => ?_) (fun h9 => absurd (show ((f_X8_thrown ((fun f : Int32 => f) f)) : Int32) = ((fun f : Int32 => f) f) from rfl) h9)
    refine lv_iload hx hb dL_law_272 (lv_at hl 1 rfl) ?_
    refine lv_if_ne (tgt := 289) hx hb dL_law_274 (by decide) (fun _ => ?_) (fun h9 => absurd h9 hne)
    refine lv_goto (tgt := 1700) hx hb dL_law_289 (by decide) ?_
    refine W.widen (k := cells + 2) (n := slots + 12) (by omega) (by omega) ?_
    exact K H locs ls ⟨st, v, w, v2, w2, z, s0, s1, s2, s3, tx, y0, y2, ((fun f : Int32 => f) f), y4, y5, y6, y7, y8, y9, y10, y11, y12, y13, out, outD, hv, hg, hp, hrg, htx, hbl, hP, hD⟩ hS (lv_sub hl [2, 3, 4, 5, 6, 7] rfl)
  · refine lv_aload_n hx hb dL_law_224 rfl (lv_at hl 1 rfl) ?_
    refine lv_aload_n hx hb dL_law_225 rfl (lv_at hl 0 rfl) ?_
    refine lv_iload hx hb dL_law_226 (lv_at hl 5 rfl) ?_
    refine lv_iconst (v := 1) hx hb dL_law_228 (by decide) ?_
    refine lv_iadd hx hb dL_law_229 ?_
    refine va_sld hx hb hX hbl0 hbA hS h1 dL_law_230 ?_
    refine lv_aload_n hx hb dL_law_231 rfl (lv_at hl 0 rfl) ?_
    refine lv_iload hx hb dL_law_232 (lv_at hl 5 rfl) ?_
    refine lv_iconst (v := 2) hx hb dL_law_234 (by decide) ?_
    refine lv_iadd hx hb dL_law_235 ?_
    refine va_sld hx hb hX hbl0 hbA hS h2 dL_law_236 ?_
    refine lv_aload_n hx hb dL_law_237 rfl (lv_at hl 3 rfl) ?_
    refine lw_compi (wcs := [(wPCo p70 b7 c7 d7 e7 h7 k7 st), (wSet cy b7 v), (wSav cy q h7 z), (wSet cy (q 0) s0), (wSet cy (q 1) s1), (wSet cy (q 2) s2), (wSet cy (q 3) s3), (wL cy o out)]) (wns := fun u8 => [(wPCo p70 b7 c7 d7 e7 h7 k7 u8.1.1), (wSet cy b7 u8.1.2.1), (wSav cy q h7 u8.1.2.2.1), (wSet cy (q 0) u8.1.2.2.2.1), (wSet cy (q 1) u8.1.2.2.2.2.1), (wSet cy (q 2) u8.1.2.2.2.2.2.1), (wSet cy (q 3) u8.1.2.2.2.2.2.2), (wL cy o u8.2)]) (W2 := fun u8 => (LWL cy g p70 b7 c7 d7 e7 h7 k7 q ma o od u8.1.1 u8.1.2.1 w v2 w2 u8.1.2.2.1 u8.1.2.2.2.1 u8.1.2.2.2.2.1 u8.1.2.2.2.2.2.1 u8.1.2.2.2.2.2.2 tx y0 0 y2 y3 y4 y5 y6 y7 y8 y9 y10 y11 y12 y13 u8.2 outD)) (vx_runSW (As := [.ref p70, .int (xs (i + 1).toNatClampNeg), .int (xs (i + 2).toNatClampNeg), .ref o]) (rest := []) S (c_L_setWeight l hl0 D cy g s.heap.size p70 b7 c7 d7 e7 h7 k7 q st v z s0 s1 s2 s3 (xs (i + 1).toNatClampNeg) (xs (i + 2).toNatClampNeg) o out (fun k h => k_setWeight h)) (vx_cwSW 4 hts gL_law_L_setWeight rfl rfl rfl hd_L_setWeight_S ⟨Nat.le_of_ble_eq_true rfl, Nat.le_of_ble_eq_true rfl⟩) ⟨lwP_blind, my_preL (wcs := [(wPCo p70 b7 c7 d7 e7 h7 k7 st), (wSet cy b7 v), (wSav cy q h7 z), (wSet cy (q 0) s0), (wSet cy (q 1) s1), (wSet cy (q 2) s2), (wSet cy (q 3) s3), (wL cy o out)]) hK0 hNc hS hAB hP hD [0, 1, 5, 6, 7, 8, 9, 12] (by decide) rfl rfl⟩ rfl rfl hl.1 rfl (lv_room (Nat.le_of_ble_eq_true rfl)) dL_law_238 ⟨(show cells + 1 ≤ 601024 by omega), (show slots + 6 ≤ 7293033 by omega)⟩) hS hP hD [0, 1, 5, 6, 7, 8, 9, 12] rfl rfl (fun _ => rfl) (fun _ => by simp only [List.map_cons, List.map_nil, adrSet, adrSetE, adrPow, adrPowE, adrTxt, adrTxtE, adrSav, adrSavE, adrPCo, adrMod, adrModE, adrL, adrDb]) (fun _ => rfl) (fun r9 u9 H locs hw hP hD hS => ?_)
    obtain ⟨rfl, rfl⟩ := Prod.mk.inj ((wrI_r e1).symm.trans hw)
    have hP : va_P D vwCl (LW cy g p70 b7 c7 d7 e7 h7 k7 q ma o od 1 u.1 w v2 w2 u.2.1 u.2.2.1 u.2.2.2.1 u.2.2.2.2.1 u.2.2.2.2.2 tx y0 0 y2 y3 y4 y5 y6 y7 y8 y9 y10 y11 y12 y13 (vp_updL out 0 (Int32.toInt64 r)) outD) H := hP
    have hD : va_D (fun q => s.heap.size ≤ q) (LW cy g p70 b7 c7 d7 e7 h7 k7 q ma o od 1 u.1 w v2 w2 u.2.1 u.2.2.1 u.2.2.2.1 u.2.2.2.2.1 u.2.2.2.2.2 tx y0 0 y2 y3 y4 y5 y6 y7 y8 y9 y10 y11 y12 y13 (vp_updL out 0 (Int32.toInt64 r)) outD) := hD
    refine lv_istore (lv' := [(6, .int 0), (0, .ref b), (1, .ref p70), (2, .ref (ma 0)), (3, .ref o), (4, .ref od), (5, .int i)]) hx hb dL_law_241 hl (by decide) rfl (fun ls hl => ?_)
    refine lv_aload_n hx hb dL_law_243 rfl (lv_at hl 3 rfl) ?_
    refine lv_aload_n hx hb dL_law_244 rfl (lv_at hl 1 rfl) ?_
    refine lv_iload hx hb dL_law_245 (lv_at hl 6 rfl) ?_
    refine lv_iconst (v := 1) hx hb dL_law_247 (by decide) ?_
    refine lv_iadd hx hb dL_law_248 ?_
    refine va_sld hx hb hX hbl0 hbA hS h1 dL_law_249 ?_
    refine lv_aload_n hx hb dL_law_250 rfl (lv_at hl 1 rfl) ?_
    refine lv_iload hx hb dL_law_251 (lv_at hl 6 rfl) ?_
    refine lv_iconst (v := 2) hx hb dL_law_253 (by decide) ?_
    refine lv_iadd hx hb dL_law_254 ?_
    refine va_sld hx hb hX hbl0 hbA hS h2 dL_law_255 ?_
    refine mu_compi (wcs := [(wModE cy ma y0 0 y2 y3 y4 y5 y6 y7 y8 y9 y10 y11 y12 y13)]) (wns := fun u8 => [(wModE cy ma u8.1 0 y2 u8.2.1 y4 y5 y6 u8.2.2.1 u8.2.2.2 y9 y10 y11 y12 y13)]) (W2 := fun u8 => (LWL cy g p70 b7 c7 d7 e7 h7 k7 q ma o od 1 u.1 w v2 w2 u.2.1 u.2.2.1 u.2.2.2.1 u.2.2.2.2.1 u.2.2.2.2.2 tx u8.1 0 y2 u8.2.1 y4 y5 y6 u8.2.2.1 u8.2.2.2 y9 y10 y11 y12 y13 (vp_updL out 0 (Int32.toInt64 r)) outD)) (va_runV (C := RX8) (As := [.int (xs (i + 1).toNatClampNeg), .int (xs (i + 2).toNatClampNeg)]) (rest := []) S (c_X8_setWeight l D cy g s.heap.size ma y0 0 y2 y3 y4 y5 y6 y7 y8 y9 y10 y11 y12 y13 (xs (i + 1).toNatClampNeg) (xs (i + 2).toNatClampNeg) (ringf hrg).1 (ringf hrg).2 (GSf hg).1) (cwV 2 hts gL_law_X8_setWeight rfl rfl rfl hd_X8_setWeight_V ⟨Nat.le_of_ble_eq_true rfl, Nat.le_of_ble_eq_true rfl⟩) ⟨muP_blind, va_recv hK0.1 hP (ci := 6) (q0 := 90) rfl rfl, my_preC (wcs := [(wModE cy ma y0 0 y2 y3 y4 y5 y6 y7 y8 y9 y10 y11 y12 y13)]) hK0 hS hAB hP hD [11] (by decide) rfl (List.append_nil _)⟩ rfl rfl hl.1 rfl (lv_room (Nat.le_of_ble_eq_true rfl)) dL_law_256 ⟨(show cells + 1 ≤ 601024 by omega), (show slots + 6 ≤ 7293033 by omega)⟩) hS hP hD [11] rfl (List.append_nil _) (fun _ => List.append_nil _) (fun _ => by simp only [List.map_cons, List.map_nil, adrSet, adrSetE, adrPow, adrPowE, adrTxt, adrTxtE, adrSav, adrSavE, adrPCo, adrMod, adrModE, adrL, adrDb]) (fun _ => rfl) (fun r9 u9 H locs hw hP hD hS => ?_)
    obtain ⟨rfl, rfl⟩ := Prod.mk.inj (e4.symm.trans hw)
    have hP : va_P D vwCl (LW cy g p70 b7 c7 d7 e7 h7 k7 q ma o od 1 u.1 w v2 w2 u.2.1 u.2.2.1 u.2.2.2.1 u.2.2.2.2.1 u.2.2.2.2.2 tx pp.1 0 y2 0 y4 y5 y6 pp.2.1 pp.2.2 y9 y10 y11 y12 y13 (vp_updL out 0 (Int32.toInt64 r)) outD) H := hP
    have hD : va_D (fun q => s.heap.size ≤ q) (LW cy g p70 b7 c7 d7 e7 h7 k7 q ma o od 1 u.1 w v2 w2 u.2.1 u.2.2.1 u.2.2.2.1 u.2.2.2.2.1 u.2.2.2.2.2 tx pp.1 0 y2 0 y4 y5 y6 pp.2.1 pp.2.2 y9 y10 y11 y12 y13 (vp_updL out 0 (Int32.toInt64 r)) outD) := hD
    refine lv_istore (lv' := [(7, .int r), (6, .int 0), (0, .ref b), (1, .ref p70), (2, .ref (ma 0)), (3, .ref o), (4, .ref od), (5, .int i)]) hx hb dL_law_259 hl (by decide) rfl (fun ls hl => ?_)
    refine lv_aload_n hx hb dL_law_261 rfl (lv_at hl 4 rfl) ?_
    refine rd_goi (va_runV (C := RX8) (As := []) (rest := []) S (c_X8_thrown l D cy g s.heap.size ma pp.1 0 y2 0 y4 y5 y6 pp.2.1 pp.2.2 y9 y10 y11 y12 y13) (cwV 0 hts gL_law_X8_thrown rfl rfl rfl hd_X8_thrown_V ⟨Nat.le_of_ble_eq_true rfl, Nat.le_of_ble_eq_true rfl⟩) ⟨rdP_blind, va_recv hK0.1 hP (ci := 6) (q0 := 90) rfl rfl, my_preV hK0 hS hAB hP [90, 91, 92, 93, 94, 95, 96, 97] rfl⟩ rfl rfl hl.1 rfl (lv_room (Nat.le_of_ble_eq_true rfl)) dL_law_262 ⟨(show cells + 1 ≤ 601024 by omega), (show slots + 6 ≤ 7293033 by omega)⟩) ?_
    refine lv_iload hx hb dL_law_265 (lv_at hl 1 rfl) ?_
    refine lv_icmp_eq (tgt := 272) hx hb dL_law_267 (by decide) (fun _ => ?_) (fun h9 => absurd (show ((f_X8_thrown 0) : Int32) = 0 from rfl) h9)
    refine lv_iload hx hb dL_law_272 (lv_at hl 1 rfl) ?_
    refine lv_if_ne (tgt := 289) hx hb dL_law_274 (by decide) (fun h9 => absurd rfl h9) (fun _ => ?_)
    refine lv_aload_n hx hb dL_law_277 rfl (lv_at hl 5 rfl) ?_
    refine lv_iconst (v := 0) hx hb dL_law_278 (by decide) ?_
    refine va_lald hx hb hK0.1 hP 98 3 rfl rfl (i := 0) (show ¬ ((0 : Int32) < 0 ∨ 1 ≤ (0 : Int32).toNatClampNeg) by decide) dL_law_279 ?_
    refine lv_iload hx hb dL_law_280 (lv_at hl 0 rfl) ?_
    refine lv_i2l (v := (Int32.toInt64 r)) hx hb dL_law_282 rfl ?_
    refine W.lcmp hx hb dL_law_283 ?_
    refine lv_if_eq (tgt := 289) hx hb dL_law_284 (by decide) (fun _ => ?_) (fun h9 => absurd ((lg_cmp_eq _ _).mpr rfl) h9)
    refine lv_goto (tgt := 1700) hx hb dL_law_289 (by decide) ?_
    refine W.widen (k := cells + 2) (n := slots + 12) (by omega) (by omega) ?_
    exact K H locs ls ⟨1, u.1, w, v2, w2, u.2.1, u.2.2.1, u.2.2.2.1, u.2.2.2.2.1, u.2.2.2.2.2, tx, pp.1, y2, 0, y4, y5, y6, pp.2.1, pp.2.2, y9, y10, y11, y12, y13, (vp_updL out 0 (Int32.toInt64 r)), outD, e5.1, e5.2.1, pwr_1 _ _, e5.2.2, htx, hbl, hP, hD⟩ hS (lv_sub hl [2, 3, 4, 5, 6, 7] rfl)
set_option maxHeartbeats 4000000 in
set_option maxRecDepth 100000 in
theorem law_setQuota (C : LC p l e s m meth c b L xs D cy g) (hc : cells ≤ 590000) (hs : slots ≤ 7000000) (h1 : vp_in (i + 1) L) (h2 : vp_in (i + 2) L) (hI : LInv D cy g p70 b7 c7 d7 e7 h7 k7 q ma o od s.heap.size H) (hS : va_S (fun q => s.heap.size ≤ q) s.heap H locs) (hl : lv_has ls 9 [(0, .ref b), (1, .ref p70), (2, .ref (ma 0)), (3, .ref o), (4, .ref od), (5, .int i)])
    (K : ∀ (H : Heap) (locs : List Loc) (ls : Array Slot), LInv D cy g p70 b7 c7 d7 e7 h7 k7 q ma o od s.heap.size H → va_S (fun q => s.heap.size ≤ q) s.heap H locs → lv_has ls 9 [(0, .ref b), (1, .ref p70), (2, .ref (ma 0)), (3, .ref o), (4, .ref od), (5, .int i)] → W p l e room_1 s m #[Value.ref b] below meth c H locs (cells + 2) (slots + 12) Q (F0 m 1700 ls [])) : W p l e room_1 s m #[Value.ref b] below meth c H locs cells slots Q (F0 m 292 ls []) := by
  obtain ⟨hl0, hx, hb, hr, hml, hown, hts, hX, hbl0, hlocks, hK0, hNc, hL⟩ := C
  obtain ⟨st, v, w, v2, w2, z, s0, s1, s2, s3, tx, y0, y2, y3, y4, y5, y6, y7, y8, y9, y10, y11, y12, y13, out, outD, hv, hg, hp, hrg, htx, hbl, hP, hD⟩ := hI
  have S := my_fix hx hb hml hown hts
  have hAB : ∀ q : Nat, s.heap.size ≤ q → s.heap.size ≤ q := fun _ h => h
  have hbA : ¬ s.heap.size ≤ b := Nat.not_le.mpr hbl0
  rcases O_setQuota hv hg hrg st (xs (i + 1).toNatClampNeg) with ⟨f, e1, _, e3, e4⟩ | ⟨r, u, pp, e1, e4, e5⟩
  · have hne : ¬ ((fun _ : Int32 => (1 : Int32)) f) = 0 := pos_ne e3
    have e4 : f_X8_setQuota y0 0 y7 y8 (xs (i + 1).toNatClampNeg) = (0, (y0, ((fun _ : Int32 => (1 : Int32)) f), y7, y8)) := e4
    refine lv_aload_n hx hb dL_law_292 rfl (lv_at hl 1 rfl) ?_
    refine lv_aload_n hx hb dL_law_293 rfl (lv_at hl 0 rfl) ?_
    refine lv_iload hx hb dL_law_294 (lv_at hl 5 rfl) ?_
    refine lv_iconst (v := 1) hx hb dL_law_296 (by decide) ?_
    refine lv_iadd hx hb dL_law_297 ?_
    refine va_sld hx hb hX hbl0 hbA hS h1 dL_law_298 ?_
    refine lv_aload_n hx hb dL_law_299 rfl (lv_at hl 3 rfl) ?_
    refine lw_compi (wcs := [(wPCo p70 b7 c7 d7 e7 h7 k7 st), (wSet cy b7 v), (wSav cy q h7 z), (wSet cy (q 0) s0), (wSet cy (q 1) s1), (wSet cy (q 2) s2), (wSet cy (q 3) s3), (wL cy o out)]) (wns := fun u8 => [(wPCo p70 b7 c7 d7 e7 h7 k7 u8.1.1), (wSet cy b7 u8.1.2.1), (wSav cy q h7 u8.1.2.2.1), (wSet cy (q 0) u8.1.2.2.2.1), (wSet cy (q 1) u8.1.2.2.2.2.1), (wSet cy (q 2) u8.1.2.2.2.2.2.1), (wSet cy (q 3) u8.1.2.2.2.2.2.2), (wL cy o u8.2)]) (W2 := fun u8 => (LWL cy g p70 b7 c7 d7 e7 h7 k7 q ma o od u8.1.1 u8.1.2.1 w v2 w2 u8.1.2.2.1 u8.1.2.2.2.1 u8.1.2.2.2.2.1 u8.1.2.2.2.2.2.1 u8.1.2.2.2.2.2.2 tx y0 0 y2 y3 y4 y5 y6 y7 y8 y9 y10 y11 y12 y13 u8.2 outD)) (vx_runSW (As := [.ref p70, .int (xs (i + 1).toNatClampNeg), .ref o]) (rest := []) S (c_L_setQuota l hl0 D cy g s.heap.size p70 b7 c7 d7 e7 h7 k7 q st v z s0 s1 s2 s3 (xs (i + 1).toNatClampNeg) o out (fun k h => k_setQuota h)) (vx_cwSW 3 hts gL_law_L_setQuota rfl rfl rfl hd_L_setQuota_S ⟨Nat.le_of_ble_eq_true rfl, Nat.le_of_ble_eq_true rfl⟩) ⟨lwP_blind, my_preL (wcs := [(wPCo p70 b7 c7 d7 e7 h7 k7 st), (wSet cy b7 v), (wSav cy q h7 z), (wSet cy (q 0) s0), (wSet cy (q 1) s1), (wSet cy (q 2) s2), (wSet cy (q 3) s3), (wL cy o out)]) hK0 hNc hS hAB hP hD [0, 1, 5, 6, 7, 8, 9, 12] (by decide) rfl rfl⟩ rfl rfl hl.1 rfl (lv_room (Nat.le_of_ble_eq_true rfl)) dL_law_300 ⟨(show cells + 1 ≤ 601024 by omega), (show slots + 6 ≤ 7293033 by omega)⟩) hS hP hD [0, 1, 5, 6, 7, 8, 9, 12] rfl rfl (fun _ => rfl) (fun _ => by simp only [List.map_cons, List.map_nil, adrSet, adrSetE, adrPow, adrPowE, adrTxt, adrTxtE, adrSav, adrSavE, adrPCo, adrMod, adrModE, adrL, adrDb]) (fun _ => rfl) (fun r9 u9 H locs hw hP hD hS => ?_)
    obtain ⟨rfl, rfl⟩ := Prod.mk.inj ((wrI_l e1).symm.trans hw)
    have hP : va_P D vwCl (LW cy g p70 b7 c7 d7 e7 h7 k7 q ma o od st v w v2 w2 z s0 s1 s2 s3 tx y0 0 y2 y3 y4 y5 y6 y7 y8 y9 y10 y11 y12 y13 out outD) H := hP
    have hD : va_D (fun q => s.heap.size ≤ q) (LW cy g p70 b7 c7 d7 e7 h7 k7 q ma o od st v w v2 w2 z s0 s1 s2 s3 tx y0 0 y2 y3 y4 y5 y6 y7 y8 y9 y10 y11 y12 y13 out outD) := hD
    refine lv_istore (lv' := [(6, .int ((fun _ : Int32 => (1 : Int32)) f)), (0, .ref b), (1, .ref p70), (2, .ref (ma 0)), (3, .ref o), (4, .ref od), (5, .int i)]) hx hb dL_law_303 hl (by decide) rfl (fun ls hl => ?_)
    refine lv_aload_n hx hb dL_law_305 rfl (lv_at hl 3 rfl) ?_
    refine lv_aload_n hx hb dL_law_306 rfl (lv_at hl 1 rfl) ?_
    refine lv_iload hx hb dL_law_307 (lv_at hl 6 rfl) ?_
    refine lv_iconst (v := 1) hx hb dL_law_309 (by decide) ?_
    refine lv_iadd hx hb dL_law_310 ?_
    refine va_sld hx hb hX hbl0 hbA hS h1 dL_law_311 ?_
    refine mu_compi (wcs := [(wModE cy ma y0 0 y2 y3 y4 y5 y6 y7 y8 y9 y10 y11 y12 y13)]) (wns := fun u8 => [(wModE cy ma u8.1 0 y2 u8.2.1 y4 y5 y6 u8.2.2.1 u8.2.2.2 y9 y10 y11 y12 y13)]) (W2 := fun u8 => (LWL cy g p70 b7 c7 d7 e7 h7 k7 q ma o od st v w v2 w2 z s0 s1 s2 s3 tx u8.1 0 y2 u8.2.1 y4 y5 y6 u8.2.2.1 u8.2.2.2 y9 y10 y11 y12 y13 out outD)) (va_runV (C := RX8) (As := [.int (xs (i + 1).toNatClampNeg)]) (rest := []) S (c_X8_setQuota l D cy g s.heap.size ma y0 0 y2 y3 y4 y5 y6 y7 y8 y9 y10 y11 y12 y13 (xs (i + 1).toNatClampNeg) (ringf hrg).1 (ringf hrg).2) (cwV 1 hts gL_law_X8_setQuota rfl rfl rfl hd_X8_setQuota_V ⟨Nat.le_of_ble_eq_true rfl, Nat.le_of_ble_eq_true rfl⟩) ⟨muP_blind, va_recv hK0.1 hP (ci := 6) (q0 := 90) rfl rfl, my_preC (wcs := [(wModE cy ma y0 0 y2 y3 y4 y5 y6 y7 y8 y9 y10 y11 y12 y13)]) hK0 hS hAB hP hD [11] (by decide) rfl (List.append_nil _)⟩ rfl rfl hl.1 rfl (lv_room (Nat.le_of_ble_eq_true rfl)) dL_law_312 ⟨(show cells + 1 ≤ 601024 by omega), (show slots + 6 ≤ 7293033 by omega)⟩) hS hP hD [11] rfl (List.append_nil _) (fun _ => List.append_nil _) (fun _ => by simp only [List.map_cons, List.map_nil, adrSet, adrSetE, adrPow, adrPowE, adrTxt, adrTxtE, adrSav, adrSavE, adrPCo, adrMod, adrModE, adrL, adrDb]) (fun _ => rfl) (fun r9 u9 H locs hw hP hD hS => ?_)
    obtain ⟨rfl, rfl⟩ := Prod.mk.inj (e4.symm.trans hw)
    have hP : va_P D vwCl (LW cy g p70 b7 c7 d7 e7 h7 k7 q ma o od st v w v2 w2 z s0 s1 s2 s3 tx y0 0 y2 ((fun _ : Int32 => (1 : Int32)) f) y4 y5 y6 y7 y8 y9 y10 y11 y12 y13 out outD) H := hP
    have hD : va_D (fun q => s.heap.size ≤ q) (LW cy g p70 b7 c7 d7 e7 h7 k7 q ma o od st v w v2 w2 z s0 s1 s2 s3 tx y0 0 y2 ((fun _ : Int32 => (1 : Int32)) f) y4 y5 y6 y7 y8 y9 y10 y11 y12 y13 out outD) := hD
    refine lv_istore (lv' := [(7, .int 0), (6, .int ((fun _ : Int32 => (1 : Int32)) f)), (0, .ref b), (1, .ref p70), (2, .ref (ma 0)), (3, .ref o), (4, .ref od), (5, .int i)]) hx hb dL_law_315 hl (by decide) rfl (fun ls hl => ?_)
    refine lv_aload_n hx hb dL_law_317 rfl (lv_at hl 4 rfl) ?_
    refine rd_goi (va_runV (C := RX8) (As := []) (rest := []) S (c_X8_thrown l D cy g s.heap.size ma y0 0 y2 ((fun _ : Int32 => (1 : Int32)) f) y4 y5 y6 y7 y8 y9 y10 y11 y12 y13) (cwV 0 hts gL_law_X8_thrown rfl rfl rfl hd_X8_thrown_V ⟨Nat.le_of_ble_eq_true rfl, Nat.le_of_ble_eq_true rfl⟩) ⟨rdP_blind, va_recv hK0.1 hP (ci := 6) (q0 := 90) rfl rfl, my_preV hK0 hS hAB hP [90, 91, 92, 93, 94, 95, 96, 97] rfl⟩ rfl rfl hl.1 rfl (lv_room (Nat.le_of_ble_eq_true rfl)) dL_law_318 ⟨(show cells + 1 ≤ 601024 by omega), (show slots + 6 ≤ 7293033 by omega)⟩) ?_
    refine lv_iload hx hb dL_law_321 (lv_at hl 1 rfl) ?_
    refine lv_icmp_eq (tgt := 328) hx hb dL_law_323 (by decide) (fun _ => ?_) (fun h9 => absurd (show ((f_X8_thrown ((fun _ : Int32 => (1 : Int32)) f)) : Int32) = ((fun _ : Int32 => (1 : Int32)) f) from rfl) h9)
    refine lv_iload hx hb dL_law_328 (lv_at hl 1 rfl) ?_
    refine lv_if_ne (tgt := 345) hx hb dL_law_330 (by decide) (fun _ => ?_) (fun h9 => absurd h9 hne)
    refine lv_goto (tgt := 1700) hx hb dL_law_345 (by decide) ?_
    refine W.widen (k := cells + 2) (n := slots + 12) (by omega) (by omega) ?_
    exact K H locs ls ⟨st, v, w, v2, w2, z, s0, s1, s2, s3, tx, y0, y2, ((fun _ : Int32 => (1 : Int32)) f), y4, y5, y6, y7, y8, y9, y10, y11, y12, y13, out, outD, hv, hg, hp, hrg, htx, hbl, hP, hD⟩ hS (lv_sub hl [2, 3, 4, 5, 6, 7] rfl)
  · refine lv_aload_n hx hb dL_law_292 rfl (lv_at hl 1 rfl) ?_
    refine lv_aload_n hx hb dL_law_293 rfl (lv_at hl 0 rfl) ?_
    refine lv_iload hx hb dL_law_294 (lv_at hl 5 rfl) ?_
    refine lv_iconst (v := 1) hx hb dL_law_296 (by decide) ?_
    refine lv_iadd hx hb dL_law_297 ?_
    refine va_sld hx hb hX hbl0 hbA hS h1 dL_law_298 ?_
    refine lv_aload_n hx hb dL_law_299 rfl (lv_at hl 3 rfl) ?_
    refine lw_compi (wcs := [(wPCo p70 b7 c7 d7 e7 h7 k7 st), (wSet cy b7 v), (wSav cy q h7 z), (wSet cy (q 0) s0), (wSet cy (q 1) s1), (wSet cy (q 2) s2), (wSet cy (q 3) s3), (wL cy o out)]) (wns := fun u8 => [(wPCo p70 b7 c7 d7 e7 h7 k7 u8.1.1), (wSet cy b7 u8.1.2.1), (wSav cy q h7 u8.1.2.2.1), (wSet cy (q 0) u8.1.2.2.2.1), (wSet cy (q 1) u8.1.2.2.2.2.1), (wSet cy (q 2) u8.1.2.2.2.2.2.1), (wSet cy (q 3) u8.1.2.2.2.2.2.2), (wL cy o u8.2)]) (W2 := fun u8 => (LWL cy g p70 b7 c7 d7 e7 h7 k7 q ma o od u8.1.1 u8.1.2.1 w v2 w2 u8.1.2.2.1 u8.1.2.2.2.1 u8.1.2.2.2.2.1 u8.1.2.2.2.2.2.1 u8.1.2.2.2.2.2.2 tx y0 0 y2 y3 y4 y5 y6 y7 y8 y9 y10 y11 y12 y13 u8.2 outD)) (vx_runSW (As := [.ref p70, .int (xs (i + 1).toNatClampNeg), .ref o]) (rest := []) S (c_L_setQuota l hl0 D cy g s.heap.size p70 b7 c7 d7 e7 h7 k7 q st v z s0 s1 s2 s3 (xs (i + 1).toNatClampNeg) o out (fun k h => k_setQuota h)) (vx_cwSW 3 hts gL_law_L_setQuota rfl rfl rfl hd_L_setQuota_S ⟨Nat.le_of_ble_eq_true rfl, Nat.le_of_ble_eq_true rfl⟩) ⟨lwP_blind, my_preL (wcs := [(wPCo p70 b7 c7 d7 e7 h7 k7 st), (wSet cy b7 v), (wSav cy q h7 z), (wSet cy (q 0) s0), (wSet cy (q 1) s1), (wSet cy (q 2) s2), (wSet cy (q 3) s3), (wL cy o out)]) hK0 hNc hS hAB hP hD [0, 1, 5, 6, 7, 8, 9, 12] (by decide) rfl rfl⟩ rfl rfl hl.1 rfl (lv_room (Nat.le_of_ble_eq_true rfl)) dL_law_300 ⟨(show cells + 1 ≤ 601024 by omega), (show slots + 6 ≤ 7293033 by omega)⟩) hS hP hD [0, 1, 5, 6, 7, 8, 9, 12] rfl rfl (fun _ => rfl) (fun _ => by simp only [List.map_cons, List.map_nil, adrSet, adrSetE, adrPow, adrPowE, adrTxt, adrTxtE, adrSav, adrSavE, adrPCo, adrMod, adrModE, adrL, adrDb]) (fun _ => rfl) (fun r9 u9 H locs hw hP hD hS => ?_)
    obtain ⟨rfl, rfl⟩ := Prod.mk.inj ((wrI_r e1).symm.trans hw)
    have hP : va_P D vwCl (LW cy g p70 b7 c7 d7 e7 h7 k7 q ma o od 1 u.1 w v2 w2 u.2.1 u.2.2.1 u.2.2.2.1 u.2.2.2.2.1 u.2.2.2.2.2 tx y0 0 y2 y3 y4 y5 y6 y7 y8 y9 y10 y11 y12 y13 (vp_updL out 0 (Int32.toInt64 r)) outD) H := hP
    have hD : va_D (fun q => s.heap.size ≤ q) (LW cy g p70 b7 c7 d7 e7 h7 k7 q ma o od 1 u.1 w v2 w2 u.2.1 u.2.2.1 u.2.2.2.1 u.2.2.2.2.1 u.2.2.2.2.2 tx y0 0 y2 y3 y4 y5 y6 y7 y8 y9 y10 y11 y12 y13 (vp_updL out 0 (Int32.toInt64 r)) outD) := hD
    refine lv_istore (lv' := [(6, .int 0), (0, .ref b), (1, .ref p70), (2, .ref (ma 0)), (3, .ref o), (4, .ref od), (5, .int i)]) hx hb dL_law_303 hl (by decide) rfl (fun ls hl => ?_)
    refine lv_aload_n hx hb dL_law_305 rfl (lv_at hl 3 rfl) ?_
    refine lv_aload_n hx hb dL_law_306 rfl (lv_at hl 1 rfl) ?_
    refine lv_iload hx hb dL_law_307 (lv_at hl 6 rfl) ?_
    refine lv_iconst (v := 1) hx hb dL_law_309 (by decide) ?_
    refine lv_iadd hx hb dL_law_310 ?_
    refine va_sld hx hb hX hbl0 hbA hS h1 dL_law_311 ?_
    refine mu_compi (wcs := [(wModE cy ma y0 0 y2 y3 y4 y5 y6 y7 y8 y9 y10 y11 y12 y13)]) (wns := fun u8 => [(wModE cy ma u8.1 0 y2 u8.2.1 y4 y5 y6 u8.2.2.1 u8.2.2.2 y9 y10 y11 y12 y13)]) (W2 := fun u8 => (LWL cy g p70 b7 c7 d7 e7 h7 k7 q ma o od 1 u.1 w v2 w2 u.2.1 u.2.2.1 u.2.2.2.1 u.2.2.2.2.1 u.2.2.2.2.2 tx u8.1 0 y2 u8.2.1 y4 y5 y6 u8.2.2.1 u8.2.2.2 y9 y10 y11 y12 y13 (vp_updL out 0 (Int32.toInt64 r)) outD)) (va_runV (C := RX8) (As := [.int (xs (i + 1).toNatClampNeg)]) (rest := []) S (c_X8_setQuota l D cy g s.heap.size ma y0 0 y2 y3 y4 y5 y6 y7 y8 y9 y10 y11 y12 y13 (xs (i + 1).toNatClampNeg) (ringf hrg).1 (ringf hrg).2) (cwV 1 hts gL_law_X8_setQuota rfl rfl rfl hd_X8_setQuota_V ⟨Nat.le_of_ble_eq_true rfl, Nat.le_of_ble_eq_true rfl⟩) ⟨muP_blind, va_recv hK0.1 hP (ci := 6) (q0 := 90) rfl rfl, my_preC (wcs := [(wModE cy ma y0 0 y2 y3 y4 y5 y6 y7 y8 y9 y10 y11 y12 y13)]) hK0 hS hAB hP hD [11] (by decide) rfl (List.append_nil _)⟩ rfl rfl hl.1 rfl (lv_room (Nat.le_of_ble_eq_true rfl)) dL_law_312 ⟨(show cells + 1 ≤ 601024 by omega), (show slots + 6 ≤ 7293033 by omega)⟩) hS hP hD [11] rfl (List.append_nil _) (fun _ => List.append_nil _) (fun _ => by simp only [List.map_cons, List.map_nil, adrSet, adrSetE, adrPow, adrPowE, adrTxt, adrTxtE, adrSav, adrSavE, adrPCo, adrMod, adrModE, adrL, adrDb]) (fun _ => rfl) (fun r9 u9 H locs hw hP hD hS => ?_)
    obtain ⟨rfl, rfl⟩ := Prod.mk.inj (e4.symm.trans hw)
    have hP : va_P D vwCl (LW cy g p70 b7 c7 d7 e7 h7 k7 q ma o od 1 u.1 w v2 w2 u.2.1 u.2.2.1 u.2.2.2.1 u.2.2.2.2.1 u.2.2.2.2.2 tx pp.1 0 y2 0 y4 y5 y6 pp.2.1 pp.2.2 y9 y10 y11 y12 y13 (vp_updL out 0 (Int32.toInt64 r)) outD) H := hP
    have hD : va_D (fun q => s.heap.size ≤ q) (LW cy g p70 b7 c7 d7 e7 h7 k7 q ma o od 1 u.1 w v2 w2 u.2.1 u.2.2.1 u.2.2.2.1 u.2.2.2.2.1 u.2.2.2.2.2 tx pp.1 0 y2 0 y4 y5 y6 pp.2.1 pp.2.2 y9 y10 y11 y12 y13 (vp_updL out 0 (Int32.toInt64 r)) outD) := hD
    refine lv_istore (lv' := [(7, .int r), (6, .int 0), (0, .ref b), (1, .ref p70), (2, .ref (ma 0)), (3, .ref o), (4, .ref od), (5, .int i)]) hx hb dL_law_315 hl (by decide) rfl (fun ls hl => ?_)
    refine lv_aload_n hx hb dL_law_317 rfl (lv_at hl 4 rfl) ?_
    refine rd_goi (va_runV (C := RX8) (As := []) (rest := []) S (c_X8_thrown l D cy g s.heap.size ma pp.1 0 y2 0 y4 y5 y6 pp.2.1 pp.2.2 y9 y10 y11 y12 y13) (cwV 0 hts gL_law_X8_thrown rfl rfl rfl hd_X8_thrown_V ⟨Nat.le_of_ble_eq_true rfl, Nat.le_of_ble_eq_true rfl⟩) ⟨rdP_blind, va_recv hK0.1 hP (ci := 6) (q0 := 90) rfl rfl, my_preV hK0 hS hAB hP [90, 91, 92, 93, 94, 95, 96, 97] rfl⟩ rfl rfl hl.1 rfl (lv_room (Nat.le_of_ble_eq_true rfl)) dL_law_318 ⟨(show cells + 1 ≤ 601024 by omega), (show slots + 6 ≤ 7293033 by omega)⟩) ?_
    refine lv_iload hx hb dL_law_321 (lv_at hl 1 rfl) ?_
    refine lv_icmp_eq (tgt := 328) hx hb dL_law_323 (by decide) (fun _ => ?_) (fun h9 => absurd (show ((f_X8_thrown 0) : Int32) = 0 from rfl) h9)
    refine lv_iload hx hb dL_law_328 (lv_at hl 1 rfl) ?_
    refine lv_if_ne (tgt := 345) hx hb dL_law_330 (by decide) (fun h9 => absurd rfl h9) (fun _ => ?_)
    refine lv_aload_n hx hb dL_law_333 rfl (lv_at hl 5 rfl) ?_
    refine lv_iconst (v := 0) hx hb dL_law_334 (by decide) ?_
    refine va_lald hx hb hK0.1 hP 98 3 rfl rfl (i := 0) (show ¬ ((0 : Int32) < 0 ∨ 1 ≤ (0 : Int32).toNatClampNeg) by decide) dL_law_335 ?_
    refine lv_iload hx hb dL_law_336 (lv_at hl 0 rfl) ?_
    refine lv_i2l (v := (Int32.toInt64 r)) hx hb dL_law_338 rfl ?_
    refine W.lcmp hx hb dL_law_339 ?_
    refine lv_if_eq (tgt := 345) hx hb dL_law_340 (by decide) (fun _ => ?_) (fun h9 => absurd ((lg_cmp_eq _ _).mpr rfl) h9)
    refine lv_goto (tgt := 1700) hx hb dL_law_345 (by decide) ?_
    refine W.widen (k := cells + 2) (n := slots + 12) (by omega) (by omega) ?_
    exact K H locs ls ⟨1, u.1, w, v2, w2, u.2.1, u.2.2.1, u.2.2.2.1, u.2.2.2.2.1, u.2.2.2.2.2, tx, pp.1, y2, 0, y4, y5, y6, pp.2.1, pp.2.2, y9, y10, y11, y12, y13, (vp_updL out 0 (Int32.toInt64 r)), outD, e5.1, e5.2.1, pwr_1 _ _, e5.2.2, htx, hbl, hP, hD⟩ hS (lv_sub hl [2, 3, 4, 5, 6, 7] rfl)
set_option maxHeartbeats 4000000 in
set_option maxRecDepth 100000 in
theorem law_follow (C : LC p l e s m meth c b L xs D cy g) (hc : cells ≤ 590000) (hs : slots ≤ 7000000) (h1 : vp_in (i + 1) L) (h2 : vp_in (i + 2) L) (hI : LInv D cy g p70 b7 c7 d7 e7 h7 k7 q ma o od s.heap.size H) (hS : va_S (fun q => s.heap.size ≤ q) s.heap H locs) (hl : lv_has ls 9 [(0, .ref b), (1, .ref p70), (2, .ref (ma 0)), (3, .ref o), (4, .ref od), (5, .int i)])
    (K : ∀ (H : Heap) (locs : List Loc) (ls : Array Slot), LInv D cy g p70 b7 c7 d7 e7 h7 k7 q ma o od s.heap.size H → va_S (fun q => s.heap.size ≤ q) s.heap H locs → lv_has ls 9 [(0, .ref b), (1, .ref p70), (2, .ref (ma 0)), (3, .ref o), (4, .ref od), (5, .int i)] → W p l e room_1 s m #[Value.ref b] below meth c H locs (cells + 2) (slots + 12) Q (F0 m 1700 ls [])) : W p l e room_1 s m #[Value.ref b] below meth c H locs cells slots Q (F0 m 348 ls []) := by
  obtain ⟨hl0, hx, hb, hr, hml, hown, hts, hX, hbl0, hlocks, hK0, hNc, hL⟩ := C
  obtain ⟨st, v, w, v2, w2, z, s0, s1, s2, s3, tx, y0, y2, y3, y4, y5, y6, y7, y8, y9, y10, y11, y12, y13, out, outD, hv, hg, hp, hrg, htx, hbl, hP, hD⟩ := hI
  have S := my_fix hx hb hml hown hts
  have hAB : ∀ q : Nat, s.heap.size ≤ q → s.heap.size ≤ q := fun _ h => h
  have hbA : ¬ s.heap.size ≤ b := Nat.not_le.mpr hbl0
  rcases O_follow hv hg hrg st (xs (i + 1).toNatClampNeg) (xs (i + 2).toNatClampNeg) with ⟨f, e1, _, e3, e4⟩ | ⟨r, u, pp, e1, e4, e5⟩
  · have hne : ¬ ((fun f : Int32 => f) f) = 0 := pos_ne e3
    have e4 : f_X8_follow y0 0 y7 y8 (xs (i + 1).toNatClampNeg) (xs (i + 2).toNatClampNeg) = (0, (y0, ((fun f : Int32 => f) f), y7, y8)) := e4
    refine lv_aload_n hx hb dL_law_348 rfl (lv_at hl 1 rfl) ?_
    refine lv_aload_n hx hb dL_law_349 rfl (lv_at hl 0 rfl) ?_
    refine lv_iload hx hb dL_law_350 (lv_at hl 5 rfl) ?_
    refine lv_iconst (v := 1) hx hb dL_law_352 (by decide) ?_
    refine lv_iadd hx hb dL_law_353 ?_
    refine va_sld hx hb hX hbl0 hbA hS h1 dL_law_354 ?_
    refine lv_aload_n hx hb dL_law_355 rfl (lv_at hl 0 rfl) ?_
    refine lv_iload hx hb dL_law_356 (lv_at hl 5 rfl) ?_
    refine lv_iconst (v := 2) hx hb dL_law_358 (by decide) ?_
    refine lv_iadd hx hb dL_law_359 ?_
    refine va_sld hx hb hX hbl0 hbA hS h2 dL_law_360 ?_
    refine lv_aload_n hx hb dL_law_361 rfl (lv_at hl 3 rfl) ?_
    refine lw_compi (wcs := [(wPCo p70 b7 c7 d7 e7 h7 k7 st), (wSet cy b7 v), (wSav cy q h7 z), (wSet cy (q 0) s0), (wSet cy (q 1) s1), (wSet cy (q 2) s2), (wSet cy (q 3) s3), (wL cy o out)]) (wns := fun u8 => [(wPCo p70 b7 c7 d7 e7 h7 k7 u8.1.1), (wSet cy b7 u8.1.2.1), (wSav cy q h7 u8.1.2.2.1), (wSet cy (q 0) u8.1.2.2.2.1), (wSet cy (q 1) u8.1.2.2.2.2.1), (wSet cy (q 2) u8.1.2.2.2.2.2.1), (wSet cy (q 3) u8.1.2.2.2.2.2.2), (wL cy o u8.2)]) (W2 := fun u8 => (LWL cy g p70 b7 c7 d7 e7 h7 k7 q ma o od u8.1.1 u8.1.2.1 w v2 w2 u8.1.2.2.1 u8.1.2.2.2.1 u8.1.2.2.2.2.1 u8.1.2.2.2.2.2.1 u8.1.2.2.2.2.2.2 tx y0 0 y2 y3 y4 y5 y6 y7 y8 y9 y10 y11 y12 y13 u8.2 outD)) (vx_runSW (As := [.ref p70, .int (xs (i + 1).toNatClampNeg), .int (xs (i + 2).toNatClampNeg), .ref o]) (rest := []) S (c_L_follow l hl0 D cy g s.heap.size p70 b7 c7 d7 e7 h7 k7 q st v z s0 s1 s2 s3 (xs (i + 1).toNatClampNeg) (xs (i + 2).toNatClampNeg) o out (fun k h => k_follow h)) (vx_cwSW 4 hts gL_law_L_follow rfl rfl rfl hd_L_follow_S ⟨Nat.le_of_ble_eq_true rfl, Nat.le_of_ble_eq_true rfl⟩) ⟨lwP_blind, my_preL (wcs := [(wPCo p70 b7 c7 d7 e7 h7 k7 st), (wSet cy b7 v), (wSav cy q h7 z), (wSet cy (q 0) s0), (wSet cy (q 1) s1), (wSet cy (q 2) s2), (wSet cy (q 3) s3), (wL cy o out)]) hK0 hNc hS hAB hP hD [0, 1, 5, 6, 7, 8, 9, 12] (by decide) rfl rfl⟩ rfl rfl hl.1 rfl (lv_room (Nat.le_of_ble_eq_true rfl)) dL_law_362 ⟨(show cells + 1 ≤ 601024 by omega), (show slots + 6 ≤ 7293033 by omega)⟩) hS hP hD [0, 1, 5, 6, 7, 8, 9, 12] rfl rfl (fun _ => rfl) (fun _ => by simp only [List.map_cons, List.map_nil, adrSet, adrSetE, adrPow, adrPowE, adrTxt, adrTxtE, adrSav, adrSavE, adrPCo, adrMod, adrModE, adrL, adrDb]) (fun _ => rfl) (fun r9 u9 H locs hw hP hD hS => ?_)
    obtain ⟨rfl, rfl⟩ := Prod.mk.inj ((wrI_l e1).symm.trans hw)
    have hP : va_P D vwCl (LW cy g p70 b7 c7 d7 e7 h7 k7 q ma o od st v w v2 w2 z s0 s1 s2 s3 tx y0 0 y2 y3 y4 y5 y6 y7 y8 y9 y10 y11 y12 y13 out outD) H := hP
    have hD : va_D (fun q => s.heap.size ≤ q) (LW cy g p70 b7 c7 d7 e7 h7 k7 q ma o od st v w v2 w2 z s0 s1 s2 s3 tx y0 0 y2 y3 y4 y5 y6 y7 y8 y9 y10 y11 y12 y13 out outD) := hD
    refine lv_istore (lv' := [(6, .int ((fun f : Int32 => f) f)), (0, .ref b), (1, .ref p70), (2, .ref (ma 0)), (3, .ref o), (4, .ref od), (5, .int i)]) hx hb dL_law_365 hl (by decide) rfl (fun ls hl => ?_)
    refine lv_aload_n hx hb dL_law_367 rfl (lv_at hl 3 rfl) ?_
    refine lv_aload_n hx hb dL_law_368 rfl (lv_at hl 1 rfl) ?_
    refine lv_iload hx hb dL_law_369 (lv_at hl 6 rfl) ?_
    refine lv_iconst (v := 1) hx hb dL_law_371 (by decide) ?_
    refine lv_iadd hx hb dL_law_372 ?_
    refine va_sld hx hb hX hbl0 hbA hS h1 dL_law_373 ?_
    refine lv_aload_n hx hb dL_law_374 rfl (lv_at hl 1 rfl) ?_
    refine lv_iload hx hb dL_law_375 (lv_at hl 6 rfl) ?_
    refine lv_iconst (v := 2) hx hb dL_law_377 (by decide) ?_
    refine lv_iadd hx hb dL_law_378 ?_
    refine va_sld hx hb hX hbl0 hbA hS h2 dL_law_379 ?_
    refine mu_compi (wcs := [(wModE cy ma y0 0 y2 y3 y4 y5 y6 y7 y8 y9 y10 y11 y12 y13)]) (wns := fun u8 => [(wModE cy ma u8.1 0 y2 u8.2.1 y4 y5 y6 u8.2.2.1 u8.2.2.2 y9 y10 y11 y12 y13)]) (W2 := fun u8 => (LWL cy g p70 b7 c7 d7 e7 h7 k7 q ma o od st v w v2 w2 z s0 s1 s2 s3 tx u8.1 0 y2 u8.2.1 y4 y5 y6 u8.2.2.1 u8.2.2.2 y9 y10 y11 y12 y13 out outD)) (va_runV (C := RX8) (As := [.int (xs (i + 1).toNatClampNeg), .int (xs (i + 2).toNatClampNeg)]) (rest := []) S (c_X8_follow l D cy g s.heap.size ma y0 0 y2 y3 y4 y5 y6 y7 y8 y9 y10 y11 y12 y13 (xs (i + 1).toNatClampNeg) (xs (i + 2).toNatClampNeg) (ringf hrg).1 (ringf hrg).2 (GSf hg).1) (cwV 2 hts gL_law_X8_follow rfl rfl rfl hd_X8_follow_V ⟨Nat.le_of_ble_eq_true rfl, Nat.le_of_ble_eq_true rfl⟩) ⟨muP_blind, va_recv hK0.1 hP (ci := 6) (q0 := 90) rfl rfl, my_preC (wcs := [(wModE cy ma y0 0 y2 y3 y4 y5 y6 y7 y8 y9 y10 y11 y12 y13)]) hK0 hS hAB hP hD [11] (by decide) rfl (List.append_nil _)⟩ rfl rfl hl.1 rfl (lv_room (Nat.le_of_ble_eq_true rfl)) dL_law_380 ⟨(show cells + 1 ≤ 601024 by omega), (show slots + 6 ≤ 7293033 by omega)⟩) hS hP hD [11] rfl (List.append_nil _) (fun _ => List.append_nil _) (fun _ => by simp only [List.map_cons, List.map_nil, adrSet, adrSetE, adrPow, adrPowE, adrTxt, adrTxtE, adrSav, adrSavE, adrPCo, adrMod, adrModE, adrL, adrDb]) (fun _ => rfl) (fun r9 u9 H locs hw hP hD hS => ?_)
    obtain ⟨rfl, rfl⟩ := Prod.mk.inj (e4.symm.trans hw)
    have hP : va_P D vwCl (LW cy g p70 b7 c7 d7 e7 h7 k7 q ma o od st v w v2 w2 z s0 s1 s2 s3 tx y0 0 y2 ((fun f : Int32 => f) f) y4 y5 y6 y7 y8 y9 y10 y11 y12 y13 out outD) H := hP
    have hD : va_D (fun q => s.heap.size ≤ q) (LW cy g p70 b7 c7 d7 e7 h7 k7 q ma o od st v w v2 w2 z s0 s1 s2 s3 tx y0 0 y2 ((fun f : Int32 => f) f) y4 y5 y6 y7 y8 y9 y10 y11 y12 y13 out outD) := hD
    refine lv_istore (lv' := [(7, .int 0), (6, .int ((fun f : Int32 => f) f)), (0, .ref b), (1, .ref p70), (2, .ref (ma 0)), (3, .ref o), (4, .ref od), (5, .int i)]) hx hb dL_law_383 hl (by decide) rfl (fun ls hl => ?_)
    refine lv_aload_n hx hb dL_law_385 rfl (lv_at hl 4 rfl) ?_
    refine rd_goi (va_runV (C := RX8) (As := []) (rest := []) S (c_X8_thrown l D cy g s.heap.size ma y0 0 y2 ((fun f : Int32 => f) f) y4 y5 y6 y7 y8 y9 y10 y11 y12 y13) (cwV 0 hts gL_law_X8_thrown rfl rfl rfl hd_X8_thrown_V ⟨Nat.le_of_ble_eq_true rfl, Nat.le_of_ble_eq_true rfl⟩) ⟨rdP_blind, va_recv hK0.1 hP (ci := 6) (q0 := 90) rfl rfl, my_preV hK0 hS hAB hP [90, 91, 92, 93, 94, 95, 96, 97] rfl⟩ rfl rfl hl.1 rfl (lv_room (Nat.le_of_ble_eq_true rfl)) dL_law_386 ⟨(show cells + 1 ≤ 601024 by omega), (show slots + 6 ≤ 7293033 by omega)⟩) ?_
    refine lv_iload hx hb dL_law_389 (lv_at hl 1 rfl) ?_
    refine lv_icmp_eq (tgt := 396) hx hb dL_law_391 (by decide) (fun _ => ?_) (fun h9 => absurd (show ((f_X8_thrown ((fun f : Int32 => f) f)) : Int32) = ((fun f : Int32 => f) f) from rfl) h9)
    refine lv_iload hx hb dL_law_396 (lv_at hl 1 rfl) ?_
    refine lv_if_ne (tgt := 413) hx hb dL_law_398 (by decide) (fun _ => ?_) (fun h9 => absurd h9 hne)
    refine lv_goto (tgt := 1700) hx hb dL_law_413 (by decide) ?_
    refine W.widen (k := cells + 2) (n := slots + 12) (by omega) (by omega) ?_
    exact K H locs ls ⟨st, v, w, v2, w2, z, s0, s1, s2, s3, tx, y0, y2, ((fun f : Int32 => f) f), y4, y5, y6, y7, y8, y9, y10, y11, y12, y13, out, outD, hv, hg, hp, hrg, htx, hbl, hP, hD⟩ hS (lv_sub hl [2, 3, 4, 5, 6, 7] rfl)
  · refine lv_aload_n hx hb dL_law_348 rfl (lv_at hl 1 rfl) ?_
    refine lv_aload_n hx hb dL_law_349 rfl (lv_at hl 0 rfl) ?_
    refine lv_iload hx hb dL_law_350 (lv_at hl 5 rfl) ?_
    refine lv_iconst (v := 1) hx hb dL_law_352 (by decide) ?_
    refine lv_iadd hx hb dL_law_353 ?_
    refine va_sld hx hb hX hbl0 hbA hS h1 dL_law_354 ?_
    refine lv_aload_n hx hb dL_law_355 rfl (lv_at hl 0 rfl) ?_
    refine lv_iload hx hb dL_law_356 (lv_at hl 5 rfl) ?_
    refine lv_iconst (v := 2) hx hb dL_law_358 (by decide) ?_
    refine lv_iadd hx hb dL_law_359 ?_
    refine va_sld hx hb hX hbl0 hbA hS h2 dL_law_360 ?_
    refine lv_aload_n hx hb dL_law_361 rfl (lv_at hl 3 rfl) ?_
    refine lw_compi (wcs := [(wPCo p70 b7 c7 d7 e7 h7 k7 st), (wSet cy b7 v), (wSav cy q h7 z), (wSet cy (q 0) s0), (wSet cy (q 1) s1), (wSet cy (q 2) s2), (wSet cy (q 3) s3), (wL cy o out)]) (wns := fun u8 => [(wPCo p70 b7 c7 d7 e7 h7 k7 u8.1.1), (wSet cy b7 u8.1.2.1), (wSav cy q h7 u8.1.2.2.1), (wSet cy (q 0) u8.1.2.2.2.1), (wSet cy (q 1) u8.1.2.2.2.2.1), (wSet cy (q 2) u8.1.2.2.2.2.2.1), (wSet cy (q 3) u8.1.2.2.2.2.2.2), (wL cy o u8.2)]) (W2 := fun u8 => (LWL cy g p70 b7 c7 d7 e7 h7 k7 q ma o od u8.1.1 u8.1.2.1 w v2 w2 u8.1.2.2.1 u8.1.2.2.2.1 u8.1.2.2.2.2.1 u8.1.2.2.2.2.2.1 u8.1.2.2.2.2.2.2 tx y0 0 y2 y3 y4 y5 y6 y7 y8 y9 y10 y11 y12 y13 u8.2 outD)) (vx_runSW (As := [.ref p70, .int (xs (i + 1).toNatClampNeg), .int (xs (i + 2).toNatClampNeg), .ref o]) (rest := []) S (c_L_follow l hl0 D cy g s.heap.size p70 b7 c7 d7 e7 h7 k7 q st v z s0 s1 s2 s3 (xs (i + 1).toNatClampNeg) (xs (i + 2).toNatClampNeg) o out (fun k h => k_follow h)) (vx_cwSW 4 hts gL_law_L_follow rfl rfl rfl hd_L_follow_S ⟨Nat.le_of_ble_eq_true rfl, Nat.le_of_ble_eq_true rfl⟩) ⟨lwP_blind, my_preL (wcs := [(wPCo p70 b7 c7 d7 e7 h7 k7 st), (wSet cy b7 v), (wSav cy q h7 z), (wSet cy (q 0) s0), (wSet cy (q 1) s1), (wSet cy (q 2) s2), (wSet cy (q 3) s3), (wL cy o out)]) hK0 hNc hS hAB hP hD [0, 1, 5, 6, 7, 8, 9, 12] (by decide) rfl rfl⟩ rfl rfl hl.1 rfl (lv_room (Nat.le_of_ble_eq_true rfl)) dL_law_362 ⟨(show cells + 1 ≤ 601024 by omega), (show slots + 6 ≤ 7293033 by omega)⟩) hS hP hD [0, 1, 5, 6, 7, 8, 9, 12] rfl rfl (fun _ => rfl) (fun _ => by simp only [List.map_cons, List.map_nil, adrSet, adrSetE, adrPow, adrPowE, adrTxt, adrTxtE, adrSav, adrSavE, adrPCo, adrMod, adrModE, adrL, adrDb]) (fun _ => rfl) (fun r9 u9 H locs hw hP hD hS => ?_)
    obtain ⟨rfl, rfl⟩ := Prod.mk.inj ((wrI_r e1).symm.trans hw)
    have hP : va_P D vwCl (LW cy g p70 b7 c7 d7 e7 h7 k7 q ma o od 1 u.1 w v2 w2 u.2.1 u.2.2.1 u.2.2.2.1 u.2.2.2.2.1 u.2.2.2.2.2 tx y0 0 y2 y3 y4 y5 y6 y7 y8 y9 y10 y11 y12 y13 (vp_updL out 0 (Int32.toInt64 r)) outD) H := hP
    have hD : va_D (fun q => s.heap.size ≤ q) (LW cy g p70 b7 c7 d7 e7 h7 k7 q ma o od 1 u.1 w v2 w2 u.2.1 u.2.2.1 u.2.2.2.1 u.2.2.2.2.1 u.2.2.2.2.2 tx y0 0 y2 y3 y4 y5 y6 y7 y8 y9 y10 y11 y12 y13 (vp_updL out 0 (Int32.toInt64 r)) outD) := hD
    refine lv_istore (lv' := [(6, .int 0), (0, .ref b), (1, .ref p70), (2, .ref (ma 0)), (3, .ref o), (4, .ref od), (5, .int i)]) hx hb dL_law_365 hl (by decide) rfl (fun ls hl => ?_)
    refine lv_aload_n hx hb dL_law_367 rfl (lv_at hl 3 rfl) ?_
    refine lv_aload_n hx hb dL_law_368 rfl (lv_at hl 1 rfl) ?_
    refine lv_iload hx hb dL_law_369 (lv_at hl 6 rfl) ?_
    refine lv_iconst (v := 1) hx hb dL_law_371 (by decide) ?_
    refine lv_iadd hx hb dL_law_372 ?_
    refine va_sld hx hb hX hbl0 hbA hS h1 dL_law_373 ?_
    refine lv_aload_n hx hb dL_law_374 rfl (lv_at hl 1 rfl) ?_
    refine lv_iload hx hb dL_law_375 (lv_at hl 6 rfl) ?_
    refine lv_iconst (v := 2) hx hb dL_law_377 (by decide) ?_
    refine lv_iadd hx hb dL_law_378 ?_
    refine va_sld hx hb hX hbl0 hbA hS h2 dL_law_379 ?_
    refine mu_compi (wcs := [(wModE cy ma y0 0 y2 y3 y4 y5 y6 y7 y8 y9 y10 y11 y12 y13)]) (wns := fun u8 => [(wModE cy ma u8.1 0 y2 u8.2.1 y4 y5 y6 u8.2.2.1 u8.2.2.2 y9 y10 y11 y12 y13)]) (W2 := fun u8 => (LWL cy g p70 b7 c7 d7 e7 h7 k7 q ma o od 1 u.1 w v2 w2 u.2.1 u.2.2.1 u.2.2.2.1 u.2.2.2.2.1 u.2.2.2.2.2 tx u8.1 0 y2 u8.2.1 y4 y5 y6 u8.2.2.1 u8.2.2.2 y9 y10 y11 y12 y13 (vp_updL out 0 (Int32.toInt64 r)) outD)) (va_runV (C := RX8) (As := [.int (xs (i + 1).toNatClampNeg), .int (xs (i + 2).toNatClampNeg)]) (rest := []) S (c_X8_follow l D cy g s.heap.size ma y0 0 y2 y3 y4 y5 y6 y7 y8 y9 y10 y11 y12 y13 (xs (i + 1).toNatClampNeg) (xs (i + 2).toNatClampNeg) (ringf hrg).1 (ringf hrg).2 (GSf hg).1) (cwV 2 hts gL_law_X8_follow rfl rfl rfl hd_X8_follow_V ⟨Nat.le_of_ble_eq_true rfl, Nat.le_of_ble_eq_true rfl⟩) ⟨muP_blind, va_recv hK0.1 hP (ci := 6) (q0 := 90) rfl rfl, my_preC (wcs := [(wModE cy ma y0 0 y2 y3 y4 y5 y6 y7 y8 y9 y10 y11 y12 y13)]) hK0 hS hAB hP hD [11] (by decide) rfl (List.append_nil _)⟩ rfl rfl hl.1 rfl (lv_room (Nat.le_of_ble_eq_true rfl)) dL_law_380 ⟨(show cells + 1 ≤ 601024 by omega), (show slots + 6 ≤ 7293033 by omega)⟩) hS hP hD [11] rfl (List.append_nil _) (fun _ => List.append_nil _) (fun _ => by simp only [List.map_cons, List.map_nil, adrSet, adrSetE, adrPow, adrPowE, adrTxt, adrTxtE, adrSav, adrSavE, adrPCo, adrMod, adrModE, adrL, adrDb]) (fun _ => rfl) (fun r9 u9 H locs hw hP hD hS => ?_)
    obtain ⟨rfl, rfl⟩ := Prod.mk.inj (e4.symm.trans hw)
    have hP : va_P D vwCl (LW cy g p70 b7 c7 d7 e7 h7 k7 q ma o od 1 u.1 w v2 w2 u.2.1 u.2.2.1 u.2.2.2.1 u.2.2.2.2.1 u.2.2.2.2.2 tx pp.1 0 y2 0 y4 y5 y6 pp.2.1 pp.2.2 y9 y10 y11 y12 y13 (vp_updL out 0 (Int32.toInt64 r)) outD) H := hP
    have hD : va_D (fun q => s.heap.size ≤ q) (LW cy g p70 b7 c7 d7 e7 h7 k7 q ma o od 1 u.1 w v2 w2 u.2.1 u.2.2.1 u.2.2.2.1 u.2.2.2.2.1 u.2.2.2.2.2 tx pp.1 0 y2 0 y4 y5 y6 pp.2.1 pp.2.2 y9 y10 y11 y12 y13 (vp_updL out 0 (Int32.toInt64 r)) outD) := hD
    refine lv_istore (lv' := [(7, .int r), (6, .int 0), (0, .ref b), (1, .ref p70), (2, .ref (ma 0)), (3, .ref o), (4, .ref od), (5, .int i)]) hx hb dL_law_383 hl (by decide) rfl (fun ls hl => ?_)
    refine lv_aload_n hx hb dL_law_385 rfl (lv_at hl 4 rfl) ?_
    refine rd_goi (va_runV (C := RX8) (As := []) (rest := []) S (c_X8_thrown l D cy g s.heap.size ma pp.1 0 y2 0 y4 y5 y6 pp.2.1 pp.2.2 y9 y10 y11 y12 y13) (cwV 0 hts gL_law_X8_thrown rfl rfl rfl hd_X8_thrown_V ⟨Nat.le_of_ble_eq_true rfl, Nat.le_of_ble_eq_true rfl⟩) ⟨rdP_blind, va_recv hK0.1 hP (ci := 6) (q0 := 90) rfl rfl, my_preV hK0 hS hAB hP [90, 91, 92, 93, 94, 95, 96, 97] rfl⟩ rfl rfl hl.1 rfl (lv_room (Nat.le_of_ble_eq_true rfl)) dL_law_386 ⟨(show cells + 1 ≤ 601024 by omega), (show slots + 6 ≤ 7293033 by omega)⟩) ?_
    refine lv_iload hx hb dL_law_389 (lv_at hl 1 rfl) ?_
    refine lv_icmp_eq (tgt := 396) hx hb dL_law_391 (by decide) (fun _ => ?_) (fun h9 => absurd (show ((f_X8_thrown 0) : Int32) = 0 from rfl) h9)
    refine lv_iload hx hb dL_law_396 (lv_at hl 1 rfl) ?_
    refine lv_if_ne (tgt := 413) hx hb dL_law_398 (by decide) (fun h9 => absurd rfl h9) (fun _ => ?_)
    refine lv_aload_n hx hb dL_law_401 rfl (lv_at hl 5 rfl) ?_
    refine lv_iconst (v := 0) hx hb dL_law_402 (by decide) ?_
    refine va_lald hx hb hK0.1 hP 98 3 rfl rfl (i := 0) (show ¬ ((0 : Int32) < 0 ∨ 1 ≤ (0 : Int32).toNatClampNeg) by decide) dL_law_403 ?_
    refine lv_iload hx hb dL_law_404 (lv_at hl 0 rfl) ?_
    refine lv_i2l (v := (Int32.toInt64 r)) hx hb dL_law_406 rfl ?_
    refine W.lcmp hx hb dL_law_407 ?_
    refine lv_if_eq (tgt := 413) hx hb dL_law_408 (by decide) (fun _ => ?_) (fun h9 => absurd ((lg_cmp_eq _ _).mpr rfl) h9)
    refine lv_goto (tgt := 1700) hx hb dL_law_413 (by decide) ?_
    refine W.widen (k := cells + 2) (n := slots + 12) (by omega) (by omega) ?_
    exact K H locs ls ⟨1, u.1, w, v2, w2, u.2.1, u.2.2.1, u.2.2.2.1, u.2.2.2.2.1, u.2.2.2.2.2, tx, pp.1, y2, 0, y4, y5, y6, pp.2.1, pp.2.2, y9, y10, y11, y12, y13, (vp_updL out 0 (Int32.toInt64 r)), outD, e5.1, e5.2.1, pwr_1 _ _, e5.2.2, htx, hbl, hP, hD⟩ hS (lv_sub hl [2, 3, 4, 5, 6, 7] rfl)
set_option maxHeartbeats 4000000 in
set_option maxRecDepth 100000 in
theorem law_leave (C : LC p l e s m meth c b L xs D cy g) (hc : cells ≤ 590000) (hs : slots ≤ 7000000) (h1 : vp_in (i + 1) L) (h2 : vp_in (i + 2) L) (hI : LInv D cy g p70 b7 c7 d7 e7 h7 k7 q ma o od s.heap.size H) (hS : va_S (fun q => s.heap.size ≤ q) s.heap H locs) (hl : lv_has ls 9 [(0, .ref b), (1, .ref p70), (2, .ref (ma 0)), (3, .ref o), (4, .ref od), (5, .int i)])
    (K : ∀ (H : Heap) (locs : List Loc) (ls : Array Slot), LInv D cy g p70 b7 c7 d7 e7 h7 k7 q ma o od s.heap.size H → va_S (fun q => s.heap.size ≤ q) s.heap H locs → lv_has ls 9 [(0, .ref b), (1, .ref p70), (2, .ref (ma 0)), (3, .ref o), (4, .ref od), (5, .int i)] → W p l e room_1 s m #[Value.ref b] below meth c H locs (cells + 2) (slots + 12) Q (F0 m 1700 ls [])) : W p l e room_1 s m #[Value.ref b] below meth c H locs cells slots Q (F0 m 416 ls []) := by
  obtain ⟨hl0, hx, hb, hr, hml, hown, hts, hX, hbl0, hlocks, hK0, hNc, hL⟩ := C
  obtain ⟨st, v, w, v2, w2, z, s0, s1, s2, s3, tx, y0, y2, y3, y4, y5, y6, y7, y8, y9, y10, y11, y12, y13, out, outD, hv, hg, hp, hrg, htx, hbl, hP, hD⟩ := hI
  have S := my_fix hx hb hml hown hts
  have hAB : ∀ q : Nat, s.heap.size ≤ q → s.heap.size ≤ q := fun _ h => h
  have hbA : ¬ s.heap.size ≤ b := Nat.not_le.mpr hbl0
  rcases O_leave hv hg hrg st (xs (i + 1).toNatClampNeg) with ⟨f, e1, _, e3, e4⟩ | ⟨r, u, pp, e1, e4, e5⟩
  · have hne : ¬ ((fun f : Int32 => if f = 1 then (1 : Int32) else 2) f) = 0 := pos_ne e3
    have e4 : f_X8_leave y0 0 y7 y8 (xs (i + 1).toNatClampNeg) = (0, (y0, ((fun f : Int32 => if f = 1 then (1 : Int32) else 2) f), y7, y8)) := e4
    refine lv_aload_n hx hb dL_law_416 rfl (lv_at hl 1 rfl) ?_
    refine lv_aload_n hx hb dL_law_417 rfl (lv_at hl 0 rfl) ?_
    refine lv_iload hx hb dL_law_418 (lv_at hl 5 rfl) ?_
    refine lv_iconst (v := 1) hx hb dL_law_420 (by decide) ?_
    refine lv_iadd hx hb dL_law_421 ?_
    refine va_sld hx hb hX hbl0 hbA hS h1 dL_law_422 ?_
    refine lv_aload_n hx hb dL_law_423 rfl (lv_at hl 3 rfl) ?_
    refine lw_compi (wcs := [(wPCo p70 b7 c7 d7 e7 h7 k7 st), (wSet cy b7 v), (wSav cy q h7 z), (wSet cy (q 0) s0), (wSet cy (q 1) s1), (wSet cy (q 2) s2), (wSet cy (q 3) s3), (wL cy o out)]) (wns := fun u8 => [(wPCo p70 b7 c7 d7 e7 h7 k7 u8.1.1), (wSet cy b7 u8.1.2.1), (wSav cy q h7 u8.1.2.2.1), (wSet cy (q 0) u8.1.2.2.2.1), (wSet cy (q 1) u8.1.2.2.2.2.1), (wSet cy (q 2) u8.1.2.2.2.2.2.1), (wSet cy (q 3) u8.1.2.2.2.2.2.2), (wL cy o u8.2)]) (W2 := fun u8 => (LWL cy g p70 b7 c7 d7 e7 h7 k7 q ma o od u8.1.1 u8.1.2.1 w v2 w2 u8.1.2.2.1 u8.1.2.2.2.1 u8.1.2.2.2.2.1 u8.1.2.2.2.2.2.1 u8.1.2.2.2.2.2.2 tx y0 0 y2 y3 y4 y5 y6 y7 y8 y9 y10 y11 y12 y13 u8.2 outD)) (vx_runSW (As := [.ref p70, .int (xs (i + 1).toNatClampNeg), .ref o]) (rest := []) S (c_L_leave l hl0 D cy g s.heap.size p70 b7 c7 d7 e7 h7 k7 q st v z s0 s1 s2 s3 (xs (i + 1).toNatClampNeg) o out (fun k h => k_leave h)) (vx_cwSW 3 hts gL_law_L_leave rfl rfl rfl hd_L_leave_S ⟨Nat.le_of_ble_eq_true rfl, Nat.le_of_ble_eq_true rfl⟩) ⟨lwP_blind, my_preL (wcs := [(wPCo p70 b7 c7 d7 e7 h7 k7 st), (wSet cy b7 v), (wSav cy q h7 z), (wSet cy (q 0) s0), (wSet cy (q 1) s1), (wSet cy (q 2) s2), (wSet cy (q 3) s3), (wL cy o out)]) hK0 hNc hS hAB hP hD [0, 1, 5, 6, 7, 8, 9, 12] (by decide) rfl rfl⟩ rfl rfl hl.1 rfl (lv_room (Nat.le_of_ble_eq_true rfl)) dL_law_424 ⟨(show cells + 1 ≤ 601024 by omega), (show slots + 6 ≤ 7293033 by omega)⟩) hS hP hD [0, 1, 5, 6, 7, 8, 9, 12] rfl rfl (fun _ => rfl) (fun _ => by simp only [List.map_cons, List.map_nil, adrSet, adrSetE, adrPow, adrPowE, adrTxt, adrTxtE, adrSav, adrSavE, adrPCo, adrMod, adrModE, adrL, adrDb]) (fun _ => rfl) (fun r9 u9 H locs hw hP hD hS => ?_)
    obtain ⟨rfl, rfl⟩ := Prod.mk.inj ((wrI_l e1).symm.trans hw)
    have hP : va_P D vwCl (LW cy g p70 b7 c7 d7 e7 h7 k7 q ma o od st v w v2 w2 z s0 s1 s2 s3 tx y0 0 y2 y3 y4 y5 y6 y7 y8 y9 y10 y11 y12 y13 out outD) H := hP
    have hD : va_D (fun q => s.heap.size ≤ q) (LW cy g p70 b7 c7 d7 e7 h7 k7 q ma o od st v w v2 w2 z s0 s1 s2 s3 tx y0 0 y2 y3 y4 y5 y6 y7 y8 y9 y10 y11 y12 y13 out outD) := hD
    refine lv_istore (lv' := [(6, .int ((fun f : Int32 => if f = 1 then (1 : Int32) else 2) f)), (0, .ref b), (1, .ref p70), (2, .ref (ma 0)), (3, .ref o), (4, .ref od), (5, .int i)]) hx hb dL_law_427 hl (by decide) rfl (fun ls hl => ?_)
    refine lv_aload_n hx hb dL_law_429 rfl (lv_at hl 3 rfl) ?_
    refine lv_aload_n hx hb dL_law_430 rfl (lv_at hl 1 rfl) ?_
    refine lv_iload hx hb dL_law_431 (lv_at hl 6 rfl) ?_
    refine lv_iconst (v := 1) hx hb dL_law_433 (by decide) ?_
    refine lv_iadd hx hb dL_law_434 ?_
    refine va_sld hx hb hX hbl0 hbA hS h1 dL_law_435 ?_
    refine mu_compi (wcs := [(wModE cy ma y0 0 y2 y3 y4 y5 y6 y7 y8 y9 y10 y11 y12 y13)]) (wns := fun u8 => [(wModE cy ma u8.1 0 y2 u8.2.1 y4 y5 y6 u8.2.2.1 u8.2.2.2 y9 y10 y11 y12 y13)]) (W2 := fun u8 => (LWL cy g p70 b7 c7 d7 e7 h7 k7 q ma o od st v w v2 w2 z s0 s1 s2 s3 tx u8.1 0 y2 u8.2.1 y4 y5 y6 u8.2.2.1 u8.2.2.2 y9 y10 y11 y12 y13 out outD)) (va_runV (C := RX8) (As := [.int (xs (i + 1).toNatClampNeg)]) (rest := []) S (c_X8_leave l D cy g s.heap.size ma y0 0 y2 y3 y4 y5 y6 y7 y8 y9 y10 y11 y12 y13 (xs (i + 1).toNatClampNeg) (ringf hrg).1 (ringf hrg).2 (GSf hg).1) (cwV 1 hts gL_law_X8_leave rfl rfl rfl hd_X8_leave_V ⟨Nat.le_of_ble_eq_true rfl, Nat.le_of_ble_eq_true rfl⟩) ⟨muP_blind, va_recv hK0.1 hP (ci := 6) (q0 := 90) rfl rfl, my_preC (wcs := [(wModE cy ma y0 0 y2 y3 y4 y5 y6 y7 y8 y9 y10 y11 y12 y13)]) hK0 hS hAB hP hD [11] (by decide) rfl (List.append_nil _)⟩ rfl rfl hl.1 rfl (lv_room (Nat.le_of_ble_eq_true rfl)) dL_law_436 ⟨(show cells + 1 ≤ 601024 by omega), (show slots + 6 ≤ 7293033 by omega)⟩) hS hP hD [11] rfl (List.append_nil _) (fun _ => List.append_nil _) (fun _ => by simp only [List.map_cons, List.map_nil, adrSet, adrSetE, adrPow, adrPowE, adrTxt, adrTxtE, adrSav, adrSavE, adrPCo, adrMod, adrModE, adrL, adrDb]) (fun _ => rfl) (fun r9 u9 H locs hw hP hD hS => ?_)
    obtain ⟨rfl, rfl⟩ := Prod.mk.inj (e4.symm.trans hw)
    have hP : va_P D vwCl (LW cy g p70 b7 c7 d7 e7 h7 k7 q ma o od st v w v2 w2 z s0 s1 s2 s3 tx y0 0 y2 ((fun f : Int32 => if f = 1 then (1 : Int32) else 2) f) y4 y5 y6 y7 y8 y9 y10 y11 y12 y13 out outD) H := hP
    have hD : va_D (fun q => s.heap.size ≤ q) (LW cy g p70 b7 c7 d7 e7 h7 k7 q ma o od st v w v2 w2 z s0 s1 s2 s3 tx y0 0 y2 ((fun f : Int32 => if f = 1 then (1 : Int32) else 2) f) y4 y5 y6 y7 y8 y9 y10 y11 y12 y13 out outD) := hD
    refine lv_istore (lv' := [(7, .int 0), (6, .int ((fun f : Int32 => if f = 1 then (1 : Int32) else 2) f)), (0, .ref b), (1, .ref p70), (2, .ref (ma 0)), (3, .ref o), (4, .ref od), (5, .int i)]) hx hb dL_law_439 hl (by decide) rfl (fun ls hl => ?_)
    refine lv_aload_n hx hb dL_law_441 rfl (lv_at hl 4 rfl) ?_
    refine rd_goi (va_runV (C := RX8) (As := []) (rest := []) S (c_X8_thrown l D cy g s.heap.size ma y0 0 y2 ((fun f : Int32 => if f = 1 then (1 : Int32) else 2) f) y4 y5 y6 y7 y8 y9 y10 y11 y12 y13) (cwV 0 hts gL_law_X8_thrown rfl rfl rfl hd_X8_thrown_V ⟨Nat.le_of_ble_eq_true rfl, Nat.le_of_ble_eq_true rfl⟩) ⟨rdP_blind, va_recv hK0.1 hP (ci := 6) (q0 := 90) rfl rfl, my_preV hK0 hS hAB hP [90, 91, 92, 93, 94, 95, 96, 97] rfl⟩ rfl rfl hl.1 rfl (lv_room (Nat.le_of_ble_eq_true rfl)) dL_law_442 ⟨(show cells + 1 ≤ 601024 by omega), (show slots + 6 ≤ 7293033 by omega)⟩) ?_
    refine lv_iload hx hb dL_law_445 (lv_at hl 1 rfl) ?_
    refine lv_icmp_eq (tgt := 452) hx hb dL_law_447 (by decide) (fun _ => ?_) (fun h9 => absurd (show ((f_X8_thrown ((fun f : Int32 => if f = 1 then (1 : Int32) else 2) f)) : Int32) = ((fun f : Int32 => if f = 1 then (1 : Int32) else 2) f) from rfl) h9)
    refine lv_iload hx hb dL_law_452 (lv_at hl 1 rfl) ?_
    refine lv_if_ne (tgt := 469) hx hb dL_law_454 (by decide) (fun _ => ?_) (fun h9 => absurd h9 hne)
    refine lv_goto (tgt := 1700) hx hb dL_law_469 (by decide) ?_
    refine W.widen (k := cells + 2) (n := slots + 12) (by omega) (by omega) ?_
    exact K H locs ls ⟨st, v, w, v2, w2, z, s0, s1, s2, s3, tx, y0, y2, ((fun f : Int32 => if f = 1 then (1 : Int32) else 2) f), y4, y5, y6, y7, y8, y9, y10, y11, y12, y13, out, outD, hv, hg, hp, hrg, htx, hbl, hP, hD⟩ hS (lv_sub hl [2, 3, 4, 5, 6, 7] rfl)
  · refine lv_aload_n hx hb dL_law_416 rfl (lv_at hl 1 rfl) ?_
    refine lv_aload_n hx hb dL_law_417 rfl (lv_at hl 0 rfl) ?_
    refine lv_iload hx hb dL_law_418 (lv_at hl 5 rfl) ?_
    refine lv_iconst (v := 1) hx hb dL_law_420 (by decide) ?_
    refine lv_iadd hx hb dL_law_421 ?_
    refine va_sld hx hb hX hbl0 hbA hS h1 dL_law_422 ?_
    refine lv_aload_n hx hb dL_law_423 rfl (lv_at hl 3 rfl) ?_
    refine lw_compi (wcs := [(wPCo p70 b7 c7 d7 e7 h7 k7 st), (wSet cy b7 v), (wSav cy q h7 z), (wSet cy (q 0) s0), (wSet cy (q 1) s1), (wSet cy (q 2) s2), (wSet cy (q 3) s3), (wL cy o out)]) (wns := fun u8 => [(wPCo p70 b7 c7 d7 e7 h7 k7 u8.1.1), (wSet cy b7 u8.1.2.1), (wSav cy q h7 u8.1.2.2.1), (wSet cy (q 0) u8.1.2.2.2.1), (wSet cy (q 1) u8.1.2.2.2.2.1), (wSet cy (q 2) u8.1.2.2.2.2.2.1), (wSet cy (q 3) u8.1.2.2.2.2.2.2), (wL cy o u8.2)]) (W2 := fun u8 => (LWL cy g p70 b7 c7 d7 e7 h7 k7 q ma o od u8.1.1 u8.1.2.1 w v2 w2 u8.1.2.2.1 u8.1.2.2.2.1 u8.1.2.2.2.2.1 u8.1.2.2.2.2.2.1 u8.1.2.2.2.2.2.2 tx y0 0 y2 y3 y4 y5 y6 y7 y8 y9 y10 y11 y12 y13 u8.2 outD)) (vx_runSW (As := [.ref p70, .int (xs (i + 1).toNatClampNeg), .ref o]) (rest := []) S (c_L_leave l hl0 D cy g s.heap.size p70 b7 c7 d7 e7 h7 k7 q st v z s0 s1 s2 s3 (xs (i + 1).toNatClampNeg) o out (fun k h => k_leave h)) (vx_cwSW 3 hts gL_law_L_leave rfl rfl rfl hd_L_leave_S ⟨Nat.le_of_ble_eq_true rfl, Nat.le_of_ble_eq_true rfl⟩) ⟨lwP_blind, my_preL (wcs := [(wPCo p70 b7 c7 d7 e7 h7 k7 st), (wSet cy b7 v), (wSav cy q h7 z), (wSet cy (q 0) s0), (wSet cy (q 1) s1), (wSet cy (q 2) s2), (wSet cy (q 3) s3), (wL cy o out)]) hK0 hNc hS hAB hP hD [0, 1, 5, 6, 7, 8, 9, 12] (by decide) rfl rfl⟩ rfl rfl hl.1 rfl (lv_room (Nat.le_of_ble_eq_true rfl)) dL_law_424 ⟨(show cells + 1 ≤ 601024 by omega), (show slots + 6 ≤ 7293033 by omega)⟩) hS hP hD [0, 1, 5, 6, 7, 8, 9, 12] rfl rfl (fun _ => rfl) (fun _ => by simp only [List.map_cons, List.map_nil, adrSet, adrSetE, adrPow, adrPowE, adrTxt, adrTxtE, adrSav, adrSavE, adrPCo, adrMod, adrModE, adrL, adrDb]) (fun _ => rfl) (fun r9 u9 H locs hw hP hD hS => ?_)
    obtain ⟨rfl, rfl⟩ := Prod.mk.inj ((wrI_r e1).symm.trans hw)
    have hP : va_P D vwCl (LW cy g p70 b7 c7 d7 e7 h7 k7 q ma o od 1 u.1 w v2 w2 u.2.1 u.2.2.1 u.2.2.2.1 u.2.2.2.2.1 u.2.2.2.2.2 tx y0 0 y2 y3 y4 y5 y6 y7 y8 y9 y10 y11 y12 y13 (vp_updL out 0 (Int32.toInt64 r)) outD) H := hP
    have hD : va_D (fun q => s.heap.size ≤ q) (LW cy g p70 b7 c7 d7 e7 h7 k7 q ma o od 1 u.1 w v2 w2 u.2.1 u.2.2.1 u.2.2.2.1 u.2.2.2.2.1 u.2.2.2.2.2 tx y0 0 y2 y3 y4 y5 y6 y7 y8 y9 y10 y11 y12 y13 (vp_updL out 0 (Int32.toInt64 r)) outD) := hD
    refine lv_istore (lv' := [(6, .int 0), (0, .ref b), (1, .ref p70), (2, .ref (ma 0)), (3, .ref o), (4, .ref od), (5, .int i)]) hx hb dL_law_427 hl (by decide) rfl (fun ls hl => ?_)
    refine lv_aload_n hx hb dL_law_429 rfl (lv_at hl 3 rfl) ?_
    refine lv_aload_n hx hb dL_law_430 rfl (lv_at hl 1 rfl) ?_
    refine lv_iload hx hb dL_law_431 (lv_at hl 6 rfl) ?_
    refine lv_iconst (v := 1) hx hb dL_law_433 (by decide) ?_
    refine lv_iadd hx hb dL_law_434 ?_
    refine va_sld hx hb hX hbl0 hbA hS h1 dL_law_435 ?_
    refine mu_compi (wcs := [(wModE cy ma y0 0 y2 y3 y4 y5 y6 y7 y8 y9 y10 y11 y12 y13)]) (wns := fun u8 => [(wModE cy ma u8.1 0 y2 u8.2.1 y4 y5 y6 u8.2.2.1 u8.2.2.2 y9 y10 y11 y12 y13)]) (W2 := fun u8 => (LWL cy g p70 b7 c7 d7 e7 h7 k7 q ma o od 1 u.1 w v2 w2 u.2.1 u.2.2.1 u.2.2.2.1 u.2.2.2.2.1 u.2.2.2.2.2 tx u8.1 0 y2 u8.2.1 y4 y5 y6 u8.2.2.1 u8.2.2.2 y9 y10 y11 y12 y13 (vp_updL out 0 (Int32.toInt64 r)) outD)) (va_runV (C := RX8) (As := [.int (xs (i + 1).toNatClampNeg)]) (rest := []) S (c_X8_leave l D cy g s.heap.size ma y0 0 y2 y3 y4 y5 y6 y7 y8 y9 y10 y11 y12 y13 (xs (i + 1).toNatClampNeg) (ringf hrg).1 (ringf hrg).2 (GSf hg).1) (cwV 1 hts gL_law_X8_leave rfl rfl rfl hd_X8_leave_V ⟨Nat.le_of_ble_eq_true rfl, Nat.le_of_ble_eq_true rfl⟩) ⟨muP_blind, va_recv hK0.1 hP (ci := 6) (q0 := 90) rfl rfl, my_preC (wcs := [(wModE cy ma y0 0 y2 y3 y4 y5 y6 y7 y8 y9 y10 y11 y12 y13)]) hK0 hS hAB hP hD [11] (by decide) rfl (List.append_nil _)⟩ rfl rfl hl.1 rfl (lv_room (Nat.le_of_ble_eq_true rfl)) dL_law_436 ⟨(show cells + 1 ≤ 601024 by omega), (show slots + 6 ≤ 7293033 by omega)⟩) hS hP hD [11] rfl (List.append_nil _) (fun _ => List.append_nil _) (fun _ => by simp only [List.map_cons, List.map_nil, adrSet, adrSetE, adrPow, adrPowE, adrTxt, adrTxtE, adrSav, adrSavE, adrPCo, adrMod, adrModE, adrL, adrDb]) (fun _ => rfl) (fun r9 u9 H locs hw hP hD hS => ?_)
    obtain ⟨rfl, rfl⟩ := Prod.mk.inj (e4.symm.trans hw)
    have hP : va_P D vwCl (LW cy g p70 b7 c7 d7 e7 h7 k7 q ma o od 1 u.1 w v2 w2 u.2.1 u.2.2.1 u.2.2.2.1 u.2.2.2.2.1 u.2.2.2.2.2 tx pp.1 0 y2 0 y4 y5 y6 pp.2.1 pp.2.2 y9 y10 y11 y12 y13 (vp_updL out 0 (Int32.toInt64 r)) outD) H := hP
    have hD : va_D (fun q => s.heap.size ≤ q) (LW cy g p70 b7 c7 d7 e7 h7 k7 q ma o od 1 u.1 w v2 w2 u.2.1 u.2.2.1 u.2.2.2.1 u.2.2.2.2.1 u.2.2.2.2.2 tx pp.1 0 y2 0 y4 y5 y6 pp.2.1 pp.2.2 y9 y10 y11 y12 y13 (vp_updL out 0 (Int32.toInt64 r)) outD) := hD
    refine lv_istore (lv' := [(7, .int r), (6, .int 0), (0, .ref b), (1, .ref p70), (2, .ref (ma 0)), (3, .ref o), (4, .ref od), (5, .int i)]) hx hb dL_law_439 hl (by decide) rfl (fun ls hl => ?_)
    refine lv_aload_n hx hb dL_law_441 rfl (lv_at hl 4 rfl) ?_
    refine rd_goi (va_runV (C := RX8) (As := []) (rest := []) S (c_X8_thrown l D cy g s.heap.size ma pp.1 0 y2 0 y4 y5 y6 pp.2.1 pp.2.2 y9 y10 y11 y12 y13) (cwV 0 hts gL_law_X8_thrown rfl rfl rfl hd_X8_thrown_V ⟨Nat.le_of_ble_eq_true rfl, Nat.le_of_ble_eq_true rfl⟩) ⟨rdP_blind, va_recv hK0.1 hP (ci := 6) (q0 := 90) rfl rfl, my_preV hK0 hS hAB hP [90, 91, 92, 93, 94, 95, 96, 97] rfl⟩ rfl rfl hl.1 rfl (lv_room (Nat.le_of_ble_eq_true rfl)) dL_law_442 ⟨(show cells + 1 ≤ 601024 by omega), (show slots + 6 ≤ 7293033 by omega)⟩) ?_
    refine lv_iload hx hb dL_law_445 (lv_at hl 1 rfl) ?_
    refine lv_icmp_eq (tgt := 452) hx hb dL_law_447 (by decide) (fun _ => ?_) (fun h9 => absurd (show ((f_X8_thrown 0) : Int32) = 0 from rfl) h9)
    refine lv_iload hx hb dL_law_452 (lv_at hl 1 rfl) ?_
    refine lv_if_ne (tgt := 469) hx hb dL_law_454 (by decide) (fun h9 => absurd rfl h9) (fun _ => ?_)
    refine lv_aload_n hx hb dL_law_457 rfl (lv_at hl 5 rfl) ?_
    refine lv_iconst (v := 0) hx hb dL_law_458 (by decide) ?_
    refine va_lald hx hb hK0.1 hP 98 3 rfl rfl (i := 0) (show ¬ ((0 : Int32) < 0 ∨ 1 ≤ (0 : Int32).toNatClampNeg) by decide) dL_law_459 ?_
    refine lv_iload hx hb dL_law_460 (lv_at hl 0 rfl) ?_
    refine lv_i2l (v := (Int32.toInt64 r)) hx hb dL_law_462 rfl ?_
    refine W.lcmp hx hb dL_law_463 ?_
    refine lv_if_eq (tgt := 469) hx hb dL_law_464 (by decide) (fun _ => ?_) (fun h9 => absurd ((lg_cmp_eq _ _).mpr rfl) h9)
    refine lv_goto (tgt := 1700) hx hb dL_law_469 (by decide) ?_
    refine W.widen (k := cells + 2) (n := slots + 12) (by omega) (by omega) ?_
    exact K H locs ls ⟨1, u.1, w, v2, w2, u.2.1, u.2.2.1, u.2.2.2.1, u.2.2.2.2.1, u.2.2.2.2.2, tx, pp.1, y2, 0, y4, y5, y6, pp.2.1, pp.2.2, y9, y10, y11, y12, y13, (vp_updL out 0 (Int32.toInt64 r)), outD, e5.1, e5.2.1, pwr_1 _ _, e5.2.2, htx, hbl, hP, hD⟩ hS (lv_sub hl [2, 3, 4, 5, 6, 7] rfl)
set_option maxHeartbeats 4000000 in
set_option maxRecDepth 100000 in
theorem law_addRule (C : LC p l e s m meth c b L xs D cy g) (hc : cells ≤ 590000) (hs : slots ≤ 7000000) (h1 : vp_in (i + 1) L) (h2 : vp_in (i + 2) L) (hI : LInv D cy g p70 b7 c7 d7 e7 h7 k7 q ma o od s.heap.size H) (hS : va_S (fun q => s.heap.size ≤ q) s.heap H locs) (hl : lv_has ls 9 [(0, .ref b), (1, .ref p70), (2, .ref (ma 0)), (3, .ref o), (4, .ref od), (5, .int i)])
    (K : ∀ (H : Heap) (locs : List Loc) (ls : Array Slot), LInv D cy g p70 b7 c7 d7 e7 h7 k7 q ma o od s.heap.size H → va_S (fun q => s.heap.size ≤ q) s.heap H locs → lv_has ls 9 [(0, .ref b), (1, .ref p70), (2, .ref (ma 0)), (3, .ref o), (4, .ref od), (5, .int i)] → W p l e room_1 s m #[Value.ref b] below meth c H locs (cells + 2) (slots + 12) Q (F0 m 1700 ls [])) : W p l e room_1 s m #[Value.ref b] below meth c H locs cells slots Q (F0 m 472 ls []) := by
  obtain ⟨hl0, hx, hb, hr, hml, hown, hts, hX, hbl0, hlocks, hK0, hNc, hL⟩ := C
  obtain ⟨st, v, w, v2, w2, z, s0, s1, s2, s3, tx, y0, y2, y3, y4, y5, y6, y7, y8, y9, y10, y11, y12, y13, out, outD, hv, hg, hp, hrg, htx, hbl, hP, hD⟩ := hI
  have S := my_fix hx hb hml hown hts
  have hAB : ∀ q : Nat, s.heap.size ≤ q → s.heap.size ≤ q := fun _ h => h
  have hbA : ¬ s.heap.size ≤ b := Nat.not_le.mpr hbl0
  rcases O_addRule hv hg hrg st (xs (i + 1).toNatClampNeg) (xs (i + 2).toNatClampNeg) with ⟨f, e1, _, e3, e4⟩ | ⟨r, u, pp, e1, e4, e5⟩
  · have hne : ¬ ((fun f : Int32 => if f = 2 then (1 : Int32) else 2) f) = 0 := pos_ne e3
    have e4 : f_X8_addRule y0 0 y7 y8 (xs (i + 1).toNatClampNeg) (xs (i + 2).toNatClampNeg) = (0, (y0, ((fun f : Int32 => if f = 2 then (1 : Int32) else 2) f), y7, y8)) := e4
    refine lv_aload_n hx hb dL_law_472 rfl (lv_at hl 1 rfl) ?_
    refine lv_aload_n hx hb dL_law_473 rfl (lv_at hl 0 rfl) ?_
    refine lv_iload hx hb dL_law_474 (lv_at hl 5 rfl) ?_
    refine lv_iconst (v := 1) hx hb dL_law_476 (by decide) ?_
    refine lv_iadd hx hb dL_law_477 ?_
    refine va_sld hx hb hX hbl0 hbA hS h1 dL_law_478 ?_
    refine lv_aload_n hx hb dL_law_479 rfl (lv_at hl 0 rfl) ?_
    refine lv_iload hx hb dL_law_480 (lv_at hl 5 rfl) ?_
    refine lv_iconst (v := 2) hx hb dL_law_482 (by decide) ?_
    refine lv_iadd hx hb dL_law_483 ?_
    refine va_sld hx hb hX hbl0 hbA hS h2 dL_law_484 ?_
    refine lv_aload_n hx hb dL_law_485 rfl (lv_at hl 3 rfl) ?_
    refine lw_compi (wcs := [(wPCo p70 b7 c7 d7 e7 h7 k7 st), (wSet cy b7 v), (wSav cy q h7 z), (wSet cy (q 0) s0), (wSet cy (q 1) s1), (wSet cy (q 2) s2), (wSet cy (q 3) s3), (wL cy o out)]) (wns := fun u8 => [(wPCo p70 b7 c7 d7 e7 h7 k7 u8.1.1), (wSet cy b7 u8.1.2.1), (wSav cy q h7 u8.1.2.2.1), (wSet cy (q 0) u8.1.2.2.2.1), (wSet cy (q 1) u8.1.2.2.2.2.1), (wSet cy (q 2) u8.1.2.2.2.2.2.1), (wSet cy (q 3) u8.1.2.2.2.2.2.2), (wL cy o u8.2)]) (W2 := fun u8 => (LWL cy g p70 b7 c7 d7 e7 h7 k7 q ma o od u8.1.1 u8.1.2.1 w v2 w2 u8.1.2.2.1 u8.1.2.2.2.1 u8.1.2.2.2.2.1 u8.1.2.2.2.2.2.1 u8.1.2.2.2.2.2.2 tx y0 0 y2 y3 y4 y5 y6 y7 y8 y9 y10 y11 y12 y13 u8.2 outD)) (vx_runSW (As := [.ref p70, .int (xs (i + 1).toNatClampNeg), .int (xs (i + 2).toNatClampNeg), .ref o]) (rest := []) S (c_L_addRule l hl0 D cy g s.heap.size p70 b7 c7 d7 e7 h7 k7 q st v z s0 s1 s2 s3 (xs (i + 1).toNatClampNeg) (xs (i + 2).toNatClampNeg) o out (fun k h => k_addRule h)) (vx_cwSW 4 hts gL_law_L_addRule rfl rfl rfl hd_L_addRule_S ⟨Nat.le_of_ble_eq_true rfl, Nat.le_of_ble_eq_true rfl⟩) ⟨lwP_blind, my_preL (wcs := [(wPCo p70 b7 c7 d7 e7 h7 k7 st), (wSet cy b7 v), (wSav cy q h7 z), (wSet cy (q 0) s0), (wSet cy (q 1) s1), (wSet cy (q 2) s2), (wSet cy (q 3) s3), (wL cy o out)]) hK0 hNc hS hAB hP hD [0, 1, 5, 6, 7, 8, 9, 12] (by decide) rfl rfl⟩ rfl rfl hl.1 rfl (lv_room (Nat.le_of_ble_eq_true rfl)) dL_law_486 ⟨(show cells + 1 ≤ 601024 by omega), (show slots + 6 ≤ 7293033 by omega)⟩) hS hP hD [0, 1, 5, 6, 7, 8, 9, 12] rfl rfl (fun _ => rfl) (fun _ => by simp only [List.map_cons, List.map_nil, adrSet, adrSetE, adrPow, adrPowE, adrTxt, adrTxtE, adrSav, adrSavE, adrPCo, adrMod, adrModE, adrL, adrDb]) (fun _ => rfl) (fun r9 u9 H locs hw hP hD hS => ?_)
    obtain ⟨rfl, rfl⟩ := Prod.mk.inj ((wrI_l e1).symm.trans hw)
    have hP : va_P D vwCl (LW cy g p70 b7 c7 d7 e7 h7 k7 q ma o od st v w v2 w2 z s0 s1 s2 s3 tx y0 0 y2 y3 y4 y5 y6 y7 y8 y9 y10 y11 y12 y13 out outD) H := hP
    have hD : va_D (fun q => s.heap.size ≤ q) (LW cy g p70 b7 c7 d7 e7 h7 k7 q ma o od st v w v2 w2 z s0 s1 s2 s3 tx y0 0 y2 y3 y4 y5 y6 y7 y8 y9 y10 y11 y12 y13 out outD) := hD
    refine lv_istore (lv' := [(6, .int ((fun f : Int32 => if f = 2 then (1 : Int32) else 2) f)), (0, .ref b), (1, .ref p70), (2, .ref (ma 0)), (3, .ref o), (4, .ref od), (5, .int i)]) hx hb dL_law_489 hl (by decide) rfl (fun ls hl => ?_)
    refine lv_aload_n hx hb dL_law_491 rfl (lv_at hl 3 rfl) ?_
    refine lv_aload_n hx hb dL_law_492 rfl (lv_at hl 1 rfl) ?_
    refine lv_iload hx hb dL_law_493 (lv_at hl 6 rfl) ?_
    refine lv_iconst (v := 1) hx hb dL_law_495 (by decide) ?_
    refine lv_iadd hx hb dL_law_496 ?_
    refine va_sld hx hb hX hbl0 hbA hS h1 dL_law_497 ?_
    refine lv_aload_n hx hb dL_law_498 rfl (lv_at hl 1 rfl) ?_
    refine lv_iload hx hb dL_law_499 (lv_at hl 6 rfl) ?_
    refine lv_iconst (v := 2) hx hb dL_law_501 (by decide) ?_
    refine lv_iadd hx hb dL_law_502 ?_
    refine va_sld hx hb hX hbl0 hbA hS h2 dL_law_503 ?_
    refine mu_compi (wcs := [(wModE cy ma y0 0 y2 y3 y4 y5 y6 y7 y8 y9 y10 y11 y12 y13)]) (wns := fun u8 => [(wModE cy ma u8.1 0 y2 u8.2.1 y4 y5 y6 u8.2.2.1 u8.2.2.2 y9 y10 y11 y12 y13)]) (W2 := fun u8 => (LWL cy g p70 b7 c7 d7 e7 h7 k7 q ma o od st v w v2 w2 z s0 s1 s2 s3 tx u8.1 0 y2 u8.2.1 y4 y5 y6 u8.2.2.1 u8.2.2.2 y9 y10 y11 y12 y13 out outD)) (va_runV (C := RX8) (As := [.int (xs (i + 1).toNatClampNeg), .int (xs (i + 2).toNatClampNeg)]) (rest := []) S (c_X8_addRule l D cy g s.heap.size ma y0 0 y2 y3 y4 y5 y6 y7 y8 y9 y10 y11 y12 y13 (xs (i + 1).toNatClampNeg) (xs (i + 2).toNatClampNeg) (ringf hrg).1 (ringf hrg).2 (GSf hg).2.2.1 (GSf hg).2.2.2) (cwV 2 hts gL_law_X8_addRule rfl rfl rfl hd_X8_addRule_V ⟨Nat.le_of_ble_eq_true rfl, Nat.le_of_ble_eq_true rfl⟩) ⟨muP_blind, va_recv hK0.1 hP (ci := 6) (q0 := 90) rfl rfl, my_preC (wcs := [(wModE cy ma y0 0 y2 y3 y4 y5 y6 y7 y8 y9 y10 y11 y12 y13)]) hK0 hS hAB hP hD [11] (by decide) rfl (List.append_nil _)⟩ rfl rfl hl.1 rfl (lv_room (Nat.le_of_ble_eq_true rfl)) dL_law_504 ⟨(show cells + 1 ≤ 601024 by omega), (show slots + 6 ≤ 7293033 by omega)⟩) hS hP hD [11] rfl (List.append_nil _) (fun _ => List.append_nil _) (fun _ => by simp only [List.map_cons, List.map_nil, adrSet, adrSetE, adrPow, adrPowE, adrTxt, adrTxtE, adrSav, adrSavE, adrPCo, adrMod, adrModE, adrL, adrDb]) (fun _ => rfl) (fun r9 u9 H locs hw hP hD hS => ?_)
    obtain ⟨rfl, rfl⟩ := Prod.mk.inj (e4.symm.trans hw)
    have hP : va_P D vwCl (LW cy g p70 b7 c7 d7 e7 h7 k7 q ma o od st v w v2 w2 z s0 s1 s2 s3 tx y0 0 y2 ((fun f : Int32 => if f = 2 then (1 : Int32) else 2) f) y4 y5 y6 y7 y8 y9 y10 y11 y12 y13 out outD) H := hP
    have hD : va_D (fun q => s.heap.size ≤ q) (LW cy g p70 b7 c7 d7 e7 h7 k7 q ma o od st v w v2 w2 z s0 s1 s2 s3 tx y0 0 y2 ((fun f : Int32 => if f = 2 then (1 : Int32) else 2) f) y4 y5 y6 y7 y8 y9 y10 y11 y12 y13 out outD) := hD
    refine lv_istore (lv' := [(7, .int 0), (6, .int ((fun f : Int32 => if f = 2 then (1 : Int32) else 2) f)), (0, .ref b), (1, .ref p70), (2, .ref (ma 0)), (3, .ref o), (4, .ref od), (5, .int i)]) hx hb dL_law_507 hl (by decide) rfl (fun ls hl => ?_)
    refine lv_aload_n hx hb dL_law_509 rfl (lv_at hl 4 rfl) ?_
    refine rd_goi (va_runV (C := RX8) (As := []) (rest := []) S (c_X8_thrown l D cy g s.heap.size ma y0 0 y2 ((fun f : Int32 => if f = 2 then (1 : Int32) else 2) f) y4 y5 y6 y7 y8 y9 y10 y11 y12 y13) (cwV 0 hts gL_law_X8_thrown rfl rfl rfl hd_X8_thrown_V ⟨Nat.le_of_ble_eq_true rfl, Nat.le_of_ble_eq_true rfl⟩) ⟨rdP_blind, va_recv hK0.1 hP (ci := 6) (q0 := 90) rfl rfl, my_preV hK0 hS hAB hP [90, 91, 92, 93, 94, 95, 96, 97] rfl⟩ rfl rfl hl.1 rfl (lv_room (Nat.le_of_ble_eq_true rfl)) dL_law_510 ⟨(show cells + 1 ≤ 601024 by omega), (show slots + 6 ≤ 7293033 by omega)⟩) ?_
    refine lv_iload hx hb dL_law_513 (lv_at hl 1 rfl) ?_
    refine lv_icmp_eq (tgt := 520) hx hb dL_law_515 (by decide) (fun _ => ?_) (fun h9 => absurd (show ((f_X8_thrown ((fun f : Int32 => if f = 2 then (1 : Int32) else 2) f)) : Int32) = ((fun f : Int32 => if f = 2 then (1 : Int32) else 2) f) from rfl) h9)
    refine lv_iload hx hb dL_law_520 (lv_at hl 1 rfl) ?_
    refine lv_if_ne (tgt := 537) hx hb dL_law_522 (by decide) (fun _ => ?_) (fun h9 => absurd h9 hne)
    refine lv_goto (tgt := 1700) hx hb dL_law_537 (by decide) ?_
    refine W.widen (k := cells + 2) (n := slots + 12) (by omega) (by omega) ?_
    exact K H locs ls ⟨st, v, w, v2, w2, z, s0, s1, s2, s3, tx, y0, y2, ((fun f : Int32 => if f = 2 then (1 : Int32) else 2) f), y4, y5, y6, y7, y8, y9, y10, y11, y12, y13, out, outD, hv, hg, hp, hrg, htx, hbl, hP, hD⟩ hS (lv_sub hl [2, 3, 4, 5, 6, 7] rfl)
  · refine lv_aload_n hx hb dL_law_472 rfl (lv_at hl 1 rfl) ?_
    refine lv_aload_n hx hb dL_law_473 rfl (lv_at hl 0 rfl) ?_
    refine lv_iload hx hb dL_law_474 (lv_at hl 5 rfl) ?_
    refine lv_iconst (v := 1) hx hb dL_law_476 (by decide) ?_
    refine lv_iadd hx hb dL_law_477 ?_
    refine va_sld hx hb hX hbl0 hbA hS h1 dL_law_478 ?_
    refine lv_aload_n hx hb dL_law_479 rfl (lv_at hl 0 rfl) ?_
    refine lv_iload hx hb dL_law_480 (lv_at hl 5 rfl) ?_
    refine lv_iconst (v := 2) hx hb dL_law_482 (by decide) ?_
    refine lv_iadd hx hb dL_law_483 ?_
    refine va_sld hx hb hX hbl0 hbA hS h2 dL_law_484 ?_
    refine lv_aload_n hx hb dL_law_485 rfl (lv_at hl 3 rfl) ?_
    refine lw_compi (wcs := [(wPCo p70 b7 c7 d7 e7 h7 k7 st), (wSet cy b7 v), (wSav cy q h7 z), (wSet cy (q 0) s0), (wSet cy (q 1) s1), (wSet cy (q 2) s2), (wSet cy (q 3) s3), (wL cy o out)]) (wns := fun u8 => [(wPCo p70 b7 c7 d7 e7 h7 k7 u8.1.1), (wSet cy b7 u8.1.2.1), (wSav cy q h7 u8.1.2.2.1), (wSet cy (q 0) u8.1.2.2.2.1), (wSet cy (q 1) u8.1.2.2.2.2.1), (wSet cy (q 2) u8.1.2.2.2.2.2.1), (wSet cy (q 3) u8.1.2.2.2.2.2.2), (wL cy o u8.2)]) (W2 := fun u8 => (LWL cy g p70 b7 c7 d7 e7 h7 k7 q ma o od u8.1.1 u8.1.2.1 w v2 w2 u8.1.2.2.1 u8.1.2.2.2.1 u8.1.2.2.2.2.1 u8.1.2.2.2.2.2.1 u8.1.2.2.2.2.2.2 tx y0 0 y2 y3 y4 y5 y6 y7 y8 y9 y10 y11 y12 y13 u8.2 outD)) (vx_runSW (As := [.ref p70, .int (xs (i + 1).toNatClampNeg), .int (xs (i + 2).toNatClampNeg), .ref o]) (rest := []) S (c_L_addRule l hl0 D cy g s.heap.size p70 b7 c7 d7 e7 h7 k7 q st v z s0 s1 s2 s3 (xs (i + 1).toNatClampNeg) (xs (i + 2).toNatClampNeg) o out (fun k h => k_addRule h)) (vx_cwSW 4 hts gL_law_L_addRule rfl rfl rfl hd_L_addRule_S ⟨Nat.le_of_ble_eq_true rfl, Nat.le_of_ble_eq_true rfl⟩) ⟨lwP_blind, my_preL (wcs := [(wPCo p70 b7 c7 d7 e7 h7 k7 st), (wSet cy b7 v), (wSav cy q h7 z), (wSet cy (q 0) s0), (wSet cy (q 1) s1), (wSet cy (q 2) s2), (wSet cy (q 3) s3), (wL cy o out)]) hK0 hNc hS hAB hP hD [0, 1, 5, 6, 7, 8, 9, 12] (by decide) rfl rfl⟩ rfl rfl hl.1 rfl (lv_room (Nat.le_of_ble_eq_true rfl)) dL_law_486 ⟨(show cells + 1 ≤ 601024 by omega), (show slots + 6 ≤ 7293033 by omega)⟩) hS hP hD [0, 1, 5, 6, 7, 8, 9, 12] rfl rfl (fun _ => rfl) (fun _ => by simp only [List.map_cons, List.map_nil, adrSet, adrSetE, adrPow, adrPowE, adrTxt, adrTxtE, adrSav, adrSavE, adrPCo, adrMod, adrModE, adrL, adrDb]) (fun _ => rfl) (fun r9 u9 H locs hw hP hD hS => ?_)
    obtain ⟨rfl, rfl⟩ := Prod.mk.inj ((wrI_r e1).symm.trans hw)
    have hP : va_P D vwCl (LW cy g p70 b7 c7 d7 e7 h7 k7 q ma o od 1 u.1 w v2 w2 u.2.1 u.2.2.1 u.2.2.2.1 u.2.2.2.2.1 u.2.2.2.2.2 tx y0 0 y2 y3 y4 y5 y6 y7 y8 y9 y10 y11 y12 y13 (vp_updL out 0 (Int32.toInt64 r)) outD) H := hP
    have hD : va_D (fun q => s.heap.size ≤ q) (LW cy g p70 b7 c7 d7 e7 h7 k7 q ma o od 1 u.1 w v2 w2 u.2.1 u.2.2.1 u.2.2.2.1 u.2.2.2.2.1 u.2.2.2.2.2 tx y0 0 y2 y3 y4 y5 y6 y7 y8 y9 y10 y11 y12 y13 (vp_updL out 0 (Int32.toInt64 r)) outD) := hD
    refine lv_istore (lv' := [(6, .int 0), (0, .ref b), (1, .ref p70), (2, .ref (ma 0)), (3, .ref o), (4, .ref od), (5, .int i)]) hx hb dL_law_489 hl (by decide) rfl (fun ls hl => ?_)
    refine lv_aload_n hx hb dL_law_491 rfl (lv_at hl 3 rfl) ?_
    refine lv_aload_n hx hb dL_law_492 rfl (lv_at hl 1 rfl) ?_
    refine lv_iload hx hb dL_law_493 (lv_at hl 6 rfl) ?_
    refine lv_iconst (v := 1) hx hb dL_law_495 (by decide) ?_
    refine lv_iadd hx hb dL_law_496 ?_
    refine va_sld hx hb hX hbl0 hbA hS h1 dL_law_497 ?_
    refine lv_aload_n hx hb dL_law_498 rfl (lv_at hl 1 rfl) ?_
    refine lv_iload hx hb dL_law_499 (lv_at hl 6 rfl) ?_
    refine lv_iconst (v := 2) hx hb dL_law_501 (by decide) ?_
    refine lv_iadd hx hb dL_law_502 ?_
    refine va_sld hx hb hX hbl0 hbA hS h2 dL_law_503 ?_
    refine mu_compi (wcs := [(wModE cy ma y0 0 y2 y3 y4 y5 y6 y7 y8 y9 y10 y11 y12 y13)]) (wns := fun u8 => [(wModE cy ma u8.1 0 y2 u8.2.1 y4 y5 y6 u8.2.2.1 u8.2.2.2 y9 y10 y11 y12 y13)]) (W2 := fun u8 => (LWL cy g p70 b7 c7 d7 e7 h7 k7 q ma o od 1 u.1 w v2 w2 u.2.1 u.2.2.1 u.2.2.2.1 u.2.2.2.2.1 u.2.2.2.2.2 tx u8.1 0 y2 u8.2.1 y4 y5 y6 u8.2.2.1 u8.2.2.2 y9 y10 y11 y12 y13 (vp_updL out 0 (Int32.toInt64 r)) outD)) (va_runV (C := RX8) (As := [.int (xs (i + 1).toNatClampNeg), .int (xs (i + 2).toNatClampNeg)]) (rest := []) S (c_X8_addRule l D cy g s.heap.size ma y0 0 y2 y3 y4 y5 y6 y7 y8 y9 y10 y11 y12 y13 (xs (i + 1).toNatClampNeg) (xs (i + 2).toNatClampNeg) (ringf hrg).1 (ringf hrg).2 (GSf hg).2.2.1 (GSf hg).2.2.2) (cwV 2 hts gL_law_X8_addRule rfl rfl rfl hd_X8_addRule_V ⟨Nat.le_of_ble_eq_true rfl, Nat.le_of_ble_eq_true rfl⟩) ⟨muP_blind, va_recv hK0.1 hP (ci := 6) (q0 := 90) rfl rfl, my_preC (wcs := [(wModE cy ma y0 0 y2 y3 y4 y5 y6 y7 y8 y9 y10 y11 y12 y13)]) hK0 hS hAB hP hD [11] (by decide) rfl (List.append_nil _)⟩ rfl rfl hl.1 rfl (lv_room (Nat.le_of_ble_eq_true rfl)) dL_law_504 ⟨(show cells + 1 ≤ 601024 by omega), (show slots + 6 ≤ 7293033 by omega)⟩) hS hP hD [11] rfl (List.append_nil _) (fun _ => List.append_nil _) (fun _ => by simp only [List.map_cons, List.map_nil, adrSet, adrSetE, adrPow, adrPowE, adrTxt, adrTxtE, adrSav, adrSavE, adrPCo, adrMod, adrModE, adrL, adrDb]) (fun _ => rfl) (fun r9 u9 H locs hw hP hD hS => ?_)
    obtain ⟨rfl, rfl⟩ := Prod.mk.inj (e4.symm.trans hw)
    have hP : va_P D vwCl (LW cy g p70 b7 c7 d7 e7 h7 k7 q ma o od 1 u.1 w v2 w2 u.2.1 u.2.2.1 u.2.2.2.1 u.2.2.2.2.1 u.2.2.2.2.2 tx pp.1 0 y2 0 y4 y5 y6 pp.2.1 pp.2.2 y9 y10 y11 y12 y13 (vp_updL out 0 (Int32.toInt64 r)) outD) H := hP
    have hD : va_D (fun q => s.heap.size ≤ q) (LW cy g p70 b7 c7 d7 e7 h7 k7 q ma o od 1 u.1 w v2 w2 u.2.1 u.2.2.1 u.2.2.2.1 u.2.2.2.2.1 u.2.2.2.2.2 tx pp.1 0 y2 0 y4 y5 y6 pp.2.1 pp.2.2 y9 y10 y11 y12 y13 (vp_updL out 0 (Int32.toInt64 r)) outD) := hD
    refine lv_istore (lv' := [(7, .int r), (6, .int 0), (0, .ref b), (1, .ref p70), (2, .ref (ma 0)), (3, .ref o), (4, .ref od), (5, .int i)]) hx hb dL_law_507 hl (by decide) rfl (fun ls hl => ?_)
    refine lv_aload_n hx hb dL_law_509 rfl (lv_at hl 4 rfl) ?_
    refine rd_goi (va_runV (C := RX8) (As := []) (rest := []) S (c_X8_thrown l D cy g s.heap.size ma pp.1 0 y2 0 y4 y5 y6 pp.2.1 pp.2.2 y9 y10 y11 y12 y13) (cwV 0 hts gL_law_X8_thrown rfl rfl rfl hd_X8_thrown_V ⟨Nat.le_of_ble_eq_true rfl, Nat.le_of_ble_eq_true rfl⟩) ⟨rdP_blind, va_recv hK0.1 hP (ci := 6) (q0 := 90) rfl rfl, my_preV hK0 hS hAB hP [90, 91, 92, 93, 94, 95, 96, 97] rfl⟩ rfl rfl hl.1 rfl (lv_room (Nat.le_of_ble_eq_true rfl)) dL_law_510 ⟨(show cells + 1 ≤ 601024 by omega), (show slots + 6 ≤ 7293033 by omega)⟩) ?_
    refine lv_iload hx hb dL_law_513 (lv_at hl 1 rfl) ?_
    refine lv_icmp_eq (tgt := 520) hx hb dL_law_515 (by decide) (fun _ => ?_) (fun h9 => absurd (show ((f_X8_thrown 0) : Int32) = 0 from rfl) h9)
    refine lv_iload hx hb dL_law_520 (lv_at hl 1 rfl) ?_
    refine lv_if_ne (tgt := 537) hx hb dL_law_522 (by decide) (fun h9 => absurd rfl h9) (fun _ => ?_)
    refine lv_aload_n hx hb dL_law_525 rfl (lv_at hl 5 rfl) ?_
    refine lv_iconst (v := 0) hx hb dL_law_526 (by decide) ?_
    refine va_lald hx hb hK0.1 hP 98 3 rfl rfl (i := 0) (show ¬ ((0 : Int32) < 0 ∨ 1 ≤ (0 : Int32).toNatClampNeg) by decide) dL_law_527 ?_
    refine lv_iload hx hb dL_law_528 (lv_at hl 0 rfl) ?_
    refine lv_i2l (v := (Int32.toInt64 r)) hx hb dL_law_530 rfl ?_
    refine W.lcmp hx hb dL_law_531 ?_
    refine lv_if_eq (tgt := 537) hx hb dL_law_532 (by decide) (fun _ => ?_) (fun h9 => absurd ((lg_cmp_eq _ _).mpr rfl) h9)
    refine lv_goto (tgt := 1700) hx hb dL_law_537 (by decide) ?_
    refine W.widen (k := cells + 2) (n := slots + 12) (by omega) (by omega) ?_
    exact K H locs ls ⟨1, u.1, w, v2, w2, u.2.1, u.2.2.1, u.2.2.2.1, u.2.2.2.2.1, u.2.2.2.2.2, tx, pp.1, y2, 0, y4, y5, y6, pp.2.1, pp.2.2, y9, y10, y11, y12, y13, (vp_updL out 0 (Int32.toInt64 r)), outD, e5.1, e5.2.1, pwr_1 _ _, e5.2.2, htx, hbl, hP, hD⟩ hS (lv_sub hl [2, 3, 4, 5, 6, 7] rfl)
set_option maxHeartbeats 4000000 in
set_option maxRecDepth 100000 in
theorem law_dropRule (C : LC p l e s m meth c b L xs D cy g) (hc : cells ≤ 590000) (hs : slots ≤ 7000000) (h1 : vp_in (i + 1) L) (h2 : vp_in (i + 2) L) (hI : LInv D cy g p70 b7 c7 d7 e7 h7 k7 q ma o od s.heap.size H) (hS : va_S (fun q => s.heap.size ≤ q) s.heap H locs) (hl : lv_has ls 9 [(0, .ref b), (1, .ref p70), (2, .ref (ma 0)), (3, .ref o), (4, .ref od), (5, .int i)])
    (K : ∀ (H : Heap) (locs : List Loc) (ls : Array Slot), LInv D cy g p70 b7 c7 d7 e7 h7 k7 q ma o od s.heap.size H → va_S (fun q => s.heap.size ≤ q) s.heap H locs → lv_has ls 9 [(0, .ref b), (1, .ref p70), (2, .ref (ma 0)), (3, .ref o), (4, .ref od), (5, .int i)] → W p l e room_1 s m #[Value.ref b] below meth c H locs (cells + 2) (slots + 12) Q (F0 m 1700 ls [])) : W p l e room_1 s m #[Value.ref b] below meth c H locs cells slots Q (F0 m 540 ls []) := by
  obtain ⟨hl0, hx, hb, hr, hml, hown, hts, hX, hbl0, hlocks, hK0, hNc, hL⟩ := C
  obtain ⟨st, v, w, v2, w2, z, s0, s1, s2, s3, tx, y0, y2, y3, y4, y5, y6, y7, y8, y9, y10, y11, y12, y13, out, outD, hv, hg, hp, hrg, htx, hbl, hP, hD⟩ := hI
  have S := my_fix hx hb hml hown hts
  have hAB : ∀ q : Nat, s.heap.size ≤ q → s.heap.size ≤ q := fun _ h => h
  have hbA : ¬ s.heap.size ≤ b := Nat.not_le.mpr hbl0
  rcases O_dropRule hv hg hrg st (xs (i + 1).toNatClampNeg) with ⟨f, e1, _, e3, e4⟩ | ⟨r, u, pp, e1, e4, e5⟩
  · have hne : ¬ ((fun _ : Int32 => (1 : Int32)) f) = 0 := pos_ne e3
    have e4 : f_X8_dropRule y0 0 y7 y8 (xs (i + 1).toNatClampNeg) = (0, (y0, ((fun _ : Int32 => (1 : Int32)) f), y7, y8)) := e4
    refine lv_aload_n hx hb dL_law_540 rfl (lv_at hl 1 rfl) ?_
    refine lv_aload_n hx hb dL_law_541 rfl (lv_at hl 0 rfl) ?_
    refine lv_iload hx hb dL_law_542 (lv_at hl 5 rfl) ?_
    refine lv_iconst (v := 1) hx hb dL_law_544 (by decide) ?_
    refine lv_iadd hx hb dL_law_545 ?_
    refine va_sld hx hb hX hbl0 hbA hS h1 dL_law_546 ?_
    refine lv_aload_n hx hb dL_law_547 rfl (lv_at hl 3 rfl) ?_
    refine lw_compi (wcs := [(wPCo p70 b7 c7 d7 e7 h7 k7 st), (wSet cy b7 v), (wSav cy q h7 z), (wSet cy (q 0) s0), (wSet cy (q 1) s1), (wSet cy (q 2) s2), (wSet cy (q 3) s3), (wL cy o out)]) (wns := fun u8 => [(wPCo p70 b7 c7 d7 e7 h7 k7 u8.1.1), (wSet cy b7 u8.1.2.1), (wSav cy q h7 u8.1.2.2.1), (wSet cy (q 0) u8.1.2.2.2.1), (wSet cy (q 1) u8.1.2.2.2.2.1), (wSet cy (q 2) u8.1.2.2.2.2.2.1), (wSet cy (q 3) u8.1.2.2.2.2.2.2), (wL cy o u8.2)]) (W2 := fun u8 => (LWL cy g p70 b7 c7 d7 e7 h7 k7 q ma o od u8.1.1 u8.1.2.1 w v2 w2 u8.1.2.2.1 u8.1.2.2.2.1 u8.1.2.2.2.2.1 u8.1.2.2.2.2.2.1 u8.1.2.2.2.2.2.2 tx y0 0 y2 y3 y4 y5 y6 y7 y8 y9 y10 y11 y12 y13 u8.2 outD)) (vx_runSW (As := [.ref p70, .int (xs (i + 1).toNatClampNeg), .ref o]) (rest := []) S (c_L_dropRule l hl0 D cy g s.heap.size p70 b7 c7 d7 e7 h7 k7 q st v z s0 s1 s2 s3 (xs (i + 1).toNatClampNeg) o out (fun k h => k_dropRule h)) (vx_cwSW 3 hts gL_law_L_dropRule rfl rfl rfl hd_L_dropRule_S ⟨Nat.le_of_ble_eq_true rfl, Nat.le_of_ble_eq_true rfl⟩) ⟨lwP_blind, my_preL (wcs := [(wPCo p70 b7 c7 d7 e7 h7 k7 st), (wSet cy b7 v), (wSav cy q h7 z), (wSet cy (q 0) s0), (wSet cy (q 1) s1), (wSet cy (q 2) s2), (wSet cy (q 3) s3), (wL cy o out)]) hK0 hNc hS hAB hP hD [0, 1, 5, 6, 7, 8, 9, 12] (by decide) rfl rfl⟩ rfl rfl hl.1 rfl (lv_room (Nat.le_of_ble_eq_true rfl)) dL_law_548 ⟨(show cells + 1 ≤ 601024 by omega), (show slots + 6 ≤ 7293033 by omega)⟩) hS hP hD [0, 1, 5, 6, 7, 8, 9, 12] rfl rfl (fun _ => rfl) (fun _ => by simp only [List.map_cons, List.map_nil, adrSet, adrSetE, adrPow, adrPowE, adrTxt, adrTxtE, adrSav, adrSavE, adrPCo, adrMod, adrModE, adrL, adrDb]) (fun _ => rfl) (fun r9 u9 H locs hw hP hD hS => ?_)
    obtain ⟨rfl, rfl⟩ := Prod.mk.inj ((wrI_l e1).symm.trans hw)
    have hP : va_P D vwCl (LW cy g p70 b7 c7 d7 e7 h7 k7 q ma o od st v w v2 w2 z s0 s1 s2 s3 tx y0 0 y2 y3 y4 y5 y6 y7 y8 y9 y10 y11 y12 y13 out outD) H := hP
    have hD : va_D (fun q => s.heap.size ≤ q) (LW cy g p70 b7 c7 d7 e7 h7 k7 q ma o od st v w v2 w2 z s0 s1 s2 s3 tx y0 0 y2 y3 y4 y5 y6 y7 y8 y9 y10 y11 y12 y13 out outD) := hD
    refine lv_istore (lv' := [(6, .int ((fun _ : Int32 => (1 : Int32)) f)), (0, .ref b), (1, .ref p70), (2, .ref (ma 0)), (3, .ref o), (4, .ref od), (5, .int i)]) hx hb dL_law_551 hl (by decide) rfl (fun ls hl => ?_)
    refine lv_aload_n hx hb dL_law_553 rfl (lv_at hl 3 rfl) ?_
    refine lv_aload_n hx hb dL_law_554 rfl (lv_at hl 1 rfl) ?_
    refine lv_iload hx hb dL_law_555 (lv_at hl 6 rfl) ?_
    refine lv_iconst (v := 1) hx hb dL_law_557 (by decide) ?_
    refine lv_iadd hx hb dL_law_558 ?_
    refine va_sld hx hb hX hbl0 hbA hS h1 dL_law_559 ?_
    refine mu_compi (wcs := [(wModE cy ma y0 0 y2 y3 y4 y5 y6 y7 y8 y9 y10 y11 y12 y13)]) (wns := fun u8 => [(wModE cy ma u8.1 0 y2 u8.2.1 y4 y5 y6 u8.2.2.1 u8.2.2.2 y9 y10 y11 y12 y13)]) (W2 := fun u8 => (LWL cy g p70 b7 c7 d7 e7 h7 k7 q ma o od st v w v2 w2 z s0 s1 s2 s3 tx u8.1 0 y2 u8.2.1 y4 y5 y6 u8.2.2.1 u8.2.2.2 y9 y10 y11 y12 y13 out outD)) (va_runV (C := RX8) (As := [.int (xs (i + 1).toNatClampNeg)]) (rest := []) S (c_X8_dropRule l D cy g s.heap.size ma y0 0 y2 y3 y4 y5 y6 y7 y8 y9 y10 y11 y12 y13 (xs (i + 1).toNatClampNeg) (ringf hrg).1 (ringf hrg).2 (GSf hg).2.2.1) (cwV 1 hts gL_law_X8_dropRule rfl rfl rfl hd_X8_dropRule_V ⟨Nat.le_of_ble_eq_true rfl, Nat.le_of_ble_eq_true rfl⟩) ⟨muP_blind, va_recv hK0.1 hP (ci := 6) (q0 := 90) rfl rfl, my_preC (wcs := [(wModE cy ma y0 0 y2 y3 y4 y5 y6 y7 y8 y9 y10 y11 y12 y13)]) hK0 hS hAB hP hD [11] (by decide) rfl (List.append_nil _)⟩ rfl rfl hl.1 rfl (lv_room (Nat.le_of_ble_eq_true rfl)) dL_law_560 ⟨(show cells + 1 ≤ 601024 by omega), (show slots + 6 ≤ 7293033 by omega)⟩) hS hP hD [11] rfl (List.append_nil _) (fun _ => List.append_nil _) (fun _ => by simp only [List.map_cons, List.map_nil, adrSet, adrSetE, adrPow, adrPowE, adrTxt, adrTxtE, adrSav, adrSavE, adrPCo, adrMod, adrModE, adrL, adrDb]) (fun _ => rfl) (fun r9 u9 H locs hw hP hD hS => ?_)
    obtain ⟨rfl, rfl⟩ := Prod.mk.inj (e4.symm.trans hw)
    have hP : va_P D vwCl (LW cy g p70 b7 c7 d7 e7 h7 k7 q ma o od st v w v2 w2 z s0 s1 s2 s3 tx y0 0 y2 ((fun _ : Int32 => (1 : Int32)) f) y4 y5 y6 y7 y8 y9 y10 y11 y12 y13 out outD) H := hP
    have hD : va_D (fun q => s.heap.size ≤ q) (LW cy g p70 b7 c7 d7 e7 h7 k7 q ma o od st v w v2 w2 z s0 s1 s2 s3 tx y0 0 y2 ((fun _ : Int32 => (1 : Int32)) f) y4 y5 y6 y7 y8 y9 y10 y11 y12 y13 out outD) := hD
    refine lv_istore (lv' := [(7, .int 0), (6, .int ((fun _ : Int32 => (1 : Int32)) f)), (0, .ref b), (1, .ref p70), (2, .ref (ma 0)), (3, .ref o), (4, .ref od), (5, .int i)]) hx hb dL_law_563 hl (by decide) rfl (fun ls hl => ?_)
    refine lv_aload_n hx hb dL_law_565 rfl (lv_at hl 4 rfl) ?_
    refine rd_goi (va_runV (C := RX8) (As := []) (rest := []) S (c_X8_thrown l D cy g s.heap.size ma y0 0 y2 ((fun _ : Int32 => (1 : Int32)) f) y4 y5 y6 y7 y8 y9 y10 y11 y12 y13) (cwV 0 hts gL_law_X8_thrown rfl rfl rfl hd_X8_thrown_V ⟨Nat.le_of_ble_eq_true rfl, Nat.le_of_ble_eq_true rfl⟩) ⟨rdP_blind, va_recv hK0.1 hP (ci := 6) (q0 := 90) rfl rfl, my_preV hK0 hS hAB hP [90, 91, 92, 93, 94, 95, 96, 97] rfl⟩ rfl rfl hl.1 rfl (lv_room (Nat.le_of_ble_eq_true rfl)) dL_law_566 ⟨(show cells + 1 ≤ 601024 by omega), (show slots + 6 ≤ 7293033 by omega)⟩) ?_
    refine lv_iload hx hb dL_law_569 (lv_at hl 1 rfl) ?_
    refine lv_icmp_eq (tgt := 576) hx hb dL_law_571 (by decide) (fun _ => ?_) (fun h9 => absurd (show ((f_X8_thrown ((fun _ : Int32 => (1 : Int32)) f)) : Int32) = ((fun _ : Int32 => (1 : Int32)) f) from rfl) h9)
    refine lv_iload hx hb dL_law_576 (lv_at hl 1 rfl) ?_
    refine lv_if_ne (tgt := 593) hx hb dL_law_578 (by decide) (fun _ => ?_) (fun h9 => absurd h9 hne)
    refine lv_goto (tgt := 1700) hx hb dL_law_593 (by decide) ?_
    refine W.widen (k := cells + 2) (n := slots + 12) (by omega) (by omega) ?_
    exact K H locs ls ⟨st, v, w, v2, w2, z, s0, s1, s2, s3, tx, y0, y2, ((fun _ : Int32 => (1 : Int32)) f), y4, y5, y6, y7, y8, y9, y10, y11, y12, y13, out, outD, hv, hg, hp, hrg, htx, hbl, hP, hD⟩ hS (lv_sub hl [2, 3, 4, 5, 6, 7] rfl)
  · refine lv_aload_n hx hb dL_law_540 rfl (lv_at hl 1 rfl) ?_
    refine lv_aload_n hx hb dL_law_541 rfl (lv_at hl 0 rfl) ?_
    refine lv_iload hx hb dL_law_542 (lv_at hl 5 rfl) ?_
    refine lv_iconst (v := 1) hx hb dL_law_544 (by decide) ?_
    refine lv_iadd hx hb dL_law_545 ?_
    refine va_sld hx hb hX hbl0 hbA hS h1 dL_law_546 ?_
    refine lv_aload_n hx hb dL_law_547 rfl (lv_at hl 3 rfl) ?_
    refine lw_compi (wcs := [(wPCo p70 b7 c7 d7 e7 h7 k7 st), (wSet cy b7 v), (wSav cy q h7 z), (wSet cy (q 0) s0), (wSet cy (q 1) s1), (wSet cy (q 2) s2), (wSet cy (q 3) s3), (wL cy o out)]) (wns := fun u8 => [(wPCo p70 b7 c7 d7 e7 h7 k7 u8.1.1), (wSet cy b7 u8.1.2.1), (wSav cy q h7 u8.1.2.2.1), (wSet cy (q 0) u8.1.2.2.2.1), (wSet cy (q 1) u8.1.2.2.2.2.1), (wSet cy (q 2) u8.1.2.2.2.2.2.1), (wSet cy (q 3) u8.1.2.2.2.2.2.2), (wL cy o u8.2)]) (W2 := fun u8 => (LWL cy g p70 b7 c7 d7 e7 h7 k7 q ma o od u8.1.1 u8.1.2.1 w v2 w2 u8.1.2.2.1 u8.1.2.2.2.1 u8.1.2.2.2.2.1 u8.1.2.2.2.2.2.1 u8.1.2.2.2.2.2.2 tx y0 0 y2 y3 y4 y5 y6 y7 y8 y9 y10 y11 y12 y13 u8.2 outD)) (vx_runSW (As := [.ref p70, .int (xs (i + 1).toNatClampNeg), .ref o]) (rest := []) S (c_L_dropRule l hl0 D cy g s.heap.size p70 b7 c7 d7 e7 h7 k7 q st v z s0 s1 s2 s3 (xs (i + 1).toNatClampNeg) o out (fun k h => k_dropRule h)) (vx_cwSW 3 hts gL_law_L_dropRule rfl rfl rfl hd_L_dropRule_S ⟨Nat.le_of_ble_eq_true rfl, Nat.le_of_ble_eq_true rfl⟩) ⟨lwP_blind, my_preL (wcs := [(wPCo p70 b7 c7 d7 e7 h7 k7 st), (wSet cy b7 v), (wSav cy q h7 z), (wSet cy (q 0) s0), (wSet cy (q 1) s1), (wSet cy (q 2) s2), (wSet cy (q 3) s3), (wL cy o out)]) hK0 hNc hS hAB hP hD [0, 1, 5, 6, 7, 8, 9, 12] (by decide) rfl rfl⟩ rfl rfl hl.1 rfl (lv_room (Nat.le_of_ble_eq_true rfl)) dL_law_548 ⟨(show cells + 1 ≤ 601024 by omega), (show slots + 6 ≤ 7293033 by omega)⟩) hS hP hD [0, 1, 5, 6, 7, 8, 9, 12] rfl rfl (fun _ => rfl) (fun _ => by simp only [List.map_cons, List.map_nil, adrSet, adrSetE, adrPow, adrPowE, adrTxt, adrTxtE, adrSav, adrSavE, adrPCo, adrMod, adrModE, adrL, adrDb]) (fun _ => rfl) (fun r9 u9 H locs hw hP hD hS => ?_)
    obtain ⟨rfl, rfl⟩ := Prod.mk.inj ((wrI_r e1).symm.trans hw)
    have hP : va_P D vwCl (LW cy g p70 b7 c7 d7 e7 h7 k7 q ma o od 1 u.1 w v2 w2 u.2.1 u.2.2.1 u.2.2.2.1 u.2.2.2.2.1 u.2.2.2.2.2 tx y0 0 y2 y3 y4 y5 y6 y7 y8 y9 y10 y11 y12 y13 (vp_updL out 0 (Int32.toInt64 r)) outD) H := hP
    have hD : va_D (fun q => s.heap.size ≤ q) (LW cy g p70 b7 c7 d7 e7 h7 k7 q ma o od 1 u.1 w v2 w2 u.2.1 u.2.2.1 u.2.2.2.1 u.2.2.2.2.1 u.2.2.2.2.2 tx y0 0 y2 y3 y4 y5 y6 y7 y8 y9 y10 y11 y12 y13 (vp_updL out 0 (Int32.toInt64 r)) outD) := hD
    refine lv_istore (lv' := [(6, .int 0), (0, .ref b), (1, .ref p70), (2, .ref (ma 0)), (3, .ref o), (4, .ref od), (5, .int i)]) hx hb dL_law_551 hl (by decide) rfl (fun ls hl => ?_)
    refine lv_aload_n hx hb dL_law_553 rfl (lv_at hl 3 rfl) ?_
    refine lv_aload_n hx hb dL_law_554 rfl (lv_at hl 1 rfl) ?_
    refine lv_iload hx hb dL_law_555 (lv_at hl 6 rfl) ?_
    refine lv_iconst (v := 1) hx hb dL_law_557 (by decide) ?_
    refine lv_iadd hx hb dL_law_558 ?_
    refine va_sld hx hb hX hbl0 hbA hS h1 dL_law_559 ?_
    refine mu_compi (wcs := [(wModE cy ma y0 0 y2 y3 y4 y5 y6 y7 y8 y9 y10 y11 y12 y13)]) (wns := fun u8 => [(wModE cy ma u8.1 0 y2 u8.2.1 y4 y5 y6 u8.2.2.1 u8.2.2.2 y9 y10 y11 y12 y13)]) (W2 := fun u8 => (LWL cy g p70 b7 c7 d7 e7 h7 k7 q ma o od 1 u.1 w v2 w2 u.2.1 u.2.2.1 u.2.2.2.1 u.2.2.2.2.1 u.2.2.2.2.2 tx u8.1 0 y2 u8.2.1 y4 y5 y6 u8.2.2.1 u8.2.2.2 y9 y10 y11 y12 y13 (vp_updL out 0 (Int32.toInt64 r)) outD)) (va_runV (C := RX8) (As := [.int (xs (i + 1).toNatClampNeg)]) (rest := []) S (c_X8_dropRule l D cy g s.heap.size ma y0 0 y2 y3 y4 y5 y6 y7 y8 y9 y10 y11 y12 y13 (xs (i + 1).toNatClampNeg) (ringf hrg).1 (ringf hrg).2 (GSf hg).2.2.1) (cwV 1 hts gL_law_X8_dropRule rfl rfl rfl hd_X8_dropRule_V ⟨Nat.le_of_ble_eq_true rfl, Nat.le_of_ble_eq_true rfl⟩) ⟨muP_blind, va_recv hK0.1 hP (ci := 6) (q0 := 90) rfl rfl, my_preC (wcs := [(wModE cy ma y0 0 y2 y3 y4 y5 y6 y7 y8 y9 y10 y11 y12 y13)]) hK0 hS hAB hP hD [11] (by decide) rfl (List.append_nil _)⟩ rfl rfl hl.1 rfl (lv_room (Nat.le_of_ble_eq_true rfl)) dL_law_560 ⟨(show cells + 1 ≤ 601024 by omega), (show slots + 6 ≤ 7293033 by omega)⟩) hS hP hD [11] rfl (List.append_nil _) (fun _ => List.append_nil _) (fun _ => by simp only [List.map_cons, List.map_nil, adrSet, adrSetE, adrPow, adrPowE, adrTxt, adrTxtE, adrSav, adrSavE, adrPCo, adrMod, adrModE, adrL, adrDb]) (fun _ => rfl) (fun r9 u9 H locs hw hP hD hS => ?_)
    obtain ⟨rfl, rfl⟩ := Prod.mk.inj (e4.symm.trans hw)
    have hP : va_P D vwCl (LW cy g p70 b7 c7 d7 e7 h7 k7 q ma o od 1 u.1 w v2 w2 u.2.1 u.2.2.1 u.2.2.2.1 u.2.2.2.2.1 u.2.2.2.2.2 tx pp.1 0 y2 0 y4 y5 y6 pp.2.1 pp.2.2 y9 y10 y11 y12 y13 (vp_updL out 0 (Int32.toInt64 r)) outD) H := hP
    have hD : va_D (fun q => s.heap.size ≤ q) (LW cy g p70 b7 c7 d7 e7 h7 k7 q ma o od 1 u.1 w v2 w2 u.2.1 u.2.2.1 u.2.2.2.1 u.2.2.2.2.1 u.2.2.2.2.2 tx pp.1 0 y2 0 y4 y5 y6 pp.2.1 pp.2.2 y9 y10 y11 y12 y13 (vp_updL out 0 (Int32.toInt64 r)) outD) := hD
    refine lv_istore (lv' := [(7, .int r), (6, .int 0), (0, .ref b), (1, .ref p70), (2, .ref (ma 0)), (3, .ref o), (4, .ref od), (5, .int i)]) hx hb dL_law_563 hl (by decide) rfl (fun ls hl => ?_)
    refine lv_aload_n hx hb dL_law_565 rfl (lv_at hl 4 rfl) ?_
    refine rd_goi (va_runV (C := RX8) (As := []) (rest := []) S (c_X8_thrown l D cy g s.heap.size ma pp.1 0 y2 0 y4 y5 y6 pp.2.1 pp.2.2 y9 y10 y11 y12 y13) (cwV 0 hts gL_law_X8_thrown rfl rfl rfl hd_X8_thrown_V ⟨Nat.le_of_ble_eq_true rfl, Nat.le_of_ble_eq_true rfl⟩) ⟨rdP_blind, va_recv hK0.1 hP (ci := 6) (q0 := 90) rfl rfl, my_preV hK0 hS hAB hP [90, 91, 92, 93, 94, 95, 96, 97] rfl⟩ rfl rfl hl.1 rfl (lv_room (Nat.le_of_ble_eq_true rfl)) dL_law_566 ⟨(show cells + 1 ≤ 601024 by omega), (show slots + 6 ≤ 7293033 by omega)⟩) ?_
    refine lv_iload hx hb dL_law_569 (lv_at hl 1 rfl) ?_
    refine lv_icmp_eq (tgt := 576) hx hb dL_law_571 (by decide) (fun _ => ?_) (fun h9 => absurd (show ((f_X8_thrown 0) : Int32) = 0 from rfl) h9)
    refine lv_iload hx hb dL_law_576 (lv_at hl 1 rfl) ?_
    refine lv_if_ne (tgt := 593) hx hb dL_law_578 (by decide) (fun h9 => absurd rfl h9) (fun _ => ?_)
    refine lv_aload_n hx hb dL_law_581 rfl (lv_at hl 5 rfl) ?_
    refine lv_iconst (v := 0) hx hb dL_law_582 (by decide) ?_
    refine va_lald hx hb hK0.1 hP 98 3 rfl rfl (i := 0) (show ¬ ((0 : Int32) < 0 ∨ 1 ≤ (0 : Int32).toNatClampNeg) by decide) dL_law_583 ?_
    refine lv_iload hx hb dL_law_584 (lv_at hl 0 rfl) ?_
    refine lv_i2l (v := (Int32.toInt64 r)) hx hb dL_law_586 rfl ?_
    refine W.lcmp hx hb dL_law_587 ?_
    refine lv_if_eq (tgt := 593) hx hb dL_law_588 (by decide) (fun _ => ?_) (fun h9 => absurd ((lg_cmp_eq _ _).mpr rfl) h9)
    refine lv_goto (tgt := 1700) hx hb dL_law_593 (by decide) ?_
    refine W.widen (k := cells + 2) (n := slots + 12) (by omega) (by omega) ?_
    exact K H locs ls ⟨1, u.1, w, v2, w2, u.2.1, u.2.2.1, u.2.2.2.1, u.2.2.2.2.1, u.2.2.2.2.2, tx, pp.1, y2, 0, y4, y5, y6, pp.2.1, pp.2.2, y9, y10, y11, y12, y13, (vp_updL out 0 (Int32.toInt64 r)), outD, e5.1, e5.2.1, pwr_1 _ _, e5.2.2, htx, hbl, hP, hD⟩ hS (lv_sub hl [2, 3, 4, 5, 6, 7] rfl)
end LAWK
