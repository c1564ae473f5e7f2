/-! part 99i: the loop of the law -/
theorem and31 (x : Int32) : ∃ j : Nat, j < 32 ∧ x &&& 31 = nI j := by
  have h : vp_in (31 &&& x) 32 := ix_and (s := 31) (x := x) (N := 32) (vp_in_nI (show 31 < 32 by decide) (by decide))
  obtain ⟨j, hj, e⟩ := vp_in_of h (by decide)
  exact ⟨j, hj, by rw [Int32.and_comm]; exact e⟩
section LOOP
variable {p : Program} {l : Launch} {e : Env} {s : State} {m : MethodId} {below : List Frame} {meth : Method} {c : Code} {b L : Nat} {xs : Nat → Int32} {D : va_G} {cy : Nat → ClassId} {g : Nat → Nat} {p70 : Nat} {b7 c7 d7 e7 h7 k7 : Nat → Nat} {q : Nat → Nat → Nat} {ma : Nat → Nat} {o od : Nat} {Q : State → Prop}
set_option maxHeartbeats 4000000 in
set_option maxRecDepth 100000 in
theorem law_loop (C : LC p l e s m meth c b L xs D cy g) (hfin : ∀ (H : Heap) (locs : List Loc) (cells slots : Nat) (ls : Array Slot), cells ≤ 601024 → slots ≤ 7293033 → va_S (fun q => s.heap.size ≤ q) s.heap H locs → W p l e room_1 s m #[Value.ref b] below meth c H locs cells slots Q (F0 m 1706 ls [])) :
    ∀ (n k : Nat) (H : Heap) (locs : List Loc) (ls : Array Slot), L + 3 ≤ 3 * (k + n) → 3 * k ≤ L → LInv D cy g p70 b7 c7 d7 e7 h7 k7 q ma o od s.heap.size H → va_S (fun q => s.heap.size ≤ q) s.heap H locs → lv_has ls 9 [(0, .ref b), (1, .ref p70), (2, .ref (ma 0)), (3, .ref o), (4, .ref od), (5, .int (nI (3 * k)))] → W p l e room_1 s m #[Value.ref b] below meth c H locs (100 + 2 * k) (4172 + 12 * k) Q (F0 m 28 ls [])
  | 0, k, _, _, _ => fun h1 h2 => absurd h1 (by omega)
  | n + 1, k, H, locs, ls => by
    intro hn hk hI hS hl
    have C0 := C
    obtain ⟨hl0, hx, hb, hr, hml, hown, hts, hX, hbl0, hlocks, hK0, hNc, hL⟩ := C0
    have hbA : ¬ s.heap.size ≤ b := Nat.not_le.mpr hbl0
    refine lv_iload hx hb dL_law_28 (lv_at hl 5 rfl) ?_
    refine lv_aload_n hx hb dL_law_30 rfl (lv_at hl 0 rfl) ?_
    refine va_slen hx hb hX hbl0 hbA hS dL_law_31 ?_
    refine lv_iconst (v := 3) hx hb dL_law_32 (by decide) ?_
    refine lv_isub hx hb dL_law_33 ?_
    refine lv_icmp_gt (tgt := 1706) hx hb dL_law_34 (by decide) (fun _ => hfin H locs _ _ ls (by omega) (by omega) hS) (fun hc9 => ?_)
    have hlt : 3 * k + 3 ≤ L := Nat.le_of_not_lt (fun z => hc9 (Int32.lt_iff_toInt_lt.mpr (by
      show (nI L - nI 3).toInt < (nI (3 * k)).toInt
      rw [pk_sub_toInt (by omega) (by omega), nI_toInt (by omega)]
      omega)))
    have next : ∀ (H : Heap) (locs : List Loc) (ls : Array Slot), LInv D cy g p70 b7 c7 d7 e7 h7 k7 q ma o od s.heap.size H → va_S (fun q => s.heap.size ≤ q) s.heap H locs → lv_has ls 9 [(0, .ref b), (1, .ref p70), (2, .ref (ma 0)), (3, .ref o), (4, .ref od), (5, .int (nI (3 * k)))] → W p l e room_1 s m #[Value.ref b] below meth c H locs (100 + 2 * k + 2) (4172 + 12 * k + 12) Q (F0 m 1700 ls []) := by
      intro H locs ls hI hS hl
      refine lv_iinc (v := nI (3 * (k + 1))) (lv' := [(5, .int (nI (3 * (k + 1)))), (0, .ref b), (1, .ref p70), (2, .ref (ma 0)), (3, .ref o), (4, .ref od)]) hx hb dL_law_1700 hl (k := 5) rfl (show nI (3 * k) + nI 3 = nI (3 * k + 3) from nI_add _ _) (by decide) rfl (fun ls hl => ?_)
      refine lv_goto (tgt := 28) hx hb dL_law_1703 (by decide) ?_
      refine W.widen (k := 100 + 2 * (k + 1)) (n := 4172 + 12 * (k + 1)) (by omega) (by omega) ?_
      exact law_loop C hfin n (k + 1) H locs ls (by omega) (by omega) hI hS (lv_sub hl [1, 2, 3, 4, 5, 0] rfl)
    refine lv_aload_n hx hb dL_law_37 rfl (lv_at hl 0 rfl) ?_
    refine lv_iload hx hb dL_law_38 (lv_at hl 5 rfl) ?_
    refine va_sld hx hb hX hbl0 hbA hS (vp_in_nI (show 3 * k < L by omega) (by omega)) dL_law_40 ?_
    refine lv_bipush (v := 31) hx hb dL_law_41 (by decide) ?_
    refine lv_iand hx hb dL_law_43 ?_
    obtain ⟨j, hj, ej⟩ := and31 (xs (nI (3 * k)).toNatClampNeg)
    rw [ej]
    have h1 : vp_in (nI (3 * k) + 1) L := by rw [nI_1]; exact vp_in_nI (by omega) (by omega)
    have h2 : vp_in (nI (3 * k) + 2) L := by rw [show nI (3 * k) + 2 = nI (3 * k + 2) from nI_add _ 2]; exact vp_in_nI (by omega) (by omega)
    have hcc : 100 + 2 * k ≤ 590000 := by omega
    have hss : 4172 + 12 * k ≤ 7000000 := by omega
    rcases (show j = 0 ∨ j = 1 ∨ j = 2 ∨ j = 3 ∨ j = 4 ∨ j = 5 ∨ j = 6 ∨ j = 7 ∨ j = 8 ∨ j = 9 ∨ j = 10 ∨ j = 11 ∨ j = 12 ∨ j = 13 ∨ j = 14 ∨ j = 15 ∨ j = 16 ∨ j = 17 ∨ j = 18 ∨ j = 19 ∨ j = 20 ∨ j = 21 ∨ j = 22 ∨ j = 23 ∨ j = 24 ∨ j = 25 ∨ j = 26 ∨ 27 ≤ j by omega) with rfl | rfl | rfl | rfl | rfl | rfl | rfl | rfl | rfl | rfl | rfl | rfl | rfl | rfl | rfl | rfl | rfl | rfl | rfl | rfl | rfl | rfl | rfl | rfl | rfl | rfl | rfl | h27
    · exact lv_tableIn (off := 124) (tgt := 168) hx hb dL_law_44 (by decide) (by decide) rfl (by decide) (law_add C hcc hss h1 h2 hI hS hl next)
    · exact lv_tableIn (off := 180) (tgt := 224) hx hb dL_law_44 (by decide) (by decide) rfl (by decide) (law_setWeight C hcc hss h1 h2 hI hS hl next)
    · exact lv_tableIn (off := 248) (tgt := 292) hx hb dL_law_44 (by decide) (by decide) rfl (by decide) (law_setQuota C hcc hss h1 h2 hI hS hl next)
    · exact lv_tableIn (off := 304) (tgt := 348) hx hb dL_law_44 (by decide) (by decide) rfl (by decide) (law_follow C hcc hss h1 h2 hI hS hl next)
    · exact lv_tableIn (off := 372) (tgt := 416) hx hb dL_law_44 (by decide) (by decide) rfl (by decide) (law_leave C hcc hss h1 h2 hI hS hl next)
    · exact lv_tableIn (off := 428) (tgt := 472) hx hb dL_law_44 (by decide) (by decide) rfl (by decide) (law_addRule C hcc hss h1 h2 hI hS hl next)
    · exact lv_tableIn (off := 496) (tgt := 540) hx hb dL_law_44 (by decide) (by decide) rfl (by decide) (law_dropRule C hcc hss h1 h2 hI hS hl next)
    · exact lv_tableIn (off := 552) (tgt := 596) hx hb dL_law_44 (by decide) (by decide) rfl (by decide) (law_member C hcc hss h1 h2 hI hS hl next)
    · exact lv_tableIn (off := 620) (tgt := 664) hx hb dL_law_44 (by decide) (by decide) rfl (by decide) (law_rule C hcc hss h1 h2 hI hS hl next)
    · exact lv_tableIn (off := 688) (tgt := 732) hx hb dL_law_44 (by decide) (by decide) rfl (by decide) (law_whole C hcc hss h1 h2 hI hS hl next)
    · exact lv_tableIn (off := 744) (tgt := 788) hx hb dL_law_44 (by decide) (by decide) rfl (by decide) (law_wins C hcc hss h1 h2 hI hS hl next)
    · exact lv_tableIn (off := 800) (tgt := 844) hx hb dL_law_44 (by decide) (by decide) rfl (by decide) (law_least C hcc hss h1 h2 hI hS hl next)
    · exact lv_tableIn (off := 856) (tgt := 900) hx hb dL_law_44 (by decide) (by decide) rfl (by decide) (law_share C hcc hss h1 h2 hI hS hl next)
    · exact lv_tableIn (off := 934) (tgt := 978) hx hb dL_law_44 (by decide) (by decide) rfl (by decide) (law_part C hcc hss h1 h2 hI hS hl next)
    · exact lv_tableIn (off := 1011) (tgt := 1055) hx hb dL_law_44 (by decide) (by decide) rfl (by decide) (law_reason C hcc hss h1 h2 hI hS hl next)
    · exact lv_tableIn (off := 1067) (tgt := 1111) hx hb dL_law_44 (by decide) (by decide) rfl (by decide) (law_pivot C hcc hss h1 h2 hI hS hl next)
    · exact lv_tableIn (off := 1123) (tgt := 1167) hx hb dL_law_44 (by decide) (by decide) rfl (by decide) (law_swingsWith C hcc hss h1 h2 hI hS hl next)
    · exact lv_tableIn (off := 1191) (tgt := 1235) hx hb dL_law_44 (by decide) (by decide) rfl (by decide) (law_bestQuota C hcc hss h1 h2 hI hS hl next)
    · exact lv_tableIn (off := 1247) (tgt := 1291) hx hb dL_law_44 (by decide) (by decide) rfl (by decide) (law_dummiesWith C hcc hss h1 h2 hI hS hl next)
    · exact lv_tableIn (off := 1303) (tgt := 1347) hx hb dL_law_44 (by decide) (by decide) rfl (by decide) (law_leastWeight C hcc hss h1 h2 hI hS hl next)
    · exact lv_tableIn (off := 1359) (tgt := 1403) hx hb dL_law_44 (by decide) (by decide) rfl (by decide) (law_unionGain C hcc hss h1 h2 hI hS hl next)
    · exact lv_tableIn (off := 1448) (tgt := 1492) hx hb dL_law_44 (by decide) (by decide) rfl (by decide) (law_compare C hcc hss h1 h2 hI hS hl next)
    · exact lv_tableIn (off := 1516) (tgt := 1560) hx hb dL_law_44 (by decide) (by decide) rfl (by decide) (law_type C hcc hss h1 h2 hI hS hl next)
    · exact lv_tableIn (off := 1572) (tgt := 1616) hx hb dL_law_44 (by decide) (by decide) rfl (by decide) (law_clearCommands C hcc hss h1 h2 hI hS hl next)
    · exact lv_tableIn (off := 1585) (tgt := 1629) hx hb dL_law_44 (by decide) (by decide) rfl (by decide) (law_runCommands C hcc hss h1 h2 hI hS hl next)
    · exact lv_tableIn (off := 1598) (tgt := 1642) hx hb dL_law_44 (by decide) (by decide) rfl (by decide) (law_undo C hcc hss h1 h2 hI hS hl next)
    · exact lv_tableIn (off := 1642) (tgt := 1686) hx hb dL_law_44 (by decide) (by decide) rfl (by decide) (law_digest C hcc hss h1 h2 hI hS hl next)
    · exact lv_tableOut (tgt := 1700) hx hb dL_law_44 (Or.inr (by rw [nI_toInt (by omega)]; omega)) (by decide) (W.widen (k := 100 + 2 * k + 2) (n := 4172 + 12 * k + 12) (by omega) (by omega) (next H locs ls hI hS hl))
end LOOP
