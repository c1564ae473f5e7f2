/-! part 94: the table; isSo answers 1 -/
abbrev tabR : Room := (headSpec wsL_table ({ frames := 1, cells := 1, slots := 4, locals := 31 } : Room)).room
def tbP (D : va_G) (cy : Nat → ClassId) (g : Nat → Nat) (B : Nat) (wc : va_W) (av : List Value) (sz : Nat) : Array Value → State → Prop := va_Pc av (fun U => (va_P D vwCl wc U.heap ∧ myK D cy g B U U.heap) ∧ U.heap.size = sz)
theorem tbP_blind {D : va_G} {cy : Nat → ClassId} {g : Nat → Nat} {B : Nat} {wc : va_W} {av : List Value} {sz : Nat} : FrameBlind (tbP D cy g B wc av sz) := by
  intro a U g' mk h
  have h1 := rdP_blind (D := D) (cy := cy) (g := g) (B := B) (wc := wc) (av := av) a U g' mk ⟨h.1, h.2.1⟩
  exact ⟨h1.1, h1.2, h.2.2⟩
theorem va_A_nil {sz q : Nat} (h : q < sz) : ¬ va_A ([] : va_W) sz q := fun z => z.elim (fun ⟨_, _, h2⟩ => by simp at h2) (fun h2 => absurd h (Nat.not_lt.mpr h2))
theorem hd_L_table_S : yL_table.cls ≠ "java/lang/invoke/MethodHandle" ∧ yL_table.cls ≠ "java/lang/invoke/VarHandle" ∧ (parseMethodDescriptor yL_table.desc).map (fun d => d.parameters.length) = some 5 := by decide +kernel
theorem hd_L_isSo_S : yL_isSo.cls ≠ "java/lang/invoke/MethodHandle" ∧ yL_isSo.cls ≠ "java/lang/invoke/VarHandle" ∧ (parseMethodDescriptor yL_isSo.desc).map (fun d => d.parameters.length) = some 5 := by decide +kernel
def tbC (p : Program) (l : Launch) (s : State) (m : MethodId) (meth : Method) (c : Code) (args : Array Value) (D : va_G) (cy : Nat → ClassId) (g : Nat → Nat) (B : Nat) (aw : va_W) : Prop := p.tables.exec = Jvm.exec ∧ c.code = cL_table ∧ meth.sig.returnType = some (.array .long) ∧ c.maxLocals = 9 ∧ s.vm.findClass RL = some m.cls ∧ (∀ w ∈ wsL_table, w.before args s = true) ∧ meth.locks = false ∧ myK D cy g B s s.heap ∧ B ≤ s.heap.size ∧ va_P D vwCl aw s.heap
section ISO
variable {p : Program} {l : Launch} {e : Env} {s : State} {m : MethodId} {args : Array Value} {below : List Frame} {meth : Method} {c : Code} {Q : State → Prop} {D : va_G} {cy : Nat → ClassId} {g : Nat → Nat} {B : Nat} {A : Nat → Prop}
variable {p70 : Nat} {b7 c7 d7 e7 h7 k7 : Nat → Nat} {gA0 wA0 lA0 rA0 tA0 : Nat} {v : SetV} {tx : TxtV} {ga wa la ra sg : Nat → Int32} {n r : Nat}
set_option maxHeartbeats 4000000 in
set_option maxRecDepth 100000 in
theorem tb_1 (C : tbC p l s m meth c args D cy g B (List.flatten [(wI cy gA0 3 ga), (wI cy wA0 8 wa), (wI cy lA0 8 la), (wI cy rA0 4 ra)])) (F : soF v tx ga wa la ra sg n r) (K : ∀ (H : Heap) (locs : List Loc) (ls : Array Slot), va_P D vwCl (wL cy tA0 4 (tabF (wS sg n) 256)) H → va_D (va_A [] s.heap.size) (wL cy tA0 4 (tabF (wS sg n) 256)) → va_S (va_A [] s.heap.size) s.heap H locs → lv_has ls 9 [(7, .int (nI 256)), (0, .ref gA0), (1, .ref wA0), (2, .ref lA0), (3, .ref rA0), (4, .int (sg 1)), (5, .ref tA0), (6, .int (nI (plN sg n)))] → W p l e tabR s m args below meth c H locs 1 4 Q (F0 m 87 ls [])) : ∀ (fu k : Nat) (H : Heap) (locs : List Loc) (ls : Array Slot), 256 - k < fu → k ≤ 256 → va_P D vwCl (wL cy tA0 4 (tabF (wS sg n) k)) H → va_D (va_A [] s.heap.size) (wL cy tA0 4 (tabF (wS sg n) k)) → va_S (va_A [] s.heap.size) s.heap H locs → lv_has ls 9 [(7, .int (nI k)), (0, .ref gA0), (1, .ref wA0), (2, .ref lA0), (3, .ref rA0), (4, .int (sg 1)), (5, .ref tA0), (6, .int (nI (plN sg n)))] → W p l e tabR s m args below meth c H locs 1 4 Q (F0 m 15 ls [])
  | 0, _, _, _, _ => fun h => absurd h (Nat.not_lt_zero _)
  | fu + 1, k, H, locs, ls => by
    intro hfu hk256 hP hD hS hl
    have C0 := C
    have FF0 := F
    obtain ⟨hx, hb, hr9, hml, hown, hts, hlk, hK0, hB, hP0⟩ := C
    obtain ⟨CHH, hAG, htx, hl8⟩ := F
    have hN := CHH.2.1
    have hL := CHH.2.2.1
    have hW := CHH.2.2.2.1
    have h8 : n ≤ 8 := hN.2.1
    have hr4 : r ≤ 4 := hN.2.2.2
    have hp256 := plN_lt (s := sg) h8
    have S := my_fix hx hb hml hown hts
    have hAB : ∀ q, va_A ([] : va_W) s.heap.size q → B ≤ q := fun q h => Nat.le_of_not_lt (fun z => va_A_nil (Nat.lt_of_lt_of_le z hB) h)
    refine lv_iload hx hb dL_table_15 (lv_at hl 0 rfl) ?_
    refine lv_sipush (v := 256) hx hb dL_table_17 (by decide) ?_
    rcases Nat.lt_or_ge k 256 with hk | hk
    · refine lv_icmp_ge (tgt := 87) hx hb dL_table_20 (by decide) (fun h9 => absurd h9 (n256 hk)) (fun _ => ?_)
      refine lv_iload hx hb dL_table_23 (lv_at hl 0 rfl) ?_
      refine lv_iload hx hb dL_table_25 (lv_at hl 7 rfl) ?_
      refine lv_ior hx hb dL_table_27 ?_
      refine lv_iload hx hb dL_table_28 (lv_at hl 7 rfl) ?_
      cases hsub : subB (plN sg n) k
      · refine lv_icmp_ne (tgt := 51) hx hb dL_table_30 (by decide) (fun _ => ?_) (fun h9 => absurd h9 (fun z => absurd (decide_eq_true ((sub_or _ hp256 k hk).mp z)) (by show ¬ subB (plN sg n) k = true; rw [hsub]; decide)))
        have hw : wS sg n k = false := by unfold wS wnB; rw [hsub]; rfl
        refine lv_iconst (v := 0) hx hb dL_table_51 (by decide) ?_
        refine lv_istore (lv' := [(8, .int 0), (7, .int (nI k)), (0, .ref gA0), (1, .ref wA0), (2, .ref lA0), (3, .ref rA0), (4, .int (sg 1)), (5, .ref tA0), (6, .int (nI (plN sg n)))]) hx hb dL_table_52 hl (by decide) rfl (fun ls hl => ?_)
        refine lv_aload hx hb dL_table_54 (lv_at hl 7 rfl) ?_
        refine lv_iload hx hb dL_table_56 (lv_at hl 1 rfl) ?_
        refine lv_bipush (v := 6) hx hb dL_table_58 (by decide) ?_
        refine lv_ishr hx hb dL_table_60 ?_
        refine lv_dup2_11 hx hb dL_table_61 rfl rfl ?_
        refine va_lald hx hb hK0.1 hP 0 1 rfl rfl (ix_sh6 (nI_pos (show k < 2 ^ 31 by omega)) (n256 hk)) dL_table_62 ?_
        refine lv_iload hx hb dL_table_63 (lv_at hl 0 rfl) ?_
        refine lv_if_eq (tgt := 78) hx hb dL_table_65 (by decide) (fun _ => ?_) (fun h9 => absurd rfl h9)
        refine lv_lconst (v := 0) hx hb dL_table_78 (by decide) ?_
        refine lv_lor hx hb dL_table_79 ?_
        refine va_last hx hb hK0.1 hP hD hS 0 1 rfl rfl (ix_sh6 (nI_pos (show k < 2 ^ 31 by omega)) (n256 hk)) dL_table_80 (fun H locs hP hD hS => ?_)
        have e9 : tabF (wS sg n) (k + 1) = vp_updL (tabF (wS sg n) k) (nI k >>> (6 &&& 31)).toNatClampNeg (((tabF (wS sg n) k) (nI k >>> (6 &&& 31)).toNatClampNeg) ||| 0) := by show tabS (wS sg n) k (tabF (wS sg n) k) = _; unfold tabS; rw [hw, if_neg (by decide)]
        have hP : va_P D vwCl (wL cy tA0 4 (tabF (wS sg n) (k + 1))) H := by rw [e9]; exact hP
        have hD : va_D (va_A [] s.heap.size) (wL cy tA0 4 (tabF (wS sg n) (k + 1))) := by rw [e9]; exact hD
        refine lv_iinc (v := (nI (k + 1))) (lv' := [(7, .int (nI (k + 1))), (8, .int 0), (0, .ref gA0), (1, .ref wA0), (2, .ref lA0), (3, .ref rA0), (4, .int (sg 1)), (5, .ref tA0), (6, .int (nI (plN sg n)))]) hx hb dL_table_81 hl (k := 1) rfl (nI_1 k) (by decide) rfl (fun ls hl => ?_)
        refine lv_goto (tgt := 15) hx hb dL_table_84 (by decide) ?_
        exact tb_1 C0 FF0 K fu (k + 1) H locs ls (by omega) (by omega) hP hD hS (lv_sub hl [0, 2, 3, 4, 5, 6, 7, 8] rfl)
      · refine lv_icmp_ne (tgt := 51) hx hb dL_table_30 (by decide) (fun h9 => absurd ((sub_or _ hp256 k hk).mpr (of_decide_eq_true hsub)) h9) (fun _ => ?_)
        refine lv_aload_n hx hb dL_table_33 rfl (lv_at hl 1 rfl) ?_
        refine lv_aload_n hx hb dL_table_34 rfl (lv_at hl 2 rfl) ?_
        refine lv_aload_n hx hb dL_table_35 rfl (lv_at hl 3 rfl) ?_
        refine lv_aload_n hx hb dL_table_36 rfl (lv_at hl 4 rfl) ?_
        refine lv_iload hx hb dL_table_37 (lv_at hl 0 rfl) ?_
        refine lv_iload hx hb dL_table_39 (lv_at hl 5 rfl) ?_
        have hPa := my_P_kept hP0 (fun q h => hS.2.1 q h (va_A_nil h))
        refine rd_goi (va_runS (As := [.ref gA0, .ref wA0, .ref lA0, .ref rA0, .int (nI k), .int (sg 1)]) (rest := []) S (c_L_why l D cy g B gA0 wA0 lA0 rA0 ga wa la ra _ _ hl8 (by rw [hAG.1]; exact Int32.not_lt.mpr (nI_le (b := 8) h8 (by decide))) (by rw [hAG.2.2.1]; exact Int32.not_lt.mpr (nI_le (b := 4) hr4 (by decide)))) (va_cwS 6 hts gL_table_L_why rfl rfl rfl hd_L_why_S ⟨Nat.le_of_ble_eq_true rfl, Nat.le_of_ble_eq_true rfl⟩) ⟨rdP_blind, my_preP hK0 hS hAB (hPa.sub [0, 1, 2, 3] rfl)⟩ rfl rfl hl.1 rfl (lv_room (Nat.le_of_ble_eq_true rfl)) dL_table_41 ⟨Nat.le_of_ble_eq_true rfl, Nat.le_of_ble_eq_true rfl⟩) ?_
        refine wk_ti (v := (f_X8_why sg (nI k) (sg 1))) (why_law hAG hN hL hW hk _) ?_
        by_cases hz : f_X8_why sg (nI k) (sg 1) = 0
        · refine lv_if_ne (tgt := 51) hx hb dL_table_44 (by decide) (fun h9 => absurd hz h9) (fun _ => ?_)
          have hw : wS sg n k = true := by unfold wS wnB; rw [hsub, decide_eq_true hz]; rfl
          refine lv_iconst (v := 1) hx hb dL_table_47 (by decide) ?_
          refine lv_goto (tgt := 52) hx hb dL_table_48 (by decide) ?_
          refine lv_istore (lv' := [(8, .int 1), (7, .int (nI k)), (0, .ref gA0), (1, .ref wA0), (2, .ref lA0), (3, .ref rA0), (4, .int (sg 1)), (5, .ref tA0), (6, .int (nI (plN sg n)))]) hx hb dL_table_52 hl (by decide) rfl (fun ls hl => ?_)
          refine lv_aload hx hb dL_table_54 (lv_at hl 7 rfl) ?_
          refine lv_iload hx hb dL_table_56 (lv_at hl 1 rfl) ?_
          refine lv_bipush (v := 6) hx hb dL_table_58 (by decide) ?_
          refine lv_ishr hx hb dL_table_60 ?_
          refine lv_dup2_11 hx hb dL_table_61 rfl rfl ?_
          refine va_lald hx hb hK0.1 hP 0 1 rfl rfl (ix_sh6 (nI_pos (show k < 2 ^ 31 by omega)) (n256 hk)) dL_table_62 ?_
          refine lv_iload hx hb dL_table_63 (lv_at hl 0 rfl) ?_
          refine lv_if_eq (tgt := 78) hx hb dL_table_65 (by decide) (fun h9 => absurd h9 (show ¬ (1 : Int32) = 0 by decide)) (fun _ => ?_)
          refine lv_lconst (v := 1) hx hb dL_table_68 (by decide) ?_
          refine lv_iload hx hb dL_table_69 (lv_at hl 1 rfl) ?_
          refine lv_bipush (v := 63) hx hb dL_table_71 (by decide) ?_
          refine lv_iand hx hb dL_table_73 ?_
          refine lv_lshl (v := (1 <<< ((Int32.toInt64 ((nI k) &&& 63)) &&& 63))) hx hb dL_table_74 rfl ?_
          refine lv_goto (tgt := 79) hx hb dL_table_75 (by decide) ?_
          refine lv_lor hx hb dL_table_79 ?_
          refine va_last hx hb hK0.1 hP hD hS 0 1 rfl rfl (ix_sh6 (nI_pos (show k < 2 ^ 31 by omega)) (n256 hk)) dL_table_80 (fun H locs hP hD hS => ?_)
          have e9 : tabF (wS sg n) (k + 1) = vp_updL (tabF (wS sg n) k) (nI k >>> (6 &&& 31)).toNatClampNeg (((tabF (wS sg n) k) (nI k >>> (6 &&& 31)).toNatClampNeg) ||| (1 <<< ((Int32.toInt64 ((nI k) &&& 63)) &&& 63))) := by show tabS (wS sg n) k (tabF (wS sg n) k) = _; unfold tabS; rw [hw, if_pos rfl]
          have hP : va_P D vwCl (wL cy tA0 4 (tabF (wS sg n) (k + 1))) H := by rw [e9]; exact hP
          have hD : va_D (va_A [] s.heap.size) (wL cy tA0 4 (tabF (wS sg n) (k + 1))) := by rw [e9]; exact hD
          refine lv_iinc (v := (nI (k + 1))) (lv' := [(7, .int (nI (k + 1))), (8, .int 1), (0, .ref gA0), (1, .ref wA0), (2, .ref lA0), (3, .ref rA0), (4, .int (sg 1)), (5, .ref tA0), (6, .int (nI (plN sg n)))]) hx hb dL_table_81 hl (k := 1) rfl (nI_1 k) (by decide) rfl (fun ls hl => ?_)
          refine lv_goto (tgt := 15) hx hb dL_table_84 (by decide) ?_
          exact tb_1 C0 FF0 K fu (k + 1) H locs ls (by omega) (by omega) hP hD hS (lv_sub hl [0, 2, 3, 4, 5, 6, 7, 8] rfl)
        · refine lv_if_ne (tgt := 51) hx hb dL_table_44 (by decide) (fun _ => ?_) (fun h9 => absurd h9 hz)
          have hw : wS sg n k = false := by unfold wS wnB; rw [decide_eq_false hz, Bool.and_false]
          refine lv_iconst (v := 0) hx hb dL_table_51 (by decide) ?_
          refine lv_istore (lv' := [(8, .int 0), (7, .int (nI k)), (0, .ref gA0), (1, .ref wA0), (2, .ref lA0), (3, .ref rA0), (4, .int (sg 1)), (5, .ref tA0), (6, .int (nI (plN sg n)))]) hx hb dL_table_52 hl (by decide) rfl (fun ls hl => ?_)
          refine lv_aload hx hb dL_table_54 (lv_at hl 7 rfl) ?_
          refine lv_iload hx hb dL_table_56 (lv_at hl 1 rfl) ?_
          refine lv_bipush (v := 6) hx hb dL_table_58 (by decide) ?_
          refine lv_ishr hx hb dL_table_60 ?_
          refine lv_dup2_11 hx hb dL_table_61 rfl rfl ?_
          refine va_lald hx hb hK0.1 hP 0 1 rfl rfl (ix_sh6 (nI_pos (show k < 2 ^ 31 by omega)) (n256 hk)) dL_table_62 ?_
          refine lv_iload hx hb dL_table_63 (lv_at hl 0 rfl) ?_
          refine lv_if_eq (tgt := 78) hx hb dL_table_65 (by decide) (fun _ => ?_) (fun h9 => absurd rfl h9)
          refine lv_lconst (v := 0) hx hb dL_table_78 (by decide) ?_
          refine lv_lor hx hb dL_table_79 ?_
          refine va_last hx hb hK0.1 hP hD hS 0 1 rfl rfl (ix_sh6 (nI_pos (show k < 2 ^ 31 by omega)) (n256 hk)) dL_table_80 (fun H locs hP hD hS => ?_)
          have e9 : tabF (wS sg n) (k + 1) = vp_updL (tabF (wS sg n) k) (nI k >>> (6 &&& 31)).toNatClampNeg (((tabF (wS sg n) k) (nI k >>> (6 &&& 31)).toNatClampNeg) ||| 0) := by show tabS (wS sg n) k (tabF (wS sg n) k) = _; unfold tabS; rw [hw, if_neg (by decide)]
          have hP : va_P D vwCl (wL cy tA0 4 (tabF (wS sg n) (k + 1))) H := by rw [e9]; exact hP
          have hD : va_D (va_A [] s.heap.size) (wL cy tA0 4 (tabF (wS sg n) (k + 1))) := by rw [e9]; exact hD
          refine lv_iinc (v := (nI (k + 1))) (lv' := [(7, .int (nI (k + 1))), (8, .int 0), (0, .ref gA0), (1, .ref wA0), (2, .ref lA0), (3, .ref rA0), (4, .int (sg 1)), (5, .ref tA0), (6, .int (nI (plN sg n)))]) hx hb dL_table_81 hl (k := 1) rfl (nI_1 k) (by decide) rfl (fun ls hl => ?_)
          refine lv_goto (tgt := 15) hx hb dL_table_84 (by decide) ?_
          exact tb_1 C0 FF0 K fu (k + 1) H locs ls (by omega) (by omega) hP hD hS (lv_sub hl [0, 2, 3, 4, 5, 6, 7, 8] rfl)
    · have e : k = 256 := by omega
      subst e
      refine lv_icmp_ge (tgt := 87) hx hb dL_table_20 (by decide) (fun _ => ?_) (fun h9 => absurd y256 h9)
      exact K H locs ls hP hD hS (lv_sub hl [0, 1, 2, 3, 4, 5, 6, 7] rfl)
end ISO
set_option maxHeartbeats 4000000 in
set_option maxRecDepth 100000 in
theorem c_L_table (l : Launch) (D : va_G) (cy : Nat → ClassId) (g : Nat → Nat) (B sz : Nat) (gA0 wA0 lA0 rA0 : Nat) {v : SetV} {tx : TxtV} {ga wa la ra sg : Nat → Int32} {n r : Nat} (hB : B ≤ sz) (F : soF v tx ga wa la ra sg n r) : Met l yL_table wsL_table ({ frames := 1, cells := 1, slots := 4, locals := 31 } : Room) (tbP D cy g B (List.flatten [(wI cy gA0 3 ga), (wI cy wA0 8 wa), (wI cy lA0 8 la), (wI cy rA0 4 ra)]) [.ref gA0, .ref wA0, .ref lA0, .ref rA0, .int (sg 1)] sz) (va_Qr (fun (_ : Unit) => True) (fun _ a t => va_P D vwCl (wL cy a 4 (tabF (wS sg n) 256)) t.heap ∧ va_D (va_A [] sz) (wL cy a 4 (tabF (wS sg n) 256))) (va_A [] sz)) 1 4 (va_A [] sz) := by
  refine Met.ofW (cc := cL_table) (maxL := 9) (ret := some (.array .long)) (by decide) rfl ?_
  intro p e s m args below meth c s₁ BB hml hv
  obtain ⟨rfl, ⟨hP0, hK0⟩, hsz⟩ := hv
  subst hsz
  have hx := BB.exec
  have hb := BB.bytes
  have hr := BB.returns
  have hts := atoms_spec (ws := wsL_table) BB.pre
  have hown : s.vm.findClass RL = some m.cls := findClass_of_methodNamed BB.named
  have hlk := BB.notSynchronized
  have FF0 := F
  obtain ⟨CHH, hAG, htx, hl8⟩ := F
  have hN := CHH.2.1
  have hL := CHH.2.2.1
  have h8 : n ≤ 8 := hN.2.1
  have S := my_fix hx hb hml hown hts
  have hAB : ∀ q, va_A ([] : va_W) s.heap.size q → B ≤ q := fun q h => Nat.le_of_not_lt (fun z => va_A_nil (Nat.lt_of_lt_of_le z hB) h)
  have C : tbC p l s m meth c ([.ref gA0, .ref wA0, .ref lA0, .ref rA0, .int (sg 1)] : List Value).toArray D cy g B (List.flatten [(wI cy gA0 3 ga), (wI cy wA0 8 wa), (wI cy lA0 8 la), (wI cy rA0 4 ra)]) := ⟨hx, hb, hr, hml, hown, hts, hlk, hK0, hB, hP0⟩
  have hA : ∀ q, s.heap.size ≤ q → va_A ([] : va_W) s.heap.size q := fun q h => Or.inr h
  have hS : va_S (va_A ([] : va_W) s.heap.size) s.heap s.heap [] := va_S.rf
  have hP : va_P D vwCl [] s.heap := fun k q h => by simp at h
  have hD : va_D (va_A ([] : va_W) s.heap.size) [] := ⟨fun i j p q h => by simp at h, fun k q h => by simp at h⟩
  have hl := lv_entry ([.ref gA0, .ref wA0, .ref lA0, .ref rA0, .int (sg 1)]) (n := 9) (Nat.le_of_ble_eq_true rfl)
  rw [lg_entry_eq]
  generalize (lg_sl ([.ref gA0, .ref wA0, .ref lA0, .ref rA0, .int (sg 1)]) ++ List.replicate (9 - (lg_sl ([.ref gA0, .ref wA0, .ref lA0, .ref rA0, .int (sg 1)])).length) Slot.unset).toArray = ls at hl ⊢
  have hl : lv_has ls 9 [(0, .ref gA0), (1, .ref wA0), (2, .ref lA0), (3, .ref rA0), (4, .int (sg 1))] := hl
  refine lv_iconst (v := 4) hx hb dL_table_0 (by decide) ?_
  refine va_newa (atype := .long) (a0 := (4, .inr (.inl (fun _ => 0)))) hx hb (hts (.arrayClass .long) (by decide +kernel)) rfl hK0.1 hP hD hS hA (fun _ => rfl) (by decide) (by decide) (by decide) (Nat.le_of_ble_eq_true rfl) (Nat.le_of_ble_eq_true rfl) dL_table_1 (fun tA0 cA H hK9 hP hD hS => ?_)
  obtain rfl := ty_long hK9
  have hP : va_P D vwCl (wL cy tA0 4 (tabF (wS sg n) 0)) H := hP
  have hD : va_D (va_A [] s.heap.size) (wL cy tA0 4 (tabF (wS sg n) 0)) := hD
  refine W.widen (k := 1) (n := 4) (Nat.le_of_ble_eq_true rfl) (Nat.le_of_ble_eq_true rfl) ?_
  refine lv_astore (lv' := [(5, .ref tA0), (0, .ref gA0), (1, .ref wA0), (2, .ref lA0), (3, .ref rA0), (4, .int (sg 1))]) hx hb dL_table_3 hl (by decide) rfl (fun ls hl => ?_)
  refine lv_aload_n hx hb dL_table_5 rfl (lv_at hl 1 rfl) ?_
  refine lv_aload_n hx hb dL_table_6 rfl (lv_at hl 3 rfl) ?_
  have hPa := my_P_kept hP0 (fun q h => hS.2.1 q h (va_A_nil h))
  refine rd_goi (va_runS (As := [.ref gA0, .ref lA0]) (rest := []) S (c_L_players l D cy g B gA0 lA0 ga la (by rw [hAG.1]; exact Int32.not_lt.mpr (nI_le (b := 8) h8 (by decide)))) (va_cwS 2 hts gL_table_L_players rfl rfl rfl hd_L_players_S ⟨Nat.le_of_ble_eq_true rfl, Nat.le_of_ble_eq_true rfl⟩) ⟨rdP_blind, my_preP hK0 hS hAB (hPa.sub [0, 2] rfl)⟩ rfl rfl hl.1 rfl (lv_room (Nat.le_of_ble_eq_true rfl)) dL_table_7 ⟨Nat.le_of_ble_eq_true rfl, Nat.le_of_ble_eq_true rfl⟩) ?_
  refine wk_ti (v := (nI (plN sg n))) (players_law hAG hN hL) ?_
  refine lv_istore (lv' := [(6, .int (nI (plN sg n))), (5, .ref tA0), (0, .ref gA0), (1, .ref wA0), (2, .ref lA0), (3, .ref rA0), (4, .int (sg 1))]) hx hb dL_table_10 hl (by decide) rfl (fun ls hl => ?_)
  refine lv_iconst (v := 0) hx hb dL_table_12 (by decide) ?_
  refine lv_istore (lv' := [(7, .int 0), (6, .int (nI (plN sg n))), (5, .ref tA0), (0, .ref gA0), (1, .ref wA0), (2, .ref lA0), (3, .ref rA0), (4, .int (sg 1))]) hx hb dL_table_13 hl (by decide) rfl (fun ls hl => ?_)
  refine tb_1 C FF0 (fun H locs ls hP hD hS hl => ?_) 257 0 H _ ls (by decide) (by decide) hP hD hS (lv_sub hl [0, 3, 4, 5, 6, 7, 2, 1] rfl)
  refine lv_aload hx hb dL_table_87 (lv_at hl 6 rfl) ?_
  exact W.aret (v := .ref tA0) hx hb hr (Or.inr ⟨_, rfl⟩) (Or.inr ⟨_, rfl⟩) (fun t ht hW => ⟨⟨(), tA0, rfl, trivial, by rw [ht]; exact hP, hD⟩, hS.F ht⟩) hS.2.2 dL_table_89
set_option maxHeartbeats 4000000 in
set_option maxRecDepth 100000 in
theorem c_L_isSo (l : Launch) (hl0 : l.stackTraces = false) (D : va_G) (cy : Nat → ClassId) (g : Nat → Nat) (B sz : Nat) (p70 : Nat) (b7 c7 d7 e7 h7 k7 : Nat → Nat) (gA0 wA0 lA0 rA0 : Nat) (st : Int32) (v : SetV) (w : PowV) (tx : TxtV) (ga wa la ra : Nat → Int32) {sg : Nat → Int32} {n r : Nat} (hB : B ≤ sz) (F : soF v tx ga wa la ra sg n r) (hp : pwr st sg w) : Met l yL_isSo wsL_isSo ({ frames := 9, cells := 800, slots := 4900, locals := 177 } : Room) (lzP D cy g B (List.flatten [(wPCo p70 b7 c7 d7 e7 h7 k7 st), (wSet cy b7 v), (wPow cy c7 w), (wTxt cy g k7 tx), (wI cy gA0 3 ga), (wI cy wA0 8 wa), (wI cy lA0 8 la), (wI cy rA0 4 ra)]) [.ref p70, .ref gA0, .ref wA0, .ref lA0, .ref rA0] sz) (va_Qi (fun (r9 : Int32) (u : Int32 × PowV) => r9 = 1 ∧ pwr u.1 sg u.2) (fun u t => va_P D vwCl (List.flatten [(wPCo p70 b7 c7 d7 e7 h7 k7 u.1), (wSet cy b7 v), (wPow cy c7 u.2), (wTxt cy g k7 tx), (wI cy gA0 3 ga), (wI cy wA0 8 wa), (wI cy lA0 8 la), (wI cy rA0 4 ra)]) t.heap) (va_A (List.flatten [(wPCo p70 b7 c7 d7 e7 h7 k7 st), (wSet cy b7 v), (wPow cy c7 w), (wTxt cy g k7 tx), (wI cy gA0 3 ga), (wI cy wA0 8 wa), (wI cy lA0 8 la), (wI cy rA0 4 ra)]) sz)) 800 4900 (va_A (List.flatten [(wPCo p70 b7 c7 d7 e7 h7 k7 st), (wSet cy b7 v), (wPow cy c7 w), (wTxt cy g k7 tx), (wI cy gA0 3 ga), (wI cy wA0 8 wa), (wI cy lA0 8 la), (wI cy rA0 4 ra)]) sz) := by
  refine Met.ofW (cc := cL_isSo) (maxL := 24) (ret := some .boolean) (by decide) rfl ?_
  intro p e s m args below meth c s₁ BB hml hv
  obtain ⟨rfl, ⟨⟨hP, hK0, hD0⟩, hNc⟩, hsz⟩ := hv
  subst hsz
  have hx := BB.exec
  have hb := BB.bytes
  have hr := BB.returns
  have hts := atoms_spec (ws := wsL_isSo) BB.pre
  have hown : s.vm.findClass RL = some m.cls := findClass_of_methodNamed BB.named
  have hlk := BB.notSynchronized
  have FF0 := F
  obtain ⟨CHH, hAG, htx, hl8⟩ := F
  have hN := CHH.2.1
  have hL := CHH.2.2.1
  have h8 : n ≤ 8 := hN.2.1
  have hr4 : r ≤ 4 := hN.2.2.2
  have S := my_fix hx hb hml hown hts
  have hAB : ∀ q, va_A (List.flatten [(wPCo p70 b7 c7 d7 e7 h7 k7 st), (wSet cy b7 v), (wPow cy c7 w), (wTxt cy g k7 tx), (wI cy gA0 3 ga), (wI cy wA0 8 wa), (wI cy lA0 8 la), (wI cy rA0 4 ra)]) s.heap.size q → B ≤ q := fun q h => h.elim (fun ⟨k, e, hk⟩ => hD0.2 k _ hk) (fun h => Nat.le_trans hB h)
  have hD := hD0.self (sz := s.heap.size)
  have hA : ∀ q, s.heap.size ≤ q → va_A (List.flatten [(wPCo p70 b7 c7 d7 e7 h7 k7 st), (wSet cy b7 v), (wPow cy c7 w), (wTxt cy g k7 tx), (wI cy gA0 3 ga), (wI cy wA0 8 wa), (wI cy lA0 8 la), (wI cy rA0 4 ra)]) s.heap.size q := fun q h => Or.inr h
  generalize hAe : va_A (List.flatten [(wPCo p70 b7 c7 d7 e7 h7 k7 st), (wSet cy b7 v), (wPow cy c7 w), (wTxt cy g k7 tx), (wI cy gA0 3 ga), (wI cy wA0 8 wa), (wI cy lA0 8 la), (wI cy rA0 4 ra)]) s.heap.size = A at hAB hD hA ⊢
  have hS : va_S A s.heap s.heap [] := va_S.rf
  have C : soC p l s m meth c ([.ref p70, .ref gA0, .ref wA0, .ref lA0, .ref rA0] : List Value).toArray D cy g B A := ⟨hl0, hx, hb, hr, hml, hown, hts, hlk, hK0, hNc, hAB, hA⟩
  have hl := lv_entry ([.ref p70, .ref gA0, .ref wA0, .ref lA0, .ref rA0]) (n := 24) (Nat.le_of_ble_eq_true rfl)
  rw [lg_entry_eq]
  generalize (lg_sl ([.ref p70, .ref gA0, .ref wA0, .ref lA0, .ref rA0]) ++ List.replicate (24 - (lg_sl ([.ref p70, .ref gA0, .ref wA0, .ref lA0, .ref rA0])).length) Slot.unset).toArray = ls at hl ⊢
  have hl : lv_has ls 24 [(0, .ref p70), (1, .ref gA0), (2, .ref wA0), (3, .ref lA0), (4, .ref rA0)] := hl
  refine lv_aload_n hx hb dL_isSo_0 rfl (lv_at hl 1 rfl) ?_
  refine lv_aload_n hx hb dL_isSo_1 rfl (lv_at hl 2 rfl) ?_
  refine lv_aload_n hx hb dL_isSo_2 rfl (lv_at hl 3 rfl) ?_
  refine lv_aload hx hb dL_isSo_3 (lv_at hl 4 rfl) ?_
  refine lv_aload_n hx hb dL_isSo_5 rfl (lv_at hl 1 rfl) ?_
  refine lv_iconst (v := 1) hx hb dL_isSo_6 (by decide) ?_
  refine wk_ia hx hb hK0.1 hP 28 0 (k := 1) (v := (sg 1)) rfl rfl (by decide) (by decide) hAG.2.1 dL_isSo_7 ?_
  have hFc := va_free (wc := []) hD hS hA [] rfl
  refine va_callr (va_runS (As := [.ref gA0, .ref wA0, .ref lA0, .ref rA0, .int (sg 1)]) (rest := []) S (c_L_table l D cy g B s.heap.size gA0 wA0 lA0 rA0 hB FF0) (va_cwS 5 hts gL_isSo_L_table rfl rfl rfl hd_L_table_S ⟨Nat.le_of_ble_eq_true rfl, Nat.le_of_ble_eq_true rfl⟩) ⟨tbP_blind, fun U hU hW => ⟨rfl, ⟨by rw [hU]; exact hP.sub [28, 29, 30, 31] rfl, by rw [hU]; exact (hK0.at hS hAB).warm hW⟩, by rw [hU]⟩⟩ rfl rfl hl.1 rfl (lv_room (Nat.le_of_ble_eq_true rfl)) dL_isSo_8 ⟨Nat.le_of_ble_eq_true rfl, Nat.le_of_ble_eq_true rfl⟩) hS (fun q _ h => hFc q h) hFc (fun u tA0 t H1 locs ht hvm hw hB1 hz1 hk1 hS => ?_)
  obtain ⟨hP1, hD1⟩ := hB1
  rw [ht] at hP1
  obtain ⟨hP, hD⟩ := va_join (wr := (List.flatten [(wPCo p70 b7 c7 d7 e7 h7 k7 st), (wSet cy b7 v), (wPow cy c7 w), (wTxt cy g k7 tx), (wI cy gA0 3 ga), (wI cy wA0 8 wa), (wI cy lA0 8 la), (wI cy rA0 4 ra)])) (w1 := (wL cy tA0 4 (tabF (wS sg n) 256))) hP hD [] [0, 1, 2, 3, 4, 5, 6, 7, 8, 9, 10, 11, 12, 13, 14, 15, 16, 17, 18, 19, 20, 21, 22, 23, 24, 25, 26, 27, 28, 29, 30, 31] rfl rfl (by decide) (by decide) hk1 hFc hP1 hD1
  generalize H1 = H at hP hS ⊢
  have hP : va_P D vwCl (List.flatten [(wPCo p70 b7 c7 d7 e7 h7 k7 st), (wSet cy b7 v), (wPow cy c7 w), (wTxt cy g k7 tx), (wI cy gA0 3 ga), (wI cy wA0 8 wa), (wI cy lA0 8 la), (wI cy rA0 4 ra), (wL cy tA0 4 (tabF (wS sg n) 256))]) H := hP
  have hD : va_D A (List.flatten [(wPCo p70 b7 c7 d7 e7 h7 k7 st), (wSet cy b7 v), (wPow cy c7 w), (wTxt cy g k7 tx), (wI cy gA0 3 ga), (wI cy wA0 8 wa), (wI cy lA0 8 la), (wI cy rA0 4 ra), (wL cy tA0 4 (tabF (wS sg n) 256))]) := hD
  refine W.widen (k := 1) (n := 4) (Nat.le_of_ble_eq_true rfl) (Nat.le_of_ble_eq_true rfl) ?_
  refine lv_astore (lv' := [(5, .ref tA0), (0, .ref p70), (1, .ref gA0), (2, .ref wA0), (3, .ref lA0), (4, .ref rA0)]) hx hb dL_isSo_11 hl (by decide) rfl (fun ls hl => ?_)
  refine lv_aload_n hx hb dL_isSo_13 rfl (lv_at hl 2 rfl) ?_
  refine lv_aload_n hx hb dL_isSo_14 rfl (lv_at hl 4 rfl) ?_
  refine rd_goi (va_runS (As := [.ref gA0, .ref lA0]) (rest := []) S (c_L_players l D cy g B gA0 lA0 ga la (by rw [hAG.1]; exact Int32.not_lt.mpr (nI_le (b := 8) h8 (by decide)))) (va_cwS 2 hts gL_isSo_L_players rfl rfl rfl hd_L_players_S ⟨Nat.le_of_ble_eq_true rfl, Nat.le_of_ble_eq_true rfl⟩) ⟨rdP_blind, my_preV hK0 hS hAB hP [28, 30] rfl⟩ rfl rfl hl.1 rfl (lv_room (Nat.le_of_ble_eq_true rfl)) dL_isSo_15 ⟨Nat.le_of_ble_eq_true rfl, Nat.le_of_ble_eq_true rfl⟩) ?_
  refine wk_ti (v := (nI (plN sg n))) (players_law hAG hN hL) ?_
  refine lv_istore (lv' := [(6, .int (nI (plN sg n))), (5, .ref tA0), (0, .ref p70), (1, .ref gA0), (2, .ref wA0), (3, .ref lA0), (4, .ref rA0)]) hx hb dL_isSo_18 hl (by decide) rfl (fun ls hl => ?_)
  refine lv_aload hx hb dL_isSo_20 (lv_at hl 1 rfl) ?_
  have hT : ∀ j, j < 256 → f_L_at (tabF (wS sg n) 256) (nI j) = bI (wS sg n j) := fun j hj => at_tab _ hj
  refine rd_goi (va_runS (As := [.ref tA0]) (rest := []) S (c_L_sum l D cy g B tA0 (tabF (wS sg n) 256)) (va_cwS 1 hts gL_isSo_L_sum rfl rfl rfl hd_L_sum_S ⟨Nat.le_of_ble_eq_true rfl, Nat.le_of_ble_eq_true rfl⟩) ⟨rdP_blind, my_preV hK0 hS hAB hP [32] rfl⟩ rfl rfl hl.1 rfl (lv_room (Nat.le_of_ble_eq_true rfl)) dL_isSo_22 ⟨Nat.le_of_ble_eq_true rfl, Nat.le_of_ble_eq_true rfl⟩) ?_
  refine wk_ti (v := (allF (wS sg n) 256)) (sum_law hT) ?_
  refine lv_istore (lv' := [(7, .int (allF (wS sg n) 256)), (6, .int (nI (plN sg n))), (5, .ref tA0), (0, .ref p70), (1, .ref gA0), (2, .ref wA0), (3, .ref lA0), (4, .ref rA0)]) hx hb dL_isSo_25 hl (by decide) rfl (fun ls hl => ?_)
  refine lv_iconst (v := 0) hx hb dL_isSo_27 (by decide) ?_
  refine lv_istore (lv' := [(8, .int 0), (7, .int (allF (wS sg n) 256)), (6, .int (nI (plN sg n))), (5, .ref tA0), (0, .ref p70), (1, .ref gA0), (2, .ref wA0), (3, .ref lA0), (4, .ref rA0)]) hx hb dL_isSo_28 hl (by decide) rfl (fun ls hl => ?_)
  refine lv_iconst (v := 0) hx hb dL_isSo_30 (by decide) ?_
  refine lv_istore (lv' := [(9, .int 0), (8, .int 0), (7, .int (allF (wS sg n) 256)), (6, .int (nI (plN sg n))), (5, .ref tA0), (0, .ref p70), (1, .ref gA0), (2, .ref wA0), (3, .ref lA0), (4, .ref rA0)]) hx hb dL_isSo_31 hl (by decide) rfl (fun ls hl => ?_)
  refine lv_iconst (v := 0) hx hb dL_isSo_33 (by decide) ?_
  refine lv_istore (lv' := [(10, .int 0), (9, .int 0), (8, .int 0), (7, .int (allF (wS sg n) 256)), (6, .int (nI (plN sg n))), (5, .ref tA0), (0, .ref p70), (1, .ref gA0), (2, .ref wA0), (3, .ref lA0), (4, .ref rA0)]) hx hb dL_isSo_34 hl (by decide) rfl (fun ls hl => ?_)
  refine lv_iconst (v := 0) hx hb dL_isSo_36 (by decide) ?_
  refine lv_istore (lv' := [(11, .int 0), (10, .int 0), (9, .int 0), (8, .int 0), (7, .int (allF (wS sg n) 256)), (6, .int (nI (plN sg n))), (5, .ref tA0), (0, .ref p70), (1, .ref gA0), (2, .ref wA0), (3, .ref lA0), (4, .ref rA0)]) hx hb dL_isSo_37 hl (by decide) rfl (fun ls hl => ?_)
  refine lv_iconst (v := 0) hx hb dL_isSo_39 (by decide) ?_
  refine lv_istore (lv' := [(12, .int 0), (11, .int 0), (10, .int 0), (9, .int 0), (8, .int 0), (7, .int (allF (wS sg n) 256)), (6, .int (nI (plN sg n))), (5, .ref tA0), (0, .ref p70), (1, .ref gA0), (2, .ref wA0), (3, .ref lA0), (4, .ref rA0)]) hx hb dL_isSo_40 hl (by decide) rfl (fun ls hl => ?_)
  refine lv_iconst (v := 0) hx hb dL_isSo_42 (by decide) ?_
  refine lv_istore (lv' := [(13, .int 0), (12, .int 0), (11, .int 0), (10, .int 0), (9, .int 0), (8, .int 0), (7, .int (allF (wS sg n) 256)), (6, .int (nI (plN sg n))), (5, .ref tA0), (0, .ref p70), (1, .ref gA0), (2, .ref wA0), (3, .ref lA0), (4, .ref rA0)]) hx hb dL_isSo_43 hl (by decide) rfl (fun ls hl => ?_)
  refine lv_iconst (v := 1) hx hb dL_isSo_45 (by decide) ?_
  refine lv_istore (lv' := [(14, .int 1), (13, .int 0), (12, .int 0), (11, .int 0), (10, .int 0), (9, .int 0), (8, .int 0), (7, .int (allF (wS sg n) 256)), (6, .int (nI (plN sg n))), (5, .ref tA0), (0, .ref p70), (1, .ref gA0), (2, .ref wA0), (3, .ref lA0), (4, .ref rA0)]) hx hb dL_isSo_46 hl (by decide) rfl (fun ls hl => ?_)
  refine lv_iconst (v := 0) hx hb dL_isSo_48 (by decide) ?_
  refine lv_istore (lv' := [(15, .int 0), (14, .int 1), (13, .int 0), (12, .int 0), (11, .int 0), (10, .int 0), (9, .int 0), (8, .int 0), (7, .int (allF (wS sg n) 256)), (6, .int (nI (plN sg n))), (5, .ref tA0), (0, .ref p70), (1, .ref gA0), (2, .ref wA0), (3, .ref lA0), (4, .ref rA0)]) hx hb dL_isSo_49 hl (by decide) rfl (fun ls hl => ?_)
  refine so_1 C FF0 (fun st w cq sq H locs ls hcq hsq hp hP hD hS hl => ?_) 257 0 st w 1 4 H locs ls (by decide) (by decide) (by decide) (by decide) hp hP hD hS (lv_sub hl [0, 3, 2, 7, 6, 5, 4, 1, 11, 12, 13, 14, 15, 10, 9, 8] rfl)
  refine lv_iconst (v := 0) hx hb dL_isSo_246 (by decide) ?_
  refine lv_istore (lv' := [(15, .int 0), (12, .int (nI (cN (wS sg n) 256))), (13, .int (nI (cN (leB (wS sg n)) 256))), (8, .int 0), (9, .int 0), (10, .int 0), (11, .int 0), (14, .int 1), (0, .ref p70), (1, .ref gA0), (2, .ref wA0), (3, .ref lA0), (4, .ref rA0), (5, .ref tA0), (6, .int (nI (plN sg n))), (7, .int (allF (wS sg n) 256))]) hx hb dL_isSo_247 hl (by decide) rfl (fun ls hl => ?_)
  refine so_2 C FF0 (fun st w cq sq H locs ls hcq hsq hp hP hD hS hl => ?_) (n + 1) 0 st w cq sq H locs ls (by omega) (Nat.zero_le _) (by omega) (by omega) hp hP hD hS (lv_sub hl [0, 3, 4, 5, 6, 1, 2, 7, 8, 9, 10, 11, 12, 13, 14, 15] rfl)
  refine lv_iconst (v := 0) hx hb dL_isSo_734 (by decide) ?_
  refine lv_istore (lv' := [(15, .int 0), (8, .int (nI (wsN sg n))), (9, .int (nI (duN sg n n))), (10, .int (nI (neN sg n n))), (11, .int (orK sg n n)), (12, .int (nI (cN (wS sg n) 256))), (13, .int (nI (cN (leB (wS sg n)) 256))), (14, .int 1), (0, .ref p70), (1, .ref gA0), (2, .ref wA0), (3, .ref lA0), (4, .ref rA0), (5, .ref tA0), (6, .int (nI (plN sg n))), (7, .int (allF (wS sg n) 256))]) hx hb dL_isSo_735 hl (by decide) rfl (fun ls hl => ?_)
  refine lv_iconst (v := 0) hx hb dL_isSo_737 (by decide) ?_
  refine lv_istore (lv' := [(16, .int 0), (15, .int 0), (8, .int (nI (wsN sg n))), (9, .int (nI (duN sg n n))), (10, .int (nI (neN sg n n))), (11, .int (orK sg n n)), (12, .int (nI (cN (wS sg n) 256))), (13, .int (nI (cN (leB (wS sg n)) 256))), (14, .int 1), (0, .ref p70), (1, .ref gA0), (2, .ref wA0), (3, .ref lA0), (4, .ref rA0), (5, .ref tA0), (6, .int (nI (plN sg n))), (7, .int (allF (wS sg n) 256))]) hx hb dL_isSo_738 hl (by decide) rfl (fun ls hl => ?_)
  refine so_3 C FF0 (fun st w cq sq H locs ls hcq hsq hp hP hD hS hl => ?_) (r + 1) 0 st w cq sq H locs ls (by omega) (Nat.zero_le _) (by omega) (by omega) hp hP hD hS (lv_sub hl [0, 1, 8, 2, 3, 4, 5, 6, 7, 9, 10, 11, 12, 13, 14, 15, 16] rfl)
  refine so_5 C FF0 (by omega) (by omega) hp hP hD hS (lv_sub hl [2, 1, 3, 4, 5, 6, 7, 8, 9, 10, 11, 12, 13, 14, 15, 16] rfl) (fun st w cq1 sq1 H locs ls hc1 hs1 hp hP hD hS => ?_)
  refine W.widen (k := 800) (n := 4900) (by omega) (by omega) ?_
  have hP9 := hP.sub (ws' := (List.flatten [(wPCo p70 b7 c7 d7 e7 h7 k7 st), (wSet cy b7 v), (wPow cy c7 w), (wTxt cy g k7 tx), (wI cy gA0 3 ga), (wI cy wA0 8 wa), (wI cy lA0 8 la), (wI cy rA0 4 ra)])) [0, 1, 2, 3, 4, 5, 6, 7, 8, 9, 10, 11, 12, 13, 14, 15, 16, 17, 18, 19, 20, 21, 22, 23, 24, 25, 26, 27, 28, 29, 30, 31] rfl
  exact W.zret (ty := .boolean) (v := 1) hx hb hr (my_nz (Or.inr rfl)) (fun t ht hW => ⟨⟨1, (st, w), rfl, ⟨rfl, hp⟩, by show va_P D vwCl _ t.heap; rw [ht]; exact hP9⟩, hS.F ht⟩) hS.2.2 dL_isSo_1107
