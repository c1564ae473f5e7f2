/-! part 90: isSo: its small loops -/
abbrev isoR : Room := (headSpec wsL_isSo ({ frames := 9, cells := 800, slots := 4900, locals := 177 } : Room)).room
/-- what stays all along a run of isSo -/
def soC (p : Program) (l : Launch) (s : State) (m : MethodId) (meth : Method) (c : Code) (args : Array Value) (D : va_G) (cy : Nat → ClassId) (g : Nat → Nat) (B : Nat) (A : Nat → Prop) : Prop := l.stackTraces = false ∧ p.tables.exec = Jvm.exec ∧ c.code = cL_isSo ∧ meth.sig.returnType = some .boolean ∧ c.maxLocals = 24 ∧ s.vm.findClass RL = some m.cls ∧ (∀ w ∈ wsL_isSo, w.before args s = true) ∧ meth.locks = false ∧ myK D cy g B s s.heap ∧ ncOK s ∧ (∀ q, A q → B ≤ q) ∧ ∀ q, s.heap.size ≤ q → A q
/-- the chamber and the law's arrays hold one setting -/
def soF (v : SetV) (tx : TxtV) (ga wa la ra sg : Nat → Int32) (n r : Nat) : Prop := CH v sg n r ∧ AG ga wa la ra sg n r ∧ tx.1 = 0 ∧ ∀ j : Nat, ¬ 8 ≤ la j
/-- is a winning set a least one: what the law has found behind k members -/
def leK (W : Nat → Bool) (j k : Nat) : Bool := fd (fun i b => b && (!j.testBit i || !W (clr j i))) k (W j)
theorem leK_s (W : Nat → Bool) (j k : Nat) : leK W j (k + 1) = (leK W j k && (!j.testBit k || !W (clr j k))) := rfl
theorem leK_8 (W : Nat → Bool) (j : Nat) : leK W j 8 = leB W j := rfl
theorem clr_sub : ∀ k, k < 8 → ∀ j, j < 256 → j.testBit k = true → (nI j - (1 <<< (nI k &&& 31)) : Int32) = nI (clr j k) := by decide +kernel
theorem bI_1 : bI true = 1 := rfl
theorem n256f {k : Nat} (h : k < 2 ^ 31) (h2 : 256 ≤ k) : (256 : Int32) ≤ nI k := nI_le h2 h
theorem n8f {k : Nat} (h : k < 2 ^ 31) (h2 : 8 ≤ k) : (8 : Int32) ≤ nI k := nI_le h2 h
theorem pos_ct {a : Nat} (h : a < 2 ^ 31) : nI a ≤ 0 ↔ ¬ 0 < a := by
  show nI a ≤ nI 0 ↔ _
  rw [nI_leI h (by decide)]; omega
section ISO
variable {p : Program} {l : Launch} {e : Env} {s : State} {m : MethodId} {args : Array Value} {below : List Frame} {meth : Method} {c : Code} {Q : State → Prop} {D : va_G} {cy : Nat → ClassId} {g : Nat → Nat} {B : Nat} {A : Nat → Prop}
variable {p70 : Nat} {b7 c7 d7 e7 h7 k7 : Nat → Nat} {gA0 wA0 lA0 rA0 tA0 : Nat} {v : SetV} {tx : TxtV} {ga wa la ra sg : Nat → Int32} {n r : Nat}
set_option maxHeartbeats 4000000 in
set_option maxRecDepth 100000 in
theorem so_min (C : soC p l s m meth c args D cy g B A) (F : soF v tx ga wa la ra sg n r) {st : Int32} {w : PowV} {cq sq : Nat} {j : Nat} {x12 x13 : Int32} (hj : j < 256) (hcq : cq ≤ 790) (hsq : sq ≤ 4890) (K : ∀ (H : Heap) (locs : List Loc) (ls : Array Slot), va_P D vwCl (List.flatten [(wPCo p70 b7 c7 d7 e7 h7 k7 st), (wSet cy b7 v), (wPow cy c7 w), (wTxt cy g k7 tx), (wI cy gA0 3 ga), (wI cy wA0 8 wa), (wI cy lA0 8 la), (wI cy rA0 4 ra), (wL cy tA0 4 (tabF (wS sg n) 256))]) H → va_D A (List.flatten [(wPCo p70 b7 c7 d7 e7 h7 k7 st), (wSet cy b7 v), (wPow cy c7 w), (wTxt cy g k7 tx), (wI cy gA0 3 ga), (wI cy wA0 8 wa), (wI cy lA0 8 la), (wI cy rA0 4 ra), (wL cy tA0 4 (tabF (wS sg n) 256))]) → va_S A s.heap H locs → lv_has ls 24 [(18, .int (nI 8)), (17, .int (bI (leB (wS sg n) j))), (15, .int (nI j)), (16, .int (bI (wS sg n j))), (8, .int 0), (9, .int 0), (10, .int 0), (11, .int 0), (12, .int x12), (13, .int x13), (14, .int 1), (0, .ref p70), (1, .ref gA0), (2, .ref wA0), (3, .ref lA0), (4, .ref rA0), (5, .ref tA0), (6, .int (nI (plN sg n))), (7, .int (allF (wS sg n) 256))] → W p l e isoR s m args below meth c H locs cq sq Q (F0 m 130 ls [])) : ∀ (fu k : Nat) (H : Heap) (locs : List Loc) (ls : Array Slot), 8 - k < fu → k ≤ 8 → va_P D vwCl (List.flatten [(wPCo p70 b7 c7 d7 e7 h7 k7 st), (wSet cy b7 v), (wPow cy c7 w), (wTxt cy g k7 tx), (wI cy gA0 3 ga), (wI cy wA0 8 wa), (wI cy lA0 8 la), (wI cy rA0 4 ra), (wL cy tA0 4 (tabF (wS sg n) 256))]) H → va_D A (List.flatten [(wPCo p70 b7 c7 d7 e7 h7 k7 st), (wSet cy b7 v), (wPow cy c7 w), (wTxt cy g k7 tx), (wI cy gA0 3 ga), (wI cy wA0 8 wa), (wI cy lA0 8 la), (wI cy rA0 4 ra), (wL cy tA0 4 (tabF (wS sg n) 256))]) → va_S A s.heap H locs → lv_has ls 24 [(18, .int (nI k)), (17, .int (bI (leK (wS sg n) j k))), (15, .int (nI j)), (16, .int (bI (wS sg n j))), (8, .int 0), (9, .int 0), (10, .int 0), (11, .int 0), (12, .int x12), (13, .int x13), (14, .int 1), (0, .ref p70), (1, .ref gA0), (2, .ref wA0), (3, .ref lA0), (4, .ref rA0), (5, .ref tA0), (6, .int (nI (plN sg n))), (7, .int (allF (wS sg n) 256))] → W p l e isoR s m args below meth c H locs cq sq Q (F0 m 80 ls [])
  | 0, _, _, _, _ => fun h => absurd h (Nat.not_lt_zero _)
  | fu + 1, k, H, locs, ls => by
    intro hfu hk8 hP hD hS hl
    have C0 := C
    have FF0 := F
    obtain ⟨hl0, hx, hb, hr9, hml, hown, hts, hlk, hK0, hNc, hAB, hA⟩ := C
    obtain ⟨CHH, hAG, htx, hl8⟩ := F
    have hV := CHH.1
    have hN := CHH.2.1
    have hL := CHH.2.2.1
    have hW := CHH.2.2.2.1
    have hR := CHH.2.2.2.2.1
    have h8 : n ≤ 8 := hN.2.1
    have hr4 : r ≤ 4 := hN.2.2.2
    have hp256 := plN_lt (s := sg) h8
    have S := my_fix hx hb hml hown hts
    have hT : ∀ j, j < 256 → f_L_at (tabF (wS sg n) 256) (nI j) = bI (wS sg n j) := fun j hj => at_tab _ hj
    refine lv_iload hx hb dL_isSo_80 (lv_at hl 0 rfl) ?_
    refine lv_bipush (v := 8) hx hb dL_isSo_82 (by decide) ?_
    rcases Nat.lt_or_ge k 8 with hk | hk
    · refine lv_icmp_ge (tgt := 130) hx hb dL_isSo_84 (by decide) (fun h9 => absurd h9 (n8 hk)) (fun _ => ?_)
      refine lv_iload hx hb dL_isSo_87 (lv_at hl 1 rfl) ?_
      cases hbb : leK (wS sg n) j k
      · refine lv_if_eq (tgt := 121) hx hb dL_isSo_89 (by decide) (fun _ => ?_) (fun h9 => absurd (show bI false = 0 from rfl) h9)
        refine lv_iconst (v := 0) hx hb dL_isSo_121 (by decide) ?_
        refine lv_istore (lv' := [(17, .int 0), (18, .int (nI k)), (15, .int (nI j)), (16, .int (bI (wS sg n j))), (8, .int 0), (9, .int 0), (10, .int 0), (11, .int 0), (12, .int x12), (13, .int x13), (14, .int 1), (0, .ref p70), (1, .ref gA0), (2, .ref wA0), (3, .ref lA0), (4, .ref rA0), (5, .ref tA0), (6, .int (nI (plN sg n))), (7, .int (allF (wS sg n) 256))]) hx hb dL_isSo_122 hl (by decide) rfl (fun ls hl => ?_)
        refine lv_iinc (v := (nI (k + 1))) (lv' := [(18, .int (nI (k + 1))), (17, .int 0), (15, .int (nI j)), (16, .int (bI (wS sg n j))), (8, .int 0), (9, .int 0), (10, .int 0), (11, .int 0), (12, .int x12), (13, .int x13), (14, .int 1), (0, .ref p70), (1, .ref gA0), (2, .ref wA0), (3, .ref lA0), (4, .ref rA0), (5, .ref tA0), (6, .int (nI (plN sg n))), (7, .int (allF (wS sg n) 256))]) hx hb dL_isSo_124 hl (k := 1) rfl (nI_1 k) (by decide) rfl (fun ls hl => ?_)
        refine lv_goto (tgt := 80) hx hb dL_isSo_127 (by decide) ?_
        have e9 : bI (leK (wS sg n) j (k + 1)) = 0 := by rw [leK_s]; rw [hbb]; rfl
        refine so_min C0 FF0 hj hcq hsq K fu (k + 1) H locs ls (by omega) (by omega) hP hD hS ?_
        rw [e9]; exact lv_sub hl [0, 1, 2, 3, 4, 5, 6, 7, 8, 9, 10, 11, 12, 13, 14, 15, 16, 17, 18] rfl
      · refine lv_if_eq (tgt := 121) hx hb dL_isSo_89 (by decide) (fun h9 => absurd h9 (show ¬ bI true = 0 by decide)) (fun _ => ?_)
        refine lv_iload hx hb dL_isSo_92 (lv_at hl 2 rfl) ?_
        refine lv_iload hx hb dL_isSo_94 (lv_at hl 0 rfl) ?_
        refine lv_ishr hx hb dL_isSo_96 ?_
        refine lv_iconst (v := 1) hx hb dL_isSo_97 (by decide) ?_
        refine lv_iand hx hb dL_isSo_98 ?_
        refine wk_ti (x := (((nI j) >>> ((nI k) &&& 31)) &&& 1)) (v := (bI (j.testBit k))) (bit_val hk hj) ?_
        cases hc : j.testBit k
        · refine lv_if_eq (tgt := 117) hx hb dL_isSo_99 (by decide) (fun _ => ?_) (fun h9 => absurd (show bI false = 0 from rfl) h9)
          refine lv_iconst (v := 1) hx hb dL_isSo_117 (by decide) ?_
          refine lv_goto (tgt := 122) hx hb dL_isSo_118 (by decide) ?_
          refine lv_istore (lv' := [(17, .int 1), (18, .int (nI k)), (15, .int (nI j)), (16, .int (bI (wS sg n j))), (8, .int 0), (9, .int 0), (10, .int 0), (11, .int 0), (12, .int x12), (13, .int x13), (14, .int 1), (0, .ref p70), (1, .ref gA0), (2, .ref wA0), (3, .ref lA0), (4, .ref rA0), (5, .ref tA0), (6, .int (nI (plN sg n))), (7, .int (allF (wS sg n) 256))]) hx hb dL_isSo_122 hl (by decide) rfl (fun ls hl => ?_)
          refine lv_iinc (v := (nI (k + 1))) (lv' := [(18, .int (nI (k + 1))), (17, .int 1), (15, .int (nI j)), (16, .int (bI (wS sg n j))), (8, .int 0), (9, .int 0), (10, .int 0), (11, .int 0), (12, .int x12), (13, .int x13), (14, .int 1), (0, .ref p70), (1, .ref gA0), (2, .ref wA0), (3, .ref lA0), (4, .ref rA0), (5, .ref tA0), (6, .int (nI (plN sg n))), (7, .int (allF (wS sg n) 256))]) hx hb dL_isSo_124 hl (k := 1) rfl (nI_1 k) (by decide) rfl (fun ls hl => ?_)
          refine lv_goto (tgt := 80) hx hb dL_isSo_127 (by decide) ?_
          have e9 : bI (leK (wS sg n) j (k + 1)) = 1 := by rw [leK_s]; rw [hbb, hc]; rfl
          refine so_min C0 FF0 hj hcq hsq K fu (k + 1) H locs ls (by omega) (by omega) hP hD hS ?_
          rw [e9]; exact lv_sub hl [0, 1, 2, 3, 4, 5, 6, 7, 8, 9, 10, 11, 12, 13, 14, 15, 16, 17, 18] rfl
        · refine lv_if_eq (tgt := 117) hx hb dL_isSo_99 (by decide) (fun h9 => absurd h9 (show ¬ bI true = 0 by decide)) (fun _ => ?_)
          refine lv_aload hx hb dL_isSo_102 (lv_at hl 16 rfl) ?_
          refine lv_iload hx hb dL_isSo_104 (lv_at hl 2 rfl) ?_
          refine lv_iconst (v := 1) hx hb dL_isSo_106 (by decide) ?_
          refine lv_iload hx hb dL_isSo_107 (lv_at hl 0 rfl) ?_
          refine lv_ishl hx hb dL_isSo_109 ?_
          refine lv_isub hx hb dL_isSo_110 ?_
          refine wk_ti (x := ((nI j) - (1 <<< ((nI k) &&& 31)))) (v := (nI (clr j k))) (clr_sub k hk j hj hc) ?_
          refine rd_goi (va_runS (As := [.ref tA0, .int (nI (clr j k))]) (rest := []) S (c_L_at l D cy g B tA0 (tabF (wS sg n) 256) _ (nI_pos (show clr j k < 2 ^ 31 by have := clr_lt (m := k) hj; omega)) (n256 (clr_lt hj))) (va_cwS 2 hts gL_isSo_L_at rfl rfl rfl hd_L_at_S ⟨Nat.le_of_ble_eq_true rfl, Nat.le_of_ble_eq_true rfl⟩) ⟨rdP_blind, my_preV hK0 hS hAB hP [32] rfl⟩ rfl rfl hl.1 rfl (lv_room (Nat.le_of_ble_eq_true rfl)) dL_isSo_111 ⟨(show cq + 0 ≤ 800 by omega), (show sq + 0 ≤ 4900 by omega)⟩) ?_
          refine wk_ti (v := (bI (wS sg n (clr j k)))) (hT _ (clr_lt hj)) ?_
          cases hd : wS sg n (clr j k)
          · refine lv_if_ne (tgt := 121) hx hb dL_isSo_114 (by decide) (fun h9 => absurd (show bI false = 0 from rfl) h9) (fun _ => ?_)
            refine lv_iconst (v := 1) hx hb dL_isSo_117 (by decide) ?_
            refine lv_goto (tgt := 122) hx hb dL_isSo_118 (by decide) ?_
            refine lv_istore (lv' := [(17, .int 1), (18, .int (nI k)), (15, .int (nI j)), (16, .int (bI (wS sg n j))), (8, .int 0), (9, .int 0), (10, .int 0), (11, .int 0), (12, .int x12), (13, .int x13), (14, .int 1), (0, .ref p70), (1, .ref gA0), (2, .ref wA0), (3, .ref lA0), (4, .ref rA0), (5, .ref tA0), (6, .int (nI (plN sg n))), (7, .int (allF (wS sg n) 256))]) hx hb dL_isSo_122 hl (by decide) rfl (fun ls hl => ?_)
            refine lv_iinc (v := (nI (k + 1))) (lv' := [(18, .int (nI (k + 1))), (17, .int 1), (15, .int (nI j)), (16, .int (bI (wS sg n j))), (8, .int 0), (9, .int 0), (10, .int 0), (11, .int 0), (12, .int x12), (13, .int x13), (14, .int 1), (0, .ref p70), (1, .ref gA0), (2, .ref wA0), (3, .ref lA0), (4, .ref rA0), (5, .ref tA0), (6, .int (nI (plN sg n))), (7, .int (allF (wS sg n) 256))]) hx hb dL_isSo_124 hl (k := 1) rfl (nI_1 k) (by decide) rfl (fun ls hl => ?_)
            refine lv_goto (tgt := 80) hx hb dL_isSo_127 (by decide) ?_
            have e9 : bI (leK (wS sg n) j (k + 1)) = 1 := by rw [leK_s]; rw [hbb, hc, hd]; rfl
            refine so_min C0 FF0 hj hcq hsq K fu (k + 1) H locs ls (by omega) (by omega) hP hD hS ?_
            rw [e9]; exact lv_sub hl [0, 1, 2, 3, 4, 5, 6, 7, 8, 9, 10, 11, 12, 13, 14, 15, 16, 17, 18] rfl
          · refine lv_if_ne (tgt := 121) hx hb dL_isSo_114 (by decide) (fun _ => ?_) (fun h9 => absurd h9 (show ¬ bI true = 0 by decide))
            refine lv_iconst (v := 0) hx hb dL_isSo_121 (by decide) ?_
            refine lv_istore (lv' := [(17, .int 0), (18, .int (nI k)), (15, .int (nI j)), (16, .int (bI (wS sg n j))), (8, .int 0), (9, .int 0), (10, .int 0), (11, .int 0), (12, .int x12), (13, .int x13), (14, .int 1), (0, .ref p70), (1, .ref gA0), (2, .ref wA0), (3, .ref lA0), (4, .ref rA0), (5, .ref tA0), (6, .int (nI (plN sg n))), (7, .int (allF (wS sg n) 256))]) hx hb dL_isSo_122 hl (by decide) rfl (fun ls hl => ?_)
            refine lv_iinc (v := (nI (k + 1))) (lv' := [(18, .int (nI (k + 1))), (17, .int 0), (15, .int (nI j)), (16, .int (bI (wS sg n j))), (8, .int 0), (9, .int 0), (10, .int 0), (11, .int 0), (12, .int x12), (13, .int x13), (14, .int 1), (0, .ref p70), (1, .ref gA0), (2, .ref wA0), (3, .ref lA0), (4, .ref rA0), (5, .ref tA0), (6, .int (nI (plN sg n))), (7, .int (allF (wS sg n) 256))]) hx hb dL_isSo_124 hl (k := 1) rfl (nI_1 k) (by decide) rfl (fun ls hl => ?_)
            refine lv_goto (tgt := 80) hx hb dL_isSo_127 (by decide) ?_
            have e9 : bI (leK (wS sg n) j (k + 1)) = 0 := by rw [leK_s]; rw [hbb, hc, hd]; rfl
            refine so_min C0 FF0 hj hcq hsq K fu (k + 1) H locs ls (by omega) (by omega) hP hD hS ?_
            rw [e9]; exact lv_sub hl [0, 1, 2, 3, 4, 5, 6, 7, 8, 9, 10, 11, 12, 13, 14, 15, 16, 17, 18] rfl
    · have e : k = 8 := by omega
      subst e
      refine lv_icmp_ge (tgt := 130) hx hb dL_isSo_84 (by decide) (fun _ => ?_) (fun h9 => absurd y8 h9)
      exact K H locs ls hP hD hS (lv_sub hl [0, 1, 2, 3, 4, 5, 6, 7, 8, 9, 10, 11, 12, 13, 14, 15, 16, 17, 18] rfl)
/-- the orders of the first k members -/
def orK (s : Nat → Int32) (n k : Nat) : Int32 := fd (fun i (x : Int32) => x + orF (wS s n) (nI (plN s n)) i 256) k 0
set_option maxHeartbeats 4000000 in
set_option maxRecDepth 100000 in
theorem so_heavy (C : soC p l s m meth c args D cy g B A) (F : soF v tx ga wa la ra sg n r) {st : Int32} {w : PowV} {cq sq : Nat} {k : Nat} (hkn : k < n) (hcq : cq ≤ 790) (hsq : sq ≤ 4890) (K : ∀ (H : Heap) (locs : List Loc) (ls : Array Slot), va_P D vwCl (List.flatten [(wPCo p70 b7 c7 d7 e7 h7 k7 st), (wSet cy b7 v), (wPow cy c7 w), (wTxt cy g k7 tx), (wI cy gA0 3 ga), (wI cy wA0 8 wa), (wI cy lA0 8 la), (wI cy rA0 4 ra), (wL cy tA0 4 (tabF (wS sg n) 256))]) H → va_D A (List.flatten [(wPCo p70 b7 c7 d7 e7 h7 k7 st), (wSet cy b7 v), (wPow cy c7 w), (wTxt cy g k7 tx), (wI cy gA0 3 ga), (wI cy wA0 8 wa), (wI cy lA0 8 la), (wI cy rA0 4 ra), (wL cy tA0 4 (tabF (wS sg n) 256))]) → va_S A s.heap H locs → lv_has ls 24 [(19, .int (nI n)), (16, .int (nI (hvN sg k n))), (17, .int (nI (cN (fun a => decide (sg (11 + a) = nI k)) n))), (18, .int (bI (nd1 sg n k 0))), (8, .int (nI (wsN sg k))), (9, .int (nI (duN sg n k))), (10, .int (nI (neN sg n k))), (11, .int (orK sg n k)), (12, .int (nI (cN (wS sg n) 256))), (13, .int (nI (cN (leB (wS sg n)) 256))), (14, .int 1), (15, .int (nI k)), (0, .ref p70), (1, .ref gA0), (2, .ref wA0), (3, .ref lA0), (4, .ref rA0), (5, .ref tA0), (6, .int (nI (plN sg n))), (7, .int (allF (wS sg n) 256))] → W p l e isoR s m args below meth c H locs cq sq Q (F0 m 359 ls [])) : ∀ (fu i : Nat) (H : Heap) (locs : List Loc) (ls : Array Slot), n - i < fu → i ≤ n → va_P D vwCl (List.flatten [(wPCo p70 b7 c7 d7 e7 h7 k7 st), (wSet cy b7 v), (wPow cy c7 w), (wTxt cy g k7 tx), (wI cy gA0 3 ga), (wI cy wA0 8 wa), (wI cy lA0 8 la), (wI cy rA0 4 ra), (wL cy tA0 4 (tabF (wS sg n) 256))]) H → va_D A (List.flatten [(wPCo p70 b7 c7 d7 e7 h7 k7 st), (wSet cy b7 v), (wPow cy c7 w), (wTxt cy g k7 tx), (wI cy gA0 3 ga), (wI cy wA0 8 wa), (wI cy lA0 8 la), (wI cy rA0 4 ra), (wL cy tA0 4 (tabF (wS sg n) 256))]) → va_S A s.heap H locs → lv_has ls 24 [(19, .int (nI i)), (16, .int (nI (hvN sg k i))), (17, .int (nI (cN (fun a => decide (sg (11 + a) = nI k)) i))), (18, .int (bI (nd1 sg n k 0))), (8, .int (nI (wsN sg k))), (9, .int (nI (duN sg n k))), (10, .int (nI (neN sg n k))), (11, .int (orK sg n k)), (12, .int (nI (cN (wS sg n) 256))), (13, .int (nI (cN (leB (wS sg n)) 256))), (14, .int 1), (15, .int (nI k)), (0, .ref p70), (1, .ref gA0), (2, .ref wA0), (3, .ref lA0), (4, .ref rA0), (5, .ref tA0), (6, .int (nI (plN sg n))), (7, .int (allF (wS sg n) 256))] → W p l e isoR s m args below meth c H locs cq sq Q (F0 m 304 ls [])
  | 0, _, _, _, _ => fun h => absurd h (Nat.not_lt_zero _)
  | fu + 1, i, H, locs, ls => by
    intro hfu hin hP hD hS hl
    have C0 := C
    have FF0 := F
    obtain ⟨hl0, hx, hb, hr9, hml, hown, hts, hlk, hK0, hNc, hAB, hA⟩ := C
    obtain ⟨CHH, hAG, htx, hl8⟩ := F
    have hV := CHH.1
    have hN := CHH.2.1
    have hL := CHH.2.2.1
    have hW := CHH.2.2.2.1
    have hR := CHH.2.2.2.2.1
    have h8 : n ≤ 8 := hN.2.1
    have hr4 : r ≤ 4 := hN.2.2.2
    have hp256 := plN_lt (s := sg) h8
    have S := my_fix hx hb hml hown hts
    have hT : ∀ j, j < 256 → f_L_at (tabF (wS sg n) 256) (nI j) = bI (wS sg n j) := fun j hj => at_tab _ hj
    refine lv_iload hx hb dL_isSo_304 (lv_at hl 0 rfl) ?_
    refine lv_aload_n hx hb dL_isSo_306 rfl (lv_at hl 13 rfl) ?_
    refine lv_iconst (v := 0) hx hb dL_isSo_307 (by decide) ?_
    refine wk_ia hx hb hK0.1 hP 28 0 (k := 0) (v := (nI n)) rfl rfl (by decide) (by decide) hAG.1 dL_isSo_308 ?_
    rcases Nat.lt_or_ge i n with hi | hi
    · refine lv_icmp_ge (tgt := 359) hx hb dL_isSo_309 (by decide) (fun h9 => absurd h9 (nI_ge hi (by omega))) (fun _ => ?_)
      by_cases hbb : sg (11 + i) = nI k
      · refine lv_iload hx hb dL_isSo_312 (lv_at hl 1 rfl) ?_
        refine lv_aload_n hx hb dL_isSo_314 rfl (lv_at hl 15 rfl) ?_
        refine lv_iload hx hb dL_isSo_315 (lv_at hl 0 rfl) ?_
        refine wk_ia hx hb hK0.1 hP 30 0 (k := i) (v := (sg (11 + i))) rfl rfl (by omega) (by decide) (hAG.2.2.2.2.1 i hi) dL_isSo_317 ?_
        refine lv_iload hx hb dL_isSo_318 (lv_at hl 11 rfl) ?_
        refine lv_icmp_ne (tgt := 330) hx hb dL_isSo_320 (by decide) (fun h9 => absurd hbb h9) (fun _ => ?_)
        refine lv_aload_n hx hb dL_isSo_323 rfl (lv_at hl 14 rfl) ?_
        refine lv_iload hx hb dL_isSo_324 (lv_at hl 0 rfl) ?_
        refine wk_ia hx hb hK0.1 hP 29 0 (k := i) (v := (nI (wN sg i))) rfl rfl (by omega) (by decide) ((hAG.2.2.2.1 i hi).trans (wN_eq hW hi).1) dL_isSo_326 ?_
        refine lv_goto (tgt := 331) hx hb dL_isSo_327 (by decide) ?_
        refine lv_iadd hx hb dL_isSo_331 ?_
        refine wk_ti (x := ((nI (hvN sg k i)) + (nI (wN sg i)))) (v := (nI (hvN sg k (i + 1)))) (by rw [hvN_s, if_pos (decide_eq_true hbb)]; exact nI_add _ _) ?_
        refine lv_istore (lv' := [(16, .int (nI (hvN sg k (i + 1)))), (19, .int (nI i)), (17, .int (nI (cN (fun a => decide (sg (11 + a) = nI k)) i))), (18, .int (bI (nd1 sg n k 0))), (8, .int (nI (wsN sg k))), (9, .int (nI (duN sg n k))), (10, .int (nI (neN sg n k))), (11, .int (orK sg n k)), (12, .int (nI (cN (wS sg n) 256))), (13, .int (nI (cN (leB (wS sg n)) 256))), (14, .int 1), (15, .int (nI k)), (0, .ref p70), (1, .ref gA0), (2, .ref wA0), (3, .ref lA0), (4, .ref rA0), (5, .ref tA0), (6, .int (nI (plN sg n))), (7, .int (allF (wS sg n) 256))]) hx hb dL_isSo_332 hl (by decide) rfl (fun ls hl => ?_)
        refine lv_iload hx hb dL_isSo_334 (lv_at hl 2 rfl) ?_
        refine lv_aload_n hx hb dL_isSo_336 rfl (lv_at hl 15 rfl) ?_
        refine lv_iload hx hb dL_isSo_337 (lv_at hl 1 rfl) ?_
        refine wk_ia hx hb hK0.1 hP 30 0 (k := i) (v := (sg (11 + i))) rfl rfl (by omega) (by decide) (hAG.2.2.2.2.1 i hi) dL_isSo_339 ?_
        refine lv_iload hx hb dL_isSo_340 (lv_at hl 11 rfl) ?_
        refine lv_icmp_ne (tgt := 349) hx hb dL_isSo_342 (by decide) (fun h9 => absurd hbb h9) (fun _ => ?_)
        refine lv_iconst (v := 1) hx hb dL_isSo_345 (by decide) ?_
        refine lv_goto (tgt := 350) hx hb dL_isSo_346 (by decide) ?_
        refine lv_iadd hx hb dL_isSo_350 ?_
        refine wk_ti (x := ((nI (cN (fun a => decide (sg (11 + a) = nI k)) i)) + 1)) (v := (nI (cN (fun a => decide (sg (11 + a) = nI k)) (i + 1)))) (by rw [cN_s, if_pos (decide_eq_true hbb)]; exact nI_1 _) ?_
        refine lv_istore (lv' := [(17, .int (nI (cN (fun a => decide (sg (11 + a) = nI k)) (i + 1)))), (16, .int (nI (hvN sg k (i + 1)))), (19, .int (nI i)), (18, .int (bI (nd1 sg n k 0))), (8, .int (nI (wsN sg k))), (9, .int (nI (duN sg n k))), (10, .int (nI (neN sg n k))), (11, .int (orK sg n k)), (12, .int (nI (cN (wS sg n) 256))), (13, .int (nI (cN (leB (wS sg n)) 256))), (14, .int 1), (15, .int (nI k)), (0, .ref p70), (1, .ref gA0), (2, .ref wA0), (3, .ref lA0), (4, .ref rA0), (5, .ref tA0), (6, .int (nI (plN sg n))), (7, .int (allF (wS sg n) 256))]) hx hb dL_isSo_351 hl (by decide) rfl (fun ls hl => ?_)
        refine lv_iinc (v := (nI (i + 1))) (lv' := [(19, .int (nI (i + 1))), (17, .int (nI (cN (fun a => decide (sg (11 + a) = nI k)) (i + 1)))), (16, .int (nI (hvN sg k (i + 1)))), (18, .int (bI (nd1 sg n k 0))), (8, .int (nI (wsN sg k))), (9, .int (nI (duN sg n k))), (10, .int (nI (neN sg n k))), (11, .int (orK sg n k)), (12, .int (nI (cN (wS sg n) 256))), (13, .int (nI (cN (leB (wS sg n)) 256))), (14, .int 1), (15, .int (nI k)), (0, .ref p70), (1, .ref gA0), (2, .ref wA0), (3, .ref lA0), (4, .ref rA0), (5, .ref tA0), (6, .int (nI (plN sg n))), (7, .int (allF (wS sg n) 256))]) hx hb dL_isSo_353 hl (k := 2) rfl (nI_1 i) (by decide) rfl (fun ls hl => ?_)
        refine lv_goto (tgt := 304) hx hb dL_isSo_356 (by decide) ?_
        exact so_heavy C0 FF0 hkn hcq hsq K fu (i + 1) H locs ls (by omega) (by omega) hP hD hS (lv_sub hl [0, 2, 1, 3, 4, 5, 6, 7, 8, 9, 10, 11, 12, 13, 14, 15, 16, 17, 18, 19] rfl)
      · refine lv_iload hx hb dL_isSo_312 (lv_at hl 1 rfl) ?_
        refine lv_aload_n hx hb dL_isSo_314 rfl (lv_at hl 15 rfl) ?_
        refine lv_iload hx hb dL_isSo_315 (lv_at hl 0 rfl) ?_
        refine wk_ia hx hb hK0.1 hP 30 0 (k := i) (v := (sg (11 + i))) rfl rfl (by omega) (by decide) (hAG.2.2.2.2.1 i hi) dL_isSo_317 ?_
        refine lv_iload hx hb dL_isSo_318 (lv_at hl 11 rfl) ?_
        refine lv_icmp_ne (tgt := 330) hx hb dL_isSo_320 (by decide) (fun _ => ?_) (fun h9 => absurd h9 hbb)
        refine lv_iconst (v := 0) hx hb dL_isSo_330 (by decide) ?_
        refine lv_iadd hx hb dL_isSo_331 ?_
        refine wk_ti (x := ((nI (hvN sg k i)) + 0)) (v := (nI (hvN sg k (i + 1)))) (by rw [hvN_s, if_neg (by rw [decide_eq_true_eq]; exact hbb)]; exact Int32.add_zero _) ?_
        refine lv_istore (lv' := [(16, .int (nI (hvN sg k (i + 1)))), (19, .int (nI i)), (17, .int (nI (cN (fun a => decide (sg (11 + a) = nI k)) i))), (18, .int (bI (nd1 sg n k 0))), (8, .int (nI (wsN sg k))), (9, .int (nI (duN sg n k))), (10, .int (nI (neN sg n k))), (11, .int (orK sg n k)), (12, .int (nI (cN (wS sg n) 256))), (13, .int (nI (cN (leB (wS sg n)) 256))), (14, .int 1), (15, .int (nI k)), (0, .ref p70), (1, .ref gA0), (2, .ref wA0), (3, .ref lA0), (4, .ref rA0), (5, .ref tA0), (6, .int (nI (plN sg n))), (7, .int (allF (wS sg n) 256))]) hx hb dL_isSo_332 hl (by decide) rfl (fun ls hl => ?_)
        refine lv_iload hx hb dL_isSo_334 (lv_at hl 2 rfl) ?_
        refine lv_aload_n hx hb dL_isSo_336 rfl (lv_at hl 15 rfl) ?_
        refine lv_iload hx hb dL_isSo_337 (lv_at hl 1 rfl) ?_
        refine wk_ia hx hb hK0.1 hP 30 0 (k := i) (v := (sg (11 + i))) rfl rfl (by omega) (by decide) (hAG.2.2.2.2.1 i hi) dL_isSo_339 ?_
        refine lv_iload hx hb dL_isSo_340 (lv_at hl 11 rfl) ?_
        refine lv_icmp_ne (tgt := 349) hx hb dL_isSo_342 (by decide) (fun _ => ?_) (fun h9 => absurd h9 hbb)
        refine lv_iconst (v := 0) hx hb dL_isSo_349 (by decide) ?_
        refine lv_iadd hx hb dL_isSo_350 ?_
        refine wk_ti (x := ((nI (cN (fun a => decide (sg (11 + a) = nI k)) i)) + 0)) (v := (nI (cN (fun a => decide (sg (11 + a) = nI k)) (i + 1)))) (by rw [cN_s, if_neg (by rw [decide_eq_true_eq]; exact hbb)]; exact Int32.add_zero _) ?_
        refine lv_istore (lv' := [(17, .int (nI (cN (fun a => decide (sg (11 + a) = nI k)) (i + 1)))), (16, .int (nI (hvN sg k (i + 1)))), (19, .int (nI i)), (18, .int (bI (nd1 sg n k 0))), (8, .int (nI (wsN sg k))), (9, .int (nI (duN sg n k))), (10, .int (nI (neN sg n k))), (11, .int (orK sg n k)), (12, .int (nI (cN (wS sg n) 256))), (13, .int (nI (cN (leB (wS sg n)) 256))), (14, .int 1), (15, .int (nI k)), (0, .ref p70), (1, .ref gA0), (2, .ref wA0), (3, .ref lA0), (4, .ref rA0), (5, .ref tA0), (6, .int (nI (plN sg n))), (7, .int (allF (wS sg n) 256))]) hx hb dL_isSo_351 hl (by decide) rfl (fun ls hl => ?_)
        refine lv_iinc (v := (nI (i + 1))) (lv' := [(19, .int (nI (i + 1))), (17, .int (nI (cN (fun a => decide (sg (11 + a) = nI k)) (i + 1)))), (16, .int (nI (hvN sg k (i + 1)))), (18, .int (bI (nd1 sg n k 0))), (8, .int (nI (wsN sg k))), (9, .int (nI (duN sg n k))), (10, .int (nI (neN sg n k))), (11, .int (orK sg n k)), (12, .int (nI (cN (wS sg n) 256))), (13, .int (nI (cN (leB (wS sg n)) 256))), (14, .int 1), (15, .int (nI k)), (0, .ref p70), (1, .ref gA0), (2, .ref wA0), (3, .ref lA0), (4, .ref rA0), (5, .ref tA0), (6, .int (nI (plN sg n))), (7, .int (allF (wS sg n) 256))]) hx hb dL_isSo_353 hl (k := 2) rfl (nI_1 i) (by decide) rfl (fun ls hl => ?_)
        refine lv_goto (tgt := 304) hx hb dL_isSo_356 (by decide) ?_
        exact so_heavy C0 FF0 hkn hcq hsq K fu (i + 1) H locs ls (by omega) (by omega) hP hD hS (lv_sub hl [0, 2, 1, 3, 4, 5, 6, 7, 8, 9, 10, 11, 12, 13, 14, 15, 16, 17, 18, 19] rfl)
    · have e : i = n := by omega
      subst e
      refine lv_icmp_ge (tgt := 359) hx hb dL_isSo_309 (by decide) (fun _ => ?_) (fun h9 => absurd (nI_le (Nat.le_refl _) (by omega)) h9)
      exact K H locs ls hP hD hS (lv_sub hl [0, 1, 2, 3, 4, 5, 6, 7, 8, 9, 10, 11, 12, 13, 14, 15, 16, 17, 18, 19] rfl)
set_option maxHeartbeats 4000000 in
set_option maxRecDepth 100000 in
theorem so_need (C : soC p l s m meth c args D cy g B A) (F : soF v tx ga wa la ra sg n r) {st : Int32} {w : PowV} {cq sq : Nat} {k : Nat} (hkn : k < n) (hcq : cq ≤ 790) (hsq : sq ≤ 4890) (K : ∀ (H : Heap) (locs : List Loc) (ls : Array Slot), va_P D vwCl (List.flatten [(wPCo p70 b7 c7 d7 e7 h7 k7 st), (wSet cy b7 v), (wPow cy c7 w), (wTxt cy g k7 tx), (wI cy gA0 3 ga), (wI cy wA0 8 wa), (wI cy lA0 8 la), (wI cy rA0 4 ra), (wL cy tA0 4 (tabF (wS sg n) 256))]) H → va_D A (List.flatten [(wPCo p70 b7 c7 d7 e7 h7 k7 st), (wSet cy b7 v), (wPow cy c7 w), (wTxt cy g k7 tx), (wI cy gA0 3 ga), (wI cy wA0 8 wa), (wI cy lA0 8 la), (wI cy rA0 4 ra), (wL cy tA0 4 (tabF (wS sg n) 256))]) → va_S A s.heap H locs → lv_has ls 24 [(19, .int (nI 256)), (18, .int (bI (nd1 sg n k 256))), (16, .int (nI (hvN sg k n))), (17, .int (nI (cN (fun a => decide (sg (11 + a) = nI k)) n))), (8, .int (nI (wsN sg k))), (9, .int (nI (duN sg n k))), (10, .int (nI (neN sg n k))), (11, .int (orK sg n k)), (12, .int (nI (cN (wS sg n) 256))), (13, .int (nI (cN (leB (wS sg n)) 256))), (14, .int 1), (15, .int (nI k)), (0, .ref p70), (1, .ref gA0), (2, .ref wA0), (3, .ref lA0), (4, .ref rA0), (5, .ref tA0), (6, .int (nI (plN sg n))), (7, .int (allF (wS sg n) 256))] → W p l e isoR s m args below meth c H locs cq sq Q (F0 m 409 ls [])) : ∀ (fu j : Nat) (H : Heap) (locs : List Loc) (ls : Array Slot), 256 - j < fu → j ≤ 256 → va_P D vwCl (List.flatten [(wPCo p70 b7 c7 d7 e7 h7 k7 st), (wSet cy b7 v), (wPow cy c7 w), (wTxt cy g k7 tx), (wI cy gA0 3 ga), (wI cy wA0 8 wa), (wI cy lA0 8 la), (wI cy rA0 4 ra), (wL cy tA0 4 (tabF (wS sg n) 256))]) H → va_D A (List.flatten [(wPCo p70 b7 c7 d7 e7 h7 k7 st), (wSet cy b7 v), (wPow cy c7 w), (wTxt cy g k7 tx), (wI cy gA0 3 ga), (wI cy wA0 8 wa), (wI cy lA0 8 la), (wI cy rA0 4 ra), (wL cy tA0 4 (tabF (wS sg n) 256))]) → va_S A s.heap H locs → lv_has ls 24 [(19, .int (nI j)), (18, .int (bI (nd1 sg n k j))), (16, .int (nI (hvN sg k n))), (17, .int (nI (cN (fun a => decide (sg (11 + a) = nI k)) n))), (8, .int (nI (wsN sg k))), (9, .int (nI (duN sg n k))), (10, .int (nI (neN sg n k))), (11, .int (orK sg n k)), (12, .int (nI (cN (wS sg n) 256))), (13, .int (nI (cN (leB (wS sg n)) 256))), (14, .int 1), (15, .int (nI k)), (0, .ref p70), (1, .ref gA0), (2, .ref wA0), (3, .ref lA0), (4, .ref rA0), (5, .ref tA0), (6, .int (nI (plN sg n))), (7, .int (allF (wS sg n) 256))] → W p l e isoR s m args below meth c H locs cq sq Q (F0 m 362 ls [])
  | 0, _, _, _, _ => fun h => absurd h (Nat.not_lt_zero _)
  | fu + 1, j, H, locs, ls => by
    intro hfu hj256 hP hD hS hl
    have C0 := C
    have FF0 := F
    obtain ⟨hl0, hx, hb, hr9, hml, hown, hts, hlk, hK0, hNc, hAB, hA⟩ := C
    obtain ⟨CHH, hAG, htx, hl8⟩ := F
    have hV := CHH.1
    have hN := CHH.2.1
    have hL := CHH.2.2.1
    have hW := CHH.2.2.2.1
    have hR := CHH.2.2.2.2.1
    have h8 : n ≤ 8 := hN.2.1
    have hr4 : r ≤ 4 := hN.2.2.2
    have hp256 := plN_lt (s := sg) h8
    have S := my_fix hx hb hml hown hts
    have hT : ∀ j, j < 256 → f_L_at (tabF (wS sg n) 256) (nI j) = bI (wS sg n j) := fun j hj => at_tab _ hj
    refine lv_iload hx hb dL_isSo_362 (lv_at hl 0 rfl) ?_
    refine lv_sipush (v := 256) hx hb dL_isSo_364 (by decide) ?_
    rcases Nat.lt_or_ge j 256 with hj | hj
    · refine lv_icmp_ge (tgt := 409) hx hb dL_isSo_367 (by decide) (fun h9 => absurd h9 (n256 hj)) (fun _ => ?_)
      refine lv_iload hx hb dL_isSo_370 (lv_at hl 1 rfl) ?_
      cases hbb : nd1 sg n k j
      · refine lv_if_eq (tgt := 400) hx hb dL_isSo_372 (by decide) (fun _ => ?_) (fun h9 => absurd (show bI false = 0 from rfl) h9)
        refine lv_iconst (v := 0) hx hb dL_isSo_400 (by decide) ?_
        refine lv_istore (lv' := [(18, .int 0), (19, .int (nI j)), (16, .int (nI (hvN sg k n))), (17, .int (nI (cN (fun a => decide (sg (11 + a) = nI k)) n))), (8, .int (nI (wsN sg k))), (9, .int (nI (duN sg n k))), (10, .int (nI (neN sg n k))), (11, .int (orK sg n k)), (12, .int (nI (cN (wS sg n) 256))), (13, .int (nI (cN (leB (wS sg n)) 256))), (14, .int 1), (15, .int (nI k)), (0, .ref p70), (1, .ref gA0), (2, .ref wA0), (3, .ref lA0), (4, .ref rA0), (5, .ref tA0), (6, .int (nI (plN sg n))), (7, .int (allF (wS sg n) 256))]) hx hb dL_isSo_401 hl (by decide) rfl (fun ls hl => ?_)
        refine lv_iinc (v := (nI (j + 1))) (lv' := [(19, .int (nI (j + 1))), (18, .int 0), (16, .int (nI (hvN sg k n))), (17, .int (nI (cN (fun a => decide (sg (11 + a) = nI k)) n))), (8, .int (nI (wsN sg k))), (9, .int (nI (duN sg n k))), (10, .int (nI (neN sg n k))), (11, .int (orK sg n k)), (12, .int (nI (cN (wS sg n) 256))), (13, .int (nI (cN (leB (wS sg n)) 256))), (14, .int 1), (15, .int (nI k)), (0, .ref p70), (1, .ref gA0), (2, .ref wA0), (3, .ref lA0), (4, .ref rA0), (5, .ref tA0), (6, .int (nI (plN sg n))), (7, .int (allF (wS sg n) 256))]) hx hb dL_isSo_403 hl (k := 1) rfl (nI_1 j) (by decide) rfl (fun ls hl => ?_)
        refine lv_goto (tgt := 362) hx hb dL_isSo_406 (by decide) ?_
        have e9 : bI (nd1 sg n k (j + 1)) = 0 := by rw [nd1_s]; rw [hbb]; rfl
        refine so_need C0 FF0 hkn hcq hsq K fu (j + 1) H locs ls (by omega) (by omega) hP hD hS ?_
        rw [e9]; exact lv_sub hl [0, 1, 2, 3, 4, 5, 6, 7, 8, 9, 10, 11, 12, 13, 14, 15, 16, 17, 18, 19] rfl
      · refine lv_if_eq (tgt := 400) hx hb dL_isSo_372 (by decide) (fun h9 => absurd h9 (show ¬ bI true = 0 by decide)) (fun _ => ?_)
        refine lv_aload hx hb dL_isSo_375 (lv_at hl 17 rfl) ?_
        refine lv_iload hx hb dL_isSo_377 (lv_at hl 0 rfl) ?_
        refine rd_goi (va_runS (As := [.ref tA0, .int (nI j)]) (rest := []) S (c_L_at l D cy g B tA0 (tabF (wS sg n) 256) _ (nI_pos (show j < 2 ^ 31 by omega)) (n256 hj)) (va_cwS 2 hts gL_isSo_L_at rfl rfl rfl hd_L_at_S ⟨Nat.le_of_ble_eq_true rfl, Nat.le_of_ble_eq_true rfl⟩) ⟨rdP_blind, my_preV hK0 hS hAB hP [32] rfl⟩ rfl rfl hl.1 rfl (lv_room (Nat.le_of_ble_eq_true rfl)) dL_isSo_379 ⟨(show cq + 0 ≤ 800 by omega), (show sq + 0 ≤ 4900 by omega)⟩) ?_
        refine wk_ti (v := (bI (wS sg n j))) (hT _ hj) ?_
        cases hc : wS sg n j
        · refine lv_if_eq (tgt := 396) hx hb dL_isSo_382 (by decide) (fun _ => ?_) (fun h9 => absurd (show bI false = 0 from rfl) h9)
          refine lv_iconst (v := 1) hx hb dL_isSo_396 (by decide) ?_
          refine lv_goto (tgt := 401) hx hb dL_isSo_397 (by decide) ?_
          refine lv_istore (lv' := [(18, .int 1), (19, .int (nI j)), (16, .int (nI (hvN sg k n))), (17, .int (nI (cN (fun a => decide (sg (11 + a) = nI k)) n))), (8, .int (nI (wsN sg k))), (9, .int (nI (duN sg n k))), (10, .int (nI (neN sg n k))), (11, .int (orK sg n k)), (12, .int (nI (cN (wS sg n) 256))), (13, .int (nI (cN (leB (wS sg n)) 256))), (14, .int 1), (15, .int (nI k)), (0, .ref p70), (1, .ref gA0), (2, .ref wA0), (3, .ref lA0), (4, .ref rA0), (5, .ref tA0), (6, .int (nI (plN sg n))), (7, .int (allF (wS sg n) 256))]) hx hb dL_isSo_401 hl (by decide) rfl (fun ls hl => ?_)
          refine lv_iinc (v := (nI (j + 1))) (lv' := [(19, .int (nI (j + 1))), (18, .int 1), (16, .int (nI (hvN sg k n))), (17, .int (nI (cN (fun a => decide (sg (11 + a) = nI k)) n))), (8, .int (nI (wsN sg k))), (9, .int (nI (duN sg n k))), (10, .int (nI (neN sg n k))), (11, .int (orK sg n k)), (12, .int (nI (cN (wS sg n) 256))), (13, .int (nI (cN (leB (wS sg n)) 256))), (14, .int 1), (15, .int (nI k)), (0, .ref p70), (1, .ref gA0), (2, .ref wA0), (3, .ref lA0), (4, .ref rA0), (5, .ref tA0), (6, .int (nI (plN sg n))), (7, .int (allF (wS sg n) 256))]) hx hb dL_isSo_403 hl (k := 1) rfl (nI_1 j) (by decide) rfl (fun ls hl => ?_)
          refine lv_goto (tgt := 362) hx hb dL_isSo_406 (by decide) ?_
          have e9 : bI (nd1 sg n k (j + 1)) = 1 := by rw [nd1_s]; rw [hbb, hc]; rfl
          refine so_need C0 FF0 hkn hcq hsq K fu (j + 1) H locs ls (by omega) (by omega) hP hD hS ?_
          rw [e9]; exact lv_sub hl [0, 1, 2, 3, 4, 5, 6, 7, 8, 9, 10, 11, 12, 13, 14, 15, 16, 17, 18, 19] rfl
        · refine lv_if_eq (tgt := 396) hx hb dL_isSo_382 (by decide) (fun h9 => absurd h9 (show ¬ bI true = 0 by decide)) (fun _ => ?_)
          refine lv_iload hx hb dL_isSo_385 (lv_at hl 0 rfl) ?_
          refine lv_iload hx hb dL_isSo_387 (lv_at hl 11 rfl) ?_
          refine lv_ishr hx hb dL_isSo_389 ?_
          refine lv_iconst (v := 1) hx hb dL_isSo_390 (by decide) ?_
          refine lv_iand hx hb dL_isSo_391 ?_
          refine wk_ti (x := (((nI j) >>> ((nI k) &&& 31)) &&& 1)) (v := (bI (j.testBit k))) (bit_val (show k < 8 by omega) hj) ?_
          refine lv_iconst (v := 1) hx hb dL_isSo_392 (by decide) ?_
          cases hd : j.testBit k
          · refine lv_icmp_ne (tgt := 400) hx hb dL_isSo_393 (by decide) (fun _ => ?_) (fun h9 => absurd h9 (show ¬ bI false = 1 by decide))
            refine lv_iconst (v := 0) hx hb dL_isSo_400 (by decide) ?_
            refine lv_istore (lv' := [(18, .int 0), (19, .int (nI j)), (16, .int (nI (hvN sg k n))), (17, .int (nI (cN (fun a => decide (sg (11 + a) = nI k)) n))), (8, .int (nI (wsN sg k))), (9, .int (nI (duN sg n k))), (10, .int (nI (neN sg n k))), (11, .int (orK sg n k)), (12, .int (nI (cN (wS sg n) 256))), (13, .int (nI (cN (leB (wS sg n)) 256))), (14, .int 1), (15, .int (nI k)), (0, .ref p70), (1, .ref gA0), (2, .ref wA0), (3, .ref lA0), (4, .ref rA0), (5, .ref tA0), (6, .int (nI (plN sg n))), (7, .int (allF (wS sg n) 256))]) hx hb dL_isSo_401 hl (by decide) rfl (fun ls hl => ?_)
            refine lv_iinc (v := (nI (j + 1))) (lv' := [(19, .int (nI (j + 1))), (18, .int 0), (16, .int (nI (hvN sg k n))), (17, .int (nI (cN (fun a => decide (sg (11 + a) = nI k)) n))), (8, .int (nI (wsN sg k))), (9, .int (nI (duN sg n k))), (10, .int (nI (neN sg n k))), (11, .int (orK sg n k)), (12, .int (nI (cN (wS sg n) 256))), (13, .int (nI (cN (leB (wS sg n)) 256))), (14, .int 1), (15, .int (nI k)), (0, .ref p70), (1, .ref gA0), (2, .ref wA0), (3, .ref lA0), (4, .ref rA0), (5, .ref tA0), (6, .int (nI (plN sg n))), (7, .int (allF (wS sg n) 256))]) hx hb dL_isSo_403 hl (k := 1) rfl (nI_1 j) (by decide) rfl (fun ls hl => ?_)
            refine lv_goto (tgt := 362) hx hb dL_isSo_406 (by decide) ?_
            have e9 : bI (nd1 sg n k (j + 1)) = 0 := by rw [nd1_s]; rw [hbb, hc, hd]; rfl
            refine so_need C0 FF0 hkn hcq hsq K fu (j + 1) H locs ls (by omega) (by omega) hP hD hS ?_
            rw [e9]; exact lv_sub hl [0, 1, 2, 3, 4, 5, 6, 7, 8, 9, 10, 11, 12, 13, 14, 15, 16, 17, 18, 19] rfl
          · refine lv_icmp_ne (tgt := 400) hx hb dL_isSo_393 (by decide) (fun h9 => absurd (show bI true = 1 from rfl) h9) (fun _ => ?_)
            refine lv_iconst (v := 1) hx hb dL_isSo_396 (by decide) ?_
            refine lv_goto (tgt := 401) hx hb dL_isSo_397 (by decide) ?_
            refine lv_istore (lv' := [(18, .int 1), (19, .int (nI j)), (16, .int (nI (hvN sg k n))), (17, .int (nI (cN (fun a => decide (sg (11 + a) = nI k)) n))), (8, .int (nI (wsN sg k))), (9, .int (nI (duN sg n k))), (10, .int (nI (neN sg n k))), (11, .int (orK sg n k)), (12, .int (nI (cN (wS sg n) 256))), (13, .int (nI (cN (leB (wS sg n)) 256))), (14, .int 1), (15, .int (nI k)), (0, .ref p70), (1, .ref gA0), (2, .ref wA0), (3, .ref lA0), (4, .ref rA0), (5, .ref tA0), (6, .int (nI (plN sg n))), (7, .int (allF (wS sg n) 256))]) hx hb dL_isSo_401 hl (by decide) rfl (fun ls hl => ?_)
            refine lv_iinc (v := (nI (j + 1))) (lv' := [(19, .int (nI (j + 1))), (18, .int 1), (16, .int (nI (hvN sg k n))), (17, .int (nI (cN (fun a => decide (sg (11 + a) = nI k)) n))), (8, .int (nI (wsN sg k))), (9, .int (nI (duN sg n k))), (10, .int (nI (neN sg n k))), (11, .int (orK sg n k)), (12, .int (nI (cN (wS sg n) 256))), (13, .int (nI (cN (leB (wS sg n)) 256))), (14, .int 1), (15, .int (nI k)), (0, .ref p70), (1, .ref gA0), (2, .ref wA0), (3, .ref lA0), (4, .ref rA0), (5, .ref tA0), (6, .int (nI (plN sg n))), (7, .int (allF (wS sg n) 256))]) hx hb dL_isSo_403 hl (k := 1) rfl (nI_1 j) (by decide) rfl (fun ls hl => ?_)
            refine lv_goto (tgt := 362) hx hb dL_isSo_406 (by decide) ?_
            have e9 : bI (nd1 sg n k (j + 1)) = 1 := by rw [nd1_s]; rw [hbb, hc, hd]; rfl
            refine so_need C0 FF0 hkn hcq hsq K fu (j + 1) H locs ls (by omega) (by omega) hP hD hS ?_
            rw [e9]; exact lv_sub hl [0, 1, 2, 3, 4, 5, 6, 7, 8, 9, 10, 11, 12, 13, 14, 15, 16, 17, 18, 19] rfl
    · have e : j = 256 := by omega
      subst e
      refine lv_icmp_ge (tgt := 409) hx hb dL_isSo_367 (by decide) (fun _ => ?_) (fun h9 => absurd y256 h9)
      exact K H locs ls hP hD hS (lv_sub hl [0, 1, 2, 3, 4, 5, 6, 7, 8, 9, 10, 11, 12, 13, 14, 15, 16, 17, 18, 19] rfl)
end ISO
